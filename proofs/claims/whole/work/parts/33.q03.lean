def r_readMonths_88 (n : Nat) (R : Nat → Int32) (mo : Option vArr) (F : Nat → Int32) (tp : Nat → Int32) (ar : Nat → Int32) (x2 : Int32) (N1 : Nat) : Option ((Nat → Int32) × (Option vArr) × (Nat → Int32)) := (k_firstOf n (N1, ar) x2).bind (fun v2 => zOm ((some v2)) (none) (fun z7 => (n_sees 4 (fun j => L_leap.getD j 0) n F tp).bind (fun v11 => (if v11 = true then (n_advance n F tp).bind (fun v12 => zOm ((some v2)) (none) (fun z14 => (n_takeNumber n v12 tp 0 ((nI z14.1) - 1)).bind (fun v16 => some ((upd (upd R 6 ((nI z7.1) - 1)) 6 v16.1), (some v2), v16.2)))) else some ((upd R 6 ((nI z7.1) - 1)), (some v2), F)))))
set_option maxHeartbeats 4000000 in
set_option maxRecDepth 100000 in
theorem cr_readMonths_88 (s0 : State) (D : va_G) (X : Nat → Prop) (cB cI cJ cD : ClassId) (rA sA tA : Nat) (R : Nat → Int32) (lv : vLaw) (mo : Option vArr) (ty : vTrue) (F : Nat → Int32) (tp : Nat → Int32) (ar : Nat → Int32) (n : Nat) (x2 : Int32) (N1 : Nat) (a1 : Nat) {x : (Nat → Int32) × (Option vArr) × (Nat → Int32)} {hi0 hi hm0 hm : zHp} {nx : Nat} {Q : Option Value → zHp → zHp → Nat → Prop} (hW : qA X cB cI rA sA tA R lv mo ty F tp N1 a1 ar hi hm) (hXX : zX hi0 hi) (hFr : lFr X hm0 hm) (h : r_readMonths_88 n R mo F tp ar x2 N1 = some x) (hQ : ∀ r : (Nat → Int32) × (Option vArr) × (Nat → Int32), x = r → ∀ (hi' hm' : zHp) (nx' : Nat), zX hi0 hi' → qW X cB cI rA sA tA r.1 lv r.2.1 ty r.2.2 tp hi' hm' → lFr X hm0 hm' → Q none hi' hm' nx') : zV s0 D (zty cB cI cJ cD) yX7_readMonths cX7_readMonths 5 none 5 109 1 15 88 [(0, .ref rA), (1, .ref a1), (2, .int x2)] [] hi hm nx Q := by
  unfold r_readMonths_88 at h
  refine qa_fr hW (fun hi2 hm2 hX hW2 hFr2 ho1 => ?_)
  clear hW; have hW := hW2; clear hW2
  replace hXX := hXX.tr hX; clear hX
  replace hFr := hFr.tr hFr2; clear hFr2
  refine zV_blk (pc' := 91) (lo' := [(0, .ref rA), (1, .ref a1), (2, .int x2)]) (st' := [.int x2, .ref a1, .ref rA]) [.aload_n 0, .aload_n 1, .iload_n 2] (by decide +kernel) rfl ?_
  obtain ⟨v2, hv2, h⟩ := zbind h
  refine zV_alS (mc := 0) (ms := 0) (fun hi' v' => ∃ a' : Nat, v' = some (.ref a') ∧ iArr cI hi' a' v2) (idx := 176) (rest := [.ref rA]) (fun Q2 hQ2 => ck_firstOf s0 D cB cI cJ cD n (N1, ar) x2 a1 v2 hv2 ho1 (fun a' hi' nx' hX hr => hQ2 _ _ _ hX ⟨a', rfl, hr⟩)) oX7_firstOf (zT_mem 463 (by decide +kernel) rfl) (zT_mem 464 (by decide +kernel) rfl) rfl rfl (Nat.le_of_ble_eq_true rfl) ⟨by decide, by decide⟩ (by decide +kernel) ?_
  rintro _ hi2 nx5 hX ⟨b3, rfl, ho4⟩
  replace ho1 := ho1.mono hX
  replace hW := hW.mono hX
  replace hXX := hXX.tr hX; clear hX
  refine zV_eq (st2 := [.ref b3, .ref rA]) rfl rfl rfl rfl ?_
  refine q_putM (idx := 28) (z := v2) hW ho4 (zT_mem 302 (by decide +kernel) rfl) (by decide +kernel) (fun hm hW hFr2 => ?_)
  replace hFr := hFr.tr hFr2; clear hFr2
  refine zV_blk (pc' := 99) (lo' := [(0, .ref rA), (1, .ref a1), (2, .int x2)]) (st' := [.ref rA, .ref rA]) [.aload_n 0, .aload_n 0] (by decide +kernel) rfl ?_
  refine q_getM (idx := 28) hW (zT_mem 302 (by decide +kernel) rfl) (by decide +kernel) (fun hx => ?_) (fun b6 z7 hx ho8 => ?_)
  · replace h := zOm_n hx h
    cases h
  · replace h := zOm_s hx h
    refine zV_alen 1 (Or.inl ho8) rfl (by decide +kernel) ?_
    refine zV_blk (pc' := 105) (lo' := [(0, .ref rA), (1, .ref a1), (2, .int x2)]) (st' := [.int ((nI z7.1) - 1), .ref rA]) [.iconst 1, .isub] (by decide +kernel) rfl ?_
    refine q_putI (idx := 32) (k := 6) (x := ((nI z7.1) - 1)) hW (by decide) (zT_mem 303 (by decide +kernel) rfl) (by decide +kernel) (fun hm hW hFr2 => ?_)
    replace hFr := hFr.tr hFr2; clear hFr2
    refine zV_blk (pc' := 109) (lo' := [(0, .ref rA), (1, .ref a1), (2, .int x2)]) (st' := [.ref rA]) [.aload_n 0] (by decide +kernel) rfl ?_
    refine q_get (idx := 56) (k := 0) (v := .ref sA) hW (by decide) (zT_mem 297 (by decide +kernel) rfl) (fun _ _ _ => rfl) (by decide +kernel) ?_
    refine zl_RX7_191 rfl (by decide +kernel) (fun b9 hw10 => ?_)
    obtain ⟨v11, hv11, h⟩ := zbind h
    refine q_cR (idx := 140) (rest := []) hW (cn_sees b9 4 (fun j => L_leap.getD j 0) hw10 D cB cI cJ cD sA tA 0 0 F (fun _ => 0) tp (fun _ => 0) (fun _ => 0) n v11 hv11) oX9_sees rfl (zT_mem 354 (by decide +kernel) rfl) (zT_mem 355 (by decide +kernel) rfl) (zT_mem 356 (by decide +kernel) rfl) rfl rfl (Nat.le_of_ble_eq_true rfl) ⟨by decide, by decide⟩ (by decide +kernel) ?_
    refine zV_eq (st2 := [.int (zb v11)]) rfl rfl rfl rfl ?_
    refine zV_bif_eq (tgt := 146) (off := 29) (by decide +kernel) (by decide) (fun q => ?_) (fun q => ?_)
    · replace h := zif_neg q h
      clear q
      obtain rfl := Option.some.inj h
      exact zV_vret rfl (by decide +kernel) (hQ _ rfl _ _ _ hXX hW hFr)
    · replace h := zif_pos q h
      clear q
      refine zV_blk (pc' := 121) (lo' := [(0, .ref rA), (1, .ref a1), (2, .int x2)]) (st' := [.ref rA]) [.aload_n 0] (by decide +kernel) rfl ?_
      refine q_get (idx := 56) (k := 0) (v := .ref sA) hW (by decide) (zT_mem 297 (by decide +kernel) rfl) (fun _ _ _ => rfl) (by decide +kernel) ?_
      obtain ⟨v12, hv12, h⟩ := zbind h
      refine q_cC (idx := 60) (rest := []) hW (cn_advance s0 D cB cI cJ cD sA tA 0 0 F (fun _ => 0) tp (fun _ => 0) (fun _ => 0) n  v12 hv12) oX9_advance rfl (zT_mem 338 (by decide +kernel) rfl) (zT_mem 339 (by decide +kernel) rfl) (zT_mem 340 (by decide +kernel) rfl) rfl rfl (Nat.le_of_ble_eq_true rfl) ⟨by decide, by decide⟩ (by decide +kernel) (fun hm hW hFr2 => ?_)
      replace hFr := hFr.tr hFr2; clear hFr2
      refine zV_eq (st2 := []) rfl rfl rfl rfl ?_
      refine zV_blk (pc' := 129) (lo' := [(0, .ref rA), (1, .ref a1), (2, .int x2)]) (st' := [.ref rA, .ref rA]) [.aload_n 0, .aload_n 0] (by decide +kernel) rfl ?_
      refine q_get (idx := 56) (k := 0) (v := .ref sA) hW (by decide) (zT_mem 297 (by decide +kernel) rfl) (fun _ _ _ => rfl) (by decide +kernel) ?_
      refine zV_blk (pc' := 134) (lo' := [(0, .ref rA), (1, .ref a1), (2, .int x2)]) (st' := [.ref rA, .int 0, .ref sA, .ref rA]) [.iconst 0, .aload_n 0] (by decide +kernel) rfl ?_
      refine q_getM (idx := 28) hW (zT_mem 302 (by decide +kernel) rfl) (by decide +kernel) (fun hx => ?_) (fun b13 z14 hx ho15 => ?_)
      · replace h := zOm_n hx h
        cases h
      · replace h := zOm_s hx h
        refine zV_alen 1 (Or.inl ho15) rfl (by decide +kernel) ?_
        refine zV_blk (pc' := 140) (lo' := [(0, .ref rA), (1, .ref a1), (2, .int x2)]) (st' := [.int ((nI z14.1) - 1), .int 0, .ref sA, .ref rA]) [.iconst 1, .isub] (by decide +kernel) rfl ?_
        obtain ⟨v16, hv16, h⟩ := zbind h
        refine q_cC (idx := 100) (rest := [.ref rA]) hW (cn_takeNumber s0 D cB cI cJ cD sA tA 0 0 v12 (fun _ => 0) tp (fun _ => 0) (fun _ => 0) n 0 ((nI z14.1) - 1) v16 hv16) oX9_takeNumber rfl (zT_mem 409 (by decide +kernel) rfl) (zT_mem 410 (by decide +kernel) rfl) (zT_mem 411 (by decide +kernel) rfl) rfl rfl (Nat.le_of_ble_eq_true rfl) ⟨by decide, by decide⟩ (by decide +kernel) (fun hm hW hFr2 => ?_)
        replace hFr := hFr.tr hFr2; clear hFr2
        refine zV_eq (st2 := [.int v16.1, .ref rA]) rfl rfl rfl rfl ?_
        refine q_putI (idx := 32) (k := 6) (x := v16.1) hW (by decide) (zT_mem 303 (by decide +kernel) rfl) (by decide +kernel) (fun hm hW hFr2 => ?_)
        replace hFr := hFr.tr hFr2; clear hFr2
        obtain rfl := Option.some.inj h
        exact zV_vret rfl (by decide +kernel) (hQ _ rfl _ _ _ hXX hW hFr)
def r_readMonths_82 (n : Nat) (R : Nat → Int32) (mo : Option vArr) (F : Nat → Int32) (tp : Nat → Int32) (ar : Nat → Int32) (x2 : Int32) (N1 : Nat) : Option ((Int32 × (Nat → Int32) × (Nat → Int32)) ⊕ ((Nat → Int32) × (Option vArr) × (Nat → Int32))) := some (.inl ((x2 + 1), F, ar))
set_option maxHeartbeats 4000000 in
set_option maxRecDepth 100000 in
theorem cr_readMonths_82 (s0 : State) (D : va_G) (X : Nat → Prop) (cB cI cJ cD : ClassId) (rA sA tA : Nat) (R : Nat → Int32) (lv : vLaw) (mo : Option vArr) (ty : vTrue) (F : Nat → Int32) (tp : Nat → Int32) (ar : Nat → Int32) (n : Nat) (x2 : Int32) (N1 : Nat) (a1 : Nat) {x : (Int32 × (Nat → Int32) × (Nat → Int32)) ⊕ ((Nat → Int32) × (Option vArr) × (Nat → Int32))} {hi0 hi hm0 hm : zHp} {nx : Nat} {Q : Option Value → zHp → zHp → Nat → Prop} (hW : qA X cB cI rA sA tA R lv mo ty F tp N1 a1 ar hi hm) (hXX : zX hi0 hi) (hFr : lFr X hm0 hm) (h : r_readMonths_82 n R mo F tp ar x2 N1 = some x) (hL21 : ∀ s : Int32 × (Nat → Int32) × (Nat → Int32), x = (.inl s) → ∀ (hi' hm' : zHp) (nx' : Nat), zX hi0 hi' → qA X cB cI rA sA tA R lv mo ty s.2.1 tp N1 a1 s.2.2 hi' hm' → lFr X hm0 hm' → zV s0 D (zty cB cI cJ cD) yX7_readMonths cX7_readMonths 5 none 5 109 1 15 21 [(0, .ref rA), (1, .ref a1), (2, .int s.1)] [] hi' hm' nx' Q) (hQ : ∀ r : (Nat → Int32) × (Option vArr) × (Nat → Int32), x = (.inr r) → ∀ (hi' hm' : zHp) (nx' : Nat), zX hi0 hi' → qW X cB cI rA sA tA r.1 lv r.2.1 ty r.2.2 tp hi' hm' → lFr X hm0 hm' → Q none hi' hm' nx') : zV s0 D (zty cB cI cJ cD) yX7_readMonths cX7_readMonths 5 none 5 109 1 15 82 [(0, .ref rA), (1, .ref a1), (2, .int x2)] [] hi hm nx Q := by
  unfold r_readMonths_82 at h
  refine zV_blk (pc' := 85) (lo' := [(2, .int (x2 + 1)), (0, .ref rA), (1, .ref a1)]) (st' := []) [.iinc 2 1] (by decide +kernel) rfl ?_
  refine zV_goto (tgt := 21) (off := -64) (by decide +kernel) (by decide) ?_
  obtain rfl := Option.some.inj h
  refine zV_pick (lo2 := [(0, .ref rA), (1, .ref a1), (2, .int (x2 + 1))]) [1, 2, 0] rfl ?_
  exact hL21 _ rfl _ _ _ hXX hW hFr
def r_readMonths_21 (n : Nat) (R : Nat → Int32) (mo : Option vArr) (tp : Nat → Int32) (N1 : Nat) (s : Int32 × (Nat → Int32) × (Nat → Int32)) : Option ((Int32 × (Nat → Int32) × (Nat → Int32)) ⊕ ((Nat → Int32) × (Option vArr) × (Nat → Int32))) := (if (15 : Int32) < (s.1 : Int32) then ((r_readMonths_88 n R mo s.2.1 tp s.2.2 s.1 N1 ).map (fun z => .inr z)) else (if ((s.2.1 1) : Int32) = (3 : Int32) then (n_takeNumber n s.2.1 tp 1 999).bind (fun v3 => (if (15 : Int32) ≤ (s.1 : Int32) then (n_fail v3.2 4 (s.2.1 2)).bind (fun v4 => (r_readMonths_82 n R mo v4 tp s.2.2 s.1 N1 )) else zck (zin (s.1) N1) ((r_readMonths_82 n R mo v3.2 tp (upd s.2.2 (s.1 : Int32).toNatClampNeg v3.1) s.1 N1 )))) else ((r_readMonths_88 n R mo s.2.1 tp s.2.2 s.1 N1 ).map (fun z => .inr z))))
set_option maxHeartbeats 4000000 in
set_option maxRecDepth 100000 in
theorem cr_readMonths_21 (s0 : State) (D : va_G) (X : Nat → Prop) (cB cI cJ cD : ClassId) (rA sA tA : Nat) (R : Nat → Int32) (lv : vLaw) (mo : Option vArr) (ty : vTrue) (tp : Nat → Int32) (n : Nat) (N1 : Nat) (a1 : Nat) (s : Int32 × (Nat → Int32) × (Nat → Int32)) {x : (Int32 × (Nat → Int32) × (Nat → Int32)) ⊕ ((Nat → Int32) × (Option vArr) × (Nat → Int32))} {hi0 hi hm0 hm : zHp} {nx : Nat} {Q : Option Value → zHp → zHp → Nat → Prop} (hW : qA X cB cI rA sA tA R lv mo ty s.2.1 tp N1 a1 s.2.2 hi hm) (hXX : zX hi0 hi) (hFr : lFr X hm0 hm) (h : r_readMonths_21 n R mo tp N1 s = some x) (hL21 : ∀ s : Int32 × (Nat → Int32) × (Nat → Int32), x = (.inl s) → ∀ (hi' hm' : zHp) (nx' : Nat), zX hi0 hi' → qA X cB cI rA sA tA R lv mo ty s.2.1 tp N1 a1 s.2.2 hi' hm' → lFr X hm0 hm' → zV s0 D (zty cB cI cJ cD) yX7_readMonths cX7_readMonths 5 none 5 109 1 15 21 [(0, .ref rA), (1, .ref a1), (2, .int s.1)] [] hi' hm' nx' Q) (hQ : ∀ r : (Nat → Int32) × (Option vArr) × (Nat → Int32), x = (.inr r) → ∀ (hi' hm' : zHp) (nx' : Nat), zX hi0 hi' → qW X cB cI rA sA tA r.1 lv r.2.1 ty r.2.2 tp hi' hm' → lFr X hm0 hm' → Q none hi' hm' nx') : zV s0 D (zty cB cI cJ cD) yX7_readMonths cX7_readMonths 5 none 5 109 1 15 21 [(0, .ref rA), (1, .ref a1), (2, .int s.1)] [] hi hm nx Q := by
  unfold r_readMonths_21 at h
  refine zV_blk (pc' := 24) (lo' := [(0, .ref rA), (1, .ref a1), (2, .int s.1)]) (st' := [.int 15, .int s.1]) [.iload_n 2, .bipush 15] (by decide +kernel) rfl ?_
  refine zV_icmp_gt (tgt := 88) (off := 64) (by decide +kernel) (by decide) (fun q => ?_) (fun q => ?_)
  · replace h := zif_pos q h
    clear q
    obtain ⟨z1, h9, hx⟩ := zmap h
    clear h; subst hx; have h := h9; clear h9
    refine zV_pick (lo2 := [(0, .ref rA), (1, .ref a1), (2, .int s.1)]) [0, 1, 2] rfl ?_
    exact cr_readMonths_88 s0 D X cB cI cJ cD rA sA tA R lv mo ty s.2.1 tp s.2.2 n s.1 N1   a1 hW  hXX hFr h (fun r hr => hQ r (by rw [hr]))
  · replace h := zif_neg q h
    clear q
    refine zV_blk (pc' := 28) (lo' := [(0, .ref rA), (1, .ref a1), (2, .int s.1)]) (st' := [.ref rA]) [.aload_n 0] (by decide +kernel) rfl ?_
    refine q_get (idx := 56) (k := 0) (v := .ref sA) hW.1 (by decide) (zT_mem 297 (by decide +kernel) rfl) (fun _ _ _ => rfl) (by decide +kernel) ?_
    refine q_sget (idx := 68) (k := 1) hW.1 (by decide) (zT_mem 230 (by decide +kernel) rfl) (by decide +kernel) ?_
    refine zV_blk (pc' := 35) (lo' := [(0, .ref rA), (1, .ref a1), (2, .int s.1)]) (st' := [.int 3, .int (s.2.1 1)]) [.iconst 3] (by decide +kernel) rfl ?_
    refine zV_icmp_ne (tgt := 88) (off := 53) (by decide +kernel) (by decide) (fun q => ?_) (fun q => ?_)
    · replace h := zif_neg q h
      clear q
      obtain ⟨z2, h9, hx⟩ := zmap h
      clear h; subst hx; have h := h9; clear h9
      refine zV_pick (lo2 := [(0, .ref rA), (1, .ref a1), (2, .int s.1)]) [0, 1, 2] rfl ?_
      exact cr_readMonths_88 s0 D X cB cI cJ cD rA sA tA R lv mo ty s.2.1 tp s.2.2 n s.1 N1   a1 hW  hXX hFr h (fun r hr => hQ r (by rw [hr]))
    · replace h := zif_pos q h
      clear q
      refine zV_blk (pc' := 39) (lo' := [(0, .ref rA), (1, .ref a1), (2, .int s.1)]) (st' := [.ref rA]) [.aload_n 0] (by decide +kernel) rfl ?_
      refine q_get (idx := 56) (k := 0) (v := .ref sA) hW.1 (by decide) (zT_mem 297 (by decide +kernel) rfl) (fun _ _ _ => rfl) (by decide +kernel) ?_
      refine q_sget (idx := 159) (k := 2) hW.1 (by decide) (zT_mem 232 (by decide +kernel) rfl) (by decide +kernel) ?_
      refine zV_blk (pc' := 47) (lo' := [(3, .int (s.2.1 2)), (0, .ref rA), (1, .ref a1), (2, .int s.1)]) (st' := [.ref rA]) [.istore_n 3, .aload_n 0] (by decide +kernel) rfl ?_
      refine q_get (idx := 56) (k := 0) (v := .ref sA) hW.1 (by decide) (zT_mem 297 (by decide +kernel) rfl) (fun _ _ _ => rfl) (by decide +kernel) ?_
      refine zV_blk (pc' := 54) (lo' := [(3, .int (s.2.1 2)), (0, .ref rA), (1, .ref a1), (2, .int s.1)]) (st' := [.int 999, .int 1, .ref sA]) [.iconst 1, .sipush 999] (by decide +kernel) rfl ?_
      obtain ⟨v3, hv3, h⟩ := zbind h
      refine qa_cC (idx := 100) (rest := []) hW (cn_takeNumber s0 D cB cI cJ cD sA tA 0 0 s.2.1 (fun _ => 0) tp (fun _ => 0) (fun _ => 0) n 1 999 v3 hv3) oX9_takeNumber rfl (zT_mem 409 (by decide +kernel) rfl) (zT_mem 410 (by decide +kernel) rfl) (zT_mem 411 (by decide +kernel) rfl) rfl rfl (Nat.le_of_ble_eq_true rfl) ⟨by decide, by decide⟩ (by decide +kernel) (fun hm hW hFr2 => ?_)
      replace hFr := hFr.tr hFr2; clear hFr2
      refine zV_eq (st2 := [.int v3.1]) rfl rfl rfl rfl ?_
      refine zV_blk (pc' := 62) (lo' := [(4, .int v3.1), (3, .int (s.2.1 2)), (0, .ref rA), (1, .ref a1), (2, .int s.1)]) (st' := [.int 15, .int s.1]) [.istore 4, .iload_n 2, .bipush 15] (by decide +kernel) rfl ?_
      refine zV_icmp_ge (tgt := 73) (off := 11) (by decide +kernel) (by decide) (fun q => ?_) (fun q => ?_)
      · replace h := zif_pos q h
        clear q
        refine zV_blk (pc' := 74) (lo' := [(4, .int v3.1), (3, .int (s.2.1 2)), (0, .ref rA), (1, .ref a1), (2, .int s.1)]) (st' := [.ref rA]) [.aload_n 0] (by decide +kernel) rfl ?_
        refine q_get (idx := 56) (k := 0) (v := .ref sA) hW.1 (by decide) (zT_mem 297 (by decide +kernel) rfl) (fun _ _ _ => rfl) (by decide +kernel) ?_
        refine zV_blk (pc' := 79) (lo' := [(4, .int v3.1), (3, .int (s.2.1 2)), (0, .ref rA), (1, .ref a1), (2, .int s.1)]) (st' := [.int (s.2.1 2), .int 4, .ref sA]) [.iconst 4, .iload_n 3] (by decide +kernel) rfl ?_
        obtain ⟨v4, hv4, h⟩ := zbind h
        refine qa_cC (idx := 81) (rest := []) hW (cn_fail s0 D cB cI cJ cD sA tA 0 0 v3.2 (fun _ => 0) tp (fun _ => 0) (fun _ => 0) 4 (s.2.1 2) v4 hv4) oX9_fail rfl (zT_mem 405 (by decide +kernel) rfl) (zT_mem 406 (by decide +kernel) rfl) (zT_mem 407 (by decide +kernel) rfl) rfl rfl (Nat.le_of_ble_eq_true rfl) ⟨by decide, by decide⟩ (by decide +kernel) (fun hm hW hFr2 => ?_)
        replace hFr := hFr.tr hFr2; clear hFr2
        refine zV_eq (st2 := []) rfl rfl rfl rfl ?_
        refine zV_pick (lo2 := [(0, .ref rA), (1, .ref a1), (2, .int s.1)]) [2, 3, 4] rfl ?_
        exact cr_readMonths_82 s0 D X cB cI cJ cD rA sA tA R lv mo ty v4 tp s.2.2 n s.1 N1   a1 hW  hXX hFr h hL21 hQ
      · replace h := zif_neg q h
        clear q
        refine zV_blk (pc' := 69) (lo' := [(4, .int v3.1), (3, .int (s.2.1 2)), (0, .ref rA), (1, .ref a1), (2, .int s.1)]) (st' := [.int v3.1, .int s.1, .ref a1]) [.aload_n 1, .iload_n 2, .iload 4] (by decide +kernel) rfl ?_
        obtain ⟨hz, h⟩ := zck_some h
        refine qa_st hW hz (by decide +kernel) (fun hm hW hFr2 => ?_)
        replace hFr := hFr.tr hFr2; clear hFr2
        refine zV_goto (tgt := 82) (off := 12) (by decide +kernel) (by decide) ?_
        refine zV_pick (lo2 := [(0, .ref rA), (1, .ref a1), (2, .int s.1)]) [2, 3, 4] rfl ?_
        exact cr_readMonths_82 s0 D X cB cI cJ cD rA sA tA R lv mo ty v3.2 tp (upd s.2.2 (s.1 : Int32).toNatClampNeg v3.1) n s.1 N1   a1 hW  hXX hFr h hL21 hQ
theorem cr_readMonths_21L (s0 : State) (D : va_G) (X : Nat → Prop) (cB cI cJ cD : ClassId) (rA sA tA : Nat) (R : Nat → Int32) (lv : vLaw) (mo : Option vArr) (ty : vTrue) (tp : Nat → Int32) (n : Nat) (N1 : Nat) (a1 : Nat) : ∀ (k : Nat) (s : Int32 × (Nat → Int32) × (Nat → Int32)) {hi0 hi hm0 hm : zHp} {nx : Nat} {Q : Option Value → zHp → zHp → Nat → Prop} (_ : qA X cB cI rA sA tA R lv mo ty s.2.1 tp N1 a1 s.2.2 hi hm) (_ : zX hi0 hi) (_ : lFr X hm0 hm) {x : (Nat → Int32) × (Option vArr) × (Nat → Int32)} (_ : zloop (r_readMonths_21 n R mo tp N1) k s = some x) (hQ : ∀ r : (Nat → Int32) × (Option vArr) × (Nat → Int32), x = r → ∀ (hi' hm' : zHp) (nx' : Nat), zX hi0 hi' → qW X cB cI rA sA tA r.1 lv r.2.1 ty r.2.2 tp hi' hm' → lFr X hm0 hm' → Q none hi' hm' nx'), zV s0 D (zty cB cI cJ cD) yX7_readMonths cX7_readMonths 5 none 5 109 1 15 21 [(0, .ref rA), (1, .ref a1), (2, .int s.1)] [] hi hm nx Q
  | 0, s, _, _, _, _, _, _, _, _, _, _, h, _ => by cases h
  | k + 1, s, hi0, hi, hm0, hm, nx, Q, hW, hXX, hFr, x, h, hQ => by
    obtain ⟨z, hz, h1, h2⟩ := zloop_succ h
    exact cr_readMonths_21 s0 D X cB cI cJ cD rA sA tA R lv mo ty tp n N1 a1 s hW  zX.rf hFr hz (fun s' hs hi' hm' nx' hX hW' hFr' => cr_readMonths_21L s0 D X cB cI cJ cD rA sA tA R lv mo ty tp n N1 a1 k s' hW'  (hXX.tr hX) hFr' (h1 s' hs) hQ) (fun r hr hi' hm' nx' hX hW' hFr' => hQ r (h2 _ hr).symm hi' hm' nx' (hXX.tr hX) hW' hFr')
def r_readMonths (n : Nat) (R : Nat → Int32) (mo : Option vArr) (F : Nat → Int32) (tp : Nat → Int32) : Option ((Nat → Int32) × (Option vArr) × (Nat → Int32)) := zck (zin (15) (15 + 1)) ((n_takeNumber n F tp 1 999).bind (fun v3 => zck (zin (0) (15 : Int32).toNatClampNeg) ((zloop (r_readMonths_21 n R mo tp  (15 : Int32).toNatClampNeg) n (1, v3.2, (upd (fun _ => 0) (0 : Int32).toNatClampNeg v3.1))))))
theorem oX7_readMonths : zO yX7_readMonths cX7_readMonths 5 none 0 := ⟨zT_mem 497 (by decide +kernel) rfl, zT_mem 97 (by decide +kernel) rfl, by decide +kernel, by decide +kernel, by decide +kernel⟩
set_option maxHeartbeats 4000000 in
set_option maxRecDepth 100000 in
theorem cr_readMonths (s0 : State) (D : va_G) (X : Nat → Prop) (cB cI cJ cD : ClassId) (rA sA tA : Nat) (R : Nat → Int32) (lv : vLaw) (mo : Option vArr) (ty : vTrue) (F : Nat → Int32) (tp : Nat → Int32) (n : Nat) (x : (Nat → Int32) × (Option vArr) × (Nat → Int32)) (h : r_readMonths n R mo F tp  = some x) {hi hm : zHp} {nx : Nat} {Q : Option Value → zHp → zHp → Nat → Prop} (hW : qW X cB cI rA sA tA R lv mo ty F tp hi hm) (hQ0 : ∀ (hi' hm' : zHp) (nx' : Nat), zX hi hi' → qW X cB cI rA sA tA x.1 lv x.2.1 ty x.2.2 tp hi' hm' → lFr X hm hm' → Q none hi' hm' nx') : zM s0 D (zty cB cI cJ cD) yX7_readMonths cX7_readMonths 5 none 5 109 2 30 [.ref rA] hi hm nx Q := by
  have hQ : ∀ r : (Nat → Int32) × (Option vArr) × (Nat → Int32), x = r → ∀ (hi' hm' : zHp) (nx' : Nat), zX hi hi' → qW X cB cI rA sA tA r.1 lv r.2.1 ty r.2.2 tp hi' hm' → lFr X hm hm' → Q none hi' hm' nx' := fun r hr => by subst hr; exact hQ0
  clear hQ0
  have hXX : zX hi hi := zX.rf
  have hFr : lFr X hm hm := lFr.rf
  refine zM_of (by decide +kernel) (Nat.le_of_ble_eq_true rfl) ?_
  unfold r_readMonths at h
  refine zV_eq (lo2 := [(0, .ref rA)]) rfl rfl rfl rfl ?_
  refine zV_blk (pc' := 2) (lo' := [(0, .ref rA)]) (st' := [.int 15]) [.bipush 15] (by decide +kernel) rfl ?_
  obtain ⟨hz, h⟩ := zck_some h
  refine qa_new (mc := 1) (ms := 15) 15 hW (zT_mem 155 (by decide +kernel) rfl) hz (by decide) (by decide +kernel) (fun hm2 nx2 hW2 hFr2 => ?_)
  obtain ⟨b1, heb1⟩ : ∃ z : Nat, z = nx := ⟨_, rfl⟩
  rw [← heb1] at hW2 ⊢; clear heb1
  clear hW; have hW := hW2; clear hW2
  replace hFr := hFr.tr hFr2; clear hFr2
  refine zV_blk (pc' := 8) (lo' := [(1, .ref b1), (0, .ref rA)]) (st' := [.ref rA, .int 0, .ref b1]) [.astore_n 1, .aload_n 1, .iconst 0, .aload_n 0] (by decide +kernel) rfl ?_
  refine q_get (idx := 56) (k := 0) (v := .ref sA) hW.1 (by decide) (zT_mem 297 (by decide +kernel) rfl) (fun _ _ _ => rfl) (by decide +kernel) ?_
  refine zV_blk (pc' := 15) (lo' := [(1, .ref b1), (0, .ref rA)]) (st' := [.int 999, .int 1, .ref sA, .int 0, .ref b1]) [.iconst 1, .sipush 999] (by decide +kernel) rfl ?_
  obtain ⟨v3, hv3, h⟩ := zbind h
  refine qa_cC (idx := 100) (rest := [.int 0, .ref b1]) hW (cn_takeNumber s0 D cB cI cJ cD sA tA 0 0 F (fun _ => 0) tp (fun _ => 0) (fun _ => 0) n 1 999 v3 hv3) oX9_takeNumber rfl (zT_mem 409 (by decide +kernel) rfl) (zT_mem 410 (by decide +kernel) rfl) (zT_mem 411 (by decide +kernel) rfl) rfl rfl (Nat.le_of_ble_eq_true rfl) ⟨by decide, by decide⟩ (by decide +kernel) (fun hm hW hFr2 => ?_)
  replace hFr := hFr.tr hFr2; clear hFr2
  refine zV_eq (st2 := [.int v3.1, .int 0, .ref b1]) rfl rfl rfl rfl ?_
  obtain ⟨hz, h⟩ := zck_some h
  refine qa_st hW hz (by decide +kernel) (fun hm hW hFr2 => ?_)
  replace hFr := hFr.tr hFr2; clear hFr2
  refine zV_blk (pc' := 21) (lo' := [(2, .int 1), (1, .ref b1), (0, .ref rA)]) (st' := []) [.iconst 1, .istore_n 2] (by decide +kernel) rfl ?_
  refine zV_pick (lo2 := [(0, .ref rA), (1, .ref b1), (2, .int 1)]) [2, 1, 0] rfl ?_
  exact cr_readMonths_21L s0 D X cB cI cJ cD rA sA tA R lv mo ty tp n  (15 : Int32).toNatClampNeg  b1 n (1, v3.2, (upd (fun _ => 0) (0 : Int32).toNatClampNeg v3.1)) hW  hXX hFr h hQ

