/-! ===== the reader's methods ===== -/
def k_firstOf_11 (v : vArr) (N : Nat) (s : Int32 × (Nat → Int32)) : Option ((Int32 × (Nat → Int32)) ⊕ (Nat → Int32)) :=
  if nI N ≤ s.1 then some (.inr s.2) else zck (zin s.1 v.1) (zck (zin s.1 N) (some (.inl (s.1 + 1, upd s.2 s.1.toNatClampNeg (v.2 s.1.toNatClampNeg)))))
def k_firstOf (n : Nat) (v : vArr) (x1 : Int32) : Option vArr := (j_minI x1 (nI v.1)).bind (fun m => zck (zin m 16) ((zloop (k_firstOf_11 v m.toNatClampNeg) n (0, fun _ => 0)).map (fun f => (m.toNatClampNeg, f))))
theorem oX7_firstOf : zO yX7_firstOf cX7_firstOf 4 (some (.array .int)) 2 := ⟨zT_mem 465 (by decide +kernel) rfl, zT_mem 97 (by decide +kernel) rfl, by decide +kernel, by decide +kernel, by decide +kernel⟩
set_option maxRecDepth 100000 in
theorem ck_firstOf_11 (s0 : State) (D : va_G) (cB cI cJ cD : ClassId) (v : vArr) (N : Nat) (a0 a : Nat) (H0 : zHp) (d : va_E) (h0 : H0 a = none) {hi : zHp} {nx : Nat} {Q : Option Value → zHp → zHp → Nat → Prop} (ho : iArr cI hi a0 v) (f' : Nat → Int32) (hQ : ∀ hi', zX hi hi' → iArr cI hi' a (N, f') → Q (some (.ref a)) hi' H0 nx) : ∀ (k : Nat) (s : Int32 × (Nat → Int32)) (hm : zHp) (_ : hm a = some (.inl (cI, N, .inl s.2))) (_ : zO1 a (va_up H0 a (some d)) hm) (_ : zloop (k_firstOf_11 v N) k s = some f'), zV s0 D (zty cB cI cJ cD) yX7_firstOf cX7_firstOf 4 (some (.array .int)) 1 21 0 0 11 [(0, .ref a0), (2, .ref a), (3, .int s.1)] [] hi hm nx Q
  | 0, s, _, _, _, h => by cases h
  | k + 1, s, hm, hA, hO, h => by
    obtain ⟨z, hz, h1, h2⟩ := zloop_succ h
    unfold k_firstOf_11 at hz
    refine zV_blk (pc' := 13) (lo' := [(0, .ref a0), (2, .ref a), (3, .int s.1)]) (st' := [.ref a, .int s.1]) [.iload_n 3, .aload_n 2] (by decide +kernel) rfl ?_
    refine zV_alen 1 (Or.inr hA) rfl (by decide +kernel) ?_
    refine zV_icmp_ge (tgt := 29) (off := 15) (by decide +kernel) (by decide) (fun q => ?_) (fun q => ?_)
    · replace hz := zif_pos q hz
      obtain rfl := Option.some.inj hz
      obtain rfl := h2 _ rfl
      refine zV_blk (pc' := 30) (lo' := [(0, .ref a0), (2, .ref a), (3, .int s.1)]) (st' := [.ref a]) [.aload_n 2] (by decide +kernel) rfl ?_
      refine z_after h0 hA hO (fun hi' hX hc => ?_)
      exact zV_aret rfl (Or.inr ⟨_, rfl⟩) (Or.inr ⟨_, rfl⟩) (by decide +kernel) (hQ _ hX hc)
    · replace hz := zif_neg q hz
      refine zV_blk (pc' := 21) (lo' := [(0, .ref a0), (2, .ref a), (3, .int s.1)]) (st' := [.int s.1, .ref a0, .int s.1, .ref a]) [.aload_n 2, .iload_n 3, .aload_n 0, .iload_n 3] (by decide +kernel) rfl ?_
      obtain ⟨hz1, hz⟩ := zck_some hz
      refine zV_iald 1 (Or.inl ho) rfl (zin_in hz1) (by decide +kernel) ?_
      obtain ⟨hz2, hz⟩ := zck_some hz
      refine zV_iast 1 hA rfl (zin_in hz2) (by decide +kernel) ?_
      obtain rfl := Option.some.inj hz
      refine zV_blk (pc' := 26) (lo' := [(3, .int (s.1 + 1)), (0, .ref a0), (2, .ref a)]) (st' := []) [.iinc 3 1] (by decide +kernel) rfl ?_
      refine zV_goto (tgt := 11) (off := -15) (by decide +kernel) (by decide) ?_
      refine zV_pick (lo2 := [(0, .ref a0), (2, .ref a), (3, .int (s.1 + 1))]) [1, 2, 0] rfl ?_
      exact ck_firstOf_11 s0 D cB cI cJ cD v N a0 a H0 d h0 ho f' hQ k _ _ zUe (hO.tr (fun q n => zUn n rfl)) (h1 _ rfl)
set_option maxRecDepth 100000 in
theorem ck_firstOf (s0 : State) (D : va_G) (cB cI cJ cD : ClassId) (n : Nat) (v : vArr) (x1 : Int32) (a0 : Nat) (x : vArr) (h : k_firstOf n v x1 = some x) {hi hm : zHp} {nx : Nat} {Q : Option Value → zHp → zHp → Nat → Prop} (ho : iArr cI hi a0 v) (hQ0 : ∀ (a' : Nat) (hi' : zHp) (nx' : Nat), zX hi hi' → iArr cI hi' a' x → Q (some (.ref a')) hi' hm nx') : zM s0 D (zty cB cI cJ cD) yX7_firstOf cX7_firstOf 4 (some (.array .int)) 1 21 1 15 [.ref a0, .int x1] hi hm nx Q := by
  refine zM_of (by decide +kernel) (Nat.le_of_ble_eq_true rfl) ?_
  unfold k_firstOf at h
  refine zV_eq (lo2 := [(0, .ref a0), (1, .int x1)]) rfl rfl rfl rfl ?_
  refine zV_blk (pc' := 2) (lo' := [(0, .ref a0), (1, .int x1)]) (st' := [.ref a0, .int x1]) [.iload_n 1, .aload_n 0] (by decide +kernel) rfl ?_
  refine zV_alen 1 (Or.inl ho) rfl (by decide +kernel) ?_
  obtain ⟨m, hm1, h⟩ := zbind h
  refine zV_roS (idx := 183) (rest := []) (fun Q2 hQ2 => cj_minI s0 D cB cI cJ cD x1 (nI v.1) m hm1 hQ2) oJ9_min_7cf53 (zT_mem 466 (by decide +kernel) rfl) (zT_mem 225 (by decide +kernel) rfl) rfl rfl (Nat.le_of_ble_eq_true rfl) ⟨by decide, by decide⟩ (by decide +kernel) ?_
  obtain ⟨hz, h⟩ := zck_some h
  obtain ⟨f, hf, rfl⟩ := zmap h
  simp only [zin, Bool.and_eq_true, decide_eq_true_eq] at hz
  refine zV_less (mc' := 0 + 1) (ms' := (15 - m.toNatClampNeg) + m.toNatClampNeg) (by decide) (by omega) ?_
  refine zV_newI (n := m) (N := m.toNatClampNeg) (zT_mem 155 (by decide +kernel) rfl) (by have := hz.1; rw [Int32.not_lt]; exact this) rfl (Nat.le_trans (Nat.mul_le_mul_right _ (show m.toNatClampNeg ≤ 15 by omega)) (by decide)) (by decide +kernel) (fun _ n2 => ?_)
  refine zV_blk (pc' := 11) (lo' := [(3, .int 0), (2, .ref nx), (0, .ref a0), (1, .int x1)]) (st' := []) [.astore_n 2, .iconst 0, .istore_n 3] (by decide +kernel) rfl ?_
  refine zV_pick (lo2 := [(0, .ref a0), (2, .ref nx), (3, .int 0)]) [2, 1, 0] rfl ?_
  exact zV_less (Nat.zero_le _) (Nat.zero_le _) (ck_firstOf_11 s0 D cB cI cJ cD v m.toNatClampNeg a0 nx hm _ n2 ho f (fun hi' hX hc => hQ0 _ _ _ hX hc) n (0, fun _ => 0) _ zUe zO1.rf hf)

def r_sumOfMonths_4 (n : Nat) (mo : Option vArr) (s : Int32 × Int32) : Option ((Int32 × Int32) ⊕ (Int32)) := zOm (mo) (none) (fun z2 => (if ((nI z2.1) : Int32) ≤ (s.2 : Int32) then some (.inr s.1) else zOm (mo) (none) (fun z5 => zck (zin (s.2) z5.1) (some (.inl ((s.1 + (z5.2 (s.2 : Int32).toNatClampNeg)), (s.2 + 1)))))))
set_option maxHeartbeats 4000000 in
set_option maxRecDepth 100000 in
theorem cr_sumOfMonths_4 (s0 : State) (D : va_G) (X : Nat → Prop) (cB cI cJ cD : ClassId) (rA sA tA : Nat) (R : Nat → Int32) (lv : vLaw) (mo : Option vArr) (ty : vTrue) (F : Nat → Int32) (tp : Nat → Int32) (n : Nat) (s : Int32 × Int32) {x : (Int32 × Int32) ⊕ (Int32)} {hi0 hi hm0 hm : zHp} {nx : Nat} {Q : Option Value → zHp → zHp → Nat → Prop} (hW : qW X cB cI rA sA tA R lv mo ty F tp hi hm) (hXX : zX hi0 hi) (hFr : lFr X hm0 hm) (h : r_sumOfMonths_4 n mo  s = some x) (hL4 : ∀ s : Int32 × Int32, x = (.inl s) → ∀ (hi' hm' : zHp) (nx' : Nat), zX hi0 hi' → qW X cB cI rA sA tA R lv mo ty F tp hi' hm' → lFr X hm0 hm' → zV s0 D (zty cB cI cJ cD) yX7_sumOfMonths cX7_sumOfMonths 3 (some .int) 0 0 0 0 4 [(0, .ref rA), (1, .int s.1), (2, .int s.2)] [] hi' hm' nx' Q) (hQ : ∀ r : Int32, x = (.inr r) → ∀ (hi' hm' : zHp) (nx' : Nat), zX hi0 hi' → qW X cB cI rA sA tA R lv mo ty F tp hi' hm' → lFr X hm0 hm' → Q (some (.int r)) hi' hm' nx') : zV s0 D (zty cB cI cJ cD) yX7_sumOfMonths cX7_sumOfMonths 3 (some .int) 0 0 0 0 4 [(0, .ref rA), (1, .int s.1), (2, .int s.2)] [] hi hm nx Q := by
  unfold r_sumOfMonths_4 at h
  refine zV_blk (pc' := 6) (lo' := [(0, .ref rA), (1, .int s.1), (2, .int s.2)]) (st' := [.ref rA, .int s.2]) [.iload_n 2, .aload_n 0] (by decide +kernel) rfl ?_
  refine q_getM (idx := 28) hW (zT_mem 302 (by decide +kernel) rfl) (by decide +kernel) (fun hx => ?_) (fun b1 z2 hx ho3 => ?_)
  · replace h := zOm_n hx h
    cases h
  · replace h := zOm_s hx h
    refine zV_alen 1 (Or.inl ho3) rfl (by decide +kernel) ?_
    refine zV_icmp_ge (tgt := 28) (off := 18) (by decide +kernel) (by decide) (fun q => ?_) (fun q => ?_)
    · replace h := zif_pos q h
      clear q
      refine zV_blk (pc' := 29) (lo' := [(0, .ref rA), (1, .int s.1), (2, .int s.2)]) (st' := [.int s.1]) [.iload_n 1] (by decide +kernel) rfl ?_
      obtain rfl := Option.some.inj h
      exact zV_iret rfl (by decide +kernel) (hQ _ rfl _ _ _ hXX hW hFr)
    · replace h := zif_neg q h
      clear q
      refine zV_blk (pc' := 15) (lo' := [(0, .ref rA), (1, .int s.1), (2, .int s.2)]) (st' := [.ref rA, .int s.1]) [.iload_n 1, .aload_n 0] (by decide +kernel) rfl ?_
      refine q_getM (idx := 28) hW (zT_mem 302 (by decide +kernel) rfl) (by decide +kernel) (fun hx => ?_) (fun b4 z5 hx ho6 => ?_)
      · replace h := zOm_n hx h
        refine zV_blk (pc' := 19) (lo' := [(0, .ref rA), (1, .int s.1), (2, .int s.2)]) (st' := [.int s.2, .null, .int s.1]) [.iload_n 2] (by decide +kernel) rfl ?_
        cases h
      · replace h := zOm_s hx h
        refine zV_blk (pc' := 19) (lo' := [(0, .ref rA), (1, .int s.1), (2, .int s.2)]) (st' := [.int s.2, .ref b4, .int s.1]) [.iload_n 2] (by decide +kernel) rfl ?_
        obtain ⟨hz, h⟩ := zck_some h
        refine zV_iald 1 (Or.inl ho6) rfl (zin_in hz) (by decide +kernel) ?_
        refine zV_blk (pc' := 25) (lo' := [(2, .int (s.2 + 1)), (1, .int (s.1 + (z5.2 (s.2 : Int32).toNatClampNeg))), (0, .ref rA)]) (st' := []) [.iadd, .istore_n 1, .iinc 2 1] (by decide +kernel) rfl ?_
        refine zV_goto (tgt := 4) (off := -21) (by decide +kernel) (by decide) ?_
        obtain rfl := Option.some.inj h
        refine zV_pick (lo2 := [(0, .ref rA), (1, .int (s.1 + (z5.2 (s.2 : Int32).toNatClampNeg))), (2, .int (s.2 + 1))]) [2, 1, 0] rfl ?_
        exact hL4 _ rfl _ _ _ hXX hW hFr
theorem cr_sumOfMonths_4L (s0 : State) (D : va_G) (X : Nat → Prop) (cB cI cJ cD : ClassId) (rA sA tA : Nat) (R : Nat → Int32) (lv : vLaw) (mo : Option vArr) (ty : vTrue) (F : Nat → Int32) (tp : Nat → Int32) (n : Nat) : ∀ (k : Nat) (s : Int32 × Int32) {hi0 hi hm0 hm : zHp} {nx : Nat} {Q : Option Value → zHp → zHp → Nat → Prop} (_ : qW X cB cI rA sA tA R lv mo ty F tp hi hm) (_ : zX hi0 hi) (_ : lFr X hm0 hm) {x : Int32} (_ : zloop (r_sumOfMonths_4 n mo ) k s = some x) (hQ : ∀ r : Int32, x = r → ∀ (hi' hm' : zHp) (nx' : Nat), zX hi0 hi' → qW X cB cI rA sA tA R lv mo ty F tp hi' hm' → lFr X hm0 hm' → Q (some (.int r)) hi' hm' nx'), zV s0 D (zty cB cI cJ cD) yX7_sumOfMonths cX7_sumOfMonths 3 (some .int) 0 0 0 0 4 [(0, .ref rA), (1, .int s.1), (2, .int s.2)] [] hi hm nx Q
  | 0, s, _, _, _, _, _, _, _, _, _, _, h, _ => by cases h
  | k + 1, s, hi0, hi, hm0, hm, nx, Q, hW, hXX, hFr, x, h, hQ => by
    obtain ⟨z, hz, h1, h2⟩ := zloop_succ h
    exact cr_sumOfMonths_4 s0 D X cB cI cJ cD rA sA tA R lv mo ty F tp n   s hW  zX.rf hFr hz (fun s' hs hi' hm' nx' hX hW' hFr' => cr_sumOfMonths_4L s0 D X cB cI cJ cD rA sA tA R lv mo ty F tp n   k s' hW'  (hXX.tr hX) hFr' (h1 s' hs) hQ) (fun r hr hi' hm' nx' hX hW' hFr' => hQ r (h2 _ hr).symm hi' hm' nx' (hXX.tr hX) hW' hFr')
def r_sumOfMonths (n : Nat) (mo : Option vArr) : Option (Int32) := (zloop (r_sumOfMonths_4 n mo ) n (0, 0))
theorem oX7_sumOfMonths : zO yX7_sumOfMonths cX7_sumOfMonths 3 (some .int) 0 := ⟨zT_mem 522 (by decide +kernel) rfl, zT_mem 97 (by decide +kernel) rfl, by decide +kernel, by decide +kernel, by decide +kernel⟩
set_option maxHeartbeats 4000000 in
set_option maxRecDepth 100000 in
theorem cr_sumOfMonths (s0 : State) (D : va_G) (X : Nat → Prop) (cB cI cJ cD : ClassId) (rA sA tA : Nat) (R : Nat → Int32) (lv : vLaw) (mo : Option vArr) (ty : vTrue) (F : Nat → Int32) (tp : Nat → Int32) (n : Nat) (x : Int32) (h : r_sumOfMonths n mo  = some x) {hi hm : zHp} {nx : Nat} {Q : Option Value → zHp → zHp → Nat → Prop} (hW : qW X cB cI rA sA tA R lv mo ty F tp hi hm) (hQ0 : ∀ (hi' hm' : zHp) (nx' : Nat), zX hi hi' → qW X cB cI rA sA tA R lv mo ty F tp hi' hm' → lFr X hm hm' → Q (some (.int x)) hi' hm' nx') : zM s0 D (zty cB cI cJ cD) yX7_sumOfMonths cX7_sumOfMonths 3 (some .int) 0 0 0 0 [.ref rA] hi hm nx Q := by
  have hQ : ∀ r : Int32, x = r → ∀ (hi' hm' : zHp) (nx' : Nat), zX hi hi' → qW X cB cI rA sA tA R lv mo ty F tp hi' hm' → lFr X hm hm' → Q (some (.int r)) hi' hm' nx' := fun r hr => by subst hr; exact hQ0
  clear hQ0
  have hXX : zX hi hi := zX.rf
  have hFr : lFr X hm hm := lFr.rf
  refine zM_of (by decide +kernel) (Nat.le_of_ble_eq_true rfl) ?_
  unfold r_sumOfMonths at h
  refine zV_eq (lo2 := [(0, .ref rA)]) rfl rfl rfl rfl ?_
  refine zV_blk (pc' := 4) (lo' := [(2, .int 0), (1, .int 0), (0, .ref rA)]) (st' := []) [.iconst 0, .istore_n 1, .iconst 0, .istore_n 2] (by decide +kernel) rfl ?_
  refine zV_pick (lo2 := [(0, .ref rA), (1, .int 0), (2, .int 0)]) [2, 1, 0] rfl ?_
  exact cr_sumOfMonths_4L s0 D X cB cI cJ cD rA sA tA R lv mo ty F tp n   n (0, 0) hW  hXX hFr h hQ

def r_opens_37 (n : Nat) (R : Nat → Int32) (F : Nat → Int32) (tp : Nat → Int32) (x2 : Int32) : Option (Bool × (Nat → Int32) × (Nat → Int32)) := (n_advance n F tp).bind (fun v1 => some (true, (upd R 1 ((R 1) ||| x2)), v1))
set_option maxHeartbeats 4000000 in
set_option maxRecDepth 100000 in
theorem cr_opens_37 (s0 : State) (D : va_G) (X : Nat → Prop) (cB cI cJ cD : ClassId) (rA sA tA : Nat) (R : Nat → Int32) (lv : vLaw) (mo : Option vArr) (ty : vTrue) (F : Nat → Int32) (tp : Nat → Int32) (n : Nat) (x2 : Int32) {x : Bool × (Nat → Int32) × (Nat → Int32)} {hi0 hi hm0 hm : zHp} {nx : Nat} {Q : Option Value → zHp → zHp → Nat → Prop} (hW : qW X cB cI rA sA tA R lv mo ty F tp hi hm) (hXX : zX hi0 hi) (hFr : lFr X hm0 hm) (h : r_opens_37 n R F tp x2 = some x) (hQ : ∀ r : Bool × (Nat → Int32) × (Nat → Int32), x = r → ∀ (hi' hm' : zHp) (nx' : Nat), zX hi0 hi' → qW X cB cI rA sA tA r.2.1 lv mo ty r.2.2 tp hi' hm' → lFr X hm0 hm' → Q (some (.int (zb r.1))) hi' hm' nx') : zV s0 D (zty cB cI cJ cD) yX7_opens cX7_opens 3 (some .boolean) 5 109 0 0 37 [(0, .ref rA), (2, .int x2)] [] hi hm nx Q := by
  unfold r_opens_37 at h
  refine zV_blk (pc' := 39) (lo' := [(0, .ref rA), (2, .int x2)]) (st' := [.ref rA, .ref rA]) [.aload_n 0, .dup] (by decide +kernel) rfl ?_
  refine q_get (idx := 9) (k := 1) (v := .int (R 1)) hW (by decide) (zT_mem 298 (by decide +kernel) rfl) (fun _ _ _ => rfl) (by decide +kernel) ?_
  refine zV_blk (pc' := 44) (lo' := [(0, .ref rA), (2, .int x2)]) (st' := [.int ((R 1) ||| x2), .ref rA]) [.iload_n 2, .ior] (by decide +kernel) rfl ?_
  refine q_putI (idx := 9) (k := 1) (x := ((R 1) ||| x2)) hW (by decide) (zT_mem 298 (by decide +kernel) rfl) (by decide +kernel) (fun hm hW hFr2 => ?_)
  replace hFr := hFr.tr hFr2; clear hFr2
  refine zV_blk (pc' := 48) (lo' := [(0, .ref rA), (2, .int x2)]) (st' := [.ref rA]) [.aload_n 0] (by decide +kernel) rfl ?_
  refine q_get (idx := 56) (k := 0) (v := .ref sA) hW (by decide) (zT_mem 297 (by decide +kernel) rfl) (fun _ _ _ => rfl) (by decide +kernel) ?_
  obtain ⟨v1, hv1, h⟩ := zbind h
  refine q_cC (idx := 60) (rest := []) hW (cn_advance s0 D cB cI cJ cD sA tA 0 0 F (fun _ => 0) tp (fun _ => 0) (fun _ => 0) n  v1 hv1) oX9_advance rfl (zT_mem 338 (by decide +kernel) rfl) (zT_mem 339 (by decide +kernel) rfl) (zT_mem 340 (by decide +kernel) rfl) rfl rfl (Nat.le_of_ble_eq_true rfl) ⟨by decide, by decide⟩ (by decide +kernel) (fun hm hW hFr2 => ?_)
  replace hFr := hFr.tr hFr2; clear hFr2
  refine zV_eq (st2 := []) rfl rfl rfl rfl ?_
  refine zV_blk (pc' := 55) (lo' := [(0, .ref rA), (2, .int x2)]) (st' := [.int 1]) [.iconst 1] (by decide +kernel) rfl ?_
  obtain rfl := Option.some.inj h
  refine zV_eq (st2 := [.int (zb true)]) rfl rfl rfl rfl ?_
  exact zV_bret rfl (by decide +kernel) (hQ _ rfl _ _ _ hXX hW hFr)
def r_opens (n : Nat) (R : Nat → Int32) (F : Nat → Int32) (tp : Nat → Int32) (wn : Nat) (wf : Nat → Int32) (x2 : Int32) : Option (Bool × (Nat → Int32) × (Nat → Int32)) := (n_sees wn wf n F tp).bind (fun v1 => (if v1 = true then (if (((R 1) &&& x2) : Int32) = (0 : Int32) then (r_opens_37 n R F tp x2 ) else (n_fail F 3 (F 2)).bind (fun v2 => (r_opens_37 n R v2 tp x2 ))) else some (false, R, F)))
theorem oX7_opens : zO yX7_opens cX7_opens 3 (some .boolean) 2 := ⟨zT_mem 353 (by decide +kernel) rfl, zT_mem 97 (by decide +kernel) rfl, by decide +kernel, by decide +kernel, by decide +kernel⟩
set_option maxHeartbeats 4000000 in
set_option maxRecDepth 100000 in
theorem cr_opens (s0 : State) (D : va_G) (X : Nat → Prop) (cB cI cJ cD : ClassId) (rA sA tA : Nat) (R : Nat → Int32) (lv : vLaw) (mo : Option vArr) (ty : vTrue) (F : Nat → Int32) (tp : Nat → Int32) (n : Nat) (wn : Nat) (wf : Nat → Int32) (x2 : Int32) (aw : Nat) (x : Bool × (Nat → Int32) × (Nat → Int32)) (h : r_opens n R F tp wn wf x2 = some x) {hi hm : zHp} {nx : Nat} {Q : Option Value → zHp → zHp → Nat → Prop} (hW : qW X cB cI rA sA tA R lv mo ty F tp hi hm) (hw : iStr s0 aw wn wf) (hQ0 : ∀ (hi' hm' : zHp) (nx' : Nat), zX hi hi' → qW X cB cI rA sA tA x.2.1 lv mo ty x.2.2 tp hi' hm' → lFr X hm hm' → Q (some (.int (zb x.1))) hi' hm' nx') : zM s0 D (zty cB cI cJ cD) yX7_opens cX7_opens 3 (some .boolean) 5 109 0 0 [.ref rA, .ref aw, .int x2] hi hm nx Q := by
  have hQ : ∀ r : Bool × (Nat → Int32) × (Nat → Int32), x = r → ∀ (hi' hm' : zHp) (nx' : Nat), zX hi hi' → qW X cB cI rA sA tA r.2.1 lv mo ty r.2.2 tp hi' hm' → lFr X hm hm' → Q (some (.int (zb r.1))) hi' hm' nx' := fun r hr => by subst hr; exact hQ0
  clear hQ0
  have hXX : zX hi hi := zX.rf
  have hFr : lFr X hm hm := lFr.rf
  refine zM_of (by decide +kernel) (Nat.le_of_ble_eq_true rfl) ?_
  unfold r_opens at h
  refine zV_eq (lo2 := [(0, .ref rA), (1, .ref aw), (2, .int x2)]) rfl rfl rfl rfl ?_
  refine zV_blk (pc' := 1) (lo' := [(0, .ref rA), (1, .ref aw), (2, .int x2)]) (st' := [.ref rA]) [.aload_n 0] (by decide +kernel) rfl ?_
  refine q_get (idx := 56) (k := 0) (v := .ref sA) hW (by decide) (zT_mem 297 (by decide +kernel) rfl) (fun _ _ _ => rfl) (by decide +kernel) ?_
  refine zV_blk (pc' := 5) (lo' := [(0, .ref rA), (1, .ref aw), (2, .int x2)]) (st' := [.ref aw, .ref sA]) [.aload_n 1] (by decide +kernel) rfl ?_
  obtain ⟨v1, hv1, h⟩ := zbind h
  refine q_cR (idx := 140) (rest := []) hW (cn_sees aw wn wf hw D cB cI cJ cD sA tA 0 0 F (fun _ => 0) tp (fun _ => 0) (fun _ => 0) n v1 hv1) oX9_sees rfl (zT_mem 354 (by decide +kernel) rfl) (zT_mem 355 (by decide +kernel) rfl) (zT_mem 356 (by decide +kernel) rfl) rfl rfl (Nat.le_of_ble_eq_true rfl) ⟨by decide, by decide⟩ (by decide +kernel) ?_
  refine zV_eq (st2 := [.int (zb v1)]) rfl rfl rfl rfl ?_
  refine zV_bif_ne (tgt := 13) (off := 5) (by decide +kernel) (by decide) (fun q => ?_) (fun q => ?_)
  · replace h := zif_pos q h
    clear q
    refine zV_blk (pc' := 14) (lo' := [(0, .ref rA), (1, .ref aw), (2, .int x2)]) (st' := [.ref rA]) [.aload_n 0] (by decide +kernel) rfl ?_
    refine q_get (idx := 9) (k := 1) (v := .int (R 1)) hW (by decide) (zT_mem 298 (by decide +kernel) rfl) (fun _ _ _ => rfl) (by decide +kernel) ?_
    refine zV_blk (pc' := 19) (lo' := [(0, .ref rA), (1, .ref aw), (2, .int x2)]) (st' := [.int ((R 1) &&& x2)]) [.iload_n 2, .iand] (by decide +kernel) rfl ?_
    refine zV_if_eq (tgt := 37) (off := 18) (by decide +kernel) (by decide) (fun q => ?_) (fun q => ?_)
    · replace h := zif_pos q h
      clear q
      refine zV_pick (lo2 := [(0, .ref rA), (2, .int x2)]) [0, 2] rfl ?_
      exact cr_opens_37 s0 D X cB cI cJ cD rA sA tA R lv mo ty F tp n x2   hW  hXX hFr h hQ
    · replace h := zif_neg q h
      clear q
      refine zV_blk (pc' := 23) (lo' := [(0, .ref rA), (1, .ref aw), (2, .int x2)]) (st' := [.ref rA]) [.aload_n 0] (by decide +kernel) rfl ?_
      refine q_get (idx := 56) (k := 0) (v := .ref sA) hW (by decide) (zT_mem 297 (by decide +kernel) rfl) (fun _ _ _ => rfl) (by decide +kernel) ?_
      refine zV_blk (pc' := 28) (lo' := [(0, .ref rA), (1, .ref aw), (2, .int x2)]) (st' := [.ref rA, .int 3, .ref sA]) [.iconst 3, .aload_n 0] (by decide +kernel) rfl ?_
      refine q_get (idx := 56) (k := 0) (v := .ref sA) hW (by decide) (zT_mem 297 (by decide +kernel) rfl) (fun _ _ _ => rfl) (by decide +kernel) ?_
      refine q_sget (idx := 159) (k := 2) hW (by decide) (zT_mem 232 (by decide +kernel) rfl) (by decide +kernel) ?_
      obtain ⟨v2, hv2, h⟩ := zbind h
      refine q_cC (idx := 81) (rest := []) hW (cn_fail s0 D cB cI cJ cD sA tA 0 0 F (fun _ => 0) tp (fun _ => 0) (fun _ => 0) 3 (F 2) v2 hv2) oX9_fail rfl (zT_mem 405 (by decide +kernel) rfl) (zT_mem 406 (by decide +kernel) rfl) (zT_mem 407 (by decide +kernel) rfl) rfl rfl (Nat.le_of_ble_eq_true rfl) ⟨by decide, by decide⟩ (by decide +kernel) (fun hm hW hFr2 => ?_)
      replace hFr := hFr.tr hFr2; clear hFr2
      refine zV_eq (st2 := []) rfl rfl rfl rfl ?_
      refine zV_pick (lo2 := [(0, .ref rA), (2, .int x2)]) [0, 2] rfl ?_
      exact cr_opens_37 s0 D X cB cI cJ cD rA sA tA R lv mo ty v2 tp n x2   hW  hXX hFr h hQ
  · replace h := zif_neg q h
    clear q
    refine zV_blk (pc' := 12) (lo' := [(0, .ref rA), (1, .ref aw), (2, .int x2)]) (st' := [.int 0]) [.iconst 0] (by decide +kernel) rfl ?_
    obtain rfl := Option.some.inj h
    refine zV_eq (st2 := [.int (zb false)]) rfl rfl rfl rfl ?_
    exact zV_bret rfl (by decide +kernel) (hQ _ rfl _ _ _ hXX hW hFr)

def r_readShare (n : Nat) (R : Nat → Int32) (F : Nat → Int32) (tp : Nat → Int32) (x1 : Int32) (x2 : Int32) : Option ((Nat → Int32) × (Nat → Int32)) := (n_takeNumber n F tp 0 x1).bind (fun v1 => (n_sees 2 (fun j => L_of.getD j 0) n v1.2 tp).bind (fun v4 => (n_takeIf n v1.2 tp (zb v4)).bind (fun v5 => (n_takeNumber n v5 tp 1 x1).bind (fun v6 => (if (((upd (upd R 10 v1.1) 11 v6.1) 10) : Int32) ≤ ((((upd (upd R 10 v1.1) 11 v6.1) 11) - x2) : Int32) then some ((upd (upd R 10 v1.1) 11 v6.1), v6.2) else (n_fail v6.2 2 (F 2)).bind (fun v7 => some ((upd (upd R 10 v1.1) 11 v6.1), v7)))))))
theorem oX7_readShare : zO yX7_readShare cX7_readShare 4 none 2 := ⟨zT_mem 420 (by decide +kernel) rfl, zT_mem 97 (by decide +kernel) rfl, by decide +kernel, by decide +kernel, by decide +kernel⟩
set_option maxHeartbeats 4000000 in
set_option maxRecDepth 100000 in
theorem cr_readShare (s0 : State) (D : va_G) (X : Nat → Prop) (cB cI cJ cD : ClassId) (rA sA tA : Nat) (R : Nat → Int32) (lv : vLaw) (mo : Option vArr) (ty : vTrue) (F : Nat → Int32) (tp : Nat → Int32) (n : Nat) (x1 : Int32) (x2 : Int32) (x : (Nat → Int32) × (Nat → Int32)) (h : r_readShare n R F tp x1 x2 = some x) {hi hm : zHp} {nx : Nat} {Q : Option Value → zHp → zHp → Nat → Prop} (hW : qW X cB cI rA sA tA R lv mo ty F tp hi hm) (hQ0 : ∀ (hi' hm' : zHp) (nx' : Nat), zX hi hi' → qW X cB cI rA sA tA x.1 lv mo ty x.2 tp hi' hm' → lFr X hm hm' → Q none hi' hm' nx') : zM s0 D (zty cB cI cJ cD) yX7_readShare cX7_readShare 4 none 5 109 0 0 [.ref rA, .int x1, .int x2] hi hm nx Q := by
  have hQ : ∀ r : (Nat → Int32) × (Nat → Int32), x = r → ∀ (hi' hm' : zHp) (nx' : Nat), zX hi hi' → qW X cB cI rA sA tA r.1 lv mo ty r.2 tp hi' hm' → lFr X hm hm' → Q none hi' hm' nx' := fun r hr => by subst hr; exact hQ0
  clear hQ0
  have hXX : zX hi hi := zX.rf
  have hFr : lFr X hm hm := lFr.rf
  refine zM_of (by decide +kernel) (Nat.le_of_ble_eq_true rfl) ?_
  unfold r_readShare at h
  refine zV_eq (lo2 := [(0, .ref rA), (1, .int x1), (2, .int x2)]) rfl rfl rfl rfl ?_
  refine zV_blk (pc' := 1) (lo' := [(0, .ref rA), (1, .int x1), (2, .int x2)]) (st' := [.ref rA]) [.aload_n 0] (by decide +kernel) rfl ?_
  refine q_get (idx := 56) (k := 0) (v := .ref sA) hW (by decide) (zT_mem 297 (by decide +kernel) rfl) (fun _ _ _ => rfl) (by decide +kernel) ?_
  refine q_sget (idx := 159) (k := 2) hW (by decide) (zT_mem 232 (by decide +kernel) rfl) (by decide +kernel) ?_
  refine zV_blk (pc' := 10) (lo' := [(3, .int (F 2)), (0, .ref rA), (1, .int x1), (2, .int x2)]) (st' := [.ref rA, .ref rA]) [.istore_n 3, .aload_n 0, .aload_n 0] (by decide +kernel) rfl ?_
  refine q_get (idx := 56) (k := 0) (v := .ref sA) hW (by decide) (zT_mem 297 (by decide +kernel) rfl) (fun _ _ _ => rfl) (by decide +kernel) ?_
  refine zV_blk (pc' := 15) (lo' := [(3, .int (F 2)), (0, .ref rA), (1, .int x1), (2, .int x2)]) (st' := [.int x1, .int 0, .ref sA, .ref rA]) [.iconst 0, .iload_n 1] (by decide +kernel) rfl ?_
  obtain ⟨v1, hv1, h⟩ := zbind h
  refine q_cC (idx := 100) (rest := [.ref rA]) hW (cn_takeNumber s0 D cB cI cJ cD sA tA 0 0 F (fun _ => 0) tp (fun _ => 0) (fun _ => 0) n 0 x1 v1 hv1) oX9_takeNumber rfl (zT_mem 409 (by decide +kernel) rfl) (zT_mem 410 (by decide +kernel) rfl) (zT_mem 411 (by decide +kernel) rfl) rfl rfl (Nat.le_of_ble_eq_true rfl) ⟨by decide, by decide⟩ (by decide +kernel) (fun hm hW hFr2 => ?_)
  replace hFr := hFr.tr hFr2; clear hFr2
  refine zV_eq (st2 := [.int v1.1, .ref rA]) rfl rfl rfl rfl ?_
  refine q_putI (idx := 50) (k := 10) (x := v1.1) hW (by decide) (zT_mem 307 (by decide +kernel) rfl) (by decide +kernel) (fun hm hW hFr2 => ?_)
  replace hFr := hFr.tr hFr2; clear hFr2
  refine zV_blk (pc' := 22) (lo' := [(3, .int (F 2)), (0, .ref rA), (1, .int x1), (2, .int x2)]) (st' := [.ref rA]) [.aload_n 0] (by decide +kernel) rfl ?_
  refine q_get (idx := 56) (k := 0) (v := .ref sA) hW (by decide) (zT_mem 297 (by decide +kernel) rfl) (fun _ _ _ => rfl) (by decide +kernel) ?_
  refine zV_blk (pc' := 26) (lo' := [(3, .int (F 2)), (0, .ref rA), (1, .int x1), (2, .int x2)]) (st' := [.ref rA, .ref sA]) [.aload_n 0] (by decide +kernel) rfl ?_
  refine q_get (idx := 56) (k := 0) (v := .ref sA) hW (by decide) (zT_mem 297 (by decide +kernel) rfl) (fun _ _ _ => rfl) (by decide +kernel) ?_
  refine zl_RX7_162 rfl (by decide +kernel) (fun b2 hw3 => ?_)
  obtain ⟨v4, hv4, h⟩ := zbind h
  refine q_cR (idx := 140) (rest := [.ref sA]) hW (cn_sees b2 2 (fun j => L_of.getD j 0) hw3 D cB cI cJ cD sA tA 0 0 v1.2 (fun _ => 0) tp (fun _ => 0) (fun _ => 0) n v4 hv4) oX9_sees rfl (zT_mem 354 (by decide +kernel) rfl) (zT_mem 355 (by decide +kernel) rfl) (zT_mem 356 (by decide +kernel) rfl) rfl rfl (Nat.le_of_ble_eq_true rfl) ⟨by decide, by decide⟩ (by decide +kernel) ?_
  refine zV_eq (st2 := [.int (zb v4), .ref sA]) rfl rfl rfl rfl ?_
  obtain ⟨v5, hv5, h⟩ := zbind h
  refine q_cC (idx := 144) (rest := []) hW (cn_takeIf s0 D cB cI cJ cD sA tA 0 0 v1.2 (fun _ => 0) tp (fun _ => 0) (fun _ => 0) n (zb v4) v5 hv5) oX9_takeIf rfl (zT_mem 422 (by decide +kernel) rfl) (zT_mem 423 (by decide +kernel) rfl) (zT_mem 424 (by decide +kernel) rfl) rfl rfl (Nat.le_of_ble_eq_true rfl) ⟨by decide, by decide⟩ (by decide +kernel) (fun hm hW hFr2 => ?_)
  replace hFr := hFr.tr hFr2; clear hFr2
  refine zV_eq (st2 := []) rfl rfl rfl rfl ?_
  refine zV_blk (pc' := 39) (lo' := [(3, .int (F 2)), (0, .ref rA), (1, .int x1), (2, .int x2)]) (st' := [.ref rA, .ref rA]) [.aload_n 0, .aload_n 0] (by decide +kernel) rfl ?_
  refine q_get (idx := 56) (k := 0) (v := .ref sA) hW (by decide) (zT_mem 297 (by decide +kernel) rfl) (fun _ _ _ => rfl) (by decide +kernel) ?_
  refine zV_blk (pc' := 44) (lo' := [(3, .int (F 2)), (0, .ref rA), (1, .int x1), (2, .int x2)]) (st' := [.int x1, .int 1, .ref sA, .ref rA]) [.iconst 1, .iload_n 1] (by decide +kernel) rfl ?_
  obtain ⟨v6, hv6, h⟩ := zbind h
  refine q_cC (idx := 100) (rest := [.ref rA]) hW (cn_takeNumber s0 D cB cI cJ cD sA tA 0 0 v5 (fun _ => 0) tp (fun _ => 0) (fun _ => 0) n 1 x1 v6 hv6) oX9_takeNumber rfl (zT_mem 409 (by decide +kernel) rfl) (zT_mem 410 (by decide +kernel) rfl) (zT_mem 411 (by decide +kernel) rfl) rfl rfl (Nat.le_of_ble_eq_true rfl) ⟨by decide, by decide⟩ (by decide +kernel) (fun hm hW hFr2 => ?_)
  replace hFr := hFr.tr hFr2; clear hFr2
  refine zV_eq (st2 := [.int v6.1, .ref rA]) rfl rfl rfl rfl ?_
  refine q_putI (idx := 53) (k := 11) (x := v6.1) hW (by decide) (zT_mem 308 (by decide +kernel) rfl) (by decide +kernel) (fun hm hW hFr2 => ?_)
  replace hFr := hFr.tr hFr2; clear hFr2
  refine zV_blk (pc' := 51) (lo' := [(3, .int (F 2)), (0, .ref rA), (1, .int x1), (2, .int x2)]) (st' := [.ref rA]) [.aload_n 0] (by decide +kernel) rfl ?_
  refine q_get (idx := 50) (k := 10) (v := .int ((upd (upd R 10 v1.1) 11 v6.1) 10)) hW (by decide) (zT_mem 307 (by decide +kernel) rfl) (fun _ _ _ => rfl) (by decide +kernel) ?_
  refine zV_blk (pc' := 55) (lo' := [(3, .int (F 2)), (0, .ref rA), (1, .int x1), (2, .int x2)]) (st' := [.ref rA, .int ((upd (upd R 10 v1.1) 11 v6.1) 10)]) [.aload_n 0] (by decide +kernel) rfl ?_
  refine q_get (idx := 53) (k := 11) (v := .int ((upd (upd R 10 v1.1) 11 v6.1) 11)) hW (by decide) (zT_mem 308 (by decide +kernel) rfl) (fun _ _ _ => rfl) (by decide +kernel) ?_
  refine zV_blk (pc' := 60) (lo' := [(3, .int (F 2)), (0, .ref rA), (1, .int x1), (2, .int x2)]) (st' := [.int (((upd (upd R 10 v1.1) 11 v6.1) 11) - x2), .int ((upd (upd R 10 v1.1) 11 v6.1) 10)]) [.iload_n 2, .isub] (by decide +kernel) rfl ?_
  refine zV_icmp_le (tgt := 72) (off := 12) (by decide +kernel) (by decide) (fun q => ?_) (fun q => ?_)
  · replace h := zif_pos q h
    clear q
    obtain rfl := Option.some.inj h
    exact zV_vret rfl (by decide +kernel) (hQ _ rfl _ _ _ hXX hW hFr)
  · replace h := zif_neg q h
    clear q
    refine zV_blk (pc' := 64) (lo' := [(3, .int (F 2)), (0, .ref rA), (1, .int x1), (2, .int x2)]) (st' := [.ref rA]) [.aload_n 0] (by decide +kernel) rfl ?_
    refine q_get (idx := 56) (k := 0) (v := .ref sA) hW (by decide) (zT_mem 297 (by decide +kernel) rfl) (fun _ _ _ => rfl) (by decide +kernel) ?_
    refine zV_blk (pc' := 69) (lo' := [(3, .int (F 2)), (0, .ref rA), (1, .int x1), (2, .int x2)]) (st' := [.int (F 2), .int 2, .ref sA]) [.iconst 2, .iload_n 3] (by decide +kernel) rfl ?_
    obtain ⟨v7, hv7, h⟩ := zbind h
    refine q_cC (idx := 81) (rest := []) hW (cn_fail s0 D cB cI cJ cD sA tA 0 0 v6.2 (fun _ => 0) tp (fun _ => 0) (fun _ => 0) 2 (F 2) v7 hv7) oX9_fail rfl (zT_mem 405 (by decide +kernel) rfl) (zT_mem 406 (by decide +kernel) rfl) (zT_mem 407 (by decide +kernel) rfl) rfl rfl (Nat.le_of_ble_eq_true rfl) ⟨by decide, by decide⟩ (by decide +kernel) (fun hm hW hFr2 => ?_)
    replace hFr := hFr.tr hFr2; clear hFr2
    refine zV_eq (st2 := []) rfl rfl rfl rfl ?_
    obtain rfl := Option.some.inj h
    exact zV_vret rfl (by decide +kernel) (hQ _ rfl _ _ _ hXX hW hFr)

def r_readShift (n : Nat) (R : Nat → Int32) (F : Nat → Int32) (tp : Nat → Int32) : Option (Int32 × (Nat → Int32)) := (n_sees 5 (fun j => L_shift.getD j 0) n F tp).bind (fun v3 => (if v3 = true then (n_advance n F tp).bind (fun v4 => (n_takeNumber n v4 tp 0 ((R 11) - 1)).bind (fun v5 => some (v5.1, v5.2))) else some (0, F)))
theorem oX7_readShift : zO yX7_readShift cX7_readShift 1 (some .int) 0 := ⟨zT_mem 431 (by decide +kernel) rfl, zT_mem 97 (by decide +kernel) rfl, by decide +kernel, by decide +kernel, by decide +kernel⟩
set_option maxHeartbeats 4000000 in
set_option maxRecDepth 100000 in
theorem cr_readShift (s0 : State) (D : va_G) (X : Nat → Prop) (cB cI cJ cD : ClassId) (rA sA tA : Nat) (R : Nat → Int32) (lv : vLaw) (mo : Option vArr) (ty : vTrue) (F : Nat → Int32) (tp : Nat → Int32) (n : Nat) (x : Int32 × (Nat → Int32)) (h : r_readShift n R F tp  = some x) {hi hm : zHp} {nx : Nat} {Q : Option Value → zHp → zHp → Nat → Prop} (hW : qW X cB cI rA sA tA R lv mo ty F tp hi hm) (hQ0 : ∀ (hi' hm' : zHp) (nx' : Nat), zX hi hi' → qW X cB cI rA sA tA R lv mo ty x.2 tp hi' hm' → lFr X hm hm' → Q (some (.int x.1)) hi' hm' nx') : zM s0 D (zty cB cI cJ cD) yX7_readShift cX7_readShift 1 (some .int) 5 109 0 0 [.ref rA] hi hm nx Q := by
  have hQ : ∀ r : Int32 × (Nat → Int32), x = r → ∀ (hi' hm' : zHp) (nx' : Nat), zX hi hi' → qW X cB cI rA sA tA R lv mo ty r.2 tp hi' hm' → lFr X hm hm' → Q (some (.int r.1)) hi' hm' nx' := fun r hr => by subst hr; exact hQ0
  clear hQ0
  have hXX : zX hi hi := zX.rf
  have hFr : lFr X hm hm := lFr.rf
  refine zM_of (by decide +kernel) (Nat.le_of_ble_eq_true rfl) ?_
  unfold r_readShift at h
  refine zV_eq (lo2 := [(0, .ref rA)]) rfl rfl rfl rfl ?_
  refine zV_blk (pc' := 1) (lo' := [(0, .ref rA)]) (st' := [.ref rA]) [.aload_n 0] (by decide +kernel) rfl ?_
  refine q_get (idx := 56) (k := 0) (v := .ref sA) hW (by decide) (zT_mem 297 (by decide +kernel) rfl) (fun _ _ _ => rfl) (by decide +kernel) ?_
  refine zl_RX7_164 rfl (by decide +kernel) (fun b1 hw2 => ?_)
  obtain ⟨v3, hv3, h⟩ := zbind h
  refine q_cR (idx := 140) (rest := []) hW (cn_sees b1 5 (fun j => L_shift.getD j 0) hw2 D cB cI cJ cD sA tA 0 0 F (fun _ => 0) tp (fun _ => 0) (fun _ => 0) n v3 hv3) oX9_sees rfl (zT_mem 354 (by decide +kernel) rfl) (zT_mem 355 (by decide +kernel) rfl) (zT_mem 356 (by decide +kernel) rfl) rfl rfl (Nat.le_of_ble_eq_true rfl) ⟨by decide, by decide⟩ (by decide +kernel) ?_
  refine zV_eq (st2 := [.int (zb v3)]) rfl rfl rfl rfl ?_
  refine zV_bif_ne (tgt := 14) (off := 5) (by decide +kernel) (by decide) (fun q => ?_) (fun q => ?_)
  · replace h := zif_pos q h
    clear q
    refine zV_blk (pc' := 15) (lo' := [(0, .ref rA)]) (st' := [.ref rA]) [.aload_n 0] (by decide +kernel) rfl ?_
    refine q_get (idx := 56) (k := 0) (v := .ref sA) hW (by decide) (zT_mem 297 (by decide +kernel) rfl) (fun _ _ _ => rfl) (by decide +kernel) ?_
    obtain ⟨v4, hv4, h⟩ := zbind h
    refine q_cC (idx := 60) (rest := []) hW (cn_advance s0 D cB cI cJ cD sA tA 0 0 F (fun _ => 0) tp (fun _ => 0) (fun _ => 0) n  v4 hv4) oX9_advance rfl (zT_mem 338 (by decide +kernel) rfl) (zT_mem 339 (by decide +kernel) rfl) (zT_mem 340 (by decide +kernel) rfl) rfl rfl (Nat.le_of_ble_eq_true rfl) ⟨by decide, by decide⟩ (by decide +kernel) (fun hm hW hFr2 => ?_)
    replace hFr := hFr.tr hFr2; clear hFr2
    refine zV_eq (st2 := []) rfl rfl rfl rfl ?_
    refine zV_blk (pc' := 22) (lo' := [(0, .ref rA)]) (st' := [.ref rA]) [.aload_n 0] (by decide +kernel) rfl ?_
    refine q_get (idx := 56) (k := 0) (v := .ref sA) hW (by decide) (zT_mem 297 (by decide +kernel) rfl) (fun _ _ _ => rfl) (by decide +kernel) ?_
    refine zV_blk (pc' := 27) (lo' := [(0, .ref rA)]) (st' := [.ref rA, .int 0, .ref sA]) [.iconst 0, .aload_n 0] (by decide +kernel) rfl ?_
    refine q_get (idx := 53) (k := 11) (v := .int (R 11)) hW (by decide) (zT_mem 308 (by decide +kernel) rfl) (fun _ _ _ => rfl) (by decide +kernel) ?_
    refine zV_blk (pc' := 32) (lo' := [(0, .ref rA)]) (st' := [.int ((R 11) - 1), .int 0, .ref sA]) [.iconst 1, .isub] (by decide +kernel) rfl ?_
    obtain ⟨v5, hv5, h⟩ := zbind h
    refine q_cC (idx := 100) (rest := []) hW (cn_takeNumber s0 D cB cI cJ cD sA tA 0 0 v4 (fun _ => 0) tp (fun _ => 0) (fun _ => 0) n 0 ((R 11) - 1) v5 hv5) oX9_takeNumber rfl (zT_mem 409 (by decide +kernel) rfl) (zT_mem 410 (by decide +kernel) rfl) (zT_mem 411 (by decide +kernel) rfl) rfl rfl (Nat.le_of_ble_eq_true rfl) ⟨by decide, by decide⟩ (by decide +kernel) (fun hm hW hFr2 => ?_)
    replace hFr := hFr.tr hFr2; clear hFr2
    refine zV_eq (st2 := [.int v5.1]) rfl rfl rfl rfl ?_
    obtain rfl := Option.some.inj h
    exact zV_iret rfl (by decide +kernel) (hQ _ rfl _ _ _ hXX hW hFr)
  · replace h := zif_neg q h
    clear q
    refine zV_blk (pc' := 13) (lo' := [(0, .ref rA)]) (st' := [.int 0]) [.iconst 0] (by decide +kernel) rfl ?_
    obtain rfl := Option.some.inj h
    exact zV_iret rfl (by decide +kernel) (hQ _ rfl _ _ _ hXX hW hFr)

def r_readWeek (n : Nat) (R : Nat → Int32) (F : Nat → Int32) (tp : Nat → Int32) : Option ((Nat → Int32) × (Nat → Int32)) := (n_takeNumber n F tp 1 10).bind (fun v1 => (n_sees 2 (fun j => L_at.getD j 0) n v1.2 tp).bind (fun v4 => (n_takeIf n v1.2 tp (zb v4)).bind (fun v5 => (n_takeNumber n v5 tp 0 (((upd R 7 v1.1) 7) - 1)).bind (fun v6 => some ((upd (upd R 7 v1.1) 8 v6.1), v6.2)))))
theorem oX7_readWeek : zO yX7_readWeek cX7_readWeek 1 none 0 := ⟨zT_mem 503 (by decide +kernel) rfl, zT_mem 97 (by decide +kernel) rfl, by decide +kernel, by decide +kernel, by decide +kernel⟩
set_option maxHeartbeats 4000000 in
set_option maxRecDepth 100000 in
theorem cr_readWeek (s0 : State) (D : va_G) (X : Nat → Prop) (cB cI cJ cD : ClassId) (rA sA tA : Nat) (R : Nat → Int32) (lv : vLaw) (mo : Option vArr) (ty : vTrue) (F : Nat → Int32) (tp : Nat → Int32) (n : Nat) (x : (Nat → Int32) × (Nat → Int32)) (h : r_readWeek n R F tp  = some x) {hi hm : zHp} {nx : Nat} {Q : Option Value → zHp → zHp → Nat → Prop} (hW : qW X cB cI rA sA tA R lv mo ty F tp hi hm) (hQ0 : ∀ (hi' hm' : zHp) (nx' : Nat), zX hi hi' → qW X cB cI rA sA tA x.1 lv mo ty x.2 tp hi' hm' → lFr X hm hm' → Q none hi' hm' nx') : zM s0 D (zty cB cI cJ cD) yX7_readWeek cX7_readWeek 1 none 5 109 0 0 [.ref rA] hi hm nx Q := by
  have hQ : ∀ r : (Nat → Int32) × (Nat → Int32), x = r → ∀ (hi' hm' : zHp) (nx' : Nat), zX hi hi' → qW X cB cI rA sA tA r.1 lv mo ty r.2 tp hi' hm' → lFr X hm hm' → Q none hi' hm' nx' := fun r hr => by subst hr; exact hQ0
  clear hQ0
  have hXX : zX hi hi := zX.rf
  have hFr : lFr X hm hm := lFr.rf
  refine zM_of (by decide +kernel) (Nat.le_of_ble_eq_true rfl) ?_
  unfold r_readWeek at h
  refine zV_eq (lo2 := [(0, .ref rA)]) rfl rfl rfl rfl ?_
  refine zV_blk (pc' := 2) (lo' := [(0, .ref rA)]) (st' := [.ref rA, .ref rA]) [.aload_n 0, .aload_n 0] (by decide +kernel) rfl ?_
  refine q_get (idx := 56) (k := 0) (v := .ref sA) hW (by decide) (zT_mem 297 (by decide +kernel) rfl) (fun _ _ _ => rfl) (by decide +kernel) ?_
  refine zV_blk (pc' := 8) (lo' := [(0, .ref rA)]) (st' := [.int 10, .int 1, .ref sA, .ref rA]) [.iconst 1, .bipush 10] (by decide +kernel) rfl ?_
  obtain ⟨v1, hv1, h⟩ := zbind h
  refine q_cC (idx := 100) (rest := [.ref rA]) hW (cn_takeNumber s0 D cB cI cJ cD sA tA 0 0 F (fun _ => 0) tp (fun _ => 0) (fun _ => 0) n 1 10 v1 hv1) oX9_takeNumber rfl (zT_mem 409 (by decide +kernel) rfl) (zT_mem 410 (by decide +kernel) rfl) (zT_mem 411 (by decide +kernel) rfl) rfl rfl (Nat.le_of_ble_eq_true rfl) ⟨by decide, by decide⟩ (by decide +kernel) (fun hm hW hFr2 => ?_)
  replace hFr := hFr.tr hFr2; clear hFr2
  refine zV_eq (st2 := [.int v1.1, .ref rA]) rfl rfl rfl rfl ?_
  refine q_putI (idx := 35) (k := 7) (x := v1.1) hW (by decide) (zT_mem 304 (by decide +kernel) rfl) (by decide +kernel) (fun hm hW hFr2 => ?_)
  replace hFr := hFr.tr hFr2; clear hFr2
  refine zV_blk (pc' := 15) (lo' := [(0, .ref rA)]) (st' := [.ref rA]) [.aload_n 0] (by decide +kernel) rfl ?_
  refine q_get (idx := 56) (k := 0) (v := .ref sA) hW (by decide) (zT_mem 297 (by decide +kernel) rfl) (fun _ _ _ => rfl) (by decide +kernel) ?_
  refine zV_blk (pc' := 19) (lo' := [(0, .ref rA)]) (st' := [.ref rA, .ref sA]) [.aload_n 0] (by decide +kernel) rfl ?_
  refine q_get (idx := 56) (k := 0) (v := .ref sA) hW (by decide) (zT_mem 297 (by decide +kernel) rfl) (fun _ _ _ => rfl) (by decide +kernel) ?_
  refine zl_RX7_193 rfl (by decide +kernel) (fun b2 hw3 => ?_)
  obtain ⟨v4, hv4, h⟩ := zbind h
  refine q_cR (idx := 140) (rest := [.ref sA]) hW (cn_sees b2 2 (fun j => L_at.getD j 0) hw3 D cB cI cJ cD sA tA 0 0 v1.2 (fun _ => 0) tp (fun _ => 0) (fun _ => 0) n v4 hv4) oX9_sees rfl (zT_mem 354 (by decide +kernel) rfl) (zT_mem 355 (by decide +kernel) rfl) (zT_mem 356 (by decide +kernel) rfl) rfl rfl (Nat.le_of_ble_eq_true rfl) ⟨by decide, by decide⟩ (by decide +kernel) ?_
  refine zV_eq (st2 := [.int (zb v4), .ref sA]) rfl rfl rfl rfl ?_
  obtain ⟨v5, hv5, h⟩ := zbind h
  refine q_cC (idx := 144) (rest := []) hW (cn_takeIf s0 D cB cI cJ cD sA tA 0 0 v1.2 (fun _ => 0) tp (fun _ => 0) (fun _ => 0) n (zb v4) v5 hv5) oX9_takeIf rfl (zT_mem 422 (by decide +kernel) rfl) (zT_mem 423 (by decide +kernel) rfl) (zT_mem 424 (by decide +kernel) rfl) rfl rfl (Nat.le_of_ble_eq_true rfl) ⟨by decide, by decide⟩ (by decide +kernel) (fun hm hW hFr2 => ?_)
  replace hFr := hFr.tr hFr2; clear hFr2
  refine zV_eq (st2 := []) rfl rfl rfl rfl ?_
  refine zV_blk (pc' := 32) (lo' := [(0, .ref rA)]) (st' := [.ref rA, .ref rA]) [.aload_n 0, .aload_n 0] (by decide +kernel) rfl ?_
  refine q_get (idx := 56) (k := 0) (v := .ref sA) hW (by decide) (zT_mem 297 (by decide +kernel) rfl) (fun _ _ _ => rfl) (by decide +kernel) ?_
  refine zV_blk (pc' := 37) (lo' := [(0, .ref rA)]) (st' := [.ref rA, .int 0, .ref sA, .ref rA]) [.iconst 0, .aload_n 0] (by decide +kernel) rfl ?_
  refine q_get (idx := 35) (k := 7) (v := .int ((upd R 7 v1.1) 7)) hW (by decide) (zT_mem 304 (by decide +kernel) rfl) (fun _ _ _ => rfl) (by decide +kernel) ?_
  refine zV_blk (pc' := 42) (lo' := [(0, .ref rA)]) (st' := [.int (((upd R 7 v1.1) 7) - 1), .int 0, .ref sA, .ref rA]) [.iconst 1, .isub] (by decide +kernel) rfl ?_
  obtain ⟨v6, hv6, h⟩ := zbind h
  refine q_cC (idx := 100) (rest := [.ref rA]) hW (cn_takeNumber s0 D cB cI cJ cD sA tA 0 0 v5 (fun _ => 0) tp (fun _ => 0) (fun _ => 0) n 0 (((upd R 7 v1.1) 7) - 1) v6 hv6) oX9_takeNumber rfl (zT_mem 409 (by decide +kernel) rfl) (zT_mem 410 (by decide +kernel) rfl) (zT_mem 411 (by decide +kernel) rfl) rfl rfl (Nat.le_of_ble_eq_true rfl) ⟨by decide, by decide⟩ (by decide +kernel) (fun hm hW hFr2 => ?_)
  replace hFr := hFr.tr hFr2; clear hFr2
  refine zV_eq (st2 := [.int v6.1, .ref rA]) rfl rfl rfl rfl ?_
  refine q_putI (idx := 38) (k := 8) (x := v6.1) hW (by decide) (zT_mem 305 (by decide +kernel) rfl) (by decide +kernel) (fun hm hW hFr2 => ?_)
  replace hFr := hFr.tr hFr2; clear hFr2
  obtain rfl := Option.some.inj h
  exact zV_vret rfl (by decide +kernel) (hQ _ rfl _ _ _ hXX hW hFr)

