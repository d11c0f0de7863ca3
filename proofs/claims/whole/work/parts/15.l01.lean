/-! ===== the class's object: its designs ===== -/
def zRf {α : Type} (P : Nat → α → Prop) (r : Option Nat) (x : Option α) : Prop := (r = none ∧ x = none) ∨ ∃ (a : Nat) (z : α), r = some a ∧ x = some z ∧ P a z
theorem zRf.mono {α : Type} {P P' : Nat → α → Prop} (h : ∀ a z, P a z → P' a z) {r : Option Nat} {x : Option α} (i : zRf P r x) : zRf P' r x := by
  rcases i with i | ⟨a, z, h1, h2, h3⟩
  · exact Or.inl i
  · exact Or.inr ⟨a, z, h1, h2, h a z h3⟩
def zOm {α β : Type} (v : Option α) (n : Option β) (f : α → Option β) : Option β := match v with
  | none => n
  | some x => f x
theorem zOm_none {α β : Type} {n : Option β} {f : α → Option β} {r : β} (h : zOm none n f = some r) : n = some r := h
theorem zOm_some {α β : Type} {n : Option β} {f : α → Option β} {z : α} {r : β} (h : zOm (some z) n f = some r) : f z = some r := h
theorem z_in11 : ∀ w ∈ u_ws RX11 TX11 14, w ∈ zT := zT_all _ [170, 172, 174, 176, 178, 180, 182, 184, 186, 188, 190, 192, 194, 196] (by decide +kernel) (by decide +kernel)
def iLD (cI cD : ClassId) (hi hm : zHp) (a : Nat) (dv : Nat → Option vDes) : Prop := ∃ (f0 f1 f2 f3 : Value) (l2 : Nat) (fr : List Value) (dz : Nat → Option Nat), fr.length = 9 ∧ hm a = some (.inr (11, f0 :: f1 :: f2 :: f3 :: .ref l2 :: fr)) ∧ hm l2 = some (.inl (cD, 6, .inr (.inr (.inr (.inr dz))))) ∧ ∀ i, i < 6 → zRf (iDes cI hi) (dz i) (dv i)
theorem iLD.mono {cI cD : ClassId} {hi hi' hm : zHp} (x : zX hi hi') {a : Nat} {dv : Nat → Option vDes} (i : iLD cI cD hi hm a dv) : iLD cI cD hi' hm a dv := by
  obtain ⟨f0, f1, f2, f3, l2, fr, dz, h0, h1, h2, h3⟩ := i
  exact ⟨f0, f1, f2, f3, l2, fr, dz, h0, h1, h2, fun i hi => (h3 i hi).mono (fun a z h => h.mono x)⟩
def k_designAt (dv : Nat → Option vDes) (s : Int32) : Option (Option vDes) := (k_isSlot s).bind (fun b => if b = true then zck (zin s 6) (some (dv s.toNatClampNeg)) else some none)
theorem oX11_designAt : zO yX11_designAt cX11_designAt 2 (some (.object "LeapDesigner$Design")) 1 := ⟨zT_mem 606 (by decide +kernel) rfl, zT_mem 89 (by decide +kernel) rfl, by decide +kernel, by decide +kernel, by decide +kernel⟩
set_option maxHeartbeats 4000000 in
set_option maxRecDepth 100000 in
theorem ck_designAt (s0 : State) (D : va_G) (cB cI cJ cD : ClassId) (dv : Nat → Option vDes) (x1 : Int32) (a0 : Nat) (x : Option vDes) (h : k_designAt dv x1 = some x) {hi hm : zHp} {nx : Nat} {Q : Option Value → zHp → zHp → Nat → Prop} (ho : iLD cI cD hi hm a0 dv) (hQ : ∀ r, zRf (iDes cI hi) r x → Q (some (va_rf r)) hi hm nx) : zM s0 D (zty cB cI cJ cD) yX11_designAt cX11_designAt 2 (some (.object "LeapDesigner$Design")) 1 20 0 0 [.ref a0, .int x1] hi hm nx Q := by
  refine zM_of (by decide +kernel) (Nat.le_of_ble_eq_true rfl) ?_
  unfold k_designAt at h
  obtain ⟨f0, f1, f2, f3, l2, fr, dz, hl, h1, h2, h3⟩ := ho
  refine zV_eq (lo2 := [(0, .ref a0), (1, .int x1)]) rfl rfl rfl rfl ?_
  refine zV_blk (pc' := 1) (lo' := [(0, .ref a0), (1, .int x1)]) (st' := [.int x1]) [.iload_n 1] (by decide +kernel) rfl ?_
  obtain ⟨v1, hv1, h⟩ := zbind h
  refine zV_roS (idx := 67) (rest := []) (fun Q2 hQ2 => ck_isSlot s0 D cB cI cJ cD x1 v1 hv1 hQ2) oX11_isSlot (zT_mem 215 (by decide +kernel) rfl) (zT_mem 216 (by decide +kernel) rfl) rfl rfl (Nat.le_of_ble_eq_true rfl) ⟨by decide, by decide⟩ (by decide +kernel) ?_
  refine zV_eq (st2 := [.int (zb v1)]) rfl rfl rfl rfl ?_
  refine zV_bif_eq (tgt := 16) (off := 12) (by decide +kernel) (by decide) (fun q => ?_) (fun q => ?_)
  · replace h := zif_neg q h
    refine zV_blk (pc' := 17) (lo' := [(0, .ref a0), (1, .int x1)]) (st' := [.null]) [.aconst_null] (by decide +kernel) rfl ?_
    obtain rfl := Option.some.inj h
    exact zV_aret rfl (Or.inl ⟨_, rfl⟩) (Or.inl rfl) (by decide +kernel) (hQ none (Or.inl ⟨rfl, rfl⟩))
  · replace h := zif_pos q h
    refine zV_blk (pc' := 8) (lo' := [(0, .ref a0), (1, .int x1)]) (st' := [.ref a0]) [.aload_n 0] (by decide +kernel) rfl ?_
    refine zV_get (ci := 11) (idx := 25) (k := 4) (N := 14) (fs := f0 :: f1 :: f2 :: f3 :: .ref l2 :: fr) (v := .ref l2) (Or.inr h1) rfl z_in11 (by decide) (zT_mem 160 (by decide +kernel) rfl) rfl (by decide +kernel) ?_
    refine zV_blk (pc' := 12) (lo' := [(0, .ref a0), (1, .int x1)]) (st' := [.int x1, .ref l2]) [.iload_n 1] (by decide +kernel) rfl ?_
    obtain ⟨hz, h⟩ := zck_some h
    refine zV_aald (C := RX0) 3 (Or.inr h2) rfl (zin_in hz) (by decide +kernel) ?_
    refine zV_goto (tgt := 17) (off := 4) (by decide +kernel) (by decide) ?_
    obtain rfl := Option.some.inj h
    have hlt : x1.toNatClampNeg < 6 := by
      simp only [zin, Bool.and_eq_true, decide_eq_true_eq] at hz
      exact hz.2
    have h5 := h3 _ hlt
    refine zV_aret rfl (Or.inl ⟨_, rfl⟩) ?_ (by decide +kernel) (hQ _ h5)
    cases dz x1.toNatClampNeg with
    | none => exact Or.inl rfl
    | some a => exact Or.inr ⟨a, rfl⟩
section ZLD
variable {s0 : State} {D : va_G} {cB cI cJ cD : ClassId} {y : MethodName} {cc : ByteArray} {nL : Nat} {ret : Option FieldType} {rF rL mc ms pc idx : Nat} {lo : List (Nat × Value)} {st rest : List Value} {hi hm : zHp} {nx : Nat} {Q : Option Value → zHp → zHp → Nat → Prop}
theorem zV_designAt {dv : Nat → Option vDes} {a0 : Nat} {s : Int32} (x : Option vDes) (h : k_designAt dv s = some x) (ho : iLD cI cD hi hm a0 dv) (hlink : Cond.methodLink y.cls idx yX11_designAt ∈ zT) (hst : st = ([.int s] : List Value).reverse ++ .ref a0 :: rest) (hrest : (rest.map fun v => v.category).sum ≤ 8) (hR : 1 + 1 ≤ rF ∧ 41 ≤ rL) (hd : decode cc pc = .ok (.invokevirtual idx, 3))
    (kn : x = none → zV s0 D (zty cB cI cJ cD) y cc nL ret rF rL mc ms (pc + 3) lo (.null :: rest) hi hm nx Q) (ks : ∀ a z, x = some z → iDes cI hi a z → zV s0 D (zty cB cI cJ cD) y cc nL ret rF rL mc ms (pc + 3) lo (.ref a :: rest) hi hm nx Q) : zV s0 D (zty cB cI cJ cD) y cc nL ret rF rL mc ms pc lo st hi hm nx Q := by
  obtain ⟨f0, f1, f2, f3, l2, fr, dz, hl, h1, h2, h3⟩ := id ho
  refine zV_less (mc' := mc) (ms' := ms) (Nat.le_refl _) (Nat.le_refl _) (zV_callV (As := [.int s]) (rest := rest) (ck_designAt s0 D cB cI cJ cD dv s a0 x h (Q := fun v' hi' hm' nx' => hi' = hi ∧ hm' = hm ∧ nx' = nx ∧ ∃ r, v' = some (va_rf r) ∧ zRf (iDes cI hi) r x) ho (fun r hr => ⟨rfl, rfl, rfl, r, rfl, hr⟩)) oX11_designAt (Or.inr h1) (T := TX11) (N := 14) rfl hlink (zT_mem 605 (by decide +kernel) rfl) (zT_mem 11 (by decide +kernel) rfl) rfl hst hrest ⟨by omega, by omega⟩ ⟨Nat.zero_le _, Nat.zero_le _⟩ hd ?_)
  rintro v' hi' hm' nx' ⟨rfl, rfl, rfl, r, rfl, hr⟩
  rcases hr with ⟨rfl, hx⟩ | ⟨a, z, rfl, hx, hz⟩
  · exact kn hx
  · exact ks a z hx hz
end ZLD

def l_leap (n : Nat) (x0 : (Nat → Option vDes)) (x1 : Int32) (x2 : Int32) : Option (Int32) := (k_designAt x0 x1).bind (fun v1 => zOm v1 (some (-1)) (fun z3 => (k_isYear x2).bind (fun v5 => (if v5 = true then (d_isLeap n z3.2.1 x2).bind (fun v13 => (if v13 = true then some 1 else some 0)) else some (-1)))))
theorem oX11_leap : zO yX11_leap cX11_leap 4 (some .int) 2 := ⟨zT_mem 1008 (by decide +kernel) rfl, zT_mem 89 (by decide +kernel) rfl, by decide +kernel, by decide +kernel, by decide +kernel⟩
set_option maxHeartbeats 4000000 in
set_option maxRecDepth 100000 in
theorem cl_leap (s0 : State) (D : va_G) (cB cI cJ cD : ClassId) (n : Nat) (x0 : (Nat → Option vDes)) (x1 : Int32) (x2 : Int32) (a0 : Nat) (x : Int32) (h : l_leap n x0 x1 x2 = some x) {hi hm : zHp} {nx : Nat} {Q : Option Value → zHp → zHp → Nat → Prop} (ho0 : iLD cI cD hi hm a0 x0) (hQ0 : ∀ (hi' : zHp) (nx' : Nat), zX hi hi' → Q (some (.int x)) hi' hm nx') : zM s0 D (zty cB cI cJ cD) yX11_leap cX11_leap 4 (some .int) 2 44 0 0 [.ref a0, .int x1, .int x2] hi hm nx Q := by
  have hQ : ∀ r : Int32, x = r → ∀ (hi' : zHp) (nx' : Nat), zX hi hi' → Q (some (.int r)) hi' hm nx' := fun r hr => by subst hr; exact hQ0
  clear hQ0
  have hXX : zX hi hi := zX.rf
  refine zM_of (by decide +kernel) (Nat.le_of_ble_eq_true rfl) ?_
  unfold l_leap at h
  refine zV_eq (lo2 := [(0, .ref a0), (1, .int x1), (2, .int x2)]) rfl rfl rfl rfl ?_
  refine zV_blk (pc' := 2) (lo' := [(0, .ref a0), (1, .int x1), (2, .int x2)]) (st' := [.int x1, .ref a0]) [.aload_n 0, .iload_n 1] (by decide +kernel) rfl ?_
  obtain ⟨v1, hv1, h⟩ := zbind h
  refine zV_designAt (idx := 105) (rest := []) v1 hv1 ho0 (zT_mem 603 (by decide +kernel) rfl) rfl (Nat.le_of_ble_eq_true rfl) ⟨by decide, by decide⟩ (by decide +kernel) (fun hx => ?_) (fun b2 z3 hx ho4 => ?_)
  · subst hx; replace h := zOm_none h
    refine zV_blk (pc' := 7) (lo' := [(3, .null), (0, .ref a0), (1, .int x1), (2, .int x2)]) (st' := [.null]) [.astore_n 3, .aload_n 3] (by decide +kernel) rfl ?_
    refine zV_ifnull (r := none) (tgt := 17) (off := 10) (by decide +kernel) (by decide) (fun _ => ?_) (fun _ q => by cases q)
    refine zV_blk (pc' := 18) (lo' := [(3, .null), (0, .ref a0), (1, .int x1), (2, .int x2)]) (st' := [.int (-1)]) [.iconst (-1)] (by decide +kernel) rfl ?_
    obtain rfl := Option.some.inj h
    exact zV_iret rfl (by decide +kernel) (hQ _ rfl _ _ hXX)
  · subst hx; replace h := zOm_some h
    refine zV_blk (pc' := 7) (lo' := [(3, .ref b2), (0, .ref a0), (1, .int x1), (2, .int x2)]) (st' := [.ref b2]) [.astore_n 3, .aload_n 3] (by decide +kernel) rfl ?_
    refine zV_ifnull (r := some b2) (tgt := 17) (off := 10) (by decide +kernel) (by decide) (fun q => by cases q) (fun _ _ => ?_)
    refine zV_blk (pc' := 11) (lo' := [(3, .ref b2), (0, .ref a0), (1, .int x1), (2, .int x2)]) (st' := [.int x2]) [.iload_n 2] (by decide +kernel) rfl ?_
    obtain ⟨v5, hv5, h⟩ := zbind h
    refine zV_roS (idx := 220) (rest := []) (fun Q2 hQ2 => ck_isYear s0 D cB cI cJ cD x2  v5 hv5  hQ2) oX11_isYear (zT_mem 1009 (by decide +kernel) rfl) (zT_mem 1010 (by decide +kernel) rfl) rfl rfl (Nat.le_of_ble_eq_true rfl) ⟨by decide, by decide⟩ (by decide +kernel) ?_
    refine zV_eq (st2 := [.int (zb v5)]) rfl rfl rfl rfl ?_
    refine zV_bif_ne (tgt := 19) (off := 5) (by decide +kernel) (by decide) (fun q => ?_) (fun q => ?_)
    · replace h := zif_pos q h
      clear q
      refine zV_blk (pc' := 20) (lo' := [(3, .ref b2), (0, .ref a0), (1, .int x1), (2, .int x2)]) (st' := [.ref b2]) [.aload_n 3] (by decide +kernel) rfl ?_
      obtain ⟨b6, b7, b8, hc9, hc10, hc11, hc12⟩ := ho4
      refine zV_get (ci := 0) (idx := 95) (k := 1) (N := 3) (fs := [.ref b6, .ref b7, .ref b8]) (v := .ref b7) (Or.inl hc9) rfl z_in0 (by decide) (zT_mem 566 (by decide +kernel) rfl) rfl (by decide +kernel) ?_
      refine zV_blk (pc' := 24) (lo' := [(3, .ref b2), (0, .ref a0), (1, .int x1), (2, .int x2)]) (st' := [.int x2, .ref b7]) [.iload_n 2] (by decide +kernel) rfl ?_
      obtain ⟨v13, hv13, h⟩ := zbind h
      refine dc_isLeap s0 D cB cI cJ cD (idx := 223) n z3.2.1 x2 b7 v13 hv13 hc11 (zT_mem 1014 (by decide +kernel) rfl) (rest := []) rfl (Nat.le_of_ble_eq_true rfl) ⟨by decide, by decide⟩ (by decide +kernel) ?_
      refine zV_eq (st2 := [.int (zb v13)]) rfl rfl rfl rfl ?_
      refine zV_bif_eq (tgt := 34) (off := 7) (by decide +kernel) (by decide) (fun q => ?_) (fun q => ?_)
      · replace h := zif_neg q h
        clear q
        refine zV_blk (pc' := 35) (lo' := [(3, .ref b2), (0, .ref a0), (1, .int x1), (2, .int x2)]) (st' := [.int 0]) [.iconst 0] (by decide +kernel) rfl ?_
        obtain rfl := Option.some.inj h
        exact zV_iret rfl (by decide +kernel) (hQ _ rfl _ _ hXX)
      · replace h := zif_pos q h
        clear q
        refine zV_blk (pc' := 31) (lo' := [(3, .ref b2), (0, .ref a0), (1, .int x1), (2, .int x2)]) (st' := [.int 1]) [.iconst 1] (by decide +kernel) rfl ?_
        refine zV_goto (tgt := 35) (off := 4) (by decide +kernel) (by decide) ?_
        obtain rfl := Option.some.inj h
        exact zV_iret rfl (by decide +kernel) (hQ _ rfl _ _ hXX)
    · replace h := zif_neg q h
      clear q
      refine zV_blk (pc' := 18) (lo' := [(3, .ref b2), (0, .ref a0), (1, .int x1), (2, .int x2)]) (st' := [.int (-1)]) [.iconst (-1)] (by decide +kernel) rfl ?_
      obtain rfl := Option.some.inj h
      exact zV_iret rfl (by decide +kernel) (hQ _ rfl _ _ hXX)

def l_leaps (n : Nat) (x0 : (Nat → Option vDes)) (x1 : Int32) (x2 : Int32) (x3 : Int32) : Option (Int32) := (k_designAt x0 x1).bind (fun v1 => zOm v1 (some (-1)) (fun z3 => (k_isYear x2).bind (fun v5 => (if v5 = true then (k_isYear x3).bind (fun v6 => (if v6 = true then (if (x2 : Int32) < (x3 : Int32) then (d_leapsBefore n z3.2.1 x3).bind (fun v14 => (d_leapsBefore n z3.2.1 x2).bind (fun v15 => some (v14 - v15))) else some 0) else some (-1))) else some (-1)))))
theorem oX11_leaps : zO yX11_leaps cX11_leaps 5 (some .int) 3 := ⟨zT_mem 1030 (by decide +kernel) rfl, zT_mem 89 (by decide +kernel) rfl, by decide +kernel, by decide +kernel, by decide +kernel⟩
set_option maxHeartbeats 4000000 in
set_option maxRecDepth 100000 in
theorem cl_leaps (s0 : State) (D : va_G) (cB cI cJ cD : ClassId) (n : Nat) (x0 : (Nat → Option vDes)) (x1 : Int32) (x2 : Int32) (x3 : Int32) (a0 : Nat) (x : Int32) (h : l_leaps n x0 x1 x2 x3 = some x) {hi hm : zHp} {nx : Nat} {Q : Option Value → zHp → zHp → Nat → Prop} (ho0 : iLD cI cD hi hm a0 x0) (hQ0 : ∀ (hi' : zHp) (nx' : Nat), zX hi hi' → Q (some (.int x)) hi' hm nx') : zM s0 D (zty cB cI cJ cD) yX11_leaps cX11_leaps 5 (some .int) 2 46 0 0 [.ref a0, .int x1, .int x2, .int x3] hi hm nx Q := by
  have hQ : ∀ r : Int32, x = r → ∀ (hi' : zHp) (nx' : Nat), zX hi hi' → Q (some (.int r)) hi' hm nx' := fun r hr => by subst hr; exact hQ0
  clear hQ0
  have hXX : zX hi hi := zX.rf
  refine zM_of (by decide +kernel) (Nat.le_of_ble_eq_true rfl) ?_
  unfold l_leaps at h
  refine zV_eq (lo2 := [(0, .ref a0), (1, .int x1), (2, .int x2), (3, .int x3)]) rfl rfl rfl rfl ?_
  refine zV_blk (pc' := 2) (lo' := [(0, .ref a0), (1, .int x1), (2, .int x2), (3, .int x3)]) (st' := [.int x1, .ref a0]) [.aload_n 0, .iload_n 1] (by decide +kernel) rfl ?_
  obtain ⟨v1, hv1, h⟩ := zbind h
  refine zV_designAt (idx := 105) (rest := []) v1 hv1 ho0 (zT_mem 603 (by decide +kernel) rfl) rfl (Nat.le_of_ble_eq_true rfl) ⟨by decide, by decide⟩ (by decide +kernel) (fun hx => ?_) (fun b2 z3 hx ho4 => ?_)
  · subst hx; replace h := zOm_none h
    refine zV_blk (pc' := 9) (lo' := [(4, .null), (0, .ref a0), (1, .int x1), (2, .int x2), (3, .int x3)]) (st' := [.null]) [.astore 4, .aload 4] (by decide +kernel) rfl ?_
    refine zV_ifnull (r := none) (tgt := 26) (off := 17) (by decide +kernel) (by decide) (fun _ => ?_) (fun _ q => by cases q)
    refine zV_blk (pc' := 27) (lo' := [(4, .null), (0, .ref a0), (1, .int x1), (2, .int x2), (3, .int x3)]) (st' := [.int (-1)]) [.iconst (-1)] (by decide +kernel) rfl ?_
    obtain rfl := Option.some.inj h
    exact zV_iret rfl (by decide +kernel) (hQ _ rfl _ _ hXX)
  · subst hx; replace h := zOm_some h
    refine zV_blk (pc' := 9) (lo' := [(4, .ref b2), (0, .ref a0), (1, .int x1), (2, .int x2), (3, .int x3)]) (st' := [.ref b2]) [.astore 4, .aload 4] (by decide +kernel) rfl ?_
    refine zV_ifnull (r := some b2) (tgt := 26) (off := 17) (by decide +kernel) (by decide) (fun q => by cases q) (fun _ _ => ?_)
    refine zV_blk (pc' := 13) (lo' := [(4, .ref b2), (0, .ref a0), (1, .int x1), (2, .int x2), (3, .int x3)]) (st' := [.int x2]) [.iload_n 2] (by decide +kernel) rfl ?_
    obtain ⟨v5, hv5, h⟩ := zbind h
    refine zV_roS (idx := 220) (rest := []) (fun Q2 hQ2 => ck_isYear s0 D cB cI cJ cD x2  v5 hv5  hQ2) oX11_isYear (zT_mem 1009 (by decide +kernel) rfl) (zT_mem 1010 (by decide +kernel) rfl) rfl rfl (Nat.le_of_ble_eq_true rfl) ⟨by decide, by decide⟩ (by decide +kernel) ?_
    refine zV_eq (st2 := [.int (zb v5)]) rfl rfl rfl rfl ?_
    refine zV_bif_eq (tgt := 26) (off := 10) (by decide +kernel) (by decide) (fun q => ?_) (fun q => ?_)
    · replace h := zif_neg q h
      clear q
      refine zV_blk (pc' := 27) (lo' := [(4, .ref b2), (0, .ref a0), (1, .int x1), (2, .int x2), (3, .int x3)]) (st' := [.int (-1)]) [.iconst (-1)] (by decide +kernel) rfl ?_
      obtain rfl := Option.some.inj h
      exact zV_iret rfl (by decide +kernel) (hQ _ rfl _ _ hXX)
    · replace h := zif_pos q h
      clear q
      refine zV_blk (pc' := 20) (lo' := [(4, .ref b2), (0, .ref a0), (1, .int x1), (2, .int x2), (3, .int x3)]) (st' := [.int x3]) [.iload_n 3] (by decide +kernel) rfl ?_
      obtain ⟨v6, hv6, h⟩ := zbind h
      refine zV_roS (idx := 220) (rest := []) (fun Q2 hQ2 => ck_isYear s0 D cB cI cJ cD x3  v6 hv6  hQ2) oX11_isYear (zT_mem 1009 (by decide +kernel) rfl) (zT_mem 1010 (by decide +kernel) rfl) rfl rfl (Nat.le_of_ble_eq_true rfl) ⟨by decide, by decide⟩ (by decide +kernel) ?_
      refine zV_eq (st2 := [.int (zb v6)]) rfl rfl rfl rfl ?_
      refine zV_bif_ne (tgt := 28) (off := 5) (by decide +kernel) (by decide) (fun q => ?_) (fun q => ?_)
      · replace h := zif_pos q h
        clear q
        refine zV_blk (pc' := 30) (lo' := [(4, .ref b2), (0, .ref a0), (1, .int x1), (2, .int x2), (3, .int x3)]) (st' := [.int x2, .int x3]) [.iload_n 3, .iload_n 2] (by decide +kernel) rfl ?_
        refine zV_icmp_gt (tgt := 37) (off := 7) (by decide +kernel) (by decide) (fun q => ?_) (fun q => ?_)
        · replace h := zif_pos q h
          clear q
          refine zV_blk (pc' := 39) (lo' := [(4, .ref b2), (0, .ref a0), (1, .int x1), (2, .int x2), (3, .int x3)]) (st' := [.ref b2]) [.aload 4] (by decide +kernel) rfl ?_
          obtain ⟨b7, b8, b9, hc10, hc11, hc12, hc13⟩ := ho4
          refine zV_get (ci := 0) (idx := 95) (k := 1) (N := 3) (fs := [.ref b7, .ref b8, .ref b9]) (v := .ref b8) (Or.inl hc10) rfl z_in0 (by decide) (zT_mem 566 (by decide +kernel) rfl) rfl (by decide +kernel) ?_
          refine zV_blk (pc' := 43) (lo' := [(4, .ref b2), (0, .ref a0), (1, .int x1), (2, .int x2), (3, .int x3)]) (st' := [.int x3, .ref b8]) [.iload_n 3] (by decide +kernel) rfl ?_
          obtain ⟨v14, hv14, h⟩ := zbind h
          refine dc_leapsBefore s0 D cB cI cJ cD (idx := 226) n z3.2.1 x3 b8 v14 hv14 hc12 (zT_mem 1031 (by decide +kernel) rfl) (rest := []) rfl (Nat.le_of_ble_eq_true rfl) ⟨by decide, by decide⟩ (by decide +kernel) ?_
          refine zV_eq (st2 := [.int v14]) rfl rfl rfl rfl ?_
          refine zV_blk (pc' := 48) (lo' := [(4, .ref b2), (0, .ref a0), (1, .int x1), (2, .int x2), (3, .int x3)]) (st' := [.ref b2, .int v14]) [.aload 4] (by decide +kernel) rfl ?_
          refine zV_get (ci := 0) (idx := 95) (k := 1) (N := 3) (fs := [.ref b7, .ref b8, .ref b9]) (v := .ref b8) (Or.inl hc10) rfl z_in0 (by decide) (zT_mem 566 (by decide +kernel) rfl) rfl (by decide +kernel) ?_
          refine zV_blk (pc' := 52) (lo' := [(4, .ref b2), (0, .ref a0), (1, .int x1), (2, .int x2), (3, .int x3)]) (st' := [.int x2, .ref b8, .int v14]) [.iload_n 2] (by decide +kernel) rfl ?_
          obtain ⟨v15, hv15, h⟩ := zbind h
          refine dc_leapsBefore s0 D cB cI cJ cD (idx := 226) n z3.2.1 x2 b8 v15 hv15 hc12 (zT_mem 1031 (by decide +kernel) rfl) (rest := [.int v14]) rfl (Nat.le_of_ble_eq_true rfl) ⟨by decide, by decide⟩ (by decide +kernel) ?_
          refine zV_eq (st2 := [.int v15, .int v14]) rfl rfl rfl rfl ?_
          refine zV_blk (pc' := 56) (lo' := [(4, .ref b2), (0, .ref a0), (1, .int x1), (2, .int x2), (3, .int x3)]) (st' := [.int (v14 - v15)]) [.isub] (by decide +kernel) rfl ?_
          obtain rfl := Option.some.inj h
          exact zV_iret rfl (by decide +kernel) (hQ _ rfl _ _ hXX)
        · replace h := zif_neg q h
          clear q
          refine zV_blk (pc' := 34) (lo' := [(4, .ref b2), (0, .ref a0), (1, .int x1), (2, .int x2), (3, .int x3)]) (st' := [.int 0]) [.iconst 0] (by decide +kernel) rfl ?_
          refine zV_goto (tgt := 56) (off := 22) (by decide +kernel) (by decide) ?_
          obtain rfl := Option.some.inj h
          exact zV_iret rfl (by decide +kernel) (hQ _ rfl _ _ hXX)
      · replace h := zif_neg q h
        clear q
        refine zV_blk (pc' := 27) (lo' := [(4, .ref b2), (0, .ref a0), (1, .int x1), (2, .int x2), (3, .int x3)]) (st' := [.int (-1)]) [.iconst (-1)] (by decide +kernel) rfl ?_
        obtain rfl := Option.some.inj h
        exact zV_iret rfl (by decide +kernel) (hQ _ rfl _ _ hXX)

def l_start (n : Nat) (x0 : (Nat → Option vDes)) (x1 : Int32) (x2 : Int32) : Option (Int64) := (k_designAt x0 x1).bind (fun v1 => zOm v1 (some (-1000000000000000)) (fun z3 => (k_isYear x2).bind (fun v5 => (if v5 = true then (k_startOf n z3 x2).bind (fun v6 => some v6) else some (-1000000000000000)))))
theorem oX11_start : zO yX11_start cX11_start 4 (some .long) 2 := ⟨zT_mem 1035 (by decide +kernel) rfl, zT_mem 89 (by decide +kernel) rfl, by decide +kernel, by decide +kernel, by decide +kernel⟩
set_option maxHeartbeats 4000000 in
set_option maxRecDepth 100000 in
theorem cl_start (s0 : State) (D : va_G) (cB cI cJ cD : ClassId) (n : Nat) (x0 : (Nat → Option vDes)) (x1 : Int32) (x2 : Int32) (a0 : Nat) (x : Int64) (h : l_start n x0 x1 x2 = some x) {hi hm : zHp} {nx : Nat} {Q : Option Value → zHp → zHp → Nat → Prop} (ho0 : iLD cI cD hi hm a0 x0) (hQ0 : ∀ (hi' : zHp) (nx' : Nat), zX hi hi' → Q (some (.long x)) hi' hm nx') : zM s0 D (zty cB cI cJ cD) yX11_start cX11_start 4 (some .long) 3 67 0 0 [.ref a0, .int x1, .int x2] hi hm nx Q := by
  have hQ : ∀ r : Int64, x = r → ∀ (hi' : zHp) (nx' : Nat), zX hi hi' → Q (some (.long r)) hi' hm nx' := fun r hr => by subst hr; exact hQ0
  clear hQ0
  have hXX : zX hi hi := zX.rf
  refine zM_of (by decide +kernel) (Nat.le_of_ble_eq_true rfl) ?_
  unfold l_start at h
  refine zV_eq (lo2 := [(0, .ref a0), (1, .int x1), (2, .int x2)]) rfl rfl rfl rfl ?_
  refine zV_blk (pc' := 2) (lo' := [(0, .ref a0), (1, .int x1), (2, .int x2)]) (st' := [.int x1, .ref a0]) [.aload_n 0, .iload_n 1] (by decide +kernel) rfl ?_
  obtain ⟨v1, hv1, h⟩ := zbind h
  refine zV_designAt (idx := 105) (rest := []) v1 hv1 ho0 (zT_mem 603 (by decide +kernel) rfl) rfl (Nat.le_of_ble_eq_true rfl) ⟨by decide, by decide⟩ (by decide +kernel) (fun hx => ?_) (fun b2 z3 hx ho4 => ?_)
  · subst hx; replace h := zOm_none h
    refine zV_blk (pc' := 7) (lo' := [(3, .null), (0, .ref a0), (1, .int x1), (2, .int x2)]) (st' := [.null]) [.astore_n 3, .aload_n 3] (by decide +kernel) rfl ?_
    refine zV_ifnull (r := none) (tgt := 17) (off := 10) (by decide +kernel) (by decide) (fun _ => ?_) (fun _ q => by cases q)
    refine zV_ldc2 (idx := 164) (v := (-1000000000000000)) (zT_mem 681 (by decide +kernel) rfl) (by decide +kernel) ?_
    obtain rfl := Option.some.inj h
    exact zV_lret rfl (by decide +kernel) (hQ _ rfl _ _ hXX)
  · subst hx; replace h := zOm_some h
    refine zV_blk (pc' := 7) (lo' := [(3, .ref b2), (0, .ref a0), (1, .int x1), (2, .int x2)]) (st' := [.ref b2]) [.astore_n 3, .aload_n 3] (by decide +kernel) rfl ?_
    refine zV_ifnull (r := some b2) (tgt := 17) (off := 10) (by decide +kernel) (by decide) (fun q => by cases q) (fun _ _ => ?_)
    refine zV_blk (pc' := 11) (lo' := [(3, .ref b2), (0, .ref a0), (1, .int x1), (2, .int x2)]) (st' := [.int x2]) [.iload_n 2] (by decide +kernel) rfl ?_
    obtain ⟨v5, hv5, h⟩ := zbind h
    refine zV_roS (idx := 220) (rest := []) (fun Q2 hQ2 => ck_isYear s0 D cB cI cJ cD x2  v5 hv5  hQ2) oX11_isYear (zT_mem 1009 (by decide +kernel) rfl) (zT_mem 1010 (by decide +kernel) rfl) rfl rfl (Nat.le_of_ble_eq_true rfl) ⟨by decide, by decide⟩ (by decide +kernel) ?_
    refine zV_eq (st2 := [.int (zb v5)]) rfl rfl rfl rfl ?_
    refine zV_bif_ne (tgt := 21) (off := 7) (by decide +kernel) (by decide) (fun q => ?_) (fun q => ?_)
    · replace h := zif_pos q h
      clear q
      refine zV_blk (pc' := 23) (lo' := [(3, .ref b2), (0, .ref a0), (1, .int x1), (2, .int x2)]) (st' := [.int x2, .ref b2]) [.aload_n 3, .iload_n 2] (by decide +kernel) rfl ?_
      obtain ⟨v6, hv6, h⟩ := zbind h
      obtain ⟨b7, b8, b9, hc10, hc11, hc12, hc13⟩ := ho4
      refine zV_roV (idx := 230) (rest := []) (fs := [.ref b7, .ref b8, .ref b9]) (ci := 0) (fun Q2 hQ2 => ck_startOf s0 D cB cI cJ cD n z3 x2 b2 v6 hv6 ⟨b7, b8, b9, hc10, hc11, hc12, hc13⟩ hQ2) oX0_startOf (Or.inl hc10) rfl (zT_mem 1036 (by decide +kernel) rfl) (zT_mem 719 (by decide +kernel) rfl) (zT_mem 720 (by decide +kernel) rfl) rfl rfl (Nat.le_of_ble_eq_true rfl) ⟨by decide, by decide⟩ (by decide +kernel) ?_
      refine zV_eq (st2 := [.long v6]) rfl rfl rfl rfl ?_
      obtain rfl := Option.some.inj h
      exact zV_lret rfl (by decide +kernel) (hQ _ rfl _ _ hXX)
    · replace h := zif_neg q h
      clear q
      refine zV_ldc2 (idx := 164) (v := (-1000000000000000)) (zT_mem 681 (by decide +kernel) rfl) (by decide +kernel) ?_
      obtain rfl := Option.some.inj h
      exact zV_lret rfl (by decide +kernel) (hQ _ rfl _ _ hXX)

def l_number (n : Nat) (x0 : (Nat → Option vDes)) (x1 : Int32) (x2 : Int32) (x3 : Int32) : Option (Int64) := (k_designAt x0 x1).bind (fun v1 => zOm v1 (some (-1000000000000000)) (fun z3 => (k_isYear x2).bind (fun v5 => (if v5 = true then (if (x3 : Int32) < (0 : Int32) then some (-1000000000000000) else (k_daysOf n z3 x2).bind (fun v6 => (if (x3 : Int32) < (v6 : Int32) then (k_startOf n z3 x2).bind (fun v14 => some (v14 + (x3 : Int32).toInt64)) else some (-1000000000000000)))) else some (-1000000000000000)))))
theorem oX11_number : zO yX11_number cX11_number 5 (some .long) 3 := ⟨zT_mem 1040 (by decide +kernel) rfl, zT_mem 89 (by decide +kernel) rfl, by decide +kernel, by decide +kernel, by decide +kernel⟩
set_option maxHeartbeats 4000000 in
set_option maxRecDepth 100000 in
theorem cl_number (s0 : State) (D : va_G) (cB cI cJ cD : ClassId) (n : Nat) (x0 : (Nat → Option vDes)) (x1 : Int32) (x2 : Int32) (x3 : Int32) (a0 : Nat) (x : Int64) (h : l_number n x0 x1 x2 x3 = some x) {hi hm : zHp} {nx : Nat} {Q : Option Value → zHp → zHp → Nat → Prop} (ho0 : iLD cI cD hi hm a0 x0) (hQ0 : ∀ (hi' : zHp) (nx' : Nat), zX hi hi' → Q (some (.long x)) hi' hm nx') : zM s0 D (zty cB cI cJ cD) yX11_number cX11_number 5 (some .long) 3 67 0 0 [.ref a0, .int x1, .int x2, .int x3] hi hm nx Q := by
  have hQ : ∀ r : Int64, x = r → ∀ (hi' : zHp) (nx' : Nat), zX hi hi' → Q (some (.long r)) hi' hm nx' := fun r hr => by subst hr; exact hQ0
  clear hQ0
  have hXX : zX hi hi := zX.rf
  refine zM_of (by decide +kernel) (Nat.le_of_ble_eq_true rfl) ?_
  unfold l_number at h
  refine zV_eq (lo2 := [(0, .ref a0), (1, .int x1), (2, .int x2), (3, .int x3)]) rfl rfl rfl rfl ?_
  refine zV_blk (pc' := 2) (lo' := [(0, .ref a0), (1, .int x1), (2, .int x2), (3, .int x3)]) (st' := [.int x1, .ref a0]) [.aload_n 0, .iload_n 1] (by decide +kernel) rfl ?_
  obtain ⟨v1, hv1, h⟩ := zbind h
  refine zV_designAt (idx := 105) (rest := []) v1 hv1 ho0 (zT_mem 603 (by decide +kernel) rfl) rfl (Nat.le_of_ble_eq_true rfl) ⟨by decide, by decide⟩ (by decide +kernel) (fun hx => ?_) (fun b2 z3 hx ho4 => ?_)
  · subst hx; replace h := zOm_none h
    refine zV_blk (pc' := 9) (lo' := [(4, .null), (0, .ref a0), (1, .int x1), (2, .int x2), (3, .int x3)]) (st' := [.null]) [.astore 4, .aload 4] (by decide +kernel) rfl ?_
    refine zV_ifnull (r := none) (tgt := 33) (off := 24) (by decide +kernel) (by decide) (fun _ => ?_) (fun _ q => by cases q)
    refine zV_ldc2 (idx := 164) (v := (-1000000000000000)) (zT_mem 681 (by decide +kernel) rfl) (by decide +kernel) ?_
    obtain rfl := Option.some.inj h
    exact zV_lret rfl (by decide +kernel) (hQ _ rfl _ _ hXX)
  · subst hx; replace h := zOm_some h
    refine zV_blk (pc' := 9) (lo' := [(4, .ref b2), (0, .ref a0), (1, .int x1), (2, .int x2), (3, .int x3)]) (st' := [.ref b2]) [.astore 4, .aload 4] (by decide +kernel) rfl ?_
    refine zV_ifnull (r := some b2) (tgt := 33) (off := 24) (by decide +kernel) (by decide) (fun q => by cases q) (fun _ _ => ?_)
    refine zV_blk (pc' := 13) (lo' := [(4, .ref b2), (0, .ref a0), (1, .int x1), (2, .int x2), (3, .int x3)]) (st' := [.int x2]) [.iload_n 2] (by decide +kernel) rfl ?_
    obtain ⟨v5, hv5, h⟩ := zbind h
    refine zV_roS (idx := 220) (rest := []) (fun Q2 hQ2 => ck_isYear s0 D cB cI cJ cD x2  v5 hv5  hQ2) oX11_isYear (zT_mem 1009 (by decide +kernel) rfl) (zT_mem 1010 (by decide +kernel) rfl) rfl rfl (Nat.le_of_ble_eq_true rfl) ⟨by decide, by decide⟩ (by decide +kernel) ?_
    refine zV_eq (st2 := [.int (zb v5)]) rfl rfl rfl rfl ?_
    refine zV_bif_eq (tgt := 33) (off := 17) (by decide +kernel) (by decide) (fun q => ?_) (fun q => ?_)
    · replace h := zif_neg q h
      clear q
      refine zV_ldc2 (idx := 164) (v := (-1000000000000000)) (zT_mem 681 (by decide +kernel) rfl) (by decide +kernel) ?_
      obtain rfl := Option.some.inj h
      exact zV_lret rfl (by decide +kernel) (hQ _ rfl _ _ hXX)
    · replace h := zif_pos q h
      clear q
      refine zV_blk (pc' := 20) (lo' := [(4, .ref b2), (0, .ref a0), (1, .int x1), (2, .int x2), (3, .int x3)]) (st' := [.int x3]) [.iload_n 3] (by decide +kernel) rfl ?_
      refine zV_if_lt (tgt := 33) (off := 13) (by decide +kernel) (by decide) (fun q => ?_) (fun q => ?_)
      · replace h := zif_pos q h
        clear q
        refine zV_ldc2 (idx := 164) (v := (-1000000000000000)) (zT_mem 681 (by decide +kernel) rfl) (by decide +kernel) ?_
        obtain rfl := Option.some.inj h
        exact zV_lret rfl (by decide +kernel) (hQ _ rfl _ _ hXX)
      · replace h := zif_neg q h
        clear q
        refine zV_blk (pc' := 27) (lo' := [(4, .ref b2), (0, .ref a0), (1, .int x1), (2, .int x2), (3, .int x3)]) (st' := [.int x2, .ref b2, .int x3]) [.iload_n 3, .aload 4, .iload_n 2] (by decide +kernel) rfl ?_
        obtain ⟨v6, hv6, h⟩ := zbind h
        obtain ⟨b7, b8, b9, hc10, hc11, hc12, hc13⟩ := ho4
        refine zV_roV (idx := 233) (rest := [.int x3]) (fs := [.ref b7, .ref b8, .ref b9]) (ci := 0) (fun Q2 hQ2 => ck_daysOf s0 D cB cI cJ cD n z3 x2 b2 v6 hv6 ⟨b7, b8, b9, hc10, hc11, hc12, hc13⟩ hQ2) oX0_daysOf (Or.inl hc10) rfl (zT_mem 1041 (by decide +kernel) rfl) (zT_mem 1042 (by decide +kernel) rfl) (zT_mem 1043 (by decide +kernel) rfl) rfl rfl (Nat.le_of_ble_eq_true rfl) ⟨by decide, by decide⟩ (by decide +kernel) ?_
        refine zV_eq (st2 := [.int v6, .int x3]) rfl rfl rfl rfl ?_
        refine zV_icmp_lt (tgt := 37) (off := 7) (by decide +kernel) (by decide) (fun q => ?_) (fun q => ?_)
        · replace h := zif_pos q h
          clear q
          refine zV_blk (pc' := 40) (lo' := [(4, .ref b2), (0, .ref a0), (1, .int x1), (2, .int x2), (3, .int x3)]) (st' := [.int x2, .ref b2]) [.aload 4, .iload_n 2] (by decide +kernel) rfl ?_
          obtain ⟨v14, hv14, h⟩ := zbind h
          refine zV_roV (idx := 230) (rest := []) (fs := [.ref b7, .ref b8, .ref b9]) (ci := 0) (fun Q2 hQ2 => ck_startOf s0 D cB cI cJ cD n z3 x2 b2 v14 hv14 ⟨b7, b8, b9, hc10, hc11, hc12, hc13⟩ hQ2) oX0_startOf (Or.inl hc10) rfl (zT_mem 1036 (by decide +kernel) rfl) (zT_mem 719 (by decide +kernel) rfl) (zT_mem 720 (by decide +kernel) rfl) rfl rfl (Nat.le_of_ble_eq_true rfl) ⟨by decide, by decide⟩ (by decide +kernel) ?_
          refine zV_eq (st2 := [.long v14]) rfl rfl rfl rfl ?_
          refine zV_blk (pc' := 46) (lo' := [(4, .ref b2), (0, .ref a0), (1, .int x1), (2, .int x2), (3, .int x3)]) (st' := [.long (v14 + (x3 : Int32).toInt64)]) [.iload_n 3, .i2l, .ladd] (by decide +kernel) rfl ?_
          obtain rfl := Option.some.inj h
          exact zV_lret rfl (by decide +kernel) (hQ _ rfl _ _ hXX)
        · replace h := zif_neg q h
          clear q
          refine zV_ldc2 (idx := 164) (v := (-1000000000000000)) (zT_mem 681 (by decide +kernel) rfl) (by decide +kernel) ?_
          obtain rfl := Option.some.inj h
          exact zV_lret rfl (by decide +kernel) (hQ _ rfl _ _ hXX)

def l_date (n : Nat) (x0 : (Nat → Option vDes)) (x1 : Int32) (x2 : Int64) (x4 : Int32) : Option (Int64) := (k_designAt x0 x1).bind (fun v1 => zOm v1 (some (-1000000000000000)) (fun z3 => (k_tellDate n z3 x2 x4).bind (fun v5 => some v5)))
theorem oX11_date : zO yX11_date cX11_date 6 (some .long) 3 := ⟨zT_mem 1053 (by decide +kernel) rfl, zT_mem 89 (by decide +kernel) rfl, by decide +kernel, by decide +kernel, by decide +kernel⟩
set_option maxHeartbeats 4000000 in
set_option maxRecDepth 100000 in
theorem cl_date (s0 : State) (D : va_G) (cB cI cJ cD : ClassId) (n : Nat) (x0 : (Nat → Option vDes)) (x1 : Int32) (x2 : Int64) (x4 : Int32) (a0 : Nat) (x : Int64) (h : l_date n x0 x1 x2 x4 = some x) {hi hm : zHp} {nx : Nat} {Q : Option Value → zHp → zHp → Nat → Prop} (ho0 : iLD cI cD hi hm a0 x0) (hQ0 : ∀ (hi' : zHp) (nx' : Nat), zX hi hi' → Q (some (.long x)) hi' hm nx') : zM s0 D (zty cB cI cJ cD) yX11_date cX11_date 6 (some .long) 5 118 0 0 [.ref a0, .int x1, .long x2, .int x4] hi hm nx Q := by
  have hQ : ∀ r : Int64, x = r → ∀ (hi' : zHp) (nx' : Nat), zX hi hi' → Q (some (.long r)) hi' hm nx' := fun r hr => by subst hr; exact hQ0
  clear hQ0
  have hXX : zX hi hi := zX.rf
  refine zM_of (by decide +kernel) (Nat.le_of_ble_eq_true rfl) ?_
  unfold l_date at h
  refine zV_eq (lo2 := [(0, .ref a0), (1, .int x1), (2, .long x2), (4, .int x4)]) rfl rfl rfl rfl ?_
  refine zV_blk (pc' := 2) (lo' := [(0, .ref a0), (1, .int x1), (2, .long x2), (4, .int x4)]) (st' := [.int x1, .ref a0]) [.aload_n 0, .iload_n 1] (by decide +kernel) rfl ?_
  obtain ⟨v1, hv1, h⟩ := zbind h
  refine zV_designAt (idx := 105) (rest := []) v1 hv1 ho0 (zT_mem 603 (by decide +kernel) rfl) rfl (Nat.le_of_ble_eq_true rfl) ⟨by decide, by decide⟩ (by decide +kernel) (fun hx => ?_) (fun b2 z3 hx ho4 => ?_)
  · subst hx; replace h := zOm_none h
    refine zV_blk (pc' := 9) (lo' := [(5, .null), (0, .ref a0), (1, .int x1), (2, .long x2), (4, .int x4)]) (st' := [.null]) [.astore 5, .aload 5] (by decide +kernel) rfl ?_
    refine zV_ifnonnull (r := none) (tgt := 18) (off := 9) (by decide +kernel) (by decide) (fun _ q => by cases q) (fun _ => ?_)
    refine zV_ldc2 (idx := 164) (v := (-1000000000000000)) (zT_mem 681 (by decide +kernel) rfl) (by decide +kernel) ?_
    refine zV_goto (tgt := 26) (off := 11) (by decide +kernel) (by decide) ?_
    obtain rfl := Option.some.inj h
    exact zV_lret rfl (by decide +kernel) (hQ _ rfl _ _ hXX)
  · subst hx; replace h := zOm_some h
    refine zV_blk (pc' := 9) (lo' := [(5, .ref b2), (0, .ref a0), (1, .int x1), (2, .long x2), (4, .int x4)]) (st' := [.ref b2]) [.astore 5, .aload 5] (by decide +kernel) rfl ?_
    refine zV_ifnonnull (r := some b2) (tgt := 18) (off := 9) (by decide +kernel) (by decide) (fun _ _ => ?_) (fun q => by cases q)
    refine zV_blk (pc' := 23) (lo' := [(5, .ref b2), (0, .ref a0), (1, .int x1), (2, .long x2), (4, .int x4)]) (st' := [.int x4, .long x2, .ref b2]) [.aload 5, .lload_n 2, .iload 4] (by decide +kernel) rfl ?_
    obtain ⟨v5, hv5, h⟩ := zbind h
    obtain ⟨b6, b7, b8, hc9, hc10, hc11, hc12⟩ := ho4
    refine zV_roV (idx := 236) (rest := []) (fs := [.ref b6, .ref b7, .ref b8]) (ci := 0) (fun Q2 hQ2 => ck_tellDate s0 D cB cI cJ cD n z3 x2 x4 b2 v5 hv5 ⟨b6, b7, b8, hc9, hc10, hc11, hc12⟩ hQ2) oX0_tellDate (Or.inl hc9) rfl (zT_mem 1054 (by decide +kernel) rfl) (zT_mem 1055 (by decide +kernel) rfl) (zT_mem 1056 (by decide +kernel) rfl) rfl rfl (Nat.le_of_ble_eq_true rfl) ⟨by decide, by decide⟩ (by decide +kernel) ?_
    refine zV_eq (st2 := [.long v5]) rfl rfl rfl rfl ?_
    obtain rfl := Option.some.inj h
    exact zV_lret rfl (by decide +kernel) (hQ _ rfl _ _ hXX)

def l_dated (n : Nat) (x0 : (Nat → Option vDes)) (x1 : Int32) (x2 : Int32) (x3 : Int32) (x4 : Int32) : Option (Int64) := (k_designAt x0 x1).bind (fun v1 => zOm v1 (some (-1000000000000000)) (fun z3 => (k_numberOf n z3 x2 x3 x4).bind (fun v5 => some v5)))
theorem oX11_dated : zO yX11_dated cX11_dated 6 (some .long) 4 := ⟨zT_mem 1090 (by decide +kernel) rfl, zT_mem 89 (by decide +kernel) rfl, by decide +kernel, by decide +kernel, by decide +kernel⟩
set_option maxHeartbeats 4000000 in
set_option maxRecDepth 100000 in
theorem cl_dated (s0 : State) (D : va_G) (cB cI cJ cD : ClassId) (n : Nat) (x0 : (Nat → Option vDes)) (x1 : Int32) (x2 : Int32) (x3 : Int32) (x4 : Int32) (a0 : Nat) (x : Int64) (h : l_dated n x0 x1 x2 x3 x4 = some x) {hi hm : zHp} {nx : Nat} {Q : Option Value → zHp → zHp → Nat → Prop} (ho0 : iLD cI cD hi hm a0 x0) (hQ0 : ∀ (hi' : zHp) (nx' : Nat), zX hi hi' → Q (some (.long x)) hi' hm nx') : zM s0 D (zty cB cI cJ cD) yX11_dated cX11_dated 6 (some .long) 4 91 0 0 [.ref a0, .int x1, .int x2, .int x3, .int x4] hi hm nx Q := by
  have hQ : ∀ r : Int64, x = r → ∀ (hi' : zHp) (nx' : Nat), zX hi hi' → Q (some (.long r)) hi' hm nx' := fun r hr => by subst hr; exact hQ0
  clear hQ0
  have hXX : zX hi hi := zX.rf
  refine zM_of (by decide +kernel) (Nat.le_of_ble_eq_true rfl) ?_
  unfold l_dated at h
  refine zV_eq (lo2 := [(0, .ref a0), (1, .int x1), (2, .int x2), (3, .int x3), (4, .int x4)]) rfl rfl rfl rfl ?_
  refine zV_blk (pc' := 2) (lo' := [(0, .ref a0), (1, .int x1), (2, .int x2), (3, .int x3), (4, .int x4)]) (st' := [.int x1, .ref a0]) [.aload_n 0, .iload_n 1] (by decide +kernel) rfl ?_
  obtain ⟨v1, hv1, h⟩ := zbind h
  refine zV_designAt (idx := 105) (rest := []) v1 hv1 ho0 (zT_mem 603 (by decide +kernel) rfl) rfl (Nat.le_of_ble_eq_true rfl) ⟨by decide, by decide⟩ (by decide +kernel) (fun hx => ?_) (fun b2 z3 hx ho4 => ?_)
  · subst hx; replace h := zOm_none h
    refine zV_blk (pc' := 9) (lo' := [(5, .null), (0, .ref a0), (1, .int x1), (2, .int x2), (3, .int x3), (4, .int x4)]) (st' := [.null]) [.astore 5, .aload 5] (by decide +kernel) rfl ?_
    refine zV_ifnonnull (r := none) (tgt := 18) (off := 9) (by decide +kernel) (by decide) (fun _ q => by cases q) (fun _ => ?_)
    refine zV_ldc2 (idx := 164) (v := (-1000000000000000)) (zT_mem 681 (by decide +kernel) rfl) (by decide +kernel) ?_
    refine zV_goto (tgt := 27) (off := 12) (by decide +kernel) (by decide) ?_
    obtain rfl := Option.some.inj h
    exact zV_lret rfl (by decide +kernel) (hQ _ rfl _ _ hXX)
  · subst hx; replace h := zOm_some h
    refine zV_blk (pc' := 9) (lo' := [(5, .ref b2), (0, .ref a0), (1, .int x1), (2, .int x2), (3, .int x3), (4, .int x4)]) (st' := [.ref b2]) [.astore 5, .aload 5] (by decide +kernel) rfl ?_
    refine zV_ifnonnull (r := some b2) (tgt := 18) (off := 9) (by decide +kernel) (by decide) (fun _ _ => ?_) (fun q => by cases q)
    refine zV_blk (pc' := 24) (lo' := [(5, .ref b2), (0, .ref a0), (1, .int x1), (2, .int x2), (3, .int x3), (4, .int x4)]) (st' := [.int x4, .int x3, .int x2, .ref b2]) [.aload 5, .iload_n 2, .iload_n 3, .iload 4] (by decide +kernel) rfl ?_
    obtain ⟨v5, hv5, h⟩ := zbind h
    obtain ⟨b6, b7, b8, hc9, hc10, hc11, hc12⟩ := ho4
    refine zV_roV (idx := 240) (rest := []) (fs := [.ref b6, .ref b7, .ref b8]) (ci := 0) (fun Q2 hQ2 => ck_numberOf s0 D cB cI cJ cD n z3 x2 x3 x4 b2 v5 hv5 ⟨b6, b7, b8, hc9, hc10, hc11, hc12⟩ hQ2) oX0_numberOf (Or.inl hc9) rfl (zT_mem 1091 (by decide +kernel) rfl) (zT_mem 1092 (by decide +kernel) rfl) (zT_mem 1093 (by decide +kernel) rfl) rfl rfl (Nat.le_of_ble_eq_true rfl) ⟨by decide, by decide⟩ (by decide +kernel) ?_
    refine zV_eq (st2 := [.long v5]) rfl rfl rfl rfl ?_
    obtain rfl := Option.some.inj h
    exact zV_lret rfl (by decide +kernel) (hQ _ rfl _ _ hXX)

def l_later (n : Nat) (x0 : (Nat → Option vDes)) (x1 : Int32) (x2 : Int32) (x3 : Int32) (x4 : Int32) (x5 : Int32) : Option (Int64) := (k_designAt x0 x1).bind (fun v1 => zOm v1 (some (-1000000000000000)) (fun z3 => (k_numberOf n z3 x2 x3 x4).bind (fun v5 => (if (v5 : Int64) = ((-1000000000000000) : Int64) then some (-1000000000000000) else (if (((x2 : Int32).toInt64 + (x5 : Int32).toInt64) : Int64) < ((-100000) : Int64) then some (-1000000000000000) else (if (((x2 : Int32).toInt64 + (x5 : Int32).toInt64) : Int64) ≤ (100000 : Int64) then (d_isLeap n z3.2.1 (((x2 : Int32).toInt64 + (x5 : Int32).toInt64) : Int64).toInt32).bind (fun v13 => (k_monthDays z3.1 x3 (zb v13)).bind (fun v14 => (j_minI x4 (v14 - 1)).bind (fun v18 => (k_numberOf n z3 (((x2 : Int32).toInt64 + (x5 : Int32).toInt64) : Int64).toInt32 x3 v18).bind (fun v19 => some v19)))) else some (-1000000000000000)))))))
theorem oX11_later : zO yX11_later cX11_later 11 (some .long) 5 := ⟨zT_mem 1101 (by decide +kernel) rfl, zT_mem 89 (by decide +kernel) rfl, by decide +kernel, by decide +kernel, by decide +kernel⟩
set_option maxHeartbeats 4000000 in
set_option maxRecDepth 100000 in
theorem cl_later (s0 : State) (D : va_G) (cB cI cJ cD : ClassId) (n : Nat) (x0 : (Nat → Option vDes)) (x1 : Int32) (x2 : Int32) (x3 : Int32) (x4 : Int32) (x5 : Int32) (a0 : Nat) (x : Int64) (h : l_later n x0 x1 x2 x3 x4 x5 = some x) {hi hm : zHp} {nx : Nat} {Q : Option Value → zHp → zHp → Nat → Prop} (ho0 : iLD cI cD hi hm a0 x0) (hQ0 : ∀ (hi' : zHp) (nx' : Nat), zX hi hi' → Q (some (.long x)) hi' hm nx') : zM s0 D (zty cB cI cJ cD) yX11_later cX11_later 11 (some .long) 4 91 0 0 [.ref a0, .int x1, .int x2, .int x3, .int x4, .int x5] hi hm nx Q := by
  have hQ : ∀ r : Int64, x = r → ∀ (hi' : zHp) (nx' : Nat), zX hi hi' → Q (some (.long r)) hi' hm nx' := fun r hr => by subst hr; exact hQ0
  clear hQ0
  have hXX : zX hi hi := zX.rf
  refine zM_of (by decide +kernel) (Nat.le_of_ble_eq_true rfl) ?_
  unfold l_later at h
  refine zV_eq (lo2 := [(0, .ref a0), (1, .int x1), (2, .int x2), (3, .int x3), (4, .int x4), (5, .int x5)]) rfl rfl rfl rfl ?_
  refine zV_blk (pc' := 2) (lo' := [(0, .ref a0), (1, .int x1), (2, .int x2), (3, .int x3), (4, .int x4), (5, .int x5)]) (st' := [.int x1, .ref a0]) [.aload_n 0, .iload_n 1] (by decide +kernel) rfl ?_
  obtain ⟨v1, hv1, h⟩ := zbind h
  refine zV_designAt (idx := 105) (rest := []) v1 hv1 ho0 (zT_mem 603 (by decide +kernel) rfl) rfl (Nat.le_of_ble_eq_true rfl) ⟨by decide, by decide⟩ (by decide +kernel) (fun hx => ?_) (fun b2 z3 hx ho4 => ?_)
  · subst hx; replace h := zOm_none h
    refine zV_blk (pc' := 9) (lo' := [(6, .null), (0, .ref a0), (1, .int x1), (2, .int x2), (3, .int x3), (4, .int x4), (5, .int x5)]) (st' := [.null]) [.astore 6, .aload 6] (by decide +kernel) rfl ?_
    refine zV_ifnull (r := none) (tgt := 28) (off := 19) (by decide +kernel) (by decide) (fun _ => ?_) (fun _ q => by cases q)
    refine zV_ldc2 (idx := 164) (v := (-1000000000000000)) (zT_mem 681 (by decide +kernel) rfl) (by decide +kernel) ?_
    obtain rfl := Option.some.inj h
    exact zV_lret rfl (by decide +kernel) (hQ _ rfl _ _ hXX)
  · subst hx; replace h := zOm_some h
    refine zV_blk (pc' := 9) (lo' := [(6, .ref b2), (0, .ref a0), (1, .int x1), (2, .int x2), (3, .int x3), (4, .int x4), (5, .int x5)]) (st' := [.ref b2]) [.astore 6, .aload 6] (by decide +kernel) rfl ?_
    refine zV_ifnull (r := some b2) (tgt := 28) (off := 19) (by decide +kernel) (by decide) (fun q => by cases q) (fun _ _ => ?_)
    refine zV_blk (pc' := 18) (lo' := [(6, .ref b2), (0, .ref a0), (1, .int x1), (2, .int x2), (3, .int x3), (4, .int x4), (5, .int x5)]) (st' := [.int x4, .int x3, .int x2, .ref b2]) [.aload 6, .iload_n 2, .iload_n 3, .iload 4] (by decide +kernel) rfl ?_
    obtain ⟨v5, hv5, h⟩ := zbind h
    obtain ⟨b6, b7, b8, hc9, hc10, hc11, hc12⟩ := ho4
    refine zV_roV (idx := 240) (rest := []) (fs := [.ref b6, .ref b7, .ref b8]) (ci := 0) (fun Q2 hQ2 => ck_numberOf s0 D cB cI cJ cD n z3 x2 x3 x4 b2 v5 hv5 ⟨b6, b7, b8, hc9, hc10, hc11, hc12⟩ hQ2) oX0_numberOf (Or.inl hc9) rfl (zT_mem 1091 (by decide +kernel) rfl) (zT_mem 1092 (by decide +kernel) rfl) (zT_mem 1093 (by decide +kernel) rfl) rfl rfl (Nat.le_of_ble_eq_true rfl) ⟨by decide, by decide⟩ (by decide +kernel) ?_
    refine zV_eq (st2 := [.long v5]) rfl rfl rfl rfl ?_
    refine zV_ldc2 (idx := 164) (v := (-1000000000000000)) (zT_mem 681 (by decide +kernel) rfl) (by decide +kernel) ?_
    refine zV_blk (pc' := 25) (lo' := [(6, .ref b2), (0, .ref a0), (1, .int x1), (2, .int x2), (3, .int x3), (4, .int x4), (5, .int x5)]) (st' := [.int (lg_cmp v5 (-1000000000000000))]) [.lcmp] (by decide +kernel) rfl ?_
    refine zV_lcmp_ne (tgt := 32) (off := 7) (by decide +kernel) (by decide) (fun q => ?_) (fun q => ?_)
    · replace h := zif_neg q h
      clear q
      refine zV_blk (pc' := 42) (lo' := [(7, .long ((x2 : Int32).toInt64 + (x5 : Int32).toInt64)), (6, .ref b2), (0, .ref a0), (1, .int x1), (2, .int x2), (3, .int x3), (4, .int x4), (5, .int x5)]) (st' := [.long ((x2 : Int32).toInt64 + (x5 : Int32).toInt64)]) [.iload_n 2, .i2l, .iload 5, .i2l, .ladd, .lstore 7, .lload 7] (by decide +kernel) rfl ?_
      refine zV_ldc2 (idx := 244) (v := (-100000)) (zT_mem 1102 (by decide +kernel) rfl) (by decide +kernel) ?_
      refine zV_blk (pc' := 46) (lo' := [(7, .long ((x2 : Int32).toInt64 + (x5 : Int32).toInt64)), (6, .ref b2), (0, .ref a0), (1, .int x1), (2, .int x2), (3, .int x3), (4, .int x4), (5, .int x5)]) (st' := [.int (lg_cmp ((x2 : Int32).toInt64 + (x5 : Int32).toInt64) (-100000))]) [.lcmp] (by decide +kernel) rfl ?_
      refine zV_lcmp_lt (tgt := 58) (off := 12) (by decide +kernel) (by decide) (fun q => ?_) (fun q => ?_)
      · replace h := zif_pos q h
        clear q
        refine zV_ldc2 (idx := 164) (v := (-1000000000000000)) (zT_mem 681 (by decide +kernel) rfl) (by decide +kernel) ?_
        obtain rfl := Option.some.inj h
        exact zV_lret rfl (by decide +kernel) (hQ _ rfl _ _ hXX)
      · replace h := zif_neg q h
        clear q
        refine zV_blk (pc' := 51) (lo' := [(7, .long ((x2 : Int32).toInt64 + (x5 : Int32).toInt64)), (6, .ref b2), (0, .ref a0), (1, .int x1), (2, .int x2), (3, .int x3), (4, .int x4), (5, .int x5)]) (st' := [.long ((x2 : Int32).toInt64 + (x5 : Int32).toInt64)]) [.lload 7] (by decide +kernel) rfl ?_
        refine zV_ldc2 (idx := 246) (v := 100000) (zT_mem 1103 (by decide +kernel) rfl) (by decide +kernel) ?_
        refine zV_blk (pc' := 55) (lo' := [(7, .long ((x2 : Int32).toInt64 + (x5 : Int32).toInt64)), (6, .ref b2), (0, .ref a0), (1, .int x1), (2, .int x2), (3, .int x3), (4, .int x4), (5, .int x5)]) (st' := [.int (lg_cmp ((x2 : Int32).toInt64 + (x5 : Int32).toInt64) 100000)]) [.lcmp] (by decide +kernel) rfl ?_
        refine zV_lcmp_le (tgt := 62) (off := 7) (by decide +kernel) (by decide) (fun q => ?_) (fun q => ?_)
        · replace h := zif_pos q h
          clear q
          refine zV_blk (pc' := 69) (lo' := [(9, .int (((x2 : Int32).toInt64 + (x5 : Int32).toInt64) : Int64).toInt32), (7, .long ((x2 : Int32).toInt64 + (x5 : Int32).toInt64)), (6, .ref b2), (0, .ref a0), (1, .int x1), (2, .int x2), (3, .int x3), (4, .int x4), (5, .int x5)]) (st' := [.ref b2]) [.lload 7, .l2i, .istore 9, .aload 6] (by decide +kernel) rfl ?_
          refine zV_get (ci := 0) (idx := 109) (k := 0) (N := 3) (fs := [.ref b6, .ref b7, .ref b8]) (v := .ref b6) (Or.inl hc9) rfl z_in0 (by decide) (zT_mem 564 (by decide +kernel) rfl) rfl (by decide +kernel) ?_
          refine zV_blk (pc' := 75) (lo' := [(9, .int (((x2 : Int32).toInt64 + (x5 : Int32).toInt64) : Int64).toInt32), (7, .long ((x2 : Int32).toInt64 + (x5 : Int32).toInt64)), (6, .ref b2), (0, .ref a0), (1, .int x1), (2, .int x2), (3, .int x3), (4, .int x4), (5, .int x5)]) (st' := [.ref b2, .int x3, .ref b6]) [.iload_n 3, .aload 6] (by decide +kernel) rfl ?_
          refine zV_get (ci := 0) (idx := 95) (k := 1) (N := 3) (fs := [.ref b6, .ref b7, .ref b8]) (v := .ref b7) (Or.inl hc9) rfl z_in0 (by decide) (zT_mem 566 (by decide +kernel) rfl) rfl (by decide +kernel) ?_
          refine zV_blk (pc' := 80) (lo' := [(9, .int (((x2 : Int32).toInt64 + (x5 : Int32).toInt64) : Int64).toInt32), (7, .long ((x2 : Int32).toInt64 + (x5 : Int32).toInt64)), (6, .ref b2), (0, .ref a0), (1, .int x1), (2, .int x2), (3, .int x3), (4, .int x4), (5, .int x5)]) (st' := [.int (((x2 : Int32).toInt64 + (x5 : Int32).toInt64) : Int64).toInt32, .ref b7, .int x3, .ref b6]) [.iload 9] (by decide +kernel) rfl ?_
          obtain ⟨v13, hv13, h⟩ := zbind h
          refine dc_isLeap s0 D cB cI cJ cD (idx := 223) n z3.2.1 (((x2 : Int32).toInt64 + (x5 : Int32).toInt64) : Int64).toInt32 b7 v13 hv13 hc11 (zT_mem 1014 (by decide +kernel) rfl) (rest := [.int x3, .ref b6]) rfl (Nat.le_of_ble_eq_true rfl) ⟨by decide, by decide⟩ (by decide +kernel) ?_
          refine zV_eq (st2 := [.int (zb v13), .int x3, .ref b6]) rfl rfl rfl rfl ?_
          obtain ⟨v14, hv14, h⟩ := zbind h
          obtain ⟨b15, hc16, hb17⟩ := hc10
          refine zV_roV (idx := 160) (rest := []) (fs := [.int z3.1.1, .int z3.1.2.1, .ref b15, .int z3.1.2.2.2.1, .int z3.1.2.2.2.2.1, .int z3.1.2.2.2.2.2]) (ci := 3) (fun Q2 hQ2 => ck_monthDays s0 D cB cI cJ cD z3.1 x3 (zb v13) b6 v14 hv14 ⟨b15, hc16, hb17⟩ hQ2) oX3_monthDays (Or.inl hc16) rfl (zT_mem 672 (by decide +kernel) rfl) (zT_mem 673 (by decide +kernel) rfl) (zT_mem 674 (by decide +kernel) rfl) rfl rfl (Nat.le_of_ble_eq_true rfl) ⟨by decide, by decide⟩ (by decide +kernel) ?_
          refine zV_eq (st2 := [.int v14]) rfl rfl rfl rfl ?_
          refine zV_blk (pc' := 99) (lo' := [(10, .int (v14 - 1)), (9, .int (((x2 : Int32).toInt64 + (x5 : Int32).toInt64) : Int64).toInt32), (7, .long ((x2 : Int32).toInt64 + (x5 : Int32).toInt64)), (6, .ref b2), (0, .ref a0), (1, .int x1), (2, .int x2), (3, .int x3), (4, .int x4), (5, .int x5)]) (st' := [.int (v14 - 1), .int x4, .int x3, .int (((x2 : Int32).toInt64 + (x5 : Int32).toInt64) : Int64).toInt32, .ref b2]) [.iconst 1, .isub, .istore 10, .aload 6, .iload 9, .iload_n 3, .iload 4, .iload 10] (by decide +kernel) rfl ?_
          obtain ⟨v18, hv18, h⟩ := zbind h
          refine zV_roS (idx := 201) (rest := [.int x3, .int (((x2 : Int32).toInt64 + (x5 : Int32).toInt64) : Int64).toInt32, .ref b2]) (fun Q2 hQ2 => cj_minI s0 D cB cI cJ cD x4 (v14 - 1)  v18 hv18  hQ2) oJ9_min_7cf53 (zT_mem 580 (by decide +kernel) rfl) (zT_mem 225 (by decide +kernel) rfl) rfl rfl (Nat.le_of_ble_eq_true rfl) ⟨by decide, by decide⟩ (by decide +kernel) ?_
          refine zV_eq (st2 := [.int v18, .int x3, .int (((x2 : Int32).toInt64 + (x5 : Int32).toInt64) : Int64).toInt32, .ref b2]) rfl rfl rfl rfl ?_
          obtain ⟨v19, hv19, h⟩ := zbind h
          refine zV_roV (idx := 240) (rest := []) (fs := [.ref b6, .ref b7, .ref b8]) (ci := 0) (fun Q2 hQ2 => ck_numberOf s0 D cB cI cJ cD n z3 (((x2 : Int32).toInt64 + (x5 : Int32).toInt64) : Int64).toInt32 x3 v18 b2 v19 hv19 ⟨b6, b7, b8, hc9, ⟨b15, hc16, hb17⟩, hc11, hc12⟩ hQ2) oX0_numberOf (Or.inl hc9) rfl (zT_mem 1091 (by decide +kernel) rfl) (zT_mem 1092 (by decide +kernel) rfl) (zT_mem 1093 (by decide +kernel) rfl) rfl rfl (Nat.le_of_ble_eq_true rfl) ⟨by decide, by decide⟩ (by decide +kernel) ?_
          refine zV_eq (st2 := [.long v19]) rfl rfl rfl rfl ?_
          obtain rfl := Option.some.inj h
          exact zV_lret rfl (by decide +kernel) (hQ _ rfl _ _ hXX)
        · replace h := zif_neg q h
          clear q
          refine zV_ldc2 (idx := 164) (v := (-1000000000000000)) (zT_mem 681 (by decide +kernel) rfl) (by decide +kernel) ?_
          obtain rfl := Option.some.inj h
          exact zV_lret rfl (by decide +kernel) (hQ _ rfl _ _ hXX)
    · replace h := zif_pos q h
      clear q
      refine zV_ldc2 (idx := 164) (v := (-1000000000000000)) (zT_mem 681 (by decide +kernel) rfl) (by decide +kernel) ?_
      obtain rfl := Option.some.inj h
      exact zV_lret rfl (by decide +kernel) (hQ _ rfl _ _ hXX)

