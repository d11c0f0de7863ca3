/-! ===== LeapDesigner.design ===== -/
def rR0 : Nat → Int32 := fun k => if k = 2 then 365 else if k = 3 then 1 else if k = 7 then 7 else if k = 11 then 1 else 0
def sF0 (x : Int32) : Nat → Int32 := fun k => if k = 0 then x else if k = 4 then -1 else 0
def w_design (n : Nat) (A tp : Nat → Int32) (dv : Nat → Option vDes) (cs : Nat → Int32) (cv : Nat → Option vDes) (x1 : Int32) : Option (Int32 × (Nat → Int32) × (Nat → Option vDes) × (Nat → Int32) × (Nat → Option vDes)) :=
  (k_isSlot x1).bind (fun v1 => if v1 = true then (n_new (A 1)).bind (fun v2 => n_newReader.bind (fun v3 => (r_readDesign n rR0 (.inl ()) none v3 (sF0 v2) tp).bind (fun v4 => zOm v4.1 (some (-1, upd (upd (upd A 1 0) 2 (v4.2.2.2.2.2 3)) 3 (v4.2.2.2.2.2 4), dv, cs, cv)) (fun z => (w_change (upd (upd (upd A 1 0) 2 (v4.2.2.2.2.2 3)) 3 (v4.2.2.2.2.2 4)) dv cs cv x1 (some z)).bind (fun v5 => (d_cycle z.2.1).bind (fun v6 => some (v6, v5.1, v5.2.1, v5.2.2.1, v5.2.2.2))))))) else some (-2, A, dv, cs, cv))
theorem oX11_design : zO yX11_design cX11_design 4 (some .int) 1 := ⟨zT_mem 214 (by decide +kernel) rfl, (zT_mem 89 (by decide +kernel) rfl), (by decide +kernel), (by decide +kernel), (by decide +kernel)⟩
set_option maxHeartbeats 4000000 in
set_option maxRecDepth 100000 in
theorem cw_design (s0 : State) (D : va_G) (X : Nat → Prop) (cB cI cJ cD : ClassId) (al l1 l2 l3 l4 l5 : Nat) (A : Nat → Int32) (tp : Nat → Int32) (dv : Nat → Option vDes) (cs : Nat → Int32) (cv : Nat → Option vDes) (jv : Option vJoint) (bo : Option (Nat → Int32)) (hg : Option (Nat → Int64)) (lw : Option (Nat → Int64)) (sb : vSB) (n : Nat) (x1 : Int32) (x : Int32 × (Nat → Int32) × (Nat → Option vDes) × (Nat → Int32) × (Nat → Option vDes)) (h : w_design n A tp dv cs cv x1 = some x) {hi hm : zHp} {nx : Nat} {Q : Option Value → zHp → zHp → Nat → Prop} (hW : lW X cB cI cJ cD al l1 l2 l3 l4 l5 A tp dv cs cv jv bo hg lw sb hi hm) (hQ0 : ∀ (hi' hm' : zHp) (nx' : Nat), zX hi hi' → lW X cB cI cJ cD al l1 l2 l3 l4 l5 x.2.1 tp x.2.2.1 x.2.2.2.1 x.2.2.2.2 jv bo hg lw sb hi' hm' → lFr X hm hm' → Q (some (.int x.1)) hi' hm' nx') : zM s0 D (zty cB cI cJ cD) yX11_design cX11_design 4 (some .int) 8 175 34 3661 [.ref al, .int x1] hi hm nx Q := by
  refine zM_of (by decide +kernel) (Nat.le_of_ble_eq_true rfl) ?_
  unfold w_design at h
  refine zV_eq (lo2 := [(0, .ref al), (1, .int x1)]) rfl rfl rfl rfl ?_
  refine zV_blk (pc' := 1) (lo' := [(0, .ref al), (1, .int x1)]) (st' := [.int x1]) [.iload_n 1] (by decide +kernel) rfl ?_
  obtain ⟨v1, hv1, h⟩ := zbind h
  refine zV_roS (idx := 67) (rest := []) (fun Q2 hQ2 => ck_isSlot s0 D cB cI cJ cD x1 v1 hv1 hQ2) oX11_isSlot (zT_mem 215 (by decide +kernel) rfl) (zT_mem 216 (by decide +kernel) rfl) rfl rfl (Nat.le_of_ble_eq_true rfl) ⟨by decide, by decide⟩ (by decide +kernel) ?_
  refine zV_eq (st2 := [.int (zb v1)]) rfl rfl rfl rfl ?_
  refine zV_bif_ne (tgt := 10) (off := 6) (by decide +kernel) (by decide) (fun q => ?_) (fun q => ?_)
  · replace h := zif_pos q h
    obtain ⟨v2, hv2, h⟩ := zbind h
    obtain ⟨v3, hv3, h⟩ := zbind h
    obtain ⟨v4, hv4, h⟩ := zbind h
    have hseen := hW.seen
    -- the scanner
    refine zV_newX (mc := 33) (ms := 3654) (ci := 9) (idx := 71) (N := 7) (fs := [.int 0, .int 0, .int 0, .int 0, .int 0, .null, .int 0]) tyX9 rfl z_in9 tyX9_ok (zT_mem 218 (by decide +kernel) rfl) (zT_mem 219 (by decide +kernel) rfl) (zT_mem 95 (by decide +kernel) rfl) (fun j hj => by rcases (show j = 0 ∨ j = 1 ∨ j = 2 ∨ j = 3 ∨ j = 4 ∨ j = 5 ∨ j = 6 by omega) with rfl | rfl | rfl | rfl | rfl | rfl | rfl <;> rfl) (by decide +kernel) (fun _ hna => ?_)
    obtain ⟨a, hea⟩ : ∃ z : Nat, z = nx := ⟨_, rfl⟩
    rw [← hea] at hna ⊢
    obtain ⟨na, hena⟩ : ∃ z : Nat, z = a + 1 := ⟨_, rfl⟩
    rw [← hena]; clear hena hea
    have hWm := hW
    have tk : ∀ q e, hm q = some e → va_up hm a (some (.inr (9, [.int 0, .int 0, .int 0, .int 0, .int 0, .null, .int 0]))) q = some e := fun q e hq => zUno hna hq
    replace hW := hW.move (hm2 := va_up hm a (some (.inr (9, [.int 0, .int 0, .int 0, .int 0, .int 0, .null, .int 0])))) (X2 := X) (fun q e hq hx => ⟨tk q e hq, hx⟩) (fun q hq => by
      rcases hq9 : hm q with _ | e
      · exact absurd hq9 (hseen q hq)
      · rw [tk q e hq9]; simp)
    refine zV_blk (pc' := 15) (lo' := [(0, .ref al), (1, .int x1)]) (st' := [.ref al, .ref a, .ref a]) [.dup, .aload_n 0] (by decide +kernel) rfl ?_
    refine l_get (idx := 9) (k := 0) (v := .ref l1) hW (by decide) (zT_mem 156 (by decide +kernel) rfl) (fun _ _ _ _ => rfl) (by decide +kernel) ?_
    refine zV_blk (pc' := 19) (lo' := [(0, .ref al), (1, .int x1)]) (st' := [.ref al, .ref l1, .ref a, .ref a]) [.aload_n 0] (by decide +kernel) rfl ?_
    refine l_get (idx := 13) (k := 1) (v := .int (A 1)) hW (by decide) (zT_mem 157 (by decide +kernel) rfl) (fun _ _ _ _ => rfl) (by decide +kernel) ?_
    have hT : va_up hm a (some (.inr (9, [.int 0, .int 0, .int 0, .int 0, .int 0, .null, .int 0]))) l1 = some (.inl (cB, 800, .inl tp)) := (hW.putT tp).1
    refine zV_callI (idx := 73) (As := [.ref l1, .int (A 1)]) (rest := [.ref a]) (cn_new s0 D cB cI cJ cD a l1 tp (A 1) v2 hv2 (Q := fun v' hi' hm' nx' => v' = none ∧ hi = hi' ∧ na = nx' ∧ hm' a = some (.inr (9, sFs l1 (sF0 v2))) ∧ zO1 a (va_up hm a (some (.inr (9, [.int 0, .int 0, .int 0, .int 0, .int 0, .null, .int 0])))) hm') zUe hT (fun hm' h1 h2 => ⟨rfl, rfl, rfl, h1, h2⟩)) oX9_init rfl (zT_mem 220 (by decide +kernel) rfl) (zT_mem 221 (by decide +kernel) rfl) rfl rfl (Nat.le_of_ble_eq_true rfl) ⟨by decide, by decide⟩ ⟨Nat.zero_le _, Nat.zero_le _⟩ (by decide +kernel) ?_
    rintro _ _ hm2 _ ⟨rfl, rfl, rfl, hSa, hO2⟩
    have na_ : ∀ q e, hm q = some e → q ≠ a := fun q e hq z => by subst z; rw [hna] at hq; cases hq
    have tk2 : ∀ q e, hm q = some e → hm2 q = some e := fun q e hq => (hO2 q (na_ q e hq)).trans (tk q e hq)
    refine zV_eq (st2 := [.ref a]) rfl rfl rfl rfl ?_
    refine zV_blk (pc' := 26) (lo' := [(2, .ref a), (0, .ref al), (1, .int x1)]) (st' := []) [.astore_n 2] (by decide +kernel) rfl ?_
    -- the reader
    refine zV_less (mc' := 32 + 1) (ms' := 3642 + 12) (by decide) (by decide) ?_
    refine zV_newX (mc := 32) (ms := 3642) (ci := 7) (idx := 76) (N := 12) (fs := [.null, .int 0, .int 0, .int 0, .null, .null, .int 0, .int 0, .int 0, .null, .int 0, .int 0]) tyX7 rfl z_in7 tyX7_ok (zT_mem 255 (by decide +kernel) rfl) (zT_mem 256 (by decide +kernel) rfl) (zT_mem 97 (by decide +kernel) rfl) (fun j hj => by rcases (show j = 0 ∨ j = 1 ∨ j = 2 ∨ j = 3 ∨ j = 4 ∨ j = 5 ∨ j = 6 ∨ j = 7 ∨ j = 8 ∨ j = 9 ∨ j = 10 ∨ j = 11 by omega) with rfl | rfl | rfl | rfl | rfl | rfl | rfl | rfl | rfl | rfl | rfl | rfl <;> rfl) (by decide +kernel) (fun _ hnb => ?_)
    obtain ⟨b, heb⟩ : ∃ z : Nat, z = na := ⟨_, rfl⟩
    rw [← heb] at hnb ⊢
    obtain ⟨nb, henb⟩ : ∃ z : Nat, z = b + 1 := ⟨_, rfl⟩
    rw [← henb]; clear henb heb
    have hba : a ≠ b := fun z => by subst z; rw [hSa] at hnb; cases hnb
    have nb_ : ∀ q e, hm q = some e → q ≠ b := fun q e hq z => by subst z; rw [tk2 q e hq] at hnb; cases hnb
    refine zV_blk (pc' := 31) (lo' := [(2, .ref a), (0, .ref al), (1, .int x1)]) (st' := [.ref a, .ref b, .ref b]) [.dup, .aload_n 2] (by decide +kernel) rfl ?_
    refine zV_callI (idx := 78) (As := [.ref a]) (rest := [.ref b]) (cn_newReader s0 D cB cI cJ cD b a v3 hv3 (Q := fun v' hi' hm' nx' => v' = none ∧ zX hi hi' ∧ ∃ b1 b2, hm' b = some (.inr (7, [.ref a, .int 0, .int 365, .int 1, .ref b1, .null, .int 0, .int 7, .int 0, .ref b2, .int 0, .int 1])) ∧ iNone hi' b1 ∧ iTrue hi' b2 v3 ∧ zO1 b (va_up hm2 b (some (.inr (7, [.null, .int 0, .int 0, .int 0, .null, .null, .int 0, .int 0, .int 0, .null, .int 0, .int 0])))) hm') zUe (fun hi' hm' nx' b1 b2 g1 g2 g3 g4 g5 => ⟨rfl, g1, b1, b2, g2, g3, g4, g5⟩)) oX7_init rfl (zT_mem 257 (by decide +kernel) rfl) (zT_mem 258 (by decide +kernel) rfl) rfl rfl (Nat.le_of_ble_eq_true rfl) ⟨by decide, by decide⟩ ⟨by decide, by decide⟩ (by decide +kernel) ?_
    rintro _ hi1 hm3 nx3 ⟨rfl, hX1, b1, b2, hRb, hL1, hT1, hO3⟩
    have tk3 : ∀ q e, hm q = some e → hm3 q = some e := fun q e hq => (hO3 q (nb_ q e hq)).trans (zUno hnb (tk2 q e hq))
    have hSa3 : hm3 a = some (.inr (9, sFs l1 (sF0 v2))) := (hO3 a hba).trans (zUno hnb hSa)
    have hl1 : hm l1 = some (.inl (cB, 800, .inl tp)) := (hWm.putT tp).1
    have hqW : qW (fun q => hm q ≠ none) cB cI b a l1 rR0 (.inl ()) none v3 (sF0 v2) tp hi1 hm3 := by
      refine ⟨⟨b1, b2, none, ⟨hRb, hSa3, tk3 _ _ hl1⟩, ⟨hL1, Or.inl ⟨rfl, rfl⟩, hT1⟩, trivial⟩, fun z => ?_, fun z => z hna, fun q hq => ?_⟩
      · rcases hq9 : hm b with _ | e
        · exact z hq9
        · exact nb_ b e hq9 rfl
      · rcases hq9 : hm q with _ | e
        · exact absurd hq9 hq
        · rw [tk3 q e hq9]; simp
    refine zV_eq (st2 := [.ref b]) rfl rfl rfl rfl ?_
    refine zV_callV (idx := 81) (As := []) (rest := []) (cr_readDesign s0 D _ cB cI cJ cD b a l1 rR0 (.inl ()) none v3 (sF0 v2) tp n v4 hv4 (Q := fun v' hi' hm' nx' => zX hi1 hi' ∧ zOp (iDes cI hi') v' v4.1 ∧ qW (fun q => hm q ≠ none) cB cI b a l1 v4.2.1 v4.2.2.1 v4.2.2.2.1 v4.2.2.2.2.1 v4.2.2.2.2.2 tp hi' hm' ∧ lFr (fun q => hm q ≠ none) hm3 hm') hqW (fun v' hi' hm' nx' g1 g2 g3 g4 => ⟨g1, g2, g3, g4⟩)) oX7_readDesign (Or.inr hRb) (T := TX7) (N := 12) rfl (zT_mem 334 (by decide +kernel) rfl) (zT_mem 335 (by decide +kernel) rfl) (zT_mem 336 (by decide +kernel) rfl) rfl rfl (Nat.le_of_ble_eq_true rfl) ⟨by decide, by decide⟩ ⟨by decide, by decide⟩ (by decide +kernel) ?_
    rintro v' hi2 hm4 nx4 ⟨hX2, hop, hq4, hF4⟩
    have hSc : hm4 a = some (.inr (9, sFs l1 v4.2.2.2.2.2)) := by
      obtain ⟨⟨la, ta, mz, ⟨c1, c2, c3⟩, -⟩, -⟩ := hq4
      exact c2
    have tk4 : ∀ q e, hm q = some e → hm4 q = some e := fun q e hq => (hF4 q (by simp [hq])).trans (tk3 q e hq)
    clear hq4 hF4 hqW hSa3 hRb tk3 hO3 hba hnb hSa tk2 hO2 hT tk hW
    have hX : zX hi hi2 := hX1.tr hX2
    have hW : lW (xA X a) cB cI cJ cD al l1 l2 l3 l4 l5 A tp dv cs cv jv bo hg lw sb hi2 hm4 := (hWm.mono hX).move (fun q e hq hx => ⟨tk4 q e hq, fun z => z.elim hx (na_ q e hq)⟩) (fun q hq => by
      rcases hq with hq | rfl
      · rcases hq9 : hm q with _ | e
        · exact absurd hq9 (hseen q hq)
        · rw [tk4 q e hq9]; simp
      · rw [hSc]; simp)
    have hF : lFr X hm hm4 := fun q hq => by
      rcases hq9 : hm q with _ | e
      · exact absurd hq9 (hseen q hq)
      · exact tk4 q e hq9
    have hxa : ¬ X a := fun z => hseen a z hna
    clear hWm hX1 hX2 tk4
    -- the end's world
    have fin : ∀ (A' : Nat → Int32) (dv' : Nat → Option vDes) (cs' : Nat → Int32) (cv' : Nat → Option vDes) (hi' hm' : zHp), lW (xA X a) cB cI cJ cD al l1 l2 l3 l4 l5 A' tp dv' cs' cv' jv bo hg lw sb hi' hm' → lW X cB cI cJ cD al l1 l2 l3 l4 l5 A' tp dv' cs' cv' jv bo hg lw sb hi' hm' := fun A' dv' cs' cv' hi' hm' g => g.move (fun q e hq hx => ⟨hq, fun z => hx (Or.inl z)⟩) (fun q hq => g.seen q (Or.inl hq))
    -- what is told, or nothing
    rcases hop with ⟨rfl, hz⟩ | ⟨b', z, rfl, hz, hD⟩
    · rw [hz] at h
      replace h := zOm_none h
      refine zV_eq (st2 := [.null]) rfl rfl rfl rfl ?_
      refine zV_blk (pc' := 40) (lo' := [(3, .null), (2, .ref a), (0, .ref al), (1, .int x1)]) (st' := [.int 0, .ref al]) [.astore_n 3, .aload_n 0, .iconst 0] (by decide +kernel) rfl ?_
      refine l_putI (idx := 13) (k := 1) hW (by decide) (zT_mem 157 (by decide +kernel) rfl) (by decide +kernel) (fun hm5 hW5 hF5 => ?_)
      replace hSc := (hF5 a (Or.inr rfl)).trans hSc; replace hF := hF.tr (fun q hq => hF5 q (Or.inl hq)); clear hF5 hW; have hW := hW5; clear hW5
      refine zV_blk (pc' := 45) (lo' := [(3, .null), (2, .ref a), (0, .ref al), (1, .int x1)]) (st' := [.ref a, .ref al]) [.aload_n 0, .aload_n 2] (by decide +kernel) rfl ?_
      refine zV_get (ci := 9) (idx := 85) (k := 3) (N := 7) (fs := sFs l1 v4.2.2.2.2.2) (v := .int (v4.2.2.2.2.2 3)) (Or.inr hSc) rfl z_in9 (by decide) (zT_mem 235 (by decide +kernel) rfl) rfl (by decide +kernel) ?_
      refine l_putI (idx := 17) (k := 2) hW (by decide) (zT_mem 158 (by decide +kernel) rfl) (by decide +kernel) (fun hm5 hW5 hF5 => ?_)
      replace hSc := (hF5 a (Or.inr rfl)).trans hSc; replace hF := hF.tr (fun q hq => hF5 q (Or.inl hq)); clear hF5 hW; have hW := hW5; clear hW5
      refine zV_blk (pc' := 53) (lo' := [(3, .null), (2, .ref a), (0, .ref al), (1, .int x1)]) (st' := [.ref a, .ref al]) [.aload_n 0, .aload_n 2] (by decide +kernel) rfl ?_
      refine zV_get (ci := 9) (idx := 88) (k := 4) (N := 7) (fs := sFs l1 v4.2.2.2.2.2) (v := .int (v4.2.2.2.2.2 4)) (Or.inr hSc) rfl z_in9 (by decide) (zT_mem 237 (by decide +kernel) rfl) rfl (by decide +kernel) ?_
      refine l_putI (idx := 20) (k := 3) hW (by decide) (zT_mem 159 (by decide +kernel) rfl) (by decide +kernel) (fun hm5 hW5 hF5 => ?_)
      replace hSc := (hF5 a (Or.inr rfl)).trans hSc; replace hF := hF.tr (fun q hq => hF5 q (Or.inl hq)); clear hF5 hW; have hW := hW5; clear hW5
      refine zV_blk (pc' := 60) (lo' := [(3, .null), (2, .ref a), (0, .ref al), (1, .int x1)]) (st' := [.null]) [.aload_n 3] (by decide +kernel) rfl ?_
      refine zV_ifnonnull (r := none) (tgt := 65) (off := 5) (by decide +kernel) (by decide) (fun _ q => by cases q) (fun _ => ?_)
      refine zV_blk (pc' := 64) (lo' := [(3, .null), (2, .ref a), (0, .ref al), (1, .int x1)]) (st' := [.int (-1)]) [.iconst (-1)] (by decide +kernel) rfl ?_
      obtain rfl := Option.some.inj h
      exact zV_iret rfl (by decide +kernel) (hQ0 _ _ _ hX (fin _ _ _ _ _ _ hW) hF)
    · rw [hz] at h
      replace h := zOm_some h
      refine zV_eq (st2 := [.ref b']) rfl rfl rfl rfl ?_
      refine zV_blk (pc' := 40) (lo' := [(3, .ref b'), (2, .ref a), (0, .ref al), (1, .int x1)]) (st' := [.int 0, .ref al]) [.astore_n 3, .aload_n 0, .iconst 0] (by decide +kernel) rfl ?_
      refine l_putI (idx := 13) (k := 1) hW (by decide) (zT_mem 157 (by decide +kernel) rfl) (by decide +kernel) (fun hm5 hW5 hF5 => ?_)
      replace hSc := (hF5 a (Or.inr rfl)).trans hSc; replace hF := hF.tr (fun q hq => hF5 q (Or.inl hq)); clear hF5 hW; have hW := hW5; clear hW5
      refine zV_blk (pc' := 45) (lo' := [(3, .ref b'), (2, .ref a), (0, .ref al), (1, .int x1)]) (st' := [.ref a, .ref al]) [.aload_n 0, .aload_n 2] (by decide +kernel) rfl ?_
      refine zV_get (ci := 9) (idx := 85) (k := 3) (N := 7) (fs := sFs l1 v4.2.2.2.2.2) (v := .int (v4.2.2.2.2.2 3)) (Or.inr hSc) rfl z_in9 (by decide) (zT_mem 235 (by decide +kernel) rfl) rfl (by decide +kernel) ?_
      refine l_putI (idx := 17) (k := 2) hW (by decide) (zT_mem 158 (by decide +kernel) rfl) (by decide +kernel) (fun hm5 hW5 hF5 => ?_)
      replace hSc := (hF5 a (Or.inr rfl)).trans hSc; replace hF := hF.tr (fun q hq => hF5 q (Or.inl hq)); clear hF5 hW; have hW := hW5; clear hW5
      refine zV_blk (pc' := 53) (lo' := [(3, .ref b'), (2, .ref a), (0, .ref al), (1, .int x1)]) (st' := [.ref a, .ref al]) [.aload_n 0, .aload_n 2] (by decide +kernel) rfl ?_
      refine zV_get (ci := 9) (idx := 88) (k := 4) (N := 7) (fs := sFs l1 v4.2.2.2.2.2) (v := .int (v4.2.2.2.2.2 4)) (Or.inr hSc) rfl z_in9 (by decide) (zT_mem 237 (by decide +kernel) rfl) rfl (by decide +kernel) ?_
      refine l_putI (idx := 20) (k := 3) hW (by decide) (zT_mem 159 (by decide +kernel) rfl) (by decide +kernel) (fun hm5 hW5 hF5 => ?_)
      replace hSc := (hF5 a (Or.inr rfl)).trans hSc; replace hF := hF.tr (fun q hq => hF5 q (Or.inl hq)); clear hF5 hW; have hW := hW5; clear hW5
      refine zV_blk (pc' := 60) (lo' := [(3, .ref b'), (2, .ref a), (0, .ref al), (1, .int x1)]) (st' := [.ref b']) [.aload_n 3] (by decide +kernel) rfl ?_
      refine zV_ifnonnull (r := some b') (tgt := 65) (off := 5) (by decide +kernel) (by decide) (fun _ _ => ?_) (fun q => by cases q)
      refine zV_blk (pc' := 68) (lo' := [(3, .ref b'), (2, .ref a), (0, .ref al), (1, .int x1)]) (st' := [.ref b', .int x1, .ref al]) [.aload_n 0, .iload_n 1, .aload_n 3] (by decide +kernel) rfl ?_
      obtain ⟨v5, hv5, h⟩ := zbind h
      obtain ⟨v6, hv6, h⟩ := zbind h
      refine zV_less (mc' := 0 + 0) (ms' := 0 + 0) (by decide) (by decide) ?_
      refine l_call (mc := 0) (ms := 0) (idx := 91) (As := [.int x1, .ref b']) (rest := []) hW (fun Q2 hQ2 => cw_change s0 D (xA X a) cB cI cJ cD al l1 l2 l3 l4 l5 _ tp dv cs cv jv bo hg lw sb x1 (some z) (some b') v5 hv5 hW (Or.inr ⟨_, _, rfl, rfl, hD⟩) hQ2) oX11_change rfl (zT_mem 576 (by decide +kernel) rfl) (zT_mem 578 (by decide +kernel) rfl) (zT_mem 10 (by decide +kernel) rfl) rfl rfl (Nat.le_of_ble_eq_true rfl) ⟨by decide, by decide⟩ (by decide +kernel) ?_
      intro hi5 hm9 nx9 hX5 hW5 hF5
      replace hD := hD.mono hX5
      refine zV_eq (st2 := []) rfl rfl rfl rfl ?_
      refine zV_blk (pc' := 72) (lo' := [(3, .ref b'), (2, .ref a), (0, .ref al), (1, .int x1)]) (st' := [.ref b']) [.aload_n 3] (by decide +kernel) rfl ?_
      obtain ⟨e1, e2, e3, hc, i1, i2, i3⟩ := hD
      refine zV_get (ci := 0) (idx := 95) (k := 1) (N := 3) (fs := [.ref e1, .ref e2, .ref e3]) (v := .ref e2) (Or.inl hc) rfl z_in0 (by decide) (zT_mem 566 (by decide +kernel) rfl) rfl (by decide +kernel) ?_
      refine dc_cycle s0 D cB cI cJ cD (idx := 99) z.2.1 e2 v6 hv6 i2 (zT_mem 581 (by decide +kernel) rfl) (rest := []) rfl (Nat.le_of_ble_eq_true rfl) ⟨by decide, by decide⟩ (by decide +kernel) ?_
      obtain rfl := Option.some.inj h
      exact zV_iret rfl (by decide +kernel) (hQ0 _ _ _ (hX.tr hX5) (fin _ _ _ _ _ _ hW5) (hF.tr (fun q hq => hF5 q (Or.inl hq))))
  · replace h := zif_neg q h
    refine zV_blk (pc' := 9) (lo' := [(0, .ref al), (1, .int x1)]) (st' := [.int (-2)]) [.bipush (-2)] (by decide +kernel) rfl ?_
    obtain rfl := Option.some.inj h
    exact zV_iret rfl (by decide +kernel) (hQ0 _ _ _ zX.rf hW lFr.rf)
