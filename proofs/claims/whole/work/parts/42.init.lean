/-! ===== the class's constructor ===== -/
section ZND
variable {s0 : State} {D : va_G} {cB cI cJ cD : ClassId} {y : MethodName} {cc : ByteArray} {nL : Nat} {ret : Option FieldType} {rF rL mc ms pc : Nat} {lo : List (Nat × Value)} {st : List Value} {hi hm : zHp} {nx : Nat} {Q : Option Value → zHp → zHp → Nat → Prop} {idx : Nat}
theorem zV_newD {n : Int32} {N : Nat} (hcl : Cond.classLink y.cls idx RX0 ∈ zT) (hover : Cond.arrayOver (.object RX0) ∈ lw_tbl) (hn : ¬ n < 0) (hN : n.toNatClampNeg = N) (hb : N * 4 ≤ 536870912) (hd : decode cc pc = .ok (.anewarray idx, 3))
    (kk : hi nx = none → hm nx = none → zV s0 D (zty cB cI cJ cD) y cc nL ret rF rL mc ms (pc + 3) lo (.ref nx :: st) hi (va_up hm nx (some (.inl (cD, (N, .inr (.inr (.inr (.inr (fun _ => none))))))))) (nx + 1) Q) : zV s0 D (zty cB cI cJ cD) y cc nL ret rF rL (mc + 1) (ms + N) pc lo (.int n :: st) hi hm nx Q := by
  refine z_fresh fun n1 n2 => ?_
  replace kk := kk n1 n2
  intro l p e R s m args below meth c H locs cells slots ls G F
  obtain ⟨f1, f2, f3, f4, f5, f6, f7, f8, f9, f10, f11, f12, f13, f14⟩ := F
  have hnx := f11.1
  subst hN
  have hao : va_AO RX0 s := by
    obtain ⟨b0, g1, -, -⟩ := id G
    exact va_AO.moved f8.alike (va_AO.of (g1 _ hover))
  refine W.anew f1 f2 f5 (zG_w G f8 args _ hcl) (va_AO.use hao) rfl hd rfl hn hb (by omega) (by omega) fun cA kA comp q1 q2 q3 q4 => ?_
  obtain ⟨kB, compB, w1, w2, w3, w4⟩ := ((zG_K G f8).2 3 _ rfl).2
  have hcA : cA = cD := Option.some.inj (q1.symm.trans w4)
  subst hcA
  rw [hnx]
  generalize hH1 : H.push ({ cls := cA, slots := Array.replicate n.toNatClampNeg .null, vm := .none } : Cell) = H1
  have z1 : H1.size = H.size + 1 := by rw [← hH1, Array.size_push]
  have e1 : H1[H.size]? = some (arrV cA n.toNatClampNeg (fun _ => .null)) := by rw [← hH1, Array.getElem?_push_size, ← arrV_new]
  have o1 : ∀ q : Nat, q < H.size → H1[q]? = H[q]? := fun q hq => by rw [← hH1, Array.getElem?_push, if_neg (Nat.ne_of_lt hq)]
  refine kk l p e R s m args below meth c H1 locs (cells + 1) (slots + n.toNatClampNeg) ls G ⟨f1, f2, f3, f4, f5, f6, f7, f8, f9, ⟨by omega, by omega⟩, f11.push z1 o1 ?_, f12.pushed z1 o1, f13, f14⟩
  show H1[H.size]? = some (vp_cell _ _)
  rw [vp_cell_q]
  exact e1
end ZND
theorem oX11_init : zO yX11_init cX11_init 1 none 0 := ⟨zT_mem 117 (by decide +kernel) rfl, (zT_mem 89 (by decide +kernel) rfl), (by decide +kernel), (by decide +kernel), (by decide +kernel)⟩
set_option maxHeartbeats 1000000 in
set_option maxRecDepth 100000 in
theorem cw_init (s0 : State) (D : va_G) (X : Nat → Prop) (cB cI cJ cD : ClassId) (al : Nat) {hi hm : zHp} {nx : Nat} {Q : Option Value → zHp → zHp → Nat → Prop} (hBI : cB ≠ cI) (hX1 : ¬ X al) (hX2 : ∀ q, X q → hm q ≠ none) (hS : hm al = some (.inr (11, [.null, .int 0, .int 0, .int 0, .null, .null, .null, .int 0, .int 0, .null, .null, .null, .null, .null]))) (hQ : ∀ (hm' : zHp) (nx' l1 l2 l3 l4 l5 : Nat), lW X cB cI cJ cD al l1 l2 l3 l4 l5 (upd (fun _ => 0) 3 (-1)) (fun _ => 0) (fun _ => none) (fun _ => 0) (fun _ => none) none none none none (0, 16, 0, fun _ => 0) hi hm' → lFr X hm hm' → Q none hi hm' nx') : zM s0 D (zty cB cI cJ cD) yX11_init cX11_init 1 none 3 61 6 850 [.ref al] hi hm nx Q := by
  refine zM_of (by decide +kernel) (Nat.le_of_ble_eq_true rfl) ?_
  refine zV_eq (lo2 := [(0, .ref al)]) rfl rfl rfl rfl ?_
  have hF : ∀ q, hm q ≠ none → q ≠ al → hm q = hm q := fun _ _ _ => rfl
  refine zV_blk (pc' := 1) (lo' := [(0, .ref al)]) (st' := [.ref al]) [.aload_n 0] (by decide +kernel) rfl ?_
  refine zV_objInit (idx := 1) (zT_mem 118 (by decide +kernel) rfl) (zT_mem 119 (by decide +kernel) rfl) (zT_mem 120 (by decide +kernel) rfl) (by decide) (Nat.le_of_ble_eq_true rfl) (by decide +kernel) ?_
  refine zV_blk (pc' := 8) (lo' := [(0, .ref al)]) (st' := [.int 800, .ref al]) [.aload_n 0, .sipush 800] (by decide +kernel) rfl ?_
  refine zV_newB (mc := 5) (ms := 50) (n := 800) (N := 800) (zT_mem 154 (by decide +kernel) rfl) (by decide) (by decide) (by decide) (by decide +kernel) (fun _ hn => ?_)
  obtain ⟨l1, hel1⟩ : ∃ z : Nat, z = nx := ⟨_, rfl⟩
  rw [← hel1] at hn ⊢
  obtain ⟨nl1, henl1⟩ : ∃ z : Nat, z = l1 + 1 := ⟨_, rfl⟩
  rw [← henl1]; clear henl1 hel1
  have hzl1 : hm l1 = none := zfr0 hF (by rw [hS]; simp) hn
  replace hF := zfr1 (e := .inl (cB, (800, .inl (fun _ => 0)))) hF hn
  have hnel1 := zney hn hS
  replace hS := zUno (e := .inl (cB, (800, .inl (fun _ => 0)))) hn hS
  have hAl1 : va_up hm l1 (some (.inl (cB, (800, .inl (fun _ => 0))))) l1 = _ := zUe
  generalize va_up hm l1 (some (.inl (cB, (800, .inl (fun _ => 0))))) = hN1 at hF hS hAl1 ⊢
  clear hn
  refine zV_putS (ci := 11) (idx := 9) (k := 0) (v := .ref l1) (fs' := [.ref l1, .int 0, .int 0, .int 0, .null, .null, .null, .int 0, .int 0, .null, .null, .null, .null, .null]) tyX11 hS rfl z_in11 tyX11_ok nmX11 (by decide) (zT_mem 156 (by decide +kernel) rfl) (fun _ => ⟨rfl, rfl⟩) rfl rfl (Nat.le_of_ble_eq_true rfl) rfl (by decide +kernel) (fun hP2 hS2 hO2 => ?_)
  replace hF := zfr2 hF hO2
  replace hAl1 := (hO2 _ hnel1).trans hAl1
  clear hO2 hS; have hS := hS2; clear hS2
  refine zV_blk (pc' := 15) (lo' := [(0, .ref al)]) (st' := [.int 0, .ref al]) [.aload_n 0, .iconst 0] (by decide +kernel) rfl ?_
  refine zV_putS (ci := 11) (idx := 13) (k := 1) (v := .int 0) (fs' := [.ref l1, .int 0, .int 0, .int 0, .null, .null, .null, .int 0, .int 0, .null, .null, .null, .null, .null]) tyX11 hS rfl z_in11 tyX11_ok nmX11 (by decide) (zT_mem 157 (by decide +kernel) rfl) (fun _ => ⟨rfl, rfl⟩) rfl rfl (Nat.le_of_ble_eq_true rfl) rfl (by decide +kernel) (fun hP3 hS2 hO2 => ?_)
  replace hF := zfr2 hF hO2
  replace hAl1 := (hO2 _ hnel1).trans hAl1
  clear hO2 hS; have hS := hS2; clear hS2
  refine zV_blk (pc' := 20) (lo' := [(0, .ref al)]) (st' := [.int 0, .ref al]) [.aload_n 0, .iconst 0] (by decide +kernel) rfl ?_
  refine zV_putS (ci := 11) (idx := 17) (k := 2) (v := .int 0) (fs' := [.ref l1, .int 0, .int 0, .int 0, .null, .null, .null, .int 0, .int 0, .null, .null, .null, .null, .null]) tyX11 hS rfl z_in11 tyX11_ok nmX11 (by decide) (zT_mem 158 (by decide +kernel) rfl) (fun _ => ⟨rfl, rfl⟩) rfl rfl (Nat.le_of_ble_eq_true rfl) rfl (by decide +kernel) (fun hP4 hS2 hO2 => ?_)
  replace hF := zfr2 hF hO2
  replace hAl1 := (hO2 _ hnel1).trans hAl1
  clear hO2 hS; have hS := hS2; clear hS2
  refine zV_blk (pc' := 25) (lo' := [(0, .ref al)]) (st' := [.int (-1), .ref al]) [.aload_n 0, .iconst (-1)] (by decide +kernel) rfl ?_
  refine zV_putS (ci := 11) (idx := 20) (k := 3) (v := .int (-1)) (fs' := [.ref l1, .int 0, .int 0, .int (-1), .null, .null, .null, .int 0, .int 0, .null, .null, .null, .null, .null]) tyX11 hS rfl z_in11 tyX11_ok nmX11 (by decide) (zT_mem 159 (by decide +kernel) rfl) (fun _ => ⟨rfl, rfl⟩) rfl rfl (Nat.le_of_ble_eq_true rfl) rfl (by decide +kernel) (fun hP5 hS2 hO2 => ?_)
  replace hF := zfr2 hF hO2
  replace hAl1 := (hO2 _ hnel1).trans hAl1
  clear hO2 hS; have hS := hS2; clear hS2
  refine zV_blk (pc' := 31) (lo' := [(0, .ref al)]) (st' := [.int 6, .ref al]) [.aload_n 0, .bipush 6] (by decide +kernel) rfl ?_
  refine zV_newD (mc := 4) (ms := 44) (idx := 23) (n := 6) (N := 6) (zT_mem 121 (by decide +kernel) rfl) (List.mem_of_getElem? (i := 122) (by decide +kernel)) (by decide) (by decide) (by decide) (by decide +kernel) (fun _ hn => ?_)
  obtain ⟨l2, hel2⟩ : ∃ z : Nat, z = nl1 := ⟨_, rfl⟩
  rw [← hel2] at hn ⊢
  obtain ⟨nl2, henl2⟩ : ∃ z : Nat, z = l2 + 1 := ⟨_, rfl⟩
  rw [← henl2]; clear henl2 hel2
  have hzl2 : hm l2 = none := zfr0 hF (by rw [hS]; simp) hn
  replace hF := zfr1 (e := .inl (cD, (6, .inr (.inr (.inr (.inr (fun _ => none))))))) hF hn
  have hnel2 := zney hn hS
  have hdl2l1 := zney hn hAl1
  replace hAl1 := zUno (e := .inl (cD, (6, .inr (.inr (.inr (.inr (fun _ => none))))))) hn hAl1
  replace hS := zUno (e := .inl (cD, (6, .inr (.inr (.inr (.inr (fun _ => none))))))) hn hS
  have hAl2 : va_up hP5 l2 (some (.inl (cD, (6, .inr (.inr (.inr (.inr (fun _ => none)))))))) l2 = _ := zUe
  generalize va_up hP5 l2 (some (.inl (cD, (6, .inr (.inr (.inr (.inr (fun _ => none)))))))) = hN6 at hF hS hAl2 hAl1 ⊢
  clear hn
  refine zV_putS (ci := 11) (idx := 25) (k := 4) (v := .ref l2) (fs' := [.ref l1, .int 0, .int 0, .int (-1), .ref l2, .null, .null, .int 0, .int 0, .null, .null, .null, .null, .null]) tyX11 hS rfl z_in11 tyX11_ok nmX11 (by decide) (zT_mem 160 (by decide +kernel) rfl) (fun _ => ⟨rfl, rfl⟩) rfl rfl (Nat.le_of_ble_eq_true rfl) rfl (by decide +kernel) (fun hP7 hS2 hO2 => ?_)
  replace hF := zfr2 hF hO2
  replace hAl1 := (hO2 _ hnel1).trans hAl1
  replace hAl2 := (hO2 _ hnel2).trans hAl2
  clear hO2 hS; have hS := hS2; clear hS2
  refine zV_blk (pc' := 40) (lo' := [(0, .ref al)]) (st' := [.int 12, .ref al]) [.aload_n 0, .bipush 12] (by decide +kernel) rfl ?_
  refine zV_newI (mc := 3) (ms := 32) (n := 12) (N := 12) (zT_mem 155 (by decide +kernel) rfl) (by decide) (by decide) (by decide) (by decide +kernel) (fun _ hn => ?_)
  obtain ⟨l3, hel3⟩ : ∃ z : Nat, z = nl2 := ⟨_, rfl⟩
  rw [← hel3] at hn ⊢
  obtain ⟨nl3, henl3⟩ : ∃ z : Nat, z = l3 + 1 := ⟨_, rfl⟩
  rw [← henl3]; clear henl3 hel3
  have hzl3 : hm l3 = none := zfr0 hF (by rw [hS]; simp) hn
  replace hF := zfr1 (e := .inl (cI, (12, .inl (fun _ => 0)))) hF hn
  have hnel3 := zney hn hS
  have hdl3l1 := zney hn hAl1
  replace hAl1 := zUno (e := .inl (cI, (12, .inl (fun _ => 0)))) hn hAl1
  have hdl3l2 := zney hn hAl2
  replace hAl2 := zUno (e := .inl (cI, (12, .inl (fun _ => 0)))) hn hAl2
  replace hS := zUno (e := .inl (cI, (12, .inl (fun _ => 0)))) hn hS
  have hAl3 : va_up hP7 l3 (some (.inl (cI, (12, .inl (fun _ => 0))))) l3 = _ := zUe
  generalize va_up hP7 l3 (some (.inl (cI, (12, .inl (fun _ => 0))))) = hN8 at hF hS hAl3 hAl1 hAl2 ⊢
  clear hn
  refine zV_putS (ci := 11) (idx := 29) (k := 5) (v := .ref l3) (fs' := [.ref l1, .int 0, .int 0, .int (-1), .ref l2, .ref l3, .null, .int 0, .int 0, .null, .null, .null, .null, .null]) tyX11 hS rfl z_in11 tyX11_ok nmX11 (by decide) (zT_mem 161 (by decide +kernel) rfl) (fun _ => ⟨rfl, rfl⟩) rfl rfl (Nat.le_of_ble_eq_true rfl) rfl (by decide +kernel) (fun hP9 hS2 hO2 => ?_)
  replace hF := zfr2 hF hO2
  replace hAl1 := (hO2 _ hnel1).trans hAl1
  replace hAl2 := (hO2 _ hnel2).trans hAl2
  replace hAl3 := (hO2 _ hnel3).trans hAl3
  clear hO2 hS; have hS := hS2; clear hS2
  refine zV_blk (pc' := 48) (lo' := [(0, .ref al)]) (st' := [.int 12, .ref al]) [.aload_n 0, .bipush 12] (by decide +kernel) rfl ?_
  refine zV_newD (mc := 2) (ms := 20) (idx := 23) (n := 12) (N := 12) (zT_mem 121 (by decide +kernel) rfl) (List.mem_of_getElem? (i := 122) (by decide +kernel)) (by decide) (by decide) (by decide) (by decide +kernel) (fun _ hn => ?_)
  obtain ⟨l4, hel4⟩ : ∃ z : Nat, z = nl3 := ⟨_, rfl⟩
  rw [← hel4] at hn ⊢
  obtain ⟨nl4, henl4⟩ : ∃ z : Nat, z = l4 + 1 := ⟨_, rfl⟩
  rw [← henl4]; clear henl4 hel4
  have hzl4 : hm l4 = none := zfr0 hF (by rw [hS]; simp) hn
  replace hF := zfr1 (e := .inl (cD, (12, .inr (.inr (.inr (.inr (fun _ => none))))))) hF hn
  have hnel4 := zney hn hS
  have hdl4l1 := zney hn hAl1
  replace hAl1 := zUno (e := .inl (cD, (12, .inr (.inr (.inr (.inr (fun _ => none))))))) hn hAl1
  have hdl4l2 := zney hn hAl2
  replace hAl2 := zUno (e := .inl (cD, (12, .inr (.inr (.inr (.inr (fun _ => none))))))) hn hAl2
  have hdl4l3 := zney hn hAl3
  replace hAl3 := zUno (e := .inl (cD, (12, .inr (.inr (.inr (.inr (fun _ => none))))))) hn hAl3
  replace hS := zUno (e := .inl (cD, (12, .inr (.inr (.inr (.inr (fun _ => none))))))) hn hS
  have hAl4 : va_up hP9 l4 (some (.inl (cD, (12, .inr (.inr (.inr (.inr (fun _ => none)))))))) l4 = _ := zUe
  generalize va_up hP9 l4 (some (.inl (cD, (12, .inr (.inr (.inr (.inr (fun _ => none)))))))) = hN10 at hF hS hAl4 hAl1 hAl2 hAl3 ⊢
  clear hn
  refine zV_putS (ci := 11) (idx := 33) (k := 6) (v := .ref l4) (fs' := [.ref l1, .int 0, .int 0, .int (-1), .ref l2, .ref l3, .ref l4, .int 0, .int 0, .null, .null, .null, .null, .null]) tyX11 hS rfl z_in11 tyX11_ok nmX11 (by decide) (zT_mem 162 (by decide +kernel) rfl) (fun _ => ⟨rfl, rfl⟩) rfl rfl (Nat.le_of_ble_eq_true rfl) rfl (by decide +kernel) (fun hP11 hS2 hO2 => ?_)
  replace hF := zfr2 hF hO2
  replace hAl1 := (hO2 _ hnel1).trans hAl1
  replace hAl2 := (hO2 _ hnel2).trans hAl2
  replace hAl3 := (hO2 _ hnel3).trans hAl3
  replace hAl4 := (hO2 _ hnel4).trans hAl4
  clear hO2 hS; have hS := hS2; clear hS2
  refine zV_blk (pc' := 56) (lo' := [(0, .ref al)]) (st' := [.int 0, .ref al]) [.aload_n 0, .iconst 0] (by decide +kernel) rfl ?_
  refine zV_putS (ci := 11) (idx := 36) (k := 7) (v := .int 0) (fs' := [.ref l1, .int 0, .int 0, .int (-1), .ref l2, .ref l3, .ref l4, .int 0, .int 0, .null, .null, .null, .null, .null]) tyX11 hS rfl z_in11 tyX11_ok nmX11 (by decide) (zT_mem 163 (by decide +kernel) rfl) (fun _ => ⟨rfl, rfl⟩) rfl rfl (Nat.le_of_ble_eq_true rfl) rfl (by decide +kernel) (fun hP12 hS2 hO2 => ?_)
  replace hF := zfr2 hF hO2
  replace hAl1 := (hO2 _ hnel1).trans hAl1
  replace hAl2 := (hO2 _ hnel2).trans hAl2
  replace hAl3 := (hO2 _ hnel3).trans hAl3
  replace hAl4 := (hO2 _ hnel4).trans hAl4
  clear hO2 hS; have hS := hS2; clear hS2
  refine zV_blk (pc' := 61) (lo' := [(0, .ref al)]) (st' := [.int 0, .ref al]) [.aload_n 0, .iconst 0] (by decide +kernel) rfl ?_
  refine zV_putS (ci := 11) (idx := 39) (k := 8) (v := .int 0) (fs' := [.ref l1, .int 0, .int 0, .int (-1), .ref l2, .ref l3, .ref l4, .int 0, .int 0, .null, .null, .null, .null, .null]) tyX11 hS rfl z_in11 tyX11_ok nmX11 (by decide) (zT_mem 164 (by decide +kernel) rfl) (fun _ => ⟨rfl, rfl⟩) rfl rfl (Nat.le_of_ble_eq_true rfl) rfl (by decide +kernel) (fun hP13 hS2 hO2 => ?_)
  replace hF := zfr2 hF hO2
  replace hAl1 := (hO2 _ hnel1).trans hAl1
  replace hAl2 := (hO2 _ hnel2).trans hAl2
  replace hAl3 := (hO2 _ hnel3).trans hAl3
  replace hAl4 := (hO2 _ hnel4).trans hAl4
  clear hO2 hS; have hS := hS2; clear hS2
  refine zV_blk (pc' := 65) (lo' := [(0, .ref al)]) (st' := [.ref al]) [.aload_n 0] (by decide +kernel) rfl ?_
  refine zV_newX (mc := 1) (ms := 16) (ci := 13) (idx := 42) (N := 4) (fs := [.null, .int 0, .int 0, .int 0]) tyJ4 rfl z_inJ4 tyJ4_ok (zT_mem 123 (by decide +kernel) rfl) (zT_mem 124 (by decide +kernel) rfl) (zT_mem 91 (by decide +kernel) rfl) (fun j hj => by rcases (show j = 0 ∨ j = 1 ∨ j = 2 ∨ j = 3 by omega) with rfl | rfl | rfl | rfl <;> rfl) (by decide +kernel) (fun _ hn => ?_)
  obtain ⟨l5, hel5⟩ : ∃ z : Nat, z = nl4 := ⟨_, rfl⟩
  rw [← hel5] at hn ⊢
  obtain ⟨nl5, henl5⟩ : ∃ z : Nat, z = l5 + 1 := ⟨_, rfl⟩
  rw [← henl5]; clear henl5 hel5
  have hzl5 : hm l5 = none := zfr0 hF (by rw [hS]; simp) hn
  replace hF := zfr1 (e := .inr (13, [.null, .int 0, .int 0, .int 0])) hF hn
  have hnel5 := zney hn hS
  have hdl5l1 := zney hn hAl1
  replace hAl1 := zUno (e := .inr (13, [.null, .int 0, .int 0, .int 0])) hn hAl1
  have hdl5l2 := zney hn hAl2
  replace hAl2 := zUno (e := .inr (13, [.null, .int 0, .int 0, .int 0])) hn hAl2
  have hdl5l3 := zney hn hAl3
  replace hAl3 := zUno (e := .inr (13, [.null, .int 0, .int 0, .int 0])) hn hAl3
  have hdl5l4 := zney hn hAl4
  replace hAl4 := zUno (e := .inr (13, [.null, .int 0, .int 0, .int 0])) hn hAl4
  replace hS := zUno (e := .inr (13, [.null, .int 0, .int 0, .int 0])) hn hS
  have hAl5 : va_up hP13 l5 (some (.inr (13, [.null, .int 0, .int 0, .int 0]))) l5 = _ := zUe
  generalize va_up hP13 l5 (some (.inr (13, [.null, .int 0, .int 0, .int 0]))) = hN14 at hF hS hAl5 hAl1 hAl2 hAl3 hAl4 ⊢
  clear hn
  refine zV_blk (pc' := 69) (lo' := [(0, .ref al)]) (st' := [.ref l5, .ref l5, .ref al]) [.dup] (by decide +kernel) rfl ?_
  refine zV_callI (idx := 44) (As := []) (rest := [.ref l5, .ref al]) (cs_init s0 D cB cI cJ cD l5 (Q := fun v' hi' hm' nx' => v' = none ∧ hi = hi' ∧ ∃ vb, hN14 vb = none ∧ hm' l5 = some (.inr (13, sbC vb 0 0)) ∧ hm' vb = some (.inl (cB, 16, .inl (fun _ => 0))) ∧ ∀ q, q ≠ l5 → q ≠ vb → hm' q = hN14 q) hAl5 (fun hm' nx' vb g1 g2 g3 g4 => ⟨rfl, rfl, vb, g1, g2, g3, g4⟩)) oJ4_init rfl (zT_mem 125 (by decide +kernel) rfl) (zT_mem 126 (by decide +kernel) rfl) rfl rfl (Nat.le_of_ble_eq_true rfl) ⟨by decide, by decide⟩ ⟨by decide, by decide⟩ (by decide +kernel) ?_
  rintro _ _ hmB nxB ⟨rfl, rfl, vb, g1, g2, g3, g4⟩
  refine zV_eq (st2 := [.ref l5, .ref al]) rfl rfl rfl rfl ?_
  have hzvb : hm vb = none := zfr0 hF (by rw [hS]; simp) g1
  have hnevb := zney g1 hS
  have hdvbl1 := zney g1 hAl1
  have hdvbl2 := zney g1 hAl2
  have hdvbl3 := zney g1 hAl3
  have hdvbl4 := zney g1 hAl4
  have hdvbl5 := zney g1 hAl5
  replace hF : ∀ q, hm q ≠ none → q ≠ al → hmB q = hm q := fun q q1 q2 => (g4 q (fun e => by subst e; exact q1 hzl5) (fun e => by subst e; exact q1 hzvb)).trans (hF q q1 q2)
  replace hS := (g4 _ hnel5.symm hnevb.symm).trans hS
  replace hAl1 := (g4 _ hdl5l1.symm hdvbl1.symm).trans hAl1
  replace hAl2 := (g4 _ hdl5l2.symm hdvbl2.symm).trans hAl2
  replace hAl3 := (g4 _ hdl5l3.symm hdvbl3.symm).trans hAl3
  replace hAl4 := (g4 _ hdl5l4.symm hdvbl4.symm).trans hAl4
  replace hAl5 := g2
  have hAvb := g3
  refine zV_less (mc' := 0) (ms' := 0) (by decide) (by decide) ?_
  refine zV_putS (ci := 11) (idx := 45) (k := 9) (v := .ref l5) (fs' := [.ref l1, .int 0, .int 0, .int (-1), .ref l2, .ref l3, .ref l4, .int 0, .int 0, .ref l5, .null, .null, .null, .null]) tyX11 hS rfl z_in11 tyX11_ok nmX11 (by decide) (zT_mem 165 (by decide +kernel) rfl) (fun _ => ⟨rfl, rfl⟩) rfl rfl (Nat.le_of_ble_eq_true rfl) rfl (by decide +kernel) (fun hP15 hS2 hO2 => ?_)
  replace hF := zfr2 hF hO2
  replace hAl1 := (hO2 _ hnel1).trans hAl1
  replace hAl2 := (hO2 _ hnel2).trans hAl2
  replace hAl3 := (hO2 _ hnel3).trans hAl3
  replace hAl4 := (hO2 _ hnel4).trans hAl4
  replace hAl5 := (hO2 _ hnel5).trans hAl5
  replace hAvb := (hO2 _ hnevb).trans hAvb
  clear hO2 hS; have hS := hS2; clear hS2
  refine zV_blk (pc' := 76) (lo' := [(0, .ref al)]) (st' := [.ref al]) [.aload_n 0] (by decide +kernel) rfl ?_
  refine zV_blk (pc' := 77) (lo' := [(0, .ref al)]) (st' := [.null, .ref al]) [.aconst_null] (by decide +kernel) rfl ?_
  refine zV_putS (ci := 11) (idx := 49) (k := 10) (v := .null) (fs' := [.ref l1, .int 0, .int 0, .int (-1), .ref l2, .ref l3, .ref l4, .int 0, .int 0, .ref l5, .null, .null, .null, .null]) tyX11 hS rfl z_in11 tyX11_ok nmX11 (by decide) (zT_mem 166 (by decide +kernel) rfl) (fun _ => ⟨rfl, rfl⟩) rfl rfl (Nat.le_of_ble_eq_true rfl) rfl (by decide +kernel) (fun hP16 hS2 hO2 => ?_)
  replace hF := zfr2 hF hO2
  replace hAl1 := (hO2 _ hnel1).trans hAl1
  replace hAl2 := (hO2 _ hnel2).trans hAl2
  replace hAl3 := (hO2 _ hnel3).trans hAl3
  replace hAl4 := (hO2 _ hnel4).trans hAl4
  replace hAl5 := (hO2 _ hnel5).trans hAl5
  replace hAvb := (hO2 _ hnevb).trans hAvb
  clear hO2 hS; have hS := hS2; clear hS2
  refine zV_blk (pc' := 81) (lo' := [(0, .ref al)]) (st' := [.ref al]) [.aload_n 0] (by decide +kernel) rfl ?_
  refine zV_blk (pc' := 82) (lo' := [(0, .ref al)]) (st' := [.null, .ref al]) [.aconst_null] (by decide +kernel) rfl ?_
  refine zV_putS (ci := 11) (idx := 53) (k := 11) (v := .null) (fs' := [.ref l1, .int 0, .int 0, .int (-1), .ref l2, .ref l3, .ref l4, .int 0, .int 0, .ref l5, .null, .null, .null, .null]) tyX11 hS rfl z_in11 tyX11_ok nmX11 (by decide) (zT_mem 167 (by decide +kernel) rfl) (fun _ => ⟨rfl, rfl⟩) rfl rfl (Nat.le_of_ble_eq_true rfl) rfl (by decide +kernel) (fun hP17 hS2 hO2 => ?_)
  replace hF := zfr2 hF hO2
  replace hAl1 := (hO2 _ hnel1).trans hAl1
  replace hAl2 := (hO2 _ hnel2).trans hAl2
  replace hAl3 := (hO2 _ hnel3).trans hAl3
  replace hAl4 := (hO2 _ hnel4).trans hAl4
  replace hAl5 := (hO2 _ hnel5).trans hAl5
  replace hAvb := (hO2 _ hnevb).trans hAvb
  clear hO2 hS; have hS := hS2; clear hS2
  refine zV_blk (pc' := 86) (lo' := [(0, .ref al)]) (st' := [.ref al]) [.aload_n 0] (by decide +kernel) rfl ?_
  refine zV_blk (pc' := 87) (lo' := [(0, .ref al)]) (st' := [.null, .ref al]) [.aconst_null] (by decide +kernel) rfl ?_
  refine zV_putS (ci := 11) (idx := 56) (k := 12) (v := .null) (fs' := [.ref l1, .int 0, .int 0, .int (-1), .ref l2, .ref l3, .ref l4, .int 0, .int 0, .ref l5, .null, .null, .null, .null]) tyX11 hS rfl z_in11 tyX11_ok nmX11 (by decide) (zT_mem 168 (by decide +kernel) rfl) (fun _ => ⟨rfl, rfl⟩) rfl rfl (Nat.le_of_ble_eq_true rfl) rfl (by decide +kernel) (fun hP18 hS2 hO2 => ?_)
  replace hF := zfr2 hF hO2
  replace hAl1 := (hO2 _ hnel1).trans hAl1
  replace hAl2 := (hO2 _ hnel2).trans hAl2
  replace hAl3 := (hO2 _ hnel3).trans hAl3
  replace hAl4 := (hO2 _ hnel4).trans hAl4
  replace hAl5 := (hO2 _ hnel5).trans hAl5
  replace hAvb := (hO2 _ hnevb).trans hAvb
  clear hO2 hS; have hS := hS2; clear hS2
  refine zV_blk (pc' := 91) (lo' := [(0, .ref al)]) (st' := [.ref al]) [.aload_n 0] (by decide +kernel) rfl ?_
  refine zV_blk (pc' := 92) (lo' := [(0, .ref al)]) (st' := [.null, .ref al]) [.aconst_null] (by decide +kernel) rfl ?_
  refine zV_putS (ci := 11) (idx := 60) (k := 13) (v := .null) (fs' := [.ref l1, .int 0, .int 0, .int (-1), .ref l2, .ref l3, .ref l4, .int 0, .int 0, .ref l5, .null, .null, .null, .null]) tyX11 hS rfl z_in11 tyX11_ok nmX11 (by decide) (zT_mem 169 (by decide +kernel) rfl) (fun _ => ⟨rfl, rfl⟩) rfl rfl (Nat.le_of_ble_eq_true rfl) rfl (by decide +kernel) (fun hP19 hS2 hO2 => ?_)
  replace hF := zfr2 hF hO2
  replace hAl1 := (hO2 _ hnel1).trans hAl1
  replace hAl2 := (hO2 _ hnel2).trans hAl2
  replace hAl3 := (hO2 _ hnel3).trans hAl3
  replace hAl4 := (hO2 _ hnel4).trans hAl4
  replace hAl5 := (hO2 _ hnel5).trans hAl5
  replace hAvb := (hO2 _ hnevb).trans hAvb
  clear hO2 hS; have hS := hS2; clear hS2
  have nX : ∀ q, X q → q ≠ al := fun q hq e => hX1 (e ▸ hq)
  refine zV_vret rfl (by decide +kernel) (hQ _ _ l1 l2 l3 l4 l5 ⟨fun _ => none, fun _ => none, none, none, none, none, vb, ⟨hS, hAl1, hAl2, hAl3, hAl4, hAl5, hAvb⟩, ⟨fun _ _ => Or.inl ⟨rfl, rfl⟩, fun _ _ => Or.inl ⟨rfl, rfl⟩, Or.inl ⟨rfl, rfl⟩⟩, ⟨Or.inl ⟨rfl, rfl⟩, Or.inl ⟨rfl, rfl⟩, Or.inl ⟨rfl, rfl⟩, fun _ e => by cases e⟩, ⟨⟨hBI, hdvbl1⟩, hX1, fun e => hX2 _ e hzl1, fun e => hX2 _ e hzl2, fun e => hX2 _ e hzl3, fun e => hX2 _ e hzl4, fun e => hX2 _ e hzl5, fun e => hX2 _ e hzvb, fun q hq => by rw [hF q (hX2 q hq) (nX q hq)]; exact hX2 q hq⟩⟩ (fun q hq => hF q (hX2 q hq) (nX q hq)))
