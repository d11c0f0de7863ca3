theorem zfr0 {hm0 hm : zHp} {am a : Nat} (hF : ∀ q, hm0 q ≠ none → q ≠ am → hm q = hm0 q) (hs : hm am ≠ none) (hn : hm a = none) : hm0 a = none := by
  by_cases h : hm0 a = none
  · exact h
  · have ne : a ≠ am := fun z => by subst z; exact hs hn
    exact (hF a h ne).symm.trans hn
theorem zfr1 {hm0 hm : zHp} {am a : Nat} {e : va_E} (hF : ∀ q, hm0 q ≠ none → q ≠ am → hm q = hm0 q) (hn : hm a = none) : ∀ q, hm0 q ≠ none → q ≠ am → va_up hm a (some e) q = hm0 q := fun q h1 h2 => by
  have h3 := hF q h1 h2
  have ne : q ≠ a := fun z => by subst z; exact h1 (h3.symm.trans hn)
  exact zUn ne h3
theorem zfr2 {hm0 hm hm2 : zHp} {am : Nat} (hF : ∀ q, hm0 q ≠ none → q ≠ am → hm q = hm0 q) (hO : zO1 am hm hm2) : ∀ q, hm0 q ≠ none → q ≠ am → hm2 q = hm0 q := fun q h1 h2 => (hO q h2).trans (hF q h1 h2)
theorem zney {hm : zHp} {a b : Nat} {e : va_E} (hn : hm a = none) (hs : hm b = some e) : a ≠ b := fun z => by subst z; rw [hn] at hs; cases hs
section ZNB
variable {s0 : State} {D : va_G} {cB cI cJ cD : ClassId} {y : MethodName} {cc : ByteArray} {nL : Nat} {ret : Option FieldType} {rF rL mc ms pc : Nat} {lo : List (Nat × Value)} {st : List Value} {hi hm : zHp} {nx : Nat} {Q : Option Value → zHp → zHp → Nat → Prop}
theorem zV_newB {n : Int32} {N : Nat} (harr : Cond.arrayClass .byte ∈ zT) (hn : ¬ n < 0) (hN : n.toNatClampNeg = N) (hb : N * componentBytes .byte ≤ 536870912) (hd : decode cc pc = .ok (.newarray .byte, 2))
    (kk : hi nx = none → hm nx = none → zV s0 D (zty cB cI cJ cD) y cc nL ret rF rL mc ms (pc + 2) lo (.ref nx :: st) hi (va_up hm nx (some (.inl (cB, (N, .inl (fun _ => 0)))))) (nx + 1) Q) : zV s0 D (zty cB cI cJ cD) y cc nL ret rF rL (mc + 1) (ms + N) pc lo (.int n :: st) hi hm nx Q :=
  z_fresh fun n1 n2 => zV_newp (ty := .byte) (a0 := (N, .inl (fun _ => 0))) 0 rfl rfl (fun _ _ => rfl) harr (fun _ => rfl) hn hN hb hd (kk n1 n2)
end ZNB
theorem z_in12 : ∀ w ∈ u_ws RX12 TX12 26, w ∈ zT := zT_all _ [1466, 1468, 1470, 1472, 1474, 1476, 1478, 1480, 1482, 1484, 1486, 1488, 1490, 1492, 1494, 1496, 1498, 1500, 1502, 1504, 1506, 1508, 1510, 1512, 1514, 1516] (by decide +kernel) (by decide +kernel)
theorem oX12_init : zO yX12_init cX12_init 1 none 0 := ⟨zT_mem 1437 (by decide +kernel) rfl, zT_mem 94 (by decide +kernel) rfl, by decide +kernel, by decide +kernel, by decide +kernel⟩
set_option maxRecDepth 100000 in
theorem cm_init (s0 : State) (D : va_G) (cB cI cJ cD : ClassId) (am : Nat) {hi hm : zHp} {nx : Nat} {Q : Option Value → zHp → zHp → Nat → Prop} (hS : hm am = some (.inr (12, [.int 0, .null, .int 0, .int 0, .int 0, .int 0, .int 0, .int 0, .int 0, .int 0, .int 0, .int 0, .null, .int 0, .int 0, .null, .int 0, .int 0, .int 0, .int 0, .int 0, .long 0, .long 0, .long 0, .long 0, .long 0]))) (hQ : ∀ (hm' : zHp) (nx' a1 a2 a3 : Nat), mW cB cI am a1 a2 a3 (upd (fun _ => 0) 9 (-1)) (fun _ => 0) (fun _ => 0) (fun _ => 0) (fun _ => 0) hm' → (∀ q, hm q ≠ none → q ≠ am → hm' q = hm q) → hm a1 = none → hm a2 = none → hm a3 = none → Q none hi hm' nx') : zM s0 D (zty cB cI cJ cD) yX12_init cX12_init 1 none 1 20 3 39002 [.ref am] hi hm nx Q := by
  have hF : ∀ q, hm q ≠ none → q ≠ am → hm q = hm q := fun _ _ _ => rfl
  refine zM_of (by decide +kernel) (Nat.le_of_ble_eq_true rfl) ?_
  refine zV_eq (lo2 := [(0, .ref am)]) rfl rfl rfl rfl ?_
  refine zV_blk (pc' := 1) (lo' := [(0, .ref am)]) (st' := [.ref am]) [.aload_n 0] (by decide +kernel) rfl ?_
  refine zV_objInit (idx := 1) (zT_mem 1438 (by decide +kernel) rfl) (zT_mem 119 (by decide +kernel) rfl) (zT_mem 120 (by decide +kernel) rfl) (by decide) (Nat.le_of_ble_eq_true rfl) (by decide +kernel) ?_
  refine zV_blk (pc' := 8) (lo' := [(0, .ref am)]) (st' := [.int 800, .ref am]) [.aload_n 0, .sipush 800] (by decide +kernel) rfl ?_
  refine zV_newB (mc := 2) (ms := 38202) (n := 800) (N := 800) (zT_mem 154 (by decide +kernel) rfl) (by decide) (by decide) (by decide) (by decide +kernel) (fun _ hn => ?_)
  obtain ⟨a1, hea1⟩ : ∃ z : Nat, z = nx := ⟨_, rfl⟩
  rw [← hea1] at hn ⊢
  have hza1 := zfr0 hF (by rw [hS]; exact fun z => by cases z) hn
  replace hF := zfr1 (e := .inl (cB, (800, .inl (fun _ => 0)))) hF hn
  have hnea1 := zney hn hS
  replace hS := zUno (e := .inl (cB, (800, .inl (fun _ => 0)))) hn hS
  have hAa1 : va_up hm a1 (some (.inl (cB, (800, .inl (fun _ => 0))))) a1 = _ := zUe
  generalize va_up hm a1 (some (.inl (cB, (800, .inl (fun _ => 0))))) = hN1 at hF hS hAa1 ⊢
  clear hn
  refine zV_putS (ci := 12) (idx := 7) (k := 1) (v := .ref a1) (fs' := [.int 0, .ref a1, .int 0, .int 0, .int 0, .int 0, .int 0, .int 0, .int 0, .int 0, .int 0, .int 0, .null, .int 0, .int 0, .null, .int 0, .int 0, .int 0, .int 0, .int 0, .long 0, .long 0, .long 0, .long 0, .long 0]) tyX12 hS rfl z_in12 tyX12_ok nmX12 (by decide) (zT_mem 1441 (by decide +kernel) rfl) (fun _ => ⟨rfl, rfl⟩) rfl rfl (Nat.le_of_ble_eq_true rfl) rfl (by decide +kernel) (fun hP2 hS2 hO2 => ?_)
  replace hF := zfr2 hF hO2
  replace hAa1 := (hO2 _ hnea1).trans hAa1
  clear hO2 hS; have hS := hS2; clear hS2
  refine zV_blk (pc' := 15) (lo' := [(0, .ref am)]) (st' := [.int (-1), .ref am]) [.aload_n 0, .iconst (-1)] (by decide +kernel) rfl ?_
  refine zV_putS (ci := 12) (idx := 13) (k := 9) (v := .int (-1)) (fs' := [.int 0, .ref a1, .int 0, .int 0, .int 0, .int 0, .int 0, .int 0, .int 0, .int (-1), .int 0, .int 0, .null, .int 0, .int 0, .null, .int 0, .int 0, .int 0, .int 0, .int 0, .long 0, .long 0, .long 0, .long 0, .long 0]) tyX12 hS rfl z_in12 tyX12_ok nmX12 (by decide) (zT_mem 1449 (by decide +kernel) rfl) (fun _ => ⟨rfl, rfl⟩) rfl rfl (Nat.le_of_ble_eq_true rfl) rfl (by decide +kernel) (fun hP3 hS2 hO2 => ?_)
  replace hF := zfr2 hF hO2
  replace hAa1 := (hO2 _ hnea1).trans hAa1
  clear hO2 hS; have hS := hS2; clear hS2
  refine zV_blk (pc' := 19) (lo' := [(0, .ref am)]) (st' := [.ref am]) [.aload_n 0] (by decide +kernel) rfl ?_
  refine zV_ldc (idx := 17) (v := 35802) (zT_mem 1439 (by decide +kernel) rfl) (by decide +kernel) ?_
  refine zV_newI (mc := 1) (ms := 2400) (n := 35802) (N := 35802) (zT_mem 155 (by decide +kernel) rfl) (by decide) (by decide) (by decide) (by decide +kernel) (fun _ hn => ?_)
  obtain ⟨a2, hea2⟩ : ∃ z : Nat, z = a1 + 1 := ⟨_, rfl⟩
  rw [← hea2] at hn ⊢
  have hza2 := zfr0 hF (by rw [hS]; exact fun z => by cases z) hn
  replace hF := zfr1 (e := .inl (cI, (35802, .inl (fun _ => 0)))) hF hn
  have hnea2 := zney hn hS
  replace hAa1 := zUno (e := .inl (cI, (35802, .inl (fun _ => 0)))) hn hAa1
  replace hS := zUno (e := .inl (cI, (35802, .inl (fun _ => 0)))) hn hS
  have hAa2 : va_up hP3 a2 (some (.inl (cI, (35802, .inl (fun _ => 0))))) a2 = _ := zUe
  generalize va_up hP3 a2 (some (.inl (cI, (35802, .inl (fun _ => 0))))) = hN4 at hF hS hAa2 hAa1 ⊢
  clear hn
  refine zV_putS (ci := 12) (idx := 18) (k := 12) (v := .ref a2) (fs' := [.int 0, .ref a1, .int 0, .int 0, .int 0, .int 0, .int 0, .int 0, .int 0, .int (-1), .int 0, .int 0, .ref a2, .int 0, .int 0, .null, .int 0, .int 0, .int 0, .int 0, .int 0, .long 0, .long 0, .long 0, .long 0, .long 0]) tyX12 hS rfl z_in12 tyX12_ok nmX12 (by decide) (zT_mem 1452 (by decide +kernel) rfl) (fun _ => ⟨rfl, rfl⟩) rfl rfl (Nat.le_of_ble_eq_true rfl) rfl (by decide +kernel) (fun hP5 hS2 hO2 => ?_)
  replace hF := zfr2 hF hO2
  replace hAa1 := (hO2 _ hnea1).trans hAa1
  replace hAa2 := (hO2 _ hnea2).trans hAa2
  clear hO2 hS; have hS := hS2; clear hS2
  refine zV_blk (pc' := 30) (lo' := [(0, .ref am)]) (st' := [.int 2400, .ref am]) [.aload_n 0, .sipush 2400] (by decide +kernel) rfl ?_
  refine zV_newI (mc := 0) (ms := 0) (n := 2400) (N := 2400) (zT_mem 155 (by decide +kernel) rfl) (by decide) (by decide) (by decide) (by decide +kernel) (fun _ hn => ?_)
  obtain ⟨a3, hea3⟩ : ∃ z : Nat, z = a2 + 1 := ⟨_, rfl⟩
  rw [← hea3] at hn ⊢
  have hza3 := zfr0 hF (by rw [hS]; exact fun z => by cases z) hn
  replace hF := zfr1 (e := .inl (cI, (2400, .inl (fun _ => 0)))) hF hn
  have hnea3 := zney hn hS
  replace hAa1 := zUno (e := .inl (cI, (2400, .inl (fun _ => 0)))) hn hAa1
  replace hAa2 := zUno (e := .inl (cI, (2400, .inl (fun _ => 0)))) hn hAa2
  replace hS := zUno (e := .inl (cI, (2400, .inl (fun _ => 0)))) hn hS
  have hAa3 : va_up hP5 a3 (some (.inl (cI, (2400, .inl (fun _ => 0))))) a3 = _ := zUe
  generalize va_up hP5 a3 (some (.inl (cI, (2400, .inl (fun _ => 0))))) = hN6 at hF hS hAa3 hAa1 hAa2 ⊢
  clear hn
  refine zV_putS (ci := 12) (idx := 22) (k := 15) (v := .ref a3) (fs' := [.int 0, .ref a1, .int 0, .int 0, .int 0, .int 0, .int 0, .int 0, .int 0, .int (-1), .int 0, .int 0, .ref a2, .int 0, .int 0, .ref a3, .int 0, .int 0, .int 0, .int 0, .int 0, .long 0, .long 0, .long 0, .long 0, .long 0]) tyX12 hS rfl z_in12 tyX12_ok nmX12 (by decide) (zT_mem 1455 (by decide +kernel) rfl) (fun _ => ⟨rfl, rfl⟩) rfl rfl (Nat.le_of_ble_eq_true rfl) rfl (by decide +kernel) (fun hP7 hS2 hO2 => ?_)
  replace hF := zfr2 hF hO2
  replace hAa1 := (hO2 _ hnea1).trans hAa1
  replace hAa2 := (hO2 _ hnea2).trans hAa2
  replace hAa3 := (hO2 _ hnea3).trans hAa3
  clear hO2 hS; have hS := hS2; clear hS2
  exact zV_vret rfl (by decide +kernel) (hQ _ _ a1 a2 a3 ⟨hS, hAa1, hAa2, hAa3⟩ hF hza1 hza2 hza3)
def n_new (x2 : Int32) : Option Int32 := j_minI x2 800
theorem oX9_init : zO yX9_init cX9_init 3 none 2 := ⟨zT_mem 222 (by decide +kernel) rfl, zT_mem 95 (by decide +kernel) rfl, by decide +kernel, by decide +kernel, by decide +kernel⟩
set_option maxRecDepth 100000 in
theorem cn_new (s0 : State) (D : va_G) (cB cI cJ cD : ClassId) (as a1 : Nat) (tp : Nat → Int32) (x2 x : Int32) (h : n_new x2 = some x) {hi hm : zHp} {nx : Nat} {Q : Option Value → zHp → zHp → Nat → Prop} (hS : hm as = some (.inr (9, [.int 0, .int 0, .int 0, .int 0, .int 0, .null, .int 0]))) (hT : hm a1 = some (.inl (cB, 800, .inl tp))) (hQ : ∀ hm', hm' as = some (.inr (9, sFs a1 (fun k => if k = 0 then x else if k = 4 then -1 else 0))) → zO1 as hm hm' → Q none hi hm' nx) : zM s0 D (zty cB cI cJ cD) yX9_init cX9_init 3 none 1 21 0 0 [.ref as, .ref a1, .int x2] hi hm nx Q := by
  have hne : a1 ≠ as := fun z => by subst z; rw [hT] at hS; cases hS
  have hO : zO1 as hm hm := zO1.rf
  unfold n_new at h
  refine zM_of (by decide +kernel) (Nat.le_of_ble_eq_true rfl) ?_
  refine zV_eq (lo2 := [(0, .ref as), (1, .ref a1), (2, .int x2)]) rfl rfl rfl rfl ?_
  refine zV_blk (pc' := 1) (lo' := [(0, .ref as), (1, .ref a1), (2, .int x2)]) (st' := [.ref as]) [.aload_n 0] (by decide +kernel) rfl ?_
  refine zV_objInit (idx := 3) (zT_mem 223 (by decide +kernel) rfl) (zT_mem 119 (by decide +kernel) rfl) (zT_mem 120 (by decide +kernel) rfl) (by decide) (Nat.le_of_ble_eq_true rfl) (by decide +kernel) ?_
  refine zV_blk (pc' := 6) (lo' := [(0, .ref as), (1, .ref a1), (2, .int x2)]) (st' := [.int 0, .ref as]) [.aload_n 0, .iconst 0] (by decide +kernel) rfl ?_
  refine zV_putS (ci := 9) (idx := 11) (k := 1) (v := .int 0) (fs' := [.int 0, .int 0, .int 0, .int 0, .int 0, .null, .int 0]) tyX9 hS rfl z_in9 tyX9_ok nmX9 (by decide) (zT_mem 229 (by decide +kernel) rfl) (fun _ => ⟨rfl, rfl⟩) rfl rfl (Nat.le_of_ble_eq_true rfl) rfl (by decide +kernel) (fun hm2 hS2 hO2 => ?_)
  replace hO := hO.tr hO2; clear hO2 hS; have hS := hS2; clear hS2
  refine zV_blk (pc' := 11) (lo' := [(0, .ref as), (1, .ref a1), (2, .int x2)]) (st' := [.int 0, .ref as]) [.aload_n 0, .iconst 0] (by decide +kernel) rfl ?_
  refine zV_putS (ci := 9) (idx := 15) (k := 2) (v := .int 0) (fs' := [.int 0, .int 0, .int 0, .int 0, .int 0, .null, .int 0]) tyX9 hS rfl z_in9 tyX9_ok nmX9 (by decide) (zT_mem 231 (by decide +kernel) rfl) (fun _ => ⟨rfl, rfl⟩) rfl rfl (Nat.le_of_ble_eq_true rfl) rfl (by decide +kernel) (fun hm2 hS2 hO2 => ?_)
  replace hO := hO.tr hO2; clear hO2 hS; have hS := hS2; clear hS2
  refine zV_blk (pc' := 16) (lo' := [(0, .ref as), (1, .ref a1), (2, .int x2)]) (st' := [.int 0, .ref as]) [.aload_n 0, .iconst 0] (by decide +kernel) rfl ?_
  refine zV_putS (ci := 9) (idx := 18) (k := 3) (v := .int 0) (fs' := [.int 0, .int 0, .int 0, .int 0, .int 0, .null, .int 0]) tyX9 hS rfl z_in9 tyX9_ok nmX9 (by decide) (zT_mem 233 (by decide +kernel) rfl) (fun _ => ⟨rfl, rfl⟩) rfl rfl (Nat.le_of_ble_eq_true rfl) rfl (by decide +kernel) (fun hm2 hS2 hO2 => ?_)
  replace hO := hO.tr hO2; clear hO2 hS; have hS := hS2; clear hS2
  refine zV_blk (pc' := 21) (lo' := [(0, .ref as), (1, .ref a1), (2, .int x2)]) (st' := [.int (-1), .ref as]) [.aload_n 0, .iconst (-1)] (by decide +kernel) rfl ?_
  refine zV_putS (ci := 9) (idx := 21) (k := 4) (v := .int (-1)) (fs' := [.int 0, .int 0, .int 0, .int 0, .int (-1), .null, .int 0]) tyX9 hS rfl z_in9 tyX9_ok nmX9 (by decide) (zT_mem 236 (by decide +kernel) rfl) (fun _ => ⟨rfl, rfl⟩) rfl rfl (Nat.le_of_ble_eq_true rfl) rfl (by decide +kernel) (fun hm2 hS2 hO2 => ?_)
  replace hO := hO.tr hO2; clear hO2 hS; have hS := hS2; clear hS2
  refine zV_blk (pc' := 26) (lo' := [(0, .ref as), (1, .ref a1), (2, .int x2)]) (st' := [.int 0, .ref as]) [.aload_n 0, .iconst 0] (by decide +kernel) rfl ?_
  refine zV_putS (ci := 9) (idx := 24) (k := 6) (v := .int 0) (fs' := [.int 0, .int 0, .int 0, .int 0, .int (-1), .null, .int 0]) tyX9 hS rfl z_in9 tyX9_ok nmX9 (by decide) (zT_mem 239 (by decide +kernel) rfl) (fun _ => ⟨rfl, rfl⟩) rfl rfl (Nat.le_of_ble_eq_true rfl) rfl (by decide +kernel) (fun hm2 hS2 hO2 => ?_)
  replace hO := hO.tr hO2; clear hO2 hS; have hS := hS2; clear hS2
  refine zV_blk (pc' := 31) (lo' := [(0, .ref as), (1, .ref a1), (2, .int x2)]) (st' := [.ref a1, .ref as]) [.aload_n 0, .aload_n 1] (by decide +kernel) rfl ?_
  refine zV_putS (ci := 9) (idx := 27) (k := 5) (v := .ref a1) (fs' := [.int 0, .int 0, .int 0, .int 0, .int (-1), .ref a1, .int 0]) tyX9 hS rfl z_in9 tyX9_ok nmX9 (by decide) (zT_mem 238 (by decide +kernel) rfl) (fun _ => ⟨rfl, rfl⟩) rfl rfl (Nat.le_of_ble_eq_true rfl) rfl (by decide +kernel) (fun hm2 hS2 hO2 => ?_)
  replace hO := hO.tr hO2; clear hO2 hS; have hS := hS2; clear hS2
  refine zV_blk (pc' := 37) (lo' := [(0, .ref as), (1, .ref a1), (2, .int x2)]) (st' := [.ref a1, .int x2, .ref as]) [.aload_n 0, .iload_n 2, .aload_n 1] (by decide +kernel) rfl ?_
  refine zV_alen 0 (Or.inr ((hO _ hne).trans hT)) rfl (by decide +kernel) ?_
  refine zV_eq (st2 := [.int 800, .int x2, .ref as]) rfl rfl rfl rfl ?_
  refine zV_roS (idx := 31) (rest := [.ref as]) (fun Q2 hQ2 => cj_minI s0 D cB cI cJ cD x2 800 x h hQ2) oJ9_min_7cf53 (zT_mem 224 (by decide +kernel) rfl) (zT_mem 225 (by decide +kernel) rfl) rfl rfl (Nat.le_of_ble_eq_true rfl) ⟨by decide, by decide⟩ (by decide +kernel) ?_
  refine zV_eq (st2 := [.int x, .ref as]) rfl rfl rfl rfl ?_
  refine zV_putS (ci := 9) (idx := 37) (k := 0) (v := .int x) (fs' := [.int x, .int 0, .int 0, .int 0, .int (-1), .ref a1, .int 0]) tyX9 hS rfl z_in9 tyX9_ok nmX9 (by decide) (zT_mem 227 (by decide +kernel) rfl) (fun _ => ⟨rfl, rfl⟩) rfl rfl (Nat.le_of_ble_eq_true rfl) rfl (by decide +kernel) (fun hm2 hS2 hO2 => ?_)
  replace hO := hO.tr hO2; clear hO2 hS; have hS := hS2; clear hS2
  exact zV_vret rfl (by decide +kernel) (hQ _ hS hO)
theorem z_in7 : ∀ w ∈ u_ws RX7 TX7 12, w ∈ zT := zT_all _ [309, 311, 313, 315, 317, 319, 321, 323, 325, 327, 329, 331] (by decide +kernel) (by decide +kernel)
def n_newReader : Option vTrue := k_newTrue 365 0 1 0 1
theorem oX7_init : zO yX7_init cX7_init 2 none 1 := ⟨zT_mem 259 (by decide +kernel) rfl, zT_mem 97 (by decide +kernel) rfl, by decide +kernel, by decide +kernel, by decide +kernel⟩
set_option maxRecDepth 100000 in
theorem cn_newReader (s0 : State) (D : va_G) (cB cI cJ cD : ClassId) (ar as : Nat) (x : vTrue) (h : n_newReader = some x) {hi hm : zHp} {nx : Nat} {Q : Option Value → zHp → zHp → Nat → Prop} (hS : hm ar = some (.inr (7, [.null, .int 0, .int 0, .int 0, .null, .null, .int 0, .int 0, .int 0, .null, .int 0, .int 0]))) (hQ : ∀ (hi' hm' : zHp) (nx' b1 b2 : Nat), zX hi hi' → hm' ar = some (.inr (7, [.ref as, .int 0, .int 365, .int 1, .ref b1, .null, .int 0, .int 7, .int 0, .ref b2, .int 0, .int 1])) → iNone hi' b1 → iTrue hi' b2 x → zO1 ar hm hm' → Q none hi' hm' nx') : zM s0 D (zty cB cI cJ cD) yX7_init cX7_init 2 none 2 46 2 5 [.ref ar, .ref as] hi hm nx Q := by
  have hO : zO1 ar hm hm := zO1.rf
  have hXX : zX hi hi := zX.rf
  unfold n_newReader at h
  refine zM_of (by decide +kernel) (Nat.le_of_ble_eq_true rfl) ?_
  refine zV_eq (lo2 := [(0, .ref ar), (1, .ref as)]) rfl rfl rfl rfl ?_
  refine zV_blk (pc' := 1) (lo' := [(0, .ref ar), (1, .ref as)]) (st' := [.ref ar]) [.aload_n 0] (by decide +kernel) rfl ?_
  refine zV_objInit (idx := 3) (zT_mem 260 (by decide +kernel) rfl) (zT_mem 119 (by decide +kernel) rfl) (zT_mem 120 (by decide +kernel) rfl) (by decide) (Nat.le_of_ble_eq_true rfl) (by decide +kernel) ?_
  refine zV_blk (pc' := 6) (lo' := [(0, .ref ar), (1, .ref as)]) (st' := [.int 0, .ref ar]) [.aload_n 0, .iconst 0] (by decide +kernel) rfl ?_
  refine zV_putS (ci := 7) (idx := 9) (k := 1) (v := .int 0) (fs' := [.null, .int 0, .int 0, .int 0, .null, .null, .int 0, .int 0, .int 0, .null, .int 0, .int 0]) tyX7 hS rfl z_in7 tyX7_ok nmX7 (by decide) (zT_mem 298 (by decide +kernel) rfl) (fun _ => ⟨rfl, rfl⟩) rfl rfl (Nat.le_of_ble_eq_true rfl) rfl (by decide +kernel) (fun hm2 hS2 hO2 => ?_)
  replace hO := hO.tr hO2; clear hO2 hS; have hS := hS2; clear hS2
  refine zV_blk (pc' := 13) (lo' := [(0, .ref ar), (1, .ref as)]) (st' := [.int 365, .ref ar]) [.aload_n 0, .sipush 365] (by decide +kernel) rfl ?_
  refine zV_putS (ci := 7) (idx := 15) (k := 2) (v := .int 365) (fs' := [.null, .int 0, .int 365, .int 0, .null, .null, .int 0, .int 0, .int 0, .null, .int 0, .int 0]) tyX7 hS rfl z_in7 tyX7_ok nmX7 (by decide) (zT_mem 299 (by decide +kernel) rfl) (fun _ => ⟨rfl, rfl⟩) rfl rfl (Nat.le_of_ble_eq_true rfl) rfl (by decide +kernel) (fun hm2 hS2 hO2 => ?_)
  replace hO := hO.tr hO2; clear hO2 hS; have hS := hS2; clear hS2
  refine zV_blk (pc' := 18) (lo' := [(0, .ref ar), (1, .ref as)]) (st' := [.int 1, .ref ar]) [.aload_n 0, .iconst 1] (by decide +kernel) rfl ?_
  refine zV_putS (ci := 7) (idx := 18) (k := 3) (v := .int 1) (fs' := [.null, .int 0, .int 365, .int 1, .null, .null, .int 0, .int 0, .int 0, .null, .int 0, .int 0]) tyX7 hS rfl z_in7 tyX7_ok nmX7 (by decide) (zT_mem 300 (by decide +kernel) rfl) (fun _ => ⟨rfl, rfl⟩) rfl rfl (Nat.le_of_ble_eq_true rfl) rfl (by decide +kernel) (fun hm2 hS2 hO2 => ?_)
  replace hO := hO.tr hO2; clear hO2 hS; have hS := hS2; clear hS2
  refine zV_blk (pc' := 22) (lo' := [(0, .ref ar), (1, .ref as)]) (st' := [.ref ar]) [.aload_n 0] (by decide +kernel) rfl ?_
  refine zV_newX (mc := 1) (ms := 5) (ci := 6) (idx := 21) (N := 0) (fs := []) tyX6 rfl z_in6 tyX6_ok (zT_mem 261 (by decide +kernel) rfl) (zT_mem 262 (by decide +kernel) rfl) (zT_mem 98 (by decide +kernel) rfl) (fun j hj => absurd hj (by omega)) (by decide +kernel) (fun _ hnb1 => ?_)
  obtain ⟨b1, heb1⟩ : ∃ z : Nat, z = nx := ⟨_, rfl⟩
  rw [← heb1] at hnb1 ⊢
  obtain ⟨nb1, henb1⟩ : ∃ z : Nat, z = b1 + 1 := ⟨_, rfl⟩
  rw [← henb1]; clear henb1 heb1
  refine zV_blk (pc' := 26) (lo' := [(0, .ref ar), (1, .ref as)]) (st' := [.ref b1, .ref b1, .ref ar]) [.dup] (by decide +kernel) rfl ?_
  refine zV_mkN (host := "LeapDesigner") (idx := 23) (As := []) (rest := [.ref b1, .ref ar]) (e := .inr (6, [])) (fun Q2 hQ2 => ck_newLaw s0 D cB cI cJ cD b1 (hQ2 _ (by simp [va_up]) zO1.rf)) oX6_init rfl (List.mem_of_getElem? (i := 263) (by decide +kernel)) (zT_mem 264 (by decide +kernel) rfl) rfl rfl (Nat.le_of_ble_eq_true rfl) ⟨by decide, by decide⟩ (by decide +kernel) hnb1 (fun hi2 hX hcb1 => ?_)
  replace hXX := hXX.tr hX; clear hX
  refine zV_putS (ci := 7) (idx := 24) (k := 4) (v := .ref b1) (fs' := [.null, .int 0, .int 365, .int 1, .ref b1, .null, .int 0, .int 0, .int 0, .null, .int 0, .int 0]) tyX7 hS rfl z_in7 tyX7_ok nmX7 (by decide) (zT_mem 301 (by decide +kernel) rfl) (fun _ => ⟨rfl, rfl⟩) rfl rfl (Nat.le_of_ble_eq_true rfl) rfl (by decide +kernel) (fun hm2 hS2 hO2 => ?_)
  replace hO := hO.tr hO2; clear hO2 hS; have hS := hS2; clear hS2
  refine zV_blk (pc' := 34) (lo' := [(0, .ref ar), (1, .ref as)]) (st' := [.null, .ref ar]) [.aload_n 0, .aconst_null] (by decide +kernel) rfl ?_
  refine zV_putS (ci := 7) (idx := 28) (k := 5) (v := .null) (fs' := [.null, .int 0, .int 365, .int 1, .ref b1, .null, .int 0, .int 0, .int 0, .null, .int 0, .int 0]) tyX7 hS rfl z_in7 tyX7_ok nmX7 (by decide) (zT_mem 302 (by decide +kernel) rfl) (fun _ => ⟨rfl, rfl⟩) rfl rfl (Nat.le_of_ble_eq_true rfl) rfl (by decide +kernel) (fun hm2 hS2 hO2 => ?_)
  replace hO := hO.tr hO2; clear hO2 hS; have hS := hS2; clear hS2
  refine zV_blk (pc' := 39) (lo' := [(0, .ref ar), (1, .ref as)]) (st' := [.int 0, .ref ar]) [.aload_n 0, .iconst 0] (by decide +kernel) rfl ?_
  refine zV_putS (ci := 7) (idx := 32) (k := 6) (v := .int 0) (fs' := [.null, .int 0, .int 365, .int 1, .ref b1, .null, .int 0, .int 0, .int 0, .null, .int 0, .int 0]) tyX7 hS rfl z_in7 tyX7_ok nmX7 (by decide) (zT_mem 303 (by decide +kernel) rfl) (fun _ => ⟨rfl, rfl⟩) rfl rfl (Nat.le_of_ble_eq_true rfl) rfl (by decide +kernel) (fun hm2 hS2 hO2 => ?_)
  replace hO := hO.tr hO2; clear hO2 hS; have hS := hS2; clear hS2
  refine zV_blk (pc' := 45) (lo' := [(0, .ref ar), (1, .ref as)]) (st' := [.int 7, .ref ar]) [.aload_n 0, .bipush 7] (by decide +kernel) rfl ?_
  refine zV_putS (ci := 7) (idx := 35) (k := 7) (v := .int 7) (fs' := [.null, .int 0, .int 365, .int 1, .ref b1, .null, .int 0, .int 7, .int 0, .null, .int 0, .int 0]) tyX7 hS rfl z_in7 tyX7_ok nmX7 (by decide) (zT_mem 304 (by decide +kernel) rfl) (fun _ => ⟨rfl, rfl⟩) rfl rfl (Nat.le_of_ble_eq_true rfl) rfl (by decide +kernel) (fun hm2 hS2 hO2 => ?_)
  replace hO := hO.tr hO2; clear hO2 hS; have hS := hS2; clear hS2
  refine zV_blk (pc' := 50) (lo' := [(0, .ref ar), (1, .ref as)]) (st' := [.int 0, .ref ar]) [.aload_n 0, .iconst 0] (by decide +kernel) rfl ?_
  refine zV_putS (ci := 7) (idx := 38) (k := 8) (v := .int 0) (fs' := [.null, .int 0, .int 365, .int 1, .ref b1, .null, .int 0, .int 7, .int 0, .null, .int 0, .int 0]) tyX7 hS rfl z_in7 tyX7_ok nmX7 (by decide) (zT_mem 305 (by decide +kernel) rfl) (fun _ => ⟨rfl, rfl⟩) rfl rfl (Nat.le_of_ble_eq_true rfl) rfl (by decide +kernel) (fun hm2 hS2 hO2 => ?_)
  replace hO := hO.tr hO2; clear hO2 hS; have hS := hS2; clear hS2
  refine zV_blk (pc' := 54) (lo' := [(0, .ref ar), (1, .ref as)]) (st' := [.ref ar]) [.aload_n 0] (by decide +kernel) rfl ?_
  refine zV_newX (mc := 0) (ms := 0) (ci := 10) (idx := 41) (N := 5) (fs := [.int 0, .int 0, .int 0, .int 0, .int 0]) tyX10 rfl z_in10 tyX10_ok (zT_mem 268 (by decide +kernel) rfl) (zT_mem 269 (by decide +kernel) rfl) (zT_mem 99 (by decide +kernel) rfl) (fun j hj => by rcases (show j = 0 ∨ j = 1 ∨ j = 2 ∨ j = 3 ∨ j = 4 by omega) with rfl | rfl | rfl | rfl | rfl <;> rfl) (by decide +kernel) (fun _ hnb2 => ?_)
  obtain ⟨b2, heb2⟩ : ∃ z : Nat, z = nb1 := ⟨_, rfl⟩
  rw [← heb2] at hnb2 ⊢
  obtain ⟨nb2, henb2⟩ : ∃ z : Nat, z = b2 + 1 := ⟨_, rfl⟩
  rw [← henb2]; clear henb2 heb2
  refine zV_blk (pc' := 65) (lo' := [(0, .ref ar), (1, .ref as)]) (st' := [.int 1, .int 0, .int 1, .int 0, .int 365, .ref b2, .ref b2, .ref ar]) [.dup, .sipush 365, .iconst 0, .iconst 1, .iconst 0, .iconst 1] (by decide +kernel) rfl ?_
  refine zV_mk (idx := 43) (As := [.int 365, .int 0, .int 1, .int 0, .int 1]) (rest := [.ref b2, .ref ar]) (e := .inr (10, [.int x.1, .int x.2.1, .int x.2.2.1, .int x.2.2.2.1, .int x.2.2.2.2])) (fun Q2 hQ2 => ck_newTrue s0 D cB cI cJ cD 365 0 1 0 1 b2 x h (by simp [va_up]) hQ2) oX10_init rfl (zT_mem 270 (by decide +kernel) rfl) (zT_mem 271 (by decide +kernel) rfl) rfl rfl (Nat.le_of_ble_eq_true rfl) ⟨by decide, by decide⟩ (by decide +kernel) hnb2 (fun hi2 hX hcb2 => ?_)
  replace hcb1 := hX _ _ hcb1
  replace hXX := hXX.tr hX; clear hX
  refine zV_putS (ci := 7) (idx := 46) (k := 9) (v := .ref b2) (fs' := [.null, .int 0, .int 365, .int 1, .ref b1, .null, .int 0, .int 7, .int 0, .ref b2, .int 0, .int 0]) tyX7 hS rfl z_in7 tyX7_ok nmX7 (by decide) (zT_mem 306 (by decide +kernel) rfl) (fun _ => ⟨rfl, rfl⟩) rfl rfl (Nat.le_of_ble_eq_true rfl) rfl (by decide +kernel) (fun hm2 hS2 hO2 => ?_)
  replace hO := hO.tr hO2; clear hO2 hS; have hS := hS2; clear hS2
  refine zV_blk (pc' := 73) (lo' := [(0, .ref ar), (1, .ref as)]) (st' := [.int 0, .ref ar]) [.aload_n 0, .iconst 0] (by decide +kernel) rfl ?_
  refine zV_putS (ci := 7) (idx := 50) (k := 10) (v := .int 0) (fs' := [.null, .int 0, .int 365, .int 1, .ref b1, .null, .int 0, .int 7, .int 0, .ref b2, .int 0, .int 0]) tyX7 hS rfl z_in7 tyX7_ok nmX7 (by decide) (zT_mem 307 (by decide +kernel) rfl) (fun _ => ⟨rfl, rfl⟩) rfl rfl (Nat.le_of_ble_eq_true rfl) rfl (by decide +kernel) (fun hm2 hS2 hO2 => ?_)
  replace hO := hO.tr hO2; clear hO2 hS; have hS := hS2; clear hS2
  refine zV_blk (pc' := 78) (lo' := [(0, .ref ar), (1, .ref as)]) (st' := [.int 1, .ref ar]) [.aload_n 0, .iconst 1] (by decide +kernel) rfl ?_
  refine zV_putS (ci := 7) (idx := 53) (k := 11) (v := .int 1) (fs' := [.null, .int 0, .int 365, .int 1, .ref b1, .null, .int 0, .int 7, .int 0, .ref b2, .int 0, .int 1]) tyX7 hS rfl z_in7 tyX7_ok nmX7 (by decide) (zT_mem 308 (by decide +kernel) rfl) (fun _ => ⟨rfl, rfl⟩) rfl rfl (Nat.le_of_ble_eq_true rfl) rfl (by decide +kernel) (fun hm2 hS2 hO2 => ?_)
  replace hO := hO.tr hO2; clear hO2 hS; have hS := hS2; clear hS2
  refine zV_blk (pc' := 83) (lo' := [(0, .ref ar), (1, .ref as)]) (st' := [.ref as, .ref ar]) [.aload_n 0, .aload_n 1] (by decide +kernel) rfl ?_
  refine zV_putS (ci := 7) (idx := 56) (k := 0) (v := .ref as) (fs' := [.ref as, .int 0, .int 365, .int 1, .ref b1, .null, .int 0, .int 7, .int 0, .ref b2, .int 0, .int 1]) tyX7 hS rfl z_in7 tyX7_ok nmX7 (by decide) (zT_mem 297 (by decide +kernel) rfl) (fun _ => ⟨rfl, rfl⟩) rfl rfl (Nat.le_of_ble_eq_true rfl) rfl (by decide +kernel) (fun hm2 hS2 hO2 => ?_)
  replace hO := hO.tr hO2; clear hO2 hS; have hS := hS2; clear hS2
  exact zV_vret rfl (by decide +kernel) (hQ _ _ _ b1 b2 hXX hS hcb1 hcb2 hO)
