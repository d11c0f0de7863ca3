theorem zfr0 {hm0 hm : zHp} {am a : Nat} (hF : ∀ q, hm0 q ≠ none → q ≠ am → hm q = hm0 q) (hs : hm am ≠ none) (hn : hm a = none) : hm0 a = none := by
  by_cases h : hm0 a = none
  · exact h
  · have ne : a ≠ am := fun z => by subst z; exact hs hn
    exact (hF a h ne).symm.trans hn
theorem zfr1 {hm0 hm : zHp} {am a : Nat} {e : va_E} (hF : ∀ q, hm0 q ≠ none → q ≠ am → hm q = hm0 q) (hn : hm a = none) : ∀ q, hm0 q ≠ none → q ≠ am → va_up hm a (some e) q = hm0 q := fun q h1 h2 => by
  have h3 := hF q h1 h2
  have ne : q ≠ a := fun z => by subst z; exact h1 (h3.symm.trans hn)
  exact zUn ne h3
theorem zfr2 {hm0 hm hm2 : zHp} {am : Nat} (hF : ∀ q, hm0 q ≠ none → q ≠ am → hm q = hm0 q) (hO : zO1 am hm hm2) : ∀ q, hm0 q ≠ none → q ≠ am → hm2 q = hm0 q := fun q h1 h2 => (hO q h2).trans (hF q h1 h2)
theorem zney {hm : zHp} {a b : Nat} {e : va_E} (hn : hm a = none) (hs : hm b = some e) : a ≠ b := fun z => by subst z; rw [hn] at hs; cases hs
section ZNB
variable {s0 : State} {D : va_G} {cB cI cJ cD : ClassId} {y : MethodName} {cc : ByteArray} {nL : Nat} {ret : Option FieldType} {rF rL mc ms pc : Nat} {lo : List (Nat × Value)} {st : List Value} {hi hm : zHp} {nx : Nat} {Q : Option Value → zHp → zHp → Nat → Prop}
theorem zV_newB {n : Int32} {N : Nat} (harr : Cond.arrayClass .byte ∈ zT) (hn : ¬ n < 0) (hN : n.toNatClampNeg = N) (hb : N * componentBytes .byte ≤ 536870912) (hd : decode cc pc = .ok (.newarray .byte, 2))
    (kk : hi nx = none → hm nx = none → zV s0 D (zty cB cI cJ cD) y cc nL ret rF rL mc ms (pc + 2) lo (.ref nx :: st) hi (va_up hm nx (some (.inl (cB, (N, .inl (fun _ => 0)))))) (nx + 1) Q) : zV s0 D (zty cB cI cJ cD) y cc nL ret rF rL (mc + 1) (ms + N) pc lo (.int n :: st) hi hm nx Q :=
  z_fresh fun n1 n2 => zV_newp (ty := .byte) (a0 := (N, .inl (fun _ => 0))) 0 rfl rfl (fun _ _ => rfl) harr (fun _ => rfl) hn hN hb hd (kk n1 n2)
end ZNB
theorem z_in12 : ∀ w ∈ u_ws RX12 TX12 26, w ∈ zT := zT_all _ [1466, 1468, 1470, 1472, 1474, 1476, 1478, 1480, 1482, 1484, 1486, 1488, 1490, 1492, 1494, 1496, 1498, 1500, 1502, 1504, 1506, 1508, 1510, 1512, 1514, 1516] (by decide +kernel) (by decide +kernel)
theorem oX12_init : zO yX12_init cX12_init 1 none 0 := ⟨zT_mem 1437 (by decide +kernel) rfl, zT_mem 94 (by decide +kernel) rfl, by decide +kernel, by decide +kernel, by decide +kernel⟩
set_option maxRecDepth 100000 in
theorem cm_init (s0 : State) (D : va_G) (cB cI cJ cD : ClassId) (am : Nat) {hi hm : zHp} {nx : Nat} {Q : Option Value → zHp → zHp → Nat → Prop} (hS : hm am = some (.inr (12, [.int 0, .null, .int 0, .int 0, .int 0, .int 0, .int 0, .int 0, .int 0, .int 0, .int 0, .int 0, .null, .int 0, .int 0, .null, .int 0, .int 0, .int 0, .int 0, .int 0, .long 0, .long 0, .long 0, .long 0, .long 0]))) (hQ : ∀ (hm' : zHp) (nx' a1 a2 a3 : Nat), mW cB cI am a1 a2 a3 (upd (fun _ => 0) 9 (-1)) (fun _ => 0) (fun _ => 0) (fun _ => 0) (fun _ => 0) hm' → (∀ q, hm q ≠ none → q ≠ am → hm' q = hm q) → hm a1 = none → hm a2 = none → hm a3 = none → Q none hi hm' nx') : zM s0 D (zty cB cI cJ cD) yX12_init cX12_init 1 none 1 20 3 39002 [.ref am] hi hm nx Q := by
  have hF : ∀ q, hm q ≠ none → q ≠ am → hm q = hm q := fun _ _ _ => rfl
  refine zM_of (by decide +kernel) (Nat.le_of_ble_eq_true rfl) ?_
  refine zV_eq (lo2 := [(0, .ref am)]) rfl rfl rfl rfl ?_
  refine zV_blk (pc' := 1) (lo' := [(0, .ref am)]) (st' := [.ref am]) [.aload_n 0] (by decide +kernel) rfl ?_
  refine zV_objInit (idx := 1) (zT_mem 1438 (by decide +kernel) rfl) (zT_mem 119 (by decide +kernel) rfl) (zT_mem 120 (by decide +kernel) rfl) (by decide) (Nat.le_of_ble_eq_true rfl) (by decide +kernel) ?_
  refine zV_blk (pc' := 8) (lo' := [(0, .ref am)]) (st' := [.int 800, .ref am]) [.aload_n 0, .sipush 800] (by decide +kernel) rfl ?_
  refine zV_newB (mc := 2) (ms := 38202) (n := 800) (N := 800) (zT_mem 154 (by decide +kernel) rfl) (by decide) (by decide) (by decide) (by decide +kernel) (fun _ hn => ?_)
  obtain ⟨a1, hea1⟩ : ∃ z : Nat, z = nx := ⟨_, rfl⟩
  rw [← hea1] at hn ⊢
  have hza1 := zfr0 hF (by rw [hS]; exact fun z => by cases z) hn
  replace hF := zfr1 (e := .inl (cB, (800, .inl (fun _ => 0)))) hF hn
  have hnea1 := zney hn hS
  replace hS := zUno (e := .inl (cB, (800, .inl (fun _ => 0)))) hn hS
  have hAa1 : va_up hm a1 (some (.inl (cB, (800, .inl (fun _ => 0))))) a1 = _ := zUe
  generalize va_up hm a1 (some (.inl (cB, (800, .inl (fun _ => 0))))) = hN1 at hF hS hAa1 ⊢
  clear hn
  refine zV_putS (ci := 12) (idx := 7) (k := 1) (v := .ref a1) (fs' := [.int 0, .ref a1, .int 0, .int 0, .int 0, .int 0, .int 0, .int 0, .int 0, .int 0, .int 0, .int 0, .null, .int 0, .int 0, .null, .int 0, .int 0, .int 0, .int 0, .int 0, .long 0, .long 0, .long 0, .long 0, .long 0]) tyX12 hS rfl z_in12 tyX12_ok nmX12 (by decide) (zT_mem 1441 (by decide +kernel) rfl) (fun _ => ⟨rfl, rfl⟩) rfl rfl (Nat.le_of_ble_eq_true rfl) rfl (by decide +kernel) (fun hP2 hS2 hO2 => ?_)
  replace hF := zfr2 hF hO2
  replace hAa1 := (hO2 _ hnea1).trans hAa1
  clear hO2 hS; have hS := hS2; clear hS2
  refine zV_blk (pc' := 15) (lo' := [(0, .ref am)]) (st' := [.int (-1), .ref am]) [.aload_n 0, .iconst (-1)] (by decide +kernel) rfl ?_
  refine zV_putS (ci := 12) (idx := 13) (k := 9) (v := .int (-1)) (fs' := [.int 0, .ref a1, .int 0, .int 0, .int 0, .int 0, .int 0, .int 0, .int 0, .int (-1), .int 0, .int 0, .null, .int 0, .int 0, .null, .int 0, .int 0, .int 0, .int 0, .int 0, .long 0, .long 0, .long 0, .long 0, .long 0]) tyX12 hS rfl z_in12 tyX12_ok nmX12 (by decide) (zT_mem 1449 (by decide +kernel) rfl) (fun _ => ⟨rfl, rfl⟩) rfl rfl (Nat.le_of_ble_eq_true rfl) rfl (by decide +kernel) (fun hP3 hS2 hO2 => ?_)
  replace hF := zfr2 hF hO2
  replace hAa1 := (hO2 _ hnea1).trans hAa1
  clear hO2 hS; have hS := hS2; clear hS2
  refine zV_blk (pc' := 19) (lo' := [(0, .ref am)]) (st' := [.ref am]) [.aload_n 0] (by decide +kernel) rfl ?_
  refine zV_ldc (idx := 17) (v := 35802) (zT_mem 1439 (by decide +kernel) rfl) (by decide +kernel) ?_
  refine zV_newI (mc := 1) (ms := 2400) (n := 35802) (N := 35802) (zT_mem 155 (by decide +kernel) rfl) (by decide) (by decide) (by decide) (by decide +kernel) (fun _ hn => ?_)
  obtain ⟨a2, hea2⟩ : ∃ z : Nat, z = a1 + 1 := ⟨_, rfl⟩
  rw [← hea2] at hn ⊢
  have hza2 := zfr0 hF (by rw [hS]; exact fun z => by cases z) hn
  replace hF := zfr1 (e := .inl (cI, (35802, .inl (fun _ => 0)))) hF hn
  have hnea2 := zney hn hS
  replace hAa1 := zUno (e := .inl (cI, (35802, .inl (fun _ => 0)))) hn hAa1
  replace hS := zUno (e := .inl (cI, (35802, .inl (fun _ => 0)))) hn hS
  have hAa2 : va_up hP3 a2 (some (.inl (cI, (35802, .inl (fun _ => 0))))) a2 = _ := zUe
  generalize va_up hP3 a2 (some (.inl (cI, (35802, .inl (fun _ => 0))))) = hN4 at hF hS hAa2 hAa1 ⊢
  clear hn
  refine zV_putS (ci := 12) (idx := 18) (k := 12) (v := .ref a2) (fs' := [.int 0, .ref a1, .int 0, .int 0, .int 0, .int 0, .int 0, .int 0, .int 0, .int (-1), .int 0, .int 0, .ref a2, .int 0, .int 0, .null, .int 0, .int 0, .int 0, .int 0, .int 0, .long 0, .long 0, .long 0, .long 0, .long 0]) tyX12 hS rfl z_in12 tyX12_ok nmX12 (by decide) (zT_mem 1452 (by decide +kernel) rfl) (fun _ => ⟨rfl, rfl⟩) rfl rfl (Nat.le_of_ble_eq_true rfl) rfl (by decide +kernel) (fun hP5 hS2 hO2 => ?_)
  replace hF := zfr2 hF hO2
  replace hAa1 := (hO2 _ hnea1).trans hAa1
  replace hAa2 := (hO2 _ hnea2).trans hAa2
  clear hO2 hS; have hS := hS2; clear hS2
  refine zV_blk (pc' := 30) (lo' := [(0, .ref am)]) (st' := [.int 2400, .ref am]) [.aload_n 0, .sipush 2400] (by decide +kernel) rfl ?_
  refine zV_newI (mc := 0) (ms := 0) (n := 2400) (N := 2400) (zT_mem 155 (by decide +kernel) rfl) (by decide) (by decide) (by decide) (by decide +kernel) (fun _ hn => ?_)
  obtain ⟨a3, hea3⟩ : ∃ z : Nat, z = a2 + 1 := ⟨_, rfl⟩
  rw [← hea3] at hn ⊢
  have hza3 := zfr0 hF (by rw [hS]; exact fun z => by cases z) hn
  replace hF := zfr1 (e := .inl (cI, (2400, .inl (fun _ => 0)))) hF hn
  have hnea3 := zney hn hS
  replace hAa1 := zUno (e := .inl (cI, (2400, .inl (fun _ => 0)))) hn hAa1
  replace hAa2 := zUno (e := .inl (cI, (2400, .inl (fun _ => 0)))) hn hAa2
  replace hS := zUno (e := .inl (cI, (2400, .inl (fun _ => 0)))) hn hS
  have hAa3 : va_up hP5 a3 (some (.inl (cI, (2400, .inl (fun _ => 0))))) a3 = _ := zUe
  generalize va_up hP5 a3 (some (.inl (cI, (2400, .inl (fun _ => 0))))) = hN6 at hF hS hAa3 hAa1 hAa2 ⊢
  clear hn
  refine zV_putS (ci := 12) (idx := 22) (k := 15) (v := .ref a3) (fs' := [.int 0, .ref a1, .int 0, .int 0, .int 0, .int 0, .int 0, .int 0, .int 0, .int (-1), .int 0, .int 0, .ref a2, .int 0, .int 0, .ref a3, .int 0, .int 0, .int 0, .int 0, .int 0, .long 0, .long 0, .long 0, .long 0, .long 0]) tyX12 hS rfl z_in12 tyX12_ok nmX12 (by decide) (zT_mem 1455 (by decide +kernel) rfl) (fun _ => ⟨rfl, rfl⟩) rfl rfl (Nat.le_of_ble_eq_true rfl) rfl (by decide +kernel) (fun hP7 hS2 hO2 => ?_)
  replace hF := zfr2 hF hO2
  replace hAa1 := (hO2 _ hnea1).trans hAa1
  replace hAa2 := (hO2 _ hnea2).trans hAa2
  replace hAa3 := (hO2 _ hnea3).trans hAa3
  clear hO2 hS; have hS := hS2; clear hS2
  exact zV_vret rfl (by decide +kernel) (hQ _ _ a1 a2 a3 ⟨hS, hAa1, hAa2, hAa3⟩ hF hza1 hza2 hza3)
