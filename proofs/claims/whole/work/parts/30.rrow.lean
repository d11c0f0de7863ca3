/-! ===== the reader: a row of its own; calls of the scanner ===== -/
section RW2
variable {s0 : State} {D : va_G} {cB cI cJ cD : ClassId} {ar as a1 : Nat} {R : Nat → Int32} {lv : vLaw} {mo : Option vArr} {ty : vTrue} {F F' tp : Nat → Int32} {ro : Option (Nat × Nat × (Nat → Int32))}
variable {y : MethodName} {cc : ByteArray} {nL : Nat} {ret : Option FieldType} {rF rL mc ms pc : Nat} {lo : List (Nat × Value)} {st : List Value} {hi hm : zHp} {nx : Nat} {Q : Option Value → zHp → zHp → Nat → Prop} {idx N a : Nat} {f : Nat → Int32}
theorem r_new {n : Int32} (B : Nat) (hW : rW cB cI ar as a1 R lv mo ty F tp none hi hm) (harr : Cond.arrayClass .int ∈ zT) (hn : zin n (B + 1) = true) (hB : B * componentBytes .int ≤ 536870912) (hd : decode cc pc = .ok (.newarray .int, 2))
    (kk : ∀ hm' nx', rW cB cI ar as a1 R lv mo ty F tp (some (nx, n.toNatClampNeg, fun _ => 0)) hi hm' → rFr ar as hm hm' → zV s0 D (zty cB cI cJ cD) y cc nL ret rF rL mc ms (pc + 2) lo (.ref nx :: st) hi hm' nx' Q) : zV s0 D (zty cB cI cJ cD) y cc nL ret rF rL (mc + 1) (ms + B) pc lo (.int n :: st) hi hm nx Q := by
  simp only [zin, Bool.and_eq_true, decide_eq_true_eq] at hn
  refine zV_less (mc' := mc + 1) (ms' := (ms + (B - n.toNatClampNeg)) + n.toNatClampNeg) (Nat.le_refl _) (by omega) ?_
  refine zV_newI (n := n) (N := n.toNatClampNeg) harr (by have := hn.1; rw [Int32.not_lt]; exact this) rfl (Nat.le_trans (Nat.mul_le_mul_right _ (by omega)) hB) hd (fun _ n2 => ?_)
  obtain ⟨la, ta, mz, ⟨h1, h2, h3⟩, i, -⟩ := hW
  refine zV_less (Nat.le_refl _) (by omega) (kk _ _ ⟨la, ta, mz, ⟨zUno n2 h1, zUno n2 h2, zUno n2 h3⟩, i, ⟨zUe, zney n2 h1, zney n2 h2, zney n2 h3⟩⟩ (fun q hq _ _ => zUn (fun z => by subst z; exact hq n2) rfl))
theorem r_st {i x : Int32} {hm0 : zHp} (hW : rW cB cI ar as a1 R lv mo ty F tp (some (a, N, f)) hi hm) (h0 : hm0 a = none) (hF : rFr ar as hm0 hm) (hin : zin i N = true) (hd : decode cc pc = .ok (.iastore, 1))
    (kk : ∀ hm', rW cB cI ar as a1 R lv mo ty F tp (some (a, N, upd f i.toNatClampNeg x)) hi hm' → rFr ar as hm0 hm' → zV s0 D (zty cB cI cJ cD) y cc nL ret rF rL mc ms (pc + 1) lo st hi hm' nx Q) : zV s0 D (zty cB cI cJ cD) y cc nL ret rF rL mc ms pc lo (.int x :: .int i :: .ref a :: st) hi hm nx Q := by
  obtain ⟨la, ta, mz, ⟨h1, h2, h3⟩, i1, ⟨g1, g2, g3, g4⟩⟩ := hW
  exact zV_iast 1 g1 rfl (zin_in hin) hd (kk _ ⟨la, ta, mz, ⟨zUn g2.symm h1, zUn g3.symm h2, zUn g4.symm h3⟩, i1, ⟨zUe, g2, g3, g4⟩⟩ (fun q hq n1 n2 => (zUn (fun z => by subst z; exact hq h0) rfl).trans (hF q hq n1 n2)))
theorem r_ld {i : Int32} (hW : rW cB cI ar as a1 R lv mo ty F tp (some (a, N, f)) hi hm) (hin : zin i N = true) (hd : decode cc pc = .ok (.iaload, 1))
    (kk : zV s0 D (zty cB cI cJ cD) y cc nL ret rF rL mc ms (pc + 1) lo (.int (f i.toNatClampNeg) :: st) hi hm nx Q) : zV s0 D (zty cB cI cJ cD) y cc nL ret rF rL mc ms pc lo (.int i :: .ref a :: st) hi hm nx Q := by
  obtain ⟨la, ta, mz, -, -, ⟨g1, -⟩⟩ := hW
  exact zV_iald 1 (Or.inr g1) rfl (zin_in hin) hd kk
/-- the row is done: nobody writes it any more -/
theorem r_fr {hm0 : zHp} (hW : rW cB cI ar as a1 R lv mo ty F tp (some (a, N, f)) hi hm) (h0 : hm0 a = none) (hF : rFr ar as hm0 hm) (kk : ∀ hi' hm', zX hi hi' → rW cB cI ar as a1 R lv mo ty F tp none hi' hm' → rFr ar as hm0 hm' → iArr cI hi' a (N, f) → zV s0 D (zty cB cI cJ cD) y cc nL ret rF rL mc ms pc lo st hi' hm' nx Q) : zV s0 D (zty cB cI cJ cD) y cc nL ret rF rL mc ms pc lo st hi hm nx Q := by
  have hW2 := hW
  obtain ⟨la, ta, mz, ⟨h1, h2, h3⟩, i1, ⟨g1, g2, g3, g4⟩⟩ := hW2
  refine z_hi_none (fun hn => ?_) g1
  refine zV_world (fun H hw => hw.freeze g1) ?_
  have hX : zX hi (va_up hi a (some (.inl (cI, N, .inl f)))) := fun q e hq => zUno hn hq
  have up : ∀ q, q ≠ a → va_up hm a none q = hm q := fun q n => by unfold va_up; rw [if_neg n]
  obtain ⟨j1, j2, j3⟩ := i1
  exact kk _ _ hX ⟨la, ta, mz, ⟨(up _ g2.symm).trans h1, (up _ g3.symm).trans h2, (up _ g4.symm).trans h3⟩, ⟨j1.mono hX, j2.mono (fun b z h => hX _ _ h), hX _ _ j3⟩, trivial⟩ (fun q hq n1 n2 => (up q (fun z => by subst z; exact hq h0)).trans (hF q hq n1 n2)) zUe
variable {y2 : MethodName} {cc2 : ByteArray} {nL2 : Nat} {ret2 : Option FieldType} {rF2 rL2 n a2 a3 : Nat} {As rest : List Value} {v : Option Value} {G G' : Nat → Int64} {w oc w' oc' : Nat → Int32}
theorem r_cR (hW : rW cB cI ar as a1 R lv mo ty F tp ro hi hm) (hM : sR s0 D cB cI cJ cD as a1 a2 a3 y2 cc2 nL2 ret2 rF2 rL2 As F G tp w oc v) (O : zO y2 cc2 nL2 ret2 n) (hc : RX9 = y2.cls) (hlink : Cond.methodLink y.cls idx y2 ∈ zT) (hinst : Cond.instanceMethod y2 ∈ zT) (hsel : Cond.selects y2.cls y2 y2 ∈ zT) (hn : As.length = n) (hst : st = As.reverse ++ .ref as :: rest) (hrest : (rest.map fun v => v.category).sum ≤ 8) (hR : rF2 + 1 ≤ rF ∧ 8 + (nL2 + 11) + rL2 ≤ rL) (hd : decode cc pc = .ok (.invokevirtual idx, 3)) (kk : zV s0 D (zty cB cI cJ cD) y cc nL ret rF rL mc ms (pc + 3) lo (v.toList ++ rest) hi hm nx Q) : zV s0 D (zty cB cI cJ cD) y cc nL ret rF rL mc ms pc lo st hi hm nx Q := by
  have hS : sW cB cI as a1 a2 a3 F G tp w oc hm := hW.sc
  refine zV_callV (Q2 := fun v' hi' hm' nx' => v' = v ∧ hi' = hi ∧ hm' = hm ∧ nx' = nx) (hM hi hm nx _ hS ⟨rfl, rfl, rfl, rfl⟩) O (Or.inr hS.1) (T := TX9) (N := 7) (by rw [← hc]; rfl) hlink hinst hsel hn hst hrest hR ⟨Nat.zero_le _, Nat.zero_le _⟩ hd ?_
  rintro v' hi' hm' nx' ⟨rfl, rfl, rfl, rfl⟩
  exact kk
theorem r_cC (hW : rW cB cI ar as a1 R lv mo ty F tp ro hi hm) (hM : sK s0 D cB cI cJ cD as a1 a2 a3 y2 cc2 nL2 ret2 rF2 rL2 As F G tp w oc v F' G' tp w' oc') (O : zO y2 cc2 nL2 ret2 n) (hc : RX9 = y2.cls) (hlink : Cond.methodLink y.cls idx y2 ∈ zT) (hinst : Cond.instanceMethod y2 ∈ zT) (hsel : Cond.selects y2.cls y2 y2 ∈ zT) (hn : As.length = n) (hst : st = As.reverse ++ .ref as :: rest) (hrest : (rest.map fun v => v.category).sum ≤ 8) (hR : rF2 + 1 ≤ rF ∧ 8 + (nL2 + 11) + rL2 ≤ rL) (hd : decode cc pc = .ok (.invokevirtual idx, 3)) (kk : ∀ hm', rW cB cI ar as a1 R lv mo ty F' tp ro hi hm' → rFr ar as hm hm' → zV s0 D (zty cB cI cJ cD) y cc nL ret rF rL mc ms (pc + 3) lo (v.toList ++ rest) hi hm' nx Q) : zV s0 D (zty cB cI cJ cD) y cc nL ret rF rL mc ms pc lo st hi hm nx Q := by
  have hS : sW cB cI as a1 a2 a3 F G tp w oc hm := hW.sc
  refine zV_callV (Q2 := fun v' hi' hm' nx' => v' = v ∧ hi' = hi ∧ nx' = nx ∧ sW cB cI as a1 a2 a3 F' G' tp w' oc' hm' ∧ sFr as a1 a2 a3 hm hm') (hM hi hm nx _ hS (fun hm' h1 h2 => ⟨rfl, rfl, rfl, h1, h2⟩)) O (Or.inr hS.1) (T := TX9) (N := 7) (by rw [← hc]; rfl) hlink hinst hsel hn hst hrest hR ⟨Nat.zero_le _, Nat.zero_le _⟩ hd ?_
  rintro v' hi' hm' nx' ⟨rfl, rfl, rfl, h1, h2⟩
  obtain ⟨g1, g2⟩ := hW.after h1 h2
  exact kk hm' g1 g2
end RW2
