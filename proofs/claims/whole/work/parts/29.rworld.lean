/-! ===== the reader, its scanner, the tape, a row of its own under way ===== -/
def rFs (as la : Nat) (R : Nat → Int32) (mz : Option Nat) (ta : Nat) : List Value := [.ref as, .int (R 1), .int (R 2), .int (R 3), .ref la, va_rf mz, .int (R 6), .int (R 7), .int (R 8), .ref ta, .int (R 10), .int (R 11)]
def rRow (cI : ClassId) (ar as a1 : Nat) (hm : zHp) : Option (Nat × Nat × (Nat → Int32)) → Prop
  | none => True
  | some (a, N, f) => hm a = some (.inl (cI, N, .inl f)) ∧ a ≠ ar ∧ a ≠ as ∧ a ≠ a1
def rW (cB cI : ClassId) (ar as a1 : Nat) (R : Nat → Int32) (lv : vLaw) (mo : Option vArr) (ty : vTrue) (F tp : Nat → Int32) (ro : Option (Nat × Nat × (Nat → Int32))) (hi hm : zHp) : Prop :=
  ∃ (la ta : Nat) (mz : Option Nat), (hm ar = some (.inr (7, rFs as la R mz ta)) ∧ hm as = some (.inr (9, sFs a1 F)) ∧ hm a1 = some (.inl (cB, 800, .inl tp))) ∧ (iLaw cI hi la lv ∧ zRf (iArr cI hi) mz mo ∧ iTrue hi ta ty) ∧ rRow cI ar as a1 hm ro
/-- what was known ahead stays, but for the two cells -/
def rFr (ar as : Nat) (hm hm' : zHp) : Prop := ∀ q, hm q ≠ none → q ≠ ar → q ≠ as → hm' q = hm q
theorem rFr.rf {ar as : Nat} {hm : zHp} : rFr ar as hm hm := fun _ _ _ _ => rfl
theorem rFr.tr {ar as : Nat} {h1 h2 h3 : zHp} (x : rFr ar as h1 h2) (z : rFr ar as h2 h3) : rFr ar as h1 h3 := fun q n n1 n2 => (z q (by rw [x q n n1 n2]; exact n) n1 n2).trans (x q n n1 n2)
section RW
variable {s0 : State} {D : va_G} {cB cI cJ cD : ClassId} {ar as a1 : Nat} {R : Nat → Int32} {lv : vLaw} {mo : Option vArr} {ty : vTrue} {F F' tp : Nat → Int32} {ro : Option (Nat × Nat × (Nat → Int32))}
variable {y : MethodName} {cc : ByteArray} {nL : Nat} {ret : Option FieldType} {rF rL mc ms pc : Nat} {lo : List (Nat × Value)} {st : List Value} {hi hi' hm hm' : zHp} {nx : Nat} {Q : Option Value → zHp → zHp → Nat → Prop} {idx k : Nat}
theorem rW.mono (x : zX hi hi') (h : rW cB cI ar as a1 R lv mo ty F tp ro hi hm) : rW cB cI ar as a1 R lv mo ty F tp ro hi' hm := by
  obtain ⟨la, ta, mz, c, ⟨i1, i2, i3⟩, r⟩ := h
  exact ⟨la, ta, mz, c, ⟨i1.mono x, i2.mono (fun a z h => x _ _ h), x _ _ i3⟩, r⟩
theorem rRow.keep {ro : Option (Nat × Nat × (Nat → Int32))} (h : rRow cI ar as a1 hm ro) (hk : ∀ q, q ≠ ar → q ≠ as → q ≠ a1 → hm' q = hm q) : rRow cI ar as a1 hm' ro := by
  cases ro with
  | none => trivial
  | some r => obtain ⟨h1, h2, h3, h4⟩ := h; exact ⟨(hk _ h2 h3 h4).trans h1, h2, h3, h4⟩
/-- the reader's own cell -/
theorem rW.cell (h : rW cB cI ar as a1 R lv mo ty F tp ro hi hm) : ∃ (la ta : Nat) (mz : Option Nat), hm ar = some (.inr (7, rFs as la R mz ta)) ∧ iLaw cI hi la lv ∧ zRf (iArr cI hi) mz mo ∧ iTrue hi ta ty ∧
    ∀ (R' : Nat → Int32) (la' ta' : Nat) (mz' : Option Nat) (lv' : vLaw) (mo' : Option vArr) (ty' : vTrue), iLaw cI hi la' lv' → zRf (iArr cI hi) mz' mo' → iTrue hi ta' ty' → rW cB cI ar as a1 R' lv' mo' ty' F tp ro hi (va_up hm ar (some (.inr (7, rFs as la' R' mz' ta')))) ∧ rFr ar as hm (va_up hm ar (some (.inr (7, rFs as la' R' mz' ta')))) := by
  obtain ⟨la, ta, mz, ⟨h1, h2, h3⟩, ⟨i1, i2, i3⟩, r⟩ := h
  refine ⟨la, ta, mz, h1, i1, i2, i3, fun R' la' ta' mz' lv' mo' ty' j1 j2 j3 => ⟨⟨la', ta', mz', ⟨zUe, zUne h1 h2 (by intro z; cases z), zUne h1 h3 (by intro z; cases z)⟩, ⟨j1, j2, j3⟩, r.keep (fun q n1 _ _ => zUn n1 rfl)⟩, fun q _ n1 _ => zUn n1 rfl⟩⟩
theorem r_get {v : Value} (hW : rW cB cI ar as a1 R lv mo ty F tp ro hi hm) (hk : k < 12) (hlink : Cond.fieldLink y.cls idx (TX7 k).1 (TX7 k).2.1 (TX7 k).2.2.1 ∈ zT) (hv : ∀ la mz ta, (rFs as la R mz ta)[k]? = some v) (hd : decode cc pc = .ok (.getfield idx, 3)) (kk : zV s0 D (zty cB cI cJ cD) y cc nL ret rF rL mc ms (pc + 3) lo (v :: st) hi hm nx Q) : zV s0 D (zty cB cI cJ cD) y cc nL ret rF rL mc ms pc lo (.ref ar :: st) hi hm nx Q := by
  obtain ⟨la, ta, mz, h1, -⟩ := hW.cell
  exact zV_get (Or.inr h1) rfl z_in7 hk hlink (hv la mz ta) hd kk
theorem r_getL (hW : rW cB cI ar as a1 R lv mo ty F tp ro hi hm) (hlink : Cond.fieldLink y.cls idx (TX7 4).1 (TX7 4).2.1 (TX7 4).2.2.1 ∈ zT) (hd : decode cc pc = .ok (.getfield idx, 3)) (kk : ∀ b, iLaw cI hi b lv → zV s0 D (zty cB cI cJ cD) y cc nL ret rF rL mc ms (pc + 3) lo (.ref b :: st) hi hm nx Q) : zV s0 D (zty cB cI cJ cD) y cc nL ret rF rL mc ms pc lo (.ref ar :: st) hi hm nx Q := by
  obtain ⟨la, ta, mz, h1, i1, -⟩ := hW.cell
  exact zV_get (Or.inr h1) rfl z_in7 (k := 4) (by decide) hlink rfl hd (kk la i1)
theorem r_getT (hW : rW cB cI ar as a1 R lv mo ty F tp ro hi hm) (hlink : Cond.fieldLink y.cls idx (TX7 9).1 (TX7 9).2.1 (TX7 9).2.2.1 ∈ zT) (hd : decode cc pc = .ok (.getfield idx, 3)) (kk : ∀ b, iTrue hi b ty → zV s0 D (zty cB cI cJ cD) y cc nL ret rF rL mc ms (pc + 3) lo (.ref b :: st) hi hm nx Q) : zV s0 D (zty cB cI cJ cD) y cc nL ret rF rL mc ms pc lo (.ref ar :: st) hi hm nx Q := by
  obtain ⟨la, ta, mz, h1, i1, i2, i3, -⟩ := hW.cell
  exact zV_get (Or.inr h1) rfl z_in7 (k := 9) (by decide) hlink rfl hd (kk ta i3)
theorem r_getM (hW : rW cB cI ar as a1 R lv mo ty F tp ro hi hm) (hlink : Cond.fieldLink y.cls idx (TX7 5).1 (TX7 5).2.1 (TX7 5).2.2.1 ∈ zT) (hd : decode cc pc = .ok (.getfield idx, 3)) (kn : mo = none → zV s0 D (zty cB cI cJ cD) y cc nL ret rF rL mc ms (pc + 3) lo (.null :: st) hi hm nx Q) (ks : ∀ b z, mo = some z → iArr cI hi b z → zV s0 D (zty cB cI cJ cD) y cc nL ret rF rL mc ms (pc + 3) lo (.ref b :: st) hi hm nx Q) : zV s0 D (zty cB cI cJ cD) y cc nL ret rF rL mc ms pc lo (.ref ar :: st) hi hm nx Q := by
  obtain ⟨la, ta, mz, h1, i1, i2, -⟩ := hW.cell
  refine zV_get (Or.inr h1) rfl z_in7 (k := 5) (by decide) hlink (v := va_rf mz) rfl hd ?_
  rcases i2 with ⟨rfl, e⟩ | ⟨b, z, rfl, e, e3⟩
  · exact kn e
  · exact ks b z e e3
theorem r_putI {x : Int32} (hW : rW cB cI ar as a1 R lv mo ty F tp ro hi hm) (hk : k = 1 ∨ k = 2 ∨ k = 3 ∨ k = 6 ∨ k = 7 ∨ k = 8 ∨ k = 10 ∨ k = 11) (hlink : Cond.fieldLink y.cls idx (TX7 k).1 (TX7 k).2.1 (TX7 k).2.2.1 ∈ zT) (hd : decode cc pc = .ok (.putfield idx, 3)) (kk : ∀ hm', rW cB cI ar as a1 (upd R k x) lv mo ty F tp ro hi hm' → rFr ar as hm hm' → zV s0 D (zty cB cI cJ cD) y cc nL ret rF rL mc ms (pc + 3) lo st hi hm' nx Q) : zV s0 D (zty cB cI cJ cD) y cc nL ret rF rL mc ms pc lo (.int x :: .ref ar :: st) hi hm nx Q := by
  obtain ⟨la, ta, mz, h1, i1, i2, i3, hp⟩ := hW.cell
  obtain ⟨g1, g2⟩ := hp (upd R k x) la ta mz lv mo ty i1 i2 i3
  have hs : (rFs as la R mz ta).set k (.int x) = rFs as la (upd R k x) mz ta := by rcases hk with rfl | rfl | rfl | rfl | rfl | rfl | rfl | rfl <;> rfl
  rw [← hs] at g1 g2
  have hk12 : k < 12 := by omega
  refine zV_put tyX7 h1 rfl z_in7 tyX7_ok nmX7 hk12 hlink ?_ rfl ?_ ?_ (by show k < 12; omega) hd (kk _ g1 g2)
  · rcases hk with rfl | rfl | rfl | rfl | rfl | rfl | rfl | rfl <;> rfl
  · rcases hk with rfl | rfl | rfl | rfl | rfl | rfl | rfl | rfl <;> rfl
  · rcases hk with rfl | rfl | rfl | rfl | rfl | rfl | rfl | rfl <;> rfl
theorem r_putL {b : Nat} {z : vLaw} (hW : rW cB cI ar as a1 R lv mo ty F tp ro hi hm) (ho : iLaw cI hi b z) (hlink : Cond.fieldLink y.cls idx (TX7 4).1 (TX7 4).2.1 (TX7 4).2.2.1 ∈ zT) (hd : decode cc pc = .ok (.putfield idx, 3)) (kk : ∀ hm', rW cB cI ar as a1 R z mo ty F tp ro hi hm' → rFr ar as hm hm' → zV s0 D (zty cB cI cJ cD) y cc nL ret rF rL mc ms (pc + 3) lo st hi hm' nx Q) : zV s0 D (zty cB cI cJ cD) y cc nL ret rF rL mc ms pc lo (.ref b :: .ref ar :: st) hi hm nx Q := by
  obtain ⟨la, ta, mz, h1, i1, i2, i3, hp⟩ := hW.cell
  obtain ⟨g1, g2⟩ := hp R b ta mz z mo ty ho i2 i3
  exact zV_put tyX7 h1 rfl z_in7 tyX7_ok nmX7 (k := 4) (by decide) hlink rfl rfl rfl rfl (by show 4 < 12; decide) hd (kk _ g1 g2)
theorem r_putT {b : Nat} {z : vTrue} (hW : rW cB cI ar as a1 R lv mo ty F tp ro hi hm) (ho : iTrue hi b z) (hlink : Cond.fieldLink y.cls idx (TX7 9).1 (TX7 9).2.1 (TX7 9).2.2.1 ∈ zT) (hd : decode cc pc = .ok (.putfield idx, 3)) (kk : ∀ hm', rW cB cI ar as a1 R lv mo z F tp ro hi hm' → rFr ar as hm hm' → zV s0 D (zty cB cI cJ cD) y cc nL ret rF rL mc ms (pc + 3) lo st hi hm' nx Q) : zV s0 D (zty cB cI cJ cD) y cc nL ret rF rL mc ms pc lo (.ref b :: .ref ar :: st) hi hm nx Q := by
  obtain ⟨la, ta, mz, h1, i1, i2, i3, hp⟩ := hW.cell
  obtain ⟨g1, g2⟩ := hp R la b mz lv mo z i1 i2 ho
  exact zV_put tyX7 h1 rfl z_in7 tyX7_ok nmX7 (k := 9) (by decide) hlink rfl rfl rfl rfl (by show 9 < 12; decide) hd (kk _ g1 g2)
theorem r_putM {b : Nat} {z : vArr} (hW : rW cB cI ar as a1 R lv mo ty F tp ro hi hm) (ho : iArr cI hi b z) (hlink : Cond.fieldLink y.cls idx (TX7 5).1 (TX7 5).2.1 (TX7 5).2.2.1 ∈ zT) (hd : decode cc pc = .ok (.putfield idx, 3)) (kk : ∀ hm', rW cB cI ar as a1 R lv (some z) ty F tp ro hi hm' → rFr ar as hm hm' → zV s0 D (zty cB cI cJ cD) y cc nL ret rF rL mc ms (pc + 3) lo st hi hm' nx Q) : zV s0 D (zty cB cI cJ cD) y cc nL ret rF rL mc ms pc lo (.ref b :: .ref ar :: st) hi hm nx Q := by
  obtain ⟨la, ta, mz, h1, i1, i2, i3, hp⟩ := hW.cell
  obtain ⟨g1, g2⟩ := hp R la ta (some b) lv (some z) ty i1 (Or.inr ⟨_, _, rfl, rfl, ho⟩) i3
  exact zV_put tyX7 h1 rfl z_in7 tyX7_ok nmX7 (k := 5) (by decide) hlink rfl rfl rfl rfl (by show 5 < 12; decide) hd (kk _ g1 g2)
variable {a2 a3 : Nat} {G : Nat → Int64} {w oc : Nat → Int32}
theorem rW.sc (h : rW cB cI ar as a1 R lv mo ty F tp ro hi hm) : sW cB cI as a1 a2 a3 F G tp w oc hm := by
  obtain ⟨la, ta, mz, ⟨h1, h2, h3⟩, -⟩ := h
  exact ⟨h2, h3⟩
theorem rW.after (h : rW cB cI ar as a1 R lv mo ty F tp ro hi hm) (h2 : sW cB cI as a1 a2 a3 F' G tp w oc hm') (hF : sFr as a1 a2 a3 hm hm') : rW cB cI ar as a1 R lv mo ty F' tp ro hi hm' ∧ rFr ar as hm hm' := by
  obtain ⟨la, ta, mz, ⟨h1, h3, h4⟩, i, r⟩ := h
  have n : ar ≠ as := fun z => by subst z; rw [h1] at h3; cases h3
  exact ⟨⟨la, ta, mz, ⟨(hF _ n).trans h1, h2.1, h2.2⟩, i, r.keep (fun q _ n2 _ => hF q n2)⟩, fun q _ _ n2 => hF q n2⟩
end RW
