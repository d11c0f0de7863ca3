/-! ===== the scanner: its ints by their slots, and the tape that it reads ===== -/
def sFs (a1 : Nat) (F : Nat → Int32) : List Value := [.int (F 0), .int (F 1), .int (F 2), .int (F 3), .int (F 4), .ref a1, .int (F 6)]
/-- in the shape of the reference's world: am the scanner, a1 the tape; the rest is idle -/
def sW (cB _cI : ClassId) (am a1 _a2 _a3 : Nat) (F : Nat → Int32) (_G : Nat → Int64) (tp _w _oc : Nat → Int32) (hm : zHp) : Prop := hm am = some (.inr (9, sFs a1 F)) ∧ hm a1 = some (.inl (cB, 800, .inl tp))
def sFr (am _a1 _a2 _a3 : Nat) (hm hm' : zHp) : Prop := ∀ q, q ≠ am → hm' q = hm q
theorem sFr.rf {am a1 a2 a3 : Nat} {hm : zHp} : sFr am a1 a2 a3 hm hm := fun _ _ => rfl
theorem sFr.tr {am a1 a2 a3 : Nat} {h1 h2 h3 : zHp} (x : sFr am a1 a2 a3 h1 h2) (z : sFr am a1 a2 a3 h2 h3) : sFr am a1 a2 a3 h1 h3 := fun q n => (z q n).trans (x q n)
section ZSC
variable {s0 : State} {D : va_G} {cB cI cJ cD : ClassId} {am a1 a2 a3 : Nat} {F F' : Nat → Int32} {G G' : Nat → Int64} {tp w oc : Nat → Int32}
theorem sW.putF {hm : zHp} (h : sW cB cI am a1 a2 a3 F G tp w oc hm) {fs : List Value} (hf : fs = sFs a1 F') : sW cB cI am a1 a2 a3 F' G' tp w oc (va_up hm am (some (.inr (9, fs)))) ∧ sFr am a1 a2 a3 hm (va_up hm am (some (.inr (9, fs)))) := by
  obtain ⟨h1, h2⟩ := h
  subst hf
  have n1 : a1 ≠ am := fun z => by subst z; rw [h1] at h2; cases h2
  exact ⟨⟨by simp [va_up], by simp [va_up, n1, h2]⟩, fun q m1 => by simp [va_up, m1]⟩
def sR (s0 : State) (D : va_G) (cB cI cJ cD : ClassId) (am a1 a2 a3 : Nat) (y : MethodName) (cc : ByteArray) (nL : Nat) (ret : Option FieldType) (rF rL : Nat) (As : List Value) (F : Nat → Int32) (G : Nat → Int64) (tp w oc : Nat → Int32) (v : Option Value) : Prop :=
  ∀ (hi hm : zHp) (nx : Nat) (Q : Option Value → zHp → zHp → Nat → Prop), sW cB cI am a1 a2 a3 F G tp w oc hm → Q v hi hm nx → zM s0 D (zty cB cI cJ cD) y cc nL ret rF rL 0 0 (.ref am :: As) hi hm nx Q
def sK (s0 : State) (D : va_G) (cB cI cJ cD : ClassId) (am a1 a2 a3 : Nat) (y : MethodName) (cc : ByteArray) (nL : Nat) (ret : Option FieldType) (rF rL : Nat) (As : List Value) (F : Nat → Int32) (G : Nat → Int64) (tp w oc : Nat → Int32) (v : Option Value) (F' : Nat → Int32) (G' : Nat → Int64) (tp' w' oc' : Nat → Int32) : Prop :=
  ∀ (hi hm : zHp) (nx : Nat) (Q : Option Value → zHp → zHp → Nat → Prop), sW cB cI am a1 a2 a3 F G tp w oc hm → (∀ hm', sW cB cI am a1 a2 a3 F' G' tp' w' oc' hm' → sFr am a1 a2 a3 hm hm' → Q v hi hm' nx) → zM s0 D (zty cB cI cJ cD) y cc nL ret rF rL 0 0 (.ref am :: As) hi hm nx Q
variable {y : MethodName} {cc : ByteArray} {nL : Nat} {ret : Option FieldType} {rF rL pc : Nat} {lo : List (Nat × Value)} {st : List Value} {hi hm : zHp} {nx : Nat} {Q : Option Value → zHp → zHp → Nat → Prop} {idx k : Nat}
theorem s_get {v : Value} (hW : sW cB cI am a1 a2 a3 F G tp w oc hm) (hin : ∀ w ∈ u_ws RX9 TX9 7, w ∈ zT) (hk : k < 7) (hlink : Cond.fieldLink y.cls idx (TX9 k).1 (TX9 k).2.1 (TX9 k).2.2.1 ∈ zT) (hv : (sFs a1 F)[k]? = some v) (hd : decode cc pc = .ok (.getfield idx, 3))
    (kk : zV s0 D (zty cB cI cJ cD) y cc nL ret rF rL 0 0 (pc + 3) lo (v :: st) hi hm nx Q) : zV s0 D (zty cB cI cJ cD) y cc nL ret rF rL 0 0 pc lo (.ref am :: st) hi hm nx Q := zV_get (Or.inr hW.1) rfl hin hk hlink hv hd kk
theorem s_put {v : Value} (hW : sW cB cI am a1 a2 a3 F G tp w oc hm) (hin : ∀ w ∈ u_ws RX9 TX9 7, w ∈ zT) (hk : k < 7) (hlink : Cond.fieldLink y.cls idx (TX9 k).1 (TX9 k).2.1 (TX9 k).2.2.1 ∈ zT) (hfin : (TX9 k).2.2.2 = false) (hn : narrow (tyX9 k) v = v) (hfit : fits (tyX9 k) v = true) (hs : (sFs a1 F).set k v = sFs a1 F') (hd : decode cc pc = .ok (.putfield idx, 3))
    (kk : ∀ hm', sW cB cI am a1 a2 a3 F' G' tp w oc hm' → sFr am a1 a2 a3 hm hm' → zV s0 D (zty cB cI cJ cD) y cc nL ret rF rL 0 0 (pc + 3) lo st hi hm' nx Q) : zV s0 D (zty cB cI cJ cD) y cc nL ret rF rL 0 0 pc lo (v :: .ref am :: st) hi hm nx Q :=
  zV_put tyX9 hW.1 rfl hin tyX9_ok nmX9 hk hlink hfin rfl hn hfit hk hd (kk _ (hW.putF hs).1 (hW.putF (G' := G') hs).2)
theorem s_tld {i : Int32} (hW : sW cB cI am a1 a2 a3 F G tp w oc hm) (hin : zin i 800 = true) (hd : decode cc pc = .ok (.baload, 1))
    (kk : zV s0 D (zty cB cI cJ cD) y cc nL ret rF rL 0 0 (pc + 1) lo (.int (tp i.toNatClampNeg) :: st) hi hm nx Q) : zV s0 D (zty cB cI cJ cD) y cc nL ret rF rL 0 0 pc lo (.int i :: .ref a1 :: st) hi hm nx Q := zV_bald 0 (Or.inr hW.2) rfl (zin_in hin) hd kk
variable {y2 : MethodName} {cc2 : ByteArray} {nL2 : Nat} {ret2 : Option FieldType} {rF2 rL2 n : Nat} {As rest : List Value} {v : Option Value} {tp' w' oc' : Nat → Int32}
theorem s_cR (hW : sW cB cI am a1 a2 a3 F G tp w oc hm) (hM : sR s0 D cB cI cJ cD am a1 a2 a3 y2 cc2 nL2 ret2 rF2 rL2 As F G tp w oc v) (O : zO y2 cc2 nL2 ret2 n) (hc : RX9 = y2.cls) (hlink : Cond.methodLink y.cls idx y2 ∈ zT) (hinst : Cond.instanceMethod y2 ∈ zT) (hsel : Cond.selects y2.cls y2 y2 ∈ zT) (hn : As.length = n) {st : List Value} (hst : st = As.reverse ++ .ref am :: rest) (hrest : (rest.map fun v => v.category).sum ≤ 8) (hR : rF2 + 1 ≤ rF ∧ 8 + (nL2 + 11) + rL2 ≤ rL) (hd : decode cc pc = .ok (.invokevirtual idx, 3))
    (kk : zV s0 D (zty cB cI cJ cD) y cc nL ret rF rL 0 0 (pc + 3) lo (v.toList ++ rest) hi hm nx Q) : zV s0 D (zty cB cI cJ cD) y cc nL ret rF rL 0 0 pc lo st hi hm nx Q := by
  refine zV_callV (Q2 := fun v' hi' hm' nx' => v' = v ∧ hi' = hi ∧ hm' = hm ∧ nx' = nx) (hM hi hm nx _ hW ⟨rfl, rfl, rfl, rfl⟩) O (Or.inr hW.1) (T := TX9) (N := 7) (by rw [← hc]; rfl) hlink hinst hsel hn hst hrest hR ⟨Nat.le_refl _, Nat.le_refl _⟩ hd ?_
  rintro v' hi' hm' nx' ⟨rfl, rfl, rfl, rfl⟩
  exact kk
theorem s_cC (hW : sW cB cI am a1 a2 a3 F G tp w oc hm) (hM : sK s0 D cB cI cJ cD am a1 a2 a3 y2 cc2 nL2 ret2 rF2 rL2 As F G tp w oc v F' G' tp' w' oc') (O : zO y2 cc2 nL2 ret2 n) (hc : RX9 = y2.cls) (hlink : Cond.methodLink y.cls idx y2 ∈ zT) (hinst : Cond.instanceMethod y2 ∈ zT) (hsel : Cond.selects y2.cls y2 y2 ∈ zT) (hn : As.length = n) {st : List Value} (hst : st = As.reverse ++ .ref am :: rest) (hrest : (rest.map fun v => v.category).sum ≤ 8) (hR : rF2 + 1 ≤ rF ∧ 8 + (nL2 + 11) + rL2 ≤ rL) (hd : decode cc pc = .ok (.invokevirtual idx, 3))
    (kk : ∀ hm', sW cB cI am a1 a2 a3 F' G' tp' w' oc' hm' → sFr am a1 a2 a3 hm hm' → zV s0 D (zty cB cI cJ cD) y cc nL ret rF rL 0 0 (pc + 3) lo (v.toList ++ rest) hi hm' nx Q) : zV s0 D (zty cB cI cJ cD) y cc nL ret rF rL 0 0 pc lo st hi hm nx Q := by
  refine zV_callV (Q2 := fun v' hi' hm' nx' => v' = v ∧ hi' = hi ∧ nx' = nx ∧ sW cB cI am a1 a2 a3 F' G' tp' w' oc' hm' ∧ sFr am a1 a2 a3 hm hm') (hM hi hm nx _ hW (fun hm' h1 h2 => ⟨rfl, rfl, rfl, h1, h2⟩)) O (Or.inr hW.1) (T := TX9) (N := 7) (by rw [← hc]; rfl) hlink hinst hsel hn hst hrest hR ⟨Nat.le_refl _, Nat.le_refl _⟩ hd ?_
  rintro v' hi' hm' nx' ⟨rfl, rfl, rfl, h1, h2⟩
  exact kk hm' h1 h2
end ZSC
