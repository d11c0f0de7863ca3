/-! ===== the reference's object: its ints F and longs G by their slots, its tape, its row w, its octets ===== -/
def mFs (a1 a2 a3 : Nat) (F : Nat → Int32) (G : Nat → Int64) : List Value := [.int (F 0), .ref a1, .int (F 2), .int (F 3), .int (F 4), .int (F 5), .int (F 6), .int (F 7), .int (F 8), .int (F 9), .int (F 10), .int (F 11), .ref a2, .int (F 13), .int (F 14), .ref a3, .int (F 16), .int (F 17), .int (F 18), .int (F 19), .int (F 20), .long (G 21), .long (G 22), .long (G 23), .long (G 24), .long (G 25)]
def mW (cB cI : ClassId) (am a1 a2 a3 : Nat) (F : Nat → Int32) (G : Nat → Int64) (tp w oc : Nat → Int32) (hm : zHp) : Prop :=
  hm am = some (.inr (12, mFs a1 a2 a3 F G)) ∧ hm a1 = some (.inl (cB, 800, .inl tp)) ∧ hm a2 = some (.inl (cI, 35802, .inl w)) ∧ hm a3 = some (.inl (cI, 2400, .inl oc))
def mFr (am a1 a2 a3 : Nat) (hm hm' : zHp) : Prop := ∀ q, q ≠ am → q ≠ a1 → q ≠ a2 → q ≠ a3 → hm' q = hm q
theorem mFr.rf {am a1 a2 a3 : Nat} {hm : zHp} : mFr am a1 a2 a3 hm hm := fun _ _ _ _ _ => rfl
theorem mFr.tr {am a1 a2 a3 : Nat} {h1 h2 h3 : zHp} (x : mFr am a1 a2 a3 h1 h2) (z : mFr am a1 a2 a3 h2 h3) : mFr am a1 a2 a3 h1 h3 := fun q n1 n2 n3 n4 => (z q n1 n2 n3 n4).trans (x q n1 n2 n3 n4)
theorem mW.ne {cB cI : ClassId} {am a1 a2 a3 : Nat} {F : Nat → Int32} {G : Nat → Int64} {tp w oc : Nat → Int32} {hm : zHp} (h : mW cB cI am a1 a2 a3 F G tp w oc hm) : a1 ≠ am ∧ a2 ≠ am ∧ a3 ≠ am ∧ a2 ≠ a1 ∧ a3 ≠ a1 ∧ a3 ≠ a2 := by
  obtain ⟨h1, h2, h3, h4⟩ := h
  refine ⟨?_, ?_, ?_, ?_, ?_, ?_⟩ <;> intro z <;> subst z
  · rw [h1] at h2; cases h2
  · rw [h1] at h3; cases h3
  · rw [h1] at h4; cases h4
  · rw [h2] at h3; cases h3
  · rw [h2] at h4; cases h4
  · rw [h3] at h4; cases h4
section ZM
variable {s0 : State} {D : va_G} {cB cI cJ cD : ClassId} {am a1 a2 a3 : Nat} {F F' : Nat → Int32} {G G' : Nat → Int64} {tp w oc : Nat → Int32}
theorem mW.putF {hm : zHp} (h : mW cB cI am a1 a2 a3 F G tp w oc hm) {fs : List Value} (hf : fs = mFs a1 a2 a3 F' G') : mW cB cI am a1 a2 a3 F' G' tp w oc (va_up hm am (some (.inr (12, fs)))) ∧ mFr am a1 a2 a3 hm (va_up hm am (some (.inr (12, fs)))) := by
  obtain ⟨n1, n2, n3, -, -, -⟩ := h.ne
  obtain ⟨h1, h2, h3, h4⟩ := h
  subst hf
  exact ⟨⟨by simp [va_up], by simp [va_up, n1, h2], by simp [va_up, n2, h3], by simp [va_up, n3, h4]⟩, fun q m1 m2 m3 m4 => by simp [va_up, m1]⟩
theorem mW.put1 {hm : zHp} (h : mW cB cI am a1 a2 a3 F G tp w oc hm) (f : Nat → Int32) : mW cB cI am a1 a2 a3 F G f w oc (va_up hm a1 (some (.inl (cB, 800, .inl f)))) ∧ mFr am a1 a2 a3 hm (va_up hm a1 (some (.inl (cB, 800, .inl f)))) := by
  obtain ⟨n1, n2, n3, n4, n5, n6⟩ := h.ne
  obtain ⟨h1, h2, h3, h4⟩ := h
  exact ⟨⟨by simp [va_up, n1.symm, h1], by simp [va_up], by simp [va_up, n4, h3], by simp [va_up, n5, h4]⟩, fun q m1 m2 m3 m4 => by simp [va_up, m2]⟩
theorem mW.put2 {hm : zHp} (h : mW cB cI am a1 a2 a3 F G tp w oc hm) (f : Nat → Int32) : mW cB cI am a1 a2 a3 F G tp f oc (va_up hm a2 (some (.inl (cI, 35802, .inl f)))) ∧ mFr am a1 a2 a3 hm (va_up hm a2 (some (.inl (cI, 35802, .inl f)))) := by
  obtain ⟨n1, n2, n3, n4, n5, n6⟩ := h.ne
  obtain ⟨h1, h2, h3, h4⟩ := h
  exact ⟨⟨by simp [va_up, n2.symm, h1], by simp [va_up, n4.symm, h2], by simp [va_up], by simp [va_up, n6, h4]⟩, fun q m1 m2 m3 m4 => by simp [va_up, m3]⟩
theorem mW.put3 {hm : zHp} (h : mW cB cI am a1 a2 a3 F G tp w oc hm) (f : Nat → Int32) : mW cB cI am a1 a2 a3 F G tp w f (va_up hm a3 (some (.inl (cI, 2400, .inl f)))) ∧ mFr am a1 a2 a3 hm (va_up hm a3 (some (.inl (cI, 2400, .inl f)))) := by
  obtain ⟨n1, n2, n3, n4, n5, n6⟩ := h.ne
  obtain ⟨h1, h2, h3, h4⟩ := h
  exact ⟨⟨by simp [va_up, n3.symm, h1], by simp [va_up, n5.symm, h2], by simp [va_up, n6.symm, h3], by simp [va_up]⟩, fun q m1 m2 m3 m4 => by simp [va_up, m4]⟩
/-- a method of the reference that changes nothing -/
def mR (s0 : State) (D : va_G) (cB cI cJ cD : ClassId) (am a1 a2 a3 : Nat) (y : MethodName) (cc : ByteArray) (nL : Nat) (ret : Option FieldType) (rF rL : Nat) (As : List Value) (F : Nat → Int32) (G : Nat → Int64) (tp w oc : Nat → Int32) (v : Option Value) : Prop :=
  ∀ (hi hm : zHp) (nx : Nat) (Q : Option Value → zHp → zHp → Nat → Prop), mW cB cI am a1 a2 a3 F G tp w oc hm → Q v hi hm nx → zM s0 D (zty cB cI cJ cD) y cc nL ret rF rL 0 0 (.ref am :: As) hi hm nx Q
/-- a method of the reference -/
def mC (s0 : State) (D : va_G) (cB cI cJ cD : ClassId) (am a1 a2 a3 : Nat) (y : MethodName) (cc : ByteArray) (nL : Nat) (ret : Option FieldType) (rF rL : Nat) (As : List Value) (F : Nat → Int32) (G : Nat → Int64) (tp w oc : Nat → Int32) (v : Option Value) (F' : Nat → Int32) (G' : Nat → Int64) (tp' w' oc' : Nat → Int32) : Prop :=
  ∀ (hi hm : zHp) (nx : Nat) (Q : Option Value → zHp → zHp → Nat → Prop), mW cB cI am a1 a2 a3 F G tp w oc hm → (∀ hm', mW cB cI am a1 a2 a3 F' G' tp' w' oc' hm' → mFr am a1 a2 a3 hm hm' → Q v hi hm' nx) → zM s0 D (zty cB cI cJ cD) y cc nL ret rF rL 0 0 (.ref am :: As) hi hm nx Q
variable {y : MethodName} {cc : ByteArray} {nL : Nat} {ret : Option FieldType} {rF rL pc : Nat} {lo : List (Nat × Value)} {st : List Value} {hi hm : zHp} {nx : Nat} {Q : Option Value → zHp → zHp → Nat → Prop} {idx k : Nat}
theorem m_get {v : Value} (hW : mW cB cI am a1 a2 a3 F G tp w oc hm) (hin : ∀ w ∈ u_ws RX12 TX12 26, w ∈ zT) (hk : k < 26) (hlink : Cond.fieldLink y.cls idx (TX12 k).1 (TX12 k).2.1 (TX12 k).2.2.1 ∈ zT) (hv : (mFs a1 a2 a3 F G)[k]? = some v) (hd : decode cc pc = .ok (.getfield idx, 3))
    (kk : zV s0 D (zty cB cI cJ cD) y cc nL ret rF rL 0 0 (pc + 3) lo (v :: st) hi hm nx Q) : zV s0 D (zty cB cI cJ cD) y cc nL ret rF rL 0 0 pc lo (.ref am :: st) hi hm nx Q := zV_get (Or.inr hW.1) rfl hin hk hlink hv hd kk
theorem m_put {v : Value} (hW : mW cB cI am a1 a2 a3 F G tp w oc hm) (hin : ∀ w ∈ u_ws RX12 TX12 26, w ∈ zT) (hk : k < 26) (hlink : Cond.fieldLink y.cls idx (TX12 k).1 (TX12 k).2.1 (TX12 k).2.2.1 ∈ zT) (hfin : (TX12 k).2.2.2 = false) (hn : narrow (tyX12 k) v = v) (hfit : fits (tyX12 k) v = true) (hs : (mFs a1 a2 a3 F G).set k v = mFs a1 a2 a3 F' G') (hd : decode cc pc = .ok (.putfield idx, 3))
    (kk : ∀ hm', mW cB cI am a1 a2 a3 F' G' tp w oc hm' → mFr am a1 a2 a3 hm hm' → zV s0 D (zty cB cI cJ cD) y cc nL ret rF rL 0 0 (pc + 3) lo st hi hm' nx Q) : zV s0 D (zty cB cI cJ cD) y cc nL ret rF rL 0 0 pc lo (v :: .ref am :: st) hi hm nx Q :=
  zV_put tyX12 hW.1 rfl hin tyX12_ok nmX12 hk hlink hfin rfl hn hfit hk hd (kk _ (hW.putF hs).1 (hW.putF hs).2)
theorem m_wld {i : Int32} (hW : mW cB cI am a1 a2 a3 F G tp w oc hm) (hin : zin i 35802 = true) (hd : decode cc pc = .ok (.iaload, 1))
    (kk : zV s0 D (zty cB cI cJ cD) y cc nL ret rF rL 0 0 (pc + 1) lo (.int (w i.toNatClampNeg) :: st) hi hm nx Q) : zV s0 D (zty cB cI cJ cD) y cc nL ret rF rL 0 0 pc lo (.int i :: .ref a2 :: st) hi hm nx Q := zV_iald 1 (Or.inr hW.2.2.1) rfl (zin_in hin) hd kk
theorem m_old {i : Int32} (hW : mW cB cI am a1 a2 a3 F G tp w oc hm) (hin : zin i 2400 = true) (hd : decode cc pc = .ok (.iaload, 1))
    (kk : zV s0 D (zty cB cI cJ cD) y cc nL ret rF rL 0 0 (pc + 1) lo (.int (oc i.toNatClampNeg) :: st) hi hm nx Q) : zV s0 D (zty cB cI cJ cD) y cc nL ret rF rL 0 0 pc lo (.int i :: .ref a3 :: st) hi hm nx Q := zV_iald 1 (Or.inr hW.2.2.2) rfl (zin_in hin) hd kk
theorem m_tld {i : Int32} (hW : mW cB cI am a1 a2 a3 F G tp w oc hm) (hin : zin i 800 = true) (hd : decode cc pc = .ok (.baload, 1))
    (kk : zV s0 D (zty cB cI cJ cD) y cc nL ret rF rL 0 0 (pc + 1) lo (.int (tp i.toNatClampNeg) :: st) hi hm nx Q) : zV s0 D (zty cB cI cJ cD) y cc nL ret rF rL 0 0 pc lo (.int i :: .ref a1 :: st) hi hm nx Q := zV_bald 0 (Or.inr hW.2.1) rfl (zin_in hin) hd kk
theorem m_wst {i x : Int32} (hW : mW cB cI am a1 a2 a3 F G tp w oc hm) (hin : zin i 35802 = true) (hd : decode cc pc = .ok (.iastore, 1))
    (kk : ∀ hm', mW cB cI am a1 a2 a3 F G tp (upd w i.toNatClampNeg x) oc hm' → mFr am a1 a2 a3 hm hm' → zV s0 D (zty cB cI cJ cD) y cc nL ret rF rL 0 0 (pc + 1) lo st hi hm' nx Q) : zV s0 D (zty cB cI cJ cD) y cc nL ret rF rL 0 0 pc lo (.int x :: .int i :: .ref a2 :: st) hi hm nx Q :=
  zV_iast 1 hW.2.2.1 rfl (zin_in hin) hd (kk _ (hW.put2 _).1 (hW.put2 _).2)
theorem m_ost {i x : Int32} (hW : mW cB cI am a1 a2 a3 F G tp w oc hm) (hin : zin i 2400 = true) (hd : decode cc pc = .ok (.iastore, 1))
    (kk : ∀ hm', mW cB cI am a1 a2 a3 F G tp w (upd oc i.toNatClampNeg x) hm' → mFr am a1 a2 a3 hm hm' → zV s0 D (zty cB cI cJ cD) y cc nL ret rF rL 0 0 (pc + 1) lo st hi hm' nx Q) : zV s0 D (zty cB cI cJ cD) y cc nL ret rF rL 0 0 pc lo (.int x :: .int i :: .ref a3 :: st) hi hm nx Q :=
  zV_iast 1 hW.2.2.2 rfl (zin_in hin) hd (kk _ (hW.put3 _).1 (hW.put3 _).2)
theorem m_tst {i x : Int32} (hW : mW cB cI am a1 a2 a3 F G tp w oc hm) (hin : zin i 800 = true) (hd : decode cc pc = .ok (.bastore, 1))
    (kk : ∀ hm', mW cB cI am a1 a2 a3 F G (upd tp i.toNatClampNeg (vp_nar .byte x)) w oc hm' → mFr am a1 a2 a3 hm hm' → zV s0 D (zty cB cI cJ cD) y cc nL ret rF rL 0 0 (pc + 1) lo st hi hm' nx Q) : zV s0 D (zty cB cI cJ cD) y cc nL ret rF rL 0 0 pc lo (.int x :: .int i :: .ref a1 :: st) hi hm nx Q :=
  zV_bast 0 hW.2.1 rfl (zin_in hin) hd (kk _ (hW.put1 _).1 (hW.put1 _).2)
variable {y2 : MethodName} {cc2 : ByteArray} {nL2 : Nat} {ret2 : Option FieldType} {rF2 rL2 n : Nat} {As rest : List Value} {v : Option Value} {tp' w' oc' : Nat → Int32}
theorem m_cR (hW : mW cB cI am a1 a2 a3 F G tp w oc hm) (hM : mR s0 D cB cI cJ cD am a1 a2 a3 y2 cc2 nL2 ret2 rF2 rL2 As F G tp w oc v) (O : zO y2 cc2 nL2 ret2 n) (hc : RX12 = y2.cls) (hlink : Cond.methodLink y.cls idx y2 ∈ zT) (hinst : Cond.instanceMethod y2 ∈ zT) (hsel : Cond.selects y2.cls y2 y2 ∈ zT) (hn : As.length = n) {st : List Value} (hst : st = As.reverse ++ .ref am :: rest) (hrest : (rest.map fun v => v.category).sum ≤ 8) (hR : rF2 + 1 ≤ rF ∧ 8 + (nL2 + 11) + rL2 ≤ rL) (hd : decode cc pc = .ok (.invokevirtual idx, 3))
    (kk : zV s0 D (zty cB cI cJ cD) y cc nL ret rF rL 0 0 (pc + 3) lo (v.toList ++ rest) hi hm nx Q) : zV s0 D (zty cB cI cJ cD) y cc nL ret rF rL 0 0 pc lo st hi hm nx Q := by
  refine zV_callV (Q2 := fun v' hi' hm' nx' => v' = v ∧ hi' = hi ∧ hm' = hm ∧ nx' = nx) (hM hi hm nx _ hW ⟨rfl, rfl, rfl, rfl⟩) O (Or.inr hW.1) (T := TX12) (N := 26) (by rw [← hc]; rfl) hlink hinst hsel hn hst hrest hR ⟨Nat.le_refl _, Nat.le_refl _⟩ hd ?_
  rintro v' hi' hm' nx' ⟨rfl, rfl, rfl, rfl⟩
  exact kk
theorem m_cC (hW : mW cB cI am a1 a2 a3 F G tp w oc hm) (hM : mC s0 D cB cI cJ cD am a1 a2 a3 y2 cc2 nL2 ret2 rF2 rL2 As F G tp w oc v F' G' tp' w' oc') (O : zO y2 cc2 nL2 ret2 n) (hc : RX12 = y2.cls) (hlink : Cond.methodLink y.cls idx y2 ∈ zT) (hinst : Cond.instanceMethod y2 ∈ zT) (hsel : Cond.selects y2.cls y2 y2 ∈ zT) (hn : As.length = n) {st : List Value} (hst : st = As.reverse ++ .ref am :: rest) (hrest : (rest.map fun v => v.category).sum ≤ 8) (hR : rF2 + 1 ≤ rF ∧ 8 + (nL2 + 11) + rL2 ≤ rL) (hd : decode cc pc = .ok (.invokevirtual idx, 3))
    (kk : ∀ hm', mW cB cI am a1 a2 a3 F' G' tp' w' oc' hm' → mFr am a1 a2 a3 hm hm' → zV s0 D (zty cB cI cJ cD) y cc nL ret rF rL 0 0 (pc + 3) lo (v.toList ++ rest) hi hm' nx Q) : zV s0 D (zty cB cI cJ cD) y cc nL ret rF rL 0 0 pc lo st hi hm nx Q := by
  refine zV_callV (Q2 := fun v' hi' hm' nx' => v' = v ∧ hi' = hi ∧ nx' = nx ∧ mW cB cI am a1 a2 a3 F' G' tp' w' oc' hm' ∧ mFr am a1 a2 a3 hm hm') (hM hi hm nx _ hW (fun hm' h1 h2 => ⟨rfl, rfl, rfl, h1, h2⟩)) O (Or.inr hW.1) (T := TX12) (N := 26) (by rw [← hc]; rfl) hlink hinst hsel hn hst hrest hR ⟨Nat.le_refl _, Nat.le_refl _⟩ hd ?_
  rintro v' hi' hm' nx' ⟨rfl, rfl, rfl, h1, h2⟩
  exact kk hm' h1 h2
end ZM
