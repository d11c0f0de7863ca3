/-! ===== making objects ===== -/
theorem iNone.mono {h h' : zHp} (x : zX h h') {a : Nat} (i : iNone h a) : iNone h' a := x _ _ i
theorem iEven.mono {h h' : zHp} (x : zX h h') {a : Nat} {v : vEven} (i : iEven h a v) : iEven h' a v := x _ _ i
theorem iLadder.mono {cI : ClassId} {h h' : zHp} (x : zX h h') {a : Nat} {v : vArr} (i : iLadder cI h a v) : iLadder cI h' a v := by
  obtain ⟨b, h1, h2⟩ := i
  exact ⟨b, x _ _ h1, h2.mono x⟩
theorem iRow.mono {cI : ClassId} {h h' : zHp} (x : zX h h') {a : Nat} {v : vRow} (i : iRow cI h a v) : iRow cI h' a v := by
  obtain ⟨b, h1, h2⟩ := i
  exact ⟨b, x _ _ h1, h2.mono x⟩
/-- all but one cell as they were -/
def zO1 (a : Nat) (h h' : zHp) : Prop := ∀ q, q ≠ a → h' q = h q
theorem zO1.rf {a : Nat} {h : zHp} : zO1 a h h := fun _ _ => rfl
theorem zO1.tr {a : Nat} {h1 h2 h3 : zHp} (x : zO1 a h1 h2) (z : zO1 a h2 h3) : zO1 a h1 h3 := fun q n => (z q n).trans (x q n)
section ZA
variable {s0 : State} {D : va_G} {tys : List (ClassId × FieldType)} {y : MethodName} {cc : ByteArray} {nL : Nat} {ret : Option FieldType} {rF rL mc ms pc : Nat} {lo : List (Nat × Value)} {st : List Value} {hi hm : zHp} {nx : Nat} {Q : Option Value → zHp → zHp → Nat → Prop}
/-- a field of the object under way -/
theorem zV_putS {a ci idx k N : Nat} {fs fs' : List Value} {C : String} {T : u_T} {v : Value} (ty0 : Nat → FieldType) (he : hm a = some (.inr (ci, fs))) (hc : zcl[ci]? = some (C, T, N)) (hin : ∀ w ∈ u_ws C T N, w ∈ zT) (hty : ∀ k, k < N → parseFieldDescriptor (T k).2.2.1 = some (ty0 k)) (hnm : ∀ a, a < N → ∀ b, b < N → a ≠ b → (T a).2.1 ≠ (T b).2.1) (hk : k < N) (hlink : Cond.fieldLink y.cls idx (T k).1 (T k).2.1 (T k).2.2.1 ∈ zT) (hyi : (T k).2.2.2 = true → y.name = "<init>" ∧ (T k).1 = y.cls) (hn : narrow (ty0 k) v = v) (hfit : fits (ty0 k) v = true) (hl : k < fs.length) (hf : fs.set k v = fs') (hd : decode cc pc = .ok (.putfield idx, 3))
    (kk : ∀ hm', hm' a = some (.inr (ci, fs')) → zO1 a hm hm' → zV s0 D tys y cc nL ret rF rL mc ms (pc + 3) lo st hi hm' nx Q) : zV s0 D tys y cc nL ret rF rL mc ms pc lo (v :: .ref a :: st) hi hm nx Q := by
  subst hf
  have h1 := kk (va_up hm a (some (.inr (ci, fs.set k v)))) (by simp [va_up]) (fun q hq => by simp [va_up, hq])
  by_cases hfin : (T k).2.2.2 = true
  · exact zV_putF ty0 he hc hin hty hnm hk hlink hfin (hyi hfin).1 (hyi hfin).2 rfl hn hfit hl hd h1
  · exact zV_put ty0 he hc hin hty hnm hk hlink (by simpa using hfin) rfl hn hfit hl hd h1
variable {y2 : MethodName} {cc2 : ByteArray} {nL2 : Nat} {ret2 : Option FieldType} {rF2 rL2 mc2 ms2 : Nat} {As rest : List Value} {n idx : Nat}
theorem z_hi_none {a : Nat} {d : va_E} (k : hi a = none → zV s0 D tys y cc nL ret rF rL mc ms pc lo st hi hm nx Q) (ha : hm a = some d) : zV s0 D tys y cc nL ret rF rL mc ms pc lo st hi hm nx Q := by
  intro l p e R s m args below meth c H locs cells slots ls G F
  have hw : z_W s0 D hi hm nx H := F.2.2.2.2.2.2.2.2.2.2.1
  have h0 : hi a = none := by
    cases hq : hi a with
    | none => rfl
    | some e' => rw [hw.2.2.2.2.2 a e' hq] at ha; cases ha
  exact k h0 l p e R s m args below meth c H locs cells slots ls G F
theorem z_after {H0 hm' : zHp} {a : Nat} {d e : va_E} (h0 : H0 a = none) (h1 : hm' a = some e) (h2 : zO1 a (va_up H0 a (some d)) hm') (k : ∀ hi', zX hi hi' → hi' a = some e → zV s0 D tys y cc nL ret rF rL mc ms pc lo st hi' H0 nx Q) : zV s0 D tys y cc nL ret rF rL mc ms pc lo st hi hm' nx Q := by
  refine z_hi_none (fun hn => ?_) h1
  refine zV_done h1 hn (fun hi' hX hc => ?_)
  have he : va_up hm' a none = H0 := by
    funext q
    unfold va_up
    by_cases hq : q = a
    · subst hq; rw [if_pos rfl, h0]
    · rw [if_neg hq, h2 q hq]; simp [va_up, hq]
  rw [he]
  exact k hi' hX hc
/-- the constructor's end: the object is done -/
theorem zV_mk {H0 : zHp} {a : Nat} {d e : va_E} (hM : ∀ Q2 : Option Value → zHp → zHp → Nat → Prop, (∀ hm', hm' a = some e → zO1 a (va_up H0 a (some d)) hm' → Q2 none hi hm' nx) → zM s0 D tys y2 cc2 nL2 none rF2 rL2 0 0 (.ref a :: As) hi (va_up H0 a (some d)) nx Q2) (O : zO y2 cc2 nL2 none n) (hyi : y2.name = "<init>") (hlink : Cond.methodLink y.cls idx y2 ∈ zT) (hinst : Cond.instanceMethod y2 ∈ zT) (hn : As.length = n) (hst : st = As.reverse ++ .ref a :: rest) (hrest : (rest.map fun v => v.category).sum ≤ 8) (hR : rF2 + 1 ≤ rF ∧ 8 + (nL2 + 11) + rL2 ≤ rL) (hd : decode cc pc = .ok (.invokespecial idx, 3)) (h0 : H0 a = none)
    (k : ∀ hi', zX hi hi' → hi' a = some e → zV s0 D tys y cc nL ret rF rL mc ms (pc + 3) lo rest hi' H0 nx Q) : zV s0 D tys y cc nL ret rF rL mc ms pc lo st hi (va_up H0 a (some d)) nx Q := by
  refine zV_callI (hM (fun v' hi' hm' nx' => v' = none ∧ hi' = hi ∧ nx' = nx ∧ hm' a = some e ∧ zO1 a (va_up H0 a (some d)) hm') (fun hm' h1 h2 => ⟨rfl, rfl, rfl, h1, h2⟩)) O hyi hlink hinst hn hst hrest hR ⟨Nat.zero_le _, Nat.zero_le _⟩ hd ?_
  rintro v' hi' hm' nx' ⟨rfl, rfl, rfl, h1, h2⟩
  exact z_after h0 h1 h2 k
theorem zV_mkN {host : String} {H0 : zHp} {a : Nat} {d e : va_E} (hM : ∀ Q2 : Option Value → zHp → zHp → Nat → Prop, (∀ hm', hm' a = some e → zO1 a (va_up H0 a (some d)) hm' → Q2 none hi hm' nx) → zM s0 D tys y2 cc2 nL2 none rF2 rL2 0 0 (.ref a :: As) hi (va_up H0 a (some d)) nx Q2) (O : zO y2 cc2 nL2 none n) (hyi : y2.name = "<init>") (hlink : Cond.methodLinkNest y.cls idx y2 host ∈ lw_tbl) (hinst : Cond.instanceMethod y2 ∈ zT) (hn : As.length = n) (hst : st = As.reverse ++ .ref a :: rest) (hrest : (rest.map fun v => v.category).sum ≤ 8) (hR : rF2 + 1 ≤ rF ∧ 8 + (nL2 + 11) + rL2 ≤ rL) (hd : decode cc pc = .ok (.invokespecial idx, 3)) (h0 : H0 a = none)
    (k : ∀ hi', zX hi hi' → hi' a = some e → zV s0 D tys y cc nL ret rF rL mc ms (pc + 3) lo rest hi' H0 nx Q) : zV s0 D tys y cc nL ret rF rL mc ms pc lo st hi (va_up H0 a (some d)) nx Q := by
  refine zV_callIN (hM (fun v' hi' hm' nx' => v' = none ∧ hi' = hi ∧ nx' = nx ∧ hm' a = some e ∧ zO1 a (va_up H0 a (some d)) hm') (fun hm' h1 h2 => ⟨rfl, rfl, rfl, h1, h2⟩)) O hyi hlink hinst hn hst hrest hR ⟨Nat.zero_le _, Nat.zero_le _⟩ hd ?_
  rintro v' hi' hm' nx' ⟨rfl, rfl, rfl, h1, h2⟩
  exact z_after h0 h1 h2 k
/-- a constructor above that does nothing to the object -/
theorem zV_supN {host : String} {a : Nat} (hM : ∀ Q2 : Option Value → zHp → zHp → Nat → Prop, Q2 none hi hm nx → zM s0 D tys y2 cc2 nL2 none rF2 rL2 0 0 (.ref a :: []) hi hm nx Q2) (O : zO y2 cc2 nL2 none 0) (hyi : y2.name = "<init>") (hlink : Cond.methodLinkNest y.cls idx y2 host ∈ lw_tbl) (hinst : Cond.instanceMethod y2 ∈ zT) (hrest : (rest.map fun v => v.category).sum ≤ 8) (hR : rF2 + 1 ≤ rF ∧ 8 + (nL2 + 11) + rL2 ≤ rL) (hd : decode cc pc = .ok (.invokespecial idx, 3))
    (k : zV s0 D tys y cc nL ret rF rL mc ms (pc + 3) lo rest hi hm nx Q) : zV s0 D tys y cc nL ret rF rL mc ms pc lo (.ref a :: rest) hi hm nx Q := by
  refine zV_callIN (As := []) (hM (fun v' hi' hm' nx' => v' = none ∧ hi' = hi ∧ hm' = hm ∧ nx' = nx) ⟨rfl, rfl, rfl, rfl⟩) O hyi hlink hinst rfl rfl hrest hR ⟨Nat.zero_le _, Nat.zero_le _⟩ hd ?_
  rintro v' hi' hm' nx' ⟨rfl, rfl, rfl, rfl⟩
  exact k
/-- calls that make objects -/
theorem zV_alS (P : zHp → Option Value → Prop) (hM : ∀ Q2 : Option Value → zHp → zHp → Nat → Prop, (∀ v' hi' nx', zX hi hi' → P hi' v' → Q2 v' hi' hm nx') → zM s0 D tys y2 cc2 nL2 ret2 rF2 rL2 mc2 ms2 As hi hm nx Q2) (O : zO y2 cc2 nL2 ret2 n) (hlink : Cond.methodLink y.cls idx y2 ∈ zT) (hstat : Cond.static y2 ∈ zT) (hn : As.length = n) (hst : st = As.reverse ++ rest) (hrest : (rest.map fun v => v.category).sum ≤ 8) (hR : rF2 + 1 ≤ rF ∧ 8 + (nL2 + 11) + rL2 ≤ rL) (hd : decode cc pc = .ok (.invokestatic idx, 3))
    (k : ∀ v' hi' nx', zX hi hi' → P hi' v' → zV s0 D tys y cc nL ret rF rL mc ms (pc + 3) lo (v'.toList ++ rest) hi' hm nx' Q) : zV s0 D tys y cc nL ret rF rL (mc + mc2) (ms + ms2) pc lo st hi hm nx Q := by
  refine zV_callS (hM (fun v' hi' hm' nx' => hm' = hm ∧ zX hi hi' ∧ P hi' v') (fun v' hi' nx' h1 h2 => ⟨rfl, h1, h2⟩)) O hlink hstat hn hst hrest hR ⟨Nat.le_add_left _ _, Nat.le_add_left _ _⟩ hd ?_
  rintro v' hi' hm' nx' ⟨rfl, h1, h2⟩
  exact zV_less (by omega) (by omega) (k v' hi' nx' h1 h2)
theorem zV_alV (P : zHp → Option Value → Prop) {b ci N : Nat} {fs : List Value} {T : u_T} (hM : ∀ Q2 : Option Value → zHp → zHp → Nat → Prop, (∀ v' hi' nx', zX hi hi' → P hi' v' → Q2 v' hi' hm nx') → zM s0 D tys y2 cc2 nL2 ret2 rF2 rL2 mc2 ms2 (.ref b :: As) hi hm nx Q2) (O : zO y2 cc2 nL2 ret2 n) (he : zE hi hm b (.inr (ci, fs))) (hc : zcl[ci]? = some (y2.cls, T, N)) (hlink : Cond.methodLink y.cls idx y2 ∈ zT) (hinst : Cond.instanceMethod y2 ∈ zT) (hsel : Cond.selects y2.cls y2 y2 ∈ zT) (hn : As.length = n) (hst : st = As.reverse ++ .ref b :: rest) (hrest : (rest.map fun v => v.category).sum ≤ 8) (hR : rF2 + 1 ≤ rF ∧ 8 + (nL2 + 11) + rL2 ≤ rL) (hd : decode cc pc = .ok (.invokevirtual idx, 3))
    (k : ∀ v' hi' nx', zX hi hi' → P hi' v' → zV s0 D tys y cc nL ret rF rL mc ms (pc + 3) lo (v'.toList ++ rest) hi' hm nx' Q) : zV s0 D tys y cc nL ret rF rL (mc + mc2) (ms + ms2) pc lo st hi hm nx Q := by
  refine zV_callV (hM (fun v' hi' hm' nx' => hm' = hm ∧ zX hi hi' ∧ P hi' v') (fun v' hi' nx' h1 h2 => ⟨rfl, h1, h2⟩)) O he hc hlink hinst hsel hn hst hrest hR ⟨Nat.le_add_left _ _, Nat.le_add_left _ _⟩ hd ?_
  rintro v' hi' hm' nx' ⟨rfl, h1, h2⟩
  exact zV_less (by omega) (by omega) (k v' hi' nx' h1 h2)
end ZA
