/-! ===== the functional forms: checks, calls, loops; and the rows that take them apart ===== -/
def zin (i : Int32) (n : Nat) : Bool := decide (0 ≤ i) && decide (i.toNatClampNeg < n)
theorem zin_in {i : Int32} {n : Nat} (h : zin i n = true) : vp_in i n := by
  simp only [zin, Bool.and_eq_true, decide_eq_true_eq] at h
  rintro (q | q)
  · have h1 := h.1
    rw [Int32.le_iff_toInt_le] at h1
    rw [Int32.lt_iff_toInt_lt] at q
    omega
  · omega
def zck {α : Type} (b : Bool) (k : Option α) : Option α := if b = true then k else none
theorem zck_some {α : Type} {b : Bool} {k : Option α} {r : α} (h : zck b k = some r) : b = true ∧ k = some r := by
  unfold zck at h
  by_cases hb : b = true
  · rw [if_pos hb] at h; exact ⟨hb, h⟩
  · rw [if_neg hb] at h; cases h
theorem zbind {α β : Type} {o : Option α} {k : α → Option β} {r : β} (h : o.bind k = some r) : ∃ v, o = some v ∧ k v = some r := by
  cases o with
  | none => cases h
  | some v => exact ⟨v, rfl, h⟩
theorem zmap {α β : Type} {o : Option α} {k : α → β} {r : β} (h : o.map k = some r) : ∃ v, o = some v ∧ k v = r := by
  cases o with
  | none => cases h
  | some v => exact ⟨v, rfl, Option.some.inj h⟩
theorem zif_pos {α : Type} {c : Prop} [Decidable c] {a b x : α} (q : c) (h : (if c then a else b) = x) : a = x := by rw [if_pos q] at h; exact h
theorem zif_neg {α : Type} {c : Prop} [Decidable c] {a b x : α} (q : ¬ c) (h : (if c then a else b) = x) : b = x := by rw [if_neg q] at h; exact h
def zloop {σ ρ : Type} (f : σ → Option (σ ⊕ ρ)) : Nat → σ → Option ρ
  | 0, _ => none
  | n + 1, s => match f s with
    | none => none
    | some (.inl s') => zloop f n s'
    | some (.inr r) => some r
theorem zloop_succ {σ ρ : Type} {f : σ → Option (σ ⊕ ρ)} {n : Nat} {s : σ} {r : ρ} (h : zloop f (n + 1) s = some r) : ∃ x, f s = some x ∧ (∀ s', x = .inl s' → zloop f n s' = some r) ∧ ∀ r', x = .inr r' → r' = r := by
  rw [zloop] at h
  cases hf : f s with
  | none => rw [hf] at h; cases h
  | some x =>
    rw [hf] at h
    cases x with
    | inl s' => exact ⟨_, rfl, (fun q hq => by cases hq; exact h), (fun q hq => by cases hq)⟩
    | inr r' => exact ⟨_, rfl, (fun q hq => by cases hq), (fun q hq => by cases hq; cases h; rfl)⟩
section ZX
variable {s0 : State} {D : va_G} {tys : List (ClassId × FieldType)} {y : MethodName} {cc : ByteArray} {nL : Nat} {ret : Option FieldType} {rF rL mc ms pc : Nat} {lo : List (Nat × Value)} {st : List Value} {hi hm : zHp} {nx : Nat} {Q : Option Value → zHp → zHp → Nat → Prop}
theorem zV_pick {lo2 : List (Nat × Value)} (ks : List Nat) (hl : lv_pick lo ks = lo2) (k : zV s0 D tys y cc nL ret rF rL mc ms pc lo2 st hi hm nx Q) : zV s0 D tys y cc nL ret rF rL mc ms pc lo st hi hm nx Q := by
  refine zV_locals (fun q hq => ?_) k
  rw [← hl] at hq
  obtain ⟨k, -, hk⟩ := List.mem_filterMap.mp hq
  exact List.mem_of_getElem? hk
/-- the contract of a static method that touches no cell -/
def sC (s0 : State) (D : va_G) (tys : List (ClassId × FieldType)) (y : MethodName) (cc : ByteArray) (nL : Nat) (ret : Option FieldType) (rF rL : Nat) (As : List Value) (v : Value) : Prop := ∀ (hi hm : zHp) (nx : Nat) (Q : Option Value → zHp → zHp → Nat → Prop), Q (some v) hi hm nx → zM s0 D tys y cc nL ret rF rL 0 0 As hi hm nx Q
variable {y2 : MethodName} {cc2 : ByteArray} {nL2 : Nat} {ret2 : Option FieldType} {rF2 rL2 : Nat} {As rest : List Value} {n idx : Nat} {v : Value}
theorem zV_sC (hM : sC s0 D tys y2 cc2 nL2 ret2 rF2 rL2 As v) (O : zO y2 cc2 nL2 ret2 n) (hlink : Cond.methodLink y.cls idx y2 ∈ zT) (hstat : Cond.static y2 ∈ zT) (hn : As.length = n) {st : List Value} (hst : st = As.reverse ++ rest) (hrest : (rest.map fun v => v.category).sum ≤ 8) (hR : rF2 + 1 ≤ rF ∧ 8 + (nL2 + 11) + rL2 ≤ rL) (hd : decode cc pc = .ok (.invokestatic idx, 3))
    (k : zV s0 D tys y cc nL ret rF rL mc ms (pc + 3) lo (v :: rest) hi hm nx Q) : zV s0 D tys y cc nL ret rF rL mc ms pc lo st hi hm nx Q := by
  refine zV_callS (Q2 := fun v' hi' hm' nx' => v' = some v ∧ hi' = hi ∧ hm' = hm ∧ nx' = nx) (hM hi hm nx _ ⟨rfl, rfl, rfl, rfl⟩) O hlink hstat hn hst hrest hR ⟨Nat.zero_le _, Nat.zero_le _⟩ hd ?_
  rintro v' hi' hm' nx' ⟨rfl, rfl, rfl, rfl⟩
  exact k
end ZX
/-! ===== booleans and switches ===== -/
def zb (b : Bool) : Int32 := if b = true then 1 else 0
theorem zb_and (b : Bool) : zb b &&& 1 = zb b := by cases b <;> decide +kernel
theorem zb_eq {b : Bool} (h : zb b = 0) : ¬ b = true := by cases b <;> first | exact (by decide) | exact absurd h (by decide +kernel)
theorem zb_ne {b : Bool} (h : ¬ zb b = 0) : b = true := by cases b <;> first | rfl | exact absurd (by decide +kernel) h
theorem zne {x : Int32} (c : Int32) (n : Int) (hc : c.toInt = n) (q : ¬ x = c) : x.toInt ≠ n := fun h => q (Int32.toInt_inj.mp (h.trans hc.symm))
section ZY
variable {s0 : State} {D : va_G} {tys : List (ClassId × FieldType)} {y : MethodName} {cc : ByteArray} {nL : Nat} {ret : Option FieldType} {rF rL mc ms pc : Nat} {lo : List (Nat × Value)} {st : List Value} {hi hm : zHp} {nx : Nat} {Q : Option Value → zHp → zHp → Nat → Prop}
theorem zV_bif_eq {b : Bool} {off : Int} {tgt : Nat} (hd : decode cc pc = .ok (.ifCond .eq off, 3)) (ht : (pc : Int) + off = (tgt : Int)) (kt : ¬ b = true → zV s0 D tys y cc nL ret rF rL mc ms tgt lo st hi hm nx Q) (kf : b = true → zV s0 D tys y cc nL ret rF rL mc ms (pc + 3) lo st hi hm nx Q) : zV s0 D tys y cc nL ret rF rL mc ms pc lo (.int (zb b) :: st) hi hm nx Q := zV_if_eq hd ht (fun q => kt (zb_eq q)) (fun q => kf (zb_ne q))
theorem zV_bif_ne {b : Bool} {off : Int} {tgt : Nat} (hd : decode cc pc = .ok (.ifCond .ne off, 3)) (ht : (pc : Int) + off = (tgt : Int)) (kt : b = true → zV s0 D tys y cc nL ret rF rL mc ms tgt lo st hi hm nx Q) (kf : ¬ b = true → zV s0 D tys y cc nL ret rF rL mc ms (pc + 3) lo st hi hm nx Q) : zV s0 D tys y cc nL ret rF rL mc ms pc lo (.int (zb b) :: st) hi hm nx Q := zV_if_ne hd ht (fun q => kt (zb_ne q)) (fun q => kf (zb_eq q))
theorem zV_bret {b : Bool} (hr : ret = some .boolean) (hd : decode cc pc = .ok (.ireturn, 1)) (hq : Q (some (.int (zb b))) hi hm nx) : zV s0 D tys y cc nL ret rF rL mc ms pc lo [.int (zb b)] hi hm nx Q := zV_zret hr (zb_and b) hd hq
theorem zV_tin {x : Int32} {dflt l1 h1 : Int} {offs : Array Int} {len : Nat} {off : Int} {tgt : Nat} (c0 : Int32) (q : x = c0) (hd : decode cc pc = .ok (.tableswitch dflt l1 h1 offs, len)) (a1 : ¬ c0.toInt < l1) (a2 : ¬ h1 < c0.toInt) (ho : offs[(c0.toInt - l1).toNat]? = some off) (ht : (pc : Int) + off = (tgt : Int)) (k : zV s0 D tys y cc nL ret rF rL mc ms tgt lo st hi hm nx Q) : zV s0 D tys y cc nL ret rF rL mc ms pc lo (.int x :: st) hi hm nx Q := by
  subst q
  intro l p e R s m args below meth c H locs cells slots ls G F
  have F2 := F
  obtain ⟨f1, f2, f3, f4, f5, f6, f7, f8, f9, f10, f11, f12, f13, f14⟩ := F2
  exact lv_tableIn f1 f2 hd a1 a2 ho ht (k l p e R s m args below meth c H locs cells slots ls G F)
theorem zV_tout {x : Int32} {dflt l1 h1 : Int} {offs : Array Int} {len : Nat} {tgt : Nat} (q : x.toInt < l1 ∨ h1 < x.toInt) (hd : decode cc pc = .ok (.tableswitch dflt l1 h1 offs, len)) (ht : (pc : Int) + dflt = (tgt : Int)) (k : zV s0 D tys y cc nL ret rF rL mc ms tgt lo st hi hm nx Q) : zV s0 D tys y cc nL ret rF rL mc ms pc lo (.int x :: st) hi hm nx Q := by
  intro l p e R s m args below meth c H locs cells slots ls G F
  have F2 := F
  obtain ⟨f1, f2, f3, f4, f5, f6, f7, f8, f9, f10, f11, f12, f13, f14⟩ := F2
  exact lv_tableOut f1 f2 hd q ht (k l p e R s m args below meth c H locs cells slots ls G F)
theorem zV_lsw {x : Int32} {dflt : Int} {ps : Array (Int × Int)} {len : Nat} {off : Int} {tgt : Nat} (hd : decode cc pc = .ok (.lookupswitch dflt ps, len)) (hp : (ps.toList.zip (ps.toList.drop 1)).all (fun (a, next) => a.1 < next.1) = true) (ho : Op.lookupswitch.offset ps.toList dflt x.toInt = off) (ht : (pc : Int) + off = (tgt : Int)) (k : zV s0 D tys y cc nL ret rF rL mc ms tgt lo st hi hm nx Q) : zV s0 D tys y cc nL ret rF rL mc ms pc lo (.int x :: st) hi hm nx Q := by
  intro l p e R s m args below meth c H locs cells slots ls G F
  have F2 := F
  obtain ⟨f1, f2, f3, f4, f5, f6, f7, f8, f9, f10, f11, f12, f13, f14⟩ := F2
  exact lv_lookup f1 f2 hd hp ho ht (k l p e R s m args below meth c H locs cells slots ls G F)
end ZY
