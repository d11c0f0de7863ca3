/-! ===== the instructions that touch stack and locals alone: one step function, a block of them in one row ===== -/
def zg (lo : List (Nat × Value)) (i : Nat) : Option Value := (lo.find? (fun q => q.1 == i)).map (fun q => q.2)
theorem zg_mem {lo : List (Nat × Value)} {i : Nat} {v : Value} (h : zg lo i = some v) : (i, v) ∈ lo := by
  unfold zg at h
  cases hf : lo.find? (fun q => q.1 == i) with
  | none => rw [hf] at h; cases h
  | some q =>
    rw [hf] at h
    have h1 := List.find?_some hf
    have h2 := List.mem_of_find?_eq_some hf
    obtain ⟨j, w⟩ := q
    have h3 : j = i := by simpa using h1
    cases h
    subst h3
    exact h2
def zst1 (lo : List (Nat × Value)) (i : Nat) (v : Value) : List (Nat × Value) := (i, v) :: lo.filter (fun q => !(q.1 == i) && !(q.1 + 1 == i && q.2.category == 2))
def zst2 (lo : List (Nat × Value)) (i : Nat) (v : Value) : List (Nat × Value) := (i, v) :: lo.filter (fun q => !(q.1 == i) && (!(q.1 == i + 1) && !(q.1 + 1 == i && q.2.category == 2)))
def zlen : Instr → Nat
  | .aload _ => 2 | .astore _ => 2 | .iload _ => 2 | .istore _ => 2 | .lload _ => 2 | .lstore _ => 2 | .bipush _ => 2 | .sipush _ => 3 | .iinc _ _ => 3 | _ => 1
def zS (nL : Nat) (i : Instr) (lo : List (Nat × Value)) (st : List Value) : Option (List (Nat × Value) × List Value) :=
  match i with
  | .aconst_null => some (lo, .null :: st)
  | .iconst n => some (lo, .int (Int32.ofInt n) :: st)
  | .bipush n => some (lo, .int (Int8.ofInt n).toInt32 :: st)
  | .sipush n => some (lo, .int (Int16.ofInt n).toInt32 :: st)
  | .lconst n => some (lo, .long (Int64.ofNat n.val) :: st)
  | .aload k => match zg lo k with | some (.ref x) => some (lo, .ref x :: st) | some .null => some (lo, .null :: st) | _ => none
  | .aload_n k => match zg lo k.val with | some (.ref x) => some (lo, .ref x :: st) | some .null => some (lo, .null :: st) | _ => none
  | .iload k => match zg lo k with | some (.int x) => some (lo, .int x :: st) | _ => none
  | .iload_n k => match zg lo k.val with | some (.int x) => some (lo, .int x :: st) | _ => none
  | .lload k => match zg lo k with | some (.long x) => some (lo, .long x :: st) | _ => none
  | .lload_n k => match zg lo k.val with | some (.long x) => some (lo, .long x :: st) | _ => none
  | .istore k => match st with | .int x :: r => if k < nL then some (zst1 lo k (.int x), r) else none | _ => none
  | .istore_n k => match st with | .int x :: r => if k.val < nL then some (zst1 lo k.val (.int x), r) else none | _ => none
  | .lstore k => match st with | .long x :: r => if k + 1 < nL then some (zst2 lo k (.long x), r) else none | _ => none
  | .lstore_n k => match st with | .long x :: r => if k.val + 1 < nL then some (zst2 lo k.val (.long x), r) else none | _ => none
  | .astore k => match st with | .ref x :: r => if k < nL then some (zst1 lo k (.ref x), r) else none | .null :: r => if k < nL then some (zst1 lo k .null, r) else none | _ => none
  | .astore_n k => match st with | .ref x :: r => if k.val < nL then some (zst1 lo k.val (.ref x), r) else none | .null :: r => if k.val < nL then some (zst1 lo k.val .null, r) else none | _ => none
  | .iinc k n => match zg lo k with | some (.int x) => if k < nL then some (zst1 lo k (.int (x + Int32.ofInt n)), st) else none | _ => none
  | .iadd => match st with | .int b :: .int a :: r => some (lo, .int (a + b) :: r) | _ => none
  | .isub => match st with | .int b :: .int a :: r => some (lo, .int (a - b) :: r) | _ => none
  | .imul => match st with | .int b :: .int a :: r => some (lo, .int (a * b) :: r) | _ => none
  | .iand => match st with | .int b :: .int a :: r => some (lo, .int (a &&& b) :: r) | _ => none
  | .ior => match st with | .int b :: .int a :: r => some (lo, .int (a ||| b) :: r) | _ => none
  | .ladd => match st with | .long b :: .long a :: r => some (lo, .long (a + b) :: r) | _ => none
  | .lsub => match st with | .long b :: .long a :: r => some (lo, .long (a - b) :: r) | _ => none
  | .lmul => match st with | .long b :: .long a :: r => some (lo, .long (a * b) :: r) | _ => none
  | .land => match st with | .long b :: .long a :: r => some (lo, .long (a &&& b) :: r) | _ => none
  | .lor => match st with | .long b :: .long a :: r => some (lo, .long (a ||| b) :: r) | _ => none
  | .ineg => match st with | .int a :: r => some (lo, .int (-a) :: r) | _ => none
  | .lneg => match st with | .long a :: r => some (lo, .long (-a) :: r) | _ => none
  | .ishl => match st with | .int b :: .int a :: r => some (lo, .int (a <<< (b &&& 31)) :: r) | _ => none
  | .ishr => match st with | .int b :: .int a :: r => some (lo, .int (a >>> (b &&& 31)) :: r) | _ => none
  | .lshl => match st with | .int b :: .long a :: r => some (lo, .long (a <<< (b.toInt64 &&& 63)) :: r) | _ => none
  | .lshr => match st with | .int b :: .long a :: r => some (lo, .long (a >>> (b.toInt64 &&& 63)) :: r) | _ => none
  | .i2l => match st with | .int a :: r => some (lo, .long a.toInt64 :: r) | _ => none
  | .l2i => match st with | .long a :: r => some (lo, .int a.toInt32 :: r) | _ => none
  | .i2b => match st with | .int a :: r => some (lo, .int a.toInt8.toInt32 :: r) | _ => none
  | .lcmp => match st with | .long b :: .long a :: r => some (lo, .int (lg_cmp a b) :: r) | _ => none
  | .dup => match st with | v :: r => if v.category = 1 then some (lo, v :: v :: r) else none | _ => none
  | .pop => match st with | v :: r => if v.category = 1 then some (lo, r) else none | _ => none
  | .dup2 => match st with | v :: w :: r => if v.category = 1 ∧ w.category = 1 then some (lo, v :: w :: v :: w :: r) else none | _ => none
  | _ => none
section ZP
variable {s0 : State} {D : va_G} {tys : List (ClassId × FieldType)} {y : MethodName} {cc : ByteArray} {nL : Nat} {ret : Option FieldType} {rF rL mc ms pc : Nat} {lo lo' : List (Nat × Value)} {st st' : List Value} {hi hm : zHp} {nx : Nat} {Q : Option Value → zHp → zHp → Nat → Prop}
set_option maxHeartbeats 1600000 in
theorem zV_pure (i : Instr) (hd : decode cc pc = .ok (i, zlen i)) (h : zS nL i lo st = some (lo', st')) (k : zV s0 D tys y cc nL ret rF rL mc ms (pc + zlen i) lo' st' hi hm nx Q) : zV s0 D tys y cc nL ret rF rL mc ms pc lo st hi hm nx Q := by
  intro l p e R s m args below meth c H locs cells slots ls G F
  have K := k l p e R s m args below meth c H locs cells slots
  obtain ⟨f1, f2, f3, f4, f5, f6, f7, f8, f9, f10, f11, f12, f13, f14⟩ := F
  have at' : ∀ {i : Nat} {v : Value}, zg lo i = some v → ls[i]? = some (.val v) := fun h => f14.2.2 _ (zg_mem h)
  have F : lo' = lo → zF s0 D y cc nL ret rF rL mc ms lo' hi hm nx p R s m meth c H locs cells slots ls := fun z => by subst z; exact ⟨f1, f2, f3, f4, f5, f6, f7, f8, f9, f10, f11, f12, f13, f14⟩
  have Fn : ∀ ls', lv_has ls' nL lo' → zF s0 D y cc nL ret rF rL mc ms lo' hi hm nx p R s m meth c H locs cells slots ls' := fun ls' h9 => ⟨f1, f2, f3, f4, f5, f6, f7, f8, f9, f10, f11, f12, f13, h9⟩
  cases i
  case aconst_null =>
    simp only [zS] at h
    cases h
    exact lv_null f1 f2 hd (K ls G (F rfl))
  case iconst n =>
    simp only [zS] at h
    cases h
    exact lv_iconst f1 f2 hd rfl (K ls G (F rfl))
  case bipush n =>
    simp only [zS] at h
    cases h
    exact lv_bipush f1 f2 hd rfl (K ls G (F rfl))
  case sipush n =>
    simp only [zS] at h
    cases h
    exact lv_sipush f1 f2 hd rfl (K ls G (F rfl))
  case lconst n =>
    simp only [zS] at h
    cases h
    exact lv_lconst f1 f2 hd rfl (K ls G (F rfl))
  case aload q =>
    simp only [zS] at h
    split at h
    · next x hx => cases h; exact lv_aload f1 f2 hd (at' hx) (K ls G (F rfl))
    · next hx => cases h; exact lv_aloadN f1 f2 hd (at' hx) (K ls G (F rfl))
    · cases h
  case aload_n q =>
    simp only [zS] at h
    split at h
    · next x hx => cases h; exact lv_aload_n f1 f2 hd rfl (at' hx) (K ls G (F rfl))
    · next hx => cases h; exact lv_aload_nN f1 f2 hd rfl (at' hx) (K ls G (F rfl))
    · cases h
  case iload q =>
    simp only [zS] at h
    split at h
    · next x hx => cases h; exact lv_iload f1 f2 hd (at' hx) (K ls G (F rfl))
    · cases h
  case iload_n q =>
    simp only [zS] at h
    split at h
    · next x hx => cases h; exact lv_iload_n f1 f2 hd rfl (at' hx) (K ls G (F rfl))
    · cases h
  case lload q =>
    simp only [zS] at h
    split at h
    · next x hx => cases h; exact lv_lload f1 f2 hd (at' hx) (K ls G (F rfl))
    · cases h
  case lload_n q =>
    simp only [zS] at h
    split at h
    · next x hx => cases h; exact lv_lload_n f1 f2 hd rfl (at' hx) (K ls G (F rfl))
    · cases h
  case istore q =>
    simp only [zS] at h
    split at h
    · next x r =>
      split at h
      · next hq => cases h; exact lv_istore f1 f2 hd f14 hq rfl (fun ls' h9 => K ls' G (Fn ls' h9))
      · cases h
    · cases h
  case istore_n q =>
    simp only [zS] at h
    split at h
    · next x r =>
      split at h
      · next hq => cases h; exact lv_istore_n f1 f2 hd rfl f14 hq rfl (fun ls' h9 => K ls' G (Fn ls' h9))
      · cases h
    · cases h
  case lstore q =>
    simp only [zS] at h
    split at h
    · next x r =>
      split at h
      · next hq => cases h; exact lv_lstore f1 f2 hd f14 hq rfl (fun ls' h9 => K ls' G (Fn ls' h9))
      · cases h
    · cases h
  case lstore_n q =>
    simp only [zS] at h
    split at h
    · next x r =>
      split at h
      · next hq => cases h; exact lv_lstore_n f1 f2 hd rfl f14 hq rfl (fun ls' h9 => K ls' G (Fn ls' h9))
      · cases h
    · cases h
  case astore q =>
    simp only [zS] at h
    split at h
    · next x r =>
      split at h
      · next hq => cases h; exact lv_astore f1 f2 hd f14 hq rfl (fun ls' h9 => K ls' G (Fn ls' h9))
      · cases h
    · next r =>
      split at h
      · next hq => cases h; exact lv_astoreN f1 f2 hd f14 hq rfl (fun ls' h9 => K ls' G (Fn ls' h9))
      · cases h
    · cases h
  case astore_n q =>
    simp only [zS] at h
    split at h
    · next x r =>
      split at h
      · next hq => cases h; exact lv_astore_n f1 f2 hd rfl f14 hq rfl (fun ls' h9 => K ls' G (Fn ls' h9))
      · cases h
    · next r =>
      split at h
      · next hq => cases h; exact lv_astore_nN f1 f2 hd rfl f14 hq rfl (fun ls' h9 => K ls' G (Fn ls' h9))
      · cases h
    · cases h
  case iinc q n =>
    simp only [zS] at h
    split at h
    · next x hx =>
      split at h
      · next hq => cases h; obtain ⟨j, hj⟩ := List.getElem?_of_mem (zg_mem hx); exact lv_iinc f1 f2 hd f14 hj rfl hq rfl (fun ls' h9 => K ls' G (Fn ls' h9))
      · cases h
    · cases h
  case iadd =>
    simp only [zS] at h
    split at h
    · cases h; exact lv_iadd f1 f2 hd (K ls G (F rfl))
    · cases h
  case isub =>
    simp only [zS] at h
    split at h
    · cases h; exact lv_isub f1 f2 hd (K ls G (F rfl))
    · cases h
  case imul =>
    simp only [zS] at h
    split at h
    · cases h; exact lv_imul f1 f2 hd (K ls G (F rfl))
    · cases h
  case iand =>
    simp only [zS] at h
    split at h
    · cases h; exact lv_iand f1 f2 hd (K ls G (F rfl))
    · cases h
  case ior =>
    simp only [zS] at h
    split at h
    · cases h; exact lv_ior f1 f2 hd (K ls G (F rfl))
    · cases h
  case ladd =>
    simp only [zS] at h
    split at h
    · cases h; exact lv_ladd f1 f2 hd (K ls G (F rfl))
    · cases h
  case lsub =>
    simp only [zS] at h
    split at h
    · cases h; exact lv_lsub f1 f2 hd (K ls G (F rfl))
    · cases h
  case lmul =>
    simp only [zS] at h
    split at h
    · cases h; exact lv_lmul f1 f2 hd (K ls G (F rfl))
    · cases h
  case land =>
    simp only [zS] at h
    split at h
    · cases h; exact lv_land f1 f2 hd (K ls G (F rfl))
    · cases h
  case lor =>
    simp only [zS] at h
    split at h
    · cases h; exact lv_lor f1 f2 hd (K ls G (F rfl))
    · cases h
  case ishl =>
    simp only [zS] at h
    split at h
    · cases h; exact lv_ishl f1 f2 hd (K ls G (F rfl))
    · cases h
  case ishr =>
    simp only [zS] at h
    split at h
    · cases h; exact lv_ishr f1 f2 hd (K ls G (F rfl))
    · cases h
  case lshl =>
    simp only [zS] at h
    split at h
    · cases h; exact lv_lshl f1 f2 hd rfl (K ls G (F rfl))
    · cases h
  case lshr =>
    simp only [zS] at h
    split at h
    · cases h; exact lv_lshr f1 f2 hd rfl (K ls G (F rfl))
    · cases h
  case ineg =>
    simp only [zS] at h
    split at h
    · cases h; exact lv_ineg f1 f2 hd (K ls G (F rfl))
    · cases h
  case lneg =>
    simp only [zS] at h
    split at h
    · cases h; exact lv_lneg f1 f2 hd (K ls G (F rfl))
    · cases h
  case i2l =>
    simp only [zS] at h
    split at h
    · cases h; exact lv_i2l f1 f2 hd rfl (K ls G (F rfl))
    · cases h
  case l2i =>
    simp only [zS] at h
    split at h
    · cases h; exact lv_l2i f1 f2 hd rfl (K ls G (F rfl))
    · cases h
  case i2b =>
    simp only [zS] at h
    split at h
    · cases h; exact lv_i2b f1 f2 hd rfl (K ls G (F rfl))
    · cases h
  case lcmp =>
    simp only [zS] at h
    split at h
    · cases h; exact W.lcmp f1 f2 hd (K ls G (F rfl))
    · cases h
  case dup =>
    simp only [zS] at h
    split at h
    · split at h
      · next hc => cases h; exact lv_dup f1 f2 hd hc (K ls G (F rfl))
      · cases h
    · cases h
  case pop =>
    simp only [zS] at h
    split at h
    · split at h
      · next hc => cases h; exact lv_pop f1 f2 hd hc (K ls G (F rfl))
      · cases h
    · cases h
  case dup2 =>
    simp only [zS] at h
    split at h
    · split at h
      · next hc => cases h; exact lv_dup2_11 f1 f2 hd hc.1 hc.2 (K ls G (F rfl))
      · cases h
    · cases h
  all_goals (simp only [zS] at h; cases h)
/-- a block of such instructions -/
def zDec (cc : ByteArray) : Nat → List Instr → Bool
  | _, [] => true
  | pc, i :: is => decide (decode cc pc = .ok (i, zlen i)) && zDec cc (pc + zlen i) is
def zR (nL : Nat) : List Instr → Nat → List (Nat × Value) → List Value → Option (Nat × List (Nat × Value) × List Value)
  | [], pc, lo, st => some (pc, lo, st)
  | i :: is, pc, lo, st => match zS nL i lo st with
    | some q => zR nL is (pc + zlen i) q.1 q.2
    | none => none
theorem zV_blk : ∀ (is : List Instr) {pc : Nat} {lo : List (Nat × Value)} {st : List Value} {pc' : Nat} {lo' : List (Nat × Value)} {st' : List Value}, zDec cc pc is = true → zR nL is pc lo st = some (pc', lo', st') → zV s0 D tys y cc nL ret rF rL mc ms pc' lo' st' hi hm nx Q → zV s0 D tys y cc nL ret rF rL mc ms pc lo st hi hm nx Q
  | [], _, _, _, _, _, _, _, h, k => by cases h; exact k
  | i :: is, pc, lo, st, _, _, _, hd, h, k => by
    simp only [zDec, Bool.and_eq_true, decide_eq_true_eq] at hd
    simp only [zR] at h
    split at h
    · next q hq => exact zV_pure i hd.1 hq (zV_blk is hd.2 h k)
    · cases h
end ZP
