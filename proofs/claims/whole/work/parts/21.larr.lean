/-! ===== the rows that the class makes at first use ===== -/
section LRB
variable {s0 : State} {D : va_G} {X : Nat → Prop} {cB cI cJ cD : ClassId} {al l1 l2 l3 l4 l5 : Nat} {A tp : Nat → Int32} {dv : Nat → Option vDes} {cs : Nat → Int32} {cv : Nat → Option vDes} {jv : Option vJoint} {bo : Option (Nat → Int32)} {hg lw : Option (Nat → Int64)} {sb : vSB}
variable {y : MethodName} {cc : ByteArray} {nL : Nat} {ret : Option FieldType} {rF rL mc ms pc : Nat} {lo : List (Nat × Value)} {st : List Value} {hi hm : zHp} {nx : Nat} {Q : Option Value → zHp → zHp → Nat → Prop} {idx : Nat}
theorem z_fresh {tys : List (ClassId × FieldType)} (k : hi nx = none → hm nx = none → zV s0 D tys y cc nL ret rF rL mc ms pc lo st hi hm nx Q) : zV s0 D tys y cc nL ret rF rL mc ms pc lo st hi hm nx Q := by
  intro l p e R s m args below meth c H locs cells slots ls G F
  have hw : z_W s0 D hi hm nx H := F.2.2.2.2.2.2.2.2.2.2.1
  have n1 : hi nx = none := by
    cases hq : hi nx with
    | none => rfl
    | some e' => have h1 := (hw.2.2.2.1 nx e' hq).1.lt; have h2 := hw.1; exact absurd h1 (by show ¬ nx < H.size; omega)
  have n2 : hm nx = none := by
    cases hq : hm nx with
    | none => rfl
    | some e' => have h1 := (hw.2.2.2.2.1 nx e' hq).1.lt; have h2 := hw.1; exact absurd h1 (by show ¬ nx < H.size; omega)
  exact k n1 n2 l p e R s m args below meth c H locs cells slots ls G F
theorem zV_newI {n : Int32} {N : Nat} (harr : Cond.arrayClass .int ∈ zT) (hn : ¬ n < 0) (hN : n.toNatClampNeg = N) (hb : N * componentBytes .int ≤ 536870912) (hd : decode cc pc = .ok (.newarray .int, 2))
    (kk : hi nx = none → hm nx = none → zV s0 D (zty cB cI cJ cD) y cc nL ret rF rL mc ms (pc + 2) lo (.ref nx :: st) hi (va_up hm nx (some (.inl (cI, (N, .inl (fun _ => 0)))))) (nx + 1) Q) : zV s0 D (zty cB cI cJ cD) y cc nL ret rF rL (mc + 1) (ms + N) pc lo (.int n :: st) hi hm nx Q :=
  z_fresh fun n1 n2 => zV_newp (ty := .int) (a0 := (N, .inl (fun _ => 0))) 1 rfl rfl (fun _ _ => rfl) harr (fun _ => rfl) hn hN hb hd (kk n1 n2)
theorem zV_newJ {n : Int32} {N : Nat} (harr : Cond.arrayClass .long ∈ zT) (hn : ¬ n < 0) (hN : n.toNatClampNeg = N) (hb : N * componentBytes .long ≤ 536870912) (hd : decode cc pc = .ok (.newarray .long, 2))
    (kk : hi nx = none → hm nx = none → zV s0 D (zty cB cI cJ cD) y cc nL ret rF rL mc ms (pc + 2) lo (.ref nx :: st) hi (va_up hm nx (some (.inl (cJ, (N, .inr (.inl (fun _ => 0))))))) (nx + 1) Q) : zV s0 D (zty cB cI cJ cD) y cc nL ret rF rL (mc + 1) (ms + N) pc lo (.int n :: st) hi hm nx Q :=
  z_fresh fun n1 n2 => zV_newp (ty := .long) (a0 := (N, .inr (.inl (fun _ => 0)))) 2 rfl rfl (fun _ _ => rfl) harr (fun _ => rfl) hn hN hb hd (kk n1 n2)
theorem zUno {hm : zHp} {a q : Nat} {e e1 : va_E} (hn : hm a = none) (hq : hm q = some e1) : va_up hm a (some e) q = some e1 := zUn (fun z => by subst z; rw [hn] at hq; cases hq) hq
theorem zU2 {hm : zHp} {a al q : Nat} {e e0 e1 c : va_E} (hn : hm a = none) (hal : hm al = some e0) (hq : hm q = some e1) (hne : e0 ≠ e1) : va_up (va_up hm a (some e)) al (some c) q = some e1 := zUne (zUno hn hal) (zUno hn hq) hne
theorem lW.newB {a : Nat} (g : Nat → Int32) (h : lW X cB cI cJ cD al l1 l2 l3 l4 l5 A tp dv cs cv jv bo hg lw sb hi hm) (hn : hm a = none) : ∃ fs : List Value, fs.length = 14 ∧ va_up hm a (some (.inl (cI, 9999, .inl g))) al = some (.inr (11, fs)) ∧ lW X cB cI cJ cD al l1 l2 l3 l4 l5 A tp dv cs cv jv (some g) hg lw sb hi (va_up (va_up hm a (some (.inl (cI, 9999, .inl g)))) al (some (.inr (11, fs.set 11 (.ref a))))) ∧ lFr X hm (va_up (va_up hm a (some (.inl (cI, 9999, .inl g)))) al (some (.inr (11, fs.set 11 (.ref a))))) := by
  obtain ⟨dz, cz, jz, bz, hz, lz, vb, ⟨h1, h2, h3, h4, h5, h6, h7⟩, r, ⟨a1, a2, a3, a4⟩, ⟨o1, o2, o3, o4, o5, o6, o7, o8, o9⟩⟩ := h
  have nal : ∀ q, X q → q ≠ al := fun q hq z => o2 (z ▸ hq)
  have na : ∀ q, X q → q ≠ a := fun q hq z => by subst z; exact o9 q hq hn
  have nXa : ¬ X a := fun hx => o9 a hx hn
  have naal : a ≠ al := fun z => by subst z; rw [hn] at h1; cases h1
  refine ⟨_, rfl, zUno hn h1, ⟨dz, cz, jz, (some a), hz, lz, vb, ⟨zUe, zU2 hn h1 h2 (by intro z; cases z), zU2 hn h1 h3 (by intro z; cases z), zU2 hn h1 h4 (by intro z; cases z), zU2 hn h1 h5 (by intro z; cases z), zU2 hn h1 h6 (by intro z; cases z), zU2 hn h1 h7 (by intro z; cases z)⟩, r, ⟨Or.inr (Or.inl ⟨a, g, rfl, rfl, zUn naal zUe, nXa⟩), a2.keep (fun a x h => zU2 hn h1 h (by intro z; cases z)), a3.keep (fun a x h => zU2 hn h1 h (by intro z; cases z)), a4⟩, ⟨o1, o2, o3, o4, o5, o6, o7, o8, fun q hq => by rw [zUn (nal q hq) (zUn (na q hq) rfl)]; exact o9 q hq⟩⟩, fun q hq => zUn (nal q hq) (zUn (na q hq) rfl)⟩
def lBat (X : Nat → Prop) (cB cI cJ cD : ClassId) (al l1 l2 l3 l4 l5 : Nat) (A tp : Nat → Int32) (dv : Nat → Option vDes) (cs : Nat → Int32) (cv : Nat → Option vDes) (jv : Option vJoint) (bo : Option (Nat → Int32)) (hg lw : Option (Nat → Int64)) (sb : vSB) (hi hm : zHp) (a : Nat) (g : Nat → Int32) : Prop := hm a = some (.inl (cI, 9999, .inl g)) ∧ ∀ f : Nat → Int32, lW X cB cI cJ cD al l1 l2 l3 l4 l5 A tp dv cs cv jv (some f) hg lw sb hi (va_up hm a (some (.inl (cI, 9999, .inl f)))) ∧ lFr X hm (va_up hm a (some (.inl (cI, 9999, .inl f))))
theorem lW.getB (h : lW X cB cI cJ cD al l1 l2 l3 l4 l5 A tp dv cs cv jv bo hg lw sb hi hm) : ∃ (fs : List Value) (z : Option Nat), hm al = some (.inr (11, fs)) ∧ fs[11]? = some (va_rf z) ∧ ((z = none ∧ bo = none) ∨ ∃ (a : Nat) (g : Nat → Int32), z = some a ∧ bo = some g ∧ lBat X cB cI cJ cD al l1 l2 l3 l4 l5 A tp dv cs cv jv bo hg lw sb hi hm a g) := by
  obtain ⟨dz, cz, jz, bz, hz, lz, vb, ⟨h1, h2, h3, h4, h5, h6, h7⟩, r, ⟨a1, a2, a3, a4⟩, ⟨o1, o2, o3, o4, o5, o6, o7, o8, o9⟩⟩ := h
  refine ⟨_, bz, h1, rfl, ?_⟩
  rcases a1 with ⟨q1, q2⟩ | ⟨a, f, q1, q2, q3, q4⟩ | ⟨a, f, q1, q2, -, -⟩
  · exact Or.inl ⟨q1, by cases bo <;> first | rfl | cases q2⟩
  rotate_left
  · cases bo <;> cases q2
  have e : bo = some f := by cases bo <;> cases q2; rfl
  subst e; subst q1
  have nal : ∀ q, X q → q ≠ a := fun q hq z => q4 (z ▸ hq)
  refine Or.inr ⟨a, f, rfl, rfl, q3, fun f2 => ?_⟩
  refine ⟨⟨dz, cz, jz, some a, hz, lz, vb, ⟨zUne q3 h1 (by intro z; cases z), zUne q3 h2 (zneC o1.1.symm), zUne q3 h3 (by intro z; cases z), zUne q3 h4 (by intro z; cases z), zUne q3 h5 (by intro z; cases z), zUne q3 h6 (by intro z; cases z), zUne q3 h7 (zneC o1.1.symm)⟩, r, ⟨Or.inr (Or.inl ⟨a, f2, rfl, rfl, zUe, q4⟩), a2.keep (fun b x h => zUne q3 h (by intro z; cases z)), a3.keep (fun b x h => zUne q3 h (by intro z; cases z)), a4⟩, ⟨o1, o2, o3, o4, o5, o6, o7, o8, fun q hq => by rw [zUn (nal q hq) rfl]; exact o9 q hq⟩⟩, fun q hq => zUn (nal q hq) rfl⟩
theorem l_getB (hW : lW X cB cI cJ cD al l1 l2 l3 l4 l5 A tp dv cs cv jv bo hg lw sb hi hm) (hlink : Cond.fieldLink y.cls idx (TX11 11).1 (TX11 11).2.1 (TX11 11).2.2.1 ∈ zT) (hd : decode cc pc = .ok (.getfield idx, 3))
    (kn : bo = none → zV s0 D (zty cB cI cJ cD) y cc nL ret rF rL mc ms (pc + 3) lo (.null :: st) hi hm nx Q) (ks : ∀ a g, bo = some g → lBat X cB cI cJ cD al l1 l2 l3 l4 l5 A tp dv cs cv jv bo hg lw sb hi hm a g → zV s0 D (zty cB cI cJ cD) y cc nL ret rF rL mc ms (pc + 3) lo (.ref a :: st) hi hm nx Q) : zV s0 D (zty cB cI cJ cD) y cc nL ret rF rL mc ms pc lo (.ref al :: st) hi hm nx Q := by
  obtain ⟨fs, z, h1, hf, hr⟩ := hW.getB
  refine zV_get (Or.inr h1) rfl z_in11 (k := 11) (by decide) hlink hf hd ?_
  rcases hr with ⟨rfl, e2⟩ | ⟨a, g, rfl, e2, e3⟩
  · exact kn e2
  · exact ks a g e2 e3
theorem l_putB {a : Nat} {g : Nat → Int32} (hW : lW X cB cI cJ cD al l1 l2 l3 l4 l5 A tp dv cs cv jv bo hg lw sb hi hm) (hn : hm a = none) (hlink : Cond.fieldLink y.cls idx (TX11 11).1 (TX11 11).2.1 (TX11 11).2.2.1 ∈ zT) (hd : decode cc pc = .ok (.putfield idx, 3))
    (kk : ∀ hm', lW X cB cI cJ cD al l1 l2 l3 l4 l5 A tp dv cs cv jv (some g) hg lw sb hi hm' → lFr X hm hm' → zV s0 D (zty cB cI cJ cD) y cc nL ret rF rL mc ms (pc + 3) lo st hi hm' nx Q) : zV s0 D (zty cB cI cJ cD) y cc nL ret rF rL mc ms pc lo (.ref a :: .ref al :: st) hi (va_up hm a (some (.inl (cI, 9999, .inl g)))) nx Q := by
  obtain ⟨fs, hlen, h1, g1, g2⟩ := hW.newB g hn
  exact zV_put tyX11 h1 rfl z_in11 tyX11_ok nmX11 (k := 11) (by decide) hlink rfl rfl rfl rfl (by omega) hd (kk _ g1 g2)
theorem l_ldB {a : Nat} {g : Nat → Int32} {i : Int32} (hB : lBat X cB cI cJ cD al l1 l2 l3 l4 l5 A tp dv cs cv jv bo hg lw sb hi hm a g) (hin : zin i 9999 = true) (hd : decode cc pc = .ok (.iaload, 1)) (kk : zV s0 D (zty cB cI cJ cD) y cc nL ret rF rL mc ms (pc + 1) lo (.int (g i.toNatClampNeg) :: st) hi hm nx Q) : zV s0 D (zty cB cI cJ cD) y cc nL ret rF rL mc ms pc lo (.int i :: .ref a :: st) hi hm nx Q := zV_iald 1 (Or.inr hB.1) rfl (zin_in hin) hd kk
theorem l_stB {a : Nat} {g : Nat → Int32} {i : Int32} {x : Int32} (hB : lBat X cB cI cJ cD al l1 l2 l3 l4 l5 A tp dv cs cv jv bo hg lw sb hi hm a g) (hin : zin i 9999 = true) (hd : decode cc pc = .ok (.iastore, 1))
    (kk : ∀ hm', lW X cB cI cJ cD al l1 l2 l3 l4 l5 A tp dv cs cv jv (some (upd g i.toNatClampNeg x)) hg lw sb hi hm' → lFr X hm hm' → zV s0 D (zty cB cI cJ cD) y cc nL ret rF rL mc ms (pc + 1) lo st hi hm' nx Q) : zV s0 D (zty cB cI cJ cD) y cc nL ret rF rL mc ms pc lo (.int x :: .int i :: .ref a :: st) hi hm nx Q := zV_iast 1 hB.1 rfl (zin_in hin) hd (kk _ (hB.2 _).1 (hB.2 _).2)
theorem lW.newH {a : Nat} (g : Nat → Int64) (h : lW X cB cI cJ cD al l1 l2 l3 l4 l5 A tp dv cs cv jv bo hg lw sb hi hm) (hn : hm a = none) : ∃ fs : List Value, fs.length = 14 ∧ va_up hm a (some (.inl (cJ, 1000, .inr (.inl g)))) al = some (.inr (11, fs)) ∧ lW X cB cI cJ cD al l1 l2 l3 l4 l5 A tp dv cs cv jv bo (some g) lw sb hi (va_up (va_up hm a (some (.inl (cJ, 1000, .inr (.inl g))))) al (some (.inr (11, fs.set 12 (.ref a))))) ∧ lFr X hm (va_up (va_up hm a (some (.inl (cJ, 1000, .inr (.inl g))))) al (some (.inr (11, fs.set 12 (.ref a))))) := by
  obtain ⟨dz, cz, jz, bz, hz, lz, vb, ⟨h1, h2, h3, h4, h5, h6, h7⟩, r, ⟨a1, a2, a3, a4⟩, ⟨o1, o2, o3, o4, o5, o6, o7, o8, o9⟩⟩ := h
  have nal : ∀ q, X q → q ≠ al := fun q hq z => o2 (z ▸ hq)
  have na : ∀ q, X q → q ≠ a := fun q hq z => by subst z; exact o9 q hq hn
  have nXa : ¬ X a := fun hx => o9 a hx hn
  have naal : a ≠ al := fun z => by subst z; rw [hn] at h1; cases h1
  refine ⟨_, rfl, zUno hn h1, ⟨dz, cz, jz, bz, (some a), lz, vb, ⟨zUe, zU2 hn h1 h2 (by intro z; cases z), zU2 hn h1 h3 (by intro z; cases z), zU2 hn h1 h4 (by intro z; cases z), zU2 hn h1 h5 (by intro z; cases z), zU2 hn h1 h6 (by intro z; cases z), zU2 hn h1 h7 (by intro z; cases z)⟩, r, ⟨a1.keep (fun a x h => zU2 hn h1 h (by intro z; cases z)), Or.inr (Or.inr ⟨a, g, rfl, rfl, zUn naal zUe, nXa⟩), a3.keep (fun a x h => zU2 hn h1 h (by intro z; cases z)), (fun b hb hl => ?_)⟩, ⟨o1, o2, o3, o4, o5, o6, o7, o8, fun q hq => by rw [zUn (nal q hq) (zUn (na q hq) rfl)]; exact o9 q hq⟩⟩, fun q hq => zUn (nal q hq) (zUn (na q hq) rfl)⟩
  obtain rfl := Option.some.inj hb
  rcases a3 with ⟨q1, -⟩ | ⟨b, f, q1, q2, -, -⟩ | ⟨b, f, q1, q2, q3, q4⟩
  · rw [q1] at hl; cases hl
  · cases lw <;> cases q2
  · rw [q1] at hl; obtain rfl := Option.some.inj hl; rw [hn] at q3; cases q3
def lHat (X : Nat → Prop) (cB cI cJ cD : ClassId) (al l1 l2 l3 l4 l5 : Nat) (A tp : Nat → Int32) (dv : Nat → Option vDes) (cs : Nat → Int32) (cv : Nat → Option vDes) (jv : Option vJoint) (bo : Option (Nat → Int32)) (hg lw : Option (Nat → Int64)) (sb : vSB) (hi hm : zHp) (a : Nat) (g : Nat → Int64) : Prop := hm a = some (.inl (cJ, 1000, .inr (.inl g))) ∧ ∀ f : Nat → Int64, lW X cB cI cJ cD al l1 l2 l3 l4 l5 A tp dv cs cv jv bo (some f) lw sb hi (va_up hm a (some (.inl (cJ, 1000, .inr (.inl f))))) ∧ lFr X hm (va_up hm a (some (.inl (cJ, 1000, .inr (.inl f)))))
theorem lW.getH (h : lW X cB cI cJ cD al l1 l2 l3 l4 l5 A tp dv cs cv jv bo hg lw sb hi hm) : ∃ (fs : List Value) (z : Option Nat), hm al = some (.inr (11, fs)) ∧ fs[12]? = some (va_rf z) ∧ ((z = none ∧ hg = none) ∨ ∃ (a : Nat) (g : Nat → Int64), z = some a ∧ hg = some g ∧ lHat X cB cI cJ cD al l1 l2 l3 l4 l5 A tp dv cs cv jv bo hg lw sb hi hm a g) := by
  obtain ⟨dz, cz, jz, bz, hz, lz, vb, ⟨h1, h2, h3, h4, h5, h6, h7⟩, r, ⟨a1, a2, a3, a4⟩, ⟨o1, o2, o3, o4, o5, o6, o7, o8, o9⟩⟩ := h
  refine ⟨_, hz, h1, rfl, ?_⟩
  rcases a2 with ⟨q1, q2⟩ | ⟨a, f, q1, q2, -, -⟩ | ⟨a, f, q1, q2, q3, q4⟩
  · exact Or.inl ⟨q1, by cases hg <;> first | rfl | cases q2⟩
  · cases hg <;> cases q2
  have e : hg = some f := by cases hg <;> cases q2; rfl
  subst e; subst q1
  have nal : ∀ q, X q → q ≠ a := fun q hq z => q4 (z ▸ hq)
  refine Or.inr ⟨a, f, rfl, rfl, q3, fun f2 => ?_⟩
  refine ⟨⟨dz, cz, jz, bz, some a, lz, vb, ⟨zUne q3 h1 (by intro z; cases z), zUne q3 h2 (by intro z; cases z), zUne q3 h3 (by intro z; cases z), zUne q3 h4 (by intro z; cases z), zUne q3 h5 (by intro z; cases z), zUne q3 h6 (by intro z; cases z), zUne q3 h7 zneS⟩, r, ⟨a1.keep (fun b x h => zUne q3 h (by intro z; cases z)), Or.inr (Or.inr ⟨a, f2, rfl, rfl, zUe, q4⟩), ?_, a4⟩, ⟨o1, o2, o3, o4, o5, o6, o7, o8, fun q hq => by rw [zUn (nal q hq) rfl]; exact o9 q hq⟩⟩, fun q hq => zUn (nal q hq) rfl⟩
  rcases a3 with ⟨e1, e2⟩ | ⟨b, g, e1, e2, e3, e4⟩ | ⟨b, g, e1, e2, e3, e4⟩
  · exact Or.inl ⟨e1, e2⟩
  · exact Or.inr (Or.inl ⟨b, g, e1, e2, zUn (fun z => a4 a rfl (z ▸ e1)) e3, e4⟩)
  · exact Or.inr (Or.inr ⟨b, g, e1, e2, zUn (fun z => a4 a rfl (z ▸ e1)) e3, e4⟩)
theorem l_getH (hW : lW X cB cI cJ cD al l1 l2 l3 l4 l5 A tp dv cs cv jv bo hg lw sb hi hm) (hlink : Cond.fieldLink y.cls idx (TX11 12).1 (TX11 12).2.1 (TX11 12).2.2.1 ∈ zT) (hd : decode cc pc = .ok (.getfield idx, 3))
    (kn : hg = none → zV s0 D (zty cB cI cJ cD) y cc nL ret rF rL mc ms (pc + 3) lo (.null :: st) hi hm nx Q) (ks : ∀ a g, hg = some g → lHat X cB cI cJ cD al l1 l2 l3 l4 l5 A tp dv cs cv jv bo hg lw sb hi hm a g → zV s0 D (zty cB cI cJ cD) y cc nL ret rF rL mc ms (pc + 3) lo (.ref a :: st) hi hm nx Q) : zV s0 D (zty cB cI cJ cD) y cc nL ret rF rL mc ms pc lo (.ref al :: st) hi hm nx Q := by
  obtain ⟨fs, z, h1, hf, hr⟩ := hW.getH
  refine zV_get (Or.inr h1) rfl z_in11 (k := 12) (by decide) hlink hf hd ?_
  rcases hr with ⟨rfl, e2⟩ | ⟨a, g, rfl, e2, e3⟩
  · exact kn e2
  · exact ks a g e2 e3
theorem l_putH {a : Nat} {g : Nat → Int64} (hW : lW X cB cI cJ cD al l1 l2 l3 l4 l5 A tp dv cs cv jv bo hg lw sb hi hm) (hn : hm a = none) (hlink : Cond.fieldLink y.cls idx (TX11 12).1 (TX11 12).2.1 (TX11 12).2.2.1 ∈ zT) (hd : decode cc pc = .ok (.putfield idx, 3))
    (kk : ∀ hm', lW X cB cI cJ cD al l1 l2 l3 l4 l5 A tp dv cs cv jv bo (some g) lw sb hi hm' → lFr X hm hm' → zV s0 D (zty cB cI cJ cD) y cc nL ret rF rL mc ms (pc + 3) lo st hi hm' nx Q) : zV s0 D (zty cB cI cJ cD) y cc nL ret rF rL mc ms pc lo (.ref a :: .ref al :: st) hi (va_up hm a (some (.inl (cJ, 1000, .inr (.inl g))))) nx Q := by
  obtain ⟨fs, hlen, h1, g1, g2⟩ := hW.newH g hn
  exact zV_put tyX11 h1 rfl z_in11 tyX11_ok nmX11 (k := 12) (by decide) hlink rfl rfl rfl rfl (by omega) hd (kk _ g1 g2)
theorem l_ldH {a : Nat} {g : Nat → Int64} {i : Int32} (hB : lHat X cB cI cJ cD al l1 l2 l3 l4 l5 A tp dv cs cv jv bo hg lw sb hi hm a g) (hin : zin i 1000 = true) (hd : decode cc pc = .ok (.laload, 1)) (kk : zV s0 D (zty cB cI cJ cD) y cc nL ret rF rL mc ms (pc + 1) lo (.long (g i.toNatClampNeg) :: st) hi hm nx Q) : zV s0 D (zty cB cI cJ cD) y cc nL ret rF rL mc ms pc lo (.int i :: .ref a :: st) hi hm nx Q := zV_lald 2 (Or.inr hB.1) rfl (zin_in hin) hd kk
theorem l_stH {a : Nat} {g : Nat → Int64} {i : Int32} {x : Int64} (hB : lHat X cB cI cJ cD al l1 l2 l3 l4 l5 A tp dv cs cv jv bo hg lw sb hi hm a g) (hin : zin i 1000 = true) (hd : decode cc pc = .ok (.lastore, 1))
    (kk : ∀ hm', lW X cB cI cJ cD al l1 l2 l3 l4 l5 A tp dv cs cv jv bo (some (vp_updL g i.toNatClampNeg x)) lw sb hi hm' → lFr X hm hm' → zV s0 D (zty cB cI cJ cD) y cc nL ret rF rL mc ms (pc + 1) lo st hi hm' nx Q) : zV s0 D (zty cB cI cJ cD) y cc nL ret rF rL mc ms pc lo (.long x :: .int i :: .ref a :: st) hi hm nx Q := zV_last 2 hB.1 rfl (zin_in hin) hd (kk _ (hB.2 _).1 (hB.2 _).2)
theorem lW.newL {a : Nat} (g : Nat → Int64) (h : lW X cB cI cJ cD al l1 l2 l3 l4 l5 A tp dv cs cv jv bo hg lw sb hi hm) (hn : hm a = none) : ∃ fs : List Value, fs.length = 14 ∧ va_up hm a (some (.inl (cJ, 1000, .inr (.inl g)))) al = some (.inr (11, fs)) ∧ lW X cB cI cJ cD al l1 l2 l3 l4 l5 A tp dv cs cv jv bo hg (some g) sb hi (va_up (va_up hm a (some (.inl (cJ, 1000, .inr (.inl g))))) al (some (.inr (11, fs.set 13 (.ref a))))) ∧ lFr X hm (va_up (va_up hm a (some (.inl (cJ, 1000, .inr (.inl g))))) al (some (.inr (11, fs.set 13 (.ref a))))) := by
  obtain ⟨dz, cz, jz, bz, hz, lz, vb, ⟨h1, h2, h3, h4, h5, h6, h7⟩, r, ⟨a1, a2, a3, a4⟩, ⟨o1, o2, o3, o4, o5, o6, o7, o8, o9⟩⟩ := h
  have nal : ∀ q, X q → q ≠ al := fun q hq z => o2 (z ▸ hq)
  have na : ∀ q, X q → q ≠ a := fun q hq z => by subst z; exact o9 q hq hn
  have nXa : ¬ X a := fun hx => o9 a hx hn
  have naal : a ≠ al := fun z => by subst z; rw [hn] at h1; cases h1
  refine ⟨_, rfl, zUno hn h1, ⟨dz, cz, jz, bz, hz, (some a), vb, ⟨zUe, zU2 hn h1 h2 (by intro z; cases z), zU2 hn h1 h3 (by intro z; cases z), zU2 hn h1 h4 (by intro z; cases z), zU2 hn h1 h5 (by intro z; cases z), zU2 hn h1 h6 (by intro z; cases z), zU2 hn h1 h7 (by intro z; cases z)⟩, r, ⟨a1.keep (fun a x h => zU2 hn h1 h (by intro z; cases z)), a2.keep (fun a x h => zU2 hn h1 h (by intro z; cases z)), Or.inr (Or.inr ⟨a, g, rfl, rfl, zUn naal zUe, nXa⟩), (fun b hb hl => ?_)⟩, ⟨o1, o2, o3, o4, o5, o6, o7, o8, fun q hq => by rw [zUn (nal q hq) (zUn (na q hq) rfl)]; exact o9 q hq⟩⟩, fun q hq => zUn (nal q hq) (zUn (na q hq) rfl)⟩
  obtain rfl := Option.some.inj hl
  rcases a2 with ⟨q1, -⟩ | ⟨b, f, q1, q2, -, -⟩ | ⟨b, f, q1, q2, q3, q4⟩
  · rw [q1] at hb; cases hb
  · cases hg <;> cases q2
  · rw [q1] at hb; obtain rfl := Option.some.inj hb; rw [hn] at q3; cases q3
def lLat (X : Nat → Prop) (cB cI cJ cD : ClassId) (al l1 l2 l3 l4 l5 : Nat) (A tp : Nat → Int32) (dv : Nat → Option vDes) (cs : Nat → Int32) (cv : Nat → Option vDes) (jv : Option vJoint) (bo : Option (Nat → Int32)) (hg lw : Option (Nat → Int64)) (sb : vSB) (hi hm : zHp) (a : Nat) (g : Nat → Int64) : Prop := hm a = some (.inl (cJ, 1000, .inr (.inl g))) ∧ ∀ f : Nat → Int64, lW X cB cI cJ cD al l1 l2 l3 l4 l5 A tp dv cs cv jv bo hg (some f) sb hi (va_up hm a (some (.inl (cJ, 1000, .inr (.inl f))))) ∧ lFr X hm (va_up hm a (some (.inl (cJ, 1000, .inr (.inl f)))))
theorem lW.getL (h : lW X cB cI cJ cD al l1 l2 l3 l4 l5 A tp dv cs cv jv bo hg lw sb hi hm) : ∃ (fs : List Value) (z : Option Nat), hm al = some (.inr (11, fs)) ∧ fs[13]? = some (va_rf z) ∧ ((z = none ∧ lw = none) ∨ ∃ (a : Nat) (g : Nat → Int64), z = some a ∧ lw = some g ∧ lLat X cB cI cJ cD al l1 l2 l3 l4 l5 A tp dv cs cv jv bo hg lw sb hi hm a g) := by
  obtain ⟨dz, cz, jz, bz, hz, lz, vb, ⟨h1, h2, h3, h4, h5, h6, h7⟩, r, ⟨a1, a2, a3, a4⟩, ⟨o1, o2, o3, o4, o5, o6, o7, o8, o9⟩⟩ := h
  refine ⟨_, lz, h1, rfl, ?_⟩
  rcases a3 with ⟨q1, q2⟩ | ⟨a, f, q1, q2, -, -⟩ | ⟨a, f, q1, q2, q3, q4⟩
  · exact Or.inl ⟨q1, by cases lw <;> first | rfl | cases q2⟩
  · cases lw <;> cases q2
  have e : lw = some f := by cases lw <;> cases q2; rfl
  subst e; subst q1
  have nal : ∀ q, X q → q ≠ a := fun q hq z => q4 (z ▸ hq)
  refine Or.inr ⟨a, f, rfl, rfl, q3, fun f2 => ?_⟩
  refine ⟨⟨dz, cz, jz, bz, hz, some a, vb, ⟨zUne q3 h1 (by intro z; cases z), zUne q3 h2 (by intro z; cases z), zUne q3 h3 (by intro z; cases z), zUne q3 h4 (by intro z; cases z), zUne q3 h5 (by intro z; cases z), zUne q3 h6 (by intro z; cases z), zUne q3 h7 zneS⟩, r, ⟨a1.keep (fun b x h => zUne q3 h (by intro z; cases z)), ?_, Or.inr (Or.inr ⟨a, f2, rfl, rfl, zUe, q4⟩), a4⟩, ⟨o1, o2, o3, o4, o5, o6, o7, o8, fun q hq => by rw [zUn (nal q hq) rfl]; exact o9 q hq⟩⟩, fun q hq => zUn (nal q hq) rfl⟩
  rcases a2 with ⟨e1, e2⟩ | ⟨b, g, e1, e2, e3, e4⟩ | ⟨b, g, e1, e2, e3, e4⟩
  · exact Or.inl ⟨e1, e2⟩
  · exact Or.inr (Or.inl ⟨b, g, e1, e2, zUn (fun z => a4 b e1 (by rw [z])) e3, e4⟩)
  · exact Or.inr (Or.inr ⟨b, g, e1, e2, zUn (fun z => a4 b e1 (by rw [z])) e3, e4⟩)
theorem l_getL (hW : lW X cB cI cJ cD al l1 l2 l3 l4 l5 A tp dv cs cv jv bo hg lw sb hi hm) (hlink : Cond.fieldLink y.cls idx (TX11 13).1 (TX11 13).2.1 (TX11 13).2.2.1 ∈ zT) (hd : decode cc pc = .ok (.getfield idx, 3))
    (kn : lw = none → zV s0 D (zty cB cI cJ cD) y cc nL ret rF rL mc ms (pc + 3) lo (.null :: st) hi hm nx Q) (ks : ∀ a g, lw = some g → lLat X cB cI cJ cD al l1 l2 l3 l4 l5 A tp dv cs cv jv bo hg lw sb hi hm a g → zV s0 D (zty cB cI cJ cD) y cc nL ret rF rL mc ms (pc + 3) lo (.ref a :: st) hi hm nx Q) : zV s0 D (zty cB cI cJ cD) y cc nL ret rF rL mc ms pc lo (.ref al :: st) hi hm nx Q := by
  obtain ⟨fs, z, h1, hf, hr⟩ := hW.getL
  refine zV_get (Or.inr h1) rfl z_in11 (k := 13) (by decide) hlink hf hd ?_
  rcases hr with ⟨rfl, e2⟩ | ⟨a, g, rfl, e2, e3⟩
  · exact kn e2
  · exact ks a g e2 e3
theorem l_putL {a : Nat} {g : Nat → Int64} (hW : lW X cB cI cJ cD al l1 l2 l3 l4 l5 A tp dv cs cv jv bo hg lw sb hi hm) (hn : hm a = none) (hlink : Cond.fieldLink y.cls idx (TX11 13).1 (TX11 13).2.1 (TX11 13).2.2.1 ∈ zT) (hd : decode cc pc = .ok (.putfield idx, 3))
    (kk : ∀ hm', lW X cB cI cJ cD al l1 l2 l3 l4 l5 A tp dv cs cv jv bo hg (some g) sb hi hm' → lFr X hm hm' → zV s0 D (zty cB cI cJ cD) y cc nL ret rF rL mc ms (pc + 3) lo st hi hm' nx Q) : zV s0 D (zty cB cI cJ cD) y cc nL ret rF rL mc ms pc lo (.ref a :: .ref al :: st) hi (va_up hm a (some (.inl (cJ, 1000, .inr (.inl g))))) nx Q := by
  obtain ⟨fs, hlen, h1, g1, g2⟩ := hW.newL g hn
  exact zV_put tyX11 h1 rfl z_in11 tyX11_ok nmX11 (k := 13) (by decide) hlink rfl rfl rfl rfl (by omega) hd (kk _ g1 g2)
theorem l_ldL {a : Nat} {g : Nat → Int64} {i : Int32} (hB : lLat X cB cI cJ cD al l1 l2 l3 l4 l5 A tp dv cs cv jv bo hg lw sb hi hm a g) (hin : zin i 1000 = true) (hd : decode cc pc = .ok (.laload, 1)) (kk : zV s0 D (zty cB cI cJ cD) y cc nL ret rF rL mc ms (pc + 1) lo (.long (g i.toNatClampNeg) :: st) hi hm nx Q) : zV s0 D (zty cB cI cJ cD) y cc nL ret rF rL mc ms pc lo (.int i :: .ref a :: st) hi hm nx Q := zV_lald 2 (Or.inr hB.1) rfl (zin_in hin) hd kk
theorem l_stL {a : Nat} {g : Nat → Int64} {i : Int32} {x : Int64} (hB : lLat X cB cI cJ cD al l1 l2 l3 l4 l5 A tp dv cs cv jv bo hg lw sb hi hm a g) (hin : zin i 1000 = true) (hd : decode cc pc = .ok (.lastore, 1))
    (kk : ∀ hm', lW X cB cI cJ cD al l1 l2 l3 l4 l5 A tp dv cs cv jv bo hg (some (vp_updL g i.toNatClampNeg x)) sb hi hm' → lFr X hm hm' → zV s0 D (zty cB cI cJ cD) y cc nL ret rF rL mc ms (pc + 1) lo st hi hm' nx Q) : zV s0 D (zty cB cI cJ cD) y cc nL ret rF rL mc ms pc lo (.long x :: .int i :: .ref a :: st) hi hm nx Q := zV_last 2 hB.1 rfl (zin_in hin) hd (kk _ (hB.2 _).1 (hB.2 _).2)
end LRB
