/-! ===== the class's object as a whole: what its cells hold ===== -/
abbrev vJoint : Type := vDes × vDes × Int64 × Int64
/-- letters, room, a flag, bytes -/
abbrev vSB : Type := Nat × Nat × Int32 × (Nat → Int32)
def iJoint (cI : ClassId) (hi : zHp) (a : Nat) (v : vJoint) : Prop := ∃ b c : Nat, hi a = some (.inr (4, [.ref b, .ref c, .long v.2.2.1, .long v.2.2.2])) ∧ iDes cI hi b v.1 ∧ iDes cI hi c v.2.1
theorem iJoint.mono {cI : ClassId} {h h' : zHp} (x : zX h h') {a : Nat} {v : vJoint} (i : iJoint cI h a v) : iJoint cI h' a v := by
  obtain ⟨b, c, h1, h2, h3⟩ := i
  exact ⟨b, c, x _ _ h1, h2.mono x, h3.mono x⟩
def lFs (l1 l2 l3 l4 l5 : Nat) (A : Nat → Int32) (jz bz hz lz : Option Nat) : List Value := [.ref l1, .int (A 1), .int (A 2), .int (A 3), .ref l2, .ref l3, .ref l4, .int (A 7), .int (A 8), .ref l5, va_rf jz, va_rf bz, va_rf hz, va_rf lz]
/-- an array that may not have been made yet -/
def zAr (X : Nat → Prop) (hm : zHp) (c : ClassId) (n : Nat) (r : Option Nat) (f : Option ((Nat → Int32) ⊕ (Nat → Int64))) : Prop :=
  (r = none ∧ f = none) ∨ (∃ (a : Nat) (g : Nat → Int32), r = some a ∧ f = some (.inl g) ∧ hm a = some (.inl (c, n, .inl g)) ∧ ¬ X a) ∨ ∃ (a : Nat) (g : Nat → Int64), r = some a ∧ f = some (.inr g) ∧ hm a = some (.inl (c, n, .inr (.inl g))) ∧ ¬ X a
def lW (X : Nat → Prop) (cB cI cJ cD : ClassId) (al l1 l2 l3 l4 l5 : Nat) (A tp : Nat → Int32) (dv : Nat → Option vDes) (cs : Nat → Int32) (cv : Nat → Option vDes) (jv : Option vJoint) (bo : Option (Nat → Int32)) (hg lw : Option (Nat → Int64)) (sb : vSB) (hi hm : zHp) : Prop :=
  ∃ (dz cz : Nat → Option Nat) (jz bz hz lz : Option Nat) (vb : Nat),
    (hm al = some (.inr (11, lFs l1 l2 l3 l4 l5 A jz bz hz lz)) ∧ hm l1 = some (.inl (cB, 800, .inl tp)) ∧ hm l2 = some (.inl (cD, 6, .inr (.inr (.inr (.inr dz))))) ∧ hm l3 = some (.inl (cI, 12, .inl cs)) ∧ hm l4 = some (.inl (cD, 12, .inr (.inr (.inr (.inr cz))))) ∧ hm l5 = some (.inr (13, [.ref vb, .int 0, .int sb.2.2.1, .int (nI sb.1)])) ∧ hm vb = some (.inl (cB, sb.2.1, .inl sb.2.2.2))) ∧
    ((∀ i, i < 6 → zRf (iDes cI hi) (dz i) (dv i)) ∧ (∀ i, i < 12 → zRf (iDes cI hi) (cz i) (cv i)) ∧ zRf (iJoint cI hi) jz jv) ∧
    (zAr X hm cI 9999 bz (bo.map .inl) ∧ zAr X hm cJ 1000 hz (hg.map .inr) ∧ zAr X hm cJ 1000 lz (lw.map .inr) ∧ ∀ a, hz = some a → lz ≠ some a) ∧
    ((cB ≠ cI ∧ vb ≠ l1) ∧ ¬ X al ∧ ¬ X l1 ∧ ¬ X l2 ∧ ¬ X l3 ∧ ¬ X l4 ∧ ¬ X l5 ∧ ¬ X vb ∧ ∀ q, X q → hm q ≠ none)
/-- what is not the class's own stays -/
def lFr (X : Nat → Prop) (hm hm' : zHp) : Prop := ∀ q, X q → hm' q = hm q
theorem lFr.rf {X : Nat → Prop} {hm : zHp} : lFr X hm hm := fun _ _ => rfl
theorem lFr.tr {X : Nat → Prop} {h1 h2 h3 : zHp} (x : lFr X h1 h2) (z : lFr X h2 h3) : lFr X h1 h3 := fun q n => (z q n).trans (x q n)
theorem zUne {hm : zHp} {a q : Nat} {e e0 e1 : va_E} (ha : hm a = some e0) (hq : hm q = some e1) (hne : e0 ≠ e1) : va_up hm a (some e) q = some e1 := by
  unfold va_up
  have : q ≠ a := fun z => by subst z; rw [ha] at hq; exact hne (Option.some.inj hq)
  rw [if_neg this]; exact hq
theorem zneC {c c' : ClassId} {x x' : vp_A} (h : c ≠ c') : (Sum.inl (c, x) : va_E) ≠ Sum.inl (c', x') := by
  intro z
  injection z with z
  injection z with z1 z2
  exact h z1
theorem zneS {c c' : ClassId} {n n' : Nat} {f : (Nat → Int64) ⊕ (Nat → UInt32) ⊕ (Nat → UInt64) ⊕ (Nat → Option Nat)} {g : Nat → Int32} : (Sum.inl (c, n, Sum.inr f) : va_E) ≠ Sum.inl (c', n', Sum.inl g) := by
  intro z
  injection z with z
  injection z with z1 z2
  injection z2 with z3 z4
  cases z4
theorem zUn {hm : zHp} {a q : Nat} {e : va_E} {v : Option va_E} (n : q ≠ a) (hq : hm q = v) : va_up hm a (some e) q = v := by unfold va_up; rw [if_neg n]; exact hq
theorem zUe {hm : zHp} {a : Nat} {e : va_E} : va_up hm a (some e) a = some e := by simp [va_up]
theorem zAr.keep {X : Nat → Prop} {hm hm' : zHp} {c : ClassId} {n : Nat} {r : Option Nat} {f : Option ((Nat → Int32) ⊕ (Nat → Int64))} (h : zAr X hm c n r f) (hk : ∀ a x, hm a = some (.inl (c, n, x)) → hm' a = some (.inl (c, n, x))) : zAr X hm' c n r f := by
  rcases h with h | ⟨a, g, h1, h2, h3, h4⟩ | ⟨a, g, h1, h2, h3, h4⟩
  · exact Or.inl h
  · exact Or.inr (Or.inl ⟨a, g, h1, h2, hk _ _ h3, h4⟩)
  · exact Or.inr (Or.inr ⟨a, g, h1, h2, hk _ _ h3, h4⟩)
section LWS
variable {X : Nat → Prop} {cB cI cJ cD : ClassId} {al l1 l2 l3 l4 l5 : Nat} {A A' tp : Nat → Int32} {dv : Nat → Option vDes} {cs : Nat → Int32} {cv : Nat → Option vDes} {jv : Option vJoint} {bo : Option (Nat → Int32)} {hg lw : Option (Nat → Int64)} {sb : vSB} {hi hi' hm : zHp}
theorem lW.ld (h : lW X cB cI cJ cD al l1 l2 l3 l4 l5 A tp dv cs cv jv bo hg lw sb hi hm) : iLD cI cD hi hm al dv := by
  obtain ⟨dz, cz, jz, bz, hz, lz, vb, ⟨h1, h2, h3, h4, h5, h6, h7⟩, ⟨r1, r2, r3⟩, -, -⟩ := h
  exact ⟨_, _, _, _, l2, _, dz, rfl, h1, h3, r1⟩
theorem lW.mono (x : zX hi hi') (h : lW X cB cI cJ cD al l1 l2 l3 l4 l5 A tp dv cs cv jv bo hg lw sb hi hm) : lW X cB cI cJ cD al l1 l2 l3 l4 l5 A tp dv cs cv jv bo hg lw sb hi' hm := by
  obtain ⟨dz, cz, jz, bz, hz, lz, vb, c, ⟨r1, r2, r3⟩, a, o⟩ := h
  exact ⟨dz, cz, jz, bz, hz, lz, vb, c, ⟨fun i hi => (r1 i hi).mono (fun a z h => h.mono x), fun i hi => (r2 i hi).mono (fun a z h => h.mono x), r3.mono (fun a z h => h.mono x)⟩, a, o⟩
/-- the object's own cell gets other ints -/
theorem lW.putA (h : lW X cB cI cJ cD al l1 l2 l3 l4 l5 A tp dv cs cv jv bo hg lw sb hi hm) : ∃ (fs : List Value), fs.length = 14 ∧ hm al = some (.inr (11, fs)) ∧ fs[1]? = some (.int (A 1)) ∧ fs[2]? = some (.int (A 2)) ∧ fs[3]? = some (.int (A 3)) ∧ fs[7]? = some (.int (A 7)) ∧ fs[8]? = some (.int (A 8)) ∧ fs[0]? = some (.ref l1) ∧ fs[4]? = some (.ref l2) ∧ fs[5]? = some (.ref l3) ∧ fs[6]? = some (.ref l4) ∧ fs[9]? = some (.ref l5) ∧
    ∀ k x, (k = 1 ∨ k = 2 ∨ k = 3 ∨ k = 7 ∨ k = 8) → lW X cB cI cJ cD al l1 l2 l3 l4 l5 (upd A k x) tp dv cs cv jv bo hg lw sb hi (va_up hm al (some (.inr (11, fs.set k (.int x))))) ∧ lFr X hm (va_up hm al (some (.inr (11, fs.set k (.int x))))) := by
  obtain ⟨dz, cz, jz, bz, hz, lz, vb, ⟨h1, h2, h3, h4, h5, h6, h7⟩, r, ⟨a1, a2, a3, a4⟩, ⟨o1, o2, o3, o4, o5, o6, o7, o8, o9⟩⟩ := h
  refine ⟨_, rfl, h1, rfl, rfl, rfl, rfl, rfl, rfl, rfl, rfl, rfl, rfl, fun k x hk => ?_⟩
  have hset : (lFs l1 l2 l3 l4 l5 A jz bz hz lz).set k (.int x) = lFs l1 l2 l3 l4 l5 (upd A k x) jz bz hz lz := by
    rcases hk with rfl | rfl | rfl | rfl | rfl <;> rfl
  rw [hset]
  have nal : ∀ q, X q → q ≠ al := fun q hq z => o2 (z ▸ hq)
  refine ⟨⟨dz, cz, jz, bz, hz, lz, vb, ⟨zUe, zUne h1 h2 (by intro z; cases z), zUne h1 h3 (by intro z; cases z), zUne h1 h4 (by intro z; cases z), zUne h1 h5 (by intro z; cases z), zUne h1 h6 (by intro z; cases z), zUne h1 h7 (by intro z; cases z)⟩, r, ⟨a1.keep (fun a x h => zUne h1 h (by intro z; cases z)), a2.keep (fun a x h => zUne h1 h (by intro z; cases z)), a3.keep (fun a x h => zUne h1 h (by intro z; cases z)), a4⟩, ⟨o1, o2, o3, o4, o5, o6, o7, o8, fun q hq => by rw [zUn (nal q hq) rfl]; exact o9 q hq⟩⟩, fun q hq => zUn (nal q hq) rfl⟩
/-- the tape -/
theorem lW.putT (h : lW X cB cI cJ cD al l1 l2 l3 l4 l5 A tp dv cs cv jv bo hg lw sb hi hm) (f : Nat → Int32) : hm l1 = some (.inl (cB, 800, .inl tp)) ∧ lW X cB cI cJ cD al l1 l2 l3 l4 l5 A f dv cs cv jv bo hg lw sb hi (va_up hm l1 (some (.inl (cB, 800, .inl f)))) ∧ lFr X hm (va_up hm l1 (some (.inl (cB, 800, .inl f)))) := by
  obtain ⟨dz, cz, jz, bz, hz, lz, vb, ⟨h1, h2, h3, h4, h5, h6, h7⟩, r, ⟨a1, a2, a3, a4⟩, ⟨o1, o2, o3, o4, o5, o6, o7, o8, o9⟩⟩ := h
  have nal : ∀ q, X q → q ≠ l1 := fun q hq z => o3 (z ▸ hq)
  exact ⟨h2, ⟨dz, cz, jz, bz, hz, lz, vb, ⟨zUne h2 h1 (by intro z; cases z), zUe, zUne h2 h3 (by intro z; cases z), zUne h2 h4 (by intro z; cases z), zUne h2 h5 (by intro z; cases z), zUne h2 h6 (by intro z; cases z), zUn o1.2 h7⟩, r, ⟨a1.keep (fun a x h => zUne h2 h (zneC o1.1)), a2.keep (fun a x h => zUne h2 h (by intro z; cases z)), a3.keep (fun a x h => zUne h2 h (by intro z; cases z)), a4⟩, ⟨o1, o2, o3, o4, o5, o6, o7, o8, fun q hq => by rw [zUn (nal q hq) rfl]; exact o9 q hq⟩⟩, fun q hq => zUn (nal q hq) rfl⟩
/-- the slots of the designs -/
theorem lW.putD (h : lW X cB cI cJ cD al l1 l2 l3 l4 l5 A tp dv cs cv jv bo hg lw sb hi hm) : ∃ dz, hm l2 = some (.inl (cD, 6, .inr (.inr (.inr (.inr dz))))) ∧ (∀ i, i < 6 → zRf (iDes cI hi) (dz i) (dv i)) ∧ ∀ i r v, i < 6 → zRf (iDes cI hi) r v → lW X cB cI cJ cD al l1 l2 l3 l4 l5 A tp (va_up dv i v) cs cv jv bo hg lw sb hi (va_up hm l2 (some (.inl (cD, 6, .inr (.inr (.inr (.inr (va_up dz i r)))))))) ∧ lFr X hm (va_up hm l2 (some (.inl (cD, 6, .inr (.inr (.inr (.inr (va_up dz i r)))))))) := by
  obtain ⟨dz, cz, jz, bz, hz, lz, vb, ⟨h1, h2, h3, h4, h5, h6, h7⟩, ⟨r1, r2, r3⟩, ⟨a1, a2, a3, a4⟩, ⟨o1, o2, o3, o4, o5, o6, o7, o8, o9⟩⟩ := h
  have nal : ∀ q, X q → q ≠ l2 := fun q hq z => o4 (z ▸ hq)
  refine ⟨dz, h3, r1, fun i r v hi6 hr => ⟨⟨va_up dz i r, cz, jz, bz, hz, lz, vb, ⟨zUne h3 h1 (by intro z; cases z), zUne h3 h2 (by intro z; cases z), zUe, zUne h3 h4 (by intro z; cases z), zUne h3 h5 (by intro z; cases z), zUne h3 h6 (by intro z; cases z), zUne h3 h7 zneS⟩, ⟨fun j hj => ?_, r2, r3⟩, ⟨a1.keep (fun a x h => zUne h3 h (by intro z; cases z)), a2.keep (fun a x h => zUne h3 h (by intro z; cases z)), a3.keep (fun a x h => zUne h3 h (by intro z; cases z)), a4⟩, ⟨o1, o2, o3, o4, o5, o6, o7, o8, fun q hq => by rw [zUn (nal q hq) rfl]; exact o9 q hq⟩⟩, fun q hq => zUn (nal q hq) rfl⟩⟩
  unfold va_up
  by_cases e : j = i
  · rw [if_pos e, if_pos e]; exact hr
  · rw [if_neg e, if_neg e]; exact r1 j hj
/-- the slots of the changes -/
theorem lW.putC (h : lW X cB cI cJ cD al l1 l2 l3 l4 l5 A tp dv cs cv jv bo hg lw sb hi hm) (f : Nat → Int32) : hm l3 = some (.inl (cI, 12, .inl cs)) ∧ lW X cB cI cJ cD al l1 l2 l3 l4 l5 A tp dv f cv jv bo hg lw sb hi (va_up hm l3 (some (.inl (cI, 12, .inl f)))) ∧ lFr X hm (va_up hm l3 (some (.inl (cI, 12, .inl f)))) := by
  obtain ⟨dz, cz, jz, bz, hz, lz, vb, ⟨h1, h2, h3, h4, h5, h6, h7⟩, r, ⟨a1, a2, a3, a4⟩, ⟨o1, o2, o3, o4, o5, o6, o7, o8, o9⟩⟩ := h
  have nal : ∀ q, X q → q ≠ l3 := fun q hq z => o5 (z ▸ hq)
  exact ⟨h4, ⟨dz, cz, jz, bz, hz, lz, vb, ⟨zUne h4 h1 (by intro z; cases z), zUne h4 h2 (by intro z; cases z), zUne h4 h3 (by intro z; cases z), zUe, zUne h4 h5 (by intro z; cases z), zUne h4 h6 (by intro z; cases z), zUne h4 h7 (zneC o1.1.symm)⟩, r, ⟨a1.keep (fun a x h => zUne h4 h (by intro z; cases z)), a2.keep (fun a x h => zUne h4 h (by intro z; cases z)), a3.keep (fun a x h => zUne h4 h (by intro z; cases z)), a4⟩, ⟨o1, o2, o3, o4, o5, o6, o7, o8, fun q hq => by rw [zUn (nal q hq) rfl]; exact o9 q hq⟩⟩, fun q hq => zUn (nal q hq) rfl⟩
/-- the designs that changes put aside -/
theorem lW.putV (h : lW X cB cI cJ cD al l1 l2 l3 l4 l5 A tp dv cs cv jv bo hg lw sb hi hm) : ∃ cz, hm l4 = some (.inl (cD, 12, .inr (.inr (.inr (.inr cz))))) ∧ (∀ i, i < 12 → zRf (iDes cI hi) (cz i) (cv i)) ∧ ∀ i r v, i < 12 → zRf (iDes cI hi) r v → lW X cB cI cJ cD al l1 l2 l3 l4 l5 A tp dv cs (va_up cv i v) jv bo hg lw sb hi (va_up hm l4 (some (.inl (cD, 12, .inr (.inr (.inr (.inr (va_up cz i r)))))))) ∧ lFr X hm (va_up hm l4 (some (.inl (cD, 12, .inr (.inr (.inr (.inr (va_up cz i r)))))))) := by
  obtain ⟨dz, cz, jz, bz, hz, lz, vb, ⟨h1, h2, h3, h4, h5, h6, h7⟩, ⟨r1, r2, r3⟩, ⟨a1, a2, a3, a4⟩, ⟨o1, o2, o3, o4, o5, o6, o7, o8, o9⟩⟩ := h
  have nal : ∀ q, X q → q ≠ l4 := fun q hq z => o6 (z ▸ hq)
  refine ⟨cz, h5, r2, fun i r v hi6 hr => ⟨⟨dz, va_up cz i r, jz, bz, hz, lz, vb, ⟨zUne h5 h1 (by intro z; cases z), zUne h5 h2 (by intro z; cases z), zUne h5 h3 (by intro z; cases z), zUne h5 h4 (by intro z; cases z), zUe, zUne h5 h6 (by intro z; cases z), zUne h5 h7 zneS⟩, ⟨r1, fun j hj => ?_, r3⟩, ⟨a1.keep (fun a x h => zUne h5 h (by intro z; cases z)), a2.keep (fun a x h => zUne h5 h (by intro z; cases z)), a3.keep (fun a x h => zUne h5 h (by intro z; cases z)), a4⟩, ⟨o1, o2, o3, o4, o5, o6, o7, o8, fun q hq => by rw [zUn (nal q hq) rfl]; exact o9 q hq⟩⟩, fun q hq => zUn (nal q hq) rfl⟩⟩
  unfold va_up
  by_cases e : j = i
  · rw [if_pos e, if_pos e]; exact hr
  · rw [if_neg e, if_neg e]; exact r2 j hj
/-- what is joined -/
theorem lW.putJ (h : lW X cB cI cJ cD al l1 l2 l3 l4 l5 A tp dv cs cv jv bo hg lw sb hi hm) : ∃ (fs : List Value) (jz : Option Nat), fs.length = 14 ∧ hm al = some (.inr (11, fs)) ∧ fs[10]? = some (va_rf jz) ∧ zRf (iJoint cI hi) jz jv ∧
    ∀ a v, iJoint cI hi a v → lW X cB cI cJ cD al l1 l2 l3 l4 l5 A tp dv cs cv (some v) bo hg lw sb hi (va_up hm al (some (.inr (11, fs.set 10 (.ref a))))) ∧ lFr X hm (va_up hm al (some (.inr (11, fs.set 10 (.ref a))))) := by
  obtain ⟨dz, cz, jz, bz, hz, lz, vb, ⟨h1, h2, h3, h4, h5, h6, h7⟩, ⟨r1, r2, r3⟩, ⟨a1, a2, a3, a4⟩, ⟨o1, o2, o3, o4, o5, o6, o7, o8, o9⟩⟩ := h
  refine ⟨_, jz, rfl, h1, rfl, r3, fun a v hj => ?_⟩
  have nal : ∀ q, X q → q ≠ al := fun q hq z => o2 (z ▸ hq)
  refine ⟨⟨dz, cz, some a, bz, hz, lz, vb, ⟨zUe, zUne h1 h2 (by intro z; cases z), zUne h1 h3 (by intro z; cases z), zUne h1 h4 (by intro z; cases z), zUne h1 h5 (by intro z; cases z), zUne h1 h6 (by intro z; cases z), zUne h1 h7 (by intro z; cases z)⟩, ⟨r1, r2, Or.inr ⟨a, v, rfl, rfl, hj⟩⟩, ⟨a1.keep (fun a x h => zUne h1 h (by intro z; cases z)), a2.keep (fun a x h => zUne h1 h (by intro z; cases z)), a3.keep (fun a x h => zUne h1 h (by intro z; cases z)), a4⟩, ⟨o1, o2, o3, o4, o5, o6, o7, o8, fun q hq => by rw [zUn (nal q hq) rfl]; exact o9 q hq⟩⟩, fun q hq => zUn (nal q hq) rfl⟩
end LWS
section LRW
variable {s0 : State} {D : va_G} {X : Nat → Prop} {cB cI cJ cD : ClassId} {al l1 l2 l3 l4 l5 : Nat} {A A' tp : Nat → Int32} {dv : Nat → Option vDes} {cs : Nat → Int32} {cv : Nat → Option vDes} {jv : Option vJoint} {bo : Option (Nat → Int32)} {hg lw : Option (Nat → Int64)} {sb : vSB}
variable {y : MethodName} {cc : ByteArray} {nL : Nat} {ret : Option FieldType} {rF rL mc ms pc : Nat} {lo : List (Nat × Value)} {st : List Value} {hi hm : zHp} {nx : Nat} {Q : Option Value → zHp → zHp → Nat → Prop} {idx k : Nat}
theorem l_get {v : Value} (hW : lW X cB cI cJ cD al l1 l2 l3 l4 l5 A tp dv cs cv jv bo hg lw sb hi hm) (hk : k < 14) (hlink : Cond.fieldLink y.cls idx (TX11 k).1 (TX11 k).2.1 (TX11 k).2.2.1 ∈ zT) (hv : ∀ jz bz hz lz, (lFs l1 l2 l3 l4 l5 A jz bz hz lz)[k]? = some v) (hd : decode cc pc = .ok (.getfield idx, 3))
    (kk : zV s0 D (zty cB cI cJ cD) y cc nL ret rF rL mc ms (pc + 3) lo (v :: st) hi hm nx Q) : zV s0 D (zty cB cI cJ cD) y cc nL ret rF rL mc ms pc lo (.ref al :: st) hi hm nx Q := by
  obtain ⟨dz, cz, jz, bz, hz, lz, vb, ⟨h1, -⟩, -⟩ := hW
  exact zV_get (Or.inr h1) rfl z_in11 hk hlink (hv jz bz hz lz) hd kk
theorem l_putI {x : Int32} (hW : lW X cB cI cJ cD al l1 l2 l3 l4 l5 A tp dv cs cv jv bo hg lw sb hi hm) (hk : k = 1 ∨ k = 2 ∨ k = 3 ∨ k = 7 ∨ k = 8) (hlink : Cond.fieldLink y.cls idx (TX11 k).1 (TX11 k).2.1 (TX11 k).2.2.1 ∈ zT) (hd : decode cc pc = .ok (.putfield idx, 3))
    (kk : ∀ hm', lW X cB cI cJ cD al l1 l2 l3 l4 l5 (upd A k x) tp dv cs cv jv bo hg lw sb hi hm' → lFr X hm hm' → zV s0 D (zty cB cI cJ cD) y cc nL ret rF rL mc ms (pc + 3) lo st hi hm' nx Q) : zV s0 D (zty cB cI cJ cD) y cc nL ret rF rL mc ms pc lo (.int x :: .ref al :: st) hi hm nx Q := by
  obtain ⟨fs, hlen, h1, -, -, -, -, -, -, -, -, -, -, hp⟩ := hW.putA
  obtain ⟨g1, g2⟩ := hp k x hk
  have hk14 : k < 14 := by omega
  refine zV_put tyX11 h1 rfl z_in11 tyX11_ok nmX11 hk14 hlink ?_ rfl ?_ ?_ (by omega) hd (kk _ g1 g2)
  · rcases hk with rfl | rfl | rfl | rfl | rfl <;> rfl
  · rcases hk with rfl | rfl | rfl | rfl | rfl <;> rfl
  · rcases hk with rfl | rfl | rfl | rfl | rfl <;> rfl
theorem l_tst {i x : Int32} (hW : lW X cB cI cJ cD al l1 l2 l3 l4 l5 A tp dv cs cv jv bo hg lw sb hi hm) (hin : zin i 800 = true) (hd : decode cc pc = .ok (.bastore, 1))
    (kk : ∀ hm', lW X cB cI cJ cD al l1 l2 l3 l4 l5 A (upd tp i.toNatClampNeg (vp_nar .byte x)) dv cs cv jv bo hg lw sb hi hm' → lFr X hm hm' → zV s0 D (zty cB cI cJ cD) y cc nL ret rF rL mc ms (pc + 1) lo st hi hm' nx Q) : zV s0 D (zty cB cI cJ cD) y cc nL ret rF rL mc ms pc lo (.int x :: .int i :: .ref l1 :: st) hi hm nx Q := by
  obtain ⟨h1, g1, g2⟩ := hW.putT (upd tp i.toNatClampNeg (vp_nar .byte x))
  exact zV_bast 0 h1 rfl (zin_in hin) hd (kk _ g1 g2)
theorem l_cld {i : Int32} (hW : lW X cB cI cJ cD al l1 l2 l3 l4 l5 A tp dv cs cv jv bo hg lw sb hi hm) (hin : zin i 12 = true) (hd : decode cc pc = .ok (.iaload, 1))
    (kk : zV s0 D (zty cB cI cJ cD) y cc nL ret rF rL mc ms (pc + 1) lo (.int (cs i.toNatClampNeg) :: st) hi hm nx Q) : zV s0 D (zty cB cI cJ cD) y cc nL ret rF rL mc ms pc lo (.int i :: .ref l3 :: st) hi hm nx Q := zV_iald 1 (Or.inr (hW.putC cs).1) rfl (zin_in hin) hd kk
theorem l_cst {i x : Int32} (hW : lW X cB cI cJ cD al l1 l2 l3 l4 l5 A tp dv cs cv jv bo hg lw sb hi hm) (hin : zin i 12 = true) (hd : decode cc pc = .ok (.iastore, 1))
    (kk : ∀ hm', lW X cB cI cJ cD al l1 l2 l3 l4 l5 A tp dv (upd cs i.toNatClampNeg x) cv jv bo hg lw sb hi hm' → lFr X hm hm' → zV s0 D (zty cB cI cJ cD) y cc nL ret rF rL mc ms (pc + 1) lo st hi hm' nx Q) : zV s0 D (zty cB cI cJ cD) y cc nL ret rF rL mc ms pc lo (.int x :: .int i :: .ref l3 :: st) hi hm nx Q := by
  obtain ⟨h1, g1, g2⟩ := hW.putC (upd cs i.toNatClampNeg x)
  exact zV_iast 1 h1 rfl (zin_in hin) hd (kk _ g1 g2)
theorem zin_lt {i : Int32} {n : Nat} (h : zin i n = true) : i.toNatClampNeg < n := by
  simp only [zin, Bool.and_eq_true, decide_eq_true_eq] at h
  exact h.2
theorem l_dld {i : Int32} (hW : lW X cB cI cJ cD al l1 l2 l3 l4 l5 A tp dv cs cv jv bo hg lw sb hi hm) (hin : zin i 6 = true) (hd : decode cc pc = .ok (.aaload, 1))
    (kn : dv i.toNatClampNeg = none → zV s0 D (zty cB cI cJ cD) y cc nL ret rF rL mc ms (pc + 1) lo (.null :: st) hi hm nx Q) (ks : ∀ a z, dv i.toNatClampNeg = some z → iDes cI hi a z → zV s0 D (zty cB cI cJ cD) y cc nL ret rF rL mc ms (pc + 1) lo (.ref a :: st) hi hm nx Q) : zV s0 D (zty cB cI cJ cD) y cc nL ret rF rL mc ms pc lo (.int i :: .ref l2 :: st) hi hm nx Q := by
  obtain ⟨dz, h1, h2, -⟩ := hW.putD
  refine zV_aald (C := RX0) 3 (Or.inr h1) rfl (zin_in hin) hd ?_
  rcases h2 _ (zin_lt hin) with ⟨e1, e2⟩ | ⟨a, z, e1, e2, e3⟩
  · rw [e1]; exact kn e2
  · rw [e1]; exact ks a z e2 e3
theorem l_vld {i : Int32} (hW : lW X cB cI cJ cD al l1 l2 l3 l4 l5 A tp dv cs cv jv bo hg lw sb hi hm) (hin : zin i 12 = true) (hd : decode cc pc = .ok (.aaload, 1))
    (kn : cv i.toNatClampNeg = none → zV s0 D (zty cB cI cJ cD) y cc nL ret rF rL mc ms (pc + 1) lo (.null :: st) hi hm nx Q) (ks : ∀ a z, cv i.toNatClampNeg = some z → iDes cI hi a z → zV s0 D (zty cB cI cJ cD) y cc nL ret rF rL mc ms (pc + 1) lo (.ref a :: st) hi hm nx Q) : zV s0 D (zty cB cI cJ cD) y cc nL ret rF rL mc ms pc lo (.int i :: .ref l4 :: st) hi hm nx Q := by
  obtain ⟨dz, h1, h2, -⟩ := hW.putV
  refine zV_aald (C := RX0) 3 (Or.inr h1) rfl (zin_in hin) hd ?_
  rcases h2 _ (zin_lt hin) with ⟨e1, e2⟩ | ⟨a, z, e1, e2, e3⟩
  · rw [e1]; exact kn e2
  · rw [e1]; exact ks a z e2 e3
theorem l_dstN {i : Int32} (hW : lW X cB cI cJ cD al l1 l2 l3 l4 l5 A tp dv cs cv jv bo hg lw sb hi hm) (hin : zin i 6 = true) (hd : decode cc pc = .ok (.aastore, 1))
    (kk : ∀ hm', lW X cB cI cJ cD al l1 l2 l3 l4 l5 A tp (va_up dv i.toNatClampNeg none) cs cv jv bo hg lw sb hi hm' → lFr X hm hm' → zV s0 D (zty cB cI cJ cD) y cc nL ret rF rL mc ms (pc + 1) lo st hi hm' nx Q) : zV s0 D (zty cB cI cJ cD) y cc nL ret rF rL mc ms pc lo (.null :: .int i :: .ref l2 :: st) hi hm nx Q := by
  obtain ⟨dz, h1, h2, h3⟩ := hW.putD
  obtain ⟨g1, g2⟩ := h3 i.toNatClampNeg none none (zin_lt hin) (Or.inl ⟨rfl, rfl⟩)
  exact zV_aastN (C := RX0) 3 h1 rfl (zin_in hin) hd (kk _ g1 g2)
theorem l_dst {i : Int32} {a : Nat} {z : vDes} (hW : lW X cB cI cJ cD al l1 l2 l3 l4 l5 A tp dv cs cv jv bo hg lw sb hi hm) (ho : iDes cI hi a z) (hin : zin i 6 = true) (hd : decode cc pc = .ok (.aastore, 1))
    (kk : ∀ hm', lW X cB cI cJ cD al l1 l2 l3 l4 l5 A tp (va_up dv i.toNatClampNeg (some z)) cs cv jv bo hg lw sb hi hm' → lFr X hm hm' → zV s0 D (zty cB cI cJ cD) y cc nL ret rF rL mc ms (pc + 1) lo st hi hm' nx Q) : zV s0 D (zty cB cI cJ cD) y cc nL ret rF rL mc ms pc lo (.ref a :: .int i :: .ref l2 :: st) hi hm nx Q := by
  obtain ⟨dz, h1, h2, h3⟩ := hW.putD
  obtain ⟨g1, g2⟩ := h3 i.toNatClampNeg (some a) (some z) (zin_lt hin) (Or.inr ⟨a, z, rfl, rfl, ho⟩)
  obtain ⟨b, c, d, hc, -⟩ := ho
  exact zV_aast (ci := 0) (r := (RX0, TX0, 3)) 3 h1 rfl (Or.inl hc) rfl (zin_in hin) hd (kk _ g1 g2)
theorem l_vstN {i : Int32} (hW : lW X cB cI cJ cD al l1 l2 l3 l4 l5 A tp dv cs cv jv bo hg lw sb hi hm) (hin : zin i 12 = true) (hd : decode cc pc = .ok (.aastore, 1))
    (kk : ∀ hm', lW X cB cI cJ cD al l1 l2 l3 l4 l5 A tp dv cs (va_up cv i.toNatClampNeg none) jv bo hg lw sb hi hm' → lFr X hm hm' → zV s0 D (zty cB cI cJ cD) y cc nL ret rF rL mc ms (pc + 1) lo st hi hm' nx Q) : zV s0 D (zty cB cI cJ cD) y cc nL ret rF rL mc ms pc lo (.null :: .int i :: .ref l4 :: st) hi hm nx Q := by
  obtain ⟨dz, h1, h2, h3⟩ := hW.putV
  obtain ⟨g1, g2⟩ := h3 i.toNatClampNeg none none (zin_lt hin) (Or.inl ⟨rfl, rfl⟩)
  exact zV_aastN (C := RX0) 3 h1 rfl (zin_in hin) hd (kk _ g1 g2)
theorem l_vst {i : Int32} {a : Nat} {z : vDes} (hW : lW X cB cI cJ cD al l1 l2 l3 l4 l5 A tp dv cs cv jv bo hg lw sb hi hm) (ho : iDes cI hi a z) (hin : zin i 12 = true) (hd : decode cc pc = .ok (.aastore, 1))
    (kk : ∀ hm', lW X cB cI cJ cD al l1 l2 l3 l4 l5 A tp dv cs (va_up cv i.toNatClampNeg (some z)) jv bo hg lw sb hi hm' → lFr X hm hm' → zV s0 D (zty cB cI cJ cD) y cc nL ret rF rL mc ms (pc + 1) lo st hi hm' nx Q) : zV s0 D (zty cB cI cJ cD) y cc nL ret rF rL mc ms pc lo (.ref a :: .int i :: .ref l4 :: st) hi hm nx Q := by
  obtain ⟨dz, h1, h2, h3⟩ := hW.putV
  obtain ⟨g1, g2⟩ := h3 i.toNatClampNeg (some a) (some z) (zin_lt hin) (Or.inr ⟨a, z, rfl, rfl, ho⟩)
  obtain ⟨b, c, d, hc, -⟩ := ho
  exact zV_aast (ci := 0) (r := (RX0, TX0, 3)) 3 h1 rfl (Or.inl hc) rfl (zin_in hin) hd (kk _ g1 g2)
variable {y2 : MethodName} {cc2 : ByteArray} {nL2 : Nat} {ret2 : Option FieldType} {rF2 rL2 mc2 ms2 n : Nat} {As rest : List Value} {v : Option Value} {tp' cs' : Nat → Int32} {dv' cv' : Nat → Option vDes} {jv' : Option vJoint} {bo' : Option (Nat → Int32)} {hg' lw' : Option (Nat → Int64)} {sb' : vSB}
/-- a call of a method of the class's own object -/
theorem l_call (hW : lW X cB cI cJ cD al l1 l2 l3 l4 l5 A tp dv cs cv jv bo hg lw sb hi hm) (hM : ∀ Q2 : Option Value → zHp → zHp → Nat → Prop, (∀ hi' hm' nx', zX hi hi' → lW X cB cI cJ cD al l1 l2 l3 l4 l5 A' tp' dv' cs' cv' jv' bo' hg' lw' sb' hi' hm' → lFr X hm hm' → Q2 v hi' hm' nx') → zM s0 D (zty cB cI cJ cD) y2 cc2 nL2 ret2 rF2 rL2 mc2 ms2 (.ref al :: As) hi hm nx Q2) (O : zO y2 cc2 nL2 ret2 n) (hc : RX11 = y2.cls) (hlink : Cond.methodLink y.cls idx y2 ∈ zT) (hinst : Cond.instanceMethod y2 ∈ zT) (hsel : Cond.selects y2.cls y2 y2 ∈ zT) (hn : As.length = n) (hst : st = As.reverse ++ .ref al :: rest) (hrest : (rest.map fun v => v.category).sum ≤ 8) (hR : rF2 + 1 ≤ rF ∧ 8 + (nL2 + 11) + rL2 ≤ rL) (hd : decode cc pc = .ok (.invokevirtual idx, 3))
    (kk : ∀ hi' hm' nx', zX hi hi' → lW X cB cI cJ cD al l1 l2 l3 l4 l5 A' tp' dv' cs' cv' jv' bo' hg' lw' sb' hi' hm' → lFr X hm hm' → zV s0 D (zty cB cI cJ cD) y cc nL ret rF rL mc ms (pc + 3) lo (v.toList ++ rest) hi' hm' nx' Q) : zV s0 D (zty cB cI cJ cD) y cc nL ret rF rL (mc + mc2) (ms + ms2) pc lo st hi hm nx Q := by
  obtain ⟨fs, hlen, h1, -⟩ := hW.putA
  refine zV_callV (hM (fun v' hi' hm' nx' => v' = v ∧ zX hi hi' ∧ lW X cB cI cJ cD al l1 l2 l3 l4 l5 A' tp' dv' cs' cv' jv' bo' hg' lw' sb' hi' hm' ∧ lFr X hm hm') (fun hi' hm' nx' g1 g2 g3 => ⟨rfl, g1, g2, g3⟩)) O (Or.inr h1) (T := TX11) (N := 14) (by rw [← hc]; rfl) hlink hinst hsel hn hst hrest hR ⟨Nat.le_add_left _ _, Nat.le_add_left _ _⟩ hd ?_
  rintro v' hi' hm' nx' ⟨rfl, g1, g2, g3⟩
  exact zV_less (by omega) (by omega) (kk hi' hm' nx' g1 g2 g3)
end LRW
theorem zEv_e {α : Type} {v : vLaw} {e : vEven} {f : vEven → Option α} {g : Option α} {r : α} (hg : v = .inr (.inl e)) (h : zEv v f g = some r) : f e = some r := by subst hg; exact h
theorem zEv_n {α : Type} {v : vLaw} {u : Unit} {f : vEven → Option α} {g : Option α} {r : α} (hg : v = .inl u) (h : zEv v f g = some r) : g = some r := by subst hg; exact h
theorem zEv_l {α : Type} {v : vLaw} {e : vArr} {f : vEven → Option α} {g : Option α} {r : α} (hg : v = .inr (.inr (.inl e))) (h : zEv v f g = some r) : g = some r := by subst hg; exact h
theorem zEv_w {α : Type} {v : vLaw} {e : vRow} {f : vEven → Option α} {g : Option α} {r : α} (hg : v = .inr (.inr (.inr e))) (h : zEv v f g = some r) : g = some r := by subst hg; exact h
section LRJ
variable {s0 : State} {D : va_G} {X : Nat → Prop} {cB cI cJ cD : ClassId} {al l1 l2 l3 l4 l5 : Nat} {A tp : Nat → Int32} {dv : Nat → Option vDes} {cs : Nat → Int32} {cv : Nat → Option vDes} {jv : Option vJoint} {bo : Option (Nat → Int32)} {hg lw : Option (Nat → Int64)} {sb : vSB}
variable {y : MethodName} {cc : ByteArray} {nL : Nat} {ret : Option FieldType} {rF rL mc ms pc : Nat} {lo : List (Nat × Value)} {st : List Value} {hi hm : zHp} {nx : Nat} {Q : Option Value → zHp → zHp → Nat → Prop} {idx : Nat}
theorem l_getJ (hW : lW X cB cI cJ cD al l1 l2 l3 l4 l5 A tp dv cs cv jv bo hg lw sb hi hm) (hlink : Cond.fieldLink y.cls idx (TX11 10).1 (TX11 10).2.1 (TX11 10).2.2.1 ∈ zT) (hd : decode cc pc = .ok (.getfield idx, 3))
    (kn : jv = none → zV s0 D (zty cB cI cJ cD) y cc nL ret rF rL mc ms (pc + 3) lo (.null :: st) hi hm nx Q) (ks : ∀ a z, jv = some z → iJoint cI hi a z → zV s0 D (zty cB cI cJ cD) y cc nL ret rF rL mc ms (pc + 3) lo (.ref a :: st) hi hm nx Q) : zV s0 D (zty cB cI cJ cD) y cc nL ret rF rL mc ms pc lo (.ref al :: st) hi hm nx Q := by
  obtain ⟨fs, jz, hlen, h1, hf, hr, -⟩ := hW.putJ
  refine zV_get (Or.inr h1) rfl z_in11 (k := 10) (by decide) hlink hf hd ?_
  rcases hr with ⟨rfl, e2⟩ | ⟨a, z, rfl, e2, e3⟩
  · exact kn e2
  · exact ks a z e2 e3
theorem l_putJ {a : Nat} {z : vJoint} (hW : lW X cB cI cJ cD al l1 l2 l3 l4 l5 A tp dv cs cv jv bo hg lw sb hi hm) (ho : iJoint cI hi a z) (hlink : Cond.fieldLink y.cls idx (TX11 10).1 (TX11 10).2.1 (TX11 10).2.2.1 ∈ zT) (hd : decode cc pc = .ok (.putfield idx, 3))
    (kk : ∀ hm', lW X cB cI cJ cD al l1 l2 l3 l4 l5 A tp dv cs cv (some z) bo hg lw sb hi hm' → lFr X hm hm' → zV s0 D (zty cB cI cJ cD) y cc nL ret rF rL mc ms (pc + 3) lo st hi hm' nx Q) : zV s0 D (zty cB cI cJ cD) y cc nL ret rF rL mc ms pc lo (.ref a :: .ref al :: st) hi hm nx Q := by
  obtain ⟨fs, jz, hlen, h1, hf, hr, hp⟩ := hW.putJ
  obtain ⟨g1, g2⟩ := hp a z ho
  exact zV_put tyX11 h1 rfl z_in11 tyX11_ok nmX11 (k := 10) (by decide) hlink rfl rfl rfl rfl (by omega) hd (kk _ g1 g2)
end LRJ
