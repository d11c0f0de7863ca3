/-! ===== a row of a method's own beside the class's object ===== -/
/-- what is foreign, and the row -/
def xA (X : Nat → Prop) (a : Nat) : Nat → Prop := fun q => X q ∨ q = a
def lA (X : Nat → Prop) (cB cI cJ cD : ClassId) (al l1 l2 l3 l4 l5 : Nat) (A tp : Nat → Int32) (dv : Nat → Option vDes) (cs : Nat → Int32) (cv : Nat → Option vDes) (jv : Option vJoint) (bo : Option (Nat → Int32)) (hg lw : Option (Nat → Int64)) (sb : vSB) (N a : Nat) (f : Nat → Int32) (hi hm : zHp) : Prop := lW (xA X a) cB cI cJ cD al l1 l2 l3 l4 l5 A tp dv cs cv jv bo hg lw sb hi hm ∧ hm a = some (.inl (cI, N, .inl f)) ∧ ¬ X a
section LAA
variable {s0 : State} {D : va_G} {X X2 : Nat → Prop} {cB cI cJ cD : ClassId} {al l1 l2 l3 l4 l5 : Nat} {A tp : Nat → Int32} {dv : Nat → Option vDes} {cs : Nat → Int32} {cv : Nat → Option vDes} {jv : Option vJoint} {bo : Option (Nat → Int32)} {hg lw : Option (Nat → Int64)} {sb : vSB}
variable {y : MethodName} {cc : ByteArray} {nL : Nat} {ret : Option FieldType} {rF rL mc ms pc : Nat} {lo : List (Nat × Value)} {st : List Value} {hi hm hm2 : zHp} {nx : Nat} {Q : Option Value → zHp → zHp → Nat → Prop} {idx N a : Nat} {f g : Nat → Int32}
theorem zAr.move {c : ClassId} {n : Nat} {r : Option Nat} {f : Option ((Nat → Int32) ⊕ (Nat → Int64))} (h : zAr X hm c n r f) (hk : ∀ a e, hm a = some e → ¬ X a → hm2 a = some e ∧ ¬ X2 a) : zAr X2 hm2 c n r f := by
  rcases h with h | ⟨a, g, h1, h2, h3, h4⟩ | ⟨a, g, h1, h2, h3, h4⟩
  · exact Or.inl h
  · exact Or.inr (Or.inl ⟨a, g, h1, h2, (hk _ _ h3 h4).1, (hk _ _ h3 h4).2⟩)
  · exact Or.inr (Or.inr ⟨a, g, h1, h2, (hk _ _ h3 h4).1, (hk _ _ h3 h4).2⟩)
theorem lW.move (h : lW X cB cI cJ cD al l1 l2 l3 l4 l5 A tp dv cs cv jv bo hg lw sb hi hm) (hk : ∀ a e, hm a = some e → ¬ X a → hm2 a = some e ∧ ¬ X2 a) (hx : ∀ q, X2 q → hm2 q ≠ none) : lW X2 cB cI cJ cD al l1 l2 l3 l4 l5 A tp dv cs cv jv bo hg lw sb hi hm2 := by
  obtain ⟨dz, cz, jz, bz, hz, lz, vb, ⟨h1, h2, h3, h4, h5, h6, h7⟩, r, ⟨a1, a2, a3, a4⟩, ⟨o1, o2, o3, o4, o5, o6, o7, o8, o9⟩⟩ := h
  exact ⟨dz, cz, jz, bz, hz, lz, vb, ⟨(hk _ _ h1 o2).1, (hk _ _ h2 o3).1, (hk _ _ h3 o4).1, (hk _ _ h4 o5).1, (hk _ _ h5 o6).1, (hk _ _ h6 o7).1, (hk _ _ h7 o8).1⟩, r, ⟨a1.move hk, a2.move hk, a3.move hk, a4⟩, ⟨o1, (hk _ _ h1 o2).2, (hk _ _ h2 o3).2, (hk _ _ h3 o4).2, (hk _ _ h4 o5).2, (hk _ _ h5 o6).2, (hk _ _ h6 o7).2, (hk _ _ h7 o8).2, hx⟩⟩
theorem lW.seen (h : lW X cB cI cJ cD al l1 l2 l3 l4 l5 A tp dv cs cv jv bo hg lw sb hi hm) : ∀ q, X q → hm q ≠ none := by
  obtain ⟨dz, cz, jz, bz, hz, lz, vb, c, r, a, ⟨o1, o2, o3, o4, o5, o6, o7, o8, o9⟩⟩ := h
  exact o9
theorem lW.newA (h : lW X cB cI cJ cD al l1 l2 l3 l4 l5 A tp dv cs cv jv bo hg lw sb hi hm) (hn : hm a = none) : lA X cB cI cJ cD al l1 l2 l3 l4 l5 A tp dv cs cv jv bo hg lw sb N a f hi (va_up hm a (some (.inl (cI, N, .inl f)))) ∧ lFr X hm (va_up hm a (some (.inl (cI, N, .inl f)))) := by
  have nX : ∀ q, X q → q ≠ a := fun q hq z => by subst z; exact h.seen q hq hn
  refine ⟨⟨h.move (fun q e hq hx => ?_) (fun q hq => ?_), zUe, fun hx => nX a hx rfl⟩, fun q hq => zUn (nX q hq) rfl⟩
  · have n : q ≠ a := fun z => by subst z; rw [hn] at hq; cases hq
    exact ⟨zUn n hq, fun z => z.elim hx n⟩
  · rcases hq with hq | rfl
    · rw [zUn (nX q hq) rfl]; exact h.seen q hq
    · rw [zUe]; exact fun z => by cases z
theorem lA.set (h : lA X cB cI cJ cD al l1 l2 l3 l4 l5 A tp dv cs cv jv bo hg lw sb N a f hi hm) : lA X cB cI cJ cD al l1 l2 l3 l4 l5 A tp dv cs cv jv bo hg lw sb N a g hi (va_up hm a (some (.inl (cI, N, .inl g)))) ∧ lFr X hm (va_up hm a (some (.inl (cI, N, .inl g)))) := by
  obtain ⟨h1, h2, h3⟩ := h
  refine ⟨⟨h1.move (fun q e hq hx => ⟨zUn (fun z => hx (Or.inr z)) hq, hx⟩) (fun q hq => ?_), zUe, h3⟩, fun q hq => zUn (fun z => h3 (z ▸ hq)) rfl⟩
  by_cases n : q = a
  · subst n; rw [zUe]; exact fun z => by cases z
  · rw [zUn n rfl]; exact h1.seen q hq
theorem lA.mono {hi' : zHp} (x : zX hi hi') (h : lA X cB cI cJ cD al l1 l2 l3 l4 l5 A tp dv cs cv jv bo hg lw sb N a f hi hm) : lA X cB cI cJ cD al l1 l2 l3 l4 l5 A tp dv cs cv jv bo hg lw sb N a f hi' hm := ⟨h.1.mono x, h.2⟩
theorem la_fr (h : lA X cB cI cJ cD al l1 l2 l3 l4 l5 A tp dv cs cv jv bo hg lw sb N a f hi hm) (kk : ∀ hi' hm', zX hi hi' → lW X cB cI cJ cD al l1 l2 l3 l4 l5 A tp dv cs cv jv bo hg lw sb hi' hm' → lFr X hm hm' → iArr cI hi' a (N, f) → zV s0 D (zty cB cI cJ cD) y cc nL ret rF rL mc ms pc lo st hi' hm' nx Q) : zV s0 D (zty cB cI cJ cD) y cc nL ret rF rL mc ms pc lo st hi hm nx Q := by
  obtain ⟨h1, h2, h3⟩ := h
  refine z_hi_none (fun hn => ?_) h2
  refine zV_world (fun H hw => hw.freeze h2) ?_
  have hX : zX hi (va_up hi a (some (.inl (cI, N, .inl f)))) := fun q e hq => zUno hn hq
  refine kk _ _ hX ((h1.mono hX).move (fun q e hq hx => ⟨?_, fun z => hx (Or.inl z)⟩) (fun q hq => ?_)) (fun q hq => ?_) zUe
  · show va_up hm a none q = some e
    unfold va_up; rw [if_neg (fun z => hx (Or.inr z))]; exact hq
  · show va_up hm a none q ≠ none
    unfold va_up; rw [if_neg (fun z : q = a => h3 (z ▸ hq))]; exact h1.seen q (Or.inl hq)
  · show va_up hm a none q = hm q
    unfold va_up; rw [if_neg (fun z : q = a => h3 (z ▸ hq))]
theorem la_new {n : Int32} (B : Nat) (hW : lW X cB cI cJ cD al l1 l2 l3 l4 l5 A tp dv cs cv jv bo hg lw sb hi hm) (harr : Cond.arrayClass .int ∈ zT) (hn : zin n (B + 1) = true) (hB : B * componentBytes .int ≤ 536870912) (hd : decode cc pc = .ok (.newarray .int, 2))
    (kk : ∀ hm' nx', lA X cB cI cJ cD al l1 l2 l3 l4 l5 A tp dv cs cv jv bo hg lw sb n.toNatClampNeg nx (fun _ => 0) hi hm' → lFr X hm hm' → zV s0 D (zty cB cI cJ cD) y cc nL ret rF rL mc ms (pc + 2) lo (.ref nx :: st) hi hm' nx' Q) : zV s0 D (zty cB cI cJ cD) y cc nL ret rF rL (mc + 1) (ms + B) pc lo (.int n :: st) hi hm nx Q := by
  simp only [zin, Bool.and_eq_true, decide_eq_true_eq] at hn
  refine zV_less (mc' := mc + 1) (ms' := (ms + (B - n.toNatClampNeg)) + n.toNatClampNeg) (Nat.le_refl _) (by omega) ?_
  refine zV_newI (n := n) (N := n.toNatClampNeg) harr (by have := hn.1; rw [Int32.not_lt]; exact this) rfl (Nat.le_trans (Nat.mul_le_mul_right _ (by omega)) hB) hd (fun _ n2 => ?_)
  obtain ⟨g1, g2⟩ := hW.newA (N := n.toNatClampNeg) (f := fun _ => 0) n2
  exact zV_less (Nat.le_refl _) (by omega) (kk _ _ g1 g2)
theorem la_st {i x : Int32} (hW : lA X cB cI cJ cD al l1 l2 l3 l4 l5 A tp dv cs cv jv bo hg lw sb N a f hi hm) (hin : zin i N = true) (hd : decode cc pc = .ok (.iastore, 1))
    (kk : ∀ hm', lA X cB cI cJ cD al l1 l2 l3 l4 l5 A tp dv cs cv jv bo hg lw sb N a (upd f i.toNatClampNeg x) hi hm' → lFr X hm hm' → zV s0 D (zty cB cI cJ cD) y cc nL ret rF rL mc ms (pc + 1) lo st hi hm' nx Q) : zV s0 D (zty cB cI cJ cD) y cc nL ret rF rL mc ms pc lo (.int x :: .int i :: .ref a :: st) hi hm nx Q := zV_iast 1 hW.2.1 rfl (zin_in hin) hd (kk _ hW.set.1 hW.set.2)
theorem la_ld {i : Int32} (hW : lA X cB cI cJ cD al l1 l2 l3 l4 l5 A tp dv cs cv jv bo hg lw sb N a f hi hm) (hin : zin i N = true) (hd : decode cc pc = .ok (.iaload, 1))
    (kk : zV s0 D (zty cB cI cJ cD) y cc nL ret rF rL mc ms (pc + 1) lo (.int (f i.toNatClampNeg) :: st) hi hm nx Q) : zV s0 D (zty cB cI cJ cD) y cc nL ret rF rL mc ms pc lo (.int i :: .ref a :: st) hi hm nx Q := zV_iald 1 (Or.inr hW.2.1) rfl (zin_in hin) hd kk
end LAA
