/-! ===== the reader among foreign cells: X is what nobody here writes; rows of its own, objects under way ===== -/
def qW (X : Nat → Prop) (cB cI : ClassId) (ar as a1 : Nat) (R : Nat → Int32) (lv : vLaw) (mo : Option vArr) (ty : vTrue) (F tp : Nat → Int32) (hi hm : zHp) : Prop :=
  rW cB cI ar as a1 R lv mo ty F tp none hi hm ∧ ¬ X ar ∧ ¬ X as ∧ ∀ q, X q → hm q ≠ none
/-- with a cell of its own beside -/
def qO (X : Nat → Prop) (cB cI : ClassId) (ar as a1 : Nat) (R : Nat → Int32) (lv : vLaw) (mo : Option vArr) (ty : vTrue) (F tp : Nat → Int32) (a : Nat) (d : va_E) (hi hm : zHp) : Prop :=
  qW (xA X a) cB cI ar as a1 R lv mo ty F tp hi hm ∧ hm a = some d ∧ ¬ X a ∧ a ≠ a1
def qA (X : Nat → Prop) (cB cI : ClassId) (ar as a1 : Nat) (R : Nat → Int32) (lv : vLaw) (mo : Option vArr) (ty : vTrue) (F tp : Nat → Int32) (N a : Nat) (f : Nat → Int32) (hi hm : zHp) : Prop :=
  qO X cB cI ar as a1 R lv mo ty F tp a (.inl (cI, N, .inl f)) hi hm
section QW
variable {s0 : State} {D : va_G} {X : Nat → Prop} {cB cI cJ cD : ClassId} {ar as a1 : Nat} {R R' : Nat → Int32} {lv lv' : vLaw} {mo mo' : Option vArr} {ty ty' : vTrue} {F F' tp : Nat → Int32}
variable {y : MethodName} {cc : ByteArray} {nL : Nat} {ret : Option FieldType} {rF rL mc ms pc : Nat} {lo : List (Nat × Value)} {st : List Value} {hi hi' hm hm' : zHp} {nx : Nat} {Q : Option Value → zHp → zHp → Nat → Prop} {idx k N a : Nat} {f g : Nat → Int32} {d d' : va_E}
theorem qW.fr (h : qW X cB cI ar as a1 R lv mo ty F tp hi hm) (hF : rFr ar as hm hm') : lFr X hm hm' := fun q hq => hF q (h.2.2.2 q hq) (fun z => h.2.1 (z ▸ hq)) (fun z => h.2.2.1 (z ▸ hq))
theorem qW.step (h : qW X cB cI ar as a1 R lv mo ty F tp hi hm) (hr : rW cB cI ar as a1 R' lv' mo' ty' F' tp none hi hm') (hF : rFr ar as hm hm') : qW X cB cI ar as a1 R' lv' mo' ty' F' tp hi hm' := ⟨hr, h.2.1, h.2.2.1, fun q hq => by rw [h.fr hF q hq]; exact h.2.2.2 q hq⟩
theorem qW.mono (x : zX hi hi') (h : qW X cB cI ar as a1 R lv mo ty F tp hi hm) : qW X cB cI ar as a1 R lv mo ty F tp hi' hm := ⟨h.1.mono x, h.2⟩
theorem qO.mono (x : zX hi hi') (h : qO X cB cI ar as a1 R lv mo ty F tp a d hi hm) : qO X cB cI ar as a1 R lv mo ty F tp a d hi' hm := ⟨h.1.mono x, h.2⟩
theorem qA.mono (x : zX hi hi') (h : qA X cB cI ar as a1 R lv mo ty F tp N a f hi hm) : qA X cB cI ar as a1 R lv mo ty F tp N a f hi' hm := qO.mono x h
/-- the same cells in another heap -/
theorem rW.same (h : rW cB cI ar as a1 R lv mo ty F tp none hi hm) (h1 : hm' ar = hm ar) (h2 : hm' as = hm as) (h3 : hm' a1 = hm a1) : rW cB cI ar as a1 R lv mo ty F tp none hi hm' := by
  obtain ⟨la, ta, mz, ⟨c1, c2, c3⟩, i, r⟩ := h
  exact ⟨la, ta, mz, ⟨h1.trans c1, h2.trans c2, h3.trans c3⟩, i, trivial⟩
theorem rW.known (h : rW cB cI ar as a1 R lv mo ty F tp none hi hm) : hm ar ≠ none ∧ hm as ≠ none ∧ hm a1 ≠ none := by
  obtain ⟨la, ta, mz, ⟨c1, c2, c3⟩, i, r⟩ := h
  rw [c1, c2, c3]
  exact ⟨by simp, by simp, by simp⟩
theorem qW.newO (h : qW X cB cI ar as a1 R lv mo ty F tp hi hm) (hn : hm a = none) : qO X cB cI ar as a1 R lv mo ty F tp a d hi (va_up hm a (some d)) ∧ lFr X hm (va_up hm a (some d)) := by
  obtain ⟨h1, h2, h3, h4⟩ := h
  obtain ⟨k1, k2, k3⟩ := h1.known
  have n1 : ar ≠ a := fun z => by subst z; exact k1 hn
  have n2 : as ≠ a := fun z => by subst z; exact k2 hn
  have n3 : a1 ≠ a := fun z => by subst z; exact k3 hn
  have nX : ∀ q, X q → q ≠ a := fun q hq z => by subst z; exact h4 q hq hn
  refine ⟨⟨⟨h1.same (zUn n1 rfl) (zUn n2 rfl) (zUn n3 rfl), fun z => z.elim h2 n1, fun z => z.elim h3 n2, fun q hq => ?_⟩, zUe, fun z => nX a z rfl, n3.symm⟩, fun q hq => zUn (nX q hq) rfl⟩
  rcases hq with hq | rfl
  · rw [zUn (nX q hq) rfl]; exact h4 q hq
  · rw [zUe]; simp
theorem qO.set (h : qO X cB cI ar as a1 R lv mo ty F tp a d hi hm) (hs : zO1 a hm hm') (hd : hm' a = some d') : qO X cB cI ar as a1 R lv mo ty F tp a d' hi hm' ∧ lFr X hm hm' := by
  obtain ⟨⟨h1, h2, h3, h4⟩, h5, h6, h7⟩ := h
  have n1 : ar ≠ a := fun z => h2 (Or.inr z)
  have n2 : as ≠ a := fun z => h3 (Or.inr z)
  have nX : ∀ q, X q → q ≠ a := fun q hq z => h6 (z ▸ hq)
  refine ⟨⟨⟨h1.same (hs _ n1) (hs _ n2) (hs _ h7.symm), h2, h3, fun q hq => ?_⟩, hd, h6, h7⟩, fun q hq => hs q (nX q hq)⟩
  by_cases e : q = a
  · subst e; rw [hd]; simp
  · rw [hs q e]; exact h4 q hq
/-- the cell is done: it goes over to those that stay -/
theorem qO.done (h : qO X cB cI ar as a1 R lv mo ty F tp a d hi hm) (kk : ∀ hi' hm', zX hi hi' → qW X cB cI ar as a1 R lv mo ty F tp hi' hm' → lFr X hm hm' → hi' a = some d → zV s0 D (zty cB cI cJ cD) y cc nL ret rF rL mc ms pc lo st hi' hm' nx Q) : zV s0 D (zty cB cI cJ cD) y cc nL ret rF rL mc ms pc lo st hi hm nx Q := by
  obtain ⟨⟨h1, h2, h3, h4⟩, h5, h6, h7⟩ := h
  refine z_hi_none (fun hn => ?_) h5
  refine zV_world (fun H hw => hw.freeze h5) ?_
  have hX : zX hi (va_up hi a (some d)) := fun q e hq => zUno hn hq
  have up : ∀ q, q ≠ a → va_up hm a none q = hm q := fun q n => by unfold va_up; rw [if_neg n]
  have n1 : ar ≠ a := fun z => h2 (Or.inr z)
  have n2 : as ≠ a := fun z => h3 (Or.inr z)
  have nX : ∀ q, X q → q ≠ a := fun q hq z => h6 (z ▸ hq)
  exact kk _ _ hX ⟨(h1.mono hX).same (up _ n1) (up _ n2) (up _ h7.symm), fun z => h2 (Or.inl z), fun z => h3 (Or.inl z), fun q hq => by rw [up q (nX q hq)]; exact h4 q (Or.inl hq)⟩ (fun q hq => up q (nX q hq)) zUe
/-- a change of the rest: the own cell stays -/
theorem qO.rest (h : qO X cB cI ar as a1 R lv mo ty F tp a d hi hm) (x : zX hi hi') (h2 : qW (xA X a) cB cI ar as a1 R' lv' mo' ty' F' tp hi' hm') (hF : lFr (xA X a) hm hm') : qO X cB cI ar as a1 R' lv' mo' ty' F' tp a d hi' hm' ∧ lFr X hm hm' := ⟨⟨h2, (hF a (Or.inr rfl)).trans h.2.1, h.2.2⟩, fun q hq => hF q (Or.inl hq)⟩
theorem q_get {v : Value} (hW : qW X cB cI ar as a1 R lv mo ty F tp hi hm) (hk : k < 12) (hlink : Cond.fieldLink y.cls idx (TX7 k).1 (TX7 k).2.1 (TX7 k).2.2.1 ∈ zT) (hv : ∀ la mz ta, (rFs as la R mz ta)[k]? = some v) (hd : decode cc pc = .ok (.getfield idx, 3)) (kk : zV s0 D (zty cB cI cJ cD) y cc nL ret rF rL mc ms (pc + 3) lo (v :: st) hi hm nx Q) : zV s0 D (zty cB cI cJ cD) y cc nL ret rF rL mc ms pc lo (.ref ar :: st) hi hm nx Q := r_get hW.1 hk hlink hv hd kk
theorem q_getL (hW : qW X cB cI ar as a1 R lv mo ty F tp hi hm) (hlink : Cond.fieldLink y.cls idx (TX7 4).1 (TX7 4).2.1 (TX7 4).2.2.1 ∈ zT) (hd : decode cc pc = .ok (.getfield idx, 3)) (kk : ∀ b, iLaw cI hi b lv → zV s0 D (zty cB cI cJ cD) y cc nL ret rF rL mc ms (pc + 3) lo (.ref b :: st) hi hm nx Q) : zV s0 D (zty cB cI cJ cD) y cc nL ret rF rL mc ms pc lo (.ref ar :: st) hi hm nx Q := r_getL hW.1 hlink hd kk
theorem q_getT (hW : qW X cB cI ar as a1 R lv mo ty F tp hi hm) (hlink : Cond.fieldLink y.cls idx (TX7 9).1 (TX7 9).2.1 (TX7 9).2.2.1 ∈ zT) (hd : decode cc pc = .ok (.getfield idx, 3)) (kk : ∀ b, iTrue hi b ty → zV s0 D (zty cB cI cJ cD) y cc nL ret rF rL mc ms (pc + 3) lo (.ref b :: st) hi hm nx Q) : zV s0 D (zty cB cI cJ cD) y cc nL ret rF rL mc ms pc lo (.ref ar :: st) hi hm nx Q := r_getT hW.1 hlink hd kk
theorem q_getM (hW : qW X cB cI ar as a1 R lv mo ty F tp hi hm) (hlink : Cond.fieldLink y.cls idx (TX7 5).1 (TX7 5).2.1 (TX7 5).2.2.1 ∈ zT) (hd : decode cc pc = .ok (.getfield idx, 3)) (kn : mo = none → zV s0 D (zty cB cI cJ cD) y cc nL ret rF rL mc ms (pc + 3) lo (.null :: st) hi hm nx Q) (ks : ∀ b z, mo = some z → iArr cI hi b z → zV s0 D (zty cB cI cJ cD) y cc nL ret rF rL mc ms (pc + 3) lo (.ref b :: st) hi hm nx Q) : zV s0 D (zty cB cI cJ cD) y cc nL ret rF rL mc ms pc lo (.ref ar :: st) hi hm nx Q := r_getM hW.1 hlink hd kn ks
theorem q_putI {x : Int32} (hW : qW X cB cI ar as a1 R lv mo ty F tp hi hm) (hk : k = 1 ∨ k = 2 ∨ k = 3 ∨ k = 6 ∨ k = 7 ∨ k = 8 ∨ k = 10 ∨ k = 11) (hlink : Cond.fieldLink y.cls idx (TX7 k).1 (TX7 k).2.1 (TX7 k).2.2.1 ∈ zT) (hd : decode cc pc = .ok (.putfield idx, 3)) (kk : ∀ hm', qW X cB cI ar as a1 (upd R k x) lv mo ty F tp hi hm' → lFr X hm hm' → zV s0 D (zty cB cI cJ cD) y cc nL ret rF rL mc ms (pc + 3) lo st hi hm' nx Q) : zV s0 D (zty cB cI cJ cD) y cc nL ret rF rL mc ms pc lo (.int x :: .ref ar :: st) hi hm nx Q := r_putI hW.1 hk hlink hd (fun hm' g1 g2 => kk hm' (hW.step g1 g2) (hW.fr g2))
theorem q_putL {b : Nat} {z : vLaw} (hW : qW X cB cI ar as a1 R lv mo ty F tp hi hm) (ho : iLaw cI hi b z) (hlink : Cond.fieldLink y.cls idx (TX7 4).1 (TX7 4).2.1 (TX7 4).2.2.1 ∈ zT) (hd : decode cc pc = .ok (.putfield idx, 3)) (kk : ∀ hm', qW X cB cI ar as a1 R z mo ty F tp hi hm' → lFr X hm hm' → zV s0 D (zty cB cI cJ cD) y cc nL ret rF rL mc ms (pc + 3) lo st hi hm' nx Q) : zV s0 D (zty cB cI cJ cD) y cc nL ret rF rL mc ms pc lo (.ref b :: .ref ar :: st) hi hm nx Q := r_putL hW.1 ho hlink hd (fun hm' g1 g2 => kk hm' (hW.step g1 g2) (hW.fr g2))
theorem q_putT {b : Nat} {z : vTrue} (hW : qW X cB cI ar as a1 R lv mo ty F tp hi hm) (ho : iTrue hi b z) (hlink : Cond.fieldLink y.cls idx (TX7 9).1 (TX7 9).2.1 (TX7 9).2.2.1 ∈ zT) (hd : decode cc pc = .ok (.putfield idx, 3)) (kk : ∀ hm', qW X cB cI ar as a1 R lv mo z F tp hi hm' → lFr X hm hm' → zV s0 D (zty cB cI cJ cD) y cc nL ret rF rL mc ms (pc + 3) lo st hi hm' nx Q) : zV s0 D (zty cB cI cJ cD) y cc nL ret rF rL mc ms pc lo (.ref b :: .ref ar :: st) hi hm nx Q := r_putT hW.1 ho hlink hd (fun hm' g1 g2 => kk hm' (hW.step g1 g2) (hW.fr g2))
theorem q_putM {b : Nat} {z : vArr} (hW : qW X cB cI ar as a1 R lv mo ty F tp hi hm) (ho : iArr cI hi b z) (hlink : Cond.fieldLink y.cls idx (TX7 5).1 (TX7 5).2.1 (TX7 5).2.2.1 ∈ zT) (hd : decode cc pc = .ok (.putfield idx, 3)) (kk : ∀ hm', qW X cB cI ar as a1 R lv (some z) ty F tp hi hm' → lFr X hm hm' → zV s0 D (zty cB cI cJ cD) y cc nL ret rF rL mc ms (pc + 3) lo st hi hm' nx Q) : zV s0 D (zty cB cI cJ cD) y cc nL ret rF rL mc ms pc lo (.ref b :: .ref ar :: st) hi hm nx Q := r_putM hW.1 ho hlink hd (fun hm' g1 g2 => kk hm' (hW.step g1 g2) (hW.fr g2))
/-- a field of the scanner -/
theorem q_sget (hW : qW X cB cI ar as a1 R lv mo ty F tp hi hm) (hk : k = 0 ∨ k = 1 ∨ k = 2 ∨ k = 3 ∨ k = 4 ∨ k = 6) (hlink : Cond.fieldLink y.cls idx (TX9 k).1 (TX9 k).2.1 (TX9 k).2.2.1 ∈ zT) (hd : decode cc pc = .ok (.getfield idx, 3)) (kk : zV s0 D (zty cB cI cJ cD) y cc nL ret rF rL mc ms (pc + 3) lo (.int (F k) :: st) hi hm nx Q) : zV s0 D (zty cB cI cJ cD) y cc nL ret rF rL mc ms pc lo (.ref as :: st) hi hm nx Q := by
  have hS : sW cB cI as a1 0 0 F (fun _ => 0) tp (fun _ => 0) (fun _ => 0) hm := hW.1.sc
  exact zV_get (Or.inr hS.1) rfl z_in9 (by omega) hlink (by rcases hk with rfl | rfl | rfl | rfl | rfl | rfl <;> rfl) hd kk
theorem qa_new {n : Int32} (B : Nat) (hW : qW X cB cI ar as a1 R lv mo ty F tp hi hm) (harr : Cond.arrayClass .int ∈ zT) (hn : zin n (B + 1) = true) (hB : B * componentBytes .int ≤ 536870912) (hd : decode cc pc = .ok (.newarray .int, 2))
    (kk : ∀ hm' nx', qA X cB cI ar as a1 R lv mo ty F tp n.toNatClampNeg nx (fun _ => 0) hi hm' → lFr X hm hm' → zV s0 D (zty cB cI cJ cD) y cc nL ret rF rL mc ms (pc + 2) lo (.ref nx :: st) hi hm' nx' Q) : zV s0 D (zty cB cI cJ cD) y cc nL ret rF rL (mc + 1) (ms + B) pc lo (.int n :: st) hi hm nx Q := by
  simp only [zin, Bool.and_eq_true, decide_eq_true_eq] at hn
  refine zV_less (mc' := mc + 1) (ms' := (ms + (B - n.toNatClampNeg)) + n.toNatClampNeg) (Nat.le_refl _) (by omega) ?_
  refine zV_newI (n := n) (N := n.toNatClampNeg) harr (by have := hn.1; rw [Int32.not_lt]; exact this) rfl (Nat.le_trans (Nat.mul_le_mul_right _ (by omega)) hB) hd (fun _ n2 => ?_)
  obtain ⟨g1, g2⟩ := hW.newO (d := .inl (cI, n.toNatClampNeg, .inl (fun _ => 0))) n2
  exact zV_less (Nat.le_refl _) (by omega) (kk _ _ g1 g2)
theorem qa_st {i x : Int32} (hW : qA X cB cI ar as a1 R lv mo ty F tp N a f hi hm) (hin : zin i N = true) (hd : decode cc pc = .ok (.iastore, 1))
    (kk : ∀ hm', qA X cB cI ar as a1 R lv mo ty F tp N a (upd f i.toNatClampNeg x) hi hm' → lFr X hm hm' → zV s0 D (zty cB cI cJ cD) y cc nL ret rF rL mc ms (pc + 1) lo st hi hm' nx Q) : zV s0 D (zty cB cI cJ cD) y cc nL ret rF rL mc ms pc lo (.int x :: .int i :: .ref a :: st) hi hm nx Q := by
  obtain ⟨g1, g2⟩ := qO.set (hm' := va_up hm a (some (.inl (cI, N, .inl (upd f i.toNatClampNeg x))))) (d' := .inl (cI, N, .inl (upd f i.toNatClampNeg x))) hW (fun q n => zUn n rfl) zUe
  exact zV_iast 1 hW.2.1 rfl (zin_in hin) hd (kk _ g1 g2)
theorem qa_ld {i : Int32} (hW : qA X cB cI ar as a1 R lv mo ty F tp N a f hi hm) (hin : zin i N = true) (hd : decode cc pc = .ok (.iaload, 1))
    (kk : zV s0 D (zty cB cI cJ cD) y cc nL ret rF rL mc ms (pc + 1) lo (.int (f i.toNatClampNeg) :: st) hi hm nx Q) : zV s0 D (zty cB cI cJ cD) y cc nL ret rF rL mc ms pc lo (.int i :: .ref a :: st) hi hm nx Q := zV_iald 1 (Or.inr hW.2.1) rfl (zin_in hin) hd kk
theorem qa_fr (hW : qA X cB cI ar as a1 R lv mo ty F tp N a f hi hm) (kk : ∀ hi' hm', zX hi hi' → qW X cB cI ar as a1 R lv mo ty F tp hi' hm' → lFr X hm hm' → iArr cI hi' a (N, f) → zV s0 D (zty cB cI cJ cD) y cc nL ret rF rL mc ms pc lo st hi' hm' nx Q) : zV s0 D (zty cB cI cJ cD) y cc nL ret rF rL mc ms pc lo st hi hm nx Q := qO.done hW kk
/-- a new object, under way -/
theorem qo_new {ci N : Nat} {fs : List Value} {C : String} {T : u_T} (ty0 : Nat → FieldType) (hW : qW X cB cI ar as a1 R lv mo ty F tp hi hm) (hc : zcl[ci]? = some (C, T, N)) (hin : ∀ w ∈ u_ws C T N, w ∈ zT) (hty : ∀ k, k < N → parseFieldDescriptor (T k).2.2.1 = some (ty0 k)) (hcl : Cond.classLink y.cls idx C ∈ zT) (hinst : Cond.instantiable C N ∈ zT) (hini : Cond.initialized C ∈ zT) (hfs : ∀ j, j < N → defaultValue (ty0 j) = vp_V fs j) (hd : decode cc pc = .ok (.new idx, 3))
    (kk : ∀ hm' nx' a, qO X cB cI ar as a1 R lv mo ty F tp a (.inr (ci, fs)) hi hm' → lFr X hm hm' → zV s0 D (zty cB cI cJ cD) y cc nL ret rF rL mc ms (pc + 3) lo (.ref a :: st) hi hm' nx' Q) : zV s0 D (zty cB cI cJ cD) y cc nL ret rF rL (mc + 1) (ms + N) pc lo st hi hm nx Q := by
  refine zV_newX ty0 hc hin hty hcl hinst hini hfs hd (fun _ n2 => ?_)
  obtain ⟨g1, g2⟩ := hW.newO (d := .inr (ci, fs)) n2
  exact kk _ _ _ g1 g2
variable {y2 : MethodName} {cc2 : ByteArray} {nL2 : Nat} {ret2 : Option FieldType} {rF2 rL2 mc2 ms2 n a2 a3 : Nat} {As rest : List Value} {v : Option Value} {G G' : Nat → Int64} {w oc w' oc' : Nat → Int32}
/-- the constructor's end: the object is done -/
theorem qo_mk (hW : qO X cB cI ar as a1 R lv mo ty F tp a d hi hm) (hM : ∀ Q2 : Option Value → zHp → zHp → Nat → Prop, (∀ hm', hm' a = some d' → zO1 a hm hm' → Q2 none hi hm' nx) → zM s0 D (zty cB cI cJ cD) y2 cc2 nL2 none rF2 rL2 0 0 (.ref a :: As) hi hm nx Q2) (O : zO y2 cc2 nL2 none n) (hyi : y2.name = "<init>") (hlink : Cond.methodLink y.cls idx y2 ∈ zT) (hinst : Cond.instanceMethod y2 ∈ zT) (hn : As.length = n) (hst : st = As.reverse ++ .ref a :: rest) (hrest : (rest.map fun v => v.category).sum ≤ 8) (hR : rF2 + 1 ≤ rF ∧ 8 + (nL2 + 11) + rL2 ≤ rL) (hd : decode cc pc = .ok (.invokespecial idx, 3))
    (kk : ∀ hi' hm', zX hi hi' → qW X cB cI ar as a1 R lv mo ty F tp hi' hm' → lFr X hm hm' → hi' a = some d' → zV s0 D (zty cB cI cJ cD) y cc nL ret rF rL mc ms (pc + 3) lo rest hi' hm' nx Q) : zV s0 D (zty cB cI cJ cD) y cc nL ret rF rL mc ms pc lo st hi hm nx Q := by
  refine zV_callI (hM (fun v' hi' hm' nx' => v' = none ∧ hi' = hi ∧ nx' = nx ∧ hm' a = some d' ∧ zO1 a hm hm') (fun hm' h1 h2 => ⟨rfl, rfl, rfl, h1, h2⟩)) O hyi hlink hinst hn hst hrest hR ⟨Nat.zero_le _, Nat.zero_le _⟩ hd ?_
  rintro v' hi' hm' nx' ⟨rfl, rfl, rfl, h1, h2⟩
  obtain ⟨g1, g2⟩ := hW.set h2 h1
  exact qO.done g1 (fun hi' hm2 k1 k2 k3 k4 => kk hi' hm2 k1 k2 (g2.tr k3) k4)
theorem q_cR (hW : qW X cB cI ar as a1 R lv mo ty F tp hi hm) (hM : sR s0 D cB cI cJ cD as a1 a2 a3 y2 cc2 nL2 ret2 rF2 rL2 As F G tp w oc v) (O : zO y2 cc2 nL2 ret2 n) (hc : RX9 = y2.cls) (hlink : Cond.methodLink y.cls idx y2 ∈ zT) (hinst : Cond.instanceMethod y2 ∈ zT) (hsel : Cond.selects y2.cls y2 y2 ∈ zT) (hn : As.length = n) (hst : st = As.reverse ++ .ref as :: rest) (hrest : (rest.map fun v => v.category).sum ≤ 8) (hR : rF2 + 1 ≤ rF ∧ 8 + (nL2 + 11) + rL2 ≤ rL) (hd : decode cc pc = .ok (.invokevirtual idx, 3)) (kk : zV s0 D (zty cB cI cJ cD) y cc nL ret rF rL mc ms (pc + 3) lo (v.toList ++ rest) hi hm nx Q) : zV s0 D (zty cB cI cJ cD) y cc nL ret rF rL mc ms pc lo st hi hm nx Q := r_cR hW.1 hM O hc hlink hinst hsel hn hst hrest hR hd kk
theorem q_cC (hW : qW X cB cI ar as a1 R lv mo ty F tp hi hm) (hM : sK s0 D cB cI cJ cD as a1 a2 a3 y2 cc2 nL2 ret2 rF2 rL2 As F G tp w oc v F' G' tp w' oc') (O : zO y2 cc2 nL2 ret2 n) (hc : RX9 = y2.cls) (hlink : Cond.methodLink y.cls idx y2 ∈ zT) (hinst : Cond.instanceMethod y2 ∈ zT) (hsel : Cond.selects y2.cls y2 y2 ∈ zT) (hn : As.length = n) (hst : st = As.reverse ++ .ref as :: rest) (hrest : (rest.map fun v => v.category).sum ≤ 8) (hR : rF2 + 1 ≤ rF ∧ 8 + (nL2 + 11) + rL2 ≤ rL) (hd : decode cc pc = .ok (.invokevirtual idx, 3)) (kk : ∀ hm', qW X cB cI ar as a1 R lv mo ty F' tp hi hm' → lFr X hm hm' → zV s0 D (zty cB cI cJ cD) y cc nL ret rF rL mc ms (pc + 3) lo (v.toList ++ rest) hi hm' nx Q) : zV s0 D (zty cB cI cJ cD) y cc nL ret rF rL mc ms pc lo st hi hm nx Q := r_cC hW.1 hM O hc hlink hinst hsel hn hst hrest hR hd (fun hm' g1 g2 => kk hm' (hW.step g1 g2) (hW.fr g2))
theorem qa_cC (hW : qA X cB cI ar as a1 R lv mo ty F tp N a f hi hm) (hM : sK s0 D cB cI cJ cD as a1 a2 a3 y2 cc2 nL2 ret2 rF2 rL2 As F G tp w oc v F' G' tp w' oc') (O : zO y2 cc2 nL2 ret2 n) (hc : RX9 = y2.cls) (hlink : Cond.methodLink y.cls idx y2 ∈ zT) (hinst : Cond.instanceMethod y2 ∈ zT) (hsel : Cond.selects y2.cls y2 y2 ∈ zT) (hn : As.length = n) (hst : st = As.reverse ++ .ref as :: rest) (hrest : (rest.map fun v => v.category).sum ≤ 8) (hR : rF2 + 1 ≤ rF ∧ 8 + (nL2 + 11) + rL2 ≤ rL) (hd : decode cc pc = .ok (.invokevirtual idx, 3)) (kk : ∀ hm', qA X cB cI ar as a1 R lv mo ty F' tp N a f hi hm' → lFr X hm hm' → zV s0 D (zty cB cI cJ cD) y cc nL ret rF rL mc ms (pc + 3) lo (v.toList ++ rest) hi hm' nx Q) : zV s0 D (zty cB cI cJ cD) y cc nL ret rF rL mc ms pc lo st hi hm nx Q :=
  q_cC hW.1 hM O hc hlink hinst hsel hn hst hrest hR hd (fun hm' g1 g2 => kk hm' (qO.rest hW zX.rf g1 g2).1 (qO.rest hW zX.rf g1 g2).2)
/-- a call of a method of the reader's own -/
theorem q_call (hW : qW X cB cI ar as a1 R lv mo ty F tp hi hm) (hM : ∀ Q2 : Option Value → zHp → zHp → Nat → Prop, (∀ hi' hm' nx', zX hi hi' → qW X cB cI ar as a1 R' lv' mo' ty' F' tp hi' hm' → lFr X hm hm' → Q2 v hi' hm' nx') → zM s0 D (zty cB cI cJ cD) y2 cc2 nL2 ret2 rF2 rL2 mc2 ms2 (.ref ar :: As) hi hm nx Q2) (O : zO y2 cc2 nL2 ret2 n) (hc : RX7 = y2.cls) (hlink : Cond.methodLink y.cls idx y2 ∈ zT) (hinst : Cond.instanceMethod y2 ∈ zT) (hsel : Cond.selects y2.cls y2 y2 ∈ zT) (hn : As.length = n) (hst : st = As.reverse ++ .ref ar :: rest) (hrest : (rest.map fun v => v.category).sum ≤ 8) (hR : rF2 + 1 ≤ rF ∧ 8 + (nL2 + 11) + rL2 ≤ rL) (hd : decode cc pc = .ok (.invokevirtual idx, 3))
    (kk : ∀ hi' hm' nx', zX hi hi' → qW X cB cI ar as a1 R' lv' mo' ty' F' tp hi' hm' → lFr X hm hm' → zV s0 D (zty cB cI cJ cD) y cc nL ret rF rL mc ms (pc + 3) lo (v.toList ++ rest) hi' hm' nx' Q) : zV s0 D (zty cB cI cJ cD) y cc nL ret rF rL (mc + mc2) (ms + ms2) pc lo st hi hm nx Q := by
  obtain ⟨la, ta, mz, h1, -⟩ := hW.1.cell
  refine zV_callV (hM (fun v' hi' hm' nx' => v' = v ∧ zX hi hi' ∧ qW X cB cI ar as a1 R' lv' mo' ty' F' tp hi' hm' ∧ lFr X hm hm') (fun hi' hm' nx' g1 g2 g3 => ⟨rfl, g1, g2, g3⟩)) O (Or.inr h1) (T := TX7) (N := 12) (by rw [← hc]; rfl) hlink hinst hsel hn hst hrest hR ⟨Nat.le_add_left _ _, Nat.le_add_left _ _⟩ hd ?_
  rintro v' hi' hm' nx' ⟨rfl, g1, g2, g3⟩
  exact zV_less (by omega) (by omega) (kk hi' hm' nx' g1 g2 g3)
end QW
