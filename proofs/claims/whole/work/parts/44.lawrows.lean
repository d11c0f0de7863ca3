/-! ===== the law: both objects side by side, the script ===== -/
def gX (am a1 a2 a3 : Nat) : Nat → Prop := fun q => q = am ∨ q = a1 ∨ q = a2 ∨ q = a3
def gW (cB cI cJ cD : ClassId) (al l1 l2 l3 l4 l5 am a1 a2 a3 : Nat) (A tp : Nat → Int32) (dv : Nat → Option vDes) (cs : Nat → Int32) (cv : Nat → Option vDes) (jv : Option vJoint) (bo : Option (Nat → Int32)) (hg lw : Option (Nat → Int64)) (sb : vSB) (F : Nat → Int32) (G : Nat → Int64) (tq w oc : Nat → Int32) (hi hm : zHp) : Prop :=
  lW (gX am a1 a2 a3) cB cI cJ cD al l1 l2 l3 l4 l5 A tp dv cs cv jv bo hg lw sb hi hm ∧ mW cB cI am a1 a2 a3 F G tq w oc hm
theorem mW.keep {cB cI : ClassId} {am a1 a2 a3 : Nat} {F : Nat → Int32} {G : Nat → Int64} {tq w oc : Nat → Int32} {hm hm' : zHp} (h : mW cB cI am a1 a2 a3 F G tq w oc hm) (hF : lFr (gX am a1 a2 a3) hm hm') : mW cB cI am a1 a2 a3 F G tq w oc hm' := by
  obtain ⟨h1, h2, h3, h4⟩ := h
  exact ⟨(hF _ (Or.inl rfl)).trans h1, (hF _ (Or.inr (Or.inl rfl))).trans h2, (hF _ (Or.inr (Or.inr (Or.inl rfl)))).trans h3, (hF _ (Or.inr (Or.inr (Or.inr rfl)))).trans h4⟩
def iScr (s0 : State) (b L : Nat) (xs : Nat → Int32) : Prop := va_T .int b L (fun j => .int (xs j)) (zA s0) s0 s0.heap
section GL
variable {s0 : State} {D : va_G} {cB cI cJ cD : ClassId} {al l1 l2 l3 l4 l5 am a1 a2 a3 : Nat} {A A' tp tp' : Nat → Int32} {dv dv' : Nat → Option vDes} {cs cs' : Nat → Int32} {cv cv' : Nat → Option vDes} {jv jv' : Option vJoint} {bo bo' : Option (Nat → Int32)} {hg lw hg' lw' : Option (Nat → Int64)} {sb sb' : vSB} {F F' : Nat → Int32} {G G' : Nat → Int64} {tq w oc tq' w' oc' : Nat → Int32}
variable {y : MethodName} {cc : ByteArray} {nL : Nat} {ret : Option FieldType} {rF rL mc ms pc : Nat} {lo : List (Nat × Value)} {st : List Value} {hi hm : zHp} {nx : Nat} {Q : Option Value → zHp → zHp → Nat → Prop} {idx : Nat}
variable {y2 : MethodName} {cc2 : ByteArray} {nL2 : Nat} {ret2 : Option FieldType} {rF2 rL2 mc2 ms2 n : Nat} {As rest : List Value} {v : Option Value}
/-- a call of the class -/
theorem g_x (hG : gW cB cI cJ cD al l1 l2 l3 l4 l5 am a1 a2 a3 A tp dv cs cv jv bo hg lw sb F G tq w oc hi hm) (hM : ∀ Q2 : Option Value → zHp → zHp → Nat → Prop, (∀ hi' hm' nx', zX hi hi' → lW (gX am a1 a2 a3) cB cI cJ cD al l1 l2 l3 l4 l5 A' tp' dv' cs' cv' jv' bo' hg' lw' sb' hi' hm' → lFr (gX am a1 a2 a3) hm hm' → Q2 v hi' hm' nx') → zM s0 D (zty cB cI cJ cD) y2 cc2 nL2 ret2 rF2 rL2 mc2 ms2 (.ref al :: As) hi hm nx Q2) (O : zO y2 cc2 nL2 ret2 n) (hc : RX11 = y2.cls) (hlink : Cond.methodLink y.cls idx y2 ∈ zT) (hinst : Cond.instanceMethod y2 ∈ zT) (hsel : Cond.selects y2.cls y2 y2 ∈ zT) (hn : As.length = n) (hst : st = As.reverse ++ .ref al :: rest) (hrest : (rest.map fun v => v.category).sum ≤ 8) (hR : rF2 + 1 ≤ rF ∧ 8 + (nL2 + 11) + rL2 ≤ rL) (hmc : mc2 ≤ mc ∧ ms2 ≤ ms) (hd : decode cc pc = .ok (.invokevirtual idx, 3))
    (kk : ∀ hi' hm' nx', gW cB cI cJ cD al l1 l2 l3 l4 l5 am a1 a2 a3 A' tp' dv' cs' cv' jv' bo' hg' lw' sb' F G tq w oc hi' hm' → zV s0 D (zty cB cI cJ cD) y cc nL ret rF rL (mc - mc2) (ms - ms2) (pc + 3) lo (v.toList ++ rest) hi' hm' nx' Q) : zV s0 D (zty cB cI cJ cD) y cc nL ret rF rL mc ms pc lo st hi hm nx Q := by
  obtain ⟨hW, hm1⟩ := hG
  obtain ⟨fs, hlen, h1, -⟩ := hW.putA
  refine zV_callV (hM (fun v' hi' hm' nx' => v' = v ∧ lW (gX am a1 a2 a3) cB cI cJ cD al l1 l2 l3 l4 l5 A' tp' dv' cs' cv' jv' bo' hg' lw' sb' hi' hm' ∧ lFr (gX am a1 a2 a3) hm hm') (fun hi' hm' nx' g1 g2 g3 => ⟨rfl, g2, g3⟩)) O (Or.inr h1) (T := TX11) (N := 14) (by rw [← hc]; rfl) hlink hinst hsel hn hst hrest hR hmc hd ?_
  rintro v' hi' hm' nx' ⟨rfl, g2, g3⟩
  exact kk hi' hm' nx' ⟨g2, hm1.keep g3⟩
/-- a call of the reference -/
theorem g_m (hG : gW cB cI cJ cD al l1 l2 l3 l4 l5 am a1 a2 a3 A tp dv cs cv jv bo hg lw sb F G tq w oc hi hm) (hM : mC s0 D cB cI cJ cD am a1 a2 a3 y2 cc2 nL2 ret2 rF2 rL2 As F G tq w oc v F' G' tq' w' oc') (O : zO y2 cc2 nL2 ret2 n) (hc : RX12 = y2.cls) (hlink : Cond.methodLink y.cls idx y2 ∈ zT) (hinst : Cond.instanceMethod y2 ∈ zT) (hsel : Cond.selects y2.cls y2 y2 ∈ zT) (hn : As.length = n) (hst : st = As.reverse ++ .ref am :: rest) (hrest : (rest.map fun v => v.category).sum ≤ 8) (hR : rF2 + 1 ≤ rF ∧ 8 + (nL2 + 11) + rL2 ≤ rL) (hd : decode cc pc = .ok (.invokevirtual idx, 3))
    (kk : ∀ hm', gW cB cI cJ cD al l1 l2 l3 l4 l5 am a1 a2 a3 A tp dv cs cv jv bo hg lw sb F' G' tq' w' oc' hi hm' → zV s0 D (zty cB cI cJ cD) y cc nL ret rF rL mc ms (pc + 3) lo (v.toList ++ rest) hi hm' nx Q) : zV s0 D (zty cB cI cJ cD) y cc nL ret rF rL mc ms pc lo st hi hm nx Q := by
  obtain ⟨hW, hm1⟩ := hG
  refine zV_callV (Q2 := fun v' hi' hm' nx' => v' = v ∧ hi = hi' ∧ nx = nx' ∧ mW cB cI am a1 a2 a3 F' G' tq' w' oc' hm' ∧ mFr am a1 a2 a3 hm hm') (hM hi hm nx _ hm1 (fun hm' g1 g2 => ⟨rfl, rfl, rfl, g1, g2⟩)) O (Or.inr hm1.1) (T := TX12) (N := 26) (by rw [← hc]; rfl) hlink hinst hsel hn hst hrest hR ⟨Nat.zero_le _, Nat.zero_le _⟩ hd ?_
  rintro v' _ hm' _ ⟨rfl, rfl, rfl, g1, g2⟩
  obtain ⟨k1, k2, k3, k4⟩ := id g1
  refine kk hm' ⟨hW.move (fun q e hq hx => ⟨(g2 q (fun z => hx (Or.inl z)) (fun z => hx (Or.inr (Or.inl z))) (fun z => hx (Or.inr (Or.inr (Or.inl z)))) (fun z => hx (Or.inr (Or.inr (Or.inr z))))).trans hq, hx⟩) (fun q hq => ?_), g1⟩
  rcases hq with rfl | rfl | rfl | rfl
  · rw [k1]; simp
  · rw [k2]; simp
  · rw [k3]; simp
  · rw [k4]; simp
variable {tys : List (ClassId × FieldType)} {b L : Nat} {xs : Nat → Int32}
theorem zV_sld {j : Nat} {e : Int32} (hs : iScr s0 b L xs) (he : e = nI j) (hj : j < L) (hL : L ≤ 4096) (hd : decode cc pc = .ok (.iaload, 1)) (kk : zV s0 D tys y cc nL ret rF rL mc ms (pc + 1) lo (.int (xs j) :: st) hi hm nx Q) : zV s0 D tys y cc nL ret rF rL mc ms pc lo (.int e :: .ref b :: st) hi hm nx Q := by
  subst he
  intro l p e R s m args below meth c H locs cells slots ls G0 F0'
  have F2 := F0'
  obtain ⟨f1, f2, f3, f4, f5, f6, f7, f8, f9, f10, f11, f12, f13, f14⟩ := F2
  exact va_ti f1 f2 (va_T.moved f8.alike (va_T.kept hs (z_old f11 f12 f13))) f12 (nI_in hj (by omega)) (by rw [nI_clamp (by omega)]) hd (kk l p e R s m args below meth c H locs cells slots ls G0 F0')
theorem zV_slen (hs : iScr s0 b L xs) (hd : decode cc pc = .ok (.arraylength, 1)) (kk : zV s0 D tys y cc nL ret rF rL mc ms (pc + 1) lo (.int (nI L) :: st) hi hm nx Q) : zV s0 D tys y cc nL ret rF rL mc ms pc lo (.ref b :: st) hi hm nx Q := by
  intro l p e R s m args below meth c H locs cells slots ls G0 F0'
  have F2 := F0'
  obtain ⟨f1, f2, f3, f4, f5, f6, f7, f8, f9, f10, f11, f12, f13, f14⟩ := F2
  exact va_tlen f1 f2 (va_T.moved f8.alike (va_T.kept hs (z_old f11 f12 f13))) f12 rfl hd (kk l p e R s m args below meth c H locs cells slots ls G0 F0')
/-- 'is not 0', as an argument -/
theorem zV_isnt {e : Int32} (hd0 : decode cc pc = .ok (.ifCond .eq 7, 3)) (hd1 : decode cc (pc + 3) = .ok (.iconst 1, 1)) (hd2 : decode cc (pc + 4) = .ok (.goto 4, 3)) (hd3 : decode cc (pc + 7) = .ok (.iconst 0, 1)) (kk : zV s0 D tys y cc nL ret rF rL mc ms (pc + 8) lo (.int (if e = 0 then 0 else 1) :: st) hi hm nx Q) : zV s0 D tys y cc nL ret rF rL mc ms pc lo (.int e :: st) hi hm nx Q := by
  refine zV_if_eq (tgt := pc + 7) hd0 (by omega) (fun q => ?_) (fun q => ?_)
  · rw [if_pos q] at kk
    exact zV_pure (.iconst 0) hd3 rfl kk
  · rw [if_neg q] at kk
    exact zV_pure (.iconst 1) hd1 rfl (zV_goto (tgt := pc + 8) hd2 (by show ((pc + 3 + 1 : Nat) : Int) + 4 = _; omega) kk)
end GL
