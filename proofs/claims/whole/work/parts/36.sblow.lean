/-! ===== the text builder: its cells, its room ===== -/
abbrev sbC (vb : Nat) (fl : Int32) (n : Nat) : List Value := [.ref vb, .int 0, .int fl, .int (nI n)]
def bW (X : Nat → Prop) (cB : ClassId) (b : Nat) (sb : vSB) (hm : zHp) : Prop := ∃ vb, hm b = some (.inr (13, sbC vb sb.2.2.1 sb.1)) ∧ hm vb = some (.inl (cB, sb.2.1, .inl sb.2.2.2)) ∧ ¬ X b ∧ ¬ X vb ∧ ∀ q, X q → hm q ≠ none
def sbGrow (q m : Nat) : Nat := if q ≤ m then m else m + max (q - m) (m + 2)
def sbEns (q : Nat) (sb : vSB) : vSB := if q ≤ sb.2.1 then sb else (sb.1, sbGrow q sb.2.1, sb.2.2.1, va_cpy sb.2.2.2 (fun _ => 0) 0 0 sb.2.1)
def sbOk (sb : vSB) : Prop := sb.1 ≤ sb.2.1 ∧ sb.2.1 ≤ 5000 ∧ ∀ i, fits .byte (.int (sb.2.2.2 i)) = true
/-- the room that growing may still ask -/
def sbPhi (m : Nat) : Nat := if m < 2400 then 9604 - 2 * m else 0
theorem sbPhi_grow {q m : Nat} (hq : q ≤ 2400) (h : ¬ q ≤ m) : 1 ≤ sbPhi m - sbPhi (sbGrow q m) ∧ sbGrow q m ≤ sbPhi m - sbPhi (sbGrow q m) ∧ sbGrow q m ≤ 5000 ∧ m < sbGrow q m ∧ q ≤ sbGrow q m := by
  unfold sbPhi sbGrow
  rw [if_neg h]
  have h1 : max (q - m) (m + 2) = q - m ∨ max (q - m) (m + 2) = m + 2 := by omega
  split <;> split <;> omega
theorem sbGrow_le {q m : Nat} : m ≤ sbGrow q m ∧ q ≤ sbGrow q m := by
  unfold sbGrow
  split <;> omega
theorem sbPhi_mono {a b : Nat} (h : a ≤ b) : sbPhi b ≤ sbPhi a := by
  unfold sbPhi
  split <;> split <;> omega
theorem va_cpy_fit {f g : Nat → Int32} (hf : ∀ i, fits .byte (.int (f i)) = true) (hg : ∀ i, fits .byte (.int (g i)) = true) (sp dp n : Nat) : ∀ i, fits .byte (.int (va_cpy f g sp dp n i)) = true := by
  intro i
  unfold va_cpy
  split
  · exact hf _
  · exact hg _
theorem sbEns_ok {q : Nat} {sb : vSB} (hq : q ≤ 2400) (h : sbOk sb) : sbOk (sbEns q sb) ∧ q ≤ (sbEns q sb).2.1 ∧ (sbEns q sb).1 = sb.1 ∧ (sbEns q sb).2.1 = sbGrow q sb.2.1 := by
  unfold sbEns
  by_cases c : q ≤ sb.2.1
  · rw [if_pos c]; exact ⟨h, c, rfl, by unfold sbGrow; rw [if_pos c]⟩
  · rw [if_neg c]
    obtain ⟨h1, h2, h3⟩ := h
    obtain ⟨g1, g2, g3, g4, g5⟩ := sbPhi_grow hq c
    exact ⟨⟨by show sb.1 ≤ sbGrow q sb.2.1; omega, g3, va_cpy_fit h3 (fun _ => by decide) 0 0 _⟩, g5, rfl, rfl⟩
section BWL
variable {X : Nat → Prop} {cB : ClassId} {b vb n m : Nat} {fl : Int32} {f : Nat → Int32} {hm hm' : zHp} {sb : vSB}
theorem bW.nb (h1 : hm b = some (.inr (13, sbC vb fl n))) (h2 : hm vb = some (.inl (cB, m, .inl f))) : vb ≠ b := fun e => by subst e; rw [h1] at h2; cases h2
theorem bW.put {fl' : Int32} {n' : Nat} (h1 : hm b = some (.inr (13, sbC vb fl n))) (h2 : hm vb = some (.inl (cB, m, .inl f))) (h3 : ¬ X b) (h4 : ¬ X vb) (h5 : ∀ q, X q → hm q ≠ none) : bW X cB b (n', m, fl', f) (va_up hm b (some (.inr (13, sbC vb fl' n')))) ∧ lFr X hm (va_up hm b (some (.inr (13, sbC vb fl' n')))) := by
  have nX : ∀ q, X q → q ≠ b := fun q hq e => h3 (e ▸ hq)
  exact ⟨⟨vb, zUe, zUn (bW.nb h1 h2) h2, h3, h4, fun q hq => by rw [zUn (nX q hq) rfl]; exact h5 q hq⟩, fun q hq => zUn (nX q hq) rfl⟩
theorem bW.arr {g : Nat → Int32} (h1 : hm b = some (.inr (13, sbC vb fl n))) (h2 : hm vb = some (.inl (cB, m, .inl f))) (h3 : ¬ X b) (h4 : ¬ X vb) (h5 : ∀ q, X q → hm q ≠ none) : bW X cB b (n, m, fl, g) (va_up hm vb (some (.inl (cB, m, .inl g)))) ∧ lFr X hm (va_up hm vb (some (.inl (cB, m, .inl g)))) := by
  have nX : ∀ q, X q → q ≠ vb := fun q hq e => h4 (e ▸ hq)
  exact ⟨⟨vb, zUn (bW.nb h1 h2).symm h1, zUe, h3, h4, fun q hq => by rw [zUn (nX q hq) rfl]; exact h5 q hq⟩, fun q hq => zUn (nX q hq) rfl⟩
theorem bW.seen (h : bW X cB b sb hm) : ∀ q, X q → hm q ≠ none := by
  obtain ⟨vb, -, -, -, -, h5⟩ := h
  exact h5
end BWL
theorem z_inJ4 : ∀ w ∈ u_ws RJ4 TJ4 4, w ∈ zT := zT_all _ [145, 147, 149, 151] (by decide +kernel) (by decide +kernel)
theorem oJ5_isLatin1 : zO yJ5_isLatin1_aae02 cJ5_isLatin1_aae02 1 (some .boolean) 0 := ⟨zT_mem 808 (by decide +kernel) rfl, (zT_mem 90 (by decide +kernel) rfl), (by decide +kernel), (by decide +kernel), (by decide +kernel)⟩
set_option maxRecDepth 100000 in
theorem cs_isLatin1 (s0 : State) (D : va_G) (cB cI cJ cD : ClassId) (b vb n : Nat) (fl : Int32) {hi hm : zHp} {nx : Nat} {Q : Option Value → zHp → zHp → Nat → Prop} (h1 : hm b = some (.inr (13, sbC vb fl n))) (hQ : Q (some (.int (zb true))) hi hm nx) : zM s0 D (zty cB cI cJ cD) yJ5_isLatin1_aae02 cJ5_isLatin1_aae02 1 (some .boolean) 0 0 0 0 [.ref b] hi hm nx Q := by
  refine zM_ofF (by decide +kernel) (Nat.le_of_ble_eq_true rfl) ?_
  refine zV_eq (lo2 := [(0, .ref b)]) rfl rfl rfl rfl ?_
  refine zV_stat (idx := 18) (C := "java/lang/String") (nm := "COMPACT_STRINGS") (d := "Z") (v := 1) (List.mem_of_getElem? (i := 133) (by decide +kernel)) (List.mem_of_getElem? (i := 92) (by decide +kernel)) (zFl_at 4 (by decide +kernel)) (zT_mem 132 (by decide +kernel) rfl) (by decide +kernel) ?_
  refine zV_if_eq (tgt := 17) (off := 14) (by decide +kernel) (by decide) (fun q => absurd q (by decide +kernel)) (fun _ => ?_)
  refine zV_blk (pc' := 7) (lo' := [(0, .ref b)]) (st' := [.ref b]) [.aload_n 0] (by decide +kernel) rfl ?_
  refine zV_get (ci := 13) (idx := 22) (k := 1) (N := 4) (fs := (sbC vb fl n)) (v := .int 0) (Or.inr h1) rfl z_inJ4 (by decide) (zT_mem 142 (by decide +kernel) rfl) rfl (by decide +kernel) ?_
  refine zV_if_ne (tgt := 17) (off := 7) (by decide +kernel) (by decide) (fun q => absurd rfl q) (fun _ => ?_)
  refine zV_blk (pc' := 14) (lo' := [(0, .ref b)]) (st' := [.int 1]) [.iconst 1] (by decide +kernel) rfl ?_
  refine zV_goto (tgt := 18) (off := 4) (by decide +kernel) (by decide) ?_
  refine zV_eq (st2 := [.int (zb true)]) rfl rfl rfl rfl ?_
  exact zV_bret rfl (by decide +kernel) hQ
theorem oJ5_length : zO yJ5_length_8abf5 cJ5_length_8abf5 1 (some .int) 0 := ⟨zT_mem 990 (by decide +kernel) rfl, (zT_mem 90 (by decide +kernel) rfl), (by decide +kernel), (by decide +kernel), (by decide +kernel)⟩
set_option maxRecDepth 100000 in
theorem cs_length5 (s0 : State) (D : va_G) (cB cI cJ cD : ClassId) (b vb n : Nat) (fl : Int32) {hi hm : zHp} {nx : Nat} {Q : Option Value → zHp → zHp → Nat → Prop} (h1 : hm b = some (.inr (13, sbC vb fl n))) (hQ : Q (some (.int (nI n))) hi hm nx) : zM s0 D (zty cB cI cJ cD) yJ5_length_8abf5 cJ5_length_8abf5 1 (some .int) 0 0 0 0 [.ref b] hi hm nx Q := by
  refine zM_ofF (by decide +kernel) (Nat.le_of_ble_eq_true rfl) ?_
  refine zV_eq (lo2 := [(0, .ref b)]) rfl rfl rfl rfl ?_
  refine zV_blk (pc' := 1) (lo' := [(0, .ref b)]) (st' := [.ref b]) [.aload_n 0] (by decide +kernel) rfl ?_
  refine zV_get (ci := 13) (idx := 79) (k := 3) (N := 4) (fs := (sbC vb fl n)) (v := .int (nI n)) (Or.inr h1) rfl z_inJ4 (by decide) (zT_mem 144 (by decide +kernel) rfl) rfl (by decide +kernel) ?_
  exact zV_iret rfl (by decide +kernel) hQ
theorem oJ8_newLength : zO yJ8_newLength_cabcc cJ8_newLength_cabcc 4 (some .int) 3 := ⟨zT_mem 783 (by decide +kernel) rfl, (zT_mem 108 (by decide +kernel) rfl), (by decide +kernel), (by decide +kernel), (by decide +kernel)⟩
set_option maxRecDepth 100000 in
theorem cs_newLength (s0 : State) (D : va_G) (cB cI cJ cD : ClassId) (a b c : Nat) {hi hm : zHp} {nx : Nat} {Q : Option Value → zHp → zHp → Nat → Prop} (hs : a < 2 ^ 28 ∧ b < 2 ^ 28 ∧ c < 2 ^ 28 ∧ 0 < c) (hQ : Q (some (.int (nI (a + max b c)))) hi hm nx) : zM s0 D (zty cB cI cJ cD) yJ8_newLength_cabcc cJ8_newLength_cabcc 4 (some .int) 1 21 0 0 [.int (nI a), .int (nI b), .int (nI c)] hi hm nx Q := by
  refine zM_ofF (by decide +kernel) (Nat.le_of_ble_eq_true rfl) ?_
  refine zV_eq (lo2 := [(0, .int (nI a)), (1, .int (nI b)), (2, .int (nI c))]) rfl rfl rfl rfl ?_
  have e1 : j_maxI (nI b) (nI c) = some (nI (max b c)) := by
    unfold j_maxI
    by_cases q : b < c
    · rw [if_pos (nI_lt q (by omega)), Nat.max_eq_right (by omega)]
    · rw [if_neg (nI_nlt (by omega) (by omega)), Nat.max_eq_left (by omega)]
  refine zV_blk (pc' := 3) (lo' := [(0, .int (nI a)), (1, .int (nI b)), (2, .int (nI c))]) (st' := [.int (nI c), .int (nI b), .int (nI a)]) [.iload_n 0, .iload_n 1, .iload_n 2] (by decide +kernel) rfl ?_
  refine zV_roS (idx := 194) (rest := [.int (nI a)]) (fun Q2 hQ2 => cj_maxI s0 D cB cI cJ cD (nI b) (nI c) (nI (max b c)) e1 hQ2) oJ9_max_7cf53 (zT_mem 784 (by decide +kernel) rfl) (zT_mem 275 (by decide +kernel) rfl) rfl rfl (Nat.le_of_ble_eq_true rfl) ⟨by decide, by decide⟩ (by decide +kernel) ?_
  refine zV_blk (pc' := 7) (lo' := [(0, .int (nI a)), (1, .int (nI b)), (2, .int (nI c))]) (st' := [.int ((nI a) + (nI (max b c)))]) [.iadd] (by decide +kernel) rfl ?_
  refine zV_eq (st2 := [.int (nI (a + max b c))]) rfl rfl (by rw [nI_add]) rfl ?_
  refine zV_blk (pc' := 10) (lo' := [(3, .int (nI (a + max b c))), (0, .int (nI a)), (1, .int (nI b)), (2, .int (nI c))]) (st' := [.int (nI (a + max b c)), .int 0]) [.istore_n 3, .iconst 0, .iload_n 3] (by decide +kernel) rfl ?_
  refine zV_icmp_ge (tgt := 21) (off := 11) (by decide +kernel) (by decide) (fun q => absurd q (nI_nle (by omega) (by omega))) (fun _ => ?_)
  refine zV_blk (pc' := 14) (lo' := [(3, .int (nI (a + max b c))), (0, .int (nI a)), (1, .int (nI b)), (2, .int (nI c))]) (st' := [.int (nI (a + max b c))]) [.iload_n 3] (by decide +kernel) rfl ?_
  refine zV_ldc (idx := 200) (v := 2147483639) (zT_mem 785 (by decide +kernel) rfl) (by decide +kernel) ?_
  refine zV_icmp_gt (tgt := 21) (off := 5) (by decide +kernel) (by decide) (fun q => absurd (show nI 2147483639 < nI (a + max b c) from q) (nI_nlt (a := 2147483639) (b := a + max b c) (by omega) (by decide))) (fun _ => ?_)
  refine zV_blk (pc' := 20) (lo' := [(3, .int (nI (a + max b c))), (0, .int (nI a)), (1, .int (nI b)), (2, .int (nI c))]) (st' := [.int (nI (a + max b c))]) [.iload_n 3] (by decide +kernel) rfl ?_
  exact zV_iret rfl (by decide +kernel) hQ
theorem oJ5_newCapacity : zO yJ5_newCapacity_0f7a4 cJ5_newCapacity_0f7a4 6 (some .int) 1 := ⟨zT_mem 780 (by decide +kernel) rfl, (zT_mem 90 (by decide +kernel) rfl), (by decide +kernel), (by decide +kernel), (by decide +kernel)⟩
set_option maxRecDepth 100000 in
theorem cs_newCapacity (s0 : State) (D : va_G) (cB cI cJ cD : ClassId) (b vb n m q : Nat) (fl : Int32) (f : Nat → Int32) {hi hm : zHp} {nx : Nat} {Q : Option Value → zHp → zHp → Nat → Prop} (h1 : hm b = some (.inr (13, sbC vb fl n))) (h2 : hm vb = some (.inl (cB, m, .inl f))) (hs : m < q ∧ q ≤ 5000) (hQ : Q (some (.int (nI (sbGrow q m)))) hi hm nx) : zM s0 D (zty cB cI cJ cD) yJ5_newCapacity_0f7a4 cJ5_newCapacity_0f7a4 6 (some .int) 2 44 0 0 [.ref b, .int (nI q)] hi hm nx Q := by
  refine zM_ofF (by decide +kernel) (Nat.le_of_ble_eq_true rfl) ?_
  refine zV_eq (lo2 := [(0, .ref b), (1, .int (nI q))]) rfl rfl rfl rfl ?_
  refine zV_blk (pc' := 1) (lo' := [(0, .ref b), (1, .int (nI q))]) (st' := [.ref b]) [.aload_n 0] (by decide +kernel) rfl ?_
  refine zV_get (ci := 13) (idx := 15) (k := 0) (N := 4) (fs := (sbC vb fl n)) (v := .ref vb) (Or.inr h1) rfl z_inJ4 (by decide) (zT_mem 141 (by decide +kernel) rfl) rfl (by decide +kernel) ?_
  refine zV_alen 0 (Or.inr h2) rfl (by decide +kernel) ?_
  refine zV_blk (pc' := 8) (lo' := [(2, .int (nI m)), (0, .ref b), (1, .int (nI q))]) (st' := [.ref b, .int (nI q)]) [.istore_n 2, .iload_n 1, .aload_n 0] (by decide +kernel) rfl ?_
  refine zV_get (ci := 13) (idx := 22) (k := 1) (N := 4) (fs := (sbC vb fl n)) (v := .int 0) (Or.inr h1) rfl z_inJ4 (by decide) (zT_mem 142 (by decide +kernel) rfl) rfl (by decide +kernel) ?_
  refine zV_blk (pc' := 12) (lo' := [(2, .int (nI m)), (0, .ref b), (1, .int (nI q))]) (st' := [.int (nI q <<< ((0 : Int32) &&& 31))]) [.ishl] (by decide +kernel) rfl ?_
  refine zV_eq (st2 := [.int (nI q)]) rfl rfl (by rw [sb_shl0]) rfl ?_
  refine zV_blk (pc' := 16) (lo' := [(3, .int (nI q)), (2, .int (nI m)), (0, .ref b), (1, .int (nI q))]) (st' := [.int ((nI q) - (nI m))]) [.istore_n 3, .iload_n 3, .iload_n 2, .isub] (by decide +kernel) rfl ?_
  have e2 : nI q - nI m = nI (q - m) := by
    have := nI_add m (q - m)
    rw [show m + (q - m) = q by omega] at this
    rw [← this, Int32.add_comm, Int32.add_sub_cancel]
  refine zV_eq (st2 := [.int (nI (q - m))]) rfl rfl (by rw [e2]) rfl ?_
  refine zV_blk (pc' := 24) (lo' := [(4, .int (nI (q - m))), (3, .int (nI q)), (2, .int (nI m)), (0, .ref b), (1, .int (nI q))]) (st' := [.ref b, .int 2, .int (nI m), .int (nI (q - m)), .int (nI m)]) [.istore 4, .iload_n 2, .iload 4, .iload_n 2, .iconst 2, .aload_n 0] (by decide +kernel) rfl ?_
  refine zV_get (ci := 13) (idx := 22) (k := 1) (N := 4) (fs := (sbC vb fl n)) (v := .int 0) (Or.inr h1) rfl z_inJ4 (by decide) (zT_mem 142 (by decide +kernel) rfl) rfl (by decide +kernel) ?_
  refine zV_blk (pc' := 29) (lo' := [(4, .int (nI (q - m))), (3, .int (nI q)), (2, .int (nI m)), (0, .ref b), (1, .int (nI q))]) (st' := [.int (nI m + ((2 : Int32) <<< ((0 : Int32) &&& 31))), .int (nI (q - m)), .int (nI m)]) [.ishl, .iadd] (by decide +kernel) rfl ?_
  refine zV_eq (st2 := [.int (nI (m + 2)), .int (nI (q - m)), .int (nI m)]) rfl rfl (by rw [sb_shl0, ← nI_add m 2]; rfl) rfl ?_
  refine zV_roS (idx := 114) (As := [.int (nI m), .int (nI (q - m)), .int (nI (m + 2))]) (rest := []) (fun Q2 hQ2 => cs_newLength s0 D cB cI cJ cD m (q - m) (m + 2) ⟨by omega, by omega, by omega, by omega⟩ hQ2) oJ8_newLength (zT_mem 781 (by decide +kernel) rfl) (zT_mem 782 (by decide +kernel) rfl) rfl rfl (Nat.le_of_ble_eq_true rfl) ⟨by decide, by decide⟩ (by decide +kernel) ?_
  rw [show m + max (q - m) (m + 2) = sbGrow q m by unfold sbGrow; rw [if_neg (by omega)]]
  refine zV_blk (pc' := 36) (lo' := [(5, .int (nI (sbGrow q m))), (4, .int (nI (q - m))), (3, .int (nI q)), (2, .int (nI m)), (0, .ref b), (1, .int (nI q))]) (st' := [.int (nI (sbGrow q m))]) [.istore 5, .iload 5] (by decide +kernel) rfl ?_
  refine zV_ldc (idx := 39) (v := 2147483647) (zT_mem 789 (by decide +kernel) rfl) (by decide +kernel) ?_
  have hg : sbGrow q m < 2 ^ 30 := by unfold sbGrow; rw [if_neg (by omega)]; omega
  refine zV_icmp_ne (tgt := 51) (off := 13) (by decide +kernel) (by decide) (fun _ => ?_) (fun q9 => absurd ((nI_eq (a := sbGrow q m) (b := 2147483647) (by omega) (by decide)).mp q9) (by omega))
  refine zV_blk (pc' := 54) (lo' := [(5, .int (nI (sbGrow q m))), (4, .int (nI (q - m))), (3, .int (nI q)), (2, .int (nI m)), (0, .ref b), (1, .int (nI q))]) (st' := [.ref b, .int (nI (sbGrow q m))]) [.iload 5, .aload_n 0] (by decide +kernel) rfl ?_
  refine zV_get (ci := 13) (idx := 22) (k := 1) (N := 4) (fs := (sbC vb fl n)) (v := .int 0) (Or.inr h1) rfl z_inJ4 (by decide) (zT_mem 142 (by decide +kernel) rfl) rfl (by decide +kernel) ?_
  refine zV_blk (pc' := 58) (lo' := [(5, .int (nI (sbGrow q m))), (4, .int (nI (q - m))), (3, .int (nI q)), (2, .int (nI m)), (0, .ref b), (1, .int (nI q))]) (st' := [.int (nI (sbGrow q m) >>> ((0 : Int32) &&& 31))]) [.ishr] (by decide +kernel) rfl ?_
  refine zV_eq (st2 := [.int (nI (sbGrow q m))]) rfl rfl (by rw [sb_shr0]) rfl ?_
  exact zV_iret rfl (by decide +kernel) hQ
theorem oJ7_copyOf : zO yJ7_copyOf_9075b cJ7_copyOf_9075b 3 (some (.array .byte)) 2 := ⟨zT_mem 792 (by decide +kernel) rfl, (zT_mem 109 (by decide +kernel) rfl), (by decide +kernel), (by decide +kernel), (by decide +kernel)⟩
set_option maxRecDepth 100000 in
theorem cs_copyOf (s0 : State) (D : va_G) (cB cI cJ cD : ClassId) (vb m p : Nat) (f : Nat → Int32) {hi hm : zHp} {nx : Nat} {Q : Option Value → zHp → zHp → Nat → Prop} (h2 : hm vb = some (.inl (cB, m, .inl f))) (hf : ∀ i, fits .byte (.int (f i)) = true) (hs : m < p ∧ p ≤ 100000) (mc ms : Nat) (hR : 1 ≤ mc ∧ p ≤ ms) (hQ : ∀ hm' nx' nv, hm nv = none → hm' nv = some (.inl (cB, p, .inl (va_cpy f (fun _ => 0) 0 0 m))) → (∀ q, q ≠ nv → hm' q = hm q) → Q (some (.ref nv)) hi hm' nx') : zM s0 D (zty cB cI cJ cD) yJ7_copyOf_9075b cJ7_copyOf_9075b 3 (some (.array .byte)) 1 60 mc ms [.ref vb, .int (nI p)] hi hm nx Q := by
  refine zM_ofF (by decide +kernel) (Nat.le_of_ble_eq_true rfl) ?_
  refine zV_eq (lo2 := [(0, .ref vb), (1, .int (nI p))]) rfl rfl rfl rfl ?_
  refine zV_blk (pc' := 2) (lo' := [(0, .ref vb), (1, .int (nI p))]) (st' := [.ref vb, .int (nI p)]) [.iload_n 1, .aload_n 0] (by decide +kernel) rfl ?_
  refine zV_alen 0 (Or.inr h2) rfl (by decide +kernel) ?_
  refine zV_icmp_ne (tgt := 14) (off := 11) (by decide +kernel) (by decide) (fun _ => ?_) (fun q9 => absurd ((nI_eq (a := p) (b := m) (by omega) (by omega)).mp q9) (by omega))
  refine zV_blk (pc' := 15) (lo' := [(0, .ref vb), (1, .int (nI p))]) (st' := [.int (nI p)]) [.iload_n 1] (by decide +kernel) rfl ?_
  refine zV_less (mc' := 0 + 1) (ms' := 0 + p) (by omega) (by omega) ?_
  refine zV_newB (mc := 0) (ms := 0) (n := nI p) (N := p) (zT_mem 154 (by decide +kernel) rfl) (nI_pos (by omega)) (nI_clamp (by omega)) (by show p * 1 ≤ _; omega) (by decide +kernel) (fun _ hn => ?_)
  have h2n : va_up hm nx (some (.inl (cB, p, .inl (fun _ => 0)))) vb = some (.inl (cB, m, .inl f)) := zUno hn h2
  refine zV_blk (pc' := 23) (lo' := [(2, .ref nx), (0, .ref vb), (1, .int (nI p))]) (st' := [.ref vb, .int 0, .ref nx, .int 0, .ref vb]) [.astore_n 2, .aload_n 0, .iconst 0, .aload_n 2, .iconst 0, .aload_n 0] (by decide +kernel) rfl ?_
  refine zV_alen 0 (Or.inr h2n) rfl (by decide +kernel) ?_
  refine zV_blk (pc' := 25) (lo' := [(2, .ref nx), (0, .ref vb), (1, .int (nI p))]) (st' := [.int (nI p), .int (nI m), .int 0, .ref nx, .int 0, .ref vb]) [.iload_n 1] (by decide +kernel) rfl ?_
  have e1 : j_minI (nI m) (nI p) = some (nI m) := by unfold j_minI; rw [if_neg (nI_nlt (by omega) (by omega))]
  refine zV_roS (idx := 304) (rest := [.int 0, .ref nx, .int 0, .ref vb]) (fun Q2 hQ2 => cj_minI s0 D cB cI cJ cD (nI m) (nI p) (nI m) e1 hQ2) oJ9_min_7cf53 (zT_mem 800 (by decide +kernel) rfl) (zT_mem 225 (by decide +kernel) rfl) rfl rfl (Nat.le_of_ble_eq_true rfl) ⟨by decide, by decide⟩ (by decide +kernel) ?_
  refine zV_cpy (idx := 150) (sp := 0) (dp := 0) (k := nI m) (n0 := m) (n1 := p) (f := f) (g := fun _ => 0) 0 (zSrc_hm 0 (Or.inr h2n) rfl) zUe rfl (by decide) (by decide) (nI_pos (by omega)) (by rw [nI_clamp (by omega), sb_cl0]; omega) (by rw [nI_clamp (by omega), sb_cl0]; omega) (fun i _ => hf _) (zT_mem 801 (by decide +kernel) rfl) (zT_mem 803 (by decide +kernel) rfl) (zT_mem 802 (by decide +kernel) rfl) (zT_mem 110 (by decide +kernel) rfl) ⟨by decide, by decide⟩ (by decide +kernel) ?_
  rw [nI_clamp (show m < 2 ^ 31 by omega), sb_cl0]
  refine zV_blk (pc' := 32) (lo' := [(2, .ref nx), (0, .ref vb), (1, .int (nI p))]) (st' := [.ref nx]) [.aload_n 2] (by decide +kernel) rfl ?_
  exact zV_aret rfl (Or.inr ⟨_, rfl⟩) (Or.inr ⟨_, rfl⟩) (by decide +kernel) (hQ _ _ _ hn zUe (fun q hq => by rw [zUn hq rfl, zUn hq rfl]))
theorem oJ5_ens : zO yJ5_ensureCapacityInternal_d00df cJ5_ensureCapacityInternal_d00df 3 none 1 := ⟨zT_mem 776 (by decide +kernel) rfl, (zT_mem 90 (by decide +kernel) rfl), (by decide +kernel), (by decide +kernel), (by decide +kernel)⟩
set_option maxRecDepth 100000 in
theorem cs_ens (s0 : State) (D : va_G) (cB cI cJ cD : ClassId) (X : Nat → Prop) (b q : Nat) (sb : vSB) {hi hm : zHp} {nx : Nat} {Q : Option Value → zHp → zHp → Nat → Prop} (hW : bW X cB b sb hm) (hok : sbOk sb) (hq : q ≤ 2400) (hQ : ∀ hm' nx', bW X cB b (sbEns q sb) hm' → lFr X hm hm' → Q none hi hm' nx') : zM s0 D (zty cB cI cJ cD) yJ5_ensureCapacityInternal_d00df cJ5_ensureCapacityInternal_d00df 3 none 3 82 (sbPhi sb.2.1 - sbPhi (sbEns q sb).2.1) (sbPhi sb.2.1 - sbPhi (sbEns q sb).2.1) [.ref b, .int (nI q)] hi hm nx Q := by
  refine zM_ofF (by decide +kernel) (Nat.le_of_ble_eq_true rfl) ?_
  refine zV_eq (lo2 := [(0, .ref b), (1, .int (nI q))]) rfl rfl rfl rfl ?_
  obtain ⟨vb, h1, h2, h3, h4, h5⟩ := hW
  obtain ⟨o1, o2, o3⟩ := id hok
  refine zV_blk (pc' := 1) (lo' := [(0, .ref b), (1, .int (nI q))]) (st' := [.ref b]) [.aload_n 0] (by decide +kernel) rfl ?_
  refine zV_get (ci := 13) (idx := 15) (k := 0) (N := 4) (fs := (sbC vb sb.2.2.1 sb.1)) (v := .ref vb) (Or.inr h1) rfl z_inJ4 (by decide) (zT_mem 141 (by decide +kernel) rfl) rfl (by decide +kernel) ?_
  refine zV_alen 0 (Or.inr h2) rfl (by decide +kernel) ?_
  refine zV_blk (pc' := 6) (lo' := [(0, .ref b), (1, .int (nI q))]) (st' := [.ref b, .int (nI sb.2.1)]) [.aload_n 0] (by decide +kernel) rfl ?_
  refine zV_get (ci := 13) (idx := 22) (k := 1) (N := 4) (fs := (sbC vb sb.2.2.1 sb.1)) (v := .int 0) (Or.inr h1) rfl z_inJ4 (by decide) (zT_mem 142 (by decide +kernel) rfl) rfl (by decide +kernel) ?_
  refine zV_blk (pc' := 10) (lo' := [(0, .ref b), (1, .int (nI q))]) (st' := [.int (nI sb.2.1 >>> ((0 : Int32) &&& 31))]) [.ishr] (by decide +kernel) rfl ?_
  refine zV_eq (st2 := [.int (nI sb.2.1)]) rfl rfl (by rw [sb_shr0]) rfl ?_
  refine zV_blk (pc' := 14) (lo' := [(2, .int (nI sb.2.1)), (0, .ref b), (1, .int (nI q))]) (st' := [.int ((nI q) - (nI sb.2.1))]) [.istore_n 2, .iload_n 1, .iload_n 2, .isub] (by decide +kernel) rfl ?_
  have e1 : (nI q - nI sb.2.1).toInt = (q : Int) - sb.2.1 := pk_sub_toInt (by omega) (by omega)
  refine zV_if_le (tgt := 38) (off := 24) (by decide +kernel) (by decide) (fun c => ?_) (fun c => ?_)
  · rw [Int32.le_iff_toInt_le, e1, Int32.toInt_zero] at c
    have hc : q ≤ sb.2.1 := by omega
    have e2 : sbEns q sb = sb := by unfold sbEns; rw [if_pos hc]
    rw [e2] at hQ
    exact zV_vret rfl (by decide +kernel) (hQ _ _ ⟨vb, h1, h2, h3, h4, h5⟩ lFr.rf)
  · rw [Int32.le_iff_toInt_le, e1, Int32.toInt_zero] at c
    have hc : ¬ q ≤ sb.2.1 := by omega
    have e2 : sbEns q sb = (sb.1, sbGrow q sb.2.1, sb.2.2.1, va_cpy sb.2.2.2 (fun _ => 0) 0 0 sb.2.1) := by unfold sbEns; rw [if_neg hc]
    obtain ⟨g1, g2, g3, g4, g5⟩ := sbPhi_grow hq hc
    refine zV_blk (pc' := 19) (lo' := [(2, .int (nI sb.2.1)), (0, .ref b), (1, .int (nI q))]) (st' := [.ref b, .ref b]) [.aload_n 0, .aload_n 0] (by decide +kernel) rfl ?_
    refine zV_get (ci := 13) (idx := 15) (k := 0) (N := 4) (fs := (sbC vb sb.2.2.1 sb.1)) (v := .ref vb) (Or.inr h1) rfl z_inJ4 (by decide) (zT_mem 141 (by decide +kernel) rfl) rfl (by decide +kernel) ?_
    refine zV_blk (pc' := 24) (lo' := [(2, .int (nI sb.2.1)), (0, .ref b), (1, .int (nI q))]) (st' := [.int (nI q), .ref b, .ref vb, .ref b]) [.aload_n 0, .iload_n 1] (by decide +kernel) rfl ?_
    refine zV_callP (idx := 104) (As := [.int (nI q)]) (rest := [.ref vb, .ref b]) (C := RJ4) (T := TJ4) (N := 4) (cs_newCapacity s0 D cB cI cJ cD b vb sb.1 sb.2.1 q sb.2.2.1 sb.2.2.2 (Q := fun v' hi' hm' nx' => v' = some (.int (nI (sbGrow q sb.2.1))) ∧ hi = hi' ∧ hm = hm' ∧ nx = nx') h1 h2 ⟨by omega, by omega⟩ ⟨rfl, rfl, rfl, rfl⟩) oJ5_newCapacity (Or.inr h1) rfl (zT_mem 777 (by decide +kernel) rfl) (zT_mem 2093 (by decide +kernel) rfl) (zT_mem 124 (by decide +kernel) rfl) (List.mem_of_getElem? (i := 778) (by decide +kernel)) (zT_mem 779 (by decide +kernel) rfl) ⟨(by decide +kernel), (by decide +kernel), (by decide +kernel)⟩ rfl rfl (Nat.le_of_ble_eq_true rfl) ⟨by decide, by decide⟩ ⟨Nat.zero_le _, Nat.zero_le _⟩ (by decide +kernel) ?_
    rintro _ _ _ _ ⟨rfl, rfl, rfl, rfl⟩
    refine zV_eq (st2 := [.int (nI (sbGrow q sb.2.1)), .ref vb, .ref b]) rfl rfl rfl rfl ?_
    refine zV_blk (pc' := 28) (lo' := [(2, .int (nI sb.2.1)), (0, .ref b), (1, .int (nI q))]) (st' := [.ref b, .int (nI (sbGrow q sb.2.1)), .ref vb, .ref b]) [.aload_n 0] (by decide +kernel) rfl ?_
    refine zV_get (ci := 13) (idx := 22) (k := 1) (N := 4) (fs := (sbC vb sb.2.2.1 sb.1)) (v := .int 0) (Or.inr h1) rfl z_inJ4 (by decide) (zT_mem 142 (by decide +kernel) rfl) rfl (by decide +kernel) ?_
    refine zV_blk (pc' := 32) (lo' := [(2, .int (nI sb.2.1)), (0, .ref b), (1, .int (nI q))]) (st' := [.int (nI (sbGrow q sb.2.1) <<< ((0 : Int32) &&& 31)), .ref vb, .ref b]) [.ishl] (by decide +kernel) rfl ?_
    refine zV_eq (st2 := [.int (nI (sbGrow q sb.2.1)), .ref vb, .ref b]) rfl rfl (by rw [sb_shl0]) rfl ?_
    refine zV_callS (idx := 108) (As := [.ref vb, .int (nI (sbGrow q sb.2.1))]) (rest := [.ref b]) (cs_copyOf s0 D cB cI cJ cD vb sb.2.1 (sbGrow q sb.2.1) sb.2.2.2 (Q := fun v' hi' hm' nx' => ∃ nv, v' = some (.ref nv) ∧ hi = hi' ∧ hm nv = none ∧ hm' nv = some (.inl (cB, sbGrow q sb.2.1, .inl (va_cpy sb.2.2.2 (fun _ => 0) 0 0 sb.2.1))) ∧ ∀ q, q ≠ nv → hm' q = hm q) h2 o3 ⟨g4, by omega⟩ (sbPhi sb.2.1 - sbPhi (sbGrow q sb.2.1)) (sbPhi sb.2.1 - sbPhi (sbGrow q sb.2.1)) ⟨g1, g2⟩ (fun hm' nx' nv k1 k2 k3 => ⟨nv, rfl, rfl, k1, k2, k3⟩)) oJ7_copyOf (zT_mem 790 (by decide +kernel) rfl) (zT_mem 791 (by decide +kernel) rfl) rfl rfl (Nat.le_of_ble_eq_true rfl) ⟨by decide, by decide⟩ ⟨by rw [e2]; exact Nat.le_refl _, by rw [e2]; exact Nat.le_refl _⟩ (by decide +kernel) ?_
    rintro _ _ hm2 nx2 ⟨nv, rfl, rfl, k1, k2, k3⟩
    have nbv : b ≠ nv := fun e => by subst e; rw [h1] at k1; cases k1
    have h1n : hm2 b = some (.inr (13, sbC vb sb.2.2.1 sb.1)) := (k3 b nbv).trans h1
    have h5n : ∀ q, X q → hm2 q = hm q := fun q hq => k3 q (fun e => by subst e; exact h5 q hq k1)
    refine zV_eq (st2 := [.ref nv, .ref b]) rfl rfl rfl rfl ?_
    refine zV_put (ci := 13) (idx := 15) (k := 0) (N := 4) (fs := (sbC vb sb.2.2.1 sb.1)) tyJ4 h1n rfl z_inJ4 tyJ4_ok nmJ4 (by decide) (zT_mem 141 (by decide +kernel) rfl) rfl rfl rfl rfl (by show 0 < 4; decide) (by decide +kernel) ?_
    rw [e2] at hQ
    refine zV_vret rfl (by decide +kernel) (hQ _ _ ⟨nv, zUe, zUn nbv.symm k2, h3, fun e => h5 nv e k1, fun q hq => ?_⟩ (fun q hq => ?_))
    · rw [zUn (fun e : q = b => h3 (e ▸ hq)) rfl, h5n q hq]; exact h5 q hq
    · rw [zUn (fun e : q = b => h3 (e ▸ hq)) rfl]; exact h5n q hq
