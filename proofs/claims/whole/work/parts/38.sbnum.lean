/-! ===== the text builder: numbers ===== -/
/-- a number's digits -/
def dec (v : Nat) : List Int32 := if h : v < 10 then [nI (48 + v)] else dec (v / 10) ++ [nI (48 + v % 10)]
termination_by v
decreasing_by omega
theorem dec_lt {v : Nat} (h : v < 10) : dec v = [nI (48 + v)] := by rw [dec, dif_pos h]
theorem dec_ge {v : Nat} (h : ¬ v < 10) : dec v = dec (v / 10) ++ [nI (48 + v % 10)] := by rw [dec, dif_neg h]
theorem dec_len : ∀ (i v : Nat), (10 ^ i ≤ v ∨ i = 0) → v < 10 ^ (i + 1) → (dec v).length = i + 1
  | 0, v, _, h => by rw [dec_lt (by simpa using h)]; rfl
  | i + 1, v, h1, h2 => by
    have h3 : 10 ^ (i + 1) ≤ v := h1.resolve_right (by omega)
    have h4 : 1 ≤ 10 ^ i := Nat.one_le_pow _ _ (by decide)
    rw [Nat.pow_succ] at h3 h2
    have h5 : 10 ^ i ≤ v / 10 := by omega
    have h6 : v / 10 < 10 ^ (i + 1) := by omega
    rw [dec_ge (by omega), List.length_append, dec_len i (v / 10) (Or.inl h5) h6]
    rfl
theorem dec_pos (v : Nat) : 1 ≤ (dec v).length := by
  by_cases h : v < 10
  · rw [dec_lt h]; exact Nat.le_refl _
  · rw [dec_ge h, List.length_append]; exact Nat.le_add_left _ _
theorem dec_fit1 {d : Nat} (h : d < 10) : fits .byte (.int (nI (48 + d))) = true := by
  have : d = 0 ∨ d = 1 ∨ d = 2 ∨ d = 3 ∨ d = 4 ∨ d = 5 ∨ d = 6 ∨ d = 7 ∨ d = 8 ∨ d = 9 := by omega
  rcases this with rfl | rfl | rfl | rfl | rfl | rfl | rfl | rfl | rfl | rfl <;> decide +kernel
theorem dec_fit (v : Nat) : ∀ c ∈ dec v, fits .byte (.int c) = true := by
  by_cases h : v < 10
  · rw [dec_lt h]
    intro c hc
    rw [List.mem_singleton.mp hc]
    exact dec_fit1 h
  · rw [dec_ge h]
    intro c hc
    rcases List.mem_append.mp hc with hc | hc
    · exact dec_fit (v / 10) c hc
    · rw [List.mem_singleton.mp hc]
      exact dec_fit1 (Nat.mod_lt _ (by decide))
termination_by v
decreasing_by omega
theorem fit_getD {l : List Int32} (h : ∀ c ∈ l, fits .byte (.int c) = true) : ∀ i, fits .byte (.int (l.getD i 0)) = true := by
  intro i
  rw [List.getD_eq_getElem?_getD]
  cases e : l[i]? with
  | none => decide
  | some c => exact h c (List.mem_of_getElem? e)
def iN (v : Nat) : Int32 := -(nI v)
theorem nI_dec {p : Nat} (h : 1 ≤ p) : nI p + (-1) = nI (p - 1) := by
  have := nI_pred (p - 1)
  rw [show p - 1 + 1 = p by omega] at this
  rw [← this, Int32.sub_eq_add_neg]
theorem iN_toInt {v : Nat} (h : v < 2 ^ 30) : (iN v).toInt = -(v : Int) := by
  unfold iN
  rw [Int32.toInt_neg, nI_toInt (by omega), Int.bmod_eq_of_le (by omega) (by omega)]
theorem iN_le {v w : Nat} (hv : v < 2 ^ 30) (hw : w < 2 ^ 30) : iN v ≤ iN w ↔ w ≤ v := by rw [Int32.le_iff_toInt_le, iN_toInt hv, iN_toInt hw]; omega
theorem iN_lt {v w : Nat} (hv : v < 2 ^ 30) (hw : w < 2 ^ 30) : iN v < iN w ↔ w < v := by rw [Int32.lt_iff_toInt_lt, iN_toInt hv, iN_toInt hw]; omega
theorem iN_neg (v : Nat) : -(iN v) = nI v := by unfold iN; rw [Int32.neg_neg]
theorem iN_mul {v : Nat} (h : v < 2 ^ 25) : (10 : Int32) * iN v = iN (10 * v) := by
  apply Int32.toInt_inj.mp
  rw [Int32.toInt_mul, iN_toInt (by omega), iN_toInt (by omega), show (10 : Int32).toInt = 10 by decide]
  rw [Int.bmod_eq_of_le (by omega) (by omega)]
  omega
theorem iN_div {v : Nat} (h : v < 2 ^ 30) : iN v / 100 = iN (v / 100) := by
  apply Int32.toInt_inj.mp
  have h1 : (100 : Int32).toInt = 100 := by decide
  rw [Int32.toInt_div_of_ne_right _ _ (by decide), iN_toInt h, iN_toInt (by omega), h1, Int.neg_tdiv]
  have : ((v : Int).tdiv 100) = ((v / 100 : Nat) : Int) := by rw [Int.tdiv_eq_ediv_of_nonneg (by omega)]; omega
  rw [this]
theorem iN_rem {v : Nat} (h : v < 2 ^ 30) : iN (v / 100) * 100 - iN v = nI (v % 100) := by
  apply Int32.toInt_inj.mp
  have h1 : (100 : Int32).toInt = 100 := by decide
  have h2 : ((iN (v / 100)) * 100).toInt = -((v / 100 * 100 : Nat) : Int) := by
    rw [Int32.toInt_mul, iN_toInt (by omega), h1, Int.bmod_eq_of_le (by omega) (by omega)]
    omega
  rw [Int32.toInt_sub, h2, iN_toInt h, nI_toInt (by omega), Int.bmod_eq_of_le (by omega) (by omega)]
  omega
/-- the JDK's tables of digits -/
def dOnes : Nat → Int32 := fun j => nI (48 + j % 10)
def dTens : Nat → Int32 := fun j => nI (48 + j / 10)
set_option maxRecDepth 100000 in
theorem zDigitOnes : ∀ j : Nat, j < 100 → Cond.eq (.elem (.static "java/lang/Integer" "DigitOnes" "[B") (.int (Int32.ofNat j))) (.int (dOnes j)) ∈ flatC (Jvm.Cond.and given_1 narrow_1) := va_run (L := zFl) (p := 12) (by decide +kernel)
set_option maxRecDepth 100000 in
theorem zDigitTens : ∀ j : Nat, j < 100 → Cond.eq (.elem (.static "java/lang/Integer" "DigitTens" "[B") (.int (Int32.ofNat j))) (.int (dTens j)) ∈ flatC (Jvm.Cond.and given_1 narrow_1) := va_run (L := zFl) (p := 115) (by decide +kernel)
theorem oJ6_stringSize : zO yJ6_stringSize_0f7a4 cJ6_stringSize_0f7a4 4 (some .int) 1 := ⟨zT_mem 901 (by decide +kernel) rfl, (zT_mem 111 (by decide +kernel) rfl), (by decide +kernel), (by decide +kernel), (by decide +kernel)⟩
set_option maxRecDepth 100000 in
theorem cs_stringSize_16 (s0 : State) (D : va_G) (cB cI cJ cD : ClassId) (v : Nat) {hi hm : zHp} {nx : Nat} {Q : Option Value → zHp → zHp → Nat → Prop} (hv : v < 10 ^ 7) (hQ : Q (some (.int (nI (dec v).length))) hi hm nx) : ∀ (k i : Nat) (_ : i + k = 8) (hi2 : 10 ^ i ≤ v ∨ i = 0), zV s0 D (zty cB cI cJ cD) yJ6_stringSize_0f7a4 cJ6_stringSize_0f7a4 4 (some .int) 0 0 0 0 16 [(3, .int (nI (i + 1))), (2, .int (iN (10 ^ (i + 1)))), (0, .int (iN v)), (1, .int 0)] [] hi hm nx Q
  | 0, i, hk, hi2 => by
    obtain rfl : i = 8 := by omega
    rcases hi2 with h | h
    · exact absurd h (by omega)
    · exact absurd h (by decide)
  | k + 1, i, hk, hi2 => by
    have hp : 10 ^ i ≤ 10 ^ 8 := Nat.pow_le_pow_right (by decide) (by omega)
    have hp1 : 10 ^ (i + 1) = 10 * 10 ^ i := by rw [Nat.pow_succ, Nat.mul_comm]
    refine zV_blk (pc' := 19) (lo' := [(3, .int (nI (i + 1))), (2, .int (iN (10 ^ (i + 1)))), (0, .int (iN v)), (1, .int 0)]) (st' := [.int 10, .int (nI (i + 1))]) [.iload_n 3, .bipush 10] (by decide +kernel) rfl ?_
    refine zV_icmp_ge (tgt := 42) (off := 23) (by decide +kernel) (by decide) (fun q => absurd (show nI 10 ≤ nI (i + 1) from q) (nI_ge (by omega) (by decide))) (fun _ => ?_)
    refine zV_blk (pc' := 24) (lo' := [(3, .int (nI (i + 1))), (2, .int (iN (10 ^ (i + 1)))), (0, .int (iN v)), (1, .int 0)]) (st' := [.int (iN (10 ^ (i + 1))), .int (iN v)]) [.iload_n 0, .iload_n 2] (by decide +kernel) rfl ?_
    refine zV_icmp_le (tgt := 31) (off := 7) (by decide +kernel) (by decide) (fun q => ?_) (fun q => ?_)
    · rw [iN_le (by omega) (by omega)] at q
      refine zV_blk (pc' := 35) (lo' := [(3, .int (nI (i + 1))), (2, .int (iN (10 ^ (i + 1)))), (0, .int (iN v)), (1, .int 0)]) (st' := [.int (10 * (iN (10 ^ (i + 1))))]) [.bipush 10, .iload_n 2, .imul] (by decide +kernel) rfl ?_
      refine zV_eq (st2 := [.int (iN (10 ^ (i + 2)))]) rfl rfl (by rw [iN_mul (by omega), ← show 10 ^ (i + 2) = 10 * 10 ^ (i + 1) by rw [Nat.pow_succ, Nat.mul_comm]]) rfl ?_
      refine zV_blk (pc' := 39) (lo' := [(3, .int ((nI (i + 1)) + 1)), (2, .int (iN (10 ^ (i + 2)))), (0, .int (iN v)), (1, .int 0)]) (st' := []) [.istore_n 2, .iinc 3 1] (by decide +kernel) rfl ?_
      refine zV_goto (tgt := 16) (off := -23) (by decide +kernel) (by decide) ?_
      rw [show nI (i + 1) + 1 = nI (i + 1 + 1) from (nI_1 _)]
      refine zV_pick (lo2 := [(3, .int (nI (i + 1 + 1))), (2, .int (iN (10 ^ (i + 1 + 1)))), (0, .int (iN v)), (1, .int 0)]) [0, 1, 2, 3] rfl ?_
      exact cs_stringSize_16 s0 D cB cI cJ cD v hv hQ k (i + 1) (by omega) (Or.inl q)
    · rw [iN_le (by omega) (by omega)] at q
      refine zV_blk (pc' := 30) (lo' := [(3, .int (nI (i + 1))), (2, .int (iN (10 ^ (i + 1)))), (0, .int (iN v)), (1, .int 0)]) (st' := [.int ((nI (i + 1)) + 0)]) [.iload_n 3, .iload_n 1, .iadd] (by decide +kernel) rfl ?_
      refine zV_eq (st2 := [.int (nI (i + 1))]) rfl rfl (by rw [Int32.add_zero]) rfl ?_
      rw [dec_len i v hi2 (by omega)] at hQ
      exact zV_iret rfl (by decide +kernel) hQ
set_option maxRecDepth 100000 in
theorem cs_stringSize (s0 : State) (D : va_G) (cB cI cJ cD : ClassId) (v : Nat) {hi hm : zHp} {nx : Nat} {Q : Option Value → zHp → zHp → Nat → Prop} (hv : v < 10 ^ 7) (hQ : Q (some (.int (nI (dec v).length))) hi hm nx) : zM s0 D (zty cB cI cJ cD) yJ6_stringSize_0f7a4 cJ6_stringSize_0f7a4 4 (some .int) 0 0 0 0 [.int (nI v)] hi hm nx Q := by
  refine zM_ofF (by decide +kernel) (Nat.le_of_ble_eq_true rfl) ?_
  refine zV_eq (lo2 := [(0, .int (nI v))]) rfl rfl rfl rfl ?_
  refine zV_blk (pc' := 3) (lo' := [(1, .int 1), (0, .int (nI v))]) (st' := [.int (nI v)]) [.iconst 1, .istore_n 1, .iload_n 0] (by decide +kernel) rfl ?_
  refine zV_if_lt (tgt := 11) (off := 8) (by decide +kernel) (by decide) (fun q => absurd q (nI_pos (by omega))) (fun _ => ?_)
  refine zV_blk (pc' := 16) (lo' := [(3, .int 1), (2, .int (iN 10)), (0, .int (iN v)), (1, .int 0)]) (st' := []) [.iconst 0, .istore_n 1, .iload_n 0, .ineg, .istore_n 0, .bipush (-10), .istore_n 2, .iconst 1, .istore_n 3] (by decide +kernel) rfl ?_
  refine zV_pick (lo2 := [(3, .int (nI (0 + 1))), (2, .int (iN (10 ^ (0 + 1)))), (0, .int (iN v)), (1, .int 0)]) [0, 1, 2, 3] rfl ?_
  exact cs_stringSize_16 s0 D cB cI cJ cD v hv hQ 8 0 rfl (Or.inr rfl)
theorem oJ6_getChars : zO yJ6_getChars_ba4f3 cJ6_getChars_ba4f3 7 (some .int) 3 := ⟨zT_mem 904 (by decide +kernel) rfl, (zT_mem 111 (by decide +kernel) rfl), (by decide +kernel), (by decide +kernel), (by decide +kernel)⟩
theorem upd_dig {f : Nat → Int32} {p : Nat} {d : Nat} (hd : d < 10) : upd f p (vp_nar .byte (nI (48 + d))) = upd f p (nI (48 + d)) := by
  have : d = 0 ∨ d = 1 ∨ d = 2 ∨ d = 3 ∨ d = 4 ∨ d = 5 ∨ d = 6 ∨ d = 7 ∨ d = 8 ∨ d = 9 := by omega
  have e : vp_nar .byte (nI (48 + d)) = nI (48 + d) := by rcases this with rfl | rfl | rfl | rfl | rfl | rfl | rfl | rfl | rfl | rfl <;> decide +kernel
  rw [e]
theorem cpy_dig1 {f : Nat → Int32} {p v : Nat} (hv : v < 10) (hp : 1 ≤ p) : upd f (p - 1) (nI (48 + v)) = va_cpy (fun j => (dec v).getD j 0) f 0 (p - (dec v).length) (dec v).length := by
  rw [dec_lt hv]
  funext j
  unfold upd va_cpy
  dsimp only
  by_cases e : j = p - 1
  · rw [if_pos e, if_pos ⟨by show p - 1 ≤ j; omega, by show j < p - 1 + 1; omega⟩, show (0 + (j - (p - [nI (48 + v)].length))) = 0 by show 0 + (j - (p - 1)) = 0; omega]
    rfl
  · rw [if_neg e, if_neg (by show ¬ (p - 1 ≤ j ∧ j < p - 1 + 1); omega)]
theorem getD_app1 (l : List Int32) (c : Int32) : (l ++ [c]).getD l.length 0 = c := by simp [List.getD_eq_getElem?_getD]
theorem getD_app0 {l : List Int32} {c : Int32} {j : Nat} (h : j < l.length) : (l ++ [c]).getD j 0 = l.getD j 0 := by simp [List.getD_eq_getElem?_getD, List.getElem?_append_left h]
/-- the last digit first, the others ahead of it -/
theorem cpy_dig {f : Nat → Int32} {p v : Nat} (hv : ¬ v < 10) (hp : (dec v).length ≤ p) : va_cpy (fun j => (dec (v / 10)).getD j 0) (upd f (p - 1) (nI (48 + v % 10))) 0 (p - 1 - (dec (v / 10)).length) (dec (v / 10)).length = va_cpy (fun j => (dec v).getD j 0) f 0 (p - (dec v).length) (dec v).length := by
  have hl : (dec v).length = (dec (v / 10)).length + 1 := by rw [dec_ge hv, List.length_append]; rfl
  rw [hl] at hp ⊢
  have hd := dec_ge hv
  have hq := dec_pos (v / 10)
  generalize dec (v / 10) = l at hd hp hq ⊢
  rw [hd]
  funext j
  unfold upd va_cpy
  dsimp only
  by_cases e : j = p - 1
  · subst e
    rw [if_neg (by omega), if_pos rfl, if_pos ⟨by omega, by omega⟩, show 0 + (p - 1 - (p - (l.length + 1))) = l.length by omega, getD_app1]
  · by_cases e2 : p - (l.length + 1) ≤ j ∧ j < p - (l.length + 1) + (l.length + 1)
    · rw [if_pos (by omega), if_pos e2, show 0 + (j - (p - 1 - l.length)) = j - (p - (l.length + 1)) by omega, show 0 + (j - (p - (l.length + 1))) = j - (p - (l.length + 1)) by omega, getD_app0 (by omega)]
    · rw [if_neg (by omega), if_neg e, if_neg e2]
theorem va_up_up {h : zHp} {a : Nat} {e1 e2 : Option va_E} : va_up (va_up h a e1) a e2 = va_up h a e2 := by
  funext q
  unfold va_up
  split <;> rfl
set_option maxRecDepth 100000 in
theorem cs_getChars_22 (s0 : State) (D : va_G) (cB cI cJ cD : ClassId) (vb m v p : Nat) (f : Nat → Int32) (hm : zHp) {hi : zHp} {nx : Nat} {Q : Option Value → zHp → zHp → Nat → Prop} (h2 : hm vb = some (.inl (cB, m, .inl f))) (hv : v < 10 ^ 7 ∧ p ≤ m ∧ m ≤ 5000) (hp : (dec v).length ≤ p) (hQ : ∀ r nx', Q (some (.int r)) hi (va_up hm vb (some (.inl (cB, m, .inl (va_cpy (fun j => (dec v).getD j 0) f 0 (p - (dec v).length) (dec v).length))))) nx') : zV s0 D (zty cB cI cJ cD) yJ6_getChars_ba4f3 cJ6_getChars_ba4f3 7 (some .int) 0 0 0 0 22 [(0, .int (iN v)), (2, .ref vb), (5, .int (nI p)), (6, .int 0)] [] hi hm nx Q := by
    have hp1 := dec_pos v
    refine zV_blk (pc' := 25) (lo' := [(0, .int (iN v)), (2, .ref vb), (5, .int (nI p)), (6, .int 0)]) (st' := [.int (-100), .int (iN v)]) [.iload_n 0, .bipush (-100)] (by decide +kernel) rfl ?_
    refine zV_icmp_gt (tgt := 72) (off := 47) (by decide +kernel) (by decide) (fun q => ?_) (fun q => ?_)
    · replace q : iN 100 < iN v := q
      rw [iN_lt (by decide) (by omega)] at q
      have e1 : nI p + (-1) = nI (p - 1) := nI_dec (by omega)
      refine zV_blk (pc' := 78) (lo' := [(5, .int ((nI p) + (-1))), (0, .int (iN v)), (2, .ref vb), (6, .int 0)]) (st' := [.int ((nI p) + (-1)), .ref vb]) [.aload_n 2, .iinc 5 (-1), .iload 5] (by decide +kernel) rfl ?_
      refine zV_eq (lo2 := [(5, .int (nI (p - 1))), (0, .int (iN v)), (2, .ref vb), (6, .int 0)]) (st2 := [.int (nI (p - 1)), .ref vb]) rfl (by rw [e1]) (by rw [e1]) rfl ?_
      refine zV_statB (idx := 83) (C := "java/lang/Integer") (nm := "DigitOnes") 100 dOnes (by decide) (List.mem_of_getElem? (i := 906) (by decide +kernel)) (List.mem_of_getElem? (i := 111) (by decide +kernel)) (zFl_at 10 (by decide +kernel)) (zFl_at 11 (by decide +kernel)) zDigitOnes (zT_mem 905 (by decide +kernel) rfl) (by decide +kernel) (fun t1 ht1 => ?_)
      refine zV_blk (pc' := 83) (lo' := [(5, .int (nI (p - 1))), (0, .int (iN v)), (2, .ref vb), (6, .int 0)]) (st' := [.int (-(iN v)), .ref t1, .int (nI (p - 1)), .ref vb]) [.iload_n 0, .ineg] (by decide +kernel) rfl ?_
      refine zV_eq (st2 := [.int (nI v), .ref t1, .int (nI (p - 1)), .ref vb]) rfl rfl (by rw [iN_neg]) rfl ?_
      refine zV_bld ht1 (by simp only [zin, Bool.and_eq_true, decide_eq_true_eq]; exact ⟨nI_pos' (by omega), by rw [nI_clamp (by omega)]; omega⟩) (by decide +kernel) ?_
      refine zV_bast 0 h2 rfl (nI_in (by omega) (by omega)) (by decide +kernel) ?_
      rw [nI_clamp (show p - 1 < 2 ^ 31 by omega), nI_clamp (show v < 2 ^ 31 by omega)]
      unfold dOnes
      rw [upd_dig (Nat.mod_lt _ (by decide))]
      refine zV_blk (pc' := 88) (lo' := [(5, .int (nI (p - 1))), (0, .int (iN v)), (2, .ref vb), (6, .int 0)]) (st' := [.int (-9), .int (iN v)]) [.iload_n 0, .bipush (-9)] (by decide +kernel) rfl ?_
      refine zV_icmp_ge (tgt := 104) (off := 16) (by decide +kernel) (by decide) (fun q2 => ?_) (fun q2 => ?_)
      · replace q2 : iN 9 ≤ iN v := q2
        rw [iN_le (by decide) (by omega)] at q2
        refine zV_blk (pc' := 106) (lo' := [(5, .int (nI (p - 1))), (0, .int (iN v)), (2, .ref vb), (6, .int 0)]) (st' := [.int 0]) [.iload 6] (by decide +kernel) rfl ?_
        refine zV_if_eq (tgt := 118) (off := 12) (by decide +kernel) (by decide) (fun _ => ?_) (fun q => absurd rfl q)
        refine zV_blk (pc' := 120) (lo' := [(5, .int (nI (p - 1))), (0, .int (iN v)), (2, .ref vb), (6, .int 0)]) (st' := [.int (nI (p - 1))]) [.iload 5] (by decide +kernel) rfl ?_
        rw [show v % 10 = v by omega, cpy_dig1 (show v < 10 by omega) (by omega)]
        exact zV_iret rfl (by decide +kernel) (hQ _ _)
      · replace q2 : ¬ iN 9 ≤ iN v := q2
        rw [iN_le (by decide) (by omega)] at q2
        have hlv : (dec v).length = 2 := dec_len 1 v (Or.inl (by omega)) (by omega)
        have e2 : nI (p - 1) + (-1) = nI (p - 2) := nI_dec (p := p - 1) (by omega)
        refine zV_blk (pc' := 97) (lo' := [(5, .int ((nI (p - 1)) + (-1))), (0, .int (iN v)), (2, .ref vb), (6, .int 0)]) (st' := [.int ((nI (p - 1)) + (-1)), .ref vb]) [.aload_n 2, .iinc 5 (-1), .iload 5] (by decide +kernel) rfl ?_
        refine zV_eq (lo2 := [(5, .int (nI (p - 2))), (0, .int (iN v)), (2, .ref vb), (6, .int 0)]) (st2 := [.int (nI (p - 2)), .ref vb]) rfl (by rw [e2]) (by rw [e2]) rfl ?_
        refine zV_statB (idx := 87) (C := "java/lang/Integer") (nm := "DigitTens") 100 dTens (by decide) (List.mem_of_getElem? (i := 908) (by decide +kernel)) (List.mem_of_getElem? (i := 111) (by decide +kernel)) (zFl_at 113 (by decide +kernel)) (zFl_at 114 (by decide +kernel)) zDigitTens (zT_mem 907 (by decide +kernel) rfl) (by decide +kernel) (fun t2 ht2 => ?_)
        refine zV_blk (pc' := 102) (lo' := [(5, .int (nI (p - 2))), (0, .int (iN v)), (2, .ref vb), (6, .int 0)]) (st' := [.int (-(iN v)), .ref t2, .int (nI (p - 2)), .ref vb]) [.iload_n 0, .ineg] (by decide +kernel) rfl ?_
        refine zV_eq (st2 := [.int (nI v), .ref t2, .int (nI (p - 2)), .ref vb]) rfl rfl (by rw [iN_neg]) rfl ?_
        refine zV_bld ht2 (by simp only [zin, Bool.and_eq_true, decide_eq_true_eq]; exact ⟨nI_pos' (by omega), by rw [nI_clamp (by omega)]; omega⟩) (by decide +kernel) ?_
        refine zV_bast 0 zUe rfl (nI_in (by omega) (by omega)) (by decide +kernel) ?_
        rw [nI_clamp (show p - 2 < 2 ^ 31 by omega), nI_clamp (show v < 2 ^ 31 by omega), va_up_up]
        unfold dTens
        rw [upd_dig (show v / 10 < 10 by omega)]
        refine zV_blk (pc' := 106) (lo' := [(5, .int (nI (p - 2))), (0, .int (iN v)), (2, .ref vb), (6, .int 0)]) (st' := [.int 0]) [.iload 6] (by decide +kernel) rfl ?_
        refine zV_if_eq (tgt := 118) (off := 12) (by decide +kernel) (by decide) (fun _ => ?_) (fun q => absurd rfl q)
        refine zV_blk (pc' := 120) (lo' := [(5, .int (nI (p - 2))), (0, .int (iN v)), (2, .ref vb), (6, .int 0)]) (st' := [.int (nI (p - 2))]) [.iload 5] (by decide +kernel) rfl ?_
        have c1 := cpy_dig1 (f := upd f (p - 1) (nI (48 + v % 10))) (p := p - 1) (v := v / 10) (by omega) (by omega)
        rw [show p - 1 - 1 = p - 2 by omega] at c1
        rw [c1, cpy_dig (by omega) (by omega)]
        exact zV_iret rfl (by decide +kernel) (hQ _ _)
    · replace q : ¬ iN 100 < iN v := q
      rw [iN_lt (by decide) (by omega)] at q
      have hl1 : (dec v).length = (dec (v / 10)).length + 1 := by rw [dec_ge (by omega), List.length_append]; rfl
      have hl2 : (dec (v / 10)).length = (dec (v / 10 / 10)).length + 1 := by rw [dec_ge (show ¬ v / 10 < 10 by omega), List.length_append]; rfl
      have hl3 := dec_pos (v / 10 / 10)
      have hdd : v / 10 / 10 = v / 100 := by omega
      have q9 : 100 ≤ v := by omega
      refine zV_blk (pc' := 31) (lo' := [(0, .int (iN v)), (2, .ref vb), (5, .int (nI p)), (6, .int 0)]) (st' := [.int 100, .int (iN v)]) [.iload_n 0, .bipush 100] (by decide +kernel) rfl ?_
      refine zV_idiv (by decide +kernel) (by decide) ?_
      refine zV_eq (st2 := [.int (iN (v / 100))]) rfl rfl (by rw [iN_div (by omega)]) rfl ?_
      refine zV_blk (pc' := 39) (lo' := [(3, .int (iN (v / 100))), (0, .int (iN v)), (2, .ref vb), (5, .int (nI p)), (6, .int 0)]) (st' := [.int (((iN (v / 100)) * 100) - (iN v))]) [.istore_n 3, .iload_n 3, .bipush 100, .imul, .iload_n 0, .isub] (by decide +kernel) rfl ?_
      refine zV_eq (st2 := [.int (nI (v % 100))]) rfl rfl (by rw [iN_rem (by omega)]) rfl ?_
      have e1 : nI p + (-1) = nI (p - 1) := nI_dec (by omega)
      have e2 : nI (p - 1) + (-1) = nI (p - 2) := nI_dec (p := p - 1) (by omega)
      refine zV_blk (pc' := 49) (lo' := [(5, .int ((nI p) + (-1))), (0, .int (iN (v / 100))), (4, .int (nI (v % 100))), (3, .int (iN (v / 100))), (2, .ref vb), (6, .int 0)]) (st' := [.int ((nI p) + (-1)), .ref vb]) [.istore 4, .iload_n 3, .istore_n 0, .aload_n 2, .iinc 5 (-1), .iload 5] (by decide +kernel) rfl ?_
      refine zV_eq (lo2 := [(5, .int (nI (p - 1))), (0, .int (iN (v / 100))), (4, .int (nI (v % 100))), (3, .int (iN (v / 100))), (2, .ref vb), (6, .int 0)]) (st2 := [.int (nI (p - 1)), .ref vb]) rfl (by rw [e1]) (by rw [e1]) rfl ?_
      refine zV_statB (idx := 83) (C := "java/lang/Integer") (nm := "DigitOnes") 100 dOnes (by decide) (List.mem_of_getElem? (i := 906) (by decide +kernel)) (List.mem_of_getElem? (i := 111) (by decide +kernel)) (zFl_at 10 (by decide +kernel)) (zFl_at 11 (by decide +kernel)) zDigitOnes (zT_mem 905 (by decide +kernel) rfl) (by decide +kernel) (fun t1 ht1 => ?_)
      refine zV_blk (pc' := 54) (lo' := [(5, .int (nI (p - 1))), (0, .int (iN (v / 100))), (4, .int (nI (v % 100))), (3, .int (iN (v / 100))), (2, .ref vb), (6, .int 0)]) (st' := [.int (nI (v % 100)), .ref t1, .int (nI (p - 1)), .ref vb]) [.iload 4] (by decide +kernel) rfl ?_
      refine zV_bld ht1 (by simp only [zin, Bool.and_eq_true, decide_eq_true_eq]; exact ⟨nI_pos' (by omega), by rw [nI_clamp (by omega)]; omega⟩) (by decide +kernel) ?_
      refine zV_bast 0 h2 rfl (nI_in (by omega) (by omega)) (by decide +kernel) ?_
      rw [nI_clamp (show p - 1 < 2 ^ 31 by omega), nI_clamp (show v % 100 < 2 ^ 31 by omega)]
      unfold dOnes
      rw [upd_dig (Nat.mod_lt _ (by decide)), show v % 100 % 10 = v % 10 by omega]
      refine zV_blk (pc' := 62) (lo' := [(5, .int ((nI (p - 1)) + (-1))), (0, .int (iN (v / 100))), (4, .int (nI (v % 100))), (3, .int (iN (v / 100))), (2, .ref vb), (6, .int 0)]) (st' := [.int ((nI (p - 1)) + (-1)), .ref vb]) [.aload_n 2, .iinc 5 (-1), .iload 5] (by decide +kernel) rfl ?_
      refine zV_eq (lo2 := [(5, .int (nI (p - 2))), (0, .int (iN (v / 100))), (4, .int (nI (v % 100))), (3, .int (iN (v / 100))), (2, .ref vb), (6, .int 0)]) (st2 := [.int (nI (p - 2)), .ref vb]) rfl (by rw [e2]) (by rw [e2]) rfl ?_
      refine zV_statB (idx := 87) (C := "java/lang/Integer") (nm := "DigitTens") 100 dTens (by decide) (List.mem_of_getElem? (i := 908) (by decide +kernel)) (List.mem_of_getElem? (i := 111) (by decide +kernel)) (zFl_at 113 (by decide +kernel)) (zFl_at 114 (by decide +kernel)) zDigitTens (zT_mem 907 (by decide +kernel) rfl) (by decide +kernel) (fun t2 ht2 => ?_)
      refine zV_blk (pc' := 67) (lo' := [(5, .int (nI (p - 2))), (0, .int (iN (v / 100))), (4, .int (nI (v % 100))), (3, .int (iN (v / 100))), (2, .ref vb), (6, .int 0)]) (st' := [.int (nI (v % 100)), .ref t2, .int (nI (p - 2)), .ref vb]) [.iload 4] (by decide +kernel) rfl ?_
      refine zV_bld ht2 (by simp only [zin, Bool.and_eq_true, decide_eq_true_eq]; exact ⟨nI_pos' (by omega), by rw [nI_clamp (by omega)]; omega⟩) (by decide +kernel) ?_
      refine zV_bast 0 zUe rfl (nI_in (by omega) (by omega)) (by decide +kernel) ?_
      rw [nI_clamp (show p - 2 < 2 ^ 31 by omega), nI_clamp (show v % 100 < 2 ^ 31 by omega), va_up_up]
      unfold dTens
      rw [upd_dig (show v % 100 / 10 < 10 by omega), show v % 100 / 10 = v / 10 % 10 by omega]
      refine zV_goto (tgt := 22) (off := -47) (by decide +kernel) (by decide) ?_
      refine zV_pick (lo2 := [(0, .int (iN (v / 100))), (2, .ref vb), (5, .int (nI (p - 2))), (6, .int 0)]) [1, 4, 0, 5] rfl ?_
      have c1 := cpy_dig (f := upd f (p - 1) (nI (48 + v % 10))) (p := p - 1) (v := v / 10) (by omega) (by omega)
      rw [show p - 1 - 1 = p - 2 by omega, hdd] at c1
      have c2 := cpy_dig (f := f) (p := p) (v := v) (by omega) (by omega)
      exact cs_getChars_22 s0 D cB cI cJ cD vb m (v / 100) (p - 2) (upd (upd f (p - 1) (nI (48 + v % 10))) (p - 2) (nI (48 + v / 10 % 10))) (va_up hm vb (some (.inl (cB, m, .inl (upd (upd f (p - 1) (nI (48 + v % 10))) (p - 2) (nI (48 + v / 10 % 10))))))) zUe (by omega) (by rw [← hdd]; omega) (fun r nx' => by rw [va_up_up, c1, c2]; exact hQ r nx')
termination_by v
decreasing_by omega
set_option maxRecDepth 100000 in
theorem cs_getChars (s0 : State) (D : va_G) (cB cI cJ cD : ClassId) (vb m v p : Nat) (f : Nat → Int32) {hi hm : zHp} {nx : Nat} {Q : Option Value → zHp → zHp → Nat → Prop} (h2 : hm vb = some (.inl (cB, m, .inl f))) (hv : v < 10 ^ 7 ∧ p ≤ m ∧ m ≤ 5000) (hp : (dec v).length ≤ p) (hQ : ∀ r nx', Q (some (.int r)) hi (va_up hm vb (some (.inl (cB, m, .inl (va_cpy (fun j => (dec v).getD j 0) f 0 (p - (dec v).length) (dec v).length))))) nx') : zM s0 D (zty cB cI cJ cD) yJ6_getChars_ba4f3 cJ6_getChars_ba4f3 7 (some .int) 0 0 0 0 [.int (nI v), .int (nI p), .ref vb] hi hm nx Q := by
  refine zM_ofF (by decide +kernel) (Nat.le_of_ble_eq_true rfl) ?_
  refine zV_eq (lo2 := [(0, .int (nI v)), (1, .int (nI p)), (2, .ref vb)]) rfl rfl rfl rfl ?_
  refine zV_blk (pc' := 4) (lo' := [(5, .int (nI p)), (0, .int (nI v)), (1, .int (nI p)), (2, .ref vb)]) (st' := [.int (nI v)]) [.iload_n 1, .istore 5, .iload_n 0] (by decide +kernel) rfl ?_
  refine zV_if_ge (tgt := 11) (off := 7) (by decide +kernel) (by decide) (fun _ => ?_) (fun q => absurd (nI_pos' (by omega)) q)
  refine zV_blk (pc' := 16) (lo' := [(6, .int 0), (5, .int (nI p)), (0, .int (nI v)), (1, .int (nI p)), (2, .ref vb)]) (st' := [.int 0]) [.iconst 0, .istore 6, .iload 6] (by decide +kernel) rfl ?_
  refine zV_if_ne (tgt := 22) (off := 6) (by decide +kernel) (by decide) (fun q => absurd rfl q) (fun _ => ?_)
  refine zV_blk (pc' := 22) (lo' := [(0, .int (iN v)), (6, .int 0), (5, .int (nI p)), (1, .int (nI p)), (2, .ref vb)]) (st' := []) [.iload_n 0, .ineg, .istore_n 0] (by decide +kernel) rfl ?_
  refine zV_pick (lo2 := [(0, .int (iN v)), (2, .ref vb), (5, .int (nI p)), (6, .int 0)]) [0, 4, 2, 1] rfl ?_
  exact cs_getChars_22 s0 D cB cI cJ cD vb m v p f hm h2 hv hp hQ
