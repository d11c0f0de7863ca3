/-! ===== design: the statements one by one ===== -/
theorem tb2 : ∀ T, T < 128 → ∀ k, k < 7 → k ≠ 2 → (T ||| 2 ^ k).testBit 2 = T.testBit 2 := by decide +kernel
theorem tb2' : ∀ T, T < 128 → (T ||| 2 ^ 2).testBit 2 = true := by decide +kernel
theorem st_year {tp tq : Nat → Int32} (hq : ∀ i, i < 800 → tq i = tp i) {L : Nat} (hL : L ≤ 800) {F M M0 w w0 R : Nat → Int32} {lv : vLaw} {mo : Option vArr} {ty : vTrue} {T : Nat} (hT : T < 128) (hs : SS tp L F M) (h13 : M 13 = nI (T ||| 2 ^ 0)) (hkq : KQ M0 M) (hwf : wfr w0 w) (h56 : W56 w) (hmb : moB mo) (hct : CT R lv mo ty w T) {n : Nat} (hn : 250000 ≤ n) : ∃ v F' v' M' w', n_takeNumber n F tp 1 999 = some (v, F') ∧ mreads n M tq 1 999 = some (v', M') ∧ mlays M' w 1 v' = some w' ∧ PS tp L M0 w0 (T ||| 2 ^ 0) (upd (upd R 1 (nI (T ||| 2 ^ 0))) 2 v, lv, mo, ty, F') (M', w') := by
  obtain ⟨v, v', F', M', a1, a2, a3, a4, a5, a6, a7⟩ := SS_number hq hL hs (lo := 1) (hi := 999) ⟨by omega, by omega⟩ ⟨by omega, by omega⟩ hn
  refine ⟨v, F', v', M', _, a1, a2, m_lays (k := 1) (by omega) v', a3, hkq.k a4, ?_, ?_, hmb, fun z => ?_⟩
  · dsimp only
    split
    · exact fun i hi => (upd_ne (by omega)).trans (hwf i hi)
    · exact hwf
  · dsimp only
    obtain ⟨m, m1, m2⟩ := h56
    split
    · exact ⟨m, m1, (upd_ne (by omega)).trans m2⟩
    · exact ⟨m, m1, m2⟩
  · dsimp only at z ⊢
    obtain ⟨z1, z2, x, z3, z4, z5⟩ := a6 z
    rw [if_pos z.2.1.2.1]
    obtain ⟨⟨c1, c2, c3, c4, c5⟩, c6, c7, c8⟩ := hct
    have hx : (iI x).toInt = x := iI_to ⟨by omega, by omega⟩
    refine ⟨⟨⟨(upd_ne (by omega)).trans c1, ⟨by rw [show 2652 + 1 = 2653 from rfl, upd_at, ← z2]; rfl, ?_⟩, ⟨(upd_ne (by omega)).trans c3.1, c3.2⟩, ⟨(upd_ne (by omega)).trans c4.1, c4.2⟩, (upd_ne (by omega)).trans c5.1, c5.2⟩, MOr_c rfl (fun i hi => upd_ne (by omega)) c6, LAr_c (tb2 T hT 0 (by omega) (by omega)) (fun i hi => upd_ne (by omega)) c7, TYr_c (fun i hi => upd_ne (by omega)) c8⟩, rfl, (a4 13 (by omega) (by omega) (by omega) (by omega) (by omega) (by omega)).trans h13⟩
    show 1 ≤ v.toInt ∧ v.toInt ≤ 999
    rw [z3, hx]; exact ⟨z4, z5⟩
theorem st_extra {tp tq : Nat → Int32} (hq : ∀ i, i < 800 → tq i = tp i) {L : Nat} (hL : L ≤ 800) {F M M0 w w0 R : Nat → Int32} {lv : vLaw} {mo : Option vArr} {ty : vTrue} {T : Nat} (hT : T < 128) (hs : SS tp L F M) (h13 : M 13 = nI (T ||| 2 ^ 1)) (hkq : KQ M0 M) (hwf : wfr w0 w) (h56 : W56 w) (hmb : moB mo) (hct : CT R lv mo ty w T) {n : Nat} (hn : 250000 ≤ n) : ∃ v F' v' M' w', n_takeNumber n F tp 1 30 = some (v, F') ∧ mreads n M tq 1 30 = some (v', M') ∧ mlays M' w 2 v' = some w' ∧ PS tp L M0 w0 (T ||| 2 ^ 1) (upd (upd R 1 (nI (T ||| 2 ^ 1))) 3 v, lv, mo, ty, F') (M', w') := by
  obtain ⟨v, v', F', M', a1, a2, a3, a4, a5, a6, a7⟩ := SS_number hq hL hs (lo := 1) (hi := 30) ⟨by omega, by omega⟩ ⟨by omega, by omega⟩ hn
  refine ⟨v, F', v', M', _, a1, a2, m_lays (k := 2) (by omega) v', a3, hkq.k a4, ?_, ?_, hmb, fun z => ?_⟩
  · dsimp only
    split
    · exact fun i hi => (upd_ne (by omega)).trans (hwf i hi)
    · exact hwf
  · dsimp only
    obtain ⟨m, m1, m2⟩ := h56
    split
    · exact ⟨m, m1, (upd_ne (by omega)).trans m2⟩
    · exact ⟨m, m1, m2⟩
  · dsimp only at z ⊢
    obtain ⟨z1, z2, x, z3, z4, z5⟩ := a6 z
    rw [if_pos z.2.1.2.1]
    obtain ⟨⟨c1, c2, c3, c4, c5⟩, c6, c7, c8⟩ := hct
    have hx : (iI x).toInt = x := iI_to ⟨by omega, by omega⟩
    refine ⟨⟨⟨(upd_ne (by omega)).trans c1, ⟨(upd_ne (by omega)).trans c2.1, c2.2⟩, ⟨by rw [show 2652 + 2 = 2654 from rfl, upd_at, ← z2]; rfl, ?_⟩, ⟨(upd_ne (by omega)).trans c4.1, c4.2⟩, (upd_ne (by omega)).trans c5.1, c5.2⟩, MOr_c rfl (fun i hi => upd_ne (by omega)) c6, LAr_c (tb2 T hT 1 (by omega) (by omega)) (fun i hi => upd_ne (by omega)) c7, TYr_c (fun i hi => upd_ne (by omega)) c8⟩, rfl, (a4 13 (by omega) (by omega) (by omega) (by omega) (by omega) (by omega)).trans h13⟩
    show 1 ≤ v.toInt ∧ v.toInt ≤ 30
    rw [z3, hx]; exact ⟨z4, z5⟩
theorem st_begins {tp tq : Nat → Int32} (hq : ∀ i, i < 800 → tq i = tp i) {L : Nat} (hL : L ≤ 800) {F M M0 w w0 R : Nat → Int32} {lv : vLaw} {mo : Option vArr} {ty : vTrue} {T : Nat} (hT : T < 128) (hs : SS tp L F M) (h13 : M 13 = nI (T ||| 2 ^ 6)) (hkq : KQ M0 M) (hwf : wfr w0 w) (h56 : W56 w) (hmb : moB mo) (hct : CT R lv mo ty w T) {n : Nat} (hn : 250000 ≤ n) : ∃ R' F' M' w' ty', r_readShare n (upd R 1 (nI (T ||| 2 ^ 6))) F tp 1000 1 = some (R', F') ∧ mshares n M tq w 15 16 1000 1 = some (M', w') ∧ k_withBegin ty (R' 10) (R' 11) = some ty' ∧ PS tp L M0 w0 (T ||| 2 ^ 6) (R', lv, mo, ty', F') (M', w') := by
  obtain ⟨R', F', M', w', a1, a2, a3, a4, a5, a6, a7⟩ := SS_share hq hL hs (upd R 1 (nI (T ||| 2 ^ 6))) w (k := 15) (b := 16) (by omega) (by omega) (most := 1000) (less := 1) ⟨by omega, by omega⟩ ⟨by omega, by omega⟩ hn
  have hty : ∃ ty', k_withBegin ty (R' 10) (R' 11) = some ty' ∧ (1 ≤ (R' 11).toInt → 1 ≤ ty.2.2.1.toInt → ty' = (ty.1, ty.2.1, ty.2.2.1, R' 10, R' 11)) := by
    unfold k_withBegin k_newTrue j_maxI
    by_cases p1 : 1 < ty.2.2.1
    · by_cases p2 : 1 < R' 11
      · simp only [if_pos p1, if_pos p2, Option.bind_some]; exact ⟨_, rfl, fun _ _ => rfl⟩
      · simp only [if_pos p1, if_neg p2, Option.bind_some]
        refine ⟨_, rfl, fun z _ => ?_⟩
        have : R' 11 = 1 := by
          rw [← iI_of (R' 11)]
          rw [Int32.lt_iff_toInt_lt] at p2
          have : (R' 11).toInt = 1 := by have h1 : (1 : Int32).toInt = 1 := by decide
                                         omega
          rw [this]; rfl
        rw [this]
    · by_cases p2 : 1 < R' 11
      · simp only [if_neg p1, if_pos p2, Option.bind_some]
        refine ⟨_, rfl, fun _ z => ?_⟩
        have : ty.2.2.1 = 1 := by
          rw [← iI_of ty.2.2.1]
          rw [Int32.lt_iff_toInt_lt] at p1
          have : ty.2.2.1.toInt = 1 := by have h1 : (1 : Int32).toInt = 1 := by decide
                                          omega
          rw [this]; rfl
        rw [this]
      · simp only [if_neg p1, if_neg p2, Option.bind_some]
        refine ⟨_, rfl, fun z z' => ?_⟩
        have e1 : R' 11 = 1 := by
          rw [← iI_of (R' 11)]
          rw [Int32.lt_iff_toInt_lt] at p2
          have : (R' 11).toInt = 1 := by have h1 : (1 : Int32).toInt = 1 := by decide
                                         omega
          rw [this]; rfl
        have e2 : ty.2.2.1 = 1 := by
          rw [← iI_of ty.2.2.1]
          rw [Int32.lt_iff_toInt_lt] at p1
          have : ty.2.2.1.toInt = 1 := by have h1 : (1 : Int32).toInt = 1 := by decide
                                          omega
          rw [this]; rfl
        rw [e1, e2]
  obtain ⟨ty', t1, t2⟩ := hty
  have hw' : ∀ i, i ≠ 2667 → i ≠ 2668 → w' i = w i := fun i i1 i2 => by
    rcases a3 with z | z
    · obtain ⟨_, x, y, _, _, _, _, _, e⟩ := a6 z
      rw [e]; exact (upd_ne (by omega)).trans (upd_ne (by omega))
    · rw [a7 z]
  refine ⟨R', F', M', w', ty', a1, a2, t1, a3, hkq.k a4, fun i hi => (hw' i (by omega) (by omega)).trans (hwf i hi), ?_, hmb, fun z => ?_⟩
  · obtain ⟨m, m1, m2⟩ := h56
    exact ⟨m, m1, (hw' _ (by omega) (by omega)).trans m2⟩
  · dsimp only at z ⊢
    obtain ⟨_, x, y, z1, z2, z3, z4, z5, e⟩ := a6 z
    obtain ⟨⟨c1, c2, c3, c4, c5⟩, c6, c7, c8⟩ := hct
    have hR : ∀ i, i ≠ 10 → i ≠ 11 → i ≠ 1 → R' i = R i := fun i h1 h2 h3 => (a5 i h1 h2).trans (upd_ne h3)
    have hx : (iI x).toInt = x := iI_to ⟨by omega, by omega⟩
    have hy : (iI y).toInt = y := iI_to ⟨by omega, by omega⟩
    have hty' := t2 (by rw [z2, hy]; omega) c8.2.2.1.1
    rw [hty']
    refine ⟨⟨⟨(hw' _ (by omega) (by omega)).trans c1, by rw [hw' _ (by omega) (by omega), hR 2 (by omega) (by omega) (by omega)]; exact c2, by rw [hw' _ (by omega) (by omega), hR 3 (by omega) (by omega) (by omega)]; exact c3, by rw [hw' _ (by omega) (by omega), hR 7 (by omega) (by omega) (by omega)]; exact c4, by rw [hw' _ (by omega) (by omega), hR 7 (by omega) (by omega) (by omega), hR 8 (by omega) (by omega) (by omega)]; exact c5⟩, MOr_c (hR 6 (by omega) (by omega) (by omega)) (fun i hi => hw' _ (by omega) (by omega)) c6, LAr_c (tb2 T hT 6 (by omega) (by omega)) (fun i hi => hw' _ (by omega) (by omega)) c7, ?_⟩, (a5 1 (by omega) (by omega)).trans upd_at, (a4 13 (by omega) (by omega) (by omega) (by omega) (by omega) (by omega)).trans h13⟩
    obtain ⟨⟨q1, q2, q3, q4, q5⟩, t1, t2, t3, t4, t5⟩ := c8
    refine ⟨⟨(hw' _ (by omega) (by omega)).trans q1, (hw' _ (by omega) (by omega)).trans q2, (hw' _ (by omega) (by omega)).trans q3, ?_, ?_⟩, t1, t2, t3, ?_, ?_⟩
    · rw [e, z1]; exact (upd_ne (by omega)).trans upd_at
    · rw [e, z2]; exact upd_at
    · show 1 ≤ (R' 11).toInt ∧ (R' 11).toInt ≤ 1000
      rw [z2, hy]; exact z4
    · show 0 ≤ (R' 10).toInt ∧ (R' 10).toInt < (R' 11).toInt
      rw [z1, z2, hx, hy]; omega
