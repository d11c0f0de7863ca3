/-! ===== design: true, week, even ===== -/
theorem SS_numB {tp tq : Nat → Int32} (hq : ∀ i, i < 800 → tq i = tp i) {L : Nat} (hL : L ≤ 800) {F M : Nat → Int32} (h : BD L F M) (x y x' y' : Int32) {n : Nat} (hn : 250000 ≤ n) : ∃ M', n_takeNumber n F tp x y = some (0, upd F 1 0) ∧ mreads n M tq x' y' = some (x', M') ∧ BD L (upd F 1 0) M' ∧ KP M M' := by
  obtain ⟨q, M1, e1, eqL, e4, e5, e6, e7⟩ := SS_next (tp := tp) hq hL (Or.inr h) hn
  have f0 : ¬ M 6 = 0 := by rw [h.2.1.2.1]; exact h.1.1
  have h60 : ¬ upd M1 11 (nI q) 6 = 0 := by
    show ¬ M1 6 = 0
    rw [e5 6 (by omega)]; exact f0
  have hb1 : BD L F M1 := by
    rcases e6 with z | z
    · exact absurd z.2.1.2.1 (by rw [e5 6 (by omega)]; exact f0)
    · exact z
  obtain ⟨r, z1, z2⟩ := m_count hq hL (show upd M1 11 (nI q) 3 = nI L from hb1.2.1.1) eqL (lo := x') (hi := y') hn (S := fun r => r = (x', upd M1 11 (nI q))) (fun m hm hr => by
    unfold mcont mreads_61
    rw [if_neg h60, m_fine, decide_eq_false h60, Option.bind_some, if_neg (by decide)]
    exact ⟨_, rfl, rfl⟩)
  unfold mreads n_takeNumber n_fail
  rw [if_neg (by rw [h.1.2.1]; decide), if_neg h.1.1, Option.bind_some, e1, Option.bind_some]
  dsimp only
  rw [z1, z2]
  exact ⟨_, rfl, rfl, ⟨⟨h.1.1, rfl, h.1.2.2⟩, hb1.2.1, hb1.2.2⟩, fun i i4 i5 i6 i7 i10 i11 => (upd_ne i11).trans (e5 i i4)⟩
theorem mx1 {x : Int32} (h : 1 ≤ x.toInt) : j_maxI 1 x = some x := by
  have := c_max1 (x := x.toInt) (i_b32 x) h
  rw [iI_of] at this; exact this
theorem st_true {tp tq : Nat → Int32} (hq : ∀ i, i < 800 → tq i = tp i) {L : Nat} (hL : L ≤ 800) {F M M0 w w0 R : Nat → Int32} {lv : vLaw} {mo : Option vArr} {ty : vTrue} {T : Nat} (hT : T < 128) (hs : SS tp L F M) (h13 : M 13 = nI (T ||| 2 ^ 5)) (hkq : KQ M0 M) (hwf : wfr w0 w) (h56 : W56 w) (hmb : moB mo) (hct : CT R lv mo ty w T) {n : Nat} (hn : 250000 ≤ n) : ∃ v F1 b F2 R' F' v' M1 w1 M2 M' w' ty', n_takeNumber n F tp 0 999 = some (v, F1) ∧ n_sees 3 (fun j => L_and.getD j 0) n F1 tp = some b ∧ n_takeIf n F1 tp (zb b) = some F2 ∧ r_readShare n (upd R 1 (nI (T ||| 2 ^ 5))) F2 tp 1000000 1 = some (R', F') ∧ k_withLength ty v (R' 10) (R' 11) = some ty' ∧ mreads n M tq 0 999 = some (v', M1) ∧ mlays M1 w 12 v' = some w1 ∧ mneeds n M1 tq 1476 = some M2 ∧ mshares n M2 tq w1 13 14 1000000 1 = some (M', w') ∧ PS tp L M0 w0 (T ||| 2 ^ 5) (R', lv, mo, ty', F') (M', w') := by
  obtain ⟨v, v', F1, M1, a1, a2, a3, a4, a5, a6, a7⟩ := SS_number hq hL hs (lo := 0) (hi := 999) ⟨by omega, by omega⟩ ⟨by omega, by omega⟩ hn
  obtain ⟨b, F2, M2, b1, b2, b3, b4, b5, b6⟩ := SS_needs hq hL ws_and a3 hn
  obtain ⟨R', F', M', w', d1, d2, d3, d4, d5, d6, d7⟩ := SS_share hq hL b4 (upd R 1 (nI (T ||| 2 ^ 5))) (if M1 6 = 0 then upd w (2652 + 12) v' else w) (k := 13) (b := 14) (by omega) (by omega) (most := 1000000) (less := 1) ⟨by omega, by omega⟩ ⟨by omega, by omega⟩ hn
  have hw1 : ∀ i, i ≠ 2664 → (if M1 6 = 0 then upd w (2652 + 12) v' else w) i = w i := fun i hi => by
    split
    · exact upd_ne (by omega)
    · rfl
  have hw' : ∀ i, i ≠ 2664 → i ≠ 2665 → i ≠ 2666 → w' i = w i := fun i i0 i1 i2 => by
    rcases d3 with z | z
    · obtain ⟨_, x, y, _, _, _, _, _, e⟩ := d6 z
      rw [e]; exact (upd_ne (by omega)).trans ((upd_ne (by omega)).trans (hw1 i i0))
    · rw [d7 z]; exact hw1 i i0
  have hty : ∃ ty', k_withLength ty v (R' 10) (R' 11) = some ty' := by
    unfold k_withLength k_newTrue j_maxI
    by_cases p1 : 1 < R' 11
    · by_cases p2 : 1 < ty.2.2.2.2
      · simp only [if_pos p1, if_pos p2, Option.bind_some]; exact ⟨_, rfl⟩
      · simp only [if_pos p1, if_neg p2, Option.bind_some]; exact ⟨_, rfl⟩
    · by_cases p2 : 1 < ty.2.2.2.2
      · simp only [if_neg p1, if_pos p2, Option.bind_some]; exact ⟨_, rfl⟩
      · simp only [if_neg p1, if_neg p2, Option.bind_some]; exact ⟨_, rfl⟩
  obtain ⟨ty', t1⟩ := hty
  refine ⟨v, F1, b, F2, R', F', v', M1, _, M2, M', w', ty', a1, b1, b2, d1, t1, a2, m_lays (k := 12) (by omega) v', b3, d2, d3, ((hkq.k a4).k b5).k d4, fun i hi => (hw' i (by omega) (by omega) (by omega)).trans (hwf i hi), ?_, hmb, fun z => ?_⟩
  · obtain ⟨m, m1, m2⟩ := h56
    exact ⟨m, m1, (hw' _ (by omega) (by omega) (by omega)).trans m2⟩
  · dsimp only at z ⊢
    obtain ⟨z0, x, y, z1, z2, z3, z4, z5, e⟩ := d6 z
    have y1 := b6 z0
    obtain ⟨y2, y3, u, y4, y5, y6⟩ := a6 y1
    obtain ⟨⟨c1, c2, c3, c4, c5⟩, c6, c7, c8⟩ := hct
    have hR : ∀ i, i ≠ 10 → i ≠ 11 → i ≠ 1 → R' i = R i := fun i h1 h2 h3 => (d5 i h1 h2).trans (upd_ne h3)
    have hx : (iI x).toInt = x := iI_to ⟨by omega, by omega⟩
    have hy : (iI y).toInt = y := iI_to ⟨by omega, by omega⟩
    have hu : (iI u).toInt = u := iI_to ⟨by omega, by omega⟩
    obtain ⟨⟨q1, q2, q3, q4, q5⟩, t1', t2', t3', t4', t5'⟩ := c8
    have hty' : ty' = (v, R' 10, R' 11, ty.2.2.2.1, ty.2.2.2.2) := by
      unfold k_withLength k_newTrue at t1
      rw [mx1 (by rw [z2, hy]; omega), Option.bind_some, mx1 t4'.1, Option.bind_some, Option.bind_some] at t1
      exact (Option.some.inj t1).symm
    rw [hty']
    have h16 : M1 6 = 0 := y1.2.1.2.1
    have k13 : M' 13 = M 13 := (d4 13 (by omega) (by omega) (by omega) (by omega) (by omega) (by omega)).trans ((b5 13 (by omega) (by omega) (by omega) (by omega) (by omega) (by omega)).trans (a4 13 (by omega) (by omega) (by omega) (by omega) (by omega) (by omega)))
    refine ⟨⟨⟨(hw' _ (by omega) (by omega) (by omega)).trans c1, by rw [hw' _ (by omega) (by omega) (by omega), hR 2 (by omega) (by omega) (by omega)]; exact c2, by rw [hw' _ (by omega) (by omega) (by omega), hR 3 (by omega) (by omega) (by omega)]; exact c3, by rw [hw' _ (by omega) (by omega) (by omega), hR 7 (by omega) (by omega) (by omega)]; exact c4, by rw [hw' _ (by omega) (by omega) (by omega), hR 7 (by omega) (by omega) (by omega), hR 8 (by omega) (by omega) (by omega)]; exact c5⟩, MOr_c (hR 6 (by omega) (by omega) (by omega)) (fun i hi => hw' _ (by omega) (by omega) (by omega)) c6, LAr_c (tb2 T hT 5 (by omega) (by omega)) (fun i hi => hw' _ (by omega) (by omega) (by omega)) c7, ?_⟩, (d5 1 (by omega) (by omega)).trans upd_at, k13.trans h13⟩
    rw [if_pos h16] at e
    refine ⟨⟨?_, ?_, ?_, (hw' _ (by omega) (by omega) (by omega)).trans q4, (hw' _ (by omega) (by omega) (by omega)).trans q5⟩, ?_, ?_, ?_, t4', t5'⟩
    · rw [e, y3]; exact (upd_ne (by omega)).trans ((upd_ne (by omega)).trans upd_at)
    · rw [e, z1]; exact (upd_ne (by omega)).trans upd_at
    · rw [e, z2]; exact upd_at
    · show 0 ≤ v.toInt ∧ v.toInt ≤ 999
      rw [y4, hu]; omega
    · show 1 ≤ (R' 11).toInt ∧ (R' 11).toInt ≤ 1000000
      rw [z2, hy]; exact z4
    · show 0 ≤ (R' 10).toInt ∧ (R' 10).toInt < (R' 11).toInt
      rw [z1, z2, hx, hy]; omega
theorem st_week {tp tq : Nat → Int32} (hq : ∀ i, i < 800 → tq i = tp i) {L : Nat} (hL : L ≤ 800) {F M M0 w w0 R : Nat → Int32} {lv : vLaw} {mo : Option vArr} {ty : vTrue} {T : Nat} (hT : T < 128) (hs : SS tp L F M) (h13 : M 13 = nI (T ||| 2 ^ 4)) (hkq : KQ M0 M) (hwf : wfr w0 w) (h56 : W56 w) (hmb : moB mo) (hct : CT R lv mo ty w T) {n : Nat} (hn : 250000 ≤ n) : ∃ R' F' v' M1 M2 w1 v2 M' w', r_readWeek n (upd R 1 (nI (T ||| 2 ^ 4))) F tp = some (R', F') ∧ mreads n M tq 1 10 = some (v', M1) ∧ mneeds n M1 tq 52 = some M2 ∧ mlays M2 w 6 v' = some w1 ∧ mreads n M2 tq 0 (v' - 1) = some (v2, M') ∧ mlays M' w1 7 v2 = some w' ∧ PS tp L M0 w0 (T ||| 2 ^ 4) (R', lv, mo, ty, F') (M', w') := by
  obtain ⟨v, v', F1, M1, a1, a2, a3, a4, a5, a6, a7⟩ := SS_number hq hL hs (lo := 1) (hi := 10) ⟨by omega, by omega⟩ ⟨by omega, by omega⟩ hn
  obtain ⟨b, F2, M2, b1, b2, b3, b4, b5, b6⟩ := SS_needs hq hL ws_at a3 hn
  replace a1 : n_takeNumber n F tp 1 10 = some (v, F1) := a1
  have hrest : ∃ vb F' v2 M', n_takeNumber n F2 tp 0 (v - 1) = some (vb, F') ∧ mreads n M2 tq 0 (v' - 1) = some (v2, M') ∧ SS tp L F' M' ∧ KP M2 M' ∧ (FI tp L F' M' → FI tp L F2 M2 ∧ vb = v2 ∧ 0 ≤ vb.toInt ∧ vb.toInt < v.toInt) := by
    rcases b4 with z | z
    · obtain ⟨y2, y3, u, y4, y5, y6⟩ := a6 (b6 z)
      subst y3
      have hu : (iI u).toInt = u := iI_to ⟨by omega, by omega⟩
      obtain ⟨vb, v2, F', M', d1, d2, d3, d4, d5, d6, d7⟩ := SS_number hq hL (Or.inl z : SS tp L F2 M2) (lo := 0) (hi := u - 1) ⟨by omega, by omega⟩ ⟨by omega, by omega⟩ hn
      have hv1 : v - 1 = iI (u - 1) := by rw [y4, show (1 : Int32) = iI 1 from rfl, iI_sub]
      rw [hv1]
      refine ⟨vb, F', v2, M', d1, d2, d3, d4, fun q => ?_⟩
      obtain ⟨q1, q2, x, q3, q4, q5⟩ := d6 q
      refine ⟨q1, q2, ?_⟩
      rw [q3, iI_to ⟨by omega, by omega⟩, y4, hu]; omega
    · obtain ⟨M', d1, d2, d3, d4⟩ := SS_numB hq hL z 0 (v - 1) 0 (v' - 1) hn
      exact ⟨0, _, 0, M', d1, d2, Or.inr d3, d4, fun q => (not_both q d3).elim⟩
  obtain ⟨vb, F', v2, M', d1, d2, d3, d4, d5⟩ := hrest
  have hW : r_readWeek n (upd R 1 (nI (T ||| 2 ^ 4))) F tp = some (upd (upd (upd R 1 (nI (T ||| 2 ^ 4))) 7 v) 8 vb, F') := by
    unfold r_readWeek
    rw [a1, Option.bind_some]
    dsimp only
    rw [b1, Option.bind_some, b2, Option.bind_some, show upd (upd R 1 (nI (T ||| 2 ^ 4))) 7 v 7 = v from rfl, d1, Option.bind_some]
  refine ⟨_, F', v', M1, M2, _, v2, M', _, hW, a2, b3, m_lays (k := 6) (by omega) v', d2, m_lays (k := 7) (by omega) v2, d3, ((hkq.k a4).k b5).k d4, ?_, ?_, hmb, fun z => ?_⟩
  · intro i hi
    dsimp only
    have e1 : (if M2 6 = 0 then upd w (2652 + 6) v' else w) i = w i := by
      split
      · exact upd_ne (by omega)
      · rfl
    split
    · exact (upd_ne (by omega)).trans (e1.trans (hwf i hi))
    · exact e1.trans (hwf i hi)
  · obtain ⟨m, m1, m2⟩ := h56
    refine ⟨m, m1, ?_⟩
    dsimp only
    have e1 : (if M2 6 = 0 then upd w (2652 + 6) v' else w) 2656 = w 2656 := by
      split
      · exact upd_ne (by omega)
      · rfl
    split
    · exact (upd_ne (by omega)).trans (e1.trans m2)
    · exact e1.trans m2
  · dsimp only at z ⊢
    obtain ⟨z0, z1, z2, z3⟩ := d5 z
    have y1 := b6 z0
    obtain ⟨y2, y3, u, y4, y5, y6⟩ := a6 y1
    have hu : (iI u).toInt = u := iI_to ⟨by omega, by omega⟩
    rw [if_pos z.2.1.2.1, if_pos z0.2.1.2.1]
    have hw' : ∀ i, i ≠ 2658 → i ≠ 2659 → upd (upd w (2652 + 6) v') (2652 + 7) v2 i = w i := fun i h1 h2 => (upd_ne (by omega)).trans (upd_ne (by omega))
    obtain ⟨⟨c1, c2, c3, c4, c5⟩, c6, c7, c8⟩ := hct
    have k13 : M' 13 = M 13 := (d4 13 (by omega) (by omega) (by omega) (by omega) (by omega) (by omega)).trans ((b5 13 (by omega) (by omega) (by omega) (by omega) (by omega) (by omega)).trans (a4 13 (by omega) (by omega) (by omega) (by omega) (by omega) (by omega)))
    refine ⟨⟨⟨(hw' _ (by omega) (by omega)).trans c1, ⟨(hw' _ (by omega) (by omega)).trans c2.1, c2.2⟩, ⟨(hw' _ (by omega) (by omega)).trans c3.1, c3.2⟩, ⟨?_, ?_⟩, ?_, ?_⟩, MOr_c rfl (fun i hi => hw' _ (by omega) (by omega)) c6, LAr_c (tb2 T hT 4 (by omega) (by omega)) (fun i hi => hw' _ (by omega) (by omega)) c7, TYr_c (fun i hi => hw' _ (by omega) (by omega)) c8⟩, rfl, k13.trans h13⟩
    · show upd (upd w (2652 + 6) v') (2652 + 7) v2 2658 = v
      rw [y3]; exact (upd_ne (by omega)).trans upd_at
    · show 1 ≤ v.toInt ∧ v.toInt ≤ 10
      rw [y4, hu]; exact ⟨y5, y6⟩
    · show upd (upd w (2652 + 6) v') (2652 + 7) v2 2659 = vb
      rw [z1]; exact upd_at
    · exact ⟨z2, z3⟩
theorem st_even {tp tq : Nat → Int32} (hq : ∀ i, i < 800 → tq i = tp i) {L : Nat} (hL : L ≤ 800) {F M M0 w w0 R : Nat → Int32} {lv : vLaw} {mo : Option vArr} {ty : vTrue} {T : Nat} (hT : T < 128) (hs : SS tp L F M) (h13 : M 13 = nI (T ||| 2 ^ 2)) (hfr : FI tp L F M → T.testBit 2 = false) (hkq : KQ M0 M) (hwf : wfr w0 w) (h56 : W56 w) (hmb : moB mo) (hct : CT R lv mo ty w T) {n : Nat} (hn : 250000 ≤ n) : ∃ R' F1 x F' e m, r_readShare n (upd R 1 (nI (T ||| 2 ^ 2))) F tp 1000 0 = some (R', F1) ∧ r_readShift n R' F1 tp = some (x, F') ∧ k_newEven (R' 10) (R' 11) x = some e ∧ ((mshares n M tq w 9 10 1000 0).bind (fun v2 => (mtakes n v2.1 tq 20194516).bind (fun v3 => (if v3.1 = true then zck (zin (2662) 35802) ((mreads n v3.2 tq 0 ((v2.2 (2662 : Int32).toNatClampNeg) - 1)).bind (fun v4 => (mlays v4.2 v2.2 11 v4.1).bind (fun v5 => (mevenRead_51 n v4.2 tq v5)))) else (mevenRead_51 n v3.2 tq v2.2))))) = some m ∧ PS tp L M0 w0 (T ||| 2 ^ 2) (R', .inr (.inl e), mo, ty, F') m := by
  obtain ⟨R', F1, M1, w1, d1, d2, d3, d4, d5, d6, d7⟩ := SS_share hq hL hs (upd R 1 (nI (T ||| 2 ^ 2))) w (k := 9) (b := 10) (by omega) (by omega) (most := 1000) (less := 0) ⟨by omega, by omega⟩ ⟨by omega, by omega⟩ hn
  replace d2 : mshares n M tq w 9 10 1000 0 = some (M1, w1) := d2
  have hw1 : ∀ i, i ≠ 2661 → i ≠ 2662 → w1 i = w i := fun i i1 i2 => by
    rcases d3 with z | z
    · obtain ⟨_, x, y, _, _, _, _, _, e⟩ := d6 z
      rw [e]; exact (upd_ne (by omega)).trans (upd_ne (by omega))
    · rw [d7 z]
  have h51 : ∀ M2 w2 : Nat → Int32, mevenRead_51 n M2 tq w2 = some (M2, if M2 6 = 0 then upd (upd w2 2655 1) 2660 (w2 2662) else w2) := fun M2 w2 => by
    unfold mevenRead_51
    rw [show (3 : Int32) = nI 3 from rfl, m_lays (k := 3) (by omega), Option.bind_some, zck_t (by decide +kernel), show (2662 : Int32).toNatClampNeg = 2662 by decide +kernel, show (8 : Int32) = nI 8 from rfl, m_lays (k := 8) (by omega), Option.bind_some]
    by_cases p : M2 6 = 0
    · simp only [if_pos p]
      rw [show 2652 + 3 = 2655 from rfl, show 2652 + 8 = 2660 from rfl, upd_ne (show 2662 ≠ 2655 by omega)]
    · simp only [if_neg p]
  obtain ⟨b, M2, t1, t2, t3, t4, t5⟩ := SS_takes hq hL ws_shift d3 hn
  rw [d2, Option.bind_some]
  dsimp only
  rw [t2, Option.bind_some]
  dsimp only
  have hev : ∀ x : Int32, ∃ e, k_newEven (R' 10) (R' 11) x = some e ∧ (1 ≤ (R' 11).toInt → e = (R' 10, R' 11, x)) := fun x => by
    unfold k_newEven
    by_cases p : 1 ≤ (R' 11).toInt
    · rw [mx1 p, Option.bind_some]; exact ⟨_, rfl, fun _ => rfl⟩
    · unfold j_maxI
      by_cases q : 1 < R' 11
      · rw [if_pos q, Option.bind_some]; exact ⟨_, rfl, fun z => absurd z p⟩
      · rw [if_neg q, Option.bind_some]; exact ⟨_, rfl, fun z => absurd z p⟩
  -- what holds at the end
  have hfin : ∀ (x x' : Int32) (F' M' : Nat → Int32) (w2 : Nat → Int32), SS tp L F' M' → KP M1 M' → (∀ i, i ≠ 2663 → w2 i = w1 i) → (FI tp L F' M' → FI tp L F1 M1 ∧ 0 ≤ x.toInt ∧ x.toInt < (R' 11).toInt ∧ w2 2663 = x) → ∃ e, k_newEven (R' 10) (R' 11) x = some e ∧ PS tp L M0 w0 (T ||| 2 ^ 2) (R', .inr (.inl e), mo, ty, F') (M', if M' 6 = 0 then upd (upd w2 2655 1) 2660 (w2 2662) else w2) := fun x x' F' M' w2 hss hkp hw2 hfi => by
    obtain ⟨e, e1, e2⟩ := hev x
    have hwo : ∀ i, i ≠ 2655 → i ≠ 2660 → i ≠ 2661 → i ≠ 2662 → i ≠ 2663 → (if M' 6 = 0 then upd (upd w2 2655 1) 2660 (w2 2662) else w2) i = w i := fun i h1 h2 h3 h4 h5 => by
      split
      · exact (upd_ne h2).trans ((upd_ne h1).trans ((hw2 i h5).trans (hw1 i h3 h4)))
      · exact (hw2 i h5).trans (hw1 i h3 h4)
    refine ⟨e, e1, hss, (hkq.k d4).k hkp, fun i hi => (hwo i (by omega) (by omega) (by omega) (by omega) (by omega)).trans (hwf i hi), ?_, hmb, fun z => ?_⟩
    · obtain ⟨m, m1, m2⟩ := h56
      exact ⟨m, m1, (hwo _ (by omega) (by omega) (by omega) (by omega) (by omega)).trans m2⟩
    · dsimp only at z ⊢
      obtain ⟨z0, z1, z2, z3⟩ := hfi z
      obtain ⟨y0, xx, y, y1, y2, y3, y4, y5, ye⟩ := d6 z0
      have hxx : (iI xx).toInt = xx := iI_to ⟨by omega, by omega⟩
      have hy : (iI y).toInt = y := iI_to ⟨by omega, by omega⟩
      have he := e2 (by rw [y2, hy]; omega)
      obtain ⟨⟨c1, c2, c3, c4, c5⟩, c6, c7, c8⟩ := hct
      have hR : ∀ i, i ≠ 10 → i ≠ 11 → i ≠ 1 → R' i = R i := fun i h1 h2 h3 => (d5 i h1 h2).trans (upd_ne h3)
      have k13 : M' 13 = M 13 := (hkp 13 (by omega) (by omega) (by omega) (by omega) (by omega) (by omega)).trans (d4 13 (by omega) (by omega) (by omega) (by omega) (by omega) (by omega))
      have hw62 : w2 2662 = R' 11 := by rw [hw2 _ (by omega), ye, y2]; exact upd_at
      have hw61 : w2 2661 = R' 10 := by rw [hw2 _ (by omega), ye, y1]; exact (upd_ne (by omega)).trans upd_at
      rw [if_pos z.2.1.2.1] at hwo ⊢
      rw [he]
      refine ⟨⟨⟨(hwo _ (by omega) (by omega) (by omega) (by omega) (by omega)).trans c1, by rw [hwo _ (by omega) (by omega) (by omega) (by omega) (by omega), hR 2 (by omega) (by omega) (by omega)]; exact c2, by rw [hwo _ (by omega) (by omega) (by omega) (by omega) (by omega), hR 3 (by omega) (by omega) (by omega)]; exact c3, by rw [hwo _ (by omega) (by omega) (by omega) (by omega) (by omega), hR 7 (by omega) (by omega) (by omega)]; exact c4, by rw [hwo _ (by omega) (by omega) (by omega) (by omega) (by omega), hR 7 (by omega) (by omega) (by omega), hR 8 (by omega) (by omega) (by omega)]; exact c5⟩, MOr_c (hR 6 (by omega) (by omega) (by omega)) (fun i hi => hwo _ (by omega) (by omega) (by omega) (by omega) (by omega)) c6, ⟨fun q => ?_, ⟨?_, ?_, ?_, ?_, ?_⟩, ?_⟩, TYr_c (fun i hi => hwo _ (by omega) (by omega) (by omega) (by omega) (by omega)) c8⟩, (d5 1 (by omega) (by omega)).trans upd_at, k13.trans h13⟩
      · rw [tb2' T hT] at q; cases q
      · exact (upd_ne (by omega)).trans upd_at
      · exact ((upd_ne (by omega)).trans (upd_ne (by omega))).trans hw61
      · exact ((upd_ne (by omega)).trans (upd_ne (by omega))).trans hw62
      · exact ((upd_ne (by omega)).trans (upd_ne (by omega))).trans z3
      · exact upd_at.trans hw62
      · show (1 ≤ (R' 11).toInt ∧ (R' 11).toInt ≤ 1000) ∧ (0 ≤ (R' 10).toInt ∧ (R' 10).toInt ≤ (R' 11).toInt) ∧ 0 ≤ x.toInt ∧ x.toInt < (R' 11).toInt
        rw [y1, y2, hxx, hy]
        rw [y2, hy] at z2
        exact ⟨y4, ⟨y3, by omega⟩, z1, z2⟩
  unfold r_readShift
  cases b
  · -- no shift
    have hss := t4 rfl
    obtain ⟨e, e1, e2⟩ := hfin 0 0 F1 M2 w1 hss t3 (fun _ _ => rfl) (fun z => by
      have hf1 : FI tp L F1 M1 := by
        rcases d3 with y | y
        · exact y
        · exact (y.1.1 z.1.2.1).elim
      obtain ⟨y0, xx, y, y1, y2, y3, y4, y5, ye⟩ := d6 hf1
      refine ⟨hf1, by decide, ?_, ?_⟩
      · rw [y2, iI_to ⟨by omega, by omega⟩]; show (0 : Int) < y; omega
      · rw [hw1 _ (by omega) (by omega)]; exact (hct.2.2.1.1 (hfr y0)).1)
    refine ⟨R', F1, 0, F1, e, _, d1, ?_, e1, ?_, e2⟩
    · rw [t1, Option.bind_some, if_neg (by decide)]
    · rw [if_neg (by decide)]; exact h51 M2 w1
  · obtain ⟨F2, a1, a2⟩ := t5 rfl
    have hf1 : FI tp L F1 M1 := by
      rcases d3 with y | y
      · exact y
      · unfold n_sees at t1
        rw [if_neg (by rw [y.1.2.1]; decide)] at t1
        cases t1
    obtain ⟨y0, xx, y, y1, y2, y3, y4, y5, ye⟩ := d6 hf1
    have hy : (iI y).toInt = y := iI_to ⟨by omega, by omega⟩
    have hw62 : w1 2662 = iI y := by rw [ye]; exact upd_at
    obtain ⟨v, v', F3, M3, g1, g2, g3, g4, g5, g6, g7⟩ := SS_number hq hL (Or.inl a2 : SS tp L F2 M2) (lo := 0) (hi := y - 1) ⟨by omega, by omega⟩ ⟨by omega, by omega⟩ hn
    have hr1 : R' 11 - 1 = iI (y - 1) := by rw [y2, show (1 : Int32) = iI 1 from rfl, iI_sub]
    have hr2 : w1 (2662 : Int32).toNatClampNeg - 1 = iI (y - 1) := by rw [show (2662 : Int32).toNatClampNeg = 2662 by decide +kernel, hw62, show (1 : Int32) = iI 1 from rfl, iI_sub]
    replace g1 : n_takeNumber n F2 tp 0 (iI (y - 1)) = some (v, F3) := g1
    replace g2 : mreads n M2 tq 0 (iI (y - 1)) = some (v', M3) := g2
    obtain ⟨e, e1, e2⟩ := hfin v v F3 M3 (if M3 6 = 0 then upd w1 (2652 + 11) v' else w1) g3 (t3.t g4) (fun i hi => by
      split
      · exact upd_ne (by omega)
      · rfl) (fun z => by
      obtain ⟨z1, z2, x, z3, z4, z5⟩ := g6 z
      refine ⟨hf1, ?_, ?_, ?_⟩
      · rw [z3, iI_to ⟨by omega, by omega⟩]; exact z4
      · rw [z3, iI_to ⟨by omega, by omega⟩, y2, hy]; omega
      · rw [if_pos z.2.1.2.1, z2]; exact upd_at)
    refine ⟨R', F1, v, F3, e, _, d1, ?_, e1, ?_, e2⟩
    · rw [t1, Option.bind_some, if_pos rfl, a1, Option.bind_some, hr1, g1, Option.bind_some]
    · rw [if_pos rfl, zck_t (by decide +kernel), hr2, g2, Option.bind_some]
      dsimp only
      rw [show (11 : Int32) = nI 11 from rfl, m_lays (k := 11) (by omega), Option.bind_some, h51]
