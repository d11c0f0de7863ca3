/-! ===== design: a statement ===== -/
def OUT (tp : Nat → Int32) (L : Nat) (M0 w0 : Nat → Int32) (T : Nat) (o1 : Option ((Nat → Int32) × vLaw × (Option vArr) × vTrue × (Nat → Int32))) (o2 : Option ((Nat → Int32) × (Nat → Int32))) : Prop := ∃ r m T', o1 = some r ∧ o2 = some m ∧ PS tp L M0 w0 T' r m ∧ (FI tp L r.2.2.2.2 m.1 → ∃ k, k < 7 ∧ T.testBit k = false ∧ T' = T ||| 2 ^ k)
theorem OUT_semi {tp tq : Nat → Int32} (hq : ∀ i, i < 800 → tq i = tp i) {L : Nat} (hL : L ≤ 800) {M0 w0 : Nat → Int32} {T k : Nat} (hk : k < 7) {R : Nat → Int32} {lv : vLaw} {mo : Option vArr} {ty : vTrue} {F M w : Nat → Int32} (h : PSP tp L M0 w0 (T ||| 2 ^ k) (R, lv, mo, ty, F) (M, w)) (hb : T.testBit k = true → BC F) {n : Nat} (hn : 250000 ≤ n) : OUT tp L M0 w0 T (r_readStatement_294 n R lv mo ty F tp) (mstatement_172 n M tq w) := by
  obtain ⟨r, m, e1, e2, e3⟩ := PSP_semi hq hL h hn
  refine ⟨r, m, _, e1, e2, e3, fun z => ⟨k, hk, ?_, rfl⟩⟩
  rcases q : T.testBit k with _ | _
  · rfl
  · exfalso
    have h1 := BC_294 (hb q) e1
    have h2 := z.1.2.1
    rw [h1] at h2
    exact (hb q).1 h2
theorem PS_p {tp : Nat → Int32} {L : Nat} {M0 w0 : Nat → Int32} {T : Nat} {r : (Nat → Int32) × vLaw × (Option vArr) × vTrue × (Nat → Int32)} {m : (Nat → Int32) × (Nat → Int32)} (h : PS tp L M0 w0 T r m) : PSP tp L M0 w0 T r m := ⟨Or.inl h.1, h.2⟩
theorem st_any {tp tq : Nat → Int32} (hq : ∀ i, i < 800 → tq i = tp i) {L : Nat} (hL : L ≤ 800) {F M M0 w w0 R : Nat → Int32} {lv : vLaw} {mo : Option vArr} {ty : vTrue} {T : Nat} (hT : T < 128) (h : FI tp L F M) (hR : R 1 = nI T) (h13 : M 13 = nI T) (hkq : KQ M0 M) (hwf : wfr w0 w) (h56 : W56 w) (hmb : moB mo) (hct : CT R lv mo ty w T) {n : Nat} (hn : 250000 ≤ n) : OUT tp L M0 w0 T (r_readStatement n R lv mo ty F tp) (mstatement n M tq w) := by
  unfold r_readStatement mstatement
  obtain ⟨X1, p1, f1, c1⟩ := SS_opens hq hL ws_year h hT (k := 0) (by omega) hR h13 hn
  have k1 : KQ M0 X1 := hkq.k p1
  have t1 : X1 13 = nI T := (p1 13 (by omega) (by omega) (by omega) (by omega) (by omega) (by omega)).trans h13
  rcases c1.symm with ⟨F', M', o1, o2, o3, o4, o5, o6, o7⟩ | ⟨o1, o2⟩
  · replace o1 : r_opens n R F tp 4 (fun j => L_year.getD j 0) 1 = some (true, upd R 1 (nI (T ||| 2 ^ 0)), F') := o1
    replace o3 : monce n X1 tq 0 824370 = some M' := o3
    have kq : KQ M0 M' := fun i a b c d e f g => (o6 i a b c d e f g).trans (hkq i a b c d e f g)
    have hb : T.testBit 0 = true → BC F' := fun z => by
      rcases o4 with q | q
      · exact absurd (o7 q) (by rw [z]; decide)
      · exact ⟨q.1.1, q.1.2.1⟩
    rw [o1, Option.bind_some, o2, Option.bind_some, if_pos rfl, if_pos rfl]
    dsimp only
    obtain ⟨v, F2, v', M2, w2, a1, a2, a3, a4⟩ := st_year hq hL hT o4 o5 kq hwf h56 hmb hct hn
    unfold mnumberTold
    rw [o3, Option.bind_some, a1, Option.bind_some, a2, Option.bind_some]
    dsimp only
    rw [a3, Option.bind_some, Option.bind_some]
    exact OUT_semi hq hL (by omega) (PS_p a4) (fun z => by
      have hc := BC_num (hb z) tp n 1 999
      rw [a1] at hc
      cases hc
      exact hb z) hn
  rw [show r_opens n R F tp 4 (fun j => L_year.getD j 0) 1 = _ from o1, Option.bind_some, o2, Option.bind_some, if_neg (show ¬ (false = true) by decide), if_neg (show ¬ (false = true) by decide)]
  dsimp only
  clear o1 o2
  obtain ⟨X2, p2, f2, c2⟩ := SS_opens hq hL ws_extra f1 hT (k := 1) (by omega) hR t1 hn
  have k2 : KQ M0 X2 := k1.k p2
  have t2 : X2 13 = nI T := (p2 13 (by omega) (by omega) (by omega) (by omega) (by omega) (by omega)).trans t1
  rcases c2.symm with ⟨F', M', o1, o2, o3, o4, o5, o6, o7⟩ | ⟨o1, o2⟩
  · replace o1 : r_opens n R F tp 5 (fun j => L_extra.getD j 0) 2 = some (true, upd R 1 (nI (T ||| 2 ^ 1)), F') := o1
    replace o3 : monce n X2 tq 1 6050369 = some M' := o3
    have kq : KQ M0 M' := fun i a b c d e f g => (o6 i a b c d e f g).trans (k1 i a b c d e f g)
    have hb : T.testBit 1 = true → BC F' := fun z => by
      rcases o4 with q | q
      · exact absurd (o7 q) (by rw [z]; decide)
      · exact ⟨q.1.1, q.1.2.1⟩
    rw [o1, Option.bind_some, o2, Option.bind_some, if_pos rfl, if_pos rfl]
    dsimp only
    obtain ⟨v, F2, v', M2, w2, a1, a2, a3, a4⟩ := st_extra hq hL hT o4 o5 kq hwf h56 hmb hct hn
    unfold mnumberTold
    rw [o3, Option.bind_some, a1, Option.bind_some, a2, Option.bind_some]
    dsimp only
    rw [a3, Option.bind_some, Option.bind_some]
    exact OUT_semi hq hL (by omega) (PS_p a4) (fun z => by
      have hc := BC_num (hb z) tp n 1 30
      rw [a1] at hc
      cases hc
      exact hb z) hn
  rw [show r_opens n R F tp 5 (fun j => L_extra.getD j 0) 2 = _ from o1, Option.bind_some, o2, Option.bind_some, if_neg (show ¬ (false = true) by decide), if_neg (show ¬ (false = true) by decide)]
  dsimp only
  clear o1 o2
  obtain ⟨X3, p3, f3, c3⟩ := SS_opens hq hL ws_even f2 hT (k := 2) (by omega) hR t2 hn
  have k3 : KQ M0 X3 := k2.k p3
  have t3 : X3 13 = nI T := (p3 13 (by omega) (by omega) (by omega) (by omega) (by omega) (by omega)).trans t2
  rcases c3.symm with ⟨F', M', o1, o2, o3, o4, o5, o6, o7⟩ | ⟨o1, o2⟩
  · replace o1 : r_opens n R F tp 4 (fun j => L_even.getD j 0) 4 = some (true, upd R 1 (nI (T ||| 2 ^ 2)), F') := o1
    replace o3 : monce n X3 tq 2 186542 = some M' := o3
    have kq : KQ M0 M' := fun i a b c d e f g => (o6 i a b c d e f g).trans (k2 i a b c d e f g)
    have hb : T.testBit 2 = true → BC F' := fun z => by
      rcases o4 with q | q
      · exact absurd (o7 q) (by rw [z]; decide)
      · exact ⟨q.1.1, q.1.2.1⟩
    rw [o1, Option.bind_some, o2, Option.bind_some, if_pos rfl, if_pos rfl]
    dsimp only
    obtain ⟨R', F1, x, F2, e, m, a1, a2, a3, a4, a5⟩ := st_even hq hL hT o4 o5 o7 kq hwf h56 hmb hct hn
    unfold mevenRead
    rw [o3, Option.bind_some, a1, Option.bind_some, a4, Option.bind_some]
    dsimp only
    rw [a2, Option.bind_some]
    dsimp only
    rw [a3, Option.bind_some]
    refine OUT_semi hq hL (by omega) (PS_p a5) (fun z => ?_) hn
    have e1 : F1 = _ := BC_share (hb z) a1
    subst e1
    have e2 : F2 = _ := BC_shift (hb z) a2
    rw [e2]; exact hb z
  rw [show r_opens n R F tp 4 (fun j => L_even.getD j 0) 4 = _ from o1, Option.bind_some, o2, Option.bind_some, if_neg (show ¬ (false = true) by decide), if_neg (show ¬ (false = true) by decide)]
  dsimp only
  clear o1 o2
  obtain ⟨X4, p4, f4, c4⟩ := SS_opens hq hL ws_every f3 hT (k := 2) (by omega) hR t3 hn
  have k4 : KQ M0 X4 := k3.k p4
  have t4 : X4 13 = nI T := (p4 13 (by omega) (by omega) (by omega) (by omega) (by omega) (by omega)).trans t3
  rcases c4.symm with ⟨F', M', o1, o2, o3, o4, o5, o6, o7⟩ | ⟨o1, o2⟩
  · replace o1 : r_opens n R F tp 5 (fun j => L_every.getD j 0) 4 = some (true, upd R 1 (nI (T ||| 2 ^ 2)), F') := o1
    replace o3 : monce n X4 tq 2 5969497 = some M' := o3
    have kq : KQ M0 M' := fun i a b c d e f g => (o6 i a b c d e f g).trans (k3 i a b c d e f g)
    have hb : T.testBit 2 = true → BC F' := fun z => by
      rcases o4 with q | q
      · exact absurd (o7 q) (by rw [z]; decide)
      · exact ⟨q.1.1, q.1.2.1⟩
    rw [o1, Option.bind_some, o2, Option.bind_some, if_pos rfl, if_pos rfl]
    dsimp only
    obtain ⟨lv', F2, m, a1, a2, a3⟩ := st_every hq hL hT o4 o5 kq hwf h56 hmb hct hn
    unfold meveryRead
    rw [o3, Option.bind_some, a1, Option.bind_some, a2, Option.bind_some]
    refine OUT_semi hq hL (by omega) (PS_p a3) (fun z => ?_) hn
    have e2 : F2 = _ := BC_ladder (hb z) a1
    rw [e2]; exact hb z
  rw [show r_opens n R F tp 5 (fun j => L_every.getD j 0) 4 = _ from o1, Option.bind_some, o2, Option.bind_some, if_neg (show ¬ (false = true) by decide), if_neg (show ¬ (false = true) by decide)]
  dsimp only
  clear o1 o2
  obtain ⟨X5, p5, f5, c5⟩ := SS_opens hq hL ws_row f4 hT (k := 2) (by omega) hR t4 hn
  have k5 : KQ M0 X5 := k4.k p5
  have t5 : X5 13 = nI T := (p5 13 (by omega) (by omega) (by omega) (by omega) (by omega) (by omega)).trans t4
  rcases c5.symm with ⟨F', M', o1, o2, o3, o4, o5, o6, o7⟩ | ⟨o1, o2⟩
  · replace o1 : r_opens n R F tp 3 (fun j => L_row.getD j 0) 4 = some (true, upd R 1 (nI (T ||| 2 ^ 2)), F') := o1
    replace o3 : monce n X5 tq 2 18935 = some M' := o3
    have kq : KQ M0 M' := fun i a b c d e f g => (o6 i a b c d e f g).trans (k4 i a b c d e f g)
    have hb : T.testBit 2 = true → BC F' := fun z => by
      rcases o4 with q | q
      · exact absurd (o7 q) (by rw [z]; decide)
      · exact ⟨q.1.1, q.1.2.1⟩
    rw [o1, Option.bind_some, o2, Option.bind_some, if_pos rfl, if_pos rfl]
    dsimp only
    obtain ⟨lv', F2, v, M2, m, a1, a2, a3, a4⟩ := st_row hq hL hT o4 o5 o7 kq hwf h56 hmb hct hn
    unfold mrowRead
    rw [o3, Option.bind_some, a1, Option.bind_some, a2, Option.bind_some]
    dsimp only
    rw [a3, Option.bind_some]
    refine OUT_semi hq hL (by omega) a4 (fun z => ?_) hn
    have e2 : F2 = _ := BC_row (hb z) a1
    rw [e2]; exact hb z
  rw [show r_opens n R F tp 3 (fun j => L_row.getD j 0) 4 = _ from o1, Option.bind_some, o2, Option.bind_some, if_neg (show ¬ (false = true) by decide), if_neg (show ¬ (false = true) by decide)]
  dsimp only
  clear o1 o2
  obtain ⟨X6, p6, f6, c6⟩ := SS_opens hq hL ws_months f5 hT (k := 3) (by omega) hR t5 hn
  have k6 : KQ M0 X6 := k5.k p6
  have t6 : X6 13 = nI T := (p6 13 (by omega) (by omega) (by omega) (by omega) (by omega) (by omega)).trans t5
  rcases c6.symm with ⟨F', M', o1, o2, o3, o4, o5, o6, o7⟩ | ⟨o1, o2⟩
  · replace o1 : r_opens n R F tp 6 (fun j => L_months.getD j 0) 8 = some (true, upd R 1 (nI (T ||| 2 ^ 3)), F') := o1
    replace o3 : monce n X6 tq 3 452415763 = some M' := o3
    have kq : KQ M0 M' := fun i a b c d e f g => (o6 i a b c d e f g).trans (k5 i a b c d e f g)
    have hb : T.testBit 3 = true → BC F' := fun z => by
      rcases o4 with q | q
      · exact absurd (o7 q) (by rw [z]; decide)
      · exact ⟨q.1.1, q.1.2.1⟩
    rw [o1, Option.bind_some, o2, Option.bind_some, if_pos rfl, if_pos rfl]
    dsimp only
    obtain ⟨x, y, a1, a2, a3⟩ := st_months hq hL hT o4 o5 kq hwf h56 hct hn
    unfold mmonthsRead
    rw [o3, Option.bind_some, a1, Option.bind_some, a2, Option.bind_some]
    refine OUT_semi hq hL (by omega) a3 (fun z => ?_) hn
    have e2 : x.2.2 = _ := BC_months (hb z) a1
    rw [e2]; exact hb z
  rw [show r_opens n R F tp 6 (fun j => L_months.getD j 0) 8 = _ from o1, Option.bind_some, o2, Option.bind_some, if_neg (show ¬ (false = true) by decide), if_neg (show ¬ (false = true) by decide)]
  dsimp only
  clear o1 o2
  obtain ⟨X7, p7, f7, c7⟩ := SS_opens hq hL ws_week f6 hT (k := 4) (by omega) hR t6 hn
  have k7 : KQ M0 X7 := k6.k p7
  have t7 : X7 13 = nI T := (p7 13 (by omega) (by omega) (by omega) (by omega) (by omega) (by omega)).trans t6
  rcases c7.symm with ⟨F', M', o1, o2, o3, o4, o5, o6, o7⟩ | ⟨o1, o2⟩
  · replace o1 : r_opens n R F tp 4 (fun j => L_week.getD j 0) 16 = some (true, upd R 1 (nI (T ||| 2 ^ 4)), F') := o1
    replace o3 : monce n X7 tq 4 758955 = some M' := o3
    have kq : KQ M0 M' := fun i a b c d e f g => (o6 i a b c d e f g).trans (k6 i a b c d e f g)
    have hb : T.testBit 4 = true → BC F' := fun z => by
      rcases o4 with q | q
      · exact absurd (o7 q) (by rw [z]; decide)
      · exact ⟨q.1.1, q.1.2.1⟩
    rw [o1, Option.bind_some, o2, Option.bind_some, if_pos rfl, if_pos rfl]
    dsimp only
    obtain ⟨R', F2, v', M2, M3, w1, v2, M4, w2, a1, a2, a3, a4, a5, a6, a7⟩ := st_week hq hL hT o4 o5 kq hwf h56 hmb hct hn
    unfold mweekRead
    rw [o3, Option.bind_some, a1, Option.bind_some, a2, Option.bind_some]
    dsimp only
    rw [a3, Option.bind_some, a4, Option.bind_some, a5, Option.bind_some]
    dsimp only
    rw [a6, Option.bind_some, Option.bind_some]
    refine OUT_semi hq hL (by omega) (PS_p a7) (fun z => ?_) hn
    have e2 : F2 = _ := BC_week (hb z) a1
    rw [e2]; exact hb z
  rw [show r_opens n R F tp 4 (fun j => L_week.getD j 0) 16 = _ from o1, Option.bind_some, o2, Option.bind_some, if_neg (show ¬ (false = true) by decide), if_neg (show ¬ (false = true) by decide)]
  dsimp only
  clear o1 o2
  obtain ⟨X8, p8, f8, c8⟩ := SS_opens hq hL ws_true f7 hT (k := 5) (by omega) hR t7 hn
  have k8 : KQ M0 X8 := k7.k p8
  have t8 : X8 13 = nI T := (p8 13 (by omega) (by omega) (by omega) (by omega) (by omega) (by omega)).trans t7
  rcases c8.symm with ⟨F', M', o1, o2, o3, o4, o5, o6, o7⟩ | ⟨o1, o2⟩
  · replace o1 : r_opens n R F tp 4 (fun j => L_true.getD j 0) 32 = some (true, upd R 1 (nI (T ||| 2 ^ 5)), F') := o1
    replace o3 : monce n X8 tq 5 674469 = some M' := o3
    have kq : KQ M0 M' := fun i a b c d e f g => (o6 i a b c d e f g).trans (k7 i a b c d e f g)
    have hb : T.testBit 5 = true → BC F' := fun z => by
      rcases o4 with q | q
      · exact absurd (o7 q) (by rw [z]; decide)
      · exact ⟨q.1.1, q.1.2.1⟩
    rw [o1, Option.bind_some, o2, Option.bind_some, if_pos rfl, if_pos rfl]
    dsimp only
    obtain ⟨v, F1, b, F2, R', F3, v', M2, w1, M3, M4, w2, ty', a1, a2, a3, a4, a5, a6, a7, a8, a9, a10⟩ := st_true hq hL hT o4 o5 kq hwf h56 hmb hct hn
    unfold mtrueRead
    rw [o3, Option.bind_some, a1, Option.bind_some, a6, Option.bind_some]
    dsimp only
    rw [a2, Option.bind_some, a3, Option.bind_some, a4, Option.bind_some]
    dsimp only
    rw [a5, Option.bind_some, a7, Option.bind_some, a8, Option.bind_some, a9, Option.bind_some, Option.bind_some]
    refine OUT_semi hq hL (by omega) (PS_p a10) (fun z => ?_) hn
    have hc := BC_num (hb z) tp n 0 999
    rw [a1] at hc
    cases hc
    have hc := BC_takeIf (hb z) tp n (zb b)
    rw [a3] at hc
    cases hc
    have e2 : F3 = _ := BC_share (hb z) a4
    rw [e2]; exact hb z
  rw [show r_opens n R F tp 4 (fun j => L_true.getD j 0) 32 = _ from o1, Option.bind_some, o2, Option.bind_some, if_neg (show ¬ (false = true) by decide), if_neg (show ¬ (false = true) by decide)]
  dsimp only
  clear o1 o2
  obtain ⟨X9, p9, f9, c9⟩ := SS_opens hq hL ws_begins f8 hT (k := 6) (by omega) hR t8 hn
  have k9 : KQ M0 X9 := k8.k p9
  have t9 : X9 13 = nI T := (p9 13 (by omega) (by omega) (by omega) (by omega) (by omega) (by omega)).trans t8
  rcases c9.symm with ⟨F', M', o1, o2, o3, o4, o5, o6, o7⟩ | ⟨o1, o2⟩
  · replace o1 : r_opens n R F tp 6 (fun j => L_begins.getD j 0) 64 = some (true, upd R 1 (nI (T ||| 2 ^ 6)), F') := o1
    replace o3 : monce n X9 tq 6 72590803 = some M' := o3
    have kq : KQ M0 M' := fun i a b c d e f g => (o6 i a b c d e f g).trans (k8 i a b c d e f g)
    have hb : T.testBit 6 = true → BC F' := fun z => by
      rcases o4 with q | q
      · exact absurd (o7 q) (by rw [z]; decide)
      · exact ⟨q.1.1, q.1.2.1⟩
    rw [o1, Option.bind_some, o2, Option.bind_some, if_pos rfl, if_pos rfl]
    dsimp only
    obtain ⟨R', F2, M2, w2, ty', a1, a2, a3, a4⟩ := st_begins hq hL hT o4 o5 kq hwf h56 hmb hct hn
    unfold mbeginsRead
    rw [o3, Option.bind_some, a1, Option.bind_some, a2, Option.bind_some]
    dsimp only
    rw [a3, Option.bind_some, Option.bind_some]
    refine OUT_semi hq hL (by omega) (PS_p a4) (fun z => ?_) hn
    have e2 : F2 = _ := BC_share (hb z) a1
    rw [e2]; exact hb z
  rw [show r_opens n R F tp 6 (fun j => L_begins.getD j 0) 64 = _ from o1, Option.bind_some, o2, Option.bind_some, if_neg (show ¬ (false = true) by decide), if_neg (show ¬ (false = true) by decide)]
  dsimp only
  clear o1 o2
  obtain ⟨F2, M2, u1, u2, u3, u4, u5⟩ := SS_unlike hq hL (Or.inl f9 : SS tp L F X9) hn
  rw [u1, Option.bind_some, u2, Option.bind_some]
  exact OUT_semi hq hL (k := 0) (by omega) ⟨Or.inl (Or.inr u3), k9.k u4, hwf, h56, hmb, fun z => (not_both z u3).elim⟩ (fun _ => ⟨u3.1.1, u3.1.2.1⟩) hn
