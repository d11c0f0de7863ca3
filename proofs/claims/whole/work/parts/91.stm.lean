/-! ===== design: statements, what they share ===== -/
theorem SS_u {tp : Nat → Int32} {L : Nat} {F M M' : Nat → Int32} (h : SS tp L F M) (hM : ∀ i, i = 3 ∨ i = 4 ∨ i = 5 ∨ i = 6 ∨ i = 7 → M' i = M i) : SS tp L F M' := by
  rcases h with h | h
  · obtain ⟨h1, h2, a, fr, to, h3, h4, h5, h6, e0, h7, h8⟩ := h
    exact Or.inl ⟨h1, ⟨(hM 3 (by omega)).trans h2.1, (hM 6 (by omega)).trans h2.2.1, (hM 7 (by omega)).trans h2.2.2⟩, a, fr, to, ⟨h3.1, h3.2.1, (hM 4 (by omega)).trans h3.2.2⟩, h4, h5, by rw [hM 5 (by omega)]; exact h6, e0, (hM 5 (by omega)).trans h7, h8⟩
  · obtain ⟨h1, h2, a, h3, h4⟩ := h
    exact Or.inr ⟨h1, ⟨(hM 3 (by omega)).trans h2.1, (hM 6 (by omega)).trans h2.2.1, (hM 7 (by omega)).trans h2.2.2⟩, a, h3, (hM 4 (by omega)).trans h4⟩
theorem FI_of {tp : Nat → Int32} {L : Nat} {F M : Nat → Int32} (h : SS tp L F M) (h6 : M 6 = 0) : FI tp L F M := by
  rcases h with h | h
  · exact h
  · exact absurd h6 (by rw [h.2.1.2.1]; exact h.1.1)
theorem m_lays {M w : Nat → Int32} {k : Nat} (hk : k < 442) (v : Int32) : mlays M w (nI k) v = some (if M 6 = 0 then upd w (2652 + k) v else w) := by
  unfold mlays
  rw [m_fine, Option.bind_some, show (2652 : Int32) + nI k = nI (2652 + k) by rw [show (2652 : Int32) = nI 2652 from rfl, nI_iI, nI_iI, nI_iI, iI_add]; rfl, zck_t (qI_z (by omega) (by omega)), qI_n (by omega)]
  by_cases p : M 6 = 0
  · rw [if_pos (decide_eq_true p), if_pos p]
  · rw [if_neg (dneg p), if_neg p]
theorem told_bits : ∀ T, T < 128 → ∀ k, k < 7 → ((nI T &&& nI (2 ^ k) = 0) = (T.testBit k = false)) ∧ (((nI T >>> (nI k &&& 31)) &&& 1 = 1) = (T.testBit k = true)) ∧ nI T ||| nI (2 ^ k) = nI (T ||| 2 ^ k) ∧ nI T ||| (1 <<< (nI k &&& 31)) = nI (T ||| 2 ^ k) ∧ T ||| 2 ^ k < 128 := by
  have h : ∀ T, T < 128 → ∀ k, k < 7 → (decide (nI T &&& nI (2 ^ k) = 0) = decide (T.testBit k = false)) ∧ (decide ((nI T >>> (nI k &&& 31)) &&& 1 = 1) = decide (T.testBit k = true)) ∧ nI T ||| nI (2 ^ k) = nI (T ||| 2 ^ k) ∧ nI T ||| (1 <<< (nI k &&& 31)) = nI (T ||| 2 ^ k) ∧ T ||| 2 ^ k < 128 := by decide +kernel
  intro T hT k hk
  obtain ⟨h1, h2, h3, h4, h5⟩ := h T hT k hk
  exact ⟨propext (decide_eq_decide.mp h1), propext (decide_eq_decide.mp h2), h3, h4, h5⟩
/-- a statement opens: its word, told once -/
theorem SS_opens {tp tq : Nat → Int32} (hq : ∀ i, i < 800 → tq i = tp i) {L : Nat} (hL : L ≤ 800) {wn : Nat} {wf : Nat → Int32} {W : Int64} (hw : wSp wn wf W) {R F M : Nat → Int32} (h : FI tp L F M) {T k : Nat} (hT : T < 128) (hk : k < 7) (hR : R 1 = nI T) (hM : M 13 = nI T) {n : Nat} (hn : 250000 ≤ n) : ∃ M1, KP M M1 ∧ FI tp L F M1 ∧ ((r_opens n R F tp wn wf (nI (2 ^ k)) = some (false, R, F) ∧ misWord n M tq W = some (false, M1)) ∨ ∃ F' M', r_opens n R F tp wn wf (nI (2 ^ k)) = some (true, upd R 1 (nI (T ||| 2 ^ k)), F') ∧ misWord n M tq W = some (true, M1) ∧ monce n M1 tq (nI k) W = some M' ∧ SS tp L F' M' ∧ M' 13 = nI (T ||| 2 ^ k) ∧ (∀ i, i ≠ 13 → i ≠ 4 → i ≠ 5 → i ≠ 6 → i ≠ 7 → i ≠ 10 → i ≠ 11 → M' i = M i) ∧ (FI tp L F' M' → T.testBit k = false)) := by
  obtain ⟨b, M1, e1, e2, e3, e4, e5⟩ := SS_word hq hL hw (Or.inl h) hn
  have f1 : FI tp L F M1 := by
    obtain ⟨q, M0, g1, g2, g3, g4, g5, g6⟩ := SS_next hq hL (Or.inl h) hn
    rcases e3 with z | z
    · exact z
    · exact absurd h.1.2.1 z.1.1
  refine ⟨M1, e4, f1, ?_⟩
  obtain ⟨b1, b2, b3, b4, b5⟩ := told_bits T hT k hk
  cases b
  · left
    unfold r_opens
    rw [e1, Option.bind_some, if_neg (by decide)]
    exact ⟨rfl, e2⟩
  · right
    have hM1 : M1 13 = nI T := (e4 13 (by omega) (by omega) (by omega) (by omega) (by omega) (by omega)).trans hM
    unfold r_opens r_opens_37 monce
    rw [e1, Option.bind_some, if_pos rfl, if_c (show (R 1 &&& nI (2 ^ k) = 0) = (T.testBit k = false) by rw [hR]; exact b1), if_c (show ((M1 13 >>> (nI k &&& 31)) &&& 1 = 1) = (T.testBit k = true) by rw [hM1]; exact b2)]
    have hRo : R 1 ||| nI (2 ^ k) = nI (T ||| 2 ^ k) := by rw [hR]; exact b3
    rw [hRo]
    cases hb : T.testBit k
    · rw [if_pos rfl, if_neg (by decide)]
      unfold monce_21
      have hMo : M1 13 ||| (1 <<< (nI k &&& 31)) = nI (T ||| 2 ^ k) := by rw [hM1]; exact b4
      rw [hMo]
      have ss : SS tp L F (upd M1 13 (nI (T ||| 2 ^ k))) := SS_u (Or.inl f1) (fun i hi => upd_ne (by omega))
      obtain ⟨b', M2, t1, t2, t3, t4, t5⟩ := SS_takes hq hL hw ss hn
      have hbt : b' = true := by rw [e1] at t1; exact (Option.some.inj t1).symm
      subst hbt
      obtain ⟨F', a1, a2⟩ := t5 rfl
      rw [m_fine, Option.bind_some, if_pos (decide_eq_true (show upd M1 13 (nI (T ||| 2 ^ k)) 6 = 0 from f1.2.1.2.1)), t2, Option.bind_some, a1, Option.bind_some]
      refine ⟨F', M2, rfl, e2, rfl, Or.inl a2, (t3 13 (by omega) (by omega) (by omega) (by omega) (by omega) (by omega)).trans upd_at, fun i i13 i4 i5 i6 i7 i10 i11 => (t3 i i4 i5 i6 i7 i10 i11).trans ((upd_ne i13).trans (e4 i i4 i5 i6 i7 i10 i11)), fun _ => rfl⟩
    · rw [if_neg (by decide), if_pos rfl]
      obtain ⟨q, M2, g1, g2, g3, g4, g5, g6⟩ := SS_next hq hL (Or.inl f1) hn
      obtain ⟨k1, k2, _⟩ := g6 f1
      obtain ⟨F', M3, u1, u2, u3, u4, u5⟩ := SS_fail hL (Or.inl k2) (k := 3) (p := F 2) (p' := nI q) (by decide) (fun _ => k1)
      rw [u1, Option.bind_some, g1, Option.bind_some]
      dsimp only
      rw [u2, Option.bind_some]
      unfold monce_21
      have hM3 : M3 13 = nI T := (u4 13 (by omega) (by omega) (by omega) (by omega) (by omega) (by omega)).trans ((g4 13 (by omega)).trans hM1)
      have hMo : M3 13 ||| (1 <<< (nI k &&& 31)) = nI (T ||| 2 ^ k) := by rw [hM3]; exact b4
      rw [hMo, m_fine, Option.bind_some, if_neg (dneg (show ¬ upd M3 13 (nI (T ||| 2 ^ k)) 6 = 0 by show ¬ M3 6 = 0; rw [u3.2.1.2.1]; exact u3.1.1)), c_bad u3, Option.bind_some]
      have hbd : BD L F' (upd M3 13 (nI (T ||| 2 ^ k))) := ⟨u3.1, u3.2.1, u3.2.2⟩
      refine ⟨F', _, rfl, e2, rfl, Or.inr hbd, upd_at, fun i i13 i4 i5 i6 i7 i10 i11 => (upd_ne i13).trans ((u4 i i4 i5 i6 i7 i10 i11).trans ((g4 i i4).trans (e4 i i4 i5 i6 i7 i10 i11))), fun z => (not_both z hbd).elim⟩
/-- the end of a statement -/
theorem SS_semi {tp tq : Nat → Int32} (hq : ∀ i, i < 800 → tq i = tp i) {L : Nat} (hL : L ≤ 800) {F M : Nat → Int32} (h : SS tp L F M) (R : Nat → Int32) (lv : vLaw) (mo : Option vArr) (ty : vTrue) (w : Nat → Int32) {n : Nat} (hn : 250000 ≤ n) : ∃ F' M', r_readStatement_294 n R lv mo ty F tp = some (R, lv, mo, ty, F') ∧ mstatement_172 n M tq w = some (M', w) ∧ SS tp L F' M' ∧ KP M M' ∧ (FI tp L F' M' → FI tp L F M) := by
  unfold r_readStatement_294 mstatement_172 n_takeIf
  rw [m_fine, Option.bind_some]
  rcases SS_fine h with ⟨f0, f1⟩ | ⟨f0, f1⟩
  · rw [if_pos (decide_eq_true f0)]
    obtain ⟨q, M1, e1, eqL, e4, e5, e6, e7⟩ := SS_next hq hL h hn
    obtain ⟨g1, g2, g3, to, g4, ⟨g5, g6⟩, g7⟩ := e7 f1
    have h6 : M1 6 = 0 := (e5 6 (by omega)).trans f0
    rw [e1, Option.bind_some]
    dsimp only
    rw [if_c (show (M1 3 ≤ nI q) = (L ≤ q) by rw [g2.2.1.1, qI_le (by omega) (by omega)])]
    have hbad : F 1 ≠ 4 → ∃ F' M', (if F 1 = 4 then ((if (1 : Int32) = 0 then (n_fail F 1 (F 2)).bind (fun v1 => some v1) else (n_advance n F tp).bind (fun v2 => some v2)).bind (fun v2 => some (R, lv, mo, ty, v2))) else ((if (0 : Int32) = 0 then (n_fail F 1 (F 2)).bind (fun v1 => some v1) else (n_advance n F tp).bind (fun v2 => some v2)).bind (fun v1 => some (R, lv, mo, ty, v1)))) = some (R, lv, mo, ty, F') ∧ mstatement_204 n M1 tq w = some (M', w) ∧ SS tp L F' M' ∧ KP M M' ∧ (FI tp L F' M' → FI tp L F M) := fun h4 => by
      obtain ⟨F', M', u1, u2, u3, u4, u5⟩ := SS_unlike hq hL (Or.inl g2) hn
      unfold mstatement_204 mstatement_208
      rw [if_neg h4, if_pos rfl, u1, Option.bind_some, Option.bind_some, u2, Option.bind_some, m_fine, Option.bind_some, if_neg (dneg (by rw [u3.2.1.2.1]; exact u3.1.1))]
      exact ⟨F', M', rfl, rfl, Or.inr u3, fun i i4 i5 i6 i7 i10 i11 => (u4 i i4 i5 i6 i7 i10 i11).trans (e5 i i4), fun z => (not_both z u3).elim⟩
    have hkind : (F 1 = 4) = (q < L ∧ tp q = 59) := by
      have s4 := (so_e (tp q)).2.2.2.2.1
      rcases g7 with ⟨b1, b2, z⟩ | ⟨b1, b2, b3, b4⟩ | ⟨b1, b2, b3, z⟩
      · rw [z]; exact propext ⟨fun y => absurd y (by decide), fun y => by omega⟩
      · refine propext ⟨fun y => ?_, fun y => ?_⟩
        · rcases b4 with ⟨_, z⟩ | ⟨_, z⟩
          · rw [z] at y; exact absurd y (by decide)
          · rw [z] at y; rcases b2 with b2 | b2 <;> (rw [b2] at y; exact absurd y (by decide))
        · have := y.2
          rw [← s4] at this
          rcases b2 with b2 | b2 <;> (rw [b2] at this; exact absurd this (by decide))
      · rw [z, s4]; exact propext ⟨fun y => ⟨b1, y⟩, fun y => y.2⟩
    by_cases p : L ≤ q
    · rw [if_pos p]
      exact hbad (by rw [Ne, hkind]; omega)
    · have hz4 : zin (M1 4) 800 = true := by rw [e4]; exact qI_z (by omega) (by omega)
      have h59 : (tq (M1 4).toNatClampNeg = 59) = (tp q = 59) := by rw [e4, qI_n (by omega), hq q (by omega)]
      rw [if_neg p, zck_t hz4, if_c h59]
      by_cases p2 : tp q = 59
      · have hk4 : F 1 = 4 := by rw [hkind]; exact ⟨by omega, p2⟩
        unfold mstatement_208
        rw [if_pos p2, m_fine, Option.bind_some, if_pos (decide_eq_true h6), if_pos hk4, if_neg (by decide), e4, qI_1]
        have hto : to = q + 1 := by
          rcases g7 with ⟨b1, b2, z⟩ | ⟨b1, b2, b3, b4⟩ | ⟨b1, b2, b3, z⟩
          · omega
          · exfalso
            have := (so_e (tp q)).2.2.2.2.1
            have h59 : so (tp q) = 4 := by rw [this]; exact p2
            rcases b2 with b2 | b2 <;> (rw [b2] at h59; exact absurd h59 (by decide))
          · exact b3
        obtain ⟨F', adv, hfi⟩ := FI_adv (M' := upd M1 4 (nI (q + 1))) hL g2 ⟨rfl, rfl, rfl⟩ (by rw [g4, hto]; rfl) (Or.inr ⟨hk4, rfl⟩) hn
        rw [adv, Option.bind_some, Option.bind_some]
        exact ⟨F', _, rfl, rfl, Or.inl hfi, fun i i4 i5 i6 i7 i10 i11 => (upd_ne i4).trans (e5 i i4), fun _ => f1⟩
      · rw [if_neg p2]
        exact hbad (by rw [Ne, hkind]; exact fun z => p2 z.2)
  · unfold mstatement_208 n_fail
    rw [if_neg (dneg f0), m_fine, Option.bind_some, if_neg (dneg f0), if_neg (show ¬ F 1 = 4 by rw [f1.1.2.1]; decide), if_pos rfl, if_neg f1.1.1, Option.bind_some, Option.bind_some]
    have hbd : BD L (upd F 1 0) M := ⟨⟨f1.1.1, rfl, f1.1.2.2⟩, f1.2.1, f1.2.2⟩
    exact ⟨_, M, rfl, rfl, Or.inr hbd, KP.r _, fun z => (not_both z hbd).elim⟩
/-- a word that must come -/
theorem SS_needs {tp tq : Nat → Int32} (hq : ∀ i, i < 800 → tq i = tp i) {L : Nat} (hL : L ≤ 800) {wn : Nat} {wf : Nat → Int32} {W : Int64} (hw : wSp wn wf W) {F M : Nat → Int32} (h : SS tp L F M) {n : Nat} (hn : 250000 ≤ n) : ∃ b F' M', n_sees wn wf n F tp = some b ∧ n_takeIf n F tp (zb b) = some F' ∧ mneeds n M tq W = some M' ∧ SS tp L F' M' ∧ KP M M' ∧ (FI tp L F' M' → FI tp L F M) := by
  obtain ⟨b, M1, t1, t2, t3, t4, t5⟩ := SS_takes hq hL hw h hn
  suffices h' : ∃ F' M', n_takeIf n F tp (zb b) = some F' ∧ mneeds n M tq W = some M' ∧ SS tp L F' M' ∧ KP M M' ∧ (FI tp L F' M' → FI tp L F M) by
    obtain ⟨F', M', x1, x2, x3⟩ := h'
    exact ⟨b, F', M', t1, x1, x2, x3⟩
  unfold mneeds n_takeIf
  rw [m_fine, Option.bind_some, if_c (zb0 _)]
  rcases SS_fine h with ⟨f0, f1⟩ | ⟨f0, f1⟩
  · rw [if_pos (decide_eq_true f0), t2, Option.bind_some]
    dsimp only
    cases b
    · obtain ⟨F', M', u1, u2, u3, u4, u5⟩ := SS_unlike hq hL (t4 rfl) hn
      rw [if_pos rfl, if_neg (by decide), u1, u2, Option.bind_some, Option.bind_some]
      exact ⟨F', M', rfl, rfl, Or.inr u3, t3.t u4, fun z => (not_both z u3).elim⟩
    · obtain ⟨F', a1, a2⟩ := t5 rfl
      rw [if_neg (by decide), if_pos rfl, a1, Option.bind_some]
      exact ⟨F', M1, rfl, rfl, Or.inl a2, t3, fun _ => f1⟩
  · have hb : b = false := by
      unfold n_sees at t1
      rw [if_neg (by rw [f1.1.2.1]; decide)] at t1
      exact (Option.some.inj t1).symm
    subst hb
    have hbd : BD L (upd F 1 0) M := ⟨⟨f1.1.1, rfl, f1.1.2.2⟩, f1.2.1, f1.2.2⟩
    unfold n_fail
    rw [if_neg (dneg f0), if_pos rfl, if_neg f1.1.1, Option.bind_some]
    exact ⟨_, M, rfl, rfl, Or.inr hbd, KP.r _, fun z => (not_both z hbd).elim⟩
