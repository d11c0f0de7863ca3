/-! ===== design: what is told ===== -/
def MOr (R : Nat → Int32) (mo : Option vArr) (w : Nat → Int32) : Prop := w 2657 = R 6 ∧ ((mo = none ∧ w 2656 = 0 ∧ R 6 = 0) ∨ ∃ m, mo = some m ∧ (1 ≤ m.1 ∧ m.1 ≤ 15) ∧ w 2656 = nI m.1 ∧ (∀ i, i < m.1 → w (2676 + i) = m.2 i ∧ 1 ≤ (m.2 i).toInt ∧ (m.2 i).toInt ≤ 999) ∧ 0 ≤ (R 6).toInt ∧ (R 6).toInt < m.1)
def LWr : vLaw → (Nat → Int32) → Prop
  | .inl _, w => w 2655 = 0 ∧ w 2660 = 1
  | .inr (.inl e), w => LR (.inr (.inl e)) w 2652 ∧ lOk (.inr (.inl e))
  | .inr (.inr (.inl a)), w => LR (.inr (.inr (.inl a))) w 2652 ∧ lOk (.inr (.inr (.inl a)))
  | .inr (.inr (.inr r)), w => (w 2655 = 3 ∧ w 2660 = r.2 ∧ w 2692 = 0 ∧ ∀ i, i < r.2.toInt.toNat → w (2692 + (i + 1)) = r.1.2 (i + 1) - r.1.2 i) ∧ lOk (.inr (.inr (.inr r)))
def LAr (lv : vLaw) (w : Nat → Int32) (T : Nat) : Prop := (T.testBit 2 = false → w 2663 = 0 ∧ ∀ i, i < 402 → w (2692 + i) = 0) ∧ LWr lv w
def TYr (ty : vTrue) (w : Nat → Int32) : Prop := (w 2664 = ty.1 ∧ w 2665 = ty.2.1 ∧ w 2666 = ty.2.2.1 ∧ w 2667 = ty.2.2.2.1 ∧ w 2668 = ty.2.2.2.2) ∧ tOk ty
def CT (R : Nat → Int32) (lv : vLaw) (mo : Option vArr) (ty : vTrue) (w : Nat → Int32) (T : Nat) : Prop := (w 2652 = 1 ∧ (w 2653 = R 2 ∧ 1 ≤ (R 2).toInt ∧ (R 2).toInt ≤ 999) ∧ (w 2654 = R 3 ∧ 1 ≤ (R 3).toInt ∧ (R 3).toInt ≤ 30) ∧ (w 2658 = R 7 ∧ 1 ≤ (R 7).toInt ∧ (R 7).toInt ≤ 10) ∧ w 2659 = R 8 ∧ 0 ≤ (R 8).toInt ∧ (R 8).toInt < (R 7).toInt) ∧ MOr R mo w ∧ LAr lv w T ∧ TYr ty w
theorem MOr_c {R R' : Nat → Int32} {mo : Option vArr} {w w' : Nat → Int32} (hR : R' 6 = R 6) (hw : ∀ i, i = 2656 ∨ i = 2657 ∨ (2676 ≤ i ∧ i < 2692) → w' i = w i) (h : MOr R mo w) : MOr R' mo w' := by
  obtain ⟨h1, h2⟩ := h
  refine ⟨by rw [hw _ (by omega), hR]; exact h1, ?_⟩
  rcases h2 with ⟨a, b, c⟩ | ⟨m, a, b, c, d, e⟩
  · exact Or.inl ⟨a, by rw [hw _ (by omega)]; exact b, hR.trans c⟩
  · exact Or.inr ⟨m, a, b, by rw [hw _ (by omega)]; exact c, fun i hi => by rw [hw _ (by omega)]; exact d i hi, by rw [hR]; exact e⟩
theorem LAr_c {lv : vLaw} {w w' : Nat → Int32} {T T' : Nat} (hT : T'.testBit 2 = T.testBit 2) (hw : ∀ i, i = 2655 ∨ (2660 ≤ i ∧ i ≤ 2663) ∨ (2669 ≤ i ∧ i ≤ 2675) ∨ (2692 ≤ i ∧ i < 3094) → w' i = w i) (h : LAr lv w T) : LAr lv w' T' := by
  obtain ⟨h1, h2⟩ := h
  refine ⟨fun z => ?_, ?_⟩
  · rw [hT] at z
    obtain ⟨a, b⟩ := h1 z
    exact ⟨by rw [hw _ (by omega)]; exact a, fun i hi => by rw [hw _ (by omega)]; exact b i hi⟩
  · match lv, h2 with
    | .inl _, h2 => exact ⟨by rw [hw _ (by omega)]; exact h2.1, by rw [hw _ (by omega)]; exact h2.2⟩
    | .inr (.inl e), h2 =>
      obtain ⟨⟨a, b, c, d, e1⟩, f⟩ := h2
      exact ⟨⟨(hw _ (by omega)).trans a, (hw _ (by omega)).trans b, (hw _ (by omega)).trans c, (hw _ (by omega)).trans d, (hw _ (by omega)).trans e1⟩, f⟩
    | .inr (.inr (.inl a)), h2 =>
      obtain ⟨⟨b, c, d, e⟩, f⟩ := h2
      have := f.1
      exact ⟨⟨(hw _ (by omega)).trans b, (hw _ (by omega)).trans c, fun i hi => (hw _ (by omega)).trans (d i hi), (hw _ (by omega)).trans e⟩, f⟩
    | .inr (.inr (.inr r)), h2 =>
      obtain ⟨⟨a, b, c, d⟩, f⟩ := h2
      have := f.1
      exact ⟨⟨(hw _ (by omega)).trans a, (hw _ (by omega)).trans b, (hw _ (by omega)).trans c, fun i hi => (hw _ (by omega)).trans (d i hi)⟩, f⟩
theorem TYr_c {ty : vTrue} {w w' : Nat → Int32} (hw : ∀ i, 2664 ≤ i ∧ i ≤ 2668 → w' i = w i) (h : TYr ty w) : TYr ty w' := by
  obtain ⟨⟨a, b, c, d, e⟩, f⟩ := h
  exact ⟨⟨(hw _ (by omega)).trans a, (hw _ (by omega)).trans b, (hw _ (by omega)).trans c, (hw _ (by omega)).trans d, (hw _ (by omega)).trans e⟩, f⟩
def wfr (w w' : Nat → Int32) : Prop := ∀ i, i < 2652 ∨ 3094 ≤ i → w' i = w i
def W56 (w : Nat → Int32) : Prop := ∃ m : Nat, m ≤ 15 ∧ w 2656 = nI m
def moB (mo : Option vArr) : Prop := ∀ m, mo = some m → m.1 ≤ 15
def KQ (M M' : Nat → Int32) : Prop := ∀ i, i ≠ 13 → i ≠ 4 → i ≠ 5 → i ≠ 6 → i ≠ 7 → i ≠ 10 → i ≠ 11 → M' i = M i
theorem KQ.k {M M' M'' : Nat → Int32} (h : KQ M M') (h' : KP M' M'') : KQ M M'' := fun i a b c d e f g => (h' i b c d e f g).trans (h i a b c d e f g)
/-- a statement, read by both -/
def PS (tp : Nat → Int32) (L : Nat) (M0 w0 : Nat → Int32) (T : Nat) (r : (Nat → Int32) × vLaw × (Option vArr) × vTrue × (Nat → Int32)) (m : (Nat → Int32) × (Nat → Int32)) : Prop := SS tp L r.2.2.2.2 m.1 ∧ KQ M0 m.1 ∧ wfr w0 m.2 ∧ W56 m.2 ∧ moB r.2.2.1 ∧ (FI tp L r.2.2.2.2 m.1 → CT r.1 r.2.1 r.2.2.1 r.2.2.2.1 m.2 T ∧ r.1 1 = nI T ∧ m.1 13 = nI T)
theorem PS_semi {tp tq : Nat → Int32} (hq : ∀ i, i < 800 → tq i = tp i) {L : Nat} (hL : L ≤ 800) {M0 w0 : Nat → Int32} {T : Nat} {R : Nat → Int32} {lv : vLaw} {mo : Option vArr} {ty : vTrue} {F M w : Nat → Int32} (h : PS tp L M0 w0 T (R, lv, mo, ty, F) (M, w)) {n : Nat} (hn : 250000 ≤ n) : ∃ r m, r_readStatement_294 n R lv mo ty F tp = some r ∧ mstatement_172 n M tq w = some m ∧ PS tp L M0 w0 T r m := by
  obtain ⟨h1, h2, h3, h4, h5, h6⟩ := h
  dsimp only at h1 h2 h3 h4 h5 h6
  obtain ⟨F', M', e1, e2, e3, e4, e5⟩ := SS_semi hq hL h1 R lv mo ty w hn
  refine ⟨_, _, e1, e2, e3, h2.k e4, h3, h4, h5, fun z => ?_⟩
  obtain ⟨a, b, c⟩ := h6 (e5 z)
  exact ⟨a, b, (e4 13 (by omega) (by omega) (by omega) (by omega) (by omega) (by omega)).trans c⟩
theorem ws_of : wSp 2 (fun j => L_of.getD j 0) 486 := by unfold wSp; decide +kernel
theorem ws_at : wSp 2 (fun j => L_at.getD j 0) 52 := by unfold wSp; decide +kernel
theorem ws_and : wSp 3 (fun j => L_and.getD j 0) 1476 := by unfold wSp; decide +kernel
theorem ws_not : wSp 3 (fun j => L_not.getD j 0) 14836 := by unfold wSp; decide +kernel
theorem ws_but : wSp 3 (fun j => L_but.getD j 0) 2740 := by unfold wSp; decide +kernel
theorem ws_shift : wSp 5 (fun j => L_shift.getD j 0) 20194516 := by unfold wSp; decide +kernel
theorem ws_leap : wSp 4 (fun j => L_leap.getD j 0) 398384 := by unfold wSp; decide +kernel
theorem ws_year : wSp 4 (fun j => L_year.getD j 0) 824370 := by unfold wSp; decide +kernel
theorem ws_extra : wSp 5 (fun j => L_extra.getD j 0) 6050369 := by unfold wSp; decide +kernel
theorem ws_even : wSp 4 (fun j => L_even.getD j 0) 186542 := by unfold wSp; decide +kernel
theorem ws_every : wSp 5 (fun j => L_every.getD j 0) 5969497 := by unfold wSp; decide +kernel
theorem ws_row : wSp 3 (fun j => L_row.getD j 0) 18935 := by unfold wSp; decide +kernel
theorem ws_months : wSp 6 (fun j => L_months.getD j 0) 452415763 := by unfold wSp; decide +kernel
theorem ws_week : wSp 4 (fun j => L_week.getD j 0) 758955 := by unfold wSp; decide +kernel
theorem ws_true : wSp 4 (fun j => L_true.getD j 0) 674469 := by unfold wSp; decide +kernel
theorem ws_begins : wSp 6 (fun j => L_begins.getD j 0) 72590803 := by unfold wSp; decide +kernel
/-- a number of another: both of it -/
theorem SS_share {tp tq : Nat → Int32} (hq : ∀ i, i < 800 → tq i = tp i) {L : Nat} (hL : L ≤ 800) {F M : Nat → Int32} (h : SS tp L F M) (R w : Nat → Int32) {k b : Nat} (hk : k < 442) (hb : b < 442) {most less : Int} (hmo : 1 ≤ most ∧ most ≤ 1000000) (hle : 0 ≤ less ∧ less ≤ 1) {n : Nat} (hn : 250000 ≤ n) : ∃ R' F' M' w', r_readShare n R F tp (iI most) (iI less) = some (R', F') ∧ mshares n M tq w (nI k) (nI b) (iI most) (iI less) = some (M', w') ∧ SS tp L F' M' ∧ KP M M' ∧ (∀ i, i ≠ 10 → i ≠ 11 → R' i = R i) ∧ (FI tp L F' M' → FI tp L F M ∧ ∃ x y : Int, R' 10 = iI x ∧ R' 11 = iI y ∧ 0 ≤ x ∧ (1 ≤ y ∧ y ≤ most) ∧ x ≤ y - less ∧ w' = upd (upd w (2652 + k) (iI x)) (2652 + b) (iI y)) ∧ (BD L F' M' → w' = w) := by
  obtain ⟨v1, u1, F1, M1, a1, a2, a3, a4, a5, a6, a7⟩ := SS_number hq hL h (lo := 0) (hi := most) ⟨by omega, by omega⟩ ⟨by omega, by omega⟩ hn
  obtain ⟨b2, F2, M2, c1, c2, c3, c4, c5, c6⟩ := SS_needs hq hL ws_of a3 hn
  obtain ⟨v3, u3, F3, M3, d1, d2, d3, d4, d5, d6, d7⟩ := SS_number hq hL c4 (lo := 1) (hi := most) ⟨by omega, by omega⟩ ⟨by omega, by omega⟩ hn
  have k3 : KP M M3 := (a4.t c5).t d4
  unfold r_readShare mshares mshares_53
  replace a1 : n_takeNumber n F tp 0 (iI most) = some (v1, F1) := a1
  replace a2 : mreads n M tq 0 (iI most) = some (u1, M1) := a2
  replace d1 : n_takeNumber n F2 tp 1 (iI most) = some (v3, F3) := d1
  replace d2 : mreads n M2 tq 1 (iI most) = some (u3, M3) := d2
  rw [a1, Option.bind_some, a2, Option.bind_some]
  dsimp only
  rw [c1, Option.bind_some, c2, Option.bind_some, c3, Option.bind_some, d1, Option.bind_some, d2, Option.bind_some]
  dsimp only
  rw [show upd (upd R 10 v1) 11 v3 10 = v1 from rfl, show upd (upd R 10 v1) 11 v3 11 = v3 from rfl, m_fine, Option.bind_some]
  have hRo : ∀ i, i ≠ 10 → i ≠ 11 → upd (upd R 10 v1) 11 v3 i = R i := fun i h1 h2 => (upd_ne h2).trans (upd_ne h1)
  rcases SS_fine d3 with ⟨f0, f1⟩ | ⟨f0, f1⟩
  · obtain ⟨g1, g2, y, g3, g4, g5⟩ := d6 f1
    have g6 := c6 g1
    obtain ⟨g7, g8, x, g9, g10, g11⟩ := a6 g6
    subst g2; subst g8
    rw [if_pos (decide_eq_true f0)]
    subst g3; subst g9
    rw [iI_sub, if_c (iI_le ⟨by omega, by omega⟩ ⟨by omega, by omega⟩), if_c (iI_le ⟨by omega, by omega⟩ ⟨by omega, by omega⟩)]
    by_cases p : x ≤ y - less
    · rw [if_pos p, if_pos p, m_lays hk, Option.bind_some, if_pos f0, m_lays hb, Option.bind_some, if_pos f0]
      exact ⟨_, _, _, _, rfl, rfl, Or.inl f1, k3, hRo, fun _ => ⟨g7, x, y, rfl, rfl, g10, ⟨g4, g5⟩, p, rfl⟩, fun z => (not_both f1 z).elim⟩
    · obtain ⟨F4, M4, u1, u2, u3, u4, u5⟩ := SS_fail hL (Or.inl f1 : SS tp L F3 M3) (k := 2) (p := F 2) (p' := M1 11) (by decide) (fun _ => (a5 g7).symm)
      have f4 : ¬ M4 6 = 0 := by rw [u3.2.1.2.1]; exact u3.1.1
      rw [if_neg p, if_neg p, u1, Option.bind_some, u2, Option.bind_some, m_lays hk, Option.bind_some, if_neg f4, m_lays hb, Option.bind_some, if_neg f4]
      exact ⟨_, _, _, _, rfl, rfl, Or.inr u3, k3.t u4, hRo, fun z => (not_both z u3).elim, fun _ => rfl⟩
  · have f3 : BD L (upd F3 1 0) M3 := ⟨⟨f1.1.1, rfl, f1.1.2.2⟩, f1.2.1, f1.2.2⟩
    rw [if_neg (dneg f0), m_lays hk, Option.bind_some, if_neg f0, m_lays hb, Option.bind_some, if_neg f0]
    by_cases p : v1 ≤ v3 - iI less
    · rw [if_pos p]
      exact ⟨_, _, _, _, rfl, rfl, Or.inr f1, k3, hRo, fun z => (not_both z f1).elim, fun _ => rfl⟩
    · unfold n_fail
      rw [if_neg p, if_neg f1.1.1, Option.bind_some]
      exact ⟨_, _, _, _, rfl, rfl, Or.inr f3, k3, hRo, fun z => (not_both z f3).elim, fun _ => rfl⟩
