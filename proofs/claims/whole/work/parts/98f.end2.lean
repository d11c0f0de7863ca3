/-! ===== design: the end of reading ===== -/
theorem LWend {lv : vLaw} {w : Nat → Int32} (h : LWr lv w) (F : Nat → Int32) {n : Nat} (hn : 250000 ≤ n) : ∃ w', misAllRead_111 n F w = some (F, w') ∧ LR lv w' 2652 ∧ lOk lv ∧ ∀ i, i < 2692 ∨ 3094 ≤ i → w' i = w i := by
  match lv, h with
  | .inl _, h => exact ⟨w, m_norow (by rw [h.1]; decide) hn, ⟨h.1, h.2⟩, trivial, fun _ _ => rfl⟩
  | .inr (.inl e), h => exact ⟨w, m_norow (by have h1 : w 2655 = 1 := h.1.1; rw [h1]; decide) hn, h.1, h.2, fun _ _ => rfl⟩
  | .inr (.inr (.inl a)), h => exact ⟨w, m_norow (by have h1 : w 2655 = 2 := h.1.1; rw [h1]; decide) hn, h.1, h.2, fun _ _ => rfl⟩
  | .inr (.inr (.inr r)), h =>
    obtain ⟨⟨h1, h2, h3, h4⟩, ⟨o1, o2⟩, o3, o4, o5⟩ := h
    have hN : r.2 = nI r.2.toInt.toNat := by rw [nI_iI, Int.toNat_of_nonneg (by omega), iI_of]
    obtain ⟨w', e1, e2, e3⟩ := m_row (F := F) (f := r.1.2) (N := r.2.toInt.toNat) ⟨by omega, by omega⟩ h1 (h2.trans hN) (h3.trans o4.symm) h4 hn
    exact ⟨w', e1, ⟨(e3 2655 (by omega)).trans h1, (e3 2660 (by omega)).trans h2, fun i hi => e2 i hi⟩, ⟨⟨o1, o2⟩, o3, o4, o5⟩, e3⟩
theorem moS_cg {a b : vArr} : ∀ k, (∀ i, i < k → a.2 i = b.2 i) → moS a k = moS b k := by
  intro k
  induction k with
  | zero => intro _; rfl
  | succ k ih => intro h; rw [moS, moS, ih (fun i hi => h i (by omega)), h k (by omega)]
theorem moS_bd {a : vArr} : ∀ k, (∀ i, i < k → 1 ≤ (a.2 i).toInt ∧ (a.2 i).toInt ≤ 999) → 0 ≤ moS a k ∧ moS a k ≤ 999 * k := by
  intro k
  induction k with
  | zero => intro _; exact ⟨by simp [moS], by simp [moS]⟩
  | succ k ih =>
    intro h
    have h1 := ih (fun i hi => h i (by omega))
    have h2 := h k (by omega)
    rw [moS]
    omega
/-- the parts of a design, in their places -/
theorem mk_des {R : Nat → Int32} {lv : vLaw} {mo : Option vArr} {ty : vTrue} {w w' : Nat → Int32} {T : Nat} {m : vArr} (hct : CT R lv mo ty w T) (hm : 1 ≤ m.1 ∧ m.1 ≤ 15) (hmb : ∀ i, i < m.1 → w' (2676 + i) = m.2 i ∧ 1 ≤ (m.2 i).toInt ∧ (m.2 i).toInt ≤ 999) (hsum : moS m m.1 = (R 2).toInt) (h6 : 0 ≤ (R 6).toInt ∧ (R 6).toInt < m.1) (h56 : w' 2656 = nI m.1) (hLR : LR lv w' 2652) (hlok : lOk lv) (hw : ∀ i, i < 2676 → i ≠ 2656 → w' i = w i) : vOk ((R 2, R 3, m, R 6, R 7, R 8), lv, ty) ∧ DR ((R 2, R 3, m, R 6, R 7, R 8), lv, ty) w' 2652 := by
  obtain ⟨⟨c1, c2, c3, c4, c5⟩, c6, c7, c8⟩ := hct
  refine ⟨⟨⟨c2.2, c3.2, hm, fun i hi => (hmb i hi).2, hsum, h6, c4.2, c5.2⟩, hlok, c8.2⟩, ?_⟩
  obtain ⟨⟨t1, t2, t3, t4, t5⟩, _⟩ := c8
  exact ⟨(hw 2652 (by omega) (by omega)).trans c1, (hw 2653 (by omega) (by omega)).trans c2.1, (hw 2654 (by omega) (by omega)).trans c3.1, h56, (hw 2657 (by omega) (by omega)).trans c6.1, (hw 2658 (by omega) (by omega)).trans c4.1, (hw 2659 (by omega) (by omega)).trans c5.1, fun i hi => (hmb i hi).1, hLR, (hw 2664 (by omega) (by omega)).trans t1, (hw 2665 (by omega) (by omega)).trans t2, (hw 2666 (by omega) (by omega)).trans t3, (hw 2667 (by omega) (by omega)).trans t4, (hw 2668 (by omega) (by omega)).trans t5⟩
theorem E_end {tp : Nat → Int32} {L : Nat} {F M M0 w w0 R : Nat → Int32} {lv : vLaw} {mo : Option vArr} {ty : vTrue} {T : Nat} (hs : SS tp L F M) (hkq : KQ M0 M) (hwf : wfr w0 w) (h56 : W56 w) (hmb : moB mo) (hct : FI tp L F M → CT R lv mo ty w T) {n : Nat} (hn : 250000 ≤ n) : ∃ (x : (Option vDes) × (Nat → Int32) × (vLaw) × (Option vArr) × (vTrue) × (Nat → Int32)) (M' w' : Nat → Int32), r_readDesign_46 n R lv mo ty F tp = some x ∧ misAllRead n M w = some (M', w') ∧ (x.2.2.2.2.2 3 = M' 6 ∧ x.2.2.2.2.2 4 = M' 7) ∧ KQ M0 M' ∧ wfr w0 w' ∧ ((M' 6 ≠ 0 ∧ x.1 = none) ∨ (M' 6 = 0 ∧ ∃ d, x.1 = some d ∧ vOk d ∧ DR d w' 2652)) := by
  obtain ⟨k, k1, k2⟩ := h56
  have r46n : r_readDesign_46 n R lv none ty F tp = r_readDesign_67 n R lv (some (1, upd (fun _ => 0) 0 (R 2))) ty F tp := by
    unfold r_readDesign_46
    show zck _ (zck _ _) = _
    rw [zck_t (by decide +kernel), zck_t (by decide +kernel)]
    rfl
  have r46s : ∀ m, r_readDesign_46 n R lv (some m) ty F tp = r_readDesign_67 n R lv (some m) ty F tp := fun m => by
    unfold r_readDesign_46
    rw [zO_s]
  rcases hs with h | h
  · have hc := hct h
    obtain ⟨⟨c1, c2, c3, c4, c5⟩, c6, c7, c8⟩ := hct h
    have f6 : M 6 = 0 := h.2.1.2.1
    have f3 : F 3 = 0 := h.1.2.1
    have h93 : ∀ m, r_readDesign_93 n R lv (some m) ty F tp = some (some ((R 2, R 3, m, R 6, R 7, R 8), lv, ty), R, lv, some m, ty, F) := fun m => by
      unfold r_readDesign_93 k_newFrame k_newDes
      rw [if_pos f3, zO_s, mx1 c4.2.1]; rfl
    have e34 : F 3 = M 6 ∧ F 4 = M 7 := ⟨f3.trans f6.symm, h.1.2.2.trans h.2.1.2.2.symm⟩
    obtain ⟨c6a, c6b⟩ := c6
    rcases c6b with ⟨rfl, g2, g3⟩ | ⟨m, rfl, g1, g2, g3, g4⟩
    · -- no months told
      have hk : k = 0 := by
        rw [g2, show (0 : Int32) = nI 0 from rfl, eq_comm, qI_eq (by omega) (by omega)] at k2; exact k2
      subst hk
      have hLW : LAr lv (upd (upd w 2656 1) 2676 (w 2653)) T := LAr_c rfl (fun i hi => (upd_ne (by omega)).trans (upd_ne (by omega))) c7
      obtain ⟨w', l1, l2, l3, l4⟩ := LWend hLW.2 M hn
      have hm1 : moS (1, upd (fun _ => 0) 0 (R 2)) 1 = (R 2).toInt := by
        rw [moS, moS]
        show 0 + (upd (fun _ => 0) 0 (R 2) 0).toInt = _
        rw [upd_at]; omega
      have ec : r_readDesign_46 n R lv none ty F tp = some (some ((R 2, R 3, (1, upd (fun _ => 0) 0 (R 2)), R 6, R 7, R 8), lv, ty), R, lv, some (1, upd (fun _ => 0) 0 (R 2)), ty, F) := by
        rw [r46n]
        unfold r_readDesign_67
        rw [c_sum (by show 1 ≤ 15; omega) hn, Option.bind_some]
        dsimp only
        rw [hm1, iI_of, if_pos rfl, h93]
      have er : misAllRead n M w = some (M, w') := by
        rw [m_sum k1 k2 M hn, if_pos rfl]
        unfold misAllRead_67
        rw [m_fine, Option.bind_some, if_pos (decide_eq_true f6), zck_t (by decide +kernel), show (2656 : Int32).toNatClampNeg = 2656 by decide +kernel, show (2653 : Int32).toNatClampNeg = 2653 by decide +kernel, show (2676 : Int32).toNatClampNeg = 2676 by decide +kernel, if_pos g2, zck_t (by decide +kernel), zck_t (by decide +kernel), zck_t (by decide +kernel), show upd w 2656 1 2653 = w 2653 from upd_ne (by omega)]
        exact l1
      refine ⟨_, M, w', ec, er, e34, hkq, fun i hi => (l4 i (by omega)).trans ((upd_ne (by omega)).trans ((upd_ne (by omega)).trans (hwf i hi))), Or.inr ⟨f6, _, rfl, ?_⟩⟩
      refine mk_des hc ⟨Nat.le_refl _, by show 1 ≤ 15; omega⟩ (fun i hi => ?_) hm1 ?_ ?_ l2 l3 (fun i h1 h2 => (l4 i (by omega)).trans ((upd_ne (by omega)).trans (upd_ne h2)))
      · obtain rfl : i = 0 := by have : i < 1 := hi; omega
        rw [l4 _ (by omega)]
        have e0 : upd (fun _ => (0 : Int32)) 0 (R 2) 0 = R 2 := upd_at
        show upd _ 2676 (w 2653) 2676 = upd (fun _ => (0 : Int32)) 0 (R 2) 0 ∧ 1 ≤ (upd (fun _ => (0 : Int32)) 0 (R 2) 0).toInt ∧ (upd (fun _ => (0 : Int32)) 0 (R 2) 0).toInt ≤ 999
        rw [e0, upd_at]
        exact ⟨c2.1, c2.2⟩
      · rw [g3]
        show 0 ≤ (0 : Int32).toInt ∧ (0 : Int32).toInt < ((1 : Nat) : Int)
        decide
      · rw [l4 _ (by omega)]; exact (upd_ne (by omega)).trans upd_at
    · -- months told
      have hk : k = m.1 := by
        rw [g2, qI_eq (by omega) (by omega)] at k2; exact k2.symm
      subst hk
      have hse : moS (m.1, fun i => w (2676 + i)) m.1 = moS m m.1 := moS_cg m.1 (fun i hi => (g3 i hi).1)
      have hb := moS_bd m.1 (fun i hi => (g3 i hi).2)
      have hR2 : (iI (moS m m.1) = R 2) = (moS m m.1 = (R 2).toInt) := by
        rw [← iI_of (R 2), iI_eq ⟨by omega, by omega⟩ ⟨by omega, by omega⟩, iI_of]
      by_cases p : moS m m.1 = (R 2).toInt
      · have ec : r_readDesign_46 n R lv (some m) ty F tp = some (some ((R 2, R 3, m, R 6, R 7, R 8), lv, ty), R, lv, some m, ty, F) := by
          rw [r46s]
          unfold r_readDesign_67
          rw [c_sum g1.2 hn, Option.bind_some, if_pos (hR2.mpr p), h93]
        obtain ⟨w', l1, l2, l3, l4⟩ := LWend c7.2 M hn
        have er : misAllRead n M w = some (M, w') := by
          rw [m_sum g1.2 g2 M hn, if_neg (by omega), hse, c2.1, if_pos (hR2.mpr p)]
          unfold misAllRead_67
          rw [m_fine, Option.bind_some, if_pos (decide_eq_true f6), zck_t (by decide +kernel), show (2656 : Int32).toNatClampNeg = 2656 by decide +kernel, if_neg (show ¬ w 2656 = 0 by rw [g2, show (0 : Int32) = nI 0 from rfl, qI_eq (by omega) (by omega)]; omega)]
          exact l1
        refine ⟨_, M, w', ec, er, e34, hkq, fun i hi => (l4 i (by omega)).trans (hwf i hi), Or.inr ⟨f6, _, rfl, ?_⟩⟩
        exact mk_des hc g1 (fun i hi => by rw [l4 _ (by omega)]; exact g3 i hi) p g4 (by rw [l4 _ (by omega)]; exact g2) l2 l3 (fun i h1 h2 => l4 i (by omega))
      · have ec : r_readDesign_46 n R lv (some m) ty F tp = some (none, R, lv, some m, ty, upd (upd (upd F 3 5) 4 (F 0)) 1 0) := by
          rw [r46s]
          unfold r_readDesign_67 n_fail r_readDesign_93
          rw [c_sum g1.2 hn, Option.bind_some, if_neg (by rw [hR2]; exact p), if_pos f3, Option.bind_some, if_neg (show ¬ upd (upd (upd F 3 5) 4 (F 0)) 1 0 3 = 0 by show ¬ (5 : Int32) = 0; decide)]
        have er : misAllRead n M w = some (upd (upd M 6 5) 7 (M 3), w) := by
          rw [m_sum g1.2 g2 M hn, if_neg (by omega), hse, c2.1, if_neg (by rw [hR2]; exact p)]
          unfold misAllRead_67 mfail
          rw [if_pos f6, Option.bind_some, m_fine, Option.bind_some, if_neg (dneg (show ¬ upd (upd M 6 5) 7 (M 3) 6 = 0 by show ¬ (5 : Int32) = 0; decide))]
        refine ⟨_, _, w, ec, er, ⟨rfl, ?_⟩, fun i a b c d e f g => ?_, hwf, Or.inl ⟨show (5 : Int32) ≠ 0 by decide, rfl⟩⟩
        · show F 0 = M 3
          rw [h.1.1, h.2.1.1]
        · rw [upd_ne (by omega), upd_ne (by omega)]; exact hkq i a b c d e f g
  · have hbc : BC F := ⟨h.1.1, h.1.2.1⟩
    have f6 : ¬ M 6 = 0 := by rw [h.2.1.2.1]; exact h.1.1
    have h67 : ∀ m : vArr, m.1 ≤ 15 → r_readDesign_67 n R lv (some m) ty F tp = some (none, R, lv, some m, ty, F) := fun m hm => by
      unfold r_readDesign_67 r_readDesign_93
      rw [c_sum hm hn, Option.bind_some, BC_fail hbc, Option.bind_some, if_neg h.1.1, ite_self]
    have ec : ∃ m, r_readDesign_46 n R lv mo ty F tp = some (none, R, lv, some m, ty, F) := by
      cases mo with
      | none => exact ⟨_, by rw [r46n, h67 _ (by show 1 ≤ 15; omega)]⟩
      | some m => exact ⟨m, by rw [r46s, h67 m (hmb m rfl)]⟩
    obtain ⟨m, ec⟩ := ec
    have er : misAllRead n M w = some (M, w) := by
      have e67 : misAllRead_67 n M w = some (M, w) := by
        unfold misAllRead_67
        rw [m_fine, Option.bind_some, if_neg (dneg f6)]
      rw [m_sum k1 k2 M hn, e67, show mfail M 5 (M 3) = some M by unfold mfail; rw [if_neg f6], Option.bind_some, e67, ite_self, ite_self]
    exact ⟨_, M, w, ec, er, ⟨h.2.1.2.1.symm, h.2.1.2.2.symm⟩, hkq, hwf, Or.inl ⟨f6, rfl⟩⟩
