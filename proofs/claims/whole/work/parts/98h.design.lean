/-! ===== calls: design ===== -/
theorem m_plain (F w : Nat → Int32) {n : Nat} (hn : 250000 ≤ n) : ∃ v : Nat → Int32, mplainly n F w = some (upd F 13 0, upd (upd (upd (upd (upd (upd (upd (upd v 2652 1) 2653 365) 2654 1) 2658 7) 2660 1) 2664 365) 2666 1) 2668 1) ∧ (∀ k, k < 442 → v (2652 + k) = 0) ∧ ∀ i, i < 2652 ∨ 3094 ≤ i → v i = w i := by
  unfold mplainly
  obtain ⟨r, e1, v, e2, e3, e4⟩ := zloop_inv (f := mplainly_2 n F) (R := fun s => ∃ i : Nat, i ≤ 442 ∧ s.1 = nI i ∧ (∀ k, k < i → s.2 (2652 + k) = 0) ∧ ∀ j, j < 2652 ∨ 3094 ≤ j → s.2 j = w j) (S := fun r => ∃ v : Nat → Int32, r = (upd F 13 0, upd (upd (upd (upd (upd (upd (upd (upd v 2652 1) 2653 365) 2654 1) 2658 7) 2660 1) 2664 365) 2666 1) 2668 1) ∧ (∀ k, k < 442 → v (2652 + k) = 0) ∧ ∀ i, i < 2652 ∨ 3094 ≤ i → v i = w i) (fun s => 442 - s.1.toNatClampNeg) (by
    rintro ⟨a, v⟩ ⟨i, hi, hs, g1, g2⟩
    dsimp only at hs g1 g2
    subst hs
    unfold mplainly_2
    dsimp only
    rw [if_c (show ((442 : Int32) ≤ nI i) = (442 ≤ i) from qI_le (a := 442) (by omega) (by omega))]
    by_cases p : 442 ≤ i
    · right
      rw [if_pos p]
      repeat rw [zck_t (by decide +kernel)]
      rw [show (2652 : Int32).toNatClampNeg = 2652 by decide +kernel, show (2653 : Int32).toNatClampNeg = 2653 by decide +kernel, show (2654 : Int32).toNatClampNeg = 2654 by decide +kernel, show (2658 : Int32).toNatClampNeg = 2658 by decide +kernel, show (2660 : Int32).toNatClampNeg = 2660 by decide +kernel, show (2664 : Int32).toNatClampNeg = 2664 by decide +kernel, show (2666 : Int32).toNatClampNeg = 2666 by decide +kernel, show (2668 : Int32).toNatClampNeg = 2668 by decide +kernel]
      exact ⟨_, rfl, v, rfl, fun k hk => g1 k (by omega), g2⟩
    · left
      rw [if_neg p, show (2652 : Int32) + nI i = nI (2652 + i) by rw [show (2652 : Int32) = nI 2652 from rfl, nI_iI, nI_iI, nI_iI, iI_add]; rfl, zck_t (qI_z (by omega) (by omega)), qI_n (a := 2652 + i) (by omega), qI_1]
      refine ⟨_, rfl, ⟨i + 1, by omega, rfl, fun k hk => ?_, fun j hj => (upd_ne (by omega)).trans (g2 j hj)⟩, by dsimp only; rw [qI_n (by omega), qI_n (by omega)]; omega⟩
      show upd v (2652 + i) 0 (2652 + k) = 0
      by_cases t : k = i
      · rw [t, upd_at]
      · rw [upd_ne (by omega)]; exact g1 k (by omega)) n (0, w) ⟨0, by omega, rfl, fun k hk => by omega, fun _ _ => rfl⟩ (by show 442 - (nI 0).toNatClampNeg < n; omega)
  exact ⟨v, by rw [e1, e2], e3, e4⟩
theorem CT_0 {v : Nat → Int32} (h : ∀ k, k < 442 → v (2652 + k) = 0) : CT rR0 (.inl ()) none (365, 0, 1, 0, 1) (upd (upd (upd (upd (upd (upd (upd (upd v 2652 1) 2653 365) 2654 1) 2658 7) 2660 1) 2664 365) 2666 1) 2668 1) 0 := by
  have h0 : ∀ i, 2652 ≤ i → i < 3094 → i ≠ 2652 → i ≠ 2653 → i ≠ 2654 → i ≠ 2658 → i ≠ 2660 → i ≠ 2664 → i ≠ 2666 → i ≠ 2668 → (upd (upd (upd (upd (upd (upd (upd (upd v 2652 1) 2653 365) 2654 1) 2658 7) 2660 1) 2664 365) 2666 1) 2668 1) i = 0 := fun i a b c d e f g j k l => by
    rw [upd_ne l, upd_ne k, upd_ne j, upd_ne g, upd_ne f, upd_ne e, upd_ne d, upd_ne c]
    have := h (i - 2652) (by omega)
    rw [show 2652 + (i - 2652) = i by omega] at this
    exact this
  refine ⟨⟨rfl, ⟨rfl, by decide, by decide⟩, ⟨rfl, by decide, by decide⟩, ⟨rfl, by decide, by decide⟩, h0 2659 (by omega) (by omega) (by omega) (by omega) (by omega) (by omega) (by omega) (by omega) (by omega) (by omega), by decide, by decide⟩, ⟨h0 2657 (by omega) (by omega) (by omega) (by omega) (by omega) (by omega) (by omega) (by omega) (by omega) (by omega), Or.inl ⟨rfl, h0 2656 (by omega) (by omega) (by omega) (by omega) (by omega) (by omega) (by omega) (by omega) (by omega) (by omega), rfl⟩⟩, ⟨fun _ => ⟨h0 2663 (by omega) (by omega) (by omega) (by omega) (by omega) (by omega) (by omega) (by omega) (by omega) (by omega), fun i hi => h0 (2692 + i) (by omega) (by omega) (by omega) (by omega) (by omega) (by omega) (by omega) (by omega) (by omega) (by omega)⟩, h0 2655 (by omega) (by omega) (by omega) (by omega) (by omega) (by omega) (by omega) (by omega) (by omega) (by omega), rfl⟩, ⟨rfl, h0 2665 (by omega) (by omega) (by omega) (by omega) (by omega) (by omega) (by omega) (by omega) (by omega) (by omega), rfl, h0 2667 (by omega) (by omega) (by omega) (by omega) (by omega) (by omega) (by omega) (by omega) (by omega) (by omega), rfl⟩, ?_⟩
  show tOk (365, 0, 1, 0, 1)
  unfold tOk
  decide
theorem UR_cg {c e : Nat} {S : Nat → Nat → Option vDes} {dv : Nat → Option vDes} {cs : Nat → Int32} {cv : Nat → Option vDes} {w w' : Nat → Int32} (hw : ∀ i, i < 2652 ∨ 3094 ≤ i → w' i = w i) (h : UR c e S dv cs cv w) : UR c e S dv cs cv w' := by
  refine ⟨h.1, fun j hj => ⟨(h.2 j hj).1, fun s hs => BR_congr (fun k hk => hw _ (by omega)) ((h.2 j hj).2 s hs)⟩⟩
theorem Inv.rd {A A' tp : Nat → Int32} {dv : Nat → Option vDes} {cs : Nat → Int32} {cv : Nat → Option vDes} {jv : Option vJoint} {bo : Option (Nat → Int32)} {hg lw : Option (Nat → Int64)} {sb : vSB} {F F' : Nat → Int32} {G : Nat → Int64} {tq w w' oc : Nat → Int32} (h : Inv A tp dv cs cv jv bo hg lw sb F G tq w oc) (a1 : A' 1 = 0) (ha : A' 2 = F' 8 ∧ A' 3 = F' 9) (aA : ∀ i, i ≠ 1 → i ≠ 2 → i ≠ 3 → A' i = A i) (hF : F' 2 = 0 ∧ F' 14 = F 14 ∧ F' 16 = F 16 ∧ F' 20 = F 20) (hw : ∀ i, i < 2652 ∨ 3094 ≤ i → w' i = w i) : Inv A' tp dv cs cv jv bo hg lw sb F' G tq w' oc := by
  obtain ⟨⟨t, t1, t2, t3, t4⟩, ⟨f1, f2⟩, d1, ⟨c, e, S, s1, ⟨s2, s3, s4⟩, s5⟩, j1, b1, ⟨b2, b3⟩, b4⟩ := h
  obtain ⟨g1, g2, g3, g4⟩ := hF
  exact ⟨⟨0, by omega, a1, g1, t4⟩, ha, fun s hs => BR_congr (fun k hk => hw _ (by omega)) (d1 s hs), ⟨c, e, S, s1, ⟨(aA 8 (by omega) (by omega) (by omega)).trans s2, g2.trans s3, (aA 7 (by omega) (by omega) (by omega)).trans s4⟩, UR_cg hw s5⟩, JR_congr g4 (fun i h1 h2 => hw i (by omega)) j1, b1, ⟨b2, g3.trans b3⟩, b4⟩
theorem hc_design : HC_design Inv := by
  intro A tp dv cs cv jv bo hg lw sb F G tq w oc z0 h
  have hn := hn_f
  obtain ⟨x, hx, rfl⟩ := ex32 z0
  unfold w_design mdesign
  rw [c_isSlot hx, m_in5 hx, Option.bind_some, Option.bind_some]
  by_cases p : 0 ≤ x ∧ x ≤ 5
  · rw [if_pos (decide_eq_true p), if_pos (decide_eq_true p)]
    obtain ⟨s, rfl⟩ : ∃ s : Nat, x = s := ⟨x.toNat, by omega⟩
    have hs : s < 6 := by omega
    obtain ⟨⟨t, t1, t2, t3, t4⟩, _⟩ := id h
    have hq : ∀ i, i < 800 → tq i = tp i := fun i hi => (t4 i hi).symm
    have e1 : n_new (A 1) = some (nI t) := by
      unfold n_new j_minI
      rw [t2, if_neg (show ¬ (800 : Int32) < nI t by
        rw [nI_iI]; show ¬ iI 800 < iI (t : Int)
        rw [iI_lt ⟨by omega, by omega⟩ ⟨by omega, by omega⟩]; omega)]
    have e2 : n_newReader = some (365, 0, 1, 0, 1) := by decide +kernel
    obtain ⟨v, v1, v2, v3⟩ := m_plain (upd (upd (upd (upd (upd (upd (upd F 0 0) 3 (F 2)) 2 0) 4 0) 5 (-1)) 6 0) 7 (-1)) w hn
    have e3 : mbeginsText (upd F 0 0) = some (upd (upd (upd (upd (upd (upd (upd F 0 0) 3 (F 2)) 2 0) 4 0) 5 (-1)) 6 0) 7 (-1)) := rfl
    obtain ⟨F1, fr, to, a1, ⟨a2, a3, a4⟩, ⟨a5, a6⟩, a7, ⟨a8, a9⟩, a10⟩ := c_advance (F := sF0 (nI t)) (tp := tp) (L := t) (e := 0) rfl t1 rfl rfl (by omega) hn
    rw [e1, Option.bind_some, e2, Option.bind_some, e3, Option.bind_some, v1, Option.bind_some]
    unfold r_readDesign
    rw [a1, Option.bind_some]
    dsimp only
    -- at the start
    have hm5 : ∀ k : Nat, k ≤ 800 → ¬ (-1 : Int32) = nI k := fun k hk => by
      rw [nI_iI]; show ¬ iI (-1) = iI (k : Int)
      rw [iI_eq ⟨by omega, by omega⟩ ⟨by omega, by omega⟩]; omega
    have hfi : FI tp t F1 (upd (upd (upd (upd (upd (upd (upd (upd F 0 0) 3 (F 2)) 2 0) 4 0) 5 (-1)) 6 0) 7 (-1)) 13 0) := by
      refine ⟨⟨a2, a3, a4⟩, ⟨t3, rfl, rfl⟩, 0, fr, to, ⟨a5, a6, rfl⟩, a7, ⟨by omega, a8, a9⟩, ?_, -1, rfl, by omega, by omega⟩
      have : ((sF0 (nI t) 1 = 2 ∨ sF0 (nI t) 1 = 3) ∧ fr = 0) = ((-1 : Int32) = nI fr) := propext ⟨fun z => by
        rcases z.1 with z | z
        · exact absurd (show (0 : Int32) = 2 from z) (by decide)
        · exact absurd (show (0 : Int32) = 3 from z) (by decide), fun z => absurd z (hm5 fr (by omega))⟩
      rw [this] at a10
      exact a10
    obtain ⟨x, o, b1, b2, M, wm, M', w', b3, b4, b5, b6, b7, b8⟩ := zloop_sim4 (f := r_readDesign_9 fuel tp) (g := mdesign_28 fuel tq (iI (s : Int))) (R := DLR tp t (upd (upd (upd (upd (upd (upd (upd (upd F 0 0) 3 (F 2)) 2 0) 4 0) 5 (-1)) 6 0) 7 (-1)) 13 0) w) (S := DEN fuel tq (upd (upd (upd (upd (upd (upd (upd (upd F 0 0) 3 (F 2)) 2 0) 4 0) 5 (-1)) 6 0) 7 (-1)) 13 0) w (iI (s : Int))) (fun c => 8 - c.1.toNatClampNeg) (fun c r hR => D_step hq t1 hn c r hR) 9 fuel (0, rR0, .inl (), none, (365, 0, 1, 0, 1), F1) (_, _) ⟨0, 0, rR0, .inl (), none, (365, 0, 1, 0, 1), F1, _, _, by omega, rfl, rfl, Or.inl hfi, fun _ _ _ _ _ _ _ _ => rfl, fun i hi => by
      rw [upd_ne (by omega), upd_ne (by omega), upd_ne (by omega), upd_ne (by omega), upd_ne (by omega), upd_ne (by omega), upd_ne (by omega), upd_ne (by omega)]; exact v3 i hi, ⟨0, by omega, (CT_0 v2).2.1.2.elim (fun z => z.2.1) (fun ⟨m, z, _⟩ => (by cases z))⟩, fun m hm => (by cases hm), fun _ => ⟨CT_0 v2, rfl, rfl, by omega, rfl⟩⟩ (by show 8 - (nI 0).toNatClampNeg < 9; omega) (by show 8 - (nI 0).toNatClampNeg < fuel; omega)
    rw [b1, b2, b3, Option.bind_some]
    unfold mdesign_53
    rw [b4, Option.bind_some]
    dsimp only
    rw [if_c (show ((upd (upd M' 8 (M' 6)) 9 (upd M' 8 (M' 6) 7)) 6 = 0) = (M' 6 = 0) from rfl)]
    have hrd : Inv (upd (upd (upd A 1 0) 2 (x.2.2.2.2.2 3)) 3 (x.2.2.2.2.2 4)) tp dv cs cv jv bo hg lw sb (upd (upd M' 8 (M' 6)) 9 (upd M' 8 (M' 6) 7)) G tq w' oc := by
      refine h.rd rfl ⟨b5.1, b5.2⟩ (fun i h1 h2 h3 => ?_) ⟨?_, ?_, ?_, ?_⟩ b7
      · rw [upd_ne h3, upd_ne h2, upd_ne h1]
      · exact b6 2 (by omega) (by omega) (by omega) (by omega) (by omega) (by omega) (by omega)
      · exact b6 14 (by omega) (by omega) (by omega) (by omega) (by omega) (by omega) (by omega)
      · exact b6 16 (by omega) (by omega) (by omega) (by omega) (by omega) (by omega) (by omega)
      · exact b6 20 (by omega) (by omega) (by omega) (by omega) (by omega) (by omega) (by omega)
    rcases b8 with ⟨q1, q2⟩ | ⟨q1, d, q2, q3, q4⟩
    · rw [if_neg q1, q2]
      exact ⟨_, _, rfl, rfl, rfl, hrd⟩
    · rw [if_pos q1, q2, zO_s]
      obtain ⟨c, e, S, ⟨s1a, s1b⟩, ⟨r8, r14, r7⟩, hU⟩ := hrd.2.2.2.1
      obtain ⟨A2, j1, j2, j3, j4⟩ := c_change hs s1a s1b r7 r8 (dv := dv) (cs := cs) (cv := cv) (some d)
      obtain ⟨F2, w2, ε, m1, m2, m3, m4, m5, m6, m7⟩ := m_changes (w := w') s1a r14 hn
      obtain ⟨w3, o1, o2, o3⟩ := m_copies (w := w2) (to := 442 * s) (fr := 2652) (by omega) (by omega) (by omega) hn
      rw [j1, Option.bind_some, c_cyc q3.2.1, Option.bind_some, m1, Option.bind_some, m_bank hs, Option.bind_some]
      dsimp only
      rw [show (2652 : Int32) = iI ((2652 : Nat) : Int) by decide +kernel, o1, Option.bind_some, zck_t (by decide +kernel), show (2660 : Int32).toNatClampNeg = 2660 by decide +kernel]
      have hcy : w3 2660 = iI (lCyc d.2.1) := by
        rw [o3 _ (by omega), m5 _ (by omega)]
        exact LR_cyc q3.2.1 q4.2.2.2.2.2.2.2.2.1
      refine ⟨_, _, rfl, rfl, hcy.symm, ?_⟩
      refine hrd.chg hs s1a s1b hU m2 j2 (by rw [m2]; exact j3) j4 m3 (fun i h1 _ => m4 i h1) (fun i h1 h2 h3 => ?_) (fun k hk => ?_) (fun j hj k hk => ?_) ⟨q3, ?_⟩
      · exact (o3 i (by omega)).trans (m5 i h1)
      · exact (o3 _ (by omega)).trans (m6 k hk)
      · exact (o3 _ (by omega)).trans (m7 j hj k hk)
      · exact DR_congr q3 (fun k hk => (o2 k hk).trans (m5 _ (by omega))) q4
  · rw [if_neg (dneg p), if_neg (dneg p)]
    exact ⟨_, _, rfl, rfl, rfl, h.thr⟩
