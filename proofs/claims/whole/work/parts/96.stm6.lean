/-! ===== design: every, its loop ===== -/
theorem L107 {tp tq : Nat → Int32} (hq : ∀ i, i < 800 → tq i = tp i) {L : Nat} (hL : L ≤ 800) {M0 w0 : Nat → Int32} {l : Nat} (hl : 1 ≤ l ∧ l ≤ 6) (lv : vLaw) {F M ar w : Nat → Int32} {p x x' last : Int32} (h : SS tp L F M) (hp : FI tp L F M → p = M 11) (hkp : KP M0 M) (hw : ∀ i, i < 2670 ∨ 2676 ≤ i → w i = w0 i) (hf : M 6 = 0 → x = x' ∧ LDF ar w l last ∧ (1 ≤ x.toInt ∧ x.toInt ≤ 9999) ∧ x.toInt % last.toInt = 0) {n : Nat} (hn : 250000 ≤ n) : ∃ c r, r_readLadder_107 n lv F tp ar (nI l) p x 6 = some (.inl c) ∧ meveryRead_68 n M tq w (nI l) x' = some (.inl r) ∧ LDR tp L n M0 w0 c r ∧ c.1 = nI (l + 1) := by
  unfold r_readLadder_107 r_readLadder_130 meveryRead_68 meveryRead_83
  rw [if_c (show ((6 : Int32) ≤ nI l) = (6 ≤ l) from qI_le (a := 6) (by omega) (by omega)), if_c (show (nI l = (6 : Int32)) = (l = 6) from qI_eq (b := 6) (by omega) (by omega)), qI_1, m_fine, Option.bind_some]
  by_cases p6 : l = 6
  · obtain ⟨F', M', u1, u2, u3, u4, u5⟩ := SS_fail hL h (k := 4) (p := p) (p' := M 11) (by decide) hp
    have f6 : ¬ M' 6 = 0 := by rw [u3.2.1.2.1]; exact u3.1.1
    rw [if_pos (by omega), if_pos p6, u1, Option.bind_some, u2, Option.bind_some, m_fine, Option.bind_some, if_neg (dneg f6)]
    obtain ⟨r, r1, r2⟩ := LDR_go hq hL (M0 := M0) (w0 := w0) (l := l) (ar := ar) (w := w) (x := x') ⟨hl.1, by omega⟩ (Or.inr u3) (hkp.t u4) hw (fun z => absurd z f6) hn
    exact ⟨_, r, rfl, r1, r2, rfl⟩
  · rw [if_neg (by omega), if_neg p6, zck_t (qI_z (by omega) (by omega)), qI_n (by omega)]
    by_cases f : M 6 = 0
    · obtain ⟨g1, ⟨g2, g3, g4, g5⟩, g6, g7⟩ := hf f
      subst g1
      rw [if_pos (decide_eq_true f), show (2670 : Int32) + nI l = nI (2670 + l) by rw [show (2670 : Int32) = nI 2670 from rfl, nI_iI, nI_iI, nI_iI, iI_add]; rfl, zck_t (qI_z (by omega) (by omega)), qI_n (by omega)]
      obtain ⟨r, r1, r2⟩ := LDR_go hq hL (M0 := M0) (w0 := w0) (l := l) (ar := upd ar l x) (w := upd w (2670 + l) x) (x := x) ⟨hl.1, by omega⟩ h hkp (fun i hi => (upd_ne (by omega)).trans (hw i hi)) (fun _ => by
        refine ⟨by omega, fun i hi => ?_, fun i hi => ?_, by rw [Nat.add_sub_cancel]; exact upd_at.symm⟩
        · by_cases t : i = l
          · rw [t, upd_at, upd_at]; exact ⟨rfl, g6⟩
          · rw [upd_ne (by omega), upd_ne t]; exact g3 i (by omega)
        · by_cases t : i + 1 = l
          · rw [t, upd_at, upd_ne (by omega), show ar i = last by rw [g5, show l - 1 = i by omega]]; exact g7
          · rw [upd_ne t, upd_ne (by omega)]; exact g4 i (by omega)) hn
      exact ⟨_, r, rfl, r1, r2, rfl⟩
    · rw [if_neg (dneg f)]
      obtain ⟨r, r1, r2⟩ := LDR_go hq hL (M0 := M0) (w0 := w0) (l := l) (ar := upd ar l x) (w := w) (x := x') ⟨hl.1, by omega⟩ h hkp hw (fun z => absurd z f) hn
      exact ⟨_, r, rfl, r1, r2, rfl⟩
theorem mult0 {A : Int32} (h : 1 ≤ A.toInt) : k_isMultiple 0 A = some true := by
  have hA := i_b32 A
  unfold k_isMultiple
  rw [if_neg (show ¬ A ≤ 0 by rw [Int32.le_iff_toInt_le]; show ¬ A.toInt ≤ 0; omega), zck_t (by rw [decide_eq_true_eq]; intro z; rw [z] at h; exact absurd h (by decide)), if_pos (by
    rw [← iI_of A]
    show iI 0 - iI 0 / iI A.toInt * iI A.toInt = iI 0
    rw [iI_mod ⟨by omega, by omega⟩ (by omega) hA, Int.zero_tmod])]
theorem multA {V : Int} {A : Int32} (hV : 1 ≤ V ∧ V ≤ 10000) (h : 1 ≤ A.toInt ∧ A.toInt ≤ 10000) : k_isMultiple (iI V) A = some (decide (V % A.toInt = 0)) ∧ ((iI V - iI V / A * A = 0) = (V % A.toInt = 0)) ∧ decide (¬ A = 0) = true := by
  have hnz : ¬ A = 0 := fun z => by rw [z] at h; exact absurd h.1 (by decide)
  have hm : iI V - iI V / A * A = iI (V % A.toInt) := by
    have : iI V - iI V / iI A.toInt * iI A.toInt = iI (V.tmod A.toInt) := iI_mod ⟨by omega, by omega⟩ (by omega) ⟨by omega, by omega⟩
    rw [iI_of] at this
    rw [this, tmod_pos (by omega), if_pos (by omega)]
  have h1 := Int.emod_nonneg V (show A.toInt ≠ 0 by omega)
  have h2 := Int.emod_lt_of_pos V (show 0 < A.toInt by omega)
  have he : (iI V - iI V / A * A = 0) = (V % A.toInt = 0) := by rw [hm]; exact iI_eq (b := 0) ⟨by omega, by omega⟩ ⟨by omega, by omega⟩
  refine ⟨?_, he, decide_eq_true hnz⟩
  unfold k_isMultiple
  rw [if_neg (show ¬ A ≤ 0 by rw [Int32.le_iff_toInt_le]; show ¬ A.toInt ≤ 0; omega), zck_t (decide_eq_true hnz), if_c he]
  by_cases p : V % A.toInt = 0
  · rw [if_pos p, decide_eq_true p]
  · rw [if_neg p, decide_eq_false p]
theorem L_step {tp tq : Nat → Int32} (hq : ∀ i, i < 800 → tq i = tp i) {L : Nat} (hL : L ≤ 800) {M0 w0 : Nat → Int32} (lv : vLaw) {n : Nat} (hn : 250000 ≤ n) (c : Int32 × (Nat → Int32) × (Nat → Int32)) (r : Int32 × Int32 × Int32 × (Nat → Int32) × (Nat → Int32)) (h : LDR tp L n M0 w0 c r) : (∃ c' r', r_readLadder_21 n lv tp 6 c = some (.inl c') ∧ meveryRead_14 n tq r = some (.inl r') ∧ LDR tp L n M0 w0 c' r' ∧ 8 - c'.1.toNatClampNeg < 8 - c.1.toNatClampNeg) ∨ ∃ (x : vLaw × (Nat → Int32)) (y : (Nat → Int32) × (Nat → Int32)), r_readLadder_21 n lv tp 6 c = some (.inr x) ∧ meveryRead_14 n tq r = some (.inr y) ∧ ∃ (l : Nat) (f F M w : Nat → Int32) (last : Int32), x = (.inr (.inr (.inl (if l ≤ 6 then l else 6, f))), F) ∧ y = (M, if M 6 = 0 then upd (upd (upd w 2669 (nI l)) 2655 2) 2660 last else w) ∧ SS tp L F M ∧ KP M0 M ∧ (∀ i, i < 2670 ∨ 2676 ≤ i → w i = w0 i) ∧ 1 ≤ l ∧ (M 6 = 0 → LDF f w l last) := by
  obtain ⟨l, b, last, F, ar, M, w, hl, rfl, rfl, hkp, hw, hsee, hb0, hb1, hfine⟩ := h
  cases b
  · right
    have hss := hb0 rfl
    obtain ⟨f, f1, f2⟩ := c_first (N := 6) (l := l) (by omega) (by omega) ar hn
    have h136 : r_readLadder_136 n lv F tp ar (nI l) 6 = some (.inr (.inr (.inl (if l ≤ 6 then l else 6, f))), F) := by
      unfold r_readLadder_136 k_newLadder
      rw [f1, Option.bind_some, Option.bind_some]
    have h132 : meveryRead_132 n M tq w (nI l) last = some (M, if M 6 = 0 then upd (upd (upd w 2669 (nI l)) 2655 2) 2660 last else w) := by
      unfold meveryRead_132
      rw [show (17 : Int32) = nI 17 from rfl, m_lays (k := 17) (by omega), Option.bind_some, show (3 : Int32) = nI 3 from rfl, m_lays (k := 3) (by omega), Option.bind_some, show (8 : Int32) = nI 8 from rfl, m_lays (k := 8) (by omega), Option.bind_some]
      by_cases p : M 6 = 0
      · simp only [if_pos p]
      · simp only [if_neg p]
    refine ⟨_, _, ?_, ?_, l, f, F, M, w, last, rfl, rfl, hss, hkp, hw, hl.1, fun z => ?_⟩
    · by_cases p : l = 7
      · unfold r_readLadder_21
        dsimp only
        rw [if_pos (show (6 : Int32) < nI l by rw [p]; decide), h136]; rfl
      · rw [l21 lv tp F ar ⟨hl.1, by omega⟩, hsee, Option.bind_some, if_neg (by decide), h136]; rfl
    · unfold meveryRead_14
      dsimp only
      rw [m_fine, Option.bind_some, h132]
      by_cases p : M 6 = 0
      · rw [if_pos (decide_eq_true p), if_pos (show (zb false : Int32) = 0 from rfl)]; rfl
      · rw [if_neg (dneg p)]; rfl
    · obtain ⟨g1, g2, g3, g4⟩ := hfine z
      have hmin : (if l ≤ 6 then l else 6) = l := if_pos g1
      rw [hmin] at f2
      refine ⟨g1, fun i hi => by rw [f2 i hi]; exact g2 i hi, fun i hi => by rw [f2 i (by omega), f2 (i + 1) hi]; exact g3 i hi, by rw [f2 (l - 1) (by omega)]; exact g4⟩
  · left
    obtain ⟨F1, a1, a2⟩ := hb1 rfl
    have f6 : M 6 = 0 := a2.2.1.2.1
    obtain ⟨g1, g2, g3, g4⟩ := hfine f6
    have hlast := (g2 (l - 1) (by omega)).2
    rw [← g4] at hlast
    obtain ⟨v, v', F2, M2, d1, d2, d3, d4, d5, d6, d7⟩ := SS_number hq hL (Or.inl a2 : SS tp L F1 M) (lo := 1) (hi := 9999) ⟨by omega, by omega⟩ ⟨by omega, by omega⟩ hn
    replace d1 : n_takeNumber n F1 tp 1 (iI 9999) = some (v, F2) := d1
    replace d2 : mreads n M tq 1 9999 = some (v', M2) := d2
    obtain ⟨n1, n2⟩ := lad_num hL a2 (lo := last.toInt + 1) (hi := 9999) ⟨by omega, by omega⟩ ⟨by omega, by omega⟩ hn d1 d3
    have hlo : ar (l - 1) + 1 = iI (last.toInt + 1) := by rw [← g4, ← iI_add, iI_of]; rfl
    have hc : ∀ X, (∃ c' r', X = some (.inl c') ∧ meveryRead_14 n tq (nI l, last, zb true, M, w) = some (.inl r') ∧ LDR tp L n M0 w0 c' r' ∧ c'.1 = nI (l + 1)) → r_readLadder_21 n lv tp 6 (nI l, F, ar) = X → (∃ c' r', r_readLadder_21 n lv tp 6 (nI l, F, ar) = some (.inl c') ∧ meveryRead_14 n tq (nI l, last, zb true, M, w) = some (.inl r') ∧ LDR tp L n M0 w0 c' r' ∧ 8 - c'.1.toNatClampNeg < 8 - (nI l).toNatClampNeg) := fun X ⟨c', r', x1, x2, x3, x4⟩ hX => ⟨c', r', hX.trans x1, x2, x3, by rw [x4, qI_n (by omega), qI_n (by omega)]; omega⟩
    refine hc _ ?_ ((l21 lv tp F ar ⟨hl.1, g1⟩).trans (by rw [hsee, Option.bind_some, if_pos rfl, a1, Option.bind_some, hlo]))
    unfold meveryRead_14
    dsimp only
    rw [m_fine, Option.bind_some, if_pos (decide_eq_true f6), if_neg (show ¬ (zb true : Int32) = 0 by decide), d2, Option.bind_some]
    dsimp only
    rw [m_fine, Option.bind_some, if_neg (show ¬ nI l ≤ 0 by
      rw [nI_iI]; show ¬ iI (l : Int) ≤ iI 0; rw [iI_le ⟨by omega, by omega⟩ ⟨by omega, by omega⟩]; omega)]
    have k2 : KP M0 M2 := hkp.t d4
    have h11 : M2 11 = F1 2 := d5 a2
    show ∃ c' r', ((n_takeNumber n F1 tp (iI (last.toInt + 1)) (iI 9999)).bind _) = _ ∧ _
    rcases SS_fine d3 with ⟨e0, e1⟩ | ⟨e0, e1⟩
    · obtain ⟨V, y1, y2, y3⟩ := n2 e1
      obtain ⟨x1, x2, _⟩ := d6 e1
      subst x2
      subst y1
      obtain ⟨m1, m2, m3⟩ := multA (V := V) (A := last) ⟨y2.1, by omega⟩ ⟨hlast.1, by omega⟩
      have hVl : (iI V ≤ last) = (V ≤ last.toInt) := by rw [Int32.le_iff_toInt_le, iI_to ⟨by omega, by omega⟩]
      rw [if_pos (decide_eq_true e0), if_c hVl, zck_t m3, if_c m2]
      rcases y3 with ⟨y3, y4⟩ | ⟨y3, F3, y4, y5⟩
      · rw [y4, Option.bind_some, if_neg (show ¬ V ≤ last.toInt by omega)]
        dsimp only
        rw [← g4, m1, Option.bind_some]
        by_cases p : V % last.toInt = 0
        · rw [if_pos (decide_eq_true p), if_pos p]
          exact L107 (last := last) hq hL ⟨hl.1, g1⟩ lv (Or.inl e1) (fun _ => h11.symm) k2 hw (fun _ => ⟨rfl, ⟨g1, g2, g3, g4⟩, by rw [iI_to ⟨by omega, by omega⟩]; exact y2, by rw [iI_to ⟨by omega, by omega⟩]; exact p⟩) hn
        · obtain ⟨F4, M4, u1, u2, u3, u4, u5⟩ := SS_fail hL (Or.inl e1 : SS tp L F2 M2) (k := 2) (p := F1 2) (p' := M2 11) (by decide) (fun _ => h11.symm)
          have f4 : ¬ M4 6 = 0 := by rw [u3.2.1.2.1]; exact u3.1.1
          unfold meveryRead_59
          rw [if_neg (dneg p), if_neg p, u1, Option.bind_some, u2, Option.bind_some]
          exact L107 (last := last) hq hL ⟨hl.1, g1⟩ lv (Or.inr u3) (fun z => (not_both z u3).elim) (k2.t u4) hw (fun z => absurd z f4) hn
      · rw [y5, Option.bind_some, if_pos (show V ≤ last.toInt by omega)]
        dsimp only
        unfold meveryRead_59
        have hM : mfail M2 2 (M2 11) = some (upd (upd M2 6 2) 7 (M2 11)) := by unfold mfail; rw [if_pos e0]
        have hF : F3 = upd (upd (upd F1 3 2) 4 (F1 2)) 1 0 := by
          unfold n_fail at y4
          rw [if_pos a2.1.2.1] at y4
          exact (Option.some.inj y4).symm
        have hbd : BD L F3 (upd (upd M2 6 2) 7 (M2 11)) := by
          rw [hF]
          obtain ⟨_, z2, a, _, _, ⟨_, _, z3⟩, _, ⟨z4, _⟩, _⟩ := e1
          exact ⟨⟨show (2 : Int32) ≠ 0 by decide, rfl, a2.1.1⟩, ⟨z2.1, rfl, h11⟩, a, z4, z3⟩
        rw [← g4, mult0 hlast.1, Option.bind_some, if_pos rfl, hM, Option.bind_some]
        exact L107 (last := last) hq hL ⟨hl.1, g1⟩ lv (Or.inr hbd) (fun z => (not_both z hbd).elim) (fun i i4 i5 i6 i7 i10 i11 => (upd_ne i7).trans ((upd_ne i6).trans (k2 i i4 i5 i6 i7 i10 i11))) hw (fun z => absurd z (by show ¬ (2 : Int32) = 0; decide)) hn
    · have hv0 := d7 e1
      rw [n1 e1, Option.bind_some, if_neg (dneg e0), hv0]
      dsimp only
      rw [← g4, mult0 hlast.1, Option.bind_some, if_pos rfl]
      exact L107 (last := last) hq hL ⟨hl.1, g1⟩ lv (Or.inr e1) (fun z => (not_both z e1).elim) k2 hw (fun z => absurd z e0) hn
theorem st_every {tp tq : Nat → Int32} (hq : ∀ i, i < 800 → tq i = tp i) {L : Nat} (hL : L ≤ 800) {F M M0 w w0 R : Nat → Int32} {lv : vLaw} {mo : Option vArr} {ty : vTrue} {T : Nat} (hT : T < 128) (hs : SS tp L F M) (h13 : M 13 = nI (T ||| 2 ^ 2)) (hkq : KQ M0 M) (hwf : wfr w0 w) (h56 : W56 w) (hmb : moB mo) (hct : CT R lv mo ty w T) {n : Nat} (hn : 250000 ≤ n) : ∃ lv' F' m, r_readLadder n lv F tp = some (lv', F') ∧ zloop (meveryRead_14 n tq) n (0, 1, 1, M, w) = some m ∧ PS tp L M0 w0 (T ||| 2 ^ 2) (upd R 1 (nI (T ||| 2 ^ 2)), lv', mo, ty, F') m := by
  obtain ⟨v, v', F1, M1, a1, a2, a3, a4, a5, a6, a7⟩ := SS_number hq hL hs (lo := 1) (hi := 9999) ⟨by omega, by omega⟩ ⟨by omega, by omega⟩ hn
  replace a1 : n_takeNumber n F tp 1 9999 = some (v, F1) := a1
  replace a2 : mreads n M tq 1 9999 = some (v', M1) := a2
  have hcls : r_readLadder n lv F tp = zloop (r_readLadder_21 n lv tp 6) n (1, F1, upd (fun _ => 0) 0 v) := by
    unfold r_readLadder
    rw [zck_t (by decide +kernel), a1, Option.bind_some, show (6 : Int32).toNatClampNeg = 6 by decide +kernel, zck_t (by decide +kernel), show (0 : Int32).toNatClampNeg = 0 by decide +kernel]
  rw [hcls]
  -- the end, seen from both
  have hend : ∀ (l : Nat) (f F' M' w' : Nat → Int32) (last : Int32), SS tp L F' M' → KP M M' → (∀ i, i < 2670 ∨ 2676 ≤ i → w' i = w i) → 1 ≤ l → (M' 6 = 0 → LDF f w' l last) → PS tp L M0 w0 (T ||| 2 ^ 2) (upd R 1 (nI (T ||| 2 ^ 2)), .inr (.inr (.inl (if l ≤ 6 then l else 6, f))), mo, ty, F') (M', if M' 6 = 0 then upd (upd (upd w' 2669 (nI l)) 2655 2) 2660 last else w') := fun l f F' M' w' last hss hkp hw' hl1 hld => by
    have hwo : ∀ i, i ≠ 2655 → i ≠ 2660 → ¬ (2669 ≤ i ∧ i ≤ 2675) → (if M' 6 = 0 then upd (upd (upd w' 2669 (nI l)) 2655 2) 2660 last else w') i = w i := fun i h1 h2 h3 => by
      split
      · exact (upd_ne h2).trans ((upd_ne h1).trans ((upd_ne (by omega)).trans (hw' i (by omega))))
      · exact hw' i (by omega)
    refine ⟨hss, hkq.k hkp, fun i hi => (hwo i (by omega) (by omega) (by omega)).trans (hwf i hi), ?_, hmb, fun z => ?_⟩
    · obtain ⟨m, m1, m2⟩ := h56
      exact ⟨m, m1, (hwo _ (by omega) (by omega) (by omega)).trans m2⟩
    · dsimp only at z ⊢
      have z6 : M' 6 = 0 := z.2.1.2.1
      obtain ⟨g1, g2, g3, g4⟩ := hld z6
      obtain ⟨⟨c1, c2, c3, c4, c5⟩, c6, c7, c8⟩ := hct
      rw [if_pos z6] at hwo ⊢
      rw [if_pos g1]
      refine ⟨⟨⟨(hwo _ (by omega) (by omega) (by omega)).trans c1, ⟨(hwo _ (by omega) (by omega) (by omega)).trans c2.1, c2.2⟩, ⟨(hwo _ (by omega) (by omega) (by omega)).trans c3.1, c3.2⟩, ⟨(hwo _ (by omega) (by omega) (by omega)).trans c4.1, c4.2⟩, (hwo _ (by omega) (by omega) (by omega)).trans c5.1, c5.2⟩, MOr_c rfl (fun i hi => hwo _ (by omega) (by omega) (by omega)) c6, ⟨fun q => ?_, ⟨?_, ?_, fun i hi => ?_, ?_⟩, ⟨hl1, g1⟩, fun i hi => (g2 i hi).2, fun i hi => g3 i hi⟩, TYr_c (fun i hi => hwo _ (by omega) (by omega) (by omega)) c8⟩, rfl, (hkp 13 (by omega) (by omega) (by omega) (by omega) (by omega) (by omega)).trans h13⟩
      · rw [tb2' T hT] at q; cases q
      · exact (upd_ne (by omega)).trans upd_at
      · exact (upd_ne (by omega)).trans ((upd_ne (by omega)).trans upd_at)
      · have hi' : i < l := hi
        exact (upd_ne (by omega)).trans ((upd_ne (by omega)).trans ((upd_ne (by omega)).trans (g2 i hi).1))
      · exact upd_at.trans g4
  rcases SS_fine hs with ⟨f0, f1⟩ | ⟨f0, f1⟩
  · -- the first number
    have hstep : ∃ r, meveryRead_14 n tq (0, 1, 1, M, w) = some (.inl r) ∧ LDR tp L n M w (1, F1, upd (fun _ => 0) 0 v) r := by
      unfold meveryRead_14
      dsimp only
      rw [m_fine, Option.bind_some, if_pos (decide_eq_true f0), if_neg (by decide), a2, Option.bind_some]
      dsimp only
      rw [m_fine, Option.bind_some, if_pos (show (0 : Int32) ≤ 0 by decide), ite_self]
      unfold meveryRead_68 meveryRead_83
      rw [if_neg (by decide), m_fine, Option.bind_some]
      rcases SS_fine a3 with ⟨e0, e1⟩ | ⟨e0, e1⟩
      · obtain ⟨x1, x2, V, x3, x4, x5⟩ := a6 e1
        subst x2
        rw [if_pos (decide_eq_true e0), zck_t (by decide +kernel), show ((2670 : Int32) + 0).toNatClampNeg = 2670 by decide +kernel]
        obtain ⟨b, M', t1, t2, t3, t4, t5⟩ := SS_takesL hq hL 1 a3 hn
        rw [show (0 : Int32) = nI 0 from rfl, e102 _ _ _ _ (by omega), show (0 + 1) % 2 = 1 % 2 from rfl, t2, Option.bind_some]
        refine ⟨_, rfl, 1, b, v, F1, _, M', _, ⟨by omega, by omega⟩, rfl, rfl, a4.t t3, fun i hi => upd_ne (by omega), t1, t4, t5, fun _ => ⟨by omega, fun i hi => ?_, fun i hi => by omega, rfl⟩⟩
        have : i = 0 := by omega
        subst this
        refine ⟨rfl, ?_⟩
        show 1 ≤ v.toInt ∧ v.toInt ≤ 9999
        rw [x3, iI_to ⟨by omega, by omega⟩]; exact ⟨x4, x5⟩
      · rw [if_neg (dneg e0)]
        obtain ⟨b, M', t1, t2, t3, t4, t5⟩ := SS_takesL hq hL 1 a3 hn
        rw [show (0 : Int32) = nI 0 from rfl, e102 _ _ _ _ (by omega), show (0 + 1) % 2 = 1 % 2 from rfl, t2, Option.bind_some]
        refine ⟨_, rfl, 1, b, v', F1, _, M', w, ⟨by omega, by omega⟩, rfl, rfl, a4.t t3, fun i hi => rfl, t1, t4, t5, fun z => ?_⟩
        exfalso
        cases b
        · rcases t4 rfl with y | y
          · exact e1.1.1 y.1.2.1
          · exact absurd z (by rw [y.2.1.2.1]; exact y.1.1)
        · obtain ⟨F', b1, b2⟩ := t5 rfl
          rw [c_bad e1] at b1
          have := Option.some.inj b1
          subst this
          exact e1.1.1 b2.1.2.1
    obtain ⟨r0, s1, s2⟩ := hstep
    rw [zloop_peel (by omega) s1]
    obtain ⟨x, y, e1, e2, l, f, F', M', w', last, rfl, rfl, e3, e4, e5, e6, e7⟩ := zloop_sim (f := r_readLadder_21 n lv tp 6) (g := meveryRead_14 n tq) (R := LDR tp L n M w) (S := fun (x : vLaw × (Nat → Int32)) (y : (Nat → Int32) × (Nat → Int32)) => ∃ (l : Nat) (f F M1 w1 : Nat → Int32) (last : Int32), x = (.inr (.inr (.inl (if l ≤ 6 then l else 6, f))), F) ∧ y = (M1, if M1 6 = 0 then upd (upd (upd w1 2669 (nI l)) 2655 2) 2660 last else w1) ∧ SS tp L F M1 ∧ KP M M1 ∧ (∀ i, i < 2670 ∨ 2676 ≤ i → w1 i = w i) ∧ 1 ≤ l ∧ (M1 6 = 0 → LDF f w1 l last)) (fun c => 8 - c.1.toNatClampNeg) (fun c r hR => L_step hq hL lv hn c r hR) n (n - 1) (1, F1, upd (fun _ => 0) 0 v) r0 s2 (by show 8 - (1 : Int32).toNatClampNeg < n; omega) (by show 8 - (1 : Int32).toNatClampNeg < n - 1; omega)
    rw [e1, e2]
    exact ⟨_, _, _, rfl, rfl, hend l f F' M' w' last e3 e4 e5 e6 e7⟩
  · -- already at fault
    have hb1 : BD L F1 M1 := by
      rcases a3 with z | z
      · exact (not_both (a6 z).1 f1).elim
      · exact z
    have hno : seeL n 1 F1 tp = some false := by
      unfold seeL n_sees
      rw [if_pos (by omega), if_neg (by rw [hb1.1.2.1]; decide)]
    obtain ⟨f, g1, g2⟩ := c_first (N := 6) (l := 1) (by omega) (by omega) (upd (fun _ => 0) 0 v) hn
    have hbF : SS tp L F1 M := by
      refine Or.inr ⟨hb1.1, ?_, f1.2.2⟩
      obtain ⟨M', d1, _⟩ := SS_numB (tp := tp) hq hL f1 1 9999 1 9999 hn
      rw [a1] at d1
      have := (Prod.mk.inj (Option.some.inj d1)).2
      rw [this]
      exact f1.2.1
    have hloop : zloop (r_readLadder_21 n lv tp 6) n (1, F1, upd (fun _ => 0) 0 v) = some (.inr (.inr (.inl (if 1 ≤ 6 then 1 else 6, f))), F1) := by
      obtain ⟨r, z1, z2⟩ := zloop_inv (f := r_readLadder_21 n lv tp 6) (R := fun c => c = (1, F1, upd (fun _ => 0) 0 v)) (S := fun r => r = (.inr (.inr (.inl (if 1 ≤ 6 then 1 else 6, f))), F1)) (fun _ => 0) (by
        rintro c rfl
        right
        refine ⟨_, ?_, rfl⟩
        rw [show (1 : Int32) = nI 1 from rfl, l21 lv tp F1 _ ⟨by omega, by omega⟩, hno, Option.bind_some, if_neg (by decide)]
        unfold r_readLadder_136 k_newLadder
        rw [g1, Option.bind_some, Option.bind_some]; rfl) n _ rfl (by omega)
      rw [z1, z2]
    have hloop2 : zloop (meveryRead_14 n tq) n (0, 1, 1, M, w) = some (M, if M 6 = 0 then upd (upd (upd w 2669 (nI 1)) 2655 2) 2660 0 else w) := by
      obtain ⟨r, z1, z2⟩ := zloop_inv (f := meveryRead_14 n tq) (R := fun c => c = (0, 1, 1, M, w)) (S := fun r => r = (M, if M 6 = 0 then upd (upd (upd w 2669 (nI 1)) 2655 2) 2660 0 else w)) (fun _ => 0) (by
        rintro c rfl
        right
        refine ⟨_, ?_, rfl⟩
        unfold meveryRead_14 meveryRead_132
        dsimp only
        rw [m_fine, Option.bind_some, if_neg (dneg f0), show (17 : Int32) = nI 17 from rfl, m_lays (k := 17) (by omega), Option.bind_some, if_neg f0, show (3 : Int32) = nI 3 from rfl, m_lays (k := 3) (by omega), Option.bind_some, if_neg f0, show (8 : Int32) = nI 8 from rfl, m_lays (k := 8) (by omega), Option.bind_some, if_neg f0, if_neg f0]; rfl) n _ rfl (by omega)
      rw [z1, z2]
    rw [hloop, hloop2]
    exact ⟨_, _, _, rfl, rfl, hend 1 f F1 M w 0 hbF (KP.r _) (fun _ _ => rfl) (by omega) (fun z => absurd z f0)⟩
