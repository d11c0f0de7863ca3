/-! ===== design: months ===== -/
theorem m_seesAny {tp tq : Nat → Int32} (hq : ∀ i, i < 800 → tq i = tp i) {L : Nat} (hL : L ≤ 800) {M : Nat → Int32} {a : Nat} (h3 : M 3 = nI L) (h4 : M 4 = nI a) (ha : a ≤ L) {n : Nat} (hn : 250000 ≤ n) : ∃ b M' q, mseesNumber n M tq = some (b, M') ∧ M' 4 = nI q ∧ q ≤ L ∧ ∀ i, i ≠ 4 → M' i = M i := by
  obtain ⟨q, M', e1, e2, e3, e4⟩ := m_next hq hL h3 h4 ha hn
  have hqL := rnn_le e2 ha
  unfold mseesNumber
  rw [e1, Option.bind_some]
  dsimp only
  rw [(m_letter hq hL ((e4 3 (by omega)).trans h3) (by omega)).2, Option.bind_some]
  by_cases p : q < L ∧ so (tp q) = 3
  · rw [if_pos (decide_eq_true p)]
    by_cases lk : nI q = M' 5
    · rw [if_pos lk]; exact ⟨_, _, q, rfl, e3, hqL, e4⟩
    · rw [if_neg lk]; exact ⟨_, _, q, rfl, e3, hqL, e4⟩
  · rw [if_neg (dneg p)]; exact ⟨_, _, q, rfl, e3, hqL, e4⟩
theorem m_takesBad {tp tq : Nat → Int32} (hq : ∀ i, i < 800 → tq i = tp i) {L : Nat} (hL : L ≤ 800) {M : Nat → Int32} {a : Nat} (h3 : M 3 = nI L) (h4 : M 4 = nI a) (ha : a ≤ L) (h6 : ¬ M 6 = 0) (W : Int64) {n : Nat} (hn : 250000 ≤ n) : ∃ M' q, mtakes n M tq W = some (false, M') ∧ M' 4 = nI q ∧ q ≤ L ∧ ∀ i, i ≠ 4 → i ≠ 10 → M' i = M i := by
  obtain ⟨q, M', e1, e2, e3, e4⟩ := m_next hq hL h3 h4 ha hn
  have hqL := rnn_le e2 ha
  unfold mtakes misWord
  rw [e1, Option.bind_some]
  dsimp only
  rw [m_fine, Option.bind_some, if_neg (dneg (show ¬ upd M' 10 0 6 = 0 by show ¬ M' 6 = 0; rw [e4 6 (by omega)]; exact h6)), Option.bind_some, if_neg (show ¬ (false = true) by decide)]
  exact ⟨_, q, rfl, (show upd M' 10 0 4 = nI q from e3), hqL, fun i i4 i10 => (upd_ne i10).trans (e4 i i4)⟩
/-- what the months' statement leaves, and where -/
theorem M_pack {tp : Nat → Int32} {L : Nat} {M M0 w w0 R : Nat → Int32} {lv : vLaw} {mo : Option vArr} {ty : vTrue} {T : Nat} (hT : T < 128) (h13 : M 13 = nI (T ||| 2 ^ 3)) (hkq : KQ M0 M) (hwf : wfr w0 w) (h56 : W56 w) (hct : CT R lv mo ty w T) {l : Nat} {f F' M' w1 w' : Nat → Int32} {x : Int32} (hl : 1 ≤ l ∧ l ≤ 16) (hss : SS tp L F' M' ∨ PE L F' M') (hkp : KP M M') (hw1 : ∀ i, i < 2676 ∨ 2692 ≤ i → w1 i = w i) (hw' : ∀ i, i ≠ 2656 → i ≠ 2657 → w' i = w1 i) (h2656 : w' 2656 = w1 2656 ∨ (l ≤ 15 ∧ w' 2656 = nI l)) (hfi : FI tp L F' M' → l ≤ 15 ∧ (∀ i, i < l → w1 (2676 + i) = f i ∧ 1 ≤ (f i).toInt ∧ (f i).toInt ≤ 999) ∧ w' 2656 = nI l ∧ w' 2657 = x ∧ 0 ≤ x.toInt ∧ x.toInt < l) : PSP tp L M0 w0 (T ||| 2 ^ 3) (upd (upd R 1 (nI (T ||| 2 ^ 3))) 6 x, lv, some (if l ≤ 15 then l else 15, f), ty, F') (M', w') := by
  have hwo : ∀ i, i ≠ 2656 → i ≠ 2657 → ¬ (2676 ≤ i ∧ i < 2692) → w' i = w i := fun i h1 h2 h3 => (hw' i h1 h2).trans (hw1 i (by omega))
  refine ⟨hss, hkq.k hkp, fun i hi => (hwo i (by omega) (by omega) (by omega)).trans (hwf i hi), ?_, fun m hm => ?_, fun z => ?_⟩
  · rcases h2656 with q | ⟨q1, q⟩
    · obtain ⟨m, m1, m2⟩ := h56
      exact ⟨m, m1, q.trans ((hw1 _ (by omega)).trans m2)⟩
    · exact ⟨l, q1, q⟩
  · cases hm
    dsimp only
    split <;> omega
  · dsimp only at z ⊢
    obtain ⟨g1, g2, g3, g4, g5, g6⟩ := hfi z
    obtain ⟨⟨c1, c2, c3, c4, c5⟩, c6, c7, c8⟩ := hct
    rw [if_pos g1]
    refine ⟨⟨⟨(hwo _ (by omega) (by omega) (by omega)).trans c1, ⟨(hwo _ (by omega) (by omega) (by omega)).trans c2.1, c2.2⟩, ⟨(hwo _ (by omega) (by omega) (by omega)).trans c3.1, c3.2⟩, ⟨(hwo _ (by omega) (by omega) (by omega)).trans c4.1, c4.2⟩, (hwo _ (by omega) (by omega) (by omega)).trans c5.1, c5.2⟩, ⟨g4, Or.inr ⟨(l, f), rfl, ⟨hl.1, g1⟩, g3, fun i hi => ?_, g5, g6⟩⟩, LAr_c (tb2 T hT 3 (by omega) (by omega)) (fun i hi => hwo _ (by omega) (by omega) (by omega)) c7, TYr_c (fun i hi => hwo _ (by omega) (by omega) (by omega)) c8⟩, rfl, (hkp 13 (by omega) (by omega) (by omega) (by omega) (by omega) (by omega)).trans h13⟩
    rw [hw' _ (by omega) (by omega)]; exact g2 i hi
def MHR (tp tq : Nat → Int32) (L n : Nat) (M0 w0 : Nat → Int32) (c : Int32 × (Nat → Int32) × (Nat → Int32)) (r : Int32 × Int32 × (Nat → Int32) × (Nat → Int32)) : Prop := ∃ (l : Nat) (b : Bool) (F ar M w : Nat → Int32), (1 ≤ l ∧ l ≤ 16) ∧ c = (nI l, F, ar) ∧ r = (nI l, zb b, M, w) ∧ SS tp L F M ∧ KP M0 M ∧ (∀ i, i < 2676 ∨ 2692 ≤ i → w i = w0 i) ∧ (M 6 = 0 → l ≤ 15 ∧ (∀ i, i < l → w (2676 + i) = ar i ∧ 1 ≤ (ar i).toInt ∧ (ar i).toInt ≤ 999) ∧ (F 1 = 3 → b = true) ∧ (b = true → F 1 ≠ 3 → F 1 = 0 ∧ ∀ lo hi : Int, b32 lo → b32 hi → ∃ v' M2, mreads n M tq (iI lo) (iI hi) = some (v', M2) ∧ PE L F M2 ∧ KP M M2))
theorem M_65 {tp tq : Nat → Int32} (hq : ∀ i, i < 800 → tq i = tp i) {L : Nat} (hL : L ≤ 800) {M0 w0 : Nat → Int32} {l : Nat} (hl : l + 1 ≤ 16) {F M ar w : Nat → Int32} (h : SS tp L F M) (hkp : KP M0 M) (hw : ∀ i, i < 2676 ∨ 2692 ≤ i → w i = w0 i) (hf : M 6 = 0 → l + 1 ≤ 15 ∧ ∀ i, i < l + 1 → w (2676 + i) = ar i ∧ 1 ≤ (ar i).toInt ∧ (ar i).toInt ≤ 999) {n : Nat} (hn : 250000 ≤ n) : ∃ r, mmonthsRead_65 n M tq w (nI l) = some (.inl r) ∧ MHR tp tq L n M0 w0 (nI (l + 1), F, ar) r := by
  unfold mmonthsRead_65
  rw [qI_1]
  rcases SS_fine h with ⟨f0, f1⟩ | ⟨f0, f1⟩
  · obtain ⟨b, M1, n1, n2, n3, n4, n5⟩ := SS_seesN hq hL f1 hn
    rw [n1, Option.bind_some]
    refine ⟨_, rfl, l + 1, b, F, ar, M1, w, ⟨by omega, hl⟩, rfl, rfl, Or.inl n2, hkp.t n3, hw, fun _ => ⟨(hf f0).1, (hf f0).2, n4, n5⟩⟩
  · obtain ⟨a, ha, h4⟩ := f1.2.2
    obtain ⟨b, M1, q, n1, n2, n3, n4⟩ := m_seesAny hq hL f1.2.1.1 h4 ha hn
    rw [n1, Option.bind_some]
    have hbd : BD L F M1 := ⟨f1.1, ⟨(n4 3 (by omega)).trans f1.2.1.1, (n4 6 (by omega)).trans f1.2.1.2.1, (n4 7 (by omega)).trans f1.2.1.2.2⟩, q, n3, n2⟩
    refine ⟨_, rfl, l + 1, b, F, ar, M1, w, ⟨by omega, hl⟩, rfl, rfl, Or.inr hbd, hkp.t (fun i i4 _ _ _ _ _ => n4 i i4), hw, fun z => absurd z (by rw [n4 6 (by omega)]; exact f0)⟩
theorem M_step {tp tq : Nat → Int32} (hq : ∀ i, i < 800 → tq i = tp i) {L : Nat} (hL : L ≤ 800) {M M0 w w0 R : Nat → Int32} {lv : vLaw} {mo : Option vArr} {ty : vTrue} {T : Nat} (hT : T < 128) (h13 : M 13 = nI (T ||| 2 ^ 3)) (hkq : KQ M0 M) (hwf : wfr w0 w) (h56 : W56 w) (hct : CT R lv mo ty w T) {n : Nat} (hn : 250000 ≤ n) (c : Int32 × (Nat → Int32) × (Nat → Int32)) (r : Int32 × Int32 × (Nat → Int32) × (Nat → Int32)) (h : MHR tp tq L n M w c r) : (∃ c' r', r_readMonths_21 n (upd R 1 (nI (T ||| 2 ^ 3))) mo tp 15 c = some (.inl c') ∧ mmonthsRead_12 n tq r = some (.inl r') ∧ MHR tp tq L n M w c' r' ∧ 17 - c'.1.toNatClampNeg < 17 - c.1.toNatClampNeg) ∨ ∃ (x : (Nat → Int32) × (Option vArr) × (Nat → Int32)) (y : (Nat → Int32) × (Nat → Int32)), r_readMonths_21 n (upd R 1 (nI (T ||| 2 ^ 3))) mo tp 15 c = some (.inr x) ∧ (∀ m, 5 ≤ m → zloop (mmonthsRead_12 n tq) m r = some y) ∧ PSP tp L M0 w0 (T ||| 2 ^ 3) (x.1, lv, x.2.1, ty, x.2.2) y := by
  obtain ⟨l, b, F, ar, M1, w1, hl, rfl, rfl, hss, hkp, hw1, hfine⟩ := h
  obtain ⟨f, s1, s2⟩ := c_first (N := 15) (l := l) (by omega) (by omega) ar hn
  have hone : ∀ (t : Int32 × Int32 × (Nat → Int32) × (Nat → Int32)) q, mmonthsRead_12 n tq t = some (.inr q) → ∀ m, 1 ≤ m → zloop (mmonthsRead_12 n tq) m t = some q := fun t q ht m hm => by
    obtain ⟨k, rfl⟩ : ∃ k, m = k + 1 := ⟨m - 1, by omega⟩
    rw [zloop, ht]
  have h108 : ∀ (M w : Nat → Int32) (x : Int32), mmonthsRead_108 n M tq w 5 x = some (M, if M 6 = 0 then upd w 2657 x else w) := fun M w x => by
    unfold mmonthsRead_108
    rw [show (5 : Int32) = nI 5 from rfl, m_lays (k := 5) (by omega), Option.bind_some]
  have h76b : ∀ (M2 w2 : Nat → Int32) (k : Nat) (a : Nat), M2 3 = nI L → M2 4 = nI a → a ≤ L → ¬ M2 6 = 0 → ∃ M3 q, mmonthsRead_76 n M2 tq w2 (nI k) = some (M3, w2) ∧ M3 4 = nI q ∧ q ≤ L ∧ ∀ i, i ≠ 4 → i ≠ 10 → M3 i = M2 i := fun M2 w2 k a x3 x4 xa x6 => by
    obtain ⟨M3, q, t1, t2, t3, t4⟩ := m_takesBad hq hL x3 x4 xa x6 398384 hn
    unfold mmonthsRead_76
    rw [show (4 : Int32) = nI 4 from rfl, m_lays (k := 4) (by omega), Option.bind_some, if_neg x6, t1, Option.bind_some, if_neg (show ¬ (false = true) by decide), h108, if_neg (show ¬ M3 6 = 0 by rw [t4 6 (by omega) (by omega)]; exact x6)]
    exact ⟨M3, q, rfl, t2, t3, t4⟩
  have h88 : ∀ v : Bool, n_sees 4 (fun j => L_leap.getD j 0) n F tp = some v → r_readMonths_88 n (upd R 1 (nI (T ||| 2 ^ 3))) mo F tp ar (nI l) 15 = if v = true then (n_advance n F tp).bind (fun v12 => (n_takeNumber n v12 tp 0 (nI (if l ≤ 15 then l else 15) - 1)).bind (fun v16 => some (upd (upd (upd R 1 (nI (T ||| 2 ^ 3))) 6 (nI (if l ≤ 15 then l else 15) - 1)) 6 v16.1, some (if l ≤ 15 then l else 15, f), v16.2))) else some (upd (upd R 1 (nI (T ||| 2 ^ 3))) 6 (nI (if l ≤ 15 then l else 15) - 1), some (if l ≤ 15 then l else 15, f), F) := fun v hv => by
    unfold r_readMonths_88
    rw [s1, Option.bind_some, zO_s, hv, Option.bind_some]
    simp only [zO_s]
  have h21 : r_readMonths_21 n (upd R 1 (nI (T ||| 2 ^ 3))) mo tp 15 (nI l, F, ar) = if 15 < l then (r_readMonths_88 n (upd R 1 (nI (T ||| 2 ^ 3))) mo F tp ar (nI l) 15).map (fun z => .inr z) else (if F 1 = 3 then (n_takeNumber n F tp 1 999).bind (fun v3 => (if 15 ≤ l then (n_fail v3.2 4 (F 2)).bind (fun v4 => some (.inl (nI (l + 1), v4, ar))) else zck (zin (nI l) 15) (some (.inl (nI (l + 1), v3.2, upd ar l v3.1))))) else ((r_readMonths_88 n (upd R 1 (nI (T ||| 2 ^ 3))) mo F tp ar (nI l) 15).map (fun z => .inr z))) := by
    unfold r_readMonths_21 r_readMonths_82
    dsimp only
    rw [if_c (show ((15 : Int32) < nI l) = (15 < l) by rw [nI_iI]; show (iI 15 < iI (l : Int)) = _; rw [iI_lt ⟨by omega, by omega⟩ ⟨by omega, by omega⟩]; exact propext ⟨fun z => by omega, fun z => by omega⟩), qI_1, qI_n (by omega)]
    simp only [show ((15 : Int32) ≤ nI l) = (15 ≤ l) from qI_le (a := 15) (by omega) (by omega)]
  have hbadsee : F 1 ≠ 2 → n_sees 4 (fun j => L_leap.getD j 0) n F tp = some false := fun h2 => by unfold n_sees; rw [if_neg h2]
  rcases SS_fine hss with ⟨f0, f1⟩ | ⟨f0, f1⟩
  · obtain ⟨g1, g2, g3, g4⟩ := hfine f0
    have hmin : (if l ≤ 15 then l else 15) = l := if_pos g1
    rw [h21, if_neg (by omega)]
    by_cases k3 : F 1 = 3
    · left
      have hb := g3 k3
      subst hb
      obtain ⟨v, v', F2, M2, d1, d2, d3, d4, d5, d6, d7⟩ := SS_number hq hL hss (lo := 1) (hi := 999) ⟨by omega, by omega⟩ ⟨by omega, by omega⟩ hn
      replace d1 : n_takeNumber n F tp 1 999 = some (v, F2) := d1
      replace d2 : mreads n M1 tq 1 999 = some (v', M2) := d2
      have h11 : M2 11 = F 2 := d5 f1
      have kp2 : KP M M2 := hkp.t d4
      rw [if_pos k3, d1, Option.bind_some]
      dsimp only
      unfold mmonthsRead_12 mmonthsRead_47
      dsimp only
      rw [m_fine, Option.bind_some, if_pos (decide_eq_true f0), if_neg (show ¬ (zb true : Int32) = 0 by decide), d2, Option.bind_some]
      dsimp only
      rw [if_c (show (nI l = (15 : Int32)) = (l = 15) from qI_eq (b := 15) (by omega) (by omega))]
      have hμ : ∀ z : Int32 × (Nat → Int32) × (Nat → Int32), z.1 = nI (l + 1) → 17 - z.1.toNatClampNeg < 17 - (nI l).toNatClampNeg := fun z hz => by rw [hz, qI_n (by omega), qI_n (by omega)]; omega
      by_cases p15 : l = 15
      · obtain ⟨F3, M3, u1, u2, u3, u4, u5⟩ := SS_fail hL d3 (k := 4) (p := F 2) (p' := M2 11) (by decide) (fun _ => h11.symm)
        have f3 : ¬ M3 6 = 0 := by rw [u3.2.1.2.1]; exact u3.1.1
        rw [if_pos (by omega), u1, Option.bind_some, if_pos p15, u2, Option.bind_some, m_fine, Option.bind_some, if_neg (dneg f3)]
        obtain ⟨r, r1, r2⟩ := M_65 hq hL (M0 := M) (w0 := w) (l := l) (ar := ar) (w := w1) (by omega) (Or.inr u3) (kp2.t u4) hw1 (fun z => absurd z f3) hn
        exact ⟨_, r, rfl, r1, r2, hμ _ rfl⟩
      · rw [if_neg (by omega), zck_t (qI_z (by omega) (by omega)), if_neg p15, m_fine, Option.bind_some]
        rcases SS_fine d3 with ⟨e0, e1⟩ | ⟨e0, e1⟩
        · obtain ⟨z1, z2, V, z3, z4, z5⟩ := d6 e1
          subst z2
          rw [if_pos (decide_eq_true e0), show (2676 : Int32) + nI l = nI (2676 + l) by rw [show (2676 : Int32) = nI 2676 from rfl, nI_iI, nI_iI, nI_iI, iI_add]; rfl, zck_t (qI_z (by omega) (by omega)), qI_n (by omega)]
          obtain ⟨r, r1, r2⟩ := M_65 hq hL (M0 := M) (w0 := w) (l := l) (ar := upd ar l v) (w := upd w1 (2676 + l) v) (by omega) d3 kp2 (fun i hi => (upd_ne (by omega)).trans (hw1 i hi)) (fun _ => ⟨by omega, fun i hi => by
            by_cases t : i = l
            · rw [t, upd_at, upd_at, z3, iI_to ⟨by omega, by omega⟩]; exact ⟨rfl, z4, z5⟩
            · rw [upd_ne (by omega), upd_ne t]; exact g2 i (by omega)⟩) hn
          exact ⟨_, r, rfl, r1, r2, hμ _ rfl⟩
        · rw [if_neg (dneg e0)]
          obtain ⟨r, r1, r2⟩ := M_65 hq hL (M0 := M) (w0 := w) (l := l) (ar := upd ar l v) (w := w1) (by omega) d3 kp2 hw1 (fun z => absurd z e0) hn
          exact ⟨_, r, rfl, r1, r2, hμ _ rfl⟩
    · right
      rw [if_neg k3]
      cases b
      · -- no more numbers
        obtain ⟨bb, M2, t1, t2, t3, t4, t5⟩ := SS_takes hq hL ws_leap hss hn
        have h12 : ∀ y, mmonthsRead_76 n M1 tq w1 (nI l) = some y → mmonthsRead_12 n tq (nI l, zb false, M1, w1) = some (.inr y) := fun y hy => by
          unfold mmonthsRead_12
          dsimp only
          rw [m_fine, Option.bind_some, if_pos (decide_eq_true f0), if_pos (show (zb false : Int32) = 0 from rfl), hy]; rfl
        have hlm : nI l - 1 = iI ((l : Int) - 1) := by rw [nI_iI, show (1 : Int32) = iI 1 from rfl, iI_sub]
        rw [h88 bb t1, hmin]
        cases bb
        · have e76 : mmonthsRead_76 n M1 tq w1 (nI l) = some (M2, upd (upd w1 2656 (nI l)) 2657 (nI l - 1)) := by
            unfold mmonthsRead_76
            have hss2 := t4 rfl
            have f2 : M2 6 = 0 := by
              rcases hss2 with z | z
              · exact z.2.1.2.1
              · exact absurd f1.1.2.1 z.1.1
            rw [show (4 : Int32) = nI 4 from rfl, m_lays (k := 4) (by omega), Option.bind_some, if_pos f0, t2, Option.bind_some, if_neg (show ¬ (false = true) by decide), h108, if_pos f2]
          rw [if_neg (by decide)]
          refine ⟨_, _, rfl, fun m hm => hone _ _ (h12 _ e76) m (by omega), ?_⟩
          have := M_pack (lv := lv) (ty := ty) (F' := F) (M' := M2) (w1 := w1) (w' := upd (upd w1 2656 (nI l)) 2657 (nI l - 1)) (f := f) (x := nI l - 1) hT h13 hkq hwf h56 hct hl (Or.inl (t4 rfl)) (hkp.t t3) hw1 (fun i h1 h2 => (upd_ne h2).trans (upd_ne h1)) (Or.inr ⟨g1, (upd_ne (by omega)).trans upd_at⟩) (fun _ => ⟨g1, fun i hi => by
            rw [hmin] at s2
            rw [s2 i hi]; exact g2 i hi, (upd_ne (by omega)).trans upd_at, upd_at, by rw [hlm, iI_to ⟨by omega, by omega⟩]; omega, by rw [hlm, iI_to ⟨by omega, by omega⟩]; omega⟩)
          rw [hmin] at this
          exact this
        · obtain ⟨F2, a1, a2⟩ := t5 rfl
          obtain ⟨v, v', F3, M3, d1, d2, d3, d4, d5, d6, d7⟩ := SS_number hq hL (Or.inl a2 : SS tp L F2 M2) (lo := 0) (hi := (l : Int) - 1) ⟨by omega, by omega⟩ ⟨by omega, by omega⟩ hn
          replace d1 : n_takeNumber n F2 tp 0 (iI ((l : Int) - 1)) = some (v, F3) := d1
          replace d2 : mreads n M2 tq 0 (iI ((l : Int) - 1)) = some (v', M3) := d2
          have e76 : mmonthsRead_76 n M1 tq w1 (nI l) = some (M3, if M3 6 = 0 then upd (upd w1 2656 (nI l)) 2657 v' else upd w1 2656 (nI l)) := by
            unfold mmonthsRead_76
            rw [show (4 : Int32) = nI 4 from rfl, m_lays (k := 4) (by omega), Option.bind_some, if_pos f0, t2, Option.bind_some, if_pos rfl, hlm, d2, Option.bind_some, h108]
          rw [if_pos rfl, a1, Option.bind_some, hlm, d1, Option.bind_some]
          refine ⟨_, _, rfl, fun m hm => hone _ _ (h12 _ e76) m (by omega), ?_⟩
          have hwx : ∀ i, i ≠ 2656 → i ≠ 2657 → (if M3 6 = 0 then upd (upd w1 2656 (nI l)) 2657 v' else upd w1 2656 (nI l)) i = w1 i := fun i h1 h2 => by
            split
            · exact (upd_ne h2).trans (upd_ne h1)
            · exact upd_ne h1
          have hw56 : (if M3 6 = 0 then upd (upd w1 2656 (nI l)) 2657 v' else upd w1 2656 (nI l)) 2656 = nI l := by
            split
            · exact (upd_ne (by omega)).trans upd_at
            · exact upd_at
          have := M_pack (lv := lv) (ty := ty) (F' := F3) (M' := M3) (w1 := w1) (w' := if M3 6 = 0 then upd (upd w1 2656 (nI l)) 2657 v' else upd w1 2656 (nI l)) (f := f) (x := v) hT h13 hkq hwf h56 hct hl (Or.inl d3) ((hkp.t t3).t d4) hw1 hwx (Or.inr ⟨g1, hw56⟩) (fun z => by
            obtain ⟨z1, z2, V, z3, z4, z5⟩ := d6 z
            refine ⟨g1, fun i hi => ?_, hw56, ?_, ?_, ?_⟩
            · rw [hmin] at s2
              rw [s2 i hi]; exact g2 i hi
            · rw [if_pos z.2.1.2.1, z2]; exact upd_at
            · rw [z3, iI_to ⟨by omega, by omega⟩]; exact z4
            · rw [z3, iI_to ⟨by omega, by omega⟩]; omega)
          rw [hmin] at this
          have hu : ∀ (g : Nat → Int32) (a b : Int32), upd (upd g 6 a) 6 b = upd g 6 b := fun g a b => by
            funext i
            unfold upd
            by_cases t : i = 6
            · rw [if_pos t, if_pos t]
            · rw [if_neg t, if_neg t, if_neg t]
          show PSP tp L M0 w0 (T ||| 2 ^ 3) (upd (upd (upd R 1 (nI (T ||| 2 ^ 3))) 6 _) 6 v, lv, some (l, f), ty, F3) _
          rw [hu]
          exact this
      · -- a number too long
        obtain ⟨k0, k1⟩ := g4 rfl k3
        obtain ⟨v', M2, k2, k4, k5⟩ := k1 1 999 ⟨by omega, by omega⟩ ⟨by omega, by omega⟩
        replace k2 : mreads n M1 tq 1 999 = some (v', M2) := k2
        have f2 : ¬ M2 6 = 0 := by rw [k4.2.1.2.1]; decide
        obtain ⟨a, ha, h4⟩ := k4.2.2
        obtain ⟨b2, M3, q, n1, n2, n3, n4⟩ := m_seesAny hq hL k4.2.1.1 h4 ha hn
        have f3 : ¬ M3 6 = 0 := by rw [n4 6 (by omega)]; exact f2
        have hst : mmonthsRead_12 n tq (nI l, zb true, M1, w1) = some (.inl (nI (l + 1), zb b2, M3, w1)) := by
          unfold mmonthsRead_12 mmonthsRead_47 mmonthsRead_65
          dsimp only
          rw [m_fine, Option.bind_some, if_pos (decide_eq_true f0), if_neg (show ¬ (zb true : Int32) = 0 by decide), k2, Option.bind_some]
          dsimp only
          have hmf : mfail M2 4 (M2 11) = some M2 := by unfold mfail; rw [if_neg f2]
          rw [hmf, Option.bind_some, m_fine, Option.bind_some, if_neg (dneg f2), n1, Option.bind_some, qI_1, ite_self]
        obtain ⟨M4, q4, t1, t2, t3, t4⟩ := h76b M3 w1 (l + 1) q ((n4 3 (by omega)).trans k4.2.1.1) n2 n3 f3
        have h12 : mmonthsRead_12 n tq (nI (l + 1), zb b2, M3, w1) = some (.inr (M4, w1)) := by
          unfold mmonthsRead_12
          dsimp only
          rw [m_fine, Option.bind_some, if_neg (dneg f3), t1]; rfl
        have hpe : PE L F M4 := ⟨k4.1, ⟨(t4 3 (by omega) (by omega)).trans ((n4 3 (by omega)).trans k4.2.1.1), (t4 6 (by omega) (by omega)).trans ((n4 6 (by omega)).trans k4.2.1.2.1), (t4 7 (by omega) (by omega)).trans ((n4 7 (by omega)).trans k4.2.1.2.2)⟩, q4, t3, t2⟩
        have f4 : ¬ M4 6 = 0 := by rw [t4 6 (by omega) (by omega)]; exact f3
        rw [h88 false (hbadsee (by rw [k0]; decide)), if_neg (by decide)]
        refine ⟨_, (M4, w1), rfl, fun m hm => by rw [zloop_peel (by omega) hst]; exact hone _ _ h12 (m - 1) (by omega), ?_⟩
        exact M_pack hT h13 hkq hwf h56 hct hl (Or.inr hpe) (((hkp.t k5).t (fun i i4 _ _ _ _ _ => n4 i i4)).t (fun i i4 _ _ _ i10 _ => t4 i i4 i10)) hw1 (fun _ _ _ => rfl) (Or.inl rfl) (fun z => absurd z.2.1.2.1 f4)
  · right
    obtain ⟨a, ha, h4⟩ := f1.2.2
    obtain ⟨M4, q4, t1, t2, t3, t4⟩ := h76b M1 w1 l a f1.2.1.1 h4 ha f0
    have h12 : mmonthsRead_12 n tq (nI l, zb b, M1, w1) = some (.inr (M4, w1)) := by
      unfold mmonthsRead_12
      dsimp only
      rw [m_fine, Option.bind_some, if_neg (dneg f0), t1]; rfl
    have hbd : BD L F M4 := ⟨f1.1, ⟨(t4 3 (by omega) (by omega)).trans f1.2.1.1, (t4 6 (by omega) (by omega)).trans f1.2.1.2.1, (t4 7 (by omega) (by omega)).trans f1.2.1.2.2⟩, q4, t3, t2⟩
    rw [h21, if_neg (show ¬ F 1 = 3 by rw [f1.1.2.1]; decide), ite_self, h88 false (hbadsee (by rw [f1.1.2.1]; decide)), if_neg (by decide)]
    refine ⟨_, (M4, w1), rfl, fun m hm => hone _ _ h12 m (by omega), ?_⟩
    exact M_pack hT h13 hkq hwf h56 hct hl (Or.inl (Or.inr hbd)) (hkp.t (fun i i4 _ _ _ i10 _ => t4 i i4 i10)) hw1 (fun _ _ _ => rfl) (Or.inl rfl) (fun z => (not_both z hbd).elim)
