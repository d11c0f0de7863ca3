/-! ===== design: months, the statement ===== -/
theorem st_months {tp tq : Nat → Int32} (hq : ∀ i, i < 800 → tq i = tp i) {L : Nat} (hL : L ≤ 800) {F M M0 w w0 R : Nat → Int32} {lv : vLaw} {mo : Option vArr} {ty : vTrue} {T : Nat} (hT : T < 128) (hs : SS tp L F M) (h13 : M 13 = nI (T ||| 2 ^ 3)) (hkq : KQ M0 M) (hwf : wfr w0 w) (h56 : W56 w) (hct : CT R lv mo ty w T) {n : Nat} (hn : 250000 ≤ n) : ∃ x y, r_readMonths n (upd R 1 (nI (T ||| 2 ^ 3))) mo F tp = some x ∧ zloop (mmonthsRead_12 n tq) n (0, 1, M, w) = some y ∧ PSP tp L M0 w0 (T ||| 2 ^ 3) (x.1, lv, x.2.1, ty, x.2.2) y := by
  have hr : ∀ v F1, n_takeNumber n F tp 1 999 = some (v, F1) → r_readMonths n (upd R 1 (nI (T ||| 2 ^ 3))) mo F tp = zloop (r_readMonths_21 n (upd R 1 (nI (T ||| 2 ^ 3))) mo tp 15) n (1, F1, upd (fun _ => 0) 0 v) := fun v F1 a1 => by
    unfold r_readMonths
    rw [zck_t (by decide +kernel), a1, Option.bind_some, zck_t (by decide +kernel)]
    rfl
  rcases SS_fine hs with ⟨f0, f1⟩ | ⟨f0, f1⟩
  · obtain ⟨v, v', F1, M1, a1, a2, a3, a4, a5, a6, a7⟩ := SS_number hq hL hs (lo := 1) (hi := 999) ⟨by omega, by omega⟩ ⟨by omega, by omega⟩ hn
    replace a1 : n_takeNumber n F tp 1 999 = some (v, F1) := a1
    replace a2 : mreads n M tq 1 999 = some (v', M1) := a2
    rw [hr v F1 a1]
    have h12 : mmonthsRead_12 n tq (0, 1, M, w) = mmonthsRead_47 n M1 tq w 0 v' := by
      unfold mmonthsRead_12
      dsimp only
      rw [m_fine, Option.bind_some, if_pos (decide_eq_true f0), if_neg (show ¬ (1 : Int32) = 0 by decide), a2, Option.bind_some]
      dsimp only
      rw [if_neg (show ¬ (0 : Int32) = 15 by decide)]
    have hgo : ∃ r, mmonthsRead_47 n M1 tq w 0 v' = some (.inl r) ∧ MHR tp tq L n M w (nI 1, F1, upd (fun _ => 0) 0 v) r := by
      unfold mmonthsRead_47
      rw [m_fine, Option.bind_some]
      rcases SS_fine a3 with ⟨e0, e1⟩ | ⟨e0, e1⟩
      · obtain ⟨z1, z2, V, z3, z4, z5⟩ := a6 e1
        subst z2
        rw [if_pos (decide_eq_true e0), zck_t (by decide +kernel), show ((2676 : Int32) + 0).toNatClampNeg = 2676 by decide +kernel]
        exact M_65 hq hL (M0 := M) (w0 := w) (l := 0) (ar := upd (fun _ => 0) 0 v) (w := upd w 2676 v) (by omega) a3 a4 (fun i hi => upd_ne (by omega)) (fun _ => ⟨by omega, fun i hi => by
          obtain rfl : i = 0 := by omega
          rw [upd_at, upd_at, z3, iI_to ⟨by omega, by omega⟩]; exact ⟨rfl, z4, z5⟩⟩) hn
      · rw [if_neg (dneg e0)]
        exact M_65 hq hL (M0 := M) (w0 := w) (l := 0) (ar := upd (fun _ => 0) 0 v) (w := w) (by omega) a3 a4 (fun i hi => rfl) (fun z => absurd z e0) hn
    obtain ⟨r, r1, r2⟩ := hgo
    obtain ⟨x, y, s1, s2, s3⟩ := zloop_sim3 (f := r_readMonths_21 n (upd R 1 (nI (T ||| 2 ^ 3))) mo tp 15) (g := mmonthsRead_12 n tq) (R := MHR tp tq L n M w) (S := fun (x : (Nat → Int32) × (Option vArr) × (Nat → Int32)) (y : (Nat → Int32) × (Nat → Int32)) => PSP tp L M0 w0 (T ||| 2 ^ 3) (x.1, lv, x.2.1, ty, x.2.2) y) (fun c => 17 - c.1.toNatClampNeg) (fun c r hR => M_step hq hL hT h13 hkq hwf h56 hct hn c r hR) n (n - 1) _ r r2 (by omega) (by omega)
    refine ⟨x, y, s1, ?_, s3⟩
    rw [zloop_peel (by omega) (h12.trans r1)]
    exact s2
  · have a1 : n_takeNumber n F tp 1 999 = some (0, F) := by
      unfold n_takeNumber n_fail
      rw [if_neg (show ¬ F 1 = 3 by rw [f1.1.2.1]; decide), if_neg f1.1.1, Option.bind_some, show upd F 1 0 = F by
        funext i
        by_cases t : i = 1
        · rw [t, upd_at, f1.1.2.1]
        · exact upd_ne t]
    rw [hr 0 F a1]
    obtain ⟨a, ha, h4⟩ := f1.2.2
    obtain ⟨M3, q, t1, t2, t3, t4⟩ := m_takesBad hq hL f1.2.1.1 h4 ha f0 398384 hn
    have f3 : ¬ M3 6 = 0 := by rw [t4 6 (by omega) (by omega)]; exact f0
    have h12 : mmonthsRead_12 n tq (0, 1, M, w) = some (.inr (M3, w)) := by
      unfold mmonthsRead_12 mmonthsRead_76 mmonthsRead_108
      dsimp only
      rw [m_fine, Option.bind_some, if_neg (dneg f0), show (4 : Int32) = nI 4 from rfl, m_lays (k := 4) (by omega), Option.bind_some, if_neg f0, t1, Option.bind_some, if_neg (show ¬ (false = true) by decide), show (5 : Int32) = nI 5 from rfl]
      dsimp only
      rw [m_lays (k := 5) (by omega), if_neg f3]; rfl
    have hbd : BD L F M3 := ⟨f1.1, ⟨(t4 3 (by omega) (by omega)).trans f1.2.1.1, (t4 6 (by omega) (by omega)).trans f1.2.1.2.1, (t4 7 (by omega) (by omega)).trans f1.2.1.2.2⟩, q, t3, t2⟩
    obtain ⟨f, s1, s2⟩ := c_first (N := 15) (l := 1) (by omega) (by omega) (upd (fun _ => 0) 0 (0 : Int32)) hn
    have h88 : r_readMonths_21 n (upd R 1 (nI (T ||| 2 ^ 3))) mo tp 15 (1, F, upd (fun _ => 0) 0 0) = some (.inr (upd (upd R 1 (nI (T ||| 2 ^ 3))) 6 (nI 1 - 1), some (if 1 ≤ 15 then 1 else 15, f), F)) := by
      unfold r_readMonths_21 r_readMonths_88
      dsimp only
      rw [if_neg (show ¬ F 1 = 3 by rw [f1.1.2.1]; decide), ite_self, show k_firstOf n (15, upd (fun _ => 0) 0 0) 1 = _ from s1, Option.bind_some, zO_s, show n_sees 4 (fun j => L_leap.getD j 0) n F tp = some false by unfold n_sees; rw [if_neg (show ¬ F 1 = 2 by rw [f1.1.2.1]; decide)], Option.bind_some, if_neg (by decide)]
      rfl
    have hone : ∀ (t : Int32 × Int32 × (Nat → Int32) × (Nat → Int32)) q, mmonthsRead_12 n tq t = some (.inr q) → zloop (mmonthsRead_12 n tq) n t = some q := fun t q ht => by
      obtain ⟨k, rfl⟩ : ∃ k, n = k + 1 := ⟨n - 1, by omega⟩
      rw [zloop, ht]
    have hone' : ∀ (t : Int32 × (Nat → Int32) × (Nat → Int32)) q, r_readMonths_21 n (upd R 1 (nI (T ||| 2 ^ 3))) mo tp 15 t = some (.inr q) → zloop (r_readMonths_21 n (upd R 1 (nI (T ||| 2 ^ 3))) mo tp 15) n t = some q := fun t q ht => by
      obtain ⟨k, rfl⟩ : ∃ k, n = k + 1 := ⟨n - 1, by omega⟩
      rw [zloop, ht]
    refine ⟨_, _, hone' _ _ h88, hone _ _ h12, ?_⟩
    exact M_pack hT h13 hkq hwf h56 hct (l := 1) ⟨by omega, by omega⟩ (Or.inl (Or.inr hbd)) (fun i i4 _ _ _ i10 _ => t4 i i4 i10) (fun _ _ => rfl) (fun _ _ _ => rfl) (Or.inl rfl) (fun z => (not_both z hbd).elim)
