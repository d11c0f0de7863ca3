/-! ===== calls: truth ===== -/
theorem LR_congrX {v : vLaw} (hv : lOk v) {w w' : Nat → Int32} {b b' : Nat} (h : ∀ k, k < 442 → ¬ (12 ≤ k ∧ k ≤ 16) → w' (b' + k) = w (b + k)) (hw : LR v w b) : LR v w' b' := by
  match v, hv, hw with
  | .inl _, _, hw => exact ⟨(h 3 (by omega) (by omega)).trans hw.1, (h 8 (by omega) (by omega)).trans hw.2⟩
  | .inr (.inl e), hv, hw => exact ⟨(h 3 (by omega) (by omega)).trans hw.1, (h 9 (by omega) (by omega)).trans hw.2.1, (h 10 (by omega) (by omega)).trans hw.2.2.1, (h 11 (by omega) (by omega)).trans hw.2.2.2.1, (h 8 (by omega) (by omega)).trans hw.2.2.2.2⟩
  | .inr (.inr (.inl a)), hv, hw =>
    refine ⟨(h 3 (by omega) (by omega)).trans hw.1, (h 17 (by omega) (by omega)).trans hw.2.1, fun i hi => ?_, (h 8 (by omega) (by omega)).trans hw.2.2.2⟩
    have h6 := hv.1
    have := h (18 + i) (by omega) (by omega)
    rw [← Nat.add_assoc, ← Nat.add_assoc] at this
    exact this.trans (hw.2.2.1 i hi)
  | .inr (.inr (.inr r)), hv, hw =>
    refine ⟨(h 3 (by omega) (by omega)).trans hw.1, (h 8 (by omega) (by omega)).trans hw.2.1, fun i hi => ?_⟩
    have h6 := hv.1
    have := h (40 + i) (by omega) (by omega)
    rw [← Nat.add_assoc, ← Nat.add_assoc] at this
    exact this.trans (hw.2.2 i hi)
theorem c_max1 {x : Int} (hx : b32 x) (h : 1 ≤ x) : j_maxI 1 (iI x) = some (iI x) := by
  unfold j_maxI
  rw [if_c (show ((1 : Int32) < iI x) = (1 < x) from iI_lt (a := 1) ⟨by omega, by omega⟩ hx)]
  by_cases q : 1 < x
  · rw [if_pos q]
  · rw [if_neg q, show x = 1 by omega]; rfl
theorem hc_truth : HC_truth Inv := by
  intro A tp dv cs cv jv bo hg lw sb F G tq w oc z0 z1 z2 z3 h
  have hn := hn_f
  obtain ⟨x, hx, rfl⟩ := ex32 z1
  obtain ⟨p, hp, rfl⟩ := ex32 z2
  obtain ⟨q, hq, rfl⟩ := ex32 z3
  unfold w_truth mtruth w_truth_45 w_truth_45N5 w_truth_46N5 w_truth_46
  rcases atD h.2.2.1 z0 with ⟨h1, h2⟩ | ⟨s, d, hs, rfl, hdv, h1, h2, h3, hd, hw⟩
  · simp only [h1, h2, Option.bind_some, zO_n, ite_self]
    exact ⟨_, _, rfl, rfl, rfl, h.thr⟩
  · have i1 : misIn (iI x).toInt64 0 999 = some (decide (0 ≤ x ∧ x ≤ 999)) := by
      rw [iI_J hx, show (0 : Int64) = iJ 0 by decide +kernel, show (999 : Int64) = iJ 999 by decide +kernel]
      exact m_isIn (b32_64 hx) ⟨by omega, by omega⟩ ⟨by omega, by omega⟩
    have i2 : misIn (iI q).toInt64 1 1000000 = some (decide (1 ≤ q ∧ q ≤ 1000000)) := by
      rw [iI_J hq, show (1 : Int64) = iJ 1 by decide +kernel, show (1000000 : Int64) = iJ 1000000 by decide +kernel]
      exact m_isIn (b32_64 hq) ⟨by omega, by omega⟩ ⟨by omega, by omega⟩
    simp only [h1, h2, h3, Option.bind_some, zO_s, ↓reduceIte, i1, i2]
    rw [if_c (show (iI x < (0 : Int32)) = (x < 0) from iI_lt (b := 0) hx ⟨by omega, by omega⟩), if_c (show ((999 : Int32) < iI x) = (999 < x) from iI_lt (a := 999) ⟨by omega, by omega⟩ hx), if_c (show (iI q < (1 : Int32)) = (q < 1) from iI_lt (b := 1) hq ⟨by omega, by omega⟩), if_c (show ((1000000 : Int32) < iI q) = (1000000 < q) from iI_lt (a := 1000000) ⟨by omega, by omega⟩ hq), if_c (show (iI p < (0 : Int32)) = (p < 0) from iI_lt (b := 0) hp ⟨by omega, by omega⟩), if_c (iI_le hq hp)]
    by_cases a1 : 0 ≤ x ∧ x ≤ 999
    · rw [if_pos (decide_eq_true a1), if_neg (by omega), if_neg (by omega)]
      by_cases a2 : 1 ≤ q ∧ q ≤ 1000000
      · have i3 : misIn (iI p).toInt64 0 (iI q - 1).toInt64 = some (decide (0 ≤ p ∧ p ≤ q - 1)) := by
          rw [show (iI q - 1 : Int32) = iI (q - 1) from iI_sub _ 1, iI_J hp, iI_J ⟨by omega, by omega⟩, show (0 : Int64) = iJ 0 by decide +kernel]
          exact m_isIn (b32_64 hp) ⟨by omega, by omega⟩ ⟨by omega, by omega⟩
        rw [if_pos (decide_eq_true a2), if_neg (by omega), if_neg (by omega), i3, Option.bind_some]
        by_cases a3 : 0 ≤ p ∧ p ≤ q - 1
        · rw [if_pos (decide_eq_true a3), if_neg (by omega), if_neg (by omega), if_neg (show ¬ (1 : Int32) = 0 by decide)]
          obtain ⟨c, e, S, ⟨s1a, s1b⟩, ⟨a8, f14, a7⟩, hU⟩ := h.2.2.2.1
          obtain ⟨t1, t2, t3, t4, t5⟩ := hd.2.2
          have hnew : k_withLength d.2.2 (iI x) (iI p) (iI q) = some (iI x, iI p, iI q, d.2.2.2.2.2.1, d.2.2.2.2.2.2) := by
            unfold k_withLength k_newTrue
            have := c_max1 (x := d.2.2.2.2.2.2.toInt) (i_b32 _) (by omega)
            rw [iI_of] at this
            rw [c_max1 hq (by omega), Option.bind_some, this]; rfl
          obtain ⟨A', k1, k2, k3, k4⟩ := c_change (dv := dv) (cs := cs) (cv := cv) hs s1a s1b a7 a8 (some (d.1, d.2.1, iI x, iI p, iI q, d.2.2.2.2.2.1, d.2.2.2.2.2.2))
          obtain ⟨F', w', ε, m1, m2, m3, m4, m5, m6, m7⟩ := m_changes (F := upd F 0 0) (w := w) s1a (show (upd F 0 0) 14 = nI c from f14) hn
          have hvk : vOk (d.1, d.2.1, iI x, iI p, iI q, d.2.2.2.2.2.1, d.2.2.2.2.2.2) := by
            refine ⟨hd.1, hd.2.1, ?_⟩
            unfold tOk
            dsimp only
            rw [iI_to hx, iI_to hp, iI_to hq]
            exact ⟨a1, a2, ⟨by omega, by omega⟩, t4, t5⟩
          have hat : ∀ k, k ≠ 12 → k ≠ 13 → k ≠ 14 → upd (upd (upd w' (442 * s + 12) (iI x)) (442 * s + 13) (iI p)) (442 * s + 14) (iI q) (442 * s + k) = w' (442 * s + k) := fun k g1 g2 g3 => by rw [upd_ne (by omega), upd_ne (by omega), upd_ne (by omega)]
          have hlo : ∀ k, k < 442 → w' (442 * s + k) = w (442 * s + k) := fun k hk => m5 _ (by omega)
          have hDR : DR (d.1, d.2.1, iI x, iI p, iI q, d.2.2.2.2.2.1, d.2.2.2.2.2.2) (upd (upd (upd w' (442 * s + 12) (iI x)) (442 * s + 13) (iI p)) (442 * s + 14) (iI q)) (442 * s) := by
            obtain ⟨w0, w1, w2, w4, w5, w6, w7, w24, wl, w12, w13, w14, w15, w16⟩ := DR_congr hd hlo hw
            refine ⟨(hat 0 (by omega) (by omega) (by omega)).trans w0, (hat 1 (by omega) (by omega) (by omega)).trans w1, (hat 2 (by omega) (by omega) (by omega)).trans w2, (hat 4 (by omega) (by omega) (by omega)).trans w4, (hat 5 (by omega) (by omega) (by omega)).trans w5, (hat 6 (by omega) (by omega) (by omega)).trans w6, (hat 7 (by omega) (by omega) (by omega)).trans w7, fun i hi => ?_, LR_congrX hd.2.1 (fun k hk1 hk2 => hat k (by omega) (by omega) (by omega)) wl, ?_, ?_, upd_at, (hat 15 (by omega) (by omega) (by omega)).trans w15, (hat 16 (by omega) (by omega) (by omega)).trans w16⟩
            · have := hat (24 + i) (by omega) (by omega) (by omega)
              rw [← Nat.add_assoc] at this
              exact this.trans (w24 i hi)
            · rw [upd_ne (by omega), upd_ne (by omega), upd_at]
            · rw [upd_ne (by omega), upd_at]
          have hI := h.chg (o := some (d.1, d.2.1, iI x, iI p, iI q, d.2.2.2.2.2.1, d.2.2.2.2.2.2)) (w' := upd (upd (upd w' (442 * s + 12) (iI x)) (442 * s + 13) (iI p)) (442 * s + 14) (iI q)) hs s1a s1b hU m2 k2 (by rw [m2]; exact k3) k4 m3 (fun i h1 h2 => (m4 i h1).trans (upd_ne h2)) (fun i i1 i2 _ => by rw [upd_ne (by omega), upd_ne (by omega), upd_ne (by omega)]; exact m5 i i1) (fun k hk => by rw [upd_ne (by omega), upd_ne (by omega), upd_ne (by omega)]; exact m6 k hk) (fun j hj k hk => by rw [upd_ne (by omega), upd_ne (by omega), upd_ne (by omega)]; exact m7 j hj k hk) ⟨hvk, hDR⟩
          unfold k_withTrueYear k_newDes
          simp only [hnew, Option.bind_some, k1, m1, zck_t (watz (442 * s) 12 (by omega)), zck_t (watz (442 * s) 13 (by omega)), zck_t (watz (442 * s) 14 (by omega)), wat (442 * s) 12 (by omega), wat (442 * s) 13 (by omega), wat (442 * s) 14 (by omega)]
          exact ⟨_, _, rfl, rfl, rfl, hI⟩
        · rw [if_neg (dneg a3)]
          by_cases a4 : p < 0
          · rw [if_pos a4]; exact ⟨_, _, rfl, rfl, rfl, h.thr⟩
          · rw [if_neg a4, if_pos (by omega)]; exact ⟨_, _, rfl, rfl, rfl, h.thr⟩
      · rw [if_neg (dneg a2)]
        by_cases a4 : q < 1
        · rw [if_pos a4]; exact ⟨_, _, rfl, rfl, rfl, h.thr⟩
        · rw [if_neg a4, if_pos (by omega)]; exact ⟨_, _, rfl, rfl, rfl, h.thr⟩
    · rw [if_neg (dneg a1)]
      by_cases a4 : x < 0
      · rw [if_pos a4]; exact ⟨_, _, rfl, rfl, rfl, h.thr⟩
      · rw [if_neg a4, if_pos (by omega)]; exact ⟨_, _, rfl, rfl, rfl, h.thr⟩
