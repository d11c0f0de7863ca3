/-! ===== calls: shift ===== -/
theorem hc_shift : HC_shift Inv := by
  intro A tp dv cs cv jv bo hg lw sb F G tq w oc z0 z1 h
  have hn := hn_f
  obtain ⟨x, hx, rfl⟩ := ex32 z1
  unfold w_shift mshift
  rcases atD h.2.2.1 z0 with ⟨h1, h2⟩ | ⟨s, d, hs, rfl, hdv, h1, h2, h3, hd, hw⟩
  · rw [h1, h2]; exact ⟨_, _, rfl, rfl, rfl, h.thr⟩
  · simp only [h1, h2, h3, Option.bind_some, zO_s, ↓reduceIte]
    rw [zck_t (watz (442 * s) 3 (by omega)), wat (442 * s) 3 (by omega)]
    obtain ⟨fr, law, ty⟩ := d
    have wl := hw.2.2.2.2.2.2.2.2.1
    dsimp only at wl ⊢
    match law, hd, hw, wl, hdv, h1 with
    | .inl _, hd, hw, wl, hdv, h1 => rw [wl.1]; exact ⟨_, _, rfl, rfl, rfl, h.thr⟩
    | .inr (.inr (.inl a)), hd, hw, wl, hdv, h1 => rw [wl.1]; exact ⟨_, _, rfl, rfl, rfl, h.thr⟩
    | .inr (.inr (.inr r)), hd, hw, wl, hdv, h1 => rw [wl.1]; exact ⟨_, _, rfl, rfl, rfl, h.thr⟩
    | .inr (.inl (k, m, t)), hd, hw, wl, hdv, h1 =>
      obtain ⟨l3, l9, l10, l11, l8⟩ := wl
      dsimp only at l9 l10 l11 l8
      obtain ⟨m, hm, rfl⟩ := ex32 m
      have hlo := hd.2.1
      simp only [lOk, iI_to hm] at hlo
      have i1 : misIn (iI x).toInt64 0 (iI m - 1).toInt64 = some (decide (0 ≤ x ∧ x ≤ m - 1)) := by
        rw [show (iI m - 1 : Int32) = iI (m - 1) from iI_sub _ 1, iI_J hx, iI_J ⟨by omega, by omega⟩, show (0 : Int64) = iJ 0 by decide +kernel]
        exact m_isIn (b32_64 hx) ⟨by omega, by omega⟩ ⟨by omega, by omega⟩
      rw [l3, if_pos rfl, zck_t (watz (442 * s) 10 (by omega)), wat (442 * s) 10 (by omega), l10, i1, Option.bind_some]
      show ∃ rx ry, (if iI x < 0 then some (-2, A, dv, cs, cv) else (if iI x < iI m then (k_newEven k (iI m) (iI x)).bind (fun v18 => (k_withLaw (fr, .inr (.inl (k, iI m, t)), ty) (.inr (.inl v18))).bind (fun v21 => (w_change A dv cs cv (iI (s : Int)) (some v21)).bind (fun v25 => some (t, v25.1, v25.2.1, v25.2.2.1, v25.2.2.2)))) else some (-2, A, dv, cs, cv))) = some rx ∧ _
      rw [if_c (show (iI x < (0 : Int32)) = (x < 0) from iI_lt (b := 0) hx ⟨by omega, by omega⟩), if_c (iI_lt hx hm)]
      by_cases a1 : 0 ≤ x ∧ x ≤ m - 1
      · rw [if_pos (decide_eq_true a1), if_neg (by omega), if_pos (by omega)]
        obtain ⟨c, e, S, ⟨s1a, s1b⟩, ⟨a8, f14, a7⟩, hU⟩ := h.2.2.2.1
        obtain ⟨A', k1, k2, k3, k4⟩ := c_change (dv := dv) (cs := cs) (cv := cv) hs s1a s1b a7 a8 (some (fr, .inr (.inl (k, iI m, iI x)), ty))
        obtain ⟨F', w', ε, m1, m2, m3, m4, m5, m6, m7⟩ := m_changes (F := upd F 0 0) (w := w) s1a (show (upd F 0 0) 14 = nI c from f14) hn
        have hvk : vOk (fr, .inr (.inl (k, iI m, iI x)), ty) := by
          refine ⟨hd.1, ?_, hd.2.2⟩
          show lOk (.inr (.inl (k, iI m, iI x)))
          simp only [lOk, iI_to hm, iI_to hx]
          exact ⟨hlo.1, hlo.2.1, by omega, by omega⟩
        have hat : ∀ j, j ≠ 11 → upd w' (442 * s + 11) (iI x) (442 * s + j) = w' (442 * s + j) := fun j g1 => upd_ne (by omega)
        have hlo2 : ∀ j, j < 442 → w' (442 * s + j) = w (442 * s + j) := fun j hj => m5 _ (by omega)
        have hDR : DR (fr, .inr (.inl (k, iI m, iI x)), ty) (upd w' (442 * s + 11) (iI x)) (442 * s) := by
          obtain ⟨w0, w1, w2, w4, w5, w6, w7, w24, wl, w12, w13, w14, w15, w16⟩ := DR_congr hd hlo2 hw
          refine ⟨(hat 0 (by omega)).trans w0, (hat 1 (by omega)).trans w1, (hat 2 (by omega)).trans w2, (hat 4 (by omega)).trans w4, (hat 5 (by omega)).trans w5, (hat 6 (by omega)).trans w6, (hat 7 (by omega)).trans w7, fun i hi => ?_, ⟨(hat 3 (by omega)).trans wl.1, (hat 9 (by omega)).trans wl.2.1, (hat 10 (by omega)).trans wl.2.2.1, upd_at, (hat 8 (by omega)).trans wl.2.2.2.2⟩, (hat 12 (by omega)).trans w12, (hat 13 (by omega)).trans w13, (hat 14 (by omega)).trans w14, (hat 15 (by omega)).trans w15, (hat 16 (by omega)).trans w16⟩
          have := hat (24 + i) (by omega)
          rw [← Nat.add_assoc] at this
          exact this.trans (w24 i hi)
        have hI := h.chg (o := some (fr, .inr (.inl (k, iI m, iI x)), ty)) (w' := upd w' (442 * s + 11) (iI x)) hs s1a s1b hU m2 k2 (by rw [m2]; exact k3) k4 m3 (fun i h1 h2 => (m4 i h1).trans (upd_ne h2)) (fun i i1 i2 _ => (upd_ne (by omega)).trans (m5 i i1)) (fun j hj => (upd_ne (by omega)).trans (m6 j hj)) (fun j hj j' hk => (upd_ne (by omega)).trans (m7 j hj j' hk)) ⟨hvk, hDR⟩
        unfold k_newEven k_withLaw k_newDes
        simp only [c_max1 hm (by omega), Option.bind_some, k1, m1, zck_t (watz (442 * s) 11 (by omega)), wat (442 * s) 11 (by omega)]
        exact ⟨_, _, rfl, rfl, ((hlo2 11 (by omega)).trans l11).symm, hI⟩
      · rw [if_neg (dneg a1)]
        by_cases a4 : x < 0
        · rw [if_pos a4]; exact ⟨_, _, rfl, rfl, rfl, h.thr⟩
        · rw [if_neg a4, if_neg (by omega)]; exact ⟨_, _, rfl, rfl, rfl, h.thr⟩
