/-! ===== calls: join ===== -/
theorem updL_at {f : Nat → Int64} {i : Nat} {x : Int64} : vp_updL f i x i = x := by simp [vp_updL]
theorem updL_ne {f : Nat → Int64} {i j : Nat} {x : Int64} (h : j ≠ i) : vp_updL f i x j = f j := by simp [vp_updL, h]
theorem hc_join : HC_join Inv := by
  intro A tp dv cs cv jv bo hg lw sb F G tq w oc z0 z1 z2 z3 z4 z5 h
  have hn := hn_f
  unfold w_join mjoin
  rcases atD h.2.2.1 z0 with ⟨h1, h2⟩ | ⟨s, d, hs, rfl, hdv, h1, h2, h3, hd, hw⟩
  · rw [h1, h2]
    rcases atD h.2.2.1 z2 with ⟨k1, k2⟩ | ⟨s', d', hs', rfl, hdv', k1, k2, k3, hd', hw'⟩
    · rw [k1]; exact ⟨_, _, rfl, rfl, rfl, h.thr⟩
    · rw [k1]; exact ⟨_, _, rfl, rfl, rfl, h.thr⟩
  · rcases atD h.2.2.1 z2 with ⟨k1, k2⟩ | ⟨s', d', hs', rfl, hdv', k1, k2, k3, hd', hw'⟩
    · rw [h1, h2, k1, k2]; exact ⟨_, _, rfl, rfl, rfl, h.thr⟩
    · obtain ⟨x, hx, rfl⟩ := ex64 z1
      obtain ⟨y, hy, rfl⟩ := ex32 z3
      obtain ⟨m, hm, rfl⟩ := ex32 z4
      obtain ⟨t, ht, rfl⟩ := ex32 z5
      obtain ⟨r, g1, g2⟩ := m_isDay hd (b := 442 * s) (by omega) hw hx (n := fuel) (by omega)
      obtain ⟨r', g3, g4⟩ := c_holds hd hx (n := fuel) (by omega)
      obtain ⟨r2, i1, i2⟩ := m_isDate hd' (b := 442 * s') (by omega) hw' (b32_64 hy) hm ht hn
      obtain ⟨n1, n2⟩ := c_numberOf hd' hy hm ht hn
      obtain ⟨w1, c1, c2, c3⟩ := m_copies (w := w) (to := 3094) (fr := 442 * s) (by omega) (by omega) (by omega) hn
      obtain ⟨w2, c4, c5, c6⟩ := m_copies (w := w1) (to := 3536) (fr := 442 * s') (by omega) (by omega) (by omega) hn
      rw [← b3094] at c1
      rw [← b3536] at c4
      simp only [h1, h2, h3, k1, k2, k3, Option.bind_some, zO_s, ↓reduceIte, iI_J hy, g1, g3, i1, c1, c4]
      by_cases q : hol d x
      · rw [if_pos (g2.mpr q), if_pos (g4.mpr q)]
        have bx := hol_bd hd q
        by_cases p : isDt d' y m t
        · have hh := numb_hol hd' p
          have bh := hol_bd hd' hh
          have D1 : DR d w2 3094 := DR_congr hd (fun k hk => (c6 _ (by omega)).trans (c2 k hk)) hw
          have D2 : DR d' w2 3536 := DR_congr hd' (fun k hk => (c5 k hk).trans (c3 _ (by omega))) hw'
          have hnum := m_numberOf hd' (b := 3536) (by omega) D2 p.1 p.2.1 ht hn
          rw [← b3536] at hnum
          rw [if_pos (i2.mpr p), n1 p, hnum, Option.bind_some, Option.bind_some, if_neg (j_no ⟨by omega, by omega⟩), iJ_sub]
          unfold k_newJoint
          refine ⟨_, _, rfl, rfl, rfl, ?_⟩
          obtain ⟨⟨t0, t1, t2, t3, t4⟩, ⟨f1, f2⟩, d1, ⟨c, e, S, s1, ⟨s2, s3, s4⟩, u1, u2⟩, j1, b1, ⟨b2, b3⟩, b4⟩ := h
          refine ⟨⟨t0, t1, t2, t3, t4⟩, ⟨f1, f2⟩, fun s0 hs0 => BR_congr (fun k hk => (c6 _ (by omega)).trans (c3 _ (by omega))) (d1 s0 hs0), ⟨c, e, S, s1, ⟨s2, s3, s4⟩, u1, fun j hj => ⟨(u2 j hj).1, fun s0 hs0 => BR_congr (fun k hk => (c6 _ (by omega)).trans (c3 _ (by omega))) ((u2 j hj).2 s0 hs0)⟩⟩, ⟨rfl, ⟨hd, D1⟩, ⟨hd', D2⟩, ⟨?_, ?_⟩, ?_, ?_⟩, b1, ⟨b2, b3⟩, b4⟩
          · show vp_updL (vp_updL G 21 (iJ x)) 22 (iJ (numb d' y m t - x)) 21 = iJ x
            rw [updL_ne (by omega), updL_at]
          · show vp_updL (vp_updL G 21 (iJ x)) 22 (iJ (numb d' y m t - x)) 22 = iJ (numb d' y m t - x)
            exact updL_at
          · show hol d (iJ x).toInt
            rw [iJ_to hx]; exact q
          · show hol d' ((iJ x).toInt + (iJ (numb d' y m t - x)).toInt)
            rw [iJ_to hx, iJ_to ⟨by omega, by omega⟩, show x + (numb d' y m t - x) = numb d' y m t by omega]; exact hh
        · rw [if_neg (fun z => p (i2.mp z)), n2 p]
          simp only [Option.bind_some, ↓reduceIte]
          exact ⟨_, _, rfl, rfl, rfl, h.thr⟩
      · rw [if_neg (fun z => q (g2.mp z)), if_neg (fun z => q (g4.mp z))]
        exact ⟨_, _, rfl, rfl, rfl, h.thr⟩
