/-! ===== calls: days and dates ===== -/
theorem c_days {d : vDes} (hd : vOk d) {y : Int} (hy : -200002 ≤ y ∧ y ≤ 200002) {n : Nat} (hn : 7 ≤ n) : k_daysOf n d (iI y) = some (iI (dys d y)) := by
  unfold k_daysOf k_yearDays
  rw [c_leap hd.2.1 hy hn, Option.bind_some]
  unfold dys dLe
  cases lLeap d.2.1 y
  · show some d.1.1 = _
    rw [if_neg (by decide), Int.add_zero, iI_of]
  · show some (d.1.1 + d.1.2.1) = _
    rw [if_pos rfl, ← iI_add, iI_of, iI_of]
theorem m_days {d : vDes} (hd : vOk d) {w : Nat → Int32} {b : Nat} (hb : b ≤ 35360) (hw : DR d w b) {y : Int} (hy : -200002 ≤ y ∧ y ≤ 200002) {n : Nat} (hn : 7 ≤ n) : mdaysOf n w (iI (b : Int)) (iJ y) = some (iI (dys d y)) := by
  unfold mdaysOf
  rw [zck_t (watz b 1 (by omega)), m_leap hd.2.1 hb hw.2.2.2.2.2.2.2.2.1 hy hn, Option.bind_some, zck_t (watz b 2 (by omega)), wat b 1 (by omega), wat b 2 (by omega), hw.2.1, hw.2.2.1]
  unfold dys dLe
  cases lLeap d.2.1 y
  · rw [if_neg (by decide), if_neg (by decide), Int.add_zero, iI_of, Int32.add_zero]
  · rw [if_pos rfl, if_pos rfl, ← iI_add, iI_of, iI_of]
theorem hc_number : HC_number Inv := by
  intro A tp dv cs cv jv bo hg lw sb F G tq w oc z0 z1 z2 h
  have hn := hn_f
  unfold l_number mnumber
  rcases atD h.2.2.1 z0 with ⟨h1, h2⟩ | ⟨s, d, hs, rfl, hdv, h1, h2, h3, hd, hw⟩
  · rw [h1, h2]; exact ⟨_, _, rfl, rfl, rfl, h.thr⟩
  · obtain ⟨y, hy, rfl⟩ := ex32 z1
    obtain ⟨x, hx, rfl⟩ := ex32 z2
    simp only [h1, h2, h3, Option.bind_some, zO_s, ↓reduceIte, iI_J hy, iI_J hx, m_isYear (b32_64 hy), c_isYear hy]
    by_cases q : -100000 ≤ y ∧ y ≤ 100000
    · have hdb := dys_bd hd y
      rw [if_pos (decide_eq_true q), if_pos (decide_eq_true q), m_days hd (by omega) hw ⟨by omega, by omega⟩ (by omega), Option.bind_some, show (iI (dys d y) - 1 : Int32) = iI (dys d y - 1) from iI_sub _ 1, iI_J ⟨by omega, by omega⟩, show (0 : Int64) = iJ 0 by decide +kernel, m_isIn (b32_64 hx) ⟨by omega, by omega⟩ ⟨by omega, by omega⟩, Option.bind_some, m_start hd (by omega) hw ⟨by omega, by omega⟩ (by omega), Option.bind_some, c_days hd ⟨by omega, by omega⟩ (by omega), Option.bind_some, c_start hd ⟨by omega, by omega⟩ (by omega), Option.bind_some, if_c (show (iI x < (0 : Int32)) = (x < 0) from iI_lt (b := 0) hx ⟨by omega, by omega⟩), if_c (iI_lt hx ⟨by omega, by omega⟩)]
      by_cases p : 0 ≤ x ∧ x ≤ dys d y - 1
      · rw [if_pos (decide_eq_true p), if_neg (by omega), if_pos (by omega)]
        exact ⟨_, _, rfl, rfl, rfl, h.thr⟩
      · rw [if_neg (dneg p)]
        by_cases p2 : x < 0
        · rw [if_pos p2]; exact ⟨_, _, rfl, rfl, rfl, h.thr⟩
        · rw [if_neg p2, if_neg (by omega)]; exact ⟨_, _, rfl, rfl, rfl, h.thr⟩
    · rw [if_neg (dneg q), if_neg (dneg q)]
      exact ⟨_, _, rfl, rfl, rfl, h.thr⟩
theorem m_in4 {x : Int} (hx : b32 x) : misIn (iJ x) 0 4 = some (decide (0 ≤ x ∧ x ≤ 4)) := by
  rw [show (0 : Int64) = iJ 0 by decide +kernel, show (4 : Int64) = iJ 4 by decide +kernel]
  exact m_isIn (b32_64 hx) ⟨by omega, by omega⟩ ⟨by omega, by omega⟩
theorem hc_date : HC_date Inv := by
  intro A tp dv cs cv jv bo hg lw sb F G tq w oc z0 z1 z2 h
  have hn := hn_f
  unfold l_date mdate
  rcases atD h.2.2.1 z0 with ⟨h1, h2⟩ | ⟨s, d, hs, rfl, hdv, h1, h2, h3, hd, hw⟩
  · rw [h1, h2]; exact ⟨_, _, rfl, rfl, rfl, h.thr⟩
  · obtain ⟨x, hx, rfl⟩ := ex64 z1
    obtain ⟨k, hk, rfl⟩ := ex32 z2
    obtain ⟨r, g1, g2⟩ := m_isDay hd (b := 442 * s) (by omega) hw hx (n := fuel) (by omega)
    simp only [h1, h2, h3, Option.bind_some, zO_s, ↓reduceIte, iI_J hk, m_in4 hk, g1]
    by_cases q : hol d x
    · rw [if_pos (g2.mpr q)]
      by_cases p : 0 ≤ k ∧ k ≤ 4
      · obtain ⟨r, -, e1, e2, -⟩ := cm_date hd (by omega) hw q p hn
        rw [if_pos (decide_eq_true p), e1, e2]
        exact ⟨_, _, rfl, rfl, rfl, h.thr⟩
      · rw [if_neg (dneg p), c_tell_wh hd hx hk p hn]
        exact ⟨_, _, rfl, rfl, rfl, h.thr⟩
    · rw [if_neg (fun z => q (g2.mp z)), c_tell_no hd hx q _ (by omega)]
      exact ⟨_, _, rfl, rfl, rfl, h.thr⟩
theorem hc_dated : HC_dated Inv := by
  intro A tp dv cs cv jv bo hg lw sb F G tq w oc z0 z1 z2 z3 h
  have hn := hn_f
  unfold l_dated mdated
  rcases atD h.2.2.1 z0 with ⟨h1, h2⟩ | ⟨s, d, hs, rfl, hdv, h1, h2, h3, hd, hw⟩
  · rw [h1, h2]; exact ⟨_, _, rfl, rfl, rfl, h.thr⟩
  · obtain ⟨y, hy, rfl⟩ := ex32 z1
    obtain ⟨m, hm, rfl⟩ := ex32 z2
    obtain ⟨x, hx, rfl⟩ := ex32 z3
    obtain ⟨r, g1, g2⟩ := m_isDate hd (b := 442 * s) (by omega) hw (b32_64 hy) hm hx hn
    obtain ⟨g3, g4⟩ := c_numberOf hd hy hm hx hn
    simp only [h1, h2, h3, Option.bind_some, zO_s, ↓reduceIte, iI_J hy, g1]
    by_cases q : isDt d y m x
    · rw [if_pos (g2.mpr q), g3 q, m_numberOf hd (by omega) hw q.1 q.2.1 hx hn]
      exact ⟨_, _, rfl, rfl, rfl, h.thr⟩
    · rw [if_neg (fun z => q (g2.mp z)), g4 q]
      exact ⟨_, _, rfl, rfl, rfl, h.thr⟩
theorem hc_taken : HC_taken Inv := by
  intro A tp dv cs cv jv bo hg lw sb F G tq w oc z0 z1 z2 z3 z4 h
  have hn := hn_f
  unfold l_taken mtaken
  rcases atD h.2.2.1 z0 with ⟨h1, h2⟩ | ⟨s, d, hs, rfl, hdv, h1, h2, h3, hd, hw⟩
  · rw [h1, h2]
    rcases atD h.2.2.1 z2 with ⟨k1, k2⟩ | ⟨s', d', hs', rfl, hdv', k1, k2, k3, hd', hw'⟩
    · rw [k1]; exact ⟨_, _, rfl, rfl, rfl, h.thr⟩
    · rw [k1]; exact ⟨_, _, rfl, rfl, rfl, h.thr⟩
  · rcases atD h.2.2.1 z2 with ⟨k1, k2⟩ | ⟨s', d', hs', rfl, hdv', k1, k2, k3, hd', hw'⟩
    · rw [h1, h2, k1, k2]; exact ⟨_, _, rfl, rfl, rfl, h.thr⟩
    · obtain ⟨x, hx, rfl⟩ := ex64 z1
      obtain ⟨t, ht, rfl⟩ := ex32 z3
      obtain ⟨k, hk, rfl⟩ := ex32 z4
      obtain ⟨r, g1, g2⟩ := m_isDay hd (b := 442 * s) (by omega) hw hx (n := fuel) (by omega)
      obtain ⟨r', g3, g4⟩ := c_holds hd hx (n := fuel) (by omega)
      have hin : misIn (iJ t) (-1000000) 1000000 = some (decide (-1000000 ≤ t ∧ t ≤ 1000000)) := by
        rw [show (-1000000 : Int64) = iJ (-1000000) by decide +kernel, show (1000000 : Int64) = iJ 1000000 by decide +kernel]
        exact m_isIn (b32_64 ht) ⟨by omega, by omega⟩ ⟨by omega, by omega⟩
      simp only [h1, h2, h3, k1, k2, k3, Option.bind_some, zO_s, ↓reduceIte, iI_J ht, iI_J hk, m_in4 hk, g1, g3, hin, iJ_add]
      by_cases q : hol d x
      · have hxb := hol_bd hd q
        rw [if_pos (g2.mpr q), if_pos (g4.mpr q), show (-1000000 : Int32) = iI (-1000000) by decide +kernel, show (1000000 : Int32) = iI 1000000 by decide +kernel, if_c (iI_lt ht ⟨by omega, by omega⟩), if_c (iI_le ht ⟨by omega, by omega⟩)]
        by_cases p : -1000000 ≤ t ∧ t ≤ 1000000
        · rw [if_pos (decide_eq_true p), if_neg (by omega), if_pos p.2]
          have hb64 : b64 (x + t) := ⟨by omega, by omega⟩
          obtain ⟨r2, e1, e2⟩ := m_isDay hd' (b := 442 * s') (by omega) hw' hb64 (n := fuel) (by omega)
          rw [e1, Option.bind_some]
          by_cases p4 : 0 ≤ k ∧ k ≤ 4
          · rw [if_pos (decide_eq_true p4)]
            by_cases q2 : hol d' (x + t)
            · obtain ⟨r, -, i1, i2, -⟩ := cm_date hd' (by omega) hw' q2 p4 hn
              rw [if_pos (e2.mpr q2), i1, i2]
              exact ⟨_, _, rfl, rfl, rfl, h.thr⟩
            · rw [if_neg (fun z => q2 (e2.mp z)), c_tell_no hd' hb64 q2 _ (by omega)]
              exact ⟨_, _, rfl, rfl, rfl, h.thr⟩
          · rw [if_neg (dneg p4), c_tell_wh hd' hb64 hk p4 hn]
            exact ⟨_, _, rfl, rfl, rfl, h.thr⟩
        · rw [if_neg (dneg p)]
          by_cases p2 : t < -1000000
          · rw [if_pos p2]; exact ⟨_, _, rfl, rfl, rfl, h.thr⟩
          · rw [if_neg p2, if_neg (by omega)]; exact ⟨_, _, rfl, rfl, rfl, h.thr⟩
      · rw [if_neg (fun z => q (g2.mp z)), if_neg (fun z => q (g4.mp z))]
        exact ⟨_, _, rfl, rfl, rfl, h.thr⟩
theorem j_no {x : Int} (hx : -1000000000 ≤ x ∧ x ≤ 1000000000) : ¬ iJ x = (-1000000000000000 : Int64) := by
  rw [show (-1000000000000000 : Int64) = iJ (-1000000000000000) by decide +kernel, iJ_eq ⟨by omega, by omega⟩ ⟨by omega, by omega⟩]; omega
theorem hc_later : HC_later Inv := by
  intro A tp dv cs cv jv bo hg lw sb F G tq w oc z0 z1 z2 z3 z4 h
  have hn := hn_f
  unfold l_later mlater mlater_94
  rcases atD h.2.2.1 z0 with ⟨h1, h2⟩ | ⟨s, d, hs, rfl, hdv, h1, h2, h3, hd, hw⟩
  · rw [h1, h2]; exact ⟨_, _, rfl, rfl, rfl, h.thr⟩
  · obtain ⟨y, hy, rfl⟩ := ex32 z1
    obtain ⟨m, hm, rfl⟩ := ex32 z2
    obtain ⟨x, hx, rfl⟩ := ex32 z3
    obtain ⟨k, hk, rfl⟩ := ex32 z4
    obtain ⟨r, g1, g2⟩ := m_isDate hd (b := 442 * s) (by omega) hw (b32_64 hy) hm hx hn
    obtain ⟨g3, g4⟩ := c_numberOf hd hy hm hx hn
    have hb64 : b64 (y + k) := ⟨by have := hy.1; have := hk.1; omega, by have := hy.2; have := hk.2; omega⟩
    simp only [h1, h2, h3, Option.bind_some, zO_s, ↓reduceIte, iI_J hy, iI_J hk, iJ_add, g1, m_isYear hb64, iJ_I]
    by_cases q : isDt d y m x
    · have hh := hol_bd hd (numb_hol hd q)
      rw [if_pos (g2.mpr q), g3 q, Option.bind_some, if_neg (j_no ⟨by omega, by omega⟩), show (-100000 : Int64) = iJ (-100000) by decide +kernel, show (100000 : Int64) = iJ 100000 by decide +kernel, if_c (iJ_lt hb64 ⟨by omega, by omega⟩), if_c (iJ_le hb64 ⟨by omega, by omega⟩)]
      by_cases p : -100000 ≤ y + k ∧ y + k ≤ 100000
      · obtain ⟨⟨-, -⟩, hmm, hx0, hx1⟩ := id q
        obtain ⟨mm, hmm2⟩ : ∃ mm : Nat, m = mm := ⟨m.toNat, by omega⟩
        subst hmm2
        have h15 := hd.1.2.2.1
        have hbd := mdy_bd hd.1 (dLe d (y + k)) (m := mm) (by omega)
        rw [if_pos (decide_eq_true p), if_neg (by omega), if_pos p.2, c_leap hd.2.1 ⟨by omega, by omega⟩ (by omega), Option.bind_some, m_leap hd.2.1 (by omega) hw.2.2.2.2.2.2.2.2.1 ⟨by omega, by omega⟩ (by omega), Option.bind_some, show lLeap d.2.1 (y + k) = dLe d (y + k) from rfl, c_monthDays hd.1 _ (by omega), Option.bind_some, m_monthDays hd (by omega) hw _ (by omega), Option.bind_some, show (iI (mdy d.1 (dLe d (y + k)) mm) - 1 : Int32) = iI (mdy d.1 (dLe d (y + k)) mm - 1) from iI_sub _ 1, if_c (iI_le ⟨by omega, by omega⟩ hx)]
        unfold j_minI
        rw [if_c (iI_lt ⟨by omega, by omega⟩ hx)]
        have fin : ∀ x' : Int, 0 ≤ x' → x' < mdy d.1 (dLe d (y + k)) mm → k_numberOf fuel d (iI (y + k)) (iI (mm : Int)) (iI x') = some (iJ (numb d (y + k) mm x')) ∧ mnumberOf fuel w (iI ((442 * s : Nat) : Int)) (iJ (y + k)) (iI (mm : Int)) (iI x') = some (iJ (numb d (y + k) mm x')) := fun x' a1 a2 => by
          refine ⟨(c_numberOf hd ⟨by omega, by omega⟩ hm ⟨by omega, by omega⟩ hn).1 ⟨p, hmm, a1, by simpa using a2⟩, m_numberOf hd (by omega) hw p hmm ⟨by omega, by omega⟩ hn⟩
        by_cases t : mdy d.1 (dLe d (y + k)) mm - 1 ≤ x
        · obtain ⟨e1, e2⟩ := fin (mdy d.1 (dLe d (y + k)) mm - 1) (by omega) (by omega)
          rw [if_pos t, e2]
          by_cases t2 : mdy d.1 (dLe d (y + k)) mm - 1 < x
          · rw [if_pos t2, Option.bind_some, e1]; exact ⟨_, _, rfl, rfl, rfl, h.thr⟩
          · have : x = mdy d.1 (dLe d (y + k)) mm - 1 := by omega
            rw [if_neg t2, Option.bind_some, this, e1]; exact ⟨_, _, rfl, rfl, rfl, h.thr⟩
        · obtain ⟨e1, e2⟩ := fin x hx0 (by omega)
          rw [if_neg t, if_neg (by omega), Option.bind_some, e1, e2]
          exact ⟨_, _, rfl, rfl, rfl, h.thr⟩
      · rw [if_neg (dneg p)]
        by_cases p2 : y + k < -100000
        · rw [if_pos p2]; exact ⟨_, _, rfl, rfl, rfl, h.thr⟩
        · rw [if_neg p2, if_neg (by omega)]; exact ⟨_, _, rfl, rfl, rfl, h.thr⟩
    · rw [if_neg (fun z => q (g2.mp z)), g4 q, Option.bind_some, if_pos rfl]
      exact ⟨_, _, rfl, rfl, rfl, h.thr⟩
