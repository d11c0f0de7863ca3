/-! ===== calls: month, has, count; joined, often, span ===== -/
theorem zb_dec (z : Int32) : (zb (decide (¬ z = 0)) = (0 : Int32)) = (z = 0) := by
  by_cases q : z = 0
  · rw [decide_eq_false (fun h => h q)]; exact propext ⟨fun _ => q, fun _ => rfl⟩
  · rw [decide_eq_true q]; exact propext ⟨fun h => absurd h (by decide), fun h => absurd h q⟩
theorem k_md_z (f : vFrame) (x z : Int32) : k_monthDays f x z = k_monthDays f x (zb (decide (¬ z = 0))) := by
  unfold k_monthDays
  simp only [zb_dec]
theorem m_md_z (w : Nat → Int32) (b x z : Int32) : mmonthDays w b x z = mmonthDays w b x (zb (decide (¬ z = 0))) := by
  unfold mmonthDays
  simp only [zb_dec]
theorem hc_month : HC_month Inv := by
  intro A tp dv cs cv jv bo hg lw sb F G tq w oc z0 z1 z2 h
  unfold l_month mmonth
  rcases atD h.2.2.1 z0 with ⟨h1, h2⟩ | ⟨s, d, hs, rfl, hdv, h1, h2, h3, hd, hw⟩
  · rw [h1, h2]; exact ⟨_, _, rfl, rfl, rfl, h.thr⟩
  · obtain ⟨m, hm, rfl⟩ := ex32 z1
    simp only [h1, h2, h3, Option.bind_some, zO_s, ↓reduceIte, c_hasMonth hd.1 hm, m_isMonth hd (show 442 * s ≤ 35360 by omega) hw hm]
    by_cases q : 0 ≤ m ∧ m < d.1.2.2.1.1
    · obtain ⟨k, hk⟩ : ∃ k : Nat, m = k := ⟨m.toNat, by omega⟩
      subst hk
      rw [if_pos (decide_eq_true q), if_pos (decide_eq_true q), k_md_z, m_md_z, c_monthDays hd.1 _ (by omega), m_monthDays hd (by omega) hw _ (by omega)]
      exact ⟨_, _, rfl, rfl, rfl, h.thr⟩
    · rw [if_neg (dneg q), if_neg (dneg q)]
      exact ⟨_, _, rfl, rfl, rfl, h.thr⟩
theorem hc_count : HC_count Inv := by
  intro A tp dv cs cv jv bo hg lw sb F G tq w oc z0 h
  have hn := hn_f
  have hD := h.2.2.1
  obtain ⟨c, e, S, s1, ⟨s2, s3, s4⟩, s5⟩ := h.2.2.2.1
  unfold w_count mcount
  by_cases q : z0 = 0
  · rw [if_pos q, if_pos q]
    have hl : ∃ r r', w_designsThere fuel dv = some r ∧ mhowMany fuel w = some r' ∧ r = r' := by
      unfold w_designsThere mhowMany
      refine zloop_sim (R := fun s t => ∃ i : Nat, i ≤ 6 ∧ s.2 = iI (i : Int) ∧ t = s) (fun s => 6 - s.2.toNatClampNeg) ?_ fuel fuel (0, 0) (0, 0) ⟨0, by omega, rfl, rfl⟩ (by show 6 - (iI 0).toNatClampNeg < fuel; omega) (by show 6 - (iI 0).toNatClampNeg < fuel; omega)
      rintro ⟨a, b⟩ t ⟨i, hi, hb, rfl⟩
      dsimp only at hb
      subst hb
      unfold w_designsThere_4 mhowMany_4 w_designsThere_22
      dsimp only
      rw [if_c (show ((6 : Int32) ≤ iI (i : Int)) = (6 ≤ (i : Int)) from iI_le (a := 6) ⟨by omega, by omega⟩ ⟨by omega, by omega⟩), if_c (show ((6 : Int32) ≤ iI (i : Int)) = (6 ≤ (i : Int)) from iI_le (a := 6) ⟨by omega, by omega⟩ ⟨by omega, by omega⟩)]
      by_cases p : 6 ≤ (i : Int)
      · right; rw [if_pos p, if_pos p]; exact ⟨_, _, rfl, rfl, rfl⟩
      · left
        have hb : mbank (iI (i : Int)) = some (iI ((442 * i : Nat) : Int)) := by
          unfold mbank
          rw [show (442 : Int32) = iI 442 by decide +kernel, iI_mul]; congr 2
        rw [if_neg p, if_neg p, hb, Option.bind_some, zck_t (watz (442 * i) 0 (by omega)), wat (442 * i) 0 (by omega), zck_t (iI_zin (by omega) (by omega) (by omega)), iI_nat (by omega) (by omega), Int.toNat_natCast, show (iI (i : Int) + 1 : Int32) = iI ((i + 1 : Nat) : Int) from iI_add _ 1]
        have hB := hD i (by omega)
        have hμ : 6 - (iI ((i + 1 : Nat) : Int)).toNatClampNeg < 6 - i := by rw [iI_nat (by omega) (by omega)]; omega
        cases hd : dv i with
        | none =>
          rw [hd] at hB
          rw [show w (442 * i + 0) = 0 from hB, Int32.add_zero]
          exact ⟨_, _, rfl, rfl, ⟨i + 1, by omega, rfl, rfl⟩, hμ⟩
        | some d =>
          rw [hd] at hB
          rw [show w (442 * i + 0) = 1 from hB.2.1]
          exact ⟨_, _, rfl, rfl, ⟨i + 1, by omega, rfl, rfl⟩, hμ⟩
    obtain ⟨r, r', e1, e2, e3⟩ := hl
    rw [e1, e2]
    exact ⟨_, _, rfl, rfl, e3, h.thr⟩
  · rw [if_neg q, if_neg q]
    by_cases p : z0 = 1
    · rw [if_pos p, if_pos p]
      exact ⟨_, _, rfl, rfl, s2.trans s3.symm, h.thr⟩
    · rw [if_neg p, if_neg p]
      exact ⟨_, _, rfl, rfl, rfl, h.thr⟩
theorem b3094 : (3094 : Int32) = iI ((3094 : Nat) : Int) := by decide +kernel
theorem b3536 : (3536 : Int32) = iI ((3536 : Nat) : Int) := by decide +kernel
theorem hc_joined : HC_joined Inv := by
  intro A tp dv cs cv jv bo hg lw sb F G tq w oc z0 z1 h
  have hn := hn_f
  have hJ := h.2.2.2.2.1
  unfold w_joined mjoined
  rw [show (upd F 0 0) 20 = F 20 from rfl]
  cases jv with
  | none =>
    rw [show F 20 = 0 from hJ]
    exact ⟨_, _, rfl, rfl, rfl, h.thr⟩
  | some v =>
    obtain ⟨d, d', sm, ah⟩ := v
    obtain ⟨j1, ⟨o1, r1⟩, ⟨o2, r2⟩, ⟨g21, g22⟩, hs, ha⟩ := hJ
    dsimp only at j1 o1 r1 o2 r2 g21 g22 hs ha
    obtain ⟨x, hx, rfl⟩ := ex64 z0
    obtain ⟨k, hk, rfl⟩ := ex32 z1
    obtain ⟨sm, hsm, rfl⟩ := ex64 sm
    obtain ⟨ah, hah, rfl⟩ := ex64 ah
    rw [iJ_to hsm] at hs
    rw [iJ_to hsm, iJ_to hah] at ha
    have bs := hol_bd o1 hs
    have ba := hol_bd o2 ha
    unfold k_jtellDate
    rw [j1, if_neg (by decide), g21, g22, b3094, b3536]
    obtain ⟨r, e1, e2⟩ := m_isDay o1 (b := 3094) (by omega) r1 hx (n := fuel) (by omega)
    obtain ⟨r', e3, e4⟩ := c_holds o1 hx (n := fuel) (by omega)
    simp only [Option.bind_some, zO_s, iI_J hk, m_in4 hk, e1, e3, iJ_add]
    rw [if_c (iJ_le hsm hx), if_c (iJ_le hsm hx)]
    by_cases q : hol d x
    · have bx := hol_bd o1 q
      have hb64 : b64 (x + ah) := ⟨by omega, by omega⟩
      obtain ⟨r2', e5, e6⟩ := m_isDay o2 (b := 3536) (by omega) r2 hb64 (n := fuel) (by omega)
      rw [if_pos (e2.mpr q), if_pos (e2.mpr q), if_pos (e4.mpr q), e5, Option.bind_some]
      by_cases p : 0 ≤ k ∧ k ≤ 4
      · rw [if_pos (decide_eq_true p)]
        obtain ⟨v1, vb1, i1, i2, i3⟩ := cm_date o1 (b := 3094) (by omega) r1 q p hn
        by_cases t : sm ≤ x
        · rw [if_pos t, if_pos t]
          by_cases q2 : hol d' (x + ah)
          · obtain ⟨v2, vb2, i4, i5, i6⟩ := cm_date o2 (b := 3536) (by omega) r2 q2 p hn
            rw [if_pos (e6.mpr q2), i1, i4, i5, m_weekday o1 (by omega) r1 ⟨by omega, by omega⟩]
            simp only [Option.bind_some]
            rw [if_neg (j_no ⟨by omega, by omega⟩), if_c (show (iI k = (4 : Int32)) = (k = 4) from iI_eq (b := 4) hk ⟨by omega, by omega⟩), if_c (show (iI k = (4 : Int32)) = (k = 4) from iI_eq (b := 4) hk ⟨by omega, by omega⟩)]
            by_cases p4 : k = 4
            · rw [if_pos p4, if_pos p4, i3 p4, iI_J ⟨by have := i3 p4; omega, by have := i3 p4; omega⟩]
              exact ⟨_, _, rfl, rfl, rfl, h.thr⟩
            · rw [if_neg p4, if_neg p4]
              exact ⟨_, _, rfl, rfl, rfl, h.thr⟩
          · rw [if_neg (fun z => q2 (e6.mp z)), c_tell_no o2 hb64 q2 _ (by omega)]
            simp only [Option.bind_some, ↓reduceIte]
            exact ⟨_, _, rfl, rfl, rfl, h.thr⟩
        · rw [if_neg t, if_neg t, i1, i2]
          exact ⟨_, _, rfl, rfl, rfl, h.thr⟩
      · rw [if_neg (dneg p), c_tell_wh o1 hx hk p hn, c_tell_wh o2 hb64 hk p hn]
        simp only [Option.bind_some, ↓reduceIte, ite_self]
        exact ⟨_, _, rfl, rfl, rfl, h.thr⟩
    · rw [if_neg (fun z => q (e2.mp z)), if_neg (fun z => q (e2.mp z)), if_neg (fun z => q (e4.mp z))]
      simp only [ite_self]
      exact ⟨_, _, rfl, rfl, rfl, h.thr⟩
/-- the two first days, on both sides -/
theorem j_early {v : vJoint} {w : Nat → Int32} {G : Nat → Int64} (o1 : vOk v.1) (r1 : DR v.1 w 3094) (g21 : G 21 = v.2.2.1) (hs : hol v.1 v.2.2.1.toInt) {y m x : Int} (hy : b32 y) (hm : b32 m) (hx : b32 x) {n : Nat} (hn : 250000 ≤ n) : (∃ t : Int, (-1000000000 ≤ t ∧ t ≤ 1000000000) ∧ k_jearlyDay n v (iI y) (iI m) (iI x) = some (iJ t) ∧ misAhead n G w (iI y) (iI m) (iI x) = some true ∧ mnumberOf n w 3094 (iI y).toInt64 (iI m) (iI x) = some (iJ t)) ∨ (k_jearlyDay n v (iI y) (iI m) (iI x) = some (-1000000000000000) ∧ misAhead n G w (iI y) (iI m) (iI x) = some false) := by
  obtain ⟨d, d', sm, ah⟩ := v
  dsimp only at o1 r1 g21 hs
  obtain ⟨sm, hsm, rfl⟩ := ex64 sm
  rw [iJ_to hsm] at hs
  have bs := hol_bd o1 hs
  unfold k_jearlyDay misAhead
  obtain ⟨r, g1, g2⟩ := m_isDate o1 (b := 3094) (by omega) r1 (b32_64 hy) hm hx hn
  obtain ⟨g3, g4⟩ := c_numberOf o1 hy hm hx hn
  rw [b3094, iI_J hy, g1, g21, Option.bind_some]
  dsimp only
  by_cases q : isDt d y m x
  · have hh := hol_bd o1 (numb_hol o1 q)
    have e := m_numberOf o1 (b := 3094) (by omega) r1 q.1 q.2.1 hx hn
    rw [if_pos (g2.mpr q), g3 q, e, Option.bind_some, Option.bind_some, if_neg (j_no ⟨by omega, by omega⟩), if_c (iJ_le hsm ⟨by omega, by omega⟩), if_c (iJ_le hsm ⟨by omega, by omega⟩)]
    by_cases t : sm ≤ numb d y m x
    · right; rw [if_pos t, if_pos t]; exact ⟨rfl, rfl⟩
    · left; rw [if_neg t, if_neg t]; exact ⟨_, ⟨by omega, by omega⟩, rfl, rfl, rfl⟩
  · right
    rw [if_neg (fun z => q (g2.mp z)), g4 q]
    exact ⟨rfl, rfl⟩
theorem j_late {v : vJoint} {w : Nat → Int32} {G : Nat → Int64} (o1 : vOk v.1) (r1 : DR v.1 w 3094) (o2 : vOk v.2.1) (r2 : DR v.2.1 w 3536) (g21 : G 21 = v.2.2.1) (g22 : G 22 = v.2.2.2) (hs : hol v.1 v.2.2.1.toInt) (ha : hol v.2.1 (v.2.2.1.toInt + v.2.2.2.toInt)) {y m x : Int} (hy : b32 y) (hm : b32 m) (hx : b32 x) {n : Nat} (hn : 250000 ≤ n) : (∃ t u : Int, (-1000000000 ≤ t ∧ t ≤ 1000000000) ∧ k_jlateDay n v (iI y) (iI m) (iI x) = some (iJ t) ∧ misBehind n G w (iI y) (iI m) (iI x) = some true ∧ mnumberOf n w 3536 (iI y).toInt64 (iI m) (iI x) = some (iJ u) ∧ iJ u - G 22 = iJ t) ∨ (k_jlateDay n v (iI y) (iI m) (iI x) = some (-1000000000000000) ∧ misBehind n G w (iI y) (iI m) (iI x) = some false) := by
  obtain ⟨d, d', sm, ah⟩ := v
  dsimp only at o1 r1 o2 r2 g21 g22 hs ha
  obtain ⟨sm, hsm, rfl⟩ := ex64 sm
  obtain ⟨ah, hah, rfl⟩ := ex64 ah
  rw [iJ_to hsm] at hs
  rw [iJ_to hsm, iJ_to hah] at ha
  have bs := hol_bd o1 hs
  have ba := hol_bd o2 ha
  unfold k_jlateDay misBehind
  obtain ⟨r, g1, g2⟩ := m_isDate o2 (b := 3536) (by omega) r2 (b32_64 hy) hm hx hn
  obtain ⟨g3, g4⟩ := c_numberOf o2 hy hm hx hn
  rw [b3094, b3536, iI_J hy, g1, g21, g22, Option.bind_some]
  dsimp only
  by_cases q : isDt d' y m x
  · have hh := hol_bd o2 (numb_hol o2 q)
    have e := m_numberOf o2 (b := 3536) (by omega) r2 q.1 q.2.1 hx hn
    have hb64 : b64 (numb d' y m x - ah) := ⟨by omega, by omega⟩
    obtain ⟨r3, e1, e2⟩ := m_isDay o1 (b := 3094) (by omega) r1 hb64 (n := n) (by omega)
    obtain ⟨r4, e3, e4⟩ := c_holds o1 hb64 (n := n) (by omega)
    rw [if_pos (g2.mpr q), g3 q, e, Option.bind_some, Option.bind_some, iJ_sub, if_neg (j_no ⟨by omega, by omega⟩), if_c (iJ_lt hb64 hsm), if_c (iJ_lt hb64 hsm), e1, e3, Option.bind_some, Option.bind_some]
    by_cases t : numb d' y m x - ah < sm
    · right; rw [if_pos t, if_pos t]; exact ⟨rfl, rfl⟩
    · rw [if_neg t, if_neg t]
      by_cases t2 : hol d (numb d' y m x - ah)
      · left
        have := hol_bd o1 t2
        rw [if_pos (e2.mpr t2), if_pos (e4.mpr t2)]
        exact ⟨numb d' y m x - ah, numb d' y m x, ⟨by omega, by omega⟩, rfl, rfl, rfl, iJ_sub _ _⟩
      · right
        rw [if_neg (fun z => t2 (e2.mp z)), if_neg (fun z => t2 (e4.mp z))]
        exact ⟨rfl, rfl⟩
  · right
    rw [if_neg (fun z => q (g2.mp z)), g4 q]
    exact ⟨rfl, rfl⟩
theorem hc_often : HC_often Inv := by
  intro A tp dv cs cv jv bo hg lw sb F G tq w oc z0 z1 z2 h
  have hn := hn_f
  have hJ := h.2.2.2.2.1
  unfold w_often moften w_often_31 w_often_55
  rw [show (upd F 0 0) 20 = F 20 from rfl]
  cases jv with
  | none =>
    rw [show F 20 = 0 from hJ]
    exact ⟨_, _, rfl, rfl, rfl, h.thr⟩
  | some v =>
    obtain ⟨j1, ⟨o1, r1⟩, ⟨o2, r2⟩, ⟨g21, g22⟩, hs, ha⟩ := hJ
    obtain ⟨y, hy, rfl⟩ := ex32 z0
    obtain ⟨m, hm, rfl⟩ := ex32 z1
    obtain ⟨x, hx, rfl⟩ := ex32 z2
    simp only [zO_s]
    rw [j1, if_neg (by decide)]
    rcases j_early o1 r1 g21 hs hy hm hx hn with ⟨t, tb, e1, e2, e3⟩ | ⟨e1, e2⟩ <;> rcases j_late o1 r1 o2 r2 g21 g22 hs ha hy hm hx hn with ⟨t', u, tb', e4, e5, e6, e7⟩ | ⟨e4, e5⟩
    · simp only [e1, e2, e4, e5, Option.bind_some]
      rw [if_neg (j_no tb), if_neg (j_no tb')]
      exact ⟨_, _, rfl, rfl, rfl, h.thr⟩
    · simp only [e1, e2, e4, e5, Option.bind_some, ↓reduceIte]
      rw [if_neg (j_no tb)]
      exact ⟨_, _, rfl, rfl, rfl, h.thr⟩
    · simp only [e1, e2, e4, e5, Option.bind_some, ↓reduceIte]
      rw [if_neg (j_no tb')]
      exact ⟨_, _, rfl, rfl, rfl, h.thr⟩
    · simp only [e1, e2, e4, e5, Option.bind_some, ↓reduceIte]
      exact ⟨_, _, rfl, rfl, rfl, h.thr⟩
theorem j_first {v : vJoint} {w : Nat → Int32} {G : Nat → Int64} (o1 : vOk v.1) (r1 : DR v.1 w 3094) (o2 : vOk v.2.1) (r2 : DR v.2.1 w 3536) (g21 : G 21 = v.2.2.1) (g22 : G 22 = v.2.2.2) (hs : hol v.1 v.2.2.1.toInt) (ha : hol v.2.1 (v.2.2.1.toInt + v.2.2.2.toInt)) (z0 z1 z2 : Int32) {n : Nat} (hn : 250000 ≤ n) : ∃ t : Int64, k_jfirstDay n v z0 z1 z2 = some t ∧ mfirstOf n G w z0 z1 z2 = some t := by
  obtain ⟨y, hy, rfl⟩ := ex32 z0
  obtain ⟨m, hm, rfl⟩ := ex32 z1
  obtain ⟨x, hx, rfl⟩ := ex32 z2
  unfold k_jfirstDay mfirstOf
  rcases j_early o1 r1 g21 hs hy hm hx hn with ⟨t, tb, e1, e2, e3⟩ | ⟨e1, e2⟩
  · simp only [e1, e2, e3, Option.bind_some, ↓reduceIte]
    rw [if_neg (j_no tb)]
    exact ⟨_, rfl, rfl⟩
  · rcases j_late o1 r1 o2 r2 g21 g22 hs ha hy hm hx hn with ⟨t', u, tb', e4, e5, e6, e7⟩ | ⟨e4, e5⟩
    · simp only [e1, e2, e4, e5, e6, e7, Option.bind_some, ↓reduceIte]
      exact ⟨_, rfl, rfl⟩
    · simp only [e1, e2, e4, e5, Option.bind_some, ↓reduceIte]
      exact ⟨_, rfl, rfl⟩
theorem hc_span : HC_span Inv := by
  intro A tp dv cs cv jv bo hg lw sb F G tq w oc z0 z1 z2 z3 z4 z5 h
  have hn := hn_f
  have hJ := h.2.2.2.2.1
  unfold w_span mspan w_span_56 mspan_55
  rw [show (upd F 0 0) 20 = F 20 from rfl]
  cases jv with
  | none =>
    rw [show F 20 = 0 from hJ]
    exact ⟨_, _, rfl, rfl, rfl, h.thr⟩
  | some v =>
    obtain ⟨j1, ⟨o1, r1⟩, ⟨o2, r2⟩, ⟨g21, g22⟩, hs, ha⟩ := hJ
    simp only [zO_s]
    rw [j1, if_neg (by decide)]
    obtain ⟨t, e1, e2⟩ := j_first o1 r1 o2 r2 g21 g22 hs ha z0 z1 z2 hn
    obtain ⟨t', e3, e4⟩ := j_first o1 r1 o2 r2 g21 g22 hs ha z3 z4 z5 hn
    rw [e1, e2, Option.bind_some, Option.bind_some, e3, e4, Option.bind_some, Option.bind_some]
    by_cases p : t = -1000000000000000
    · rw [if_pos p, if_pos p]; exact ⟨_, _, rfl, rfl, rfl, h.thr⟩
    · rw [if_neg p, if_neg p]
      by_cases p2 : t' = -1000000000000000
      · rw [if_pos p2, if_pos p2]; exact ⟨_, _, rfl, rfl, rfl, h.thr⟩
      · rw [if_neg p2, if_neg p2]; exact ⟨_, _, rfl, rfl, rfl, h.thr⟩
