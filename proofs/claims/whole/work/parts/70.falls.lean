/-! ===== calls: falls, busiest, meets ===== -/
theorem c_longDay {f : vFrame} (hf : fOk f) {m x : Int} (hm : b32 m) (hx : b32 x) : k_hasLongestDay f (iI m) (iI x) = some (decide ((0 ≤ m ∧ m < f.2.2.1.1) ∧ 0 ≤ x ∧ x < mdy f true m.toNat)) := by
  unfold k_hasLongestDay
  rw [c_hasMonth hf hm, Option.bind_some]
  by_cases q : 0 ≤ m ∧ m < f.2.2.1.1
  · have hN := hf.2.2.1
    have hb := mdy_bd hf true (m := m.toNat) (by omega)
    have e := c_monthDays hf true (m := m.toNat) (by omega)
    rw [Int.toNat_of_nonneg q.1] at e
    rw [if_pos (decide_eq_true q), if_c (show (iI x < (0 : Int32)) = (x < 0) from iI_lt (b := 0) hx ⟨by omega, by omega⟩), show (1 : Int32) = zb true from rfl, e, Option.bind_some, if_c (iI_le ⟨by omega, by omega⟩ hx)]
    by_cases p : x < 0
    · rw [if_pos p, decide_eq_false (by omega)]
    · rw [if_neg p]
      by_cases r : mdy f true m.toNat ≤ x
      · rw [if_pos r, decide_eq_false (by omega)]
      · rw [if_neg r, decide_eq_true (by omega)]
  · rw [if_neg (dneg q), decide_eq_false (fun z => q z.1)]
theorem m_dayOfMonth {d : vDes} (hd : vOk d) {w : Nat → Int32} {b : Nat} (hb : b ≤ 35360) (hw : DR d w b) {m x : Int} (hm : b32 m) (hx : b32 x) : misDayOfMonth w (iI (b : Int)) (iI m) (iI x) = some (decide ((0 ≤ m ∧ m < d.1.2.2.1.1) ∧ 0 ≤ x ∧ x < mdy d.1 true m.toNat)) := by
  unfold misDayOfMonth
  rw [m_isMonth hd hb hw hm, Option.bind_some]
  by_cases q : 0 ≤ m ∧ m < d.1.2.2.1.1
  · have hN := hd.1.2.2.1
    have hbd := mdy_bd hd.1 true (m := m.toNat) (by omega)
    have e := m_monthDays hd hb hw true (m := m.toNat) (by omega)
    rw [Int.toNat_of_nonneg q.1] at e
    rw [if_pos (decide_eq_true q), show (1 : Int32) = zb true from rfl, e, Option.bind_some, show (zb true : Int32) = iI 1 by decide +kernel, iI_sub, iI_J hx, iI_J ⟨by omega, by omega⟩, show (0 : Int64) = iJ 0 by decide +kernel, m_isIn (b32_64 hx) ⟨by omega, by omega⟩ ⟨by omega, by omega⟩, Option.bind_some]
    by_cases p : 0 ≤ x ∧ x ≤ mdy d.1 true m.toNat - 1
    · rw [if_pos (decide_eq_true p), decide_eq_true (by omega)]
    · rw [if_neg (dneg p), decide_eq_false (by omega)]
  · rw [if_neg (dneg q), decide_eq_false (fun z => q z.1)]
theorem c_hasWeekday {f : vFrame} (hf : fOk f) {x : Int} (hx : b32 x) : k_hasWeekday f (iI x) = some (decide (0 ≤ x ∧ x < f.2.2.2.2.1.toInt)) := by
  unfold k_hasWeekday
  have h7 := hf.2.2.2.2.2.2.1
  rw [if_c (show (iI x < (0 : Int32)) = (x < 0) from iI_lt (b := 0) hx ⟨by omega, by omega⟩), if_c (show (f.2.2.2.2.1 ≤ iI x) = (f.2.2.2.2.1.toInt ≤ x) by rw [← iI_le ⟨by omega, by omega⟩ hx, iI_of])]
  by_cases p : x < 0
  · rw [if_pos p, decide_eq_false (by omega)]
  · rw [if_neg p]
    by_cases r : f.2.2.2.2.1.toInt ≤ x
    · rw [if_pos r, decide_eq_false (by omega)]
    · rw [if_neg r, decide_eq_true (by omega)]
theorem m_isWeekday {d : vDes} (hd : vOk d) {w : Nat → Int32} {b : Nat} (hb : b ≤ 35360) (hw : DR d w b) {x : Int} (hx : b32 x) : misWeekday w (iI (b : Int)) (iI x) = some (decide (0 ≤ x ∧ x < d.1.2.2.2.2.1.toInt)) := by
  unfold misWeekday
  have h7 := hd.1.2.2.2.2.2.2.1
  rw [zck_t (watz b 6 (by omega)), wat b 6 (by omega), hw.2.2.2.2.2.1, iI_J hx, show (d.1.2.2.2.2.1 - 1 : Int32) = iI (d.1.2.2.2.2.1.toInt - 1) by rw [← iI_sub, iI_of]; rfl, iI_J ⟨by omega, by omega⟩, show (0 : Int64) = iJ 0 by decide +kernel, m_isIn (b32_64 hx) ⟨by omega, by omega⟩ ⟨by omega, by omega⟩, Option.bind_some]
  congr 2
  exact propext ⟨fun h => ⟨h.1, by omega⟩, fun h => ⟨h.1, by omega⟩⟩
theorem c_yearDays (d : vDes) (y : Int) : k_yearDays d.1 (zb (lLeap d.2.1 y)) = some (iI (dys d y)) := by
  unfold k_yearDays dys dLe
  cases lLeap d.2.1 y
  · show some d.1.1 = _
    rw [if_neg (by decide), Int.add_zero, iI_of]
  · show some (d.1.1 + d.1.2.1) = _
    rw [if_pos rfl, ← iI_add, iI_of, iI_of]
def hit (d : vDes) (y mo x k : Int) : Int := if x < mdy d.1 (dLe d y) mo.toNat ∧ wkd d.1 (numb d y mo x) = k then 1 else 0
theorem c_fallStep {d : vDes} (hd : vOk d) {f m mo x k i c : Int} (hf : -100000 ≤ f) (hm : 1 ≤ m ∧ m ≤ 5000) (hfm : f + m - 1 ≤ 100000) (hmo : 0 ≤ mo ∧ mo < d.1.2.2.1.1) (hx : 0 ≤ x ∧ x ≤ 2000) (hk : b32 k) (hi : 0 ≤ i ∧ i < m) {n : Nat} (hn : 250000 ≤ n) : k_timesOnWeekday_83 n d (iI f) (iI m) (iI k) (iI (mof d.1 false mo.toNat + x)) (iI (mof d.1 true mo.toNat + x)) (iI (if mdy d.1 false mo.toNat ≤ x then 0 else 1)) (iI (if mdy d.1 true mo.toNat ≤ x then 0 else 1)) (iJ (sta d (f + i)), iI c, iI i) = some (.inl (iJ (sta d (f + (i + 1))), iI (c + hit d (f + i) mo x k), iI (i + 1))) := by
  unfold k_timesOnWeekday_83
  have hN := hd.1.2.2.1
  have hms : sta d (f + (i + 1)) = sta d (f + i) + dys d (f + i) := by rw [← Int.add_assoc]; exact sta_succ hd _
  have hsb := sta_bd hd (y := f + i) ⟨by omega, by omega⟩
  have hdb := dys_bd hd (f + i)
  have hO := mof_bd hd.1 (dLe d (f + i)) mo.toNat (by omega)
  have e01 : ∀ p : Prop, ∀ [Decidable p], (iI (if p then 0 else 1) = (0 : Int32)) = p := fun p _ => by
    by_cases q : p
    · rw [if_pos q]; exact propext ⟨fun _ => q, fun _ => rfl⟩
    · rw [if_neg q]; exact propext ⟨fun z => absurd z (by decide +kernel), fun z => absurd z q⟩
  have e162 : ∀ c' : Int, k_timesOnWeekday_162 n d (iI f) (iI m) (iI k) (iI (mof d.1 false mo.toNat + x)) (iI (mof d.1 true mo.toNat + x)) (iI (if mdy d.1 false mo.toNat ≤ x then 0 else 1)) (iI (if mdy d.1 true mo.toNat ≤ x then 0 else 1)) (iJ (sta d (f + i))) (iI c') (iI i) (zb (lLeap d.2.1 (f + i))) = some (.inl (iJ (sta d (f + (i + 1))), iI c', iI (i + 1))) := fun c' => by
    unfold k_timesOnWeekday_162
    rw [c_yearDays, Option.bind_some, iI_J ⟨by omega, by omega⟩, iJ_add, ← hms, show (1 : Int32) = iI 1 by decide +kernel, iI_add]
  have e134 : ∀ t1 : Int, t1 = mof d.1 (dLe d (f + i)) mo.toNat + x → k_timesOnWeekday_134 n d (iI f) (iI m) (iI k) (iI (mof d.1 false mo.toNat + x)) (iI (mof d.1 true mo.toNat + x)) (iI (if mdy d.1 false mo.toNat ≤ x then 0 else 1)) (iI (if mdy d.1 true mo.toNat ≤ x then 0 else 1)) (iJ (sta d (f + i))) (iI c) (iI i) (zb (lLeap d.2.1 (f + i))) (iJ (sta d (f + i))) (iI t1) = some (.inl (iJ (sta d (f + (i + 1))), iI (c + if wkd d.1 (numb d (f + i) mo x) = k then 1 else 0), iI (i + 1))) := fun t1 ht => by
    unfold k_timesOnWeekday_134 k_timesOnWeekday_159
    have hwb := wkd_bd hd.1 (numb d (f + i) mo x)
    have h7 := hd.1.2.2.2.2.2.2.1
    rw [iI_J ⟨by omega, by omega⟩, iJ_add, show sta d (f + i) + t1 = numb d (f + i) mo x by rw [numb, ht]; omega, c_weekday hd.1 (by rw [numb]; omega), Option.bind_some, if_c (iI_eq ⟨by omega, by omega⟩ hk)]
    by_cases p : wkd d.1 (numb d (f + i) mo x) = k
    · rw [if_pos p, if_pos p, show (1 : Int32) = iI 1 by decide +kernel, iI_add, e162]
    · rw [if_neg p, if_neg p, show (0 : Int32) = iI 0 by decide +kernel, iI_add, e162]
  dsimp only
  rw [if_c (iI_le ⟨by omega, by omega⟩ ⟨by omega, by omega⟩), if_neg (by omega), iI_add, c_leap hd.2.1 ⟨by omega, by omega⟩ (by omega), Option.bind_some]
  unfold k_timesOnWeekday_120 hit
  rw [if_c (e01 _), if_c (e01 _), if_c (zb0 _)]
  cases hl : lLeap d.2.1 (f + i)
  · simp only [hl] at e162 e134
    rw [if_neg (by decide), if_pos rfl, e162, e134 _ (by rw [dLe, hl]), dLe, hl]
    by_cases p : mdy d.1 false mo.toNat ≤ x
    · rw [if_pos p, if_neg (by omega), Int.add_zero]
    · rw [if_neg p]
      by_cases r : wkd d.1 (numb d (f + i) mo x) = k
      · rw [if_pos r, if_pos ⟨by omega, r⟩]
      · rw [if_neg r, if_neg (fun z => r z.2)]
  · simp only [hl] at e162 e134
    rw [if_pos rfl, if_neg (show ¬ true = false by decide), e162, e134 _ (by rw [dLe, hl]), dLe, hl]
    by_cases p : mdy d.1 true mo.toNat ≤ x
    · rw [if_pos p, if_neg (by omega), Int.add_zero]
    · rw [if_neg p]
      by_cases r : wkd d.1 (numb d (f + i) mo x) = k
      · rw [if_pos r, if_pos ⟨by omega, r⟩]
      · rw [if_neg r, if_neg (fun z => r z.2)]
theorem m_fallStep {d : vDes} (hd : vOk d) {w : Nat → Int32} {b : Nat} (hb : b ≤ 35360) (hw : DR d w b) {f m mo x k i c : Int} (hf : -100000 ≤ f) (hm : 1 ≤ m ∧ m ≤ 5000) (hfm : f + m - 1 ≤ 100000) (hmo : 0 ≤ mo ∧ mo < d.1.2.2.1.1) (hx : 0 ≤ x ∧ x ≤ 2000) (hk : b32 k) (hi : 0 ≤ i ∧ i < m) {n : Nat} (hn : 250000 ≤ n) : mfallsOf_6 n w (iI (b : Int)) (iI f) (iI m) (iI mo) (iI x) (iI k) (iI c, iI (f + i)) = some (.inl (iI (c + hit d (f + i) mo x k), iI (f + (i + 1)))) := by
  unfold mfallsOf_6 mfallsOf_57 mfallsOf_58 mflag
  have hN := hd.1.2.2.1
  dsimp only
  obtain ⟨r, e1, e2⟩ := m_isDate hd hb hw (y := f + i) (m := mo) (dd := x) ⟨by omega, by omega⟩ ⟨by omega, by omega⟩ ⟨by omega, by omega⟩ hn
  have hsb := sta_bd hd (y := f + i) ⟨by omega, by omega⟩
  have hO := mof_bd hd.1 (dLe d (f + i)) mo.toNat (by omega)
  have hwb := wkd_bd hd.1 (numb d (f + i) mo x)
  have h7 := hd.1.2.2.2.2.2.2.1
  have e5 : (iI (f + i) + 1 : Int32) = iI (f + (i + 1)) := by rw [show (1 : Int32) = iI 1 by decide +kernel, iI_add, Int.add_assoc]
  rw [iI_add, if_c (iI_le ⟨by omega, by omega⟩ ⟨by omega, by omega⟩), if_neg (by omega), iI_J ⟨by omega, by omega⟩, e1, Option.bind_some, m_numberOf hd hb hw ⟨by omega, by omega⟩ hmo ⟨by omega, by omega⟩ hn, Option.bind_some, m_weekday hd hb hw (by rw [numb]; omega), Option.bind_some, if_c (iI_eq ⟨by omega, by omega⟩ hk), e5, if_neg (show ¬ (1 : Int32) = 0 by decide), if_pos rfl, Option.bind_some, Option.bind_some]
  unfold hit
  by_cases p : x < mdy d.1 (dLe d (f + i)) mo.toNat
  · rw [if_pos (e2.mpr ⟨⟨by omega, by omega⟩, hmo, hx.1, p⟩)]
    by_cases q : wkd d.1 (numb d (f + i) mo x) = k
    · rw [if_pos q, if_pos ⟨p, q⟩, show (1 : Int32) = iI 1 by decide +kernel, iI_add]
    · rw [if_neg q, if_neg (fun z => q z.2), show (0 : Int32) = iI 0 by decide +kernel, iI_add]
  · rw [if_neg (fun z => p (e2.mp z).2.2.2), if_neg (fun z => p z.1), show (0 : Int32) = iI 0 by decide +kernel, iI_add]
theorem cm_falls {d : vDes} (hd : vOk d) {w : Nat → Int32} {b : Nat} (hb : b ≤ 35360) (hw : DR d w b) {f m mo x k : Int} (hf : -100000 ≤ f) (hm : 1 ≤ m ∧ m ≤ 5000) (hfm : f + m - 1 ≤ 100000) (hmo : 0 ≤ mo ∧ mo < d.1.2.2.1.1) (hx : 0 ≤ x ∧ x ≤ 2000) (hk : b32 k) {n : Nat} (hn : 250000 ≤ n) : ∃ r : Int, (0 ≤ r ∧ r ≤ m) ∧ k_timesOnWeekday n d (iI f) (iI m) (iI mo) (iI x) (iI k) = some (iI r) ∧ mfallsOf n w (iI (b : Int)) (iI f) (iI m) (iI mo) (iI x) (iI k) = some (iI r) := by
  unfold k_timesOnWeekday k_timesOnWeekday_47 k_timesOnWeekday_68 mfallsOf
  have hN := hd.1.2.2.1
  have e1 := c_off hd.1 false (m := mo.toNat) (by omega) (show 20 ≤ n by omega)
  have e2 := c_off hd.1 true (m := mo.toNat) (by omega) (show 20 ≤ n by omega)
  have e3 := c_monthDays hd.1 false (m := mo.toNat) (by omega)
  have e4 := c_monthDays hd.1 true (m := mo.toNat) (by omega)
  have hb1 := mdy_bd hd.1 false (m := mo.toNat) (by omega)
  have hb2 := mdy_bd hd.1 true (m := mo.toNat) (by omega)
  rw [Int.toNat_of_nonneg hmo.1] at e1 e2 e3 e4
  have e5 := c_start hd (y := f) ⟨by omega, by omega⟩ (show 7 ≤ n by omega)
  obtain ⟨r, t, g1, g2, r', g3, g4, g5⟩ := zloop_sim (f := k_timesOnWeekday_83 n d (iI f) (iI m) (iI k) (iI (mof d.1 false mo.toNat + x)) (iI (mof d.1 true mo.toNat + x)) (iI (if mdy d.1 false mo.toNat ≤ x then 0 else 1)) (iI (if mdy d.1 true mo.toNat ≤ x then 0 else 1))) (g := mfallsOf_6 n w (iI (b : Int)) (iI f) (iI m) (iI mo) (iI x) (iI k)) (R := fun s t => ∃ i c : Int, (0 ≤ i ∧ i ≤ m) ∧ (0 ≤ c ∧ c ≤ i) ∧ s = (iJ (sta d (f + i)), iI c, iI i) ∧ t = (iI c, iI (f + i))) (S := fun a c => ∃ r : Int, (0 ≤ r ∧ r ≤ m) ∧ a = iI r ∧ c = iI r) (fun s => (m - s.2.2.toInt).toNat) (by
    rintro s t ⟨i, c, hi, hc, rfl, rfl⟩
    by_cases p : i < m
    · left
      refine ⟨_, _, c_fallStep hd hf hm hfm hmo hx hk ⟨hi.1, p⟩ hn, m_fallStep hd hb hw hf hm hfm hmo hx hk ⟨hi.1, p⟩ hn, ⟨i + 1, _, ⟨by omega, by omega⟩, ?_, rfl, rfl⟩, ?_⟩
      · unfold hit; split <;> omega
      · dsimp only; rw [iI_to ⟨by omega, by omega⟩, iI_to ⟨by omega, by omega⟩]; omega
    · right
      unfold k_timesOnWeekday_83 mfallsOf_6
      dsimp only
      rw [if_c (iI_le ⟨by omega, by omega⟩ ⟨by omega, by omega⟩), if_pos (by omega), iI_add, if_c (iI_le ⟨by omega, by omega⟩ ⟨by omega, by omega⟩), if_pos (by omega)]
      exact ⟨_, _, rfl, rfl, c, ⟨by omega, by omega⟩, rfl, rfl⟩) n n (iJ (sta d f), 0, 0) (0, iI f) ⟨0, 0, ⟨by omega, by omega⟩, ⟨by omega, by omega⟩, by rw [Int.add_zero]; rfl, by rw [Int.add_zero]; rfl⟩ (by show (m - (iI 0).toInt).toNat < n; rw [iI_to ⟨by omega, by omega⟩]; omega) (by show (m - (iI 0).toInt).toNat < n; rw [iI_to ⟨by omega, by omega⟩]; omega)
  refine ⟨r', g3, ?_, by rw [g2, g5]⟩
  rw [g4] at g1
  rw [show (0 : Int32) = zb false from rfl, show (1 : Int32) = zb true from rfl, e1, Option.bind_some, e2, Option.bind_some, e3, Option.bind_some, e4, Option.bind_some, Option.bind_some, e5, if_c (iI_le ⟨by omega, by omega⟩ ⟨by omega, by omega⟩), if_c (iI_le ⟨by omega, by omega⟩ ⟨by omega, by omega⟩), if_c (iI_le ⟨by omega, by omega⟩ ⟨by omega, by omega⟩)]
  simp only [Option.bind_some, iI_add, show zb false = iI 0 by decide +kernel, show zb true = iI 1 by decide +kernel]
  rw [← g1]
  by_cases p1 : mdy d.1 false mo.toNat ≤ x
  · rw [if_pos p1]
    by_cases p2 : mdy d.1 true mo.toNat ≤ x
    · simp only [if_pos p1, if_pos p2]; rfl
    · simp only [if_pos p1, if_neg p2]; rfl
  · rw [if_neg p1]
    by_cases p2 : mdy d.1 true mo.toNat ≤ x
    · simp only [if_neg p1, if_pos p2]; rfl
    · simp only [if_neg p1, if_neg p2]; rfl
theorem hc_falls : HC_falls Inv := by
  intro A tp dv cs cv jv bo hg lw sb F G tq w oc z0 z1 z2 z3 z4 z5 h
  have hn := hn_f
  unfold l_falls mfalls
  rcases atD h.2.2.1 z0 with ⟨h1, h2⟩ | ⟨s, d, hs, rfl, hdv, h1, h2, h3, hd, hw⟩
  · rw [h1, h2]; exact ⟨_, _, rfl, rfl, rfl, h.thr⟩
  · obtain ⟨f, hf, rfl⟩ := ex32 z1
    obtain ⟨m, hm, rfl⟩ := ex32 z2
    obtain ⟨mo, hmo, rfl⟩ := ex32 z3
    obtain ⟨x, hx, rfl⟩ := ex32 z4
    obtain ⟨k, hk, rfl⟩ := ex32 z5
    have hr := m_run hf hm (M := 5000) ⟨by omega, by omega⟩
    rw [show iI 5000 = (5000 : Int32) by decide +kernel] at hr
    simp only [h1, h2, h3, Option.bind_some, zO_s, ↓reduceIte, hr, c_stretch hf hm, c_longDay hd.1 hmo hx, m_dayOfMonth hd (show 442 * s ≤ 35360 by omega) hw hmo hx, c_hasWeekday hd.1 hk, m_isWeekday hd (show 442 * s ≤ 35360 by omega) hw hk]
    by_cases q : (-100000 ≤ f ∧ f ≤ 100000) ∧ (1 ≤ m ∧ m ≤ 5000) ∧ -100000 ≤ f + m - 1 ∧ f + m - 1 ≤ 100000
    · rw [if_pos (decide_eq_true q), if_pos (decide_eq_true ⟨q.1, by omega, q.2.2.2⟩)]
      by_cases q2 : (0 ≤ mo ∧ mo < d.1.2.2.1.1) ∧ 0 ≤ x ∧ x < mdy d.1 true mo.toNat
      · rw [if_pos (decide_eq_true q2), if_pos (decide_eq_true q2)]
        by_cases q3 : 0 ≤ k ∧ k < d.1.2.2.2.2.1.toInt
        · have hb2 := mdy_bd hd.1 true (m := mo.toNat) (by omega)
          obtain ⟨r, hr1, hr2, hr3⟩ := cm_falls hd (show 442 * s ≤ 35360 by omega) hw (f := f) (m := m) (mo := mo) (x := x) (k := k) (by omega) (by omega) (by omega) q2.1 ⟨by omega, by omega⟩ hk hn
          rw [if_pos (decide_eq_true q3), if_pos (decide_eq_true q3), hr2, hr3]
          exact ⟨_, _, rfl, rfl, rfl, h.thr⟩
        · rw [if_neg (dneg q3), if_neg (dneg q3)]; exact ⟨_, _, rfl, rfl, rfl, h.thr⟩
      · rw [if_neg (dneg q2), if_neg (dneg q2)]; exact ⟨_, _, rfl, rfl, rfl, h.thr⟩
    · rw [if_neg (dneg q), if_neg (dneg (by omega))]; exact ⟨_, _, rfl, rfl, rfl, h.thr⟩
theorem hc_busiest : HC_busiest Inv := by
  intro A tp dv cs cv jv bo hg lw sb F G tq w oc z0 z1 z2 z3 z4 z5 h
  have hn := hn_f
  unfold l_busiest mbusiest
  rcases atD h.2.2.1 z0 with ⟨h1, h2⟩ | ⟨s, d, hs, rfl, hdv, h1, h2, h3, hd, hw⟩
  · rw [h1, h2]; exact ⟨_, _, rfl, rfl, rfl, h.thr⟩
  · obtain ⟨f, hf, rfl⟩ := ex32 z1
    obtain ⟨m, hm, rfl⟩ := ex32 z2
    obtain ⟨x, hx, rfl⟩ := ex32 z3
    obtain ⟨k, hk, rfl⟩ := ex32 z4
    obtain ⟨t, ht, rfl⟩ := ex32 z5
    have hN := hd.1.2.2.1
    have hr := m_run hf hm (M := 5000) ⟨by omega, by omega⟩
    rw [show iI 5000 = (5000 : Int32) by decide +kernel] at hr
    have h99 : misIn (iI x).toInt64 0 99 = some (decide (0 ≤ x ∧ x ≤ 99)) := by
      rw [iI_J hx, show (0 : Int64) = iJ 0 by decide +kernel, show (99 : Int64) = iJ 99 by decide +kernel]
      exact m_isIn (b32_64 hx) ⟨by omega, by omega⟩ ⟨by omega, by omega⟩
    have h01 : misIn (iI t).toInt64 0 1 = some (decide (0 ≤ t ∧ t ≤ 1)) := by
      rw [iI_J ht, show (0 : Int64) = iJ 0 by decide +kernel, show (1 : Int64) = iJ 1 by decide +kernel]
      exact m_isIn (b32_64 ht) ⟨by omega, by omega⟩ ⟨by omega, by omega⟩
    simp only [h1, h2, h3, Option.bind_some, zO_s, ↓reduceIte, hr, c_stretch hf hm, c_hasWeekday hd.1 hk, m_isWeekday hd (show 442 * s ≤ 35360 by omega) hw hk, h99, h01]
    rw [if_c (show (iI x < (0 : Int32)) = (x < 0) from iI_lt (b := 0) hx ⟨by omega, by omega⟩), if_c (show ((99 : Int32) < iI x) = (99 < x) from iI_lt (a := 99) ⟨by omega, by omega⟩ hx), if_c (show (iI t < (0 : Int32)) = (t < 0) from iI_lt (b := 0) ht ⟨by omega, by omega⟩), if_c (show (iI t ≤ (1 : Int32)) = (t ≤ 1) from iI_le (b := 1) ht ⟨by omega, by omega⟩)]
    by_cases q : (-100000 ≤ f ∧ f ≤ 100000) ∧ (1 ≤ m ∧ m ≤ 5000) ∧ -100000 ≤ f + m - 1 ∧ f + m - 1 ≤ 100000
    · rw [if_pos (decide_eq_true q), if_pos (decide_eq_true ⟨q.1, by omega, q.2.2.2⟩)]
      by_cases q3 : 0 ≤ k ∧ k < d.1.2.2.2.2.1.toInt
      · rw [if_pos (decide_eq_true q3), if_pos (decide_eq_true q3)]
        by_cases q4 : 0 ≤ x ∧ x ≤ 99
        · rw [if_pos (decide_eq_true q4), if_neg (show ¬ x < 0 by omega), if_neg (show ¬ 99 < x by omega)]
          by_cases q5 : 0 ≤ t ∧ t ≤ 1
          · rw [if_pos (decide_eq_true q5), if_neg (show ¬ t < 0 by omega), if_pos (show t ≤ 1 by omega)]
            obtain ⟨r, t', e1, e2, e3, e4⟩ := zloop_sim (f := l_busiest_73 fuel (iI f) (iI m) (iI x) (iI k) (iI t) d) (g := mbusiest_80 fuel (upd F 0 0) w (iI f) (iI m) (iI x) (iI k) (iI t) (iI ((442 * s : Nat) : Int))) (R := fun a c => a = c ∧ ∃ (g i : Int), (0 ≤ i ∧ i ≤ d.1.2.2.1.1) ∧ (0 ≤ g ∧ g ≤ 5000) ∧ a.2 = (iI g, iI i)) (S := fun a c => a = c.1 ∧ c.2 = upd F 0 0) (fun a => ((d.1.2.2.1.1 : Int) - a.2.2.toInt).toNat) (by
              rintro ⟨a, a2⟩ c ⟨rfl, g, i, hi, hg', ha⟩
              dsimp only at ha
              subst ha
              unfold l_busiest_73 mbusiest_80 l_busiest_117 mbusiest_128
              dsimp only
              rw [zck_t (watz (442 * s) 4 (by omega)), wat (442 * s) 4 (by omega), hw.2.2.2.1, nI_iI, if_c (iI_le ⟨by omega, by omega⟩ ⟨by omega, by omega⟩), if_c (iI_le ⟨by omega, by omega⟩ ⟨by omega, by omega⟩)]
              by_cases p : (d.1.2.2.1.1 : Int) ≤ i
              · right
                rw [if_pos p, if_pos p]
                by_cases p2 : iI t = 0
                · rw [if_pos p2, if_pos p2]; exact ⟨_, _, rfl, rfl, rfl, rfl⟩
                · rw [if_neg p2, if_neg p2]; exact ⟨_, _, rfl, rfl, rfl, rfl⟩
              · left
                obtain ⟨r, hr1, hr2, hr3⟩ := cm_falls hd (show 442 * s ≤ 35360 by omega) hw (f := f) (m := m) (mo := i) (x := x) (k := k) (by omega) (by omega) (by omega) ⟨hi.1, by omega⟩ ⟨by omega, by omega⟩ hk hn
                rw [if_neg p, if_neg p, hr2, hr3, Option.bind_some, Option.bind_some, if_c (iI_le ⟨by omega, by omega⟩ ⟨by omega, by omega⟩), if_c (iI_lt ⟨by omega, by omega⟩ ⟨by omega, by omega⟩), show (iI i + 1 : Int32) = iI (i + 1) from iI_add _ 1]
                have hμ : ((d.1.2.2.1.1 : Int) - (iI (i + 1)).toInt).toNat < ((d.1.2.2.1.1 : Int) - (iI i).toInt).toNat := by rw [iI_to ⟨by omega, by omega⟩, iI_to ⟨by omega, by omega⟩]; omega
                by_cases p2 : r ≤ g
                · rw [if_pos p2, if_neg (by omega)]; exact ⟨_, _, rfl, rfl, ⟨rfl, g, i + 1, ⟨by omega, by omega⟩, hg', rfl⟩, hμ⟩
                · rw [if_neg p2, if_pos (by omega)]; exact ⟨_, _, rfl, rfl, ⟨rfl, r, i + 1, ⟨by omega, by omega⟩, ⟨by omega, by omega⟩, rfl⟩, hμ⟩) fuel fuel (-1, 0, 0) (-1, 0, 0) ⟨rfl, 0, 0, ⟨by omega, by omega⟩, ⟨by omega, by omega⟩, rfl⟩ (by show ((d.1.2.2.1.1 : Int) - (iI 0).toInt).toNat < fuel; rw [iI_to ⟨by omega, by omega⟩]; omega) (by show ((d.1.2.2.1.1 : Int) - (iI 0).toInt).toNat < fuel; rw [iI_to ⟨by omega, by omega⟩]; omega)
            exact ⟨_, _, e1, e2, e3, by rw [e4]; exact h.thr⟩
          · rw [if_neg (dneg q5)]
            by_cases p : t < 0
            · rw [if_pos p]; exact ⟨_, _, rfl, rfl, rfl, h.thr⟩
            · rw [if_neg p, if_neg (show ¬ t ≤ 1 by omega)]; exact ⟨_, _, rfl, rfl, rfl, h.thr⟩
        · rw [if_neg (dneg q4)]
          by_cases p : x < 0
          · rw [if_pos p]; exact ⟨_, _, rfl, rfl, rfl, h.thr⟩
          · rw [if_neg p, if_pos (show 99 < x by omega)]; exact ⟨_, _, rfl, rfl, rfl, h.thr⟩
      · rw [if_neg (dneg q3), if_neg (dneg q3)]
        by_cases q4 : 0 ≤ x ∧ x ≤ 99
        · rw [if_pos (decide_eq_true q4)]; exact ⟨_, _, rfl, rfl, rfl, h.thr⟩
        · rw [if_neg (dneg q4)]; exact ⟨_, _, rfl, rfl, rfl, h.thr⟩
    · rw [if_neg (dneg q), if_neg (dneg (by omega))]; exact ⟨_, _, rfl, rfl, rfl, h.thr⟩
theorem div_is {a q x : Int} (hq : 0 < q) : a / q = x ↔ x * q ≤ a ∧ a < x * q + q := by
  have h1 := Int.le_ediv_iff_mul_le hq (a := x) (b := a)
  have h2 := Int.ediv_lt_iff_lt_mul hq (a := a) (b := x + 1)
  rw [Int.add_mul, Int.one_mul] at h2
  constructor
  · intro h; exact ⟨h1.mp (by omega), h2.mp (by omega)⟩
  · intro h
    have := h1.mpr h.1
    have := h2.mpr h.2
    omega
theorem moon_eq {x p q : Int} (h : moonOk p q) : mDay (mFrom x p q) p q = x ↔ mDay (mFrom (x + 1) p q - 1) p q = x := by
  have hp := h.1
  have hq := h.2.1
  have a1 := moon_bd (x := x) (q := q) (show 0 < p by omega)
  have a2 := moon_bd (x := x + 1) (q := q) (show 0 < p by omega)
  unfold mDay
  rw [div_is (show 0 < q by omega), div_is (show 0 < q by omega), Int.sub_mul, Int.one_mul]
  rw [Int.add_mul, Int.one_mul] at a2
  have key : mFrom x p q * p < mFrom (x + 1) p q * p → mFrom x p q * p + p ≤ mFrom (x + 1) p q * p := fun z => by
    have h1 := Int.lt_of_mul_lt_mul_right z (show 0 ≤ p by omega)
    have h2 := Int.mul_le_mul_of_nonneg_right (show mFrom x p q + 1 ≤ mFrom (x + 1) p q by omega) (show 0 ≤ p by omega)
    rw [Int.add_mul, Int.one_mul] at h2
    exact h2
  constructor
  · intro z; have := key (by omega); omega
  · intro z; have := key (by omega); omega
theorem hc_meets : HC_meets Inv := by
  intro A tp dv cs cv jv bo hg lw sb F G tq w oc z0 z1 z2 z3 z4 z5 z6 h
  have hn := hn_f
  unfold l_meets mmeets
  rcases atD h.2.2.1 z0 with ⟨h1, h2⟩ | ⟨s, d, hs, rfl, hdv, h1, h2, h3, hd, hw⟩
  · rw [h1, h2]; exact ⟨_, _, rfl, rfl, rfl, h.thr⟩
  · obtain ⟨f, hf, rfl⟩ := ex32 z1
    obtain ⟨m, hm, rfl⟩ := ex32 z2
    obtain ⟨mo, hmo, rfl⟩ := ex32 z3
    obtain ⟨x, hx, rfl⟩ := ex32 z4
    obtain ⟨p, hp, rfl⟩ := ex32 z5
    obtain ⟨q, hq, rfl⟩ := ex32 z6
    have hr := m_run hf hm (M := 5000) ⟨by omega, by omega⟩
    rw [show iI 5000 = (5000 : Int32) by decide +kernel] at hr
    obtain ⟨r1, m1, m2⟩ := c_isMoon hp hq
    obtain ⟨r2, m3, m4⟩ := m_isMoon hp hq
    simp only [h1, h2, h3, Option.bind_some, zO_s, ↓reduceIte, hr, c_stretch hf hm, c_longDay hd.1 hmo hx, m_dayOfMonth hd (show 442 * s ≤ 35360 by omega) hw hmo hx, m1, m3]
    by_cases q1 : (-100000 ≤ f ∧ f ≤ 100000) ∧ (1 ≤ m ∧ m ≤ 5000) ∧ -100000 ≤ f + m - 1 ∧ f + m - 1 ≤ 100000
    · rw [if_pos (decide_eq_true q1), if_pos (decide_eq_true ⟨q1.1, by omega, q1.2.2.2⟩)]
      by_cases q2 : (0 ≤ mo ∧ mo < d.1.2.2.1.1) ∧ 0 ≤ x ∧ x < mdy d.1 true mo.toNat
      · rw [if_pos (decide_eq_true q2), if_pos (decide_eq_true q2)]
        by_cases qm : moonOk p q
        · rw [if_pos (m2.mpr qm), if_pos (m4.mpr qm)]
          obtain ⟨r, t', e1, e2, e3, e4⟩ := zloop_sim (f := l_meets_52 fuel (iI f) (iI m) (iI mo) (iI x) (iI p) (iI q) d) (g := mmeets_62 fuel (upd F 0 0) w (iI f) (iI m) (iI mo) (iI x) (iI p) (iI q) (iI ((442 * s : Nat) : Int))) (R := fun a c => ∃ i : Int, (0 ≤ i ∧ i ≤ m) ∧ a = iI i ∧ c = iI (f + i)) (S := fun a c => a = c.1 ∧ c.2 = upd F 0 0) (fun a => (m - a.toInt).toNat) (by
            rintro a c ⟨i, hi, rfl, rfl⟩
            unfold l_meets_52 mmeets_62 l_meets_110 mmeets_117
            have f1 : (iI (f + i) + 1 : Int32) = iI (f + (i + 1)) := by rw [show (1 : Int32) = iI 1 by decide +kernel, iI_add, Int.add_assoc]
            rw [iI_add, iI_add, if_c (iI_le hm ⟨by omega, by omega⟩), if_c (iI_le ⟨by omega, by omega⟩ ⟨by omega, by omega⟩), iI_J ⟨by omega, by omega⟩, f1, show (iI i + 1 : Int32) = iI (i + 1) from iI_add _ 1]
            by_cases p1 : m ≤ i
            · right; rw [if_pos p1, if_pos (by omega)]; exact ⟨_, _, rfl, rfl, rfl, rfl⟩
            · have hμ : (m - (iI (i + 1)).toInt).toNat < (m - (iI i).toInt).toNat := by rw [iI_to ⟨by omega, by omega⟩, iI_to ⟨by omega, by omega⟩]; omega
              rw [if_neg p1, if_neg (by omega)]
              obtain ⟨t1, u1, u2⟩ := m_isDate hd (show 442 * s ≤ 35360 by omega) hw (y := f + i) (m := mo) (dd := x) ⟨by omega, by omega⟩ hmo hx hn
              obtain ⟨v1, v2⟩ := c_numberOf hd (y := f + i) (m := mo) (dd := x) ⟨by omega, by omega⟩ hmo hx hn
              by_cases p2 : isDt d (f + i) mo x
              · have hbd := hol_bd hd (numb_hol hd p2)
                obtain ⟨w1, w2, w3⟩ := cm_age qm (x := numb d (f + i) mo x) ⟨by omega, by omega⟩ hp hq
                obtain ⟨w4, w5⟩ := cm_from qm (x := numb d (f + i) mo x) ⟨by omega, by omega⟩ hp hq
                have g1 := moon_bd (x := numb d (f + i) mo x) (q := q) (show 0 < p by have := qm.1; omega)
                have g3 := xq_bd qm (x := numb d (f + i) mo x) ⟨by omega, by omega⟩
                have hp1 := qm.1
                obtain ⟨w6, w7⟩ := cm_mday qm (k := mFrom (numb d (f + i) mo x) p q) ⟨by omega, by have := hp.2; omega⟩ hp hq
                have hq1 := qm.2.1
                have q5 : 50000000000000 * 1 ≤ 50000000000000 * q := Int.mul_le_mul_of_nonneg_left (by omega) (by omega)
                have q6 : (-50000000000000) * q ≤ (-50000000000000) * 1 := Int.mul_le_mul_of_nonpos_left (by omega) (by omega)
                have key := moon_eq (x := numb d (f + i) mo x) qm
                have hdb : b64 (mDay (mFrom (numb d (f + i) mo x) p q) p q) := by
                  unfold mDay
                  have := hp.2
                  have b1 := Int.ediv_le_self (b := q) (a := mFrom (numb d (f + i) mo x) p q * p)
                  have b2 := (Int.le_ediv_iff_mul_le (show 0 < q by omega) (a := numb d (f + i) mo x) (b := mFrom (numb d (f + i) mo x) p q * p)).mpr g1.1
                  have b3 := (Int.ediv_lt_iff_lt_mul (show 0 < q by omega) (a := mFrom (numb d (f + i) mo x) p q * p) (b := 50000000000000)).mpr (by omega)
                  exact ⟨by omega, by omega⟩
                have hdb2 : b64 (numb d (f + i) mo x - mDay (mFrom (numb d (f + i) mo x + 1) p q - 1) p q) := by
                  unfold mDay
                  have := hp.2
                  have g1 := moon_bd (x := numb d (f + i) mo x + 1) (q := q) (show 0 < p by omega)
                  have g3 := xq_bd qm (x := numb d (f + i) mo x + 1) ⟨by omega, by omega⟩
                  have e0 : (mFrom (numb d (f + i) mo x + 1) p q - 1) * p = mFrom (numb d (f + i) mo x + 1) p q * p - p := by rw [Int.sub_mul, Int.one_mul]
                  rw [e0]
                  have b3 := (Int.ediv_lt_iff_lt_mul (show 0 < q by omega) (a := mFrom (numb d (f + i) mo x + 1) p q * p - p) (b := 50000000000000)).mpr (by omega)
                  have b2 := (Int.le_ediv_iff_mul_le (show 0 < q by omega) (a := -50000000000000) (b := mFrom (numb d (f + i) mo x + 1) p q * p - p)).mpr (by omega)
                  exact ⟨by omega, by omega⟩
                rw [v1 p2, Option.bind_some, u1, Option.bind_some, if_pos (u2.mpr p2), m_numberOf hd (show 442 * s ≤ 35360 by omega) hw ⟨by omega, by omega⟩ q2.1 hx hn, Option.bind_some, iI_J hp, iI_J hq, w3, Option.bind_some, if_neg (j_no ⟨by omega, by omega⟩), w4, Option.bind_some, w6, Option.bind_some, if_c (iJ_eq hdb ⟨by omega, by omega⟩), if_c (show (iJ (numb d (f + i) mo x - mDay (mFrom (numb d (f + i) mo x + 1) p q - 1) p q) = (0 : Int64)) = (numb d (f + i) mo x - mDay (mFrom (numb d (f + i) mo x + 1) p q - 1) p q = 0) from iJ_eq (b := 0) hdb2 ⟨by omega, by omega⟩)]
                by_cases p3 : mDay (mFrom (numb d (f + i) mo x) p q) p q = numb d (f + i) mo x
                · right
                  rw [if_pos p3, if_pos (by have := key.mp p3; omega)]
                  exact ⟨_, _, rfl, rfl, rfl, rfl⟩
                · left
                  rw [if_neg p3, if_neg (fun z => p3 (key.mpr (by omega)))]
                  exact ⟨_, _, rfl, rfl, ⟨i + 1, ⟨by omega, by omega⟩, rfl, rfl⟩, hμ⟩
              · left
                rw [v2 p2, Option.bind_some, u1, Option.bind_some, if_pos rfl, if_neg (fun z => p2 (u2.mp z))]
                exact ⟨_, _, rfl, rfl, ⟨i + 1, ⟨by omega, by omega⟩, rfl, rfl⟩, hμ⟩) fuel fuel 0 (iI f) ⟨0, ⟨by omega, by omega⟩, rfl, by rw [Int.add_zero]⟩ (by show (m - (iI 0).toInt).toNat < fuel; rw [iI_to ⟨by omega, by omega⟩]; omega) (by show (m - (iI 0).toInt).toNat < fuel; rw [iI_to ⟨by omega, by omega⟩]; omega)
          exact ⟨_, _, e1, e2, e3, by rw [e4]; exact h.thr⟩
        · rw [if_neg (fun z => qm (m2.mp z)), if_neg (fun z => qm (m4.mp z))]; exact ⟨_, _, rfl, rfl, rfl, h.thr⟩
      · rw [if_neg (dneg q2), if_neg (dneg q2)]
        by_cases qm : r1 = true
        · rw [if_pos qm]; exact ⟨_, _, rfl, rfl, rfl, h.thr⟩
        · rw [if_neg qm]; exact ⟨_, _, rfl, rfl, rfl, h.thr⟩
    · rw [if_neg (dneg q1), if_neg (dneg (by omega))]; exact ⟨_, _, rfl, rfl, rfl, h.thr⟩
