/-! ===== the date of a day ===== -/
theorem m_dateLoop {d : vDes} (hd : vOk d) {w : Nat → Int32} {b : Nat} (hb : b ≤ 35360) (hw : DR d w b) (lp : Bool) {day : Int} (h0 : 0 ≤ day) (h1 : day < mof d.1 lp d.1.2.2.1.1) {what : Int} (hwh : b32 what) {n : Nat} (hn : 20 ≤ n) : ∃ m, isMo d.1 lp day m ∧ zloop (mdateOf_70 n w (iI (b : Int)) (iI what) (zb lp)) n (0, iI day) = some (if what = 2 then iJ (m : Int) else iJ (day - mof d.1 lp m)) := by
  have h3 := hd.1.2.2.1
  have hB := mof_bd hd.1 lp _ (Nat.le_refl _)
  obtain ⟨r, g1, m, g2, g3⟩ := zloop_inv (f := mdateOf_70 n w (iI (b : Int)) (iI what) (zb lp)) (R := fun s => ∃ i : Nat, i < d.1.2.2.1.1 ∧ mof d.1 lp i ≤ day ∧ s = (iI (i : Int), iI (day - mof d.1 lp i))) (S := fun r => ∃ m, isMo d.1 lp day m ∧ r = if what = 2 then iJ (m : Int) else iJ (day - mof d.1 lp m)) (fun s => d.1.2.2.1.1 - s.1.toNatClampNeg) (by
    rintro s ⟨i, hi, hle, rfl⟩
    unfold mdateOf_70
    dsimp only
    have hmi := mof_bd hd.1 lp i (by omega)
    have hdi := mdy_bd hd.1 lp hi
    rw [m_monthDays hd hb hw lp hi, Option.bind_some, if_c (iI_lt ⟨by omega, by omega⟩ ⟨by omega, by omega⟩), if_c (show (iI what = (2 : Int32)) = (what = 2) from iI_eq (b := 2) hwh ⟨by omega, by omega⟩), iI_J ⟨by omega, by omega⟩, iI_J ⟨by omega, by omega⟩]
    by_cases p : day - mof d.1 lp i < mdy d.1 lp i
    · right
      rw [if_pos p]
      by_cases t : what = 2
      · rw [if_pos t]
        exact ⟨_, rfl, i, ⟨hi, hle, by rw [mof]; omega⟩, by rw [if_pos t]⟩
      · rw [if_neg t]
        exact ⟨_, rfl, i, ⟨hi, hle, by rw [mof]; omega⟩, by rw [if_neg t]⟩
    · left
      rw [if_neg p, Option.bind_some, iI_sub, show (iI (i : Int) + 1 : Int32) = iI ((i + 1 : Nat) : Int) from iI_add _ 1]
      have hlast : i + 1 < d.1.2.2.1.1 := by
        by_cases t : i + 1 = d.1.2.2.1.1
        · rw [← t, mof] at h1; omega
        · omega
      refine ⟨_, rfl, ⟨i + 1, hlast, by rw [mof]; omega, by rw [mof]; congr 2; omega⟩, ?_⟩
      dsimp only
      rw [iI_nat (by omega) (by omega), iI_nat (by omega) (by omega)]; omega) n (0, iI day) ⟨0, by omega, h0, by show _ = (iI 0, iI (day - 0)); rw [Int.sub_zero]; rfl⟩ (by show d.1.2.2.1.1 - (iI 0).toNatClampNeg < n; rw [iI_nat (by omega) (by omega)]; omega)
  exact ⟨m, g2, by rw [g1, g3]⟩
theorem c_tell_no {d : vDes} (hd : vOk d) {x : Int} (hx : b64 x) (h : ¬ hol d x) (what : Int32) {n : Nat} (hn : 7 ≤ n) : k_tellDate n d (iJ x) what = some (-1000000000000000) := by
  unfold k_tellDate
  obtain ⟨r, h1, h2⟩ := c_holds hd hx hn
  rw [h1, Option.bind_some, if_neg (fun z => h (h2.mp z))]
theorem c_tell {d : vDes} (hd : vOk d) {x : Int} (h : hol d x) {what : Int} (hwh : b32 what) {n : Nat} (hn : 250000 ≤ n) : ∃ (y : Int) (m : Nat), isYr d x y ∧ isMo d.1 (dLe d y) (x - sta d y) m ∧ k_tellDate n d (iJ x) (iI what) = some (if what = 0 then iJ y else if what = 1 then iJ (x - sta d y) else if what = 2 then iJ (m : Int) else if what = 3 then iJ (x - sta d y - mof d.1 (dLe d y) m) else if what = 4 then iJ (wkd d.1 x) else -1000000000000000) := by
  have hbx := hol_bd hd h
  obtain ⟨r, h1, h2⟩ := c_holds hd (x := x) ⟨by omega, by omega⟩ (show 7 ≤ n by omega)
  obtain ⟨y, hy, h3⟩ := c_yearOf hd h hn
  have hyb := hy.1
  have hsb := sta_bd hd (y := y) ⟨by omega, by omega⟩
  have hdb := dys_bd hd y
  have hss := sta_succ hd y
  have hy1 := hy.2.1
  have hy2 := hy.2.2
  obtain ⟨m, hm, h4⟩ := c_monthOf hd.1 (dLe d y) (day := x - sta d y) (by omega) (by show x - sta d y < dys d y; omega) (n := n) (by omega)
  have hmb := mof_bd hd.1 (dLe d y) m (Nat.le_of_lt hm.1)
  have hmn := hd.1.2.2.1
  have hml := hm.1
  have hm1 := hm.2.1
  have hwb := wkd_bd hd.1 x
  have hwk := hd.1.2.2.2.2.2.2.1
  refine ⟨y, m, hy, hm, ?_⟩
  unfold k_tellDate
  rw [h1, Option.bind_some, if_pos (h2.mpr h), h3, Option.bind_some, c_leap hd.2.1 ⟨by omega, by omega⟩ (by omega), Option.bind_some, c_start hd ⟨by omega, by omega⟩ (by omega), Option.bind_some, iJ_sub, iJ_I, show lLeap d.2.1 y = dLe d y from rfl, h4, Option.bind_some, c_off hd.1 (dLe d y) (Nat.le_of_lt hm.1) (by omega), Option.bind_some, c_weekday hd.1 ⟨by omega, by omega⟩, Option.bind_some, iI_sub, iI_J ⟨by omega, by omega⟩, iI_J ⟨by omega, by omega⟩, iI_J ⟨by omega, by omega⟩, iI_J ⟨by omega, by omega⟩, iI_J ⟨by omega, by omega⟩]
  rw [if_c (show (iI what = (0 : Int32)) = (what = 0) from iI_eq (b := 0) hwh ⟨by omega, by omega⟩), if_c (show (iI what = (1 : Int32)) = (what = 1) from iI_eq (b := 1) hwh ⟨by omega, by omega⟩), if_c (show (iI what = (2 : Int32)) = (what = 2) from iI_eq (b := 2) hwh ⟨by omega, by omega⟩), if_c (show (iI what = (3 : Int32)) = (what = 3) from iI_eq (b := 3) hwh ⟨by omega, by omega⟩), if_c (show (iI what = (4 : Int32)) = (what = 4) from iI_eq (b := 4) hwh ⟨by omega, by omega⟩)]
  repeat (split; rfl)
  rfl
theorem m_dateOf {d : vDes} (hd : vOk d) {w : Nat → Int32} {b : Nat} (hb : b ≤ 35360) (hw : DR d w b) {x : Int} (h : hol d x) {what : Int} (hwh : 0 ≤ what ∧ what ≤ 4) {n : Nat} (hn : 250000 ≤ n) : ∃ (y : Int) (m : Nat), isYr d x y ∧ isMo d.1 (dLe d y) (x - sta d y) m ∧ mdateOf n w (iI (b : Int)) (iJ x) (iI what) = some (if what = 0 then iJ y else if what = 1 then iJ (x - sta d y) else if what = 2 then iJ (m : Int) else if what = 3 then iJ (x - sta d y - mof d.1 (dLe d y) m) else iJ (wkd d.1 x)) := by
  have hbx := hol_bd hd h
  obtain ⟨y, hy, h3⟩ := m_yearOf hd hb hw h hn
  have hyb := hy.1
  have hsb := sta_bd hd (y := y) ⟨by omega, by omega⟩
  have hdb := dys_bd hd y
  have hss := sta_succ hd y
  have hy1 := hy.2.1
  have hy2 := hy.2.2
  have hall := dys_mof hd y
  obtain ⟨m, hm, h4⟩ := m_dateLoop hd hb hw (dLe d y) (day := x - sta d y) (by omega) (by omega) (what := what) ⟨by omega, by omega⟩ (n := n) (by omega)
  have hwb := wkd_bd hd.1 x
  have hwk := hd.1.2.2.2.2.2.2.1
  refine ⟨y, m, hy, hm, ?_⟩
  unfold mdateOf
  rw [h3, Option.bind_some, m_start hd hb hw ⟨by omega, by omega⟩ (by omega), Option.bind_some, m_leap hd.2.1 hb hw.2.2.2.2.2.2.2.2.1 ⟨by omega, by omega⟩ (by omega), Option.bind_some, iJ_sub, iJ_I, show lLeap d.2.1 y = dLe d y from rfl, h4, m_weekday hd hb hw ⟨by omega, by omega⟩, Option.bind_some, iI_J ⟨by omega, by omega⟩, iI_J ⟨by omega, by omega⟩, if_c (show (iI what = (4 : Int32)) = (what = 4) from iI_eq (b := 4) ⟨by omega, by omega⟩ ⟨by omega, by omega⟩), if_c (show ((2 : Int32) ≤ iI what) = (2 ≤ what) from iI_le (a := 2) ⟨by omega, by omega⟩ ⟨by omega, by omega⟩), if_c (show (iI what = (0 : Int32)) = (what = 0) from iI_eq (b := 0) ⟨by omega, by omega⟩ ⟨by omega, by omega⟩)]
  by_cases q4 : what = 4
  · rw [if_pos q4, if_neg (by omega), if_neg (by omega), if_neg (by omega), if_neg (by omega)]
  · rw [if_neg q4]
    by_cases q2 : 2 ≤ what
    · rw [if_pos q2, if_neg (show ¬ what = 0 by omega), if_neg (show ¬ what = 1 by omega)]
      by_cases q3 : what = 2
      · rw [if_pos q3, if_pos q3]
      · rw [if_neg q3, if_neg q3, if_pos (show what = 3 by omega)]
    · rw [if_neg q2]
      by_cases q3 : what = 0
      · rw [if_pos q3, if_pos q3]
      · rw [if_neg q3, if_neg q3, if_pos (by omega)]
theorem cm_date {d : vDes} (hd : vOk d) {w : Nat → Int32} {b : Nat} (hb : b ≤ 35360) (hw : DR d w b) {x : Int} (h : hol d x) {what : Int} (hwh : 0 ≤ what ∧ what ≤ 4) {n : Nat} (hn : 250000 ≤ n) : ∃ r : Int, (-100000 ≤ r ∧ r ≤ 100000) ∧ k_tellDate n d (iJ x) (iI what) = some (iJ r) ∧ mdateOf n w (iI (b : Int)) (iJ x) (iI what) = some (iJ r) ∧ (what = 4 → r = wkd d.1 x) := by
  obtain ⟨y, m, h1, h2, h3⟩ := c_tell hd h (what := what) ⟨by omega, by omega⟩ hn
  obtain ⟨y', m', h4, h5, h6⟩ := m_dateOf hd hb hw h hwh hn
  have := isYr_u hd h1 h4
  subst this
  have := isMo_u hd.1 h2 h5
  subst this
  have a1 := h1.1
  have a2 := h1.2.1
  have a3 := h1.2.2
  rw [sta_succ hd] at a3
  have a4 := dys_bd hd y
  have a5 := hd.1.2.2.1
  have a6 := h2.1
  have a7 := mof_bd hd.1 (dLe d y) m (by omega)
  have a8 := h2.2.1
  have a9 := wkd_bd hd.1 x
  have a10 := hd.1.2.2.2.2.2.2.1
  by_cases q0 : what = 0
  · rw [if_pos q0] at h3 h6; exact ⟨y, by omega, h3, h6, by omega⟩
  rw [if_neg q0] at h3 h6
  by_cases q1 : what = 1
  · rw [if_pos q1] at h3 h6; exact ⟨_, by omega, h3, h6, by omega⟩
  rw [if_neg q1] at h3 h6
  by_cases q2 : what = 2
  · rw [if_pos q2] at h3 h6; exact ⟨_, by omega, h3, h6, by omega⟩
  rw [if_neg q2] at h3 h6
  by_cases q3 : what = 3
  · rw [if_pos q3] at h3 h6; exact ⟨_, by omega, h3, h6, by omega⟩
  rw [if_neg q3] at h3 h6
  rw [if_pos (show what = 4 by omega)] at h3
  exact ⟨_, by omega, h3, h6, fun _ => rfl⟩
theorem c_tell_wh {d : vDes} (hd : vOk d) {x : Int} (hx : b64 x) {what : Int} (hb : b32 what) (hwh : ¬ (0 ≤ what ∧ what ≤ 4)) {n : Nat} (hn : 250000 ≤ n) : k_tellDate n d (iJ x) (iI what) = some (-1000000000000000) := by
  by_cases h : hol d x
  · obtain ⟨y, m, h1, h2, h3⟩ := c_tell hd h hb hn
    rw [if_neg (by omega), if_neg (by omega), if_neg (by omega), if_neg (by omega), if_neg (by omega)] at h3
    exact h3
  · exact c_tell_no hd hx h _ (by omega)
