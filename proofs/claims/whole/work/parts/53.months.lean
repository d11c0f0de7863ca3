/-! ===== months, dates ===== -/
def mdy (f : vFrame) (lp : Bool) (m : Nat) : Int := (f.2.2.1.2 m).toInt + if lp = true ∧ (m : Int) = f.2.2.2.1.toInt then f.2.1.toInt else 0
def mof (f : vFrame) (lp : Bool) : Nat → Int
  | 0 => 0
  | m + 1 => mof f lp m + mdy f lp m
theorem mof_eq (f : vFrame) (hf : 0 ≤ f.2.2.2.1.toInt) (lp : Bool) : ∀ m, mof f lp m = moS f.2.2.1 m + if lp = true ∧ f.2.2.2.1.toInt < m then f.2.1.toInt else 0
  | 0 => by rw [mof, moS, if_neg (by omega)]; rfl
  | m + 1 => by
    rw [mof, moS, mof_eq f hf lp m, mdy]
    cases lp with
    | false => simp
    | true =>
      simp only [true_and]
      by_cases q : (m : Int) = f.2.2.2.1.toInt
      · rw [if_neg (by omega), if_pos q, if_pos (by omega)]; omega
      · rw [if_neg q]
        by_cases p : f.2.2.2.1.toInt < m
        · rw [if_pos p, if_pos (by omega)]; omega
        · rw [if_neg p, if_neg (by omega)]; omega
theorem mdy_bd {f : vFrame} (hf : fOk f) (lp : Bool) {m : Nat} (hm : m < f.2.2.1.1) : 1 ≤ mdy f lp m ∧ mdy f lp m ≤ 1029 := by
  have h1 := hf.2.2.2.1 m hm
  have h2 := hf.2.1
  unfold mdy; split <;> omega
theorem mof_bd {f : vFrame} (hf : fOk f) (lp : Bool) : ∀ m, m ≤ f.2.2.1.1 → 0 ≤ mof f lp m ∧ mof f lp m ≤ 1029 * (m : Int)
  | 0, _ => by simp [mof]
  | m + 1, hm => by
    have h1 := mof_bd hf lp m (by omega)
    have h2 := mdy_bd hf lp (m := m) (by omega)
    rw [mof]; omega
theorem mof_all {f : vFrame} (hf : fOk f) (lp : Bool) : mof f lp f.2.2.1.1 = f.1.toInt + if lp = true then f.2.1.toInt else 0 := by
  obtain ⟨h1, h2, h3, h4, h5, h6, h7⟩ := hf
  rw [mof_eq f h6.1, h5]
  cases lp with
  | false => simp
  | true => rw [if_pos ⟨rfl, h6.2⟩, if_pos rfl]
theorem mof_mono {f : vFrame} (hf : fOk f) (lp : Bool) {i j : Nat} (hij : i ≤ j) (hj : j ≤ f.2.2.1.1) : mof f lp i ≤ mof f lp j := by
  induction j with
  | zero => rw [show i = 0 by omega]; exact Int.le_refl _
  | succ j ih =>
    by_cases q : i = j + 1
    · rw [q]; exact Int.le_refl _
    · have h1 := ih (by omega) (by omega)
      have h2 := mdy_bd hf lp (m := j) (by omega)
      rw [mof]; omega
theorem zb0 (lp : Bool) : (zb lp = (0 : Int32)) = (lp = false) := by cases lp <;> decide
theorem c_hasMonth {f : vFrame} (hf : fOk f) {m : Int} (hm : b32 m) : k_hasMonth f (iI m) = some (decide (0 ≤ m ∧ m < f.2.2.1.1)) := by
  have h3 := hf.2.2.1
  unfold k_hasMonth
  rw [if_c (show (iI m < (0 : Int32)) = (m < 0) from iI_lt (b := 0) hm ⟨by omega, by omega⟩), nI_iI, if_c (iI_le ⟨by omega, by omega⟩ hm)]
  by_cases q : m < 0
  · rw [if_pos q, decide_eq_false (by omega)]
  · rw [if_neg q]
    by_cases p : (f.2.2.1.1 : Int) ≤ m
    · rw [if_pos p, decide_eq_false (by omega)]
    · rw [if_neg p, decide_eq_true (by omega)]
theorem c_monthDays {f : vFrame} (hf : fOk f) (lp : Bool) {m : Nat} (hm : m < f.2.2.1.1) : k_monthDays f (iI (m : Int)) (zb lp) = some (iI (mdy f lp m)) := by
  have h3 := hf.2.2.1
  have h6 := hf.2.2.2.2.2.1
  unfold k_monthDays k_monthDays_36
  rw [c_hasMonth hf ⟨by omega, by omega⟩, Option.bind_some, if_pos (decide_eq_true (by omega)), zck_t (iI_zin (by omega) (by omega) (by omega)), iI_nat (by omega) (by omega), Int.toNat_natCast, if_c (zb0 lp)]
  rw [if_c (show (iI (m : Int) = f.2.2.2.1) = ((m : Int) = f.2.2.2.1.toInt) by
    conv => lhs; rw [← iI_of f.2.2.2.1]
    exact iI_eq ⟨by omega, by omega⟩ (i_b32 _))]
  unfold mdy
  cases lp with
  | false => rw [if_pos rfl, if_neg (by simp), Int.add_zero, iI_of]
  | true =>
    rw [if_neg (by decide)]
    simp only [true_and]
    by_cases q : (m : Int) = f.2.2.2.1.toInt
    · rw [if_pos q, if_pos q, zck_t (iI_zin (by omega) (by omega) (by omega)), ← iI_add, iI_of, iI_of]
    · rw [if_neg q, if_neg q, Int.add_zero, iI_of]
theorem c_monthDays0 {f : vFrame} (hf : fOk f) (z : Int32) {m : Int} (hb : b32 m) (hm : ¬ (0 ≤ m ∧ m < f.2.2.1.1)) : k_monthDays f (iI m) z = some 0 := by
  unfold k_monthDays
  rw [c_hasMonth hf hb, Option.bind_some, if_neg (by rw [decide_eq_false hm]; decide)]
theorem m_monthDays {d : vDes} (hd : vOk d) {w : Nat → Int32} {b : Nat} (hb : b ≤ 35360) (hw : DR d w b) (lp : Bool) {m : Nat} (hm : m < d.1.2.2.1.1) : mmonthDays w (iI (b : Int)) (iI (m : Int)) (zb lp) = some (iI (mdy d.1 lp m)) := by
  obtain ⟨w0, w1, w2, w4, w5, w6, w7, w24, wl, w12, w13, w14, w15, w16⟩ := hw
  have h3 := hd.1.2.2.1
  unfold mmonthDays
  rw [zck_t (wat2z b 24 m (by omega) (by omega)), zck_t (watz b 5 (by omega)), zck_t (watz b 2 (by omega)), wat2 b 24 m (by omega) (by omega), wat b 2 (by omega), Int.toNat_natCast, w24 m hm, w2, if_c (zb0 lp)]
  rw [if_c (show (iI (m : Int) = w (iI (b : Int) + 5).toNatClampNeg) = ((m : Int) = d.1.2.2.2.1.toInt) by
    rw [wat b 5 (by omega), w5]
    conv => lhs; rw [← iI_of d.1.2.2.2.1]
    exact iI_eq ⟨by omega, by omega⟩ (i_b32 _))]
  unfold mdy
  cases lp with
  | false => rw [if_pos rfl, if_neg (by simp), Int.add_zero, iI_of, Int32.add_zero]
  | true =>
    rw [if_neg (by decide)]
    simp only [true_and]
    by_cases q : (m : Int) = d.1.2.2.2.1.toInt
    · rw [if_pos q, if_pos q, ← iI_add, iI_of, iI_of]
    · rw [if_neg q, if_neg q, Int.add_zero, iI_of, Int32.add_zero]
theorem m_isMonth {d : vDes} (hd : vOk d) {w : Nat → Int32} {b : Nat} (hb : b ≤ 35360) (hw : DR d w b) {m : Int} (hm : b32 m) : misMonth w (iI (b : Int)) (iI m) = some (decide (0 ≤ m ∧ m < d.1.2.2.1.1)) := by
  have h3 := hd.1.2.2.1
  unfold misMonth
  rw [zck_t (watz b 4 (by omega)), wat b 4 (by omega), hw.2.2.2.1, nI_iI, iI_J hm, show (iI (d.1.2.2.1.1 : Int) - 1 : Int32) = iI ((d.1.2.2.1.1 : Int) - 1) from iI_sub _ 1, iI_J ⟨by omega, by omega⟩, show (0 : Int64) = iJ 0 by decide +kernel, m_isIn (b32_64 hm) ⟨by omega, by omega⟩ ⟨by omega, by omega⟩, Option.bind_some]
  congr 1
  exact decide_eq_decide.mpr (by omega)
theorem c_off {f : vFrame} (hf : fOk f) (lp : Bool) {m : Nat} (hm : m ≤ f.2.2.1.1) {n : Nat} (hn : 20 ≤ n) : k_monthOffset n f (iI (m : Int)) (zb lp) = some (iI (mof f lp m)) := by
  have h3 := hf.2.2.1
  obtain ⟨r, h1, h2⟩ := zloop_inv (f := k_monthOffset_5 n f (iI (m : Int)) (zb lp)) (R := fun s => ∃ i : Nat, i ≤ m ∧ s = (iI (mof f lp i), iI (i : Int))) (S := fun r => r = iI (mof f lp m)) (fun s => m - s.2.toNatClampNeg) (by
    rintro s ⟨i, hi, rfl⟩
    unfold k_monthOffset_5
    dsimp only
    rw [if_c (iI_le ⟨by omega, by omega⟩ ⟨by omega, by omega⟩)]
    by_cases q : m ≤ i
    · right
      rw [if_pos (by omega)]
      exact ⟨_, rfl, by rw [show i = m by omega]⟩
    · left
      rw [if_neg (by omega), c_monthDays hf lp (by omega), Option.bind_some, iI_add, show (iI (i : Int) + 1 : Int32) = iI ((i + 1 : Nat) : Int) from iI_add _ 1]
      refine ⟨_, rfl, ⟨i + 1, by omega, rfl⟩, ?_⟩
      dsimp only
      rw [iI_nat (by omega) (by omega), iI_nat (by omega) (by omega)]; omega) n (0, 0) ⟨0, by omega, rfl⟩ (by show m - (iI 0).toNatClampNeg < n; rw [iI_nat (by omega) (by omega)]; omega)
  unfold k_monthOffset
  rw [h1, h2]
theorem m_ahead {d : vDes} (hd : vOk d) {w : Nat → Int32} {b : Nat} (hb : b ≤ 35360) (hw : DR d w b) {y : Int} (hy : -200002 ≤ y ∧ y ≤ 200002) {m : Nat} (hm : m ≤ d.1.2.2.1.1) {n : Nat} (hn : 20 ≤ n) : maheadOf n w (iI (b : Int)) (iJ y) (iI (m : Int)) = some (iI (mof d.1 (dLe d y) m)) := by
  have h3 := hd.1.2.2.1
  unfold maheadOf
  rw [m_leap hd.2.1 hb hw.2.2.2.2.2.2.2.2.1 hy (by omega), Option.bind_some]
  show zloop (maheadOf_14 n w (iI (b : Int)) (iI (m : Int)) (zb (dLe d y))) n (0, 0) = _
  generalize dLe d y = lp
  obtain ⟨r, h1, h2⟩ := zloop_inv (f := maheadOf_14 n w (iI (b : Int)) (iI (m : Int)) (zb lp)) (R := fun s => ∃ i : Nat, i ≤ m ∧ s = (iI (mof d.1 lp i), iI (i : Int))) (S := fun r => r = iI (mof d.1 lp m)) (fun s => m - s.2.toNatClampNeg) (by
    rintro s ⟨i, hi, rfl⟩
    unfold maheadOf_14
    dsimp only
    rw [if_c (iI_le ⟨by omega, by omega⟩ ⟨by omega, by omega⟩)]
    by_cases q : m ≤ i
    · right
      rw [if_pos (by omega)]
      exact ⟨_, rfl, by rw [show i = m by omega]⟩
    · left
      rw [if_neg (by omega), m_monthDays hd hb hw lp (by omega), Option.bind_some, iI_add, show (iI (i : Int) + 1 : Int32) = iI ((i + 1 : Nat) : Int) from iI_add _ 1]
      refine ⟨_, rfl, ⟨i + 1, by omega, rfl⟩, ?_⟩
      dsimp only
      rw [iI_nat (by omega) (by omega), iI_nat (by omega) (by omega)]; omega) n (0, 0) ⟨0, by omega, rfl⟩ (by show m - (iI 0).toNatClampNeg < n; rw [iI_nat (by omega) (by omega)]; omega)
  rw [h1, h2]
/-- the month of a day of a year -/
def isMo (f : vFrame) (lp : Bool) (day : Int) (m : Nat) : Prop := m < f.2.2.1.1 ∧ mof f lp m ≤ day ∧ day < mof f lp (m + 1)
theorem isMo_u {f : vFrame} (hf : fOk f) {lp : Bool} {day : Int} {i j : Nat} (hi : isMo f lp day i) (hj : isMo f lp day j) : i = j := by
  rcases Nat.lt_trichotomy i j with h | h | h
  · have := mof_mono hf lp (show i + 1 ≤ j by omega) (by have := hj.1; omega); have := hi.2.2; have := hj.2.1; omega
  · exact h
  · have := mof_mono hf lp (show j + 1 ≤ i by omega) (by have := hi.1; omega); have := hj.2.2; have := hi.2.1; omega
theorem c_monthOf {f : vFrame} (hf : fOk f) (lp : Bool) {day : Int} (h0 : 0 ≤ day) (h1 : day < f.1.toInt + if lp = true then f.2.1.toInt else 0) {n : Nat} (hn : 20 ≤ n) : ∃ m, isMo f lp day m ∧ k_monthOf n f (iI day) (zb lp) = some (iI (m : Int)) := by
  have h3 := hf.2.2.1
  rw [← mof_all hf lp] at h1
  have hB := mof_bd hf lp _ (Nat.le_refl _)
  obtain ⟨r, g1, m, g2, g3⟩ := zloop_inv (f := k_monthOf_5 n f (zb lp)) (R := fun s => ∃ i : Nat, i < f.2.2.1.1 ∧ mof f lp i ≤ day ∧ s = (iI (day - mof f lp i), iI (i : Int))) (S := fun r => ∃ m, isMo f lp day m ∧ r = iI (m : Int)) (fun s => f.2.2.1.1 - s.2.toNatClampNeg) (by
    rintro s ⟨i, hi, hle, rfl⟩
    unfold k_monthOf_5
    dsimp only
    have hmi := mof_bd hf lp i (by omega)
    have hdi := mdy_bd hf lp hi
    rw [nI_iI, show (iI (f.2.2.1.1 : Int) - 1 : Int32) = iI ((f.2.2.1.1 : Int) - 1) from iI_sub _ 1, if_c (iI_le ⟨by omega, by omega⟩ ⟨by omega, by omega⟩)]
    by_cases q : (f.2.2.1.1 : Int) - 1 ≤ i
    · right
      rw [if_pos q]
      refine ⟨_, rfl, i, ⟨hi, hle, ?_⟩, rfl⟩
      rw [show i + 1 = f.2.2.1.1 by omega]; exact h1
    · rw [if_neg q, c_monthDays hf lp hi, Option.bind_some, if_c (iI_lt ⟨by omega, by omega⟩ ⟨by omega, by omega⟩)]
      by_cases p : day - mof f lp i < mdy f lp i
      · right
        rw [if_pos p]
        exact ⟨_, rfl, i, ⟨hi, hle, by rw [mof]; omega⟩, rfl⟩
      · left
        rw [if_neg p, Option.bind_some, iI_sub, show (iI (i : Int) + 1 : Int32) = iI ((i + 1 : Nat) : Int) from iI_add _ 1]
        refine ⟨_, rfl, ⟨i + 1, by omega, by rw [mof]; omega, by rw [mof]; congr 2; omega⟩, ?_⟩
        dsimp only
        rw [iI_nat (by omega) (by omega), iI_nat (by omega) (by omega)]; omega) n (iI day, 0) ⟨0, by omega, h0, by show _ = (iI (day - 0), iI 0); rw [Int.sub_zero]; rfl⟩ (by show f.2.2.1.1 - (iI 0).toNatClampNeg < n; rw [iI_nat (by omega) (by omega)]; omega)
  refine ⟨m, g2, ?_⟩
  unfold k_monthOf
  rw [g1, g3]
/-! dates -/
def isDt (d : vDes) (y m dd : Int) : Prop := (-100000 ≤ y ∧ y ≤ 100000) ∧ (0 ≤ m ∧ m < d.1.2.2.1.1) ∧ 0 ≤ dd ∧ dd < mdy d.1 (dLe d y) m.toNat
def numb (d : vDes) (y m dd : Int) : Int := sta d y + mof d.1 (dLe d y) m.toNat + dd
theorem dys_mof {d : vDes} (hd : vOk d) (y : Int) : dys d y = mof d.1 (dLe d y) d.1.2.2.1.1 := by rw [mof_all hd.1]; rfl
theorem numb_in {d : vDes} (hd : vOk d) {y m dd : Int} (h : isDt d y m dd) : sta d y ≤ numb d y m dd ∧ numb d y m dd < sta d (y + 1) := by
  obtain ⟨hy, hm, h0, h1⟩ := h
  have a1 := mof_bd hd.1 (dLe d y) m.toNat (by omega)
  have a2 := mof_mono hd.1 (dLe d y) (i := m.toNat + 1) (j := d.1.2.2.1.1) (by omega) (Nat.le_refl _)
  rw [mof] at a2
  rw [sta_succ hd, dys_mof hd]
  unfold numb; omega
theorem numb_hol {d : vDes} (hd : vOk d) {y m dd : Int} (h : isDt d y m dd) : hol d (numb d y m dd) := by
  have a := numb_in hd h
  have b := sta_le hd (show -100000 ≤ y from h.1.1)
  have c := sta_le hd (show y + 1 ≤ 100001 by have := h.1.2; omega)
  exact ⟨by omega, by omega⟩
theorem hol_bd {d : vDes} (hd : vOk d) {x : Int} (h : hol d x) : -205802058 ≤ x ∧ x ≤ 205802058 := by
  have a := sta_bd hd (y := -100000) ⟨by omega, by omega⟩
  have b := sta_bd hd (y := 100001) ⟨by omega, by omega⟩
  have := h.1; have := h.2; omega
theorem c_isYear {y : Int} (hy : b32 y) : k_isYear (iI y) = some (decide (-100000 ≤ y ∧ y ≤ 100000)) := by
  unfold k_isYear
  rw [show (-100000 : Int32) = iI (-100000) by decide +kernel, show (100000 : Int32) = iI 100000 by decide +kernel, if_c (iI_lt hy ⟨by omega, by omega⟩), if_c (iI_lt ⟨by omega, by omega⟩ hy)]
  by_cases q : y < -100000
  · rw [if_pos q, decide_eq_false (by omega)]
  · rw [if_neg q]
    by_cases p : 100000 < y
    · rw [if_pos p, decide_eq_false (by omega)]
    · rw [if_neg p, decide_eq_true (by omega)]
theorem m_isYear {y : Int} (hy : b64 y) : misYear (iJ y) = some (decide (-100000 ≤ y ∧ y ≤ 100000)) := by
  unfold misYear
  rw [show (-100000 : Int64) = iJ (-100000) by decide +kernel, show (100000 : Int64) = iJ 100000 by decide +kernel, m_isIn hy ⟨by omega, by omega⟩ ⟨by omega, by omega⟩, Option.bind_some]
theorem c_numberOf {d : vDes} (hd : vOk d) {y m dd : Int} (hy : b32 y) (hm : b32 m) (hdd : b32 dd) {n : Nat} (hn : 250000 ≤ n) : (isDt d y m dd → k_numberOf n d (iI y) (iI m) (iI dd) = some (iJ (numb d y m dd))) ∧ (¬ isDt d y m dd → k_numberOf n d (iI y) (iI m) (iI dd) = some (-1000000000000000)) := by
  have h3 := hd.1.2.2.1
  unfold k_numberOf
  rw [c_isYear hy, Option.bind_some, c_hasMonth hd.1 hm, Option.bind_some]
  by_cases q : -100000 ≤ y ∧ y ≤ 100000
  · rw [if_pos (decide_eq_true q)]
    by_cases p : 0 ≤ m ∧ m < d.1.2.2.1.1
    · rw [if_pos (decide_eq_true p), if_c (show ((0 : Int32) ≤ iI dd) = (0 ≤ dd) from iI_le (a := 0) ⟨by omega, by omega⟩ hdd)]
      by_cases r : 0 ≤ dd
      · obtain ⟨k, hk⟩ : ∃ k : Nat, m = k := ⟨m.toNat, by omega⟩
        subst hk
        have hbd := mdy_bd hd.1 (dLe d y) (m := k) (by omega)
        rw [if_pos r, c_leap hd.2.1 ⟨by omega, by omega⟩ (by omega), Option.bind_some, show lLeap d.2.1 y = dLe d y from rfl, c_monthDays hd.1 (dLe d y) (by omega), Option.bind_some, if_c (iI_lt hdd ⟨by omega, by omega⟩)]
        have hof := mof_bd hd.1 (dLe d y) k (by omega)
        by_cases t : dd < mdy d.1 (dLe d y) k
        · rw [if_pos t, c_start hd ⟨by omega, by omega⟩ (by omega), Option.bind_some, c_off hd.1 (dLe d y) (by omega) (by omega), Option.bind_some, iI_J ⟨by omega, by omega⟩, iI_J hdd, iJ_add, iJ_add]
          exact ⟨fun _ => rfl, fun z => absurd ⟨q, p, r, by simpa using t⟩ z⟩
        · rw [if_neg t]
          exact ⟨fun z => absurd (by simpa using z.2.2.2) t, fun _ => rfl⟩
      · rw [if_neg r]
        exact ⟨fun z => absurd z.2.2.1 r, fun _ => rfl⟩
    · rw [if_neg (by rw [decide_eq_false p]; decide)]
      exact ⟨fun z => absurd z.2.1 p, fun _ => rfl⟩
  · rw [if_neg (by rw [decide_eq_false q]; decide)]
    exact ⟨fun z => absurd z.1 q, fun _ => rfl⟩
theorem m_isDate {d : vDes} (hd : vOk d) {w : Nat → Int32} {b : Nat} (hb : b ≤ 35360) (hw : DR d w b) {y m dd : Int} (hy : b64 y) (hm : b32 m) (hdd : b32 dd) {n : Nat} (hn : 250000 ≤ n) : ∃ r, misDate n w (iI (b : Int)) (iJ y) (iI m) (iI dd) = some r ∧ (r = true ↔ isDt d y m dd) := by
  have h3 := hd.1.2.2.1
  unfold misDate
  rw [m_isYear hy, Option.bind_some, m_isMonth hd hb hw hm, Option.bind_some]
  by_cases q : -100000 ≤ y ∧ y ≤ 100000
  · rw [if_pos (decide_eq_true q)]
    by_cases p : 0 ≤ m ∧ m < d.1.2.2.1.1
    · rw [if_pos (decide_eq_true p)]
      obtain ⟨k, hk⟩ : ∃ k : Nat, m = k := ⟨m.toNat, by omega⟩
      subst hk
      have hbd := mdy_bd hd.1 (dLe d y) (m := k) (by omega)
      rw [m_leap hd.2.1 hb hw.2.2.2.2.2.2.2.2.1 ⟨by omega, by omega⟩ (by omega), Option.bind_some, show lLeap d.2.1 y = dLe d y from rfl, m_monthDays hd hb hw (dLe d y) (by omega), Option.bind_some, show (iI (mdy d.1 (dLe d y) k) - 1 : Int32) = iI (mdy d.1 (dLe d y) k - 1) from iI_sub _ 1, iI_J hdd, iI_J ⟨by omega, by omega⟩, show (0 : Int64) = iJ 0 by decide +kernel, m_isIn (b32_64 hdd) ⟨by omega, by omega⟩ ⟨by omega, by omega⟩, Option.bind_some]
      by_cases t : 0 ≤ dd ∧ dd ≤ mdy d.1 (dLe d y) k - 1
      · rw [if_pos (decide_eq_true t)]
        exact ⟨true, rfl, ⟨fun _ => ⟨q, p, t.1, by simp only [Int.toNat_natCast]; omega⟩, fun _ => rfl⟩⟩
      · rw [if_neg (by rw [decide_eq_false t]; decide)]
        exact ⟨false, rfl, ⟨fun z => (by cases z), fun z => absurd ⟨z.2.2.1, by have := z.2.2.2; simp only [Int.toNat_natCast] at this; omega⟩ t⟩⟩
    · rw [if_neg (by rw [decide_eq_false p]; decide)]
      exact ⟨false, rfl, ⟨fun z => (by cases z), fun z => absurd z.2.1 p⟩⟩
  · rw [if_neg (by rw [decide_eq_false q]; decide)]
    exact ⟨false, rfl, ⟨fun z => (by cases z), fun z => absurd z.1 q⟩⟩
theorem m_numberOf {d : vDes} (hd : vOk d) {w : Nat → Int32} {b : Nat} (hb : b ≤ 35360) (hw : DR d w b) {y m dd : Int} (hy : -100000 ≤ y ∧ y ≤ 100000) (hm : 0 ≤ m ∧ m < d.1.2.2.1.1) (hdd : b32 dd) {n : Nat} (hn : 250000 ≤ n) : mnumberOf n w (iI (b : Int)) (iJ y) (iI m) (iI dd) = some (iJ (numb d y m dd)) := by
  have h3 := hd.1.2.2.1
  obtain ⟨k, hk⟩ : ∃ k : Nat, m = k := ⟨m.toNat, by omega⟩
  subst hk
  have hof := mof_bd hd.1 (dLe d y) k (by omega)
  unfold mnumberOf
  rw [m_start hd hb hw ⟨by omega, by omega⟩ (by omega), Option.bind_some, m_ahead hd hb hw ⟨by omega, by omega⟩ (by omega) (by omega), Option.bind_some, iI_J ⟨by omega, by omega⟩, iI_J hdd, iJ_add, iJ_add]
  rfl
def wkd (f : vFrame) (x : Int) : Int := (x + f.2.2.2.2.2.toInt) % f.2.2.2.2.1.toInt
theorem wkd_bd {f : vFrame} (hf : fOk f) (x : Int) : 0 ≤ wkd f x ∧ wkd f x < f.2.2.2.2.1.toInt := by
  have h7 := hf.2.2.2.2.2.2.1
  exact ⟨Int.emod_nonneg _ (by omega), Int.emod_lt_of_pos _ (by omega)⟩
theorem c_weekday {f : vFrame} (hf : fOk f) {x : Int} (hx : -1000000000000000 ≤ x ∧ x ≤ 1000000000000000) : k_weekdayOf f (iJ x) = some (iI (wkd f x)) := by
  have h7 := hf.2.2.2.2.2.2
  unfold k_weekdayOf
  rw [e64, e64, iJ_add, f_modJ ⟨by omega, by omega⟩ (by omega) (by omega) ⟨by omega, by omega⟩, Option.bind_some, iJ_I]
  rfl
theorem m_weekday {d : vDes} (hd : vOk d) {w : Nat → Int32} {b : Nat} (hb : b ≤ 35360) (hw : DR d w b) {x : Int} (hx : -1000000000000000 ≤ x ∧ x ≤ 1000000000000000) : mweekdayOf w (iI (b : Int)) (iJ x) = some (iI (wkd d.1 x)) := by
  have h7 := hd.1.2.2.2.2.2.2
  obtain ⟨w0, w1, w2, w4, w5, w6, w7, w24, wl, w12, w13, w14, w15, w16⟩ := hw
  unfold mweekdayOf
  rw [zck_t (watz b 7 (by omega)), zck_t (watz b 6 (by omega)), wat b 7 (by omega), wat b 6 (by omega), w6, w7, e64, e64, iJ_add, m_rest ⟨by omega, by omega⟩ (by omega) (by omega) ⟨by omega, by omega⟩, Option.bind_some, iJ_I]
  rfl
