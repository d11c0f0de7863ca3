/-! ===== calls: moons, age, has ===== -/
def moonOk (p q : Int) : Prop := (1 ≤ p ∧ p ≤ 10000000) ∧ (1 ≤ q ∧ q ≤ 100000) ∧ 2 * q ≤ p ∧ p ≤ 1000 * q
theorem c_isMoon {p q : Int} (hp : b32 p) (hq : b32 q) : ∃ r, k_isMoon (iI p) (iI q) = some r ∧ (r = true ↔ moonOk p q) := by
  unfold k_isMoon k_isMoon_28 k_isMoon_29 moonOk
  rw [if_c (show (iI p < (1 : Int32)) = (p < 1) from iI_lt (b := 1) hp ⟨by omega, by omega⟩), if_c (show ((10000000 : Int32) < iI p) = (10000000 < p) from iI_lt (a := 10000000) ⟨by omega, by omega⟩ hp), if_c (show (iI q < (1 : Int32)) = (q < 1) from iI_lt (b := 1) hq ⟨by omega, by omega⟩), if_c (show ((100000 : Int32) < iI q) = (100000 < q) from iI_lt (a := 100000) ⟨by omega, by omega⟩ hq), if_pos rfl, if_neg (show ¬ (1 : Int32) = 0 by decide)]
  by_cases a1 : p < 1
  · rw [if_pos a1]; exact ⟨false, rfl, by simp; omega⟩
  rw [if_neg a1]
  by_cases a2 : 10000000 < p
  · rw [if_pos a2]; exact ⟨false, rfl, by simp; omega⟩
  rw [if_neg a2]
  by_cases a3 : q < 1
  · rw [if_pos a3]; exact ⟨false, rfl, by simp; omega⟩
  rw [if_neg a3]
  by_cases a4 : 100000 < q
  · rw [if_pos a4]; exact ⟨false, rfl, by simp; omega⟩
  rw [if_neg a4, show (2 : Int32) = iI 2 by decide +kernel, show (1000 : Int32) = iI 1000 by decide +kernel, iI_mul, iI_mul, if_c (iI_lt hp ⟨by omega, by omega⟩), if_c (iI_lt ⟨by omega, by omega⟩ hp)]
  by_cases a5 : p < 2 * q
  · rw [if_pos a5]; exact ⟨false, rfl, by simp; omega⟩
  rw [if_neg a5]
  by_cases a6 : 1000 * q < p
  · rw [if_pos a6]; exact ⟨false, rfl, by simp; omega⟩
  rw [if_neg a6]; exact ⟨true, rfl, by simp; omega⟩
theorem m_isMoon {p q : Int} (hp : b32 p) (hq : b32 q) : ∃ r, misMoon (iI p) (iI q) = some r ∧ (r = true ↔ moonOk p q) := by
  unfold misMoon moonOk
  have := hp.1; have := hp.2; have := hq.1; have := hq.2
  rw [iI_J hp, iI_J hq, show (1 : Int64) = iJ 1 by decide +kernel, show (10000000 : Int64) = iJ 10000000 by decide +kernel, show (100000 : Int64) = iJ 100000 by decide +kernel, show (2 : Int64) = iJ 2 by decide +kernel, show (1000 : Int64) = iJ 1000 by decide +kernel, m_isIn (b32_64 hp) ⟨by omega, by omega⟩ ⟨by omega, by omega⟩, Option.bind_some, m_isIn (b32_64 hq) ⟨by omega, by omega⟩ ⟨by omega, by omega⟩, Option.bind_some, iJ_mul, iJ_mul, if_c (iJ_lt (b32_64 hp) ⟨by omega, by omega⟩), if_c (iJ_lt ⟨by omega, by omega⟩ (b32_64 hp))]
  by_cases a1 : 1 ≤ p ∧ p ≤ 10000000
  · rw [if_pos (decide_eq_true a1)]
    by_cases a2 : 1 ≤ q ∧ q ≤ 100000
    · rw [if_pos (decide_eq_true a2)]
      by_cases a5 : p < 2 * q
      · rw [if_pos a5]; exact ⟨false, rfl, by simp; omega⟩
      rw [if_neg a5]
      by_cases a6 : 1000 * q < p
      · rw [if_pos a6]; exact ⟨false, rfl, by simp; omega⟩
      rw [if_neg a6]; exact ⟨true, rfl, by simp; omega⟩
    · rw [if_neg (dneg a2)]; exact ⟨false, rfl, by simp; omega⟩
  · rw [if_neg (dneg a1)]; exact ⟨false, rfl, by simp; omega⟩
def mFrom (x p q : Int) : Int := -((-x * q) / p)
def mDay (k p q : Int) : Int := k * p / q
theorem moon_bd {x p q : Int} (hp : 0 < p) : x * q ≤ mFrom x p q * p ∧ mFrom x p q * p < x * q + p := by
  unfold mFrom
  have h1 := Int.mul_ediv_add_emod (-x * q) p
  have h2 := Int.emod_nonneg (-x * q) (show p ≠ 0 by omega)
  have h3 := Int.emod_lt_of_pos (-x * q) hp
  have h4 : -(-x * q / p) * p = -(p * (-x * q / p)) := by rw [Int.neg_mul, Int.mul_comm]
  have h5 : -x * q = -(x * q) := Int.neg_mul _ _
  omega
theorem xq_bd {x p q : Int} (h : moonOk p q) (hx : -300000000 ≤ x ∧ x ≤ 300000000) : -30000000000000 ≤ x * q ∧ x * q ≤ 30000000000000 := by
  obtain ⟨h1, h2, h3⟩ := h
  have := mul_bd (a := x) (b := q) (A := 300000000) (B := 100000) hx ⟨by omega, by omega⟩
  omega
theorem mf_bd {x p q : Int} (h : moonOk p q) (hx : -300000000 ≤ x ∧ x ≤ 300000000) : -40000000000000 ≤ mFrom x p q ∧ mFrom x p q ≤ 40000000000000 := by
  have h1 := moon_bd (x := x) (q := q) (show 0 < p by have := h.1; omega)
  have h2 := xq_bd h hx
  have hp := h.1
  constructor
  · rcases Int.lt_or_le (mFrom x p q) (-40000000000000) with z | z
    · have := Int.mul_le_mul_of_nonneg_right (show mFrom x p q ≤ -40000000000000 by omega) (show 0 ≤ p by omega)
      have : (-40000000000000) * p ≤ (-40000000000000) * 1 := Int.mul_le_mul_of_nonpos_left (by omega) (by omega)
      omega
    · exact z
  · rcases Int.lt_or_le 40000000000000 (mFrom x p q) with z | z
    · have := Int.mul_le_mul_of_nonneg_right (show 40000000000000 ≤ mFrom x p q by omega) (show 0 ≤ p by omega)
      have : 40000000000000 * 1 ≤ 40000000000000 * p := Int.mul_le_mul_of_nonneg_left (by omega) (by omega)
      omega
    · exact z
theorem cm_from {x p q : Int} (h : moonOk p q) (hx : -300000000 ≤ x ∧ x ≤ 300000000) (hp : b32 p) (hq : b32 q) : k_moonFrom (iJ x) (iI p) (iI q) = some (iJ (mFrom x p q)) ∧ mmoonFrom (iJ x) (iJ p) (iJ q) = some (iJ (mFrom x p q)) := by
  have h2 := xq_bd h hx
  have hp1 := h.1
  have h5 : -x * q = -(x * q) := Int.neg_mul _ _
  unfold k_moonFrom mmoonFrom mFrom
  rw [iI_J hp, iI_J hq, iJ_neg, iJ_mul, f_divJ ⟨by omega, by omega⟩ (by omega) (by omega) (b32_64 hp), m_floor ⟨by omega, by omega⟩ (by omega) (by omega) (b32_64 hp), Option.bind_some, iJ_neg]
  exact ⟨rfl, rfl⟩
theorem cm_mday {k p q : Int} (h : moonOk p q) (hk : -50000000000000 ≤ k * p ∧ k * p ≤ 50000000000000) (hp : b32 p) (hq : b32 q) : k_moonDay (iJ k) (iI p) (iI q) = some (iJ (mDay k p q)) ∧ mmoonDay (iJ k) (iJ p) (iJ q) = some (iJ (mDay k p q)) := by
  have hq1 := h.2.1
  unfold k_moonDay mmoonDay mDay
  rw [iI_J hp, iI_J hq, iJ_mul, f_divJ ⟨by omega, by omega⟩ (by omega) (by omega) (b32_64 hq), m_floor ⟨by omega, by omega⟩ (by omega) (by omega) (b32_64 hq), Option.bind_some]
  exact ⟨rfl, rfl⟩
theorem hc_moons : HC_moons Inv := by
  intro A tp dv cs cv jv bo hg lw sb F G tq w oc z0 z1 z2 z3 z4 h
  have hn := hn_f
  unfold l_moons mmoons mmoons_137
  rcases atD h.2.2.1 z0 with ⟨h1, h2⟩ | ⟨s, d, hs, rfl, hdv, h1, h2, h3, hd, hw⟩
  · rw [h1, h2]; exact ⟨_, _, rfl, rfl, rfl, h.thr⟩
  · obtain ⟨y, hy, rfl⟩ := ex32 z1
    obtain ⟨p, hp, rfl⟩ := ex32 z2
    obtain ⟨q, hq, rfl⟩ := ex32 z3
    obtain ⟨k, hk, rfl⟩ := ex32 z4
    obtain ⟨r1, m1, m2⟩ := c_isMoon hp hq
    obtain ⟨r2, m3, m4⟩ := m_isMoon hp hq
    have hin : misIn (iJ k) 0 2 = some (decide (0 ≤ k ∧ k ≤ 2)) := by
      rw [show (0 : Int64) = iJ 0 by decide +kernel, show (2 : Int64) = iJ 2 by decide +kernel]
      exact m_isIn (b32_64 hk) ⟨by omega, by omega⟩ ⟨by omega, by omega⟩
    simp only [h1, h2, h3, Option.bind_some, zO_s, ↓reduceIte, iI_J hy, m_isYear (b32_64 hy), c_isYear hy, m1, m3, iI_J hk, hin, iI_J hp, iI_J hq]
    by_cases qy : -100000 ≤ y ∧ y ≤ 100000
    · rw [if_pos (decide_eq_true qy), if_pos (decide_eq_true qy)]
      by_cases qm : moonOk p q
      · have b1 := sta_bd hd (y := y) ⟨by omega, by omega⟩
        have b2 := sta_bd hd (y := y + 1) ⟨by omega, by omega⟩
        have b3 := dys_bd hd y
        have b4 := sta_succ hd y
        have pp := qm.1
        obtain ⟨f1, f2⟩ := cm_from qm (x := sta d y) ⟨by omega, by omega⟩ hp hq
        obtain ⟨f3, f4⟩ := cm_from qm (x := sta d (y + 1)) ⟨by omega, by omega⟩ hp hq
        have g1 := moon_bd (x := sta d y) (q := q) (show 0 < p by omega)
        have g2 := moon_bd (x := sta d (y + 1)) (q := q) (show 0 < p by omega)
        have g3 := xq_bd qm (x := sta d y) ⟨by omega, by omega⟩
        have g4 := xq_bd qm (x := sta d (y + 1)) ⟨by omega, by omega⟩
        have n1 := mf_bd qm (x := sta d y) ⟨by omega, by omega⟩
        have n2 := mf_bd qm (x := sta d (y + 1)) ⟨by omega, by omega⟩
        obtain ⟨d1, d2⟩ := cm_mday qm (k := mFrom (sta d y) p q) ⟨by omega, by omega⟩ hp hq
        obtain ⟨d3, d4⟩ := cm_mday qm (k := mFrom (sta d (y + 1)) p q - 1) ⟨by rw [Int.sub_mul]; omega, by rw [Int.sub_mul]; omega⟩ hp hq
        rw [if_pos (m2.mpr qm), if_pos (m4.mpr qm), show (iI y + 1 : Int32) = iI (y + 1) from iI_add _ 1, c_start hd ⟨by omega, by omega⟩ (by omega), Option.bind_some, m_start hd (by omega) hw ⟨by omega, by omega⟩ (by omega), Option.bind_some, f1, f2, Option.bind_some, Option.bind_some, c_start hd ⟨by omega, by omega⟩ (by omega), Option.bind_some, m_days hd (by omega) hw ⟨by omega, by omega⟩ (by omega), Option.bind_some, iI_J ⟨by omega, by omega⟩, iJ_add, ← b4, f3, f4, Option.bind_some, Option.bind_some]
        rw [if_c (show (iI k = (0 : Int32)) = (k = 0) from iI_eq (b := 0) hk ⟨by omega, by omega⟩), if_c (show (iI k = (0 : Int32)) = (k = 0) from iI_eq (b := 0) hk ⟨by omega, by omega⟩), if_c (show (iI k = (1 : Int32)) = (k = 1) from iI_eq (b := 1) hk ⟨by omega, by omega⟩), if_c (show (iI k = (1 : Int32)) = (k = 1) from iI_eq (b := 1) hk ⟨by omega, by omega⟩), if_c (show (iI k = (2 : Int32)) = (k = 2) from iI_eq (b := 2) hk ⟨by omega, by omega⟩), if_c (iJ_eq (a := mFrom (sta d (y + 1)) p q) (b := mFrom (sta d y) p q) ⟨by omega, by omega⟩ ⟨by omega, by omega⟩), if_c (iJ_eq (a := mFrom (sta d (y + 1)) p q) (b := mFrom (sta d y) p q) ⟨by omega, by omega⟩ ⟨by omega, by omega⟩), if_c (iJ_eq (a := mFrom (sta d y) p q) (b := mFrom (sta d (y + 1)) p q) ⟨by omega, by omega⟩ ⟨by omega, by omega⟩), show (iJ (mFrom (sta d (y + 1)) p q) - 1 : Int64) = iJ (mFrom (sta d (y + 1)) p q - 1) from iJ_sub _ 1, d1, d2, d3, d4]
        simp only [Option.bind_some]
        by_cases k0 : k = 0
        · rw [if_pos k0, if_pos k0, if_pos (decide_eq_true (by omega))]
          exact ⟨_, _, rfl, rfl, rfl, h.thr⟩
        rw [if_neg k0, if_neg k0]
        by_cases k1 : k = 1
        · rw [if_pos k1, if_pos k1, if_pos (decide_eq_true (by omega))]
          by_cases e : mFrom (sta d (y + 1)) p q = mFrom (sta d y) p q
          · rw [if_pos e, if_pos e.symm]; exact ⟨_, _, rfl, rfl, rfl, h.thr⟩
          · rw [if_neg e, if_neg (fun z => e z.symm)]; exact ⟨_, _, rfl, rfl, rfl, h.thr⟩
        rw [if_neg k1, if_neg k1]
        by_cases k2 : k = 2
        · rw [if_pos k2, if_pos (decide_eq_true (by omega))]
          by_cases e : mFrom (sta d (y + 1)) p q = mFrom (sta d y) p q
          · rw [if_pos e, if_pos e.symm]; exact ⟨_, _, rfl, rfl, rfl, h.thr⟩
          · rw [if_neg e, if_neg (fun z => e z.symm)]; exact ⟨_, _, rfl, rfl, rfl, h.thr⟩
        rw [if_neg k2, if_neg (dneg (by omega))]
        exact ⟨_, _, rfl, rfl, rfl, h.thr⟩
      · rw [if_neg (fun z => qm (m2.mp z)), if_neg (fun z => qm (m4.mp z))]
        exact ⟨_, _, rfl, rfl, rfl, h.thr⟩
    · rw [if_neg (dneg qy), if_neg (dneg qy)]
      exact ⟨_, _, rfl, rfl, rfl, h.thr⟩
theorem cm_age {x p q : Int} (h : moonOk p q) (hx : -299999999 ≤ x ∧ x ≤ 299999999) (hp : b32 p) (hq : b32 q) : k_moonFrom (iJ x + 1) (iI p) (iI q) = some (iJ (mFrom (x + 1) p q)) ∧ k_moonDay (iJ (mFrom (x + 1) p q) - 1) (iI p) (iI q) = some (iJ (mDay (mFrom (x + 1) p q - 1) p q)) ∧ mageOf (iJ x) (iJ p) (iJ q) = some (iJ (x - mDay (mFrom (x + 1) p q - 1) p q)) := by
  have pp := h.1
  obtain ⟨f1, f2⟩ := cm_from h (x := x + 1) ⟨by omega, by omega⟩ hp hq
  have g1 := moon_bd (x := x + 1) (q := q) (show 0 < p by omega)
  have g3 := xq_bd h (x := x + 1) ⟨by omega, by omega⟩
  obtain ⟨d3, d4⟩ := cm_mday h (k := mFrom (x + 1) p q - 1) ⟨by rw [Int.sub_mul]; omega, by rw [Int.sub_mul]; omega⟩ hp hq
  unfold mageOf
  rw [show (iJ x + 1 : Int64) = iJ (x + 1) from iJ_add _ 1, f1, f2, Option.bind_some, show (iJ (mFrom (x + 1) p q) - 1 : Int64) = iJ (mFrom (x + 1) p q - 1) from iJ_sub _ 1, d3, d4, Option.bind_some, iJ_sub]
  exact ⟨rfl, rfl, rfl⟩
theorem hc_age : HC_age Inv := by
  intro A tp dv cs cv jv bo hg lw sb F G tq w oc z0 z1 z2 z3 h
  have hn := hn_f
  unfold l_age mage
  rcases atD h.2.2.1 z0 with ⟨h1, h2⟩ | ⟨s, d, hs, rfl, hdv, h1, h2, h3, hd, hw⟩
  · rw [h1, h2]; exact ⟨_, _, rfl, rfl, rfl, h.thr⟩
  · obtain ⟨x, hx, rfl⟩ := ex64 z1
    obtain ⟨p, hp, rfl⟩ := ex32 z2
    obtain ⟨q, hq, rfl⟩ := ex32 z3
    obtain ⟨r1, m1, m2⟩ := c_isMoon hp hq
    obtain ⟨r2, m3, m4⟩ := m_isMoon hp hq
    obtain ⟨r, g1, g2⟩ := m_isDay hd (b := 442 * s) (by omega) hw hx (n := fuel) (by omega)
    obtain ⟨r', g3, g4⟩ := c_holds hd hx (n := fuel) (by omega)
    simp only [h1, h2, h3, Option.bind_some, zO_s, ↓reduceIte, m1, m3, iI_J hp, iI_J hq, g1, g3]
    by_cases qm : moonOk p q
    · rw [if_pos (m2.mpr qm), if_pos (m4.mpr qm)]
      by_cases qh : hol d x
      · have := hol_bd hd qh
        obtain ⟨e1, e2, e3⟩ := cm_age qm (x := x) ⟨by omega, by omega⟩ hp hq
        rw [if_pos (g2.mpr qh), if_pos (g4.mpr qh), e1, Option.bind_some, e2, e3, Option.bind_some, iJ_sub]
        exact ⟨_, _, rfl, rfl, rfl, h.thr⟩
      · rw [if_neg (fun z => qh (g2.mp z)), if_neg (fun z => qh (g4.mp z))]
        exact ⟨_, _, rfl, rfl, rfl, h.thr⟩
    · rw [if_neg (fun z => qm (m2.mp z)), if_neg (fun z => qm (m4.mp z))]
      by_cases qh : r = true
      · rw [if_pos qh]; exact ⟨_, _, rfl, rfl, rfl, h.thr⟩
      · rw [if_neg qh]; exact ⟨_, _, rfl, rfl, rfl, h.thr⟩
