/-! ===== calls: drift, extreme, passes, steady ===== -/
def tG (t : vTrue) : Int := (Int.gcd t.2.2.1.toInt t.2.2.2.2.toInt : Int)
def tL (t : vTrue) : Int := t.2.2.1.toInt / tG t * t.2.2.2.2.toInt
def tY (t : vTrue) : Int := (t.1.toInt * t.2.2.1.toInt + t.2.1.toInt) * (t.2.2.2.2.toInt / tG t)
def tB (t : vTrue) : Int := t.2.2.2.1.toInt * (t.2.2.1.toInt / tG t)
theorem t_facts {t : vTrue} (ht : tOk t) : (1 ≤ tG t ∧ tG t ≤ 1000) ∧ tG t * tL t = t.2.2.1.toInt * t.2.2.2.2.toInt ∧ tG t * tY t = (t.1.toInt * t.2.2.1.toInt + t.2.1.toInt) * t.2.2.2.2.toInt ∧ tG t * tB t = t.2.2.2.1.toInt * t.2.2.1.toInt ∧ tL t / t.2.2.1.toInt = t.2.2.2.2.toInt / tG t ∧ tL t / t.2.2.2.2.toInt = t.2.2.1.toInt / tG t ∧ (1 ≤ tL t ∧ tL t ≤ 1000000000) ∧ (0 ≤ tY t ∧ tY t ≤ 1000000000000) ∧ (0 ≤ tB t ∧ tB t < tL t) := by
  obtain ⟨t1, t2, t3, t4, t5⟩ := ht
  have hg1 : 1 ≤ Int.gcd t.2.2.1.toInt t.2.2.2.2.toInt := Int.gcd_pos_of_ne_zero_right _ (by omega)
  have hd1 : tG t ∣ t.2.2.1.toInt := Int.gcd_dvd_left ..
  have hd2 : tG t ∣ t.2.2.2.2.toInt := Int.gcd_dvd_right ..
  have hG : 1 ≤ tG t := by unfold tG; omega
  obtain ⟨q, hq⟩ := hd1
  obtain ⟨b, hb⟩ := hd2
  have eq : t.2.2.1.toInt / tG t = q := by rw [hq, Int.mul_ediv_cancel_left _ (by omega)]
  have eb : t.2.2.2.2.toInt / tG t = b := by rw [hb, Int.mul_ediv_cancel_left _ (by omega)]
  have hq1 : 1 ≤ q := by
    rcases Int.lt_or_le q 1 with z | z
    · have := Int.mul_nonpos_of_nonneg_of_nonpos (show 0 ≤ tG t by omega) (show q ≤ 0 by omega); omega
    · exact z
  have hb1 : 1 ≤ b := by
    rcases Int.lt_or_le b 1 with z | z
    · have := Int.mul_nonpos_of_nonneg_of_nonpos (show 0 ≤ tG t by omega) (show b ≤ 0 by omega); omega
    · exact z
  have hGb : tG t * 1 ≤ tG t * b := Int.mul_le_mul_of_nonneg_left hb1 (by omega)
  have hqq : 1 * q ≤ tG t * q := Int.mul_le_mul_of_nonneg_right hG (by omega)
  have hbb : 1 * b ≤ tG t * b := Int.mul_le_mul_of_nonneg_right hG (by omega)
  have hTA := mul_bd (a := t.1.toInt) (b := t.2.2.1.toInt) (A := 999) (B := 1000000) ⟨by omega, by omega⟩ ⟨by omega, by omega⟩
  have hTA0 : 0 ≤ t.1.toInt * t.2.2.1.toInt := Int.mul_nonneg (by omega) (by omega)
  unfold tL tY tB
  rw [eq, eb]
  refine ⟨⟨hG, by omega⟩, ?_, ?_, ?_, ?_, ?_, ⟨?_, ?_⟩, ⟨?_, ?_⟩, ?_, ?_⟩
  · rw [← Int.mul_assoc, ← hq]
  · rw [Int.mul_left_comm, ← hb]
  · rw [Int.mul_left_comm, ← hq]
  · rw [show q * t.2.2.2.2.toInt = b * t.2.2.1.toInt by rw [hq, hb]; ac_rfl, Int.mul_ediv_cancel _ (by omega)]
  · rw [Int.mul_ediv_cancel _ (by omega)]
  · have := Int.mul_le_mul hq1 t4.1 (by omega) (by omega); omega
  · have := Int.mul_le_mul (show q ≤ 1000000 by omega) t4.2 (by omega) (by omega); omega
  · exact Int.mul_nonneg (by omega) (by omega)
  · have := Int.mul_le_mul (show t.1.toInt * t.2.2.1.toInt + t.2.1.toInt ≤ 1000000000 by omega) (show b ≤ 1000 by omega) (by omega) (by omega); omega
  · exact Int.mul_nonneg (by omega) (by omega)
  · rw [Int.mul_comm q]; exact Int.mul_lt_mul_of_pos_right t5.2 (by omega)
theorem c_units {t : vTrue} (ht : tOk t) : k_unitsOfDay t = some (iJ (tG t * tL t)) ∧ k_unitsOfYear t = some (iJ (tG t * tY t)) ∧ k_beginUnits t = some (iJ (tG t * tB t)) := by
  obtain ⟨_, f2, f3, f4, _⟩ := t_facts ht
  unfold k_unitsOfDay k_unitsOfYear k_beginUnits
  simp only [e64, iJ_mul, iJ_add]
  rw [f2, f3, f4]
  exact ⟨rfl, rfl, rfl⟩
def daw (d : vDes) (y : Int) : Int := y * tY d.2.2 + tB d.2.2
def dri (d : vDes) (y : Int) : Int := sta d y * tL d.2.2 - daw d y
theorem yY_bd {d : vDes} (hd : vOk d) {y : Int} (hy : -200002 ≤ y ∧ y ≤ 200002) : -200002000000000000 ≤ y * tY d.2.2 ∧ y * tY d.2.2 ≤ 200002000000000000 := by
  obtain ⟨_, _, _, _, _, _, _, f8, _⟩ := t_facts hd.2.2
  have := mul_bd (a := y) (b := tY d.2.2) (A := 200002) (B := 1000000000000) hy ⟨by omega, by omega⟩
  omega
theorem dri_bd {d : vDes} (hd : vOk d) {y : Int} (hy : -200002 ≤ y ∧ y ≤ 200002) : -410000000000000000 ≤ dri d y ∧ dri d y ≤ 410000000000000000 := by
  obtain ⟨_, _, _, _, _, _, f7, f8, f9⟩ := t_facts hd.2.2
  have h1 := yY_bd hd hy
  have h2 := mul_bd (a := sta d y) (b := tL d.2.2) (A := 205802058) (B := 1000000000) (sta_bd hd hy) ⟨by omega, by omega⟩
  unfold dri daw
  omega
theorem gdri_bd {d : vDes} (hd : vOk d) {y : Int} (hy : -200002 ≤ y ∧ y ≤ 200002) : -410000000000000000 ≤ tG d.2.2 * dri d y ∧ tG d.2.2 * dri d y ≤ 410000000000000000 := by
  obtain ⟨f1, f2, f3, f4, _, _, f7, f8, f9⟩ := t_facts hd.2.2
  obtain ⟨t1, t2, t3, t4, t5⟩ := hd.2.2
  have a1 := Int.mul_le_mul t2.2 t4.2 (by omega) (by omega)
  have a2 : 0 ≤ d.2.2.2.2.1.toInt * d.2.2.2.2.2.2.toInt := Int.mul_nonneg (by omega) (by omega)
  have hTA := mul_bd (a := d.2.2.1.toInt) (b := d.2.2.2.2.1.toInt) (A := 999) (B := 1000000) ⟨by omega, by omega⟩ ⟨by omega, by omega⟩
  have hTA0 : 0 ≤ d.2.2.1.toInt * d.2.2.2.2.1.toInt := Int.mul_nonneg (by omega) (by omega)
  have a3 := Int.mul_le_mul (show d.2.2.1.toInt * d.2.2.2.2.1.toInt + d.2.2.2.1.toInt ≤ 1000000000 by omega) t4.2 (by omega) (by omega)
  have a4 : 0 ≤ (d.2.2.1.toInt * d.2.2.2.2.1.toInt + d.2.2.2.1.toInt) * d.2.2.2.2.2.2.toInt := Int.mul_nonneg (by omega) (by omega)
  have a5 := Int.mul_le_mul (show d.2.2.2.2.2.1.toInt ≤ 1000 by omega) t2.2 (by omega) (by omega)
  have a6 : 0 ≤ d.2.2.2.2.2.1.toInt * d.2.2.2.2.1.toInt := Int.mul_nonneg (by omega) (by omega)
  have h1 := mul_bd (a := sta d y) (b := tG d.2.2 * tL d.2.2) (A := 205802058) (B := 1000000000) (sta_bd hd hy) ⟨by omega, by omega⟩
  have h2 := mul_bd (a := y) (b := tG d.2.2 * tY d.2.2) (A := 200002) (B := 1000000000000) hy ⟨by omega, by omega⟩
  have e : tG d.2.2 * dri d y = sta d y * (tG d.2.2 * tL d.2.2) - (y * (tG d.2.2 * tY d.2.2) + tG d.2.2 * tB d.2.2) := by
    unfold dri daw
    rw [Int.mul_sub, Int.mul_add]
    congr 1
    · ac_rfl
    · congr 1; ac_rfl
  rw [e]
  omega
theorem gL_bd {d : vDes} (hd : vOk d) : (1 ≤ tG d.2.2 * tL d.2.2 ∧ tG d.2.2 * tL d.2.2 ≤ 1000000000) ∧ (0 ≤ tG d.2.2 * tY d.2.2 ∧ tG d.2.2 * tY d.2.2 ≤ 1000000000000) ∧ 0 ≤ tG d.2.2 * tB d.2.2 ∧ tG d.2.2 * tB d.2.2 ≤ 1000000000 := by
  obtain ⟨f1, f2, f3, f4, _, _, f7, f8, f9⟩ := t_facts hd.2.2
  obtain ⟨t1, t2, t3, t4, t5⟩ := hd.2.2
  have a1 := Int.mul_le_mul t2.2 t4.2 (by omega) (by omega)
  have a2 := Int.mul_le_mul f1.1 f7.1 (by omega) (by omega)
  have hTA := mul_bd (a := d.2.2.1.toInt) (b := d.2.2.2.2.1.toInt) (A := 999) (B := 1000000) ⟨by omega, by omega⟩ ⟨by omega, by omega⟩
  have hTA0 : 0 ≤ d.2.2.1.toInt * d.2.2.2.2.1.toInt := Int.mul_nonneg (by omega) (by omega)
  have a3 := Int.mul_le_mul (show d.2.2.1.toInt * d.2.2.2.2.1.toInt + d.2.2.2.1.toInt ≤ 1000000000 by omega) t4.2 (by omega) (by omega)
  have a4 : 0 ≤ (d.2.2.1.toInt * d.2.2.2.2.1.toInt + d.2.2.2.1.toInt) * d.2.2.2.2.2.2.toInt := Int.mul_nonneg (by omega) (by omega)
  have a5 := Int.mul_le_mul (show d.2.2.2.2.2.1.toInt ≤ 1000 by omega) t2.2 (by omega) (by omega)
  have a6 : 0 ≤ d.2.2.2.2.2.1.toInt * d.2.2.2.2.1.toInt := Int.mul_nonneg (by omega) (by omega)
  omega
theorem dri_succ {d : vDes} (hd : vOk d) (y : Int) : dri d (y + 1) = dri d y + (dys d y * tL d.2.2 - tY d.2.2) := by
  unfold dri daw
  rw [sta_succ hd, Int.add_mul, Int.add_mul, Int.one_mul]
  omega
theorem c_driftUnits {d : vDes} (hd : vOk d) {y : Int} (hy : -200002 ≤ y ∧ y ≤ 200002) {n : Nat} (hn : 7 ≤ n) : k_driftUnits n d (iI y) = some (iJ (tG d.2.2 * dri d y)) := by
  unfold k_driftUnits k_slipUnits
  obtain ⟨u1, u2, u3⟩ := c_units hd.2.2
  simp only [c_start hd hy hn, u1, u2, u3, Option.bind_some, iI_J (show b32 y from ⟨by omega, by omega⟩), iJ_mul, iJ_sub]
  congr 2
  unfold dri daw
  rw [Int.mul_sub, Int.mul_add]
  have e1 : sta d y * (tG d.2.2 * tL d.2.2) = tG d.2.2 * (sta d y * tL d.2.2) := by ac_rfl
  have e2 : y * (tG d.2.2 * tY d.2.2) = tG d.2.2 * (y * tY d.2.2) := by ac_rfl
  omega
theorem m_below {d : vDes} (hd : vOk d) {w : Nat → Int32} {b : Nat} (hb : b ≤ 35360) (hw : DR d w b) {n : Nat} (hn : 250000 ≤ n) : mbelowOf n w (iI (b : Int)) = some (iJ (tL d.2.2)) := by
  obtain ⟨w0, w1, w2, w4, w5, w6, w7, w24, wl, w12, w13, w14, w15, w16⟩ := hw
  obtain ⟨f1, _⟩ := t_facts hd.2.2
  obtain ⟨t1, t2, t3, t4, t5⟩ := hd.2.2
  unfold mbelowOf
  rw [zck_t (watz b 14 (by omega)), zck_t (watz b 14 (by omega)), zck_t (watz b 16 (by omega)), wat b 14 (by omega), wat b 16 (by omega), w14, w16, e64, e64, m_gcd ⟨by omega, by omega⟩ (by omega) ⟨by omega, by omega⟩ (by omega) hn, Option.bind_some]
  have nz : decide (¬ iJ (tG d.2.2) = 0) = true := by rw [decide_eq_true_eq]; show ¬ iJ _ = iJ 0; rw [iJ_eq ⟨by omega, by omega⟩ ⟨by omega, by omega⟩]; omega
  rw [show ((Int.gcd d.2.2.2.2.1.toInt d.2.2.2.2.2.2.toInt : Nat) : Int) = tG d.2.2 from rfl, zck_t nz, zck_t (watz b 16 (by omega)), iJ_div ⟨by omega, by omega⟩ (by omega) ⟨by omega, by omega⟩, tdiv_pos (by omega), if_pos (by omega), iJ_mul]
  rfl
theorem m_dawn {d : vDes} (hd : vOk d) {w : Nat → Int32} {b : Nat} (hb : b ≤ 35360) (hw : DR d w b) (y : Int) {n : Nat} (hn : 250000 ≤ n) : mdawnOf n w (iI (b : Int)) (iJ y) = some (iJ (daw d y)) := by
  have hbl := m_below hd hb hw hn
  obtain ⟨w0, w1, w2, w4, w5, w6, w7, w24, wl, w12, w13, w14, w15, w16⟩ := hw
  obtain ⟨f1, f2, f3, f4, f5, f6, f7, f8, f9⟩ := t_facts hd.2.2
  obtain ⟨t1, t2, t3, t4, t5⟩ := hd.2.2
  unfold mdawnOf mtrueAbove
  have n1 : decide (¬ iJ d.2.2.2.2.1.toInt = 0) = true := by rw [decide_eq_true_eq]; show ¬ iJ _ = iJ 0; rw [iJ_eq ⟨by omega, by omega⟩ ⟨by omega, by omega⟩]; omega
  have n2 : decide (¬ iJ d.2.2.2.2.2.2.toInt = 0) = true := by rw [decide_eq_true_eq]; show ¬ iJ _ = iJ 0; rw [iJ_eq ⟨by omega, by omega⟩ ⟨by omega, by omega⟩]; omega
  rw [hbl, Option.bind_some, zck_t (watz b 12 (by omega)), zck_t (watz b 14 (by omega)), zck_t (watz b 13 (by omega)), Option.bind_some, wat b 12 (by omega), wat b 13 (by omega), wat b 14 (by omega), wat b 15 (by omega), wat b 16 (by omega), w12, w13, w14, w15, w16, zck_t (watz b 14 (by omega))]
  simp only [e64]
  rw [zck_t n1, zck_t (watz b 15 (by omega)), zck_t (watz b 16 (by omega)), zck_t n2, iJ_div ⟨by omega, by omega⟩ (by omega) ⟨by omega, by omega⟩, tdiv_pos (by omega), if_pos (by omega), iJ_div ⟨by omega, by omega⟩ (by omega) ⟨by omega, by omega⟩, tdiv_pos (by omega), if_pos (by omega), f5, f6]
  simp only [iJ_mul, iJ_add]
  unfold daw tY tB
  rw [Int.mul_assoc y]
theorem m_drift {d : vDes} (hd : vOk d) {w : Nat → Int32} {b : Nat} (hb : b ≤ 35360) (hw : DR d w b) {y : Int} (hy : -200002 ≤ y ∧ y ≤ 200002) {n : Nat} (hn : 250000 ≤ n) : mdriftOf n w (iI (b : Int)) (iJ y) = some (iJ (dri d y)) := by
  unfold mdriftOf
  rw [m_start hd hb hw hy (by omega), Option.bind_some, m_below hd hb hw hn, Option.bind_some, m_dawn hd hb hw y hn, Option.bind_some, iJ_mul, iJ_sub]
  rfl
theorem c_leastG {a b g : Int} (hg : 1 ≤ g) (ha : b64 a) (ha2 : a ≠ -9223372036854775808) (hga : b64 (g * a)) (hga2 : g * a ≠ -9223372036854775808) (hb : b64 b) (hgb : b64 (g * b)) (hb0 : 0 < b) {n : Nat} (hn : 250000 ≤ n) : k_leastTerms n (iJ (g * a)) (iJ (g * b)) = k_leastTerms n (iJ a) (iJ b) := by
  have hg1 : 1 ≤ Int.gcd a b := Int.gcd_pos_of_ne_zero_right a (by omega)
  have hgb0 : 0 < g * b := Int.mul_pos (by omega) hb0
  have hgc : ∀ x y : Int, b64 y → 0 < y → (Int.gcd x y : Int) ≤ 9223372036854775807 := fun x y hy h0 => by
    have h1 : Int.gcd x y ≤ y.natAbs := Nat.gcd_le_right _ (by omega)
    have := (abs_J hy (by omega)).2; omega
  have e : (Int.gcd (g * a) (g * b) : Int) = g * (Int.gcd a b : Int) := by
    rw [Int.gcd_mul_left, Int.natCast_mul]
    congr 1
    omega
  have h1 := hgc a b hb hb0
  have h2 := hgc (g * a) (g * b) hgb hgb0
  have h3 := Int.mul_le_mul hg (show (1 : Int) ≤ (Int.gcd a b : Int) by omega) (by omega) (by omega)
  have nz : ∀ x : Int, 1 ≤ x → x ≤ 9223372036854775807 → decide (¬ iJ x = 0) = true := fun x h0 h1 => by rw [decide_eq_true_eq]; show ¬ iJ _ = iJ 0; rw [iJ_eq ⟨by omega, by omega⟩ ⟨by omega, by omega⟩]; omega
  unfold k_leastTerms k_newFra
  rw [c_gcd hga hga2 hgb (by omega) (by omega) hn, c_gcd ha ha2 hb (by omega) (by omega) hn]
  simp only [Option.bind_some]
  rw [zck_t (nz _ (by omega) h2), zck_t (nz _ (by omega) h2), zck_t (nz _ (by omega) h1), zck_t (nz _ (by omega) h1), iJ_div hga hga2 ⟨by omega, h2⟩, iJ_div hgb (by omega) ⟨by omega, h2⟩, iJ_div ha ha2 ⟨by omega, h1⟩, iJ_div hb (by omega) ⟨by omega, h1⟩, e, Int.mul_tdiv_mul_of_pos _ _ (by omega), Int.mul_tdiv_mul_of_pos _ _ (by omega)]
theorem cm_driftPart {d : vDes} (hd : vOk d) {w : Nat → Int32} {b : Nat} (hb : b ≤ 35360) (hw : DR d w b) {y : Int} (hy : -200002 ≤ y ∧ y ≤ 200002) (z : Int32) {n : Nat} (hn : 250000 ≤ n) : ∃ (v : vFra) (r : Int64), k_driftOf n d (iI y) = some v ∧ k_tellPart v z = some r ∧ mpartOf n (iJ (dri d y)) (iJ (tL d.2.2)) z = some r := by
  obtain ⟨f1, f2, f3, f4, f5, f6, f7, f8, f9⟩ := t_facts hd.2.2
  have b1 := dri_bd hd hy
  have b2 := gdri_bd hd hy
  obtain ⟨b3, _⟩ := gL_bd hd
  obtain ⟨v, r, e1, e2, e3⟩ := cm_part (a := dri d y) (b := tL d.2.2) ⟨by omega, by omega⟩ (by omega) ⟨by omega, by omega⟩ (by omega) z hn
  refine ⟨v, r, ?_, e2, e3⟩
  unfold k_driftOf
  rw [c_driftUnits hd hy (by omega), Option.bind_some, (c_units hd.2.2).1, Option.bind_some, c_leastG f1.1 ⟨by omega, by omega⟩ (by omega) ⟨by omega, by omega⟩ (by omega) ⟨by omega, by omega⟩ ⟨by omega, by omega⟩ (by omega) hn, e1, Option.bind_some]
theorem hc_drift : HC_drift Inv := by
  intro A tp dv cs cv jv bo hg lw sb F G tq w oc z0 z1 z2 h
  have hn := hn_f
  unfold l_drift mdrift
  rcases atD h.2.2.1 z0 with ⟨h1, h2⟩ | ⟨s, d, hs, rfl, hdv, h1, h2, h3, hd, hw⟩
  · rw [h1, h2]; exact ⟨_, _, rfl, rfl, rfl, h.thr⟩
  · obtain ⟨y, hy, rfl⟩ := ex32 z1
    simp only [h1, h2, h3, Option.bind_some, zO_s, ↓reduceIte, iI_J hy, m_isYear (b32_64 hy), c_isYear hy]
    by_cases q : -100000 ≤ y ∧ y ≤ 100000
    · obtain ⟨v, r, e1, e2, e3⟩ := cm_driftPart hd (b := 442 * s) (by omega) hw (y := y) ⟨by omega, by omega⟩ z2 hn
      rw [if_pos (decide_eq_true q), if_pos (decide_eq_true q), e1, Option.bind_some, e2, m_drift hd (by omega) hw ⟨by omega, by omega⟩ hn, Option.bind_some, m_below hd (by omega) hw hn]
      simp only [Option.bind_some, e3]
      exact ⟨_, _, rfl, rfl, rfl, h.thr⟩
    · rw [if_neg (dneg q), if_neg (dneg q)]; exact ⟨_, _, rfl, rfl, rfl, h.thr⟩
theorem c_driftStep {d : vDes} (hd : vOk d) (lp : Bool) : k_driftStep d (zb lp) = some (iJ (tG d.2.2 * ((d.1.1.toInt + if lp = true then d.1.2.1.toInt else 0) * tL d.2.2 - tY d.2.2))) := by
  obtain ⟨u1, u2, u3⟩ := c_units hd.2.2
  have h1 := hd.1.1
  have h2 := hd.1.2.1
  have e : k_yearDays d.1 (zb lp) = some (iI (d.1.1.toInt + if lp = true then d.1.2.1.toInt else 0)) := by
    unfold k_yearDays
    cases lp
    · show some d.1.1 = _
      rw [if_neg (by decide), Int.add_zero, iI_of]
    · show some (d.1.1 + d.1.2.1) = _
      rw [if_pos rfl, ← iI_add, iI_of, iI_of]
  unfold k_driftStep
  rw [e, Option.bind_some, u1, Option.bind_some, u2, Option.bind_some, iI_J (by split <;> exact ⟨by omega, by omega⟩), iJ_mul, iJ_sub]
  congr 2
  rw [Int.mul_sub, Int.mul_left_comm]
theorem gdri_succ {d : vDes} (hd : vOk d) (y : Int) : tG d.2.2 * dri d (y + 1) = tG d.2.2 * dri d y + tG d.2.2 * ((d.1.1.toInt + if lLeap d.2.1 y = true then d.1.2.1.toInt else 0) * tL d.2.2 - tY d.2.2) := by
  rw [dri_succ hd, Int.mul_add]
  rfl
theorem gcmp {g a b : Int} (hg : 1 ≤ g) : (g * a ≤ g * b) = (a ≤ b) := propext (Int.mul_le_mul_left (show 0 < g by omega))
theorem gabs {g a : Int} (hg : 1 ≤ g) : ((g * a).natAbs : Int) = g * (a.natAbs : Int) := by
  rw [Int.natAbs_mul, Int.natCast_mul]
  congr 1
  omega
theorem msize_abs {a : Int} (ha : b64 a) : msize (iJ a) = some (iJ (a.natAbs : Int)) := by
  rw [m_size ha]; congr 2; split <;> omega
