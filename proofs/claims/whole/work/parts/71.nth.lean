/-! ===== calls: nth, next ===== -/
theorem emod_pred {x W : Int} (hW : 0 < W) : (x - 1) % W = if x % W = 0 then W - 1 else x % W - 1 := by
  have h := Int.mul_ediv_add_emod x W
  have h2 := Int.emod_nonneg x (show W ≠ 0 by omega)
  have h3 := Int.emod_lt_of_pos x hW
  by_cases q : x % W = 0
  · rw [if_pos q, show x - 1 = (W - 1) + W * (x / W - 1) by rw [Int.mul_sub]; omega, Int.add_mul_emod_self_left, Int.emod_eq_of_lt (by omega) (by omega)]
  · rw [if_neg q]
    have e : x - 1 = (x % W - 1) + W * (x / W) := by omega
    rw [e, Int.add_mul_emod_self_left, Int.emod_eq_of_lt (by omega) (by omega)]
theorem emod_is {a k W : Int} (hk : 0 ≤ k ∧ k < W) : a % W = k ↔ (k - a) % W = 0 := by
  rw [← Int.emod_eq_emod_iff_emod_sub_eq_zero, Int.emod_eq_of_lt hk.1 hk.2]
  exact ⟨fun h => h.symm, fun h => h.symm⟩
theorem emod_is' {a k W : Int} (hk : 0 ≤ k ∧ k < W) : a % W = k ↔ (a - k) % W = 0 := by
  rw [← Int.emod_eq_emod_iff_emod_sub_eq_zero, Int.emod_eq_of_lt hk.1 hk.2]
theorem emod_sub_r (k a W : Int) : (k - a % W) % W = (k - a) % W := by
  rw [Int.emod_eq_emod_iff_emod_sub_eq_zero, show k - a % W - (k - a) = W * (a / W) by have := Int.mul_ediv_add_emod a W; omega]
  exact Int.mul_emod_right _ _
theorem emod_sub_l (k a W : Int) : (a % W - k) % W = (a - k) % W := by
  rw [Int.emod_eq_emod_iff_emod_sub_eq_zero, show a % W - k - (a - k) = W * (-(a / W)) by have := Int.mul_ediv_add_emod a W; rw [Int.mul_neg]; omega]
  exact Int.mul_emod_right _ _
theorem m_nthLoop {d : vDes} (hd : vOk d) {w : Nat → Int32} {b : Nat} (hb : b ≤ 35360) (hw : DR d w b) (F : Nat → Int32) {y mo k c B D T : Int} {z : Int32} (hy : -100000 ≤ y ∧ y ≤ 100000) (hmo : 0 ≤ mo ∧ mo < d.1.2.2.1.1) (hk : b32 k) (hc : 1 ≤ c ∧ c ≤ 200) (hD : D = mdy d.1 (dLe d y) mo.toNat) (hT : T = B % d.1.2.2.2.2.1.toInt + (c - 1) * d.1.2.2.2.2.1.toInt) (hB : ∀ i, 0 ≤ i → i < D → (wkd d.1 (numb d y mo (if z = 0 then i else D - 1 - i)) = k ↔ (B - i) % d.1.2.2.2.2.1.toInt = 0)) {n : Nat} (hn : 250000 ≤ n) : zloop (mnth_93 n F w (iI y) (iI mo) (iI k) z (iI (b : Int)) (iI D)) n (iI c, 0) = some (if T < D then iJ (numb d y mo (if z = 0 then T else D - 1 - T)) else -1000000000000000, F) := by
  have h7 := hd.1.2.2.2.2.2.2.1
  have hN := hd.1.2.2.1
  have hdb := mdy_bd hd.1 (dLe d y) (m := mo.toNat) (by omega)
  have hsb := sta_bd hd (y := y) ⟨by omega, by omega⟩
  have hO := mof_bd hd.1 (dLe d y) mo.toNat (by omega)
  obtain ⟨r, g1, g2⟩ := zloop_inv (f := mnth_93 n F w (iI y) (iI mo) (iI k) z (iI (b : Int)) (iI D)) (R := fun s => ∃ i c : Int, (0 ≤ i ∧ i ≤ D) ∧ (1 ≤ c ∧ c ≤ 200) ∧ s = (iI c, iI i) ∧ T = i + (B - i) % d.1.2.2.2.2.1.toInt + (c - 1) * d.1.2.2.2.2.1.toInt) (S := fun r => r = (if T < D then iJ (numb d y mo (if z = 0 then T else D - 1 - T)) else -1000000000000000, F)) (fun s => (D - s.2.toInt).toNat) (by
    rintro s ⟨i, c, hi, hc, rfl, hT⟩
    unfold mnth_93 mnth_123 mnth_155
    dsimp only
    have hm0 := Int.emod_nonneg (B - i) (show d.1.2.2.2.2.1.toInt ≠ 0 by omega)
    have hp0 : 0 ≤ (c - 1) * d.1.2.2.2.2.1.toInt := Int.mul_nonneg (by omega) (by omega)
    rw [if_c (iI_le ⟨by omega, by omega⟩ ⟨by omega, by omega⟩)]
    by_cases p : D ≤ i
    · right
      rw [if_pos p, if_neg (show ¬ T < D by omega)]
      exact ⟨_, rfl, rfl⟩
    · have hμ : (D - (iI (i + 1)).toInt).toNat < (D - (iI i).toInt).toNat := by rw [iI_to ⟨by omega, by omega⟩, iI_to ⟨by omega, by omega⟩]; omega
      have hpos : (if z = 0 then mnth_123 n F w (iI y) (iI mo) (iI k) z (iI (b : Int)) (iI D) (iI c) (iI i) (iI (b : Int)) (iI y).toInt64 (iI mo) (iI i) else mnth_123 n F w (iI y) (iI mo) (iI k) z (iI (b : Int)) (iI D) (iI c) (iI i) (iI (b : Int)) (iI y).toInt64 (iI mo) ((iI D - 1) - iI i)) = mnth_123 n F w (iI y) (iI mo) (iI k) z (iI (b : Int)) (iI D) (iI c) (iI i) (iI (b : Int)) (iJ y) (iI mo) (iI (if z = 0 then i else D - 1 - i)) := by
        rw [iI_J ⟨by omega, by omega⟩]
        by_cases q : z = 0
        · rw [if_pos q, if_pos q]
        · rw [if_neg q, if_neg q, show (1 : Int32) = iI 1 by decide +kernel, iI_sub, iI_sub]
      have hpb : 0 ≤ (if z = 0 then i else D - 1 - i) ∧ (if z = 0 then i else D - 1 - i) < D := by split <;> omega
      have hwb := wkd_bd hd.1 (numb d y mo (if z = 0 then i else D - 1 - i))
      unfold mnth_123 mnth_155 at hpos
      rw [if_neg p, hpos, m_numberOf hd hb hw hy hmo ⟨by omega, by omega⟩ hn, Option.bind_some, m_weekday hd hb hw (by rw [numb]; omega), Option.bind_some, if_c (iI_eq ⟨by omega, by omega⟩ hk), show (-1 : Int32) = iI (-1) by decide +kernel, iI_add, show (iI i + 1 : Int32) = iI (i + 1) from iI_add _ 1, if_c (show (iI (c + -1) = (0 : Int32)) = (c + -1 = 0) from iI_eq (b := 0) ⟨by omega, by omega⟩ ⟨by omega, by omega⟩)]
      have hpr := emod_pred (x := B - i) (W := d.1.2.2.2.2.1.toInt) (by omega)
      rw [show B - i - 1 = B - (i + 1) by omega] at hpr
      have hi2 := hB i hi.1 (by omega)
      by_cases p2 : wkd d.1 (numb d y mo (if z = 0 then i else D - 1 - i)) = k
      · rw [if_pos p2]
        have p3 := hi2.mp p2
        by_cases p4 : c + -1 = 0
        · right
          have hTi : T = i := by rw [hT, p3, show c - 1 = 0 by omega, Int.zero_mul]; omega
          rw [if_pos p4, hTi, if_pos (show i < D by omega)]
          exact ⟨_, rfl, rfl⟩
        · left
          rw [if_neg p4]
          refine ⟨_, rfl, ⟨i + 1, c + -1, ⟨by omega, by omega⟩, ⟨by omega, by omega⟩, rfl, ?_⟩, hμ⟩
          rw [hpr, if_pos p3, show c + -1 - 1 = c - 1 - 1 by omega, Int.sub_mul (c - 1) 1, Int.one_mul]
          omega
      · rw [if_neg p2]
        left
        refine ⟨_, rfl, ⟨i + 1, c, ⟨by omega, by omega⟩, hc, rfl, ?_⟩, hμ⟩
        rw [hpr, if_neg (fun z => p2 (hi2.mpr z))]
        omega) n (iI c, 0) ⟨0, c, ⟨by omega, by omega⟩, hc, rfl, by rw [hT, Int.sub_zero]; omega⟩ (by show (D - (iI 0).toInt).toNat < n; rw [iI_to ⟨by omega, by omega⟩]; omega)
  rw [g1, g2]
theorem hc_nth : HC_nth Inv := by
  intro A tp dv cs cv jv bo hg lw sb F G tq w oc z0 z1 z2 z3 z4 z5 h
  have hn := hn_f
  unfold l_nth mnth
  rcases atD h.2.2.1 z0 with ⟨h1, h2⟩ | ⟨s, d, hs, rfl, hdv, h1, h2, h3, hd, hw⟩
  · rw [h1, h2]; exact ⟨_, _, rfl, rfl, rfl, h.thr⟩
  · obtain ⟨y, hy, rfl⟩ := ex32 z1
    obtain ⟨mo, hmo, rfl⟩ := ex32 z2
    obtain ⟨k, hk, rfl⟩ := ex32 z3
    obtain ⟨c, hc, rfl⟩ := ex32 z4
    have hb : 442 * s ≤ 35360 := by omega
    have h7 := hd.1.2.2.2.2.2.2.1
    have hN := hd.1.2.2.1
    have h200 : misIn (iI c).toInt64 1 200 = some (decide (1 ≤ c ∧ c ≤ 200)) := by
      rw [iI_J hc, show (1 : Int64) = iJ 1 by decide +kernel, show (200 : Int64) = iJ 200 by decide +kernel]
      exact m_isIn (b32_64 hc) ⟨by omega, by omega⟩ ⟨by omega, by omega⟩
    simp only [h1, h2, h3, Option.bind_some, zO_s, ↓reduceIte, c_hasWeekday hd.1 hk, m_isWeekday hd hb hw hk, h200, iI_J hy, m_isYear (b32_64 hy), m_isMonth hd hb hw hmo]
    rw [if_c (show (iI c < (1 : Int32)) = (c < 1) from iI_lt (b := 1) hc ⟨by omega, by omega⟩), if_c (show ((200 : Int32) < iI c) = (200 < c) from iI_lt (a := 200) ⟨by omega, by omega⟩ hc)]
    obtain ⟨v1, v2⟩ := c_numberOf hd (y := y) (m := mo) (dd := 0) hy hmo ⟨by omega, by omega⟩ hn
    rw [show iI 0 = (0 : Int32) by decide +kernel] at v1 v2
    by_cases qy : -100000 ≤ y ∧ y ≤ 100000
    · rw [if_pos (decide_eq_true qy)]
      by_cases qm : 0 ≤ mo ∧ mo < d.1.2.2.1.1
      · rw [if_pos (decide_eq_true qm)]
        have hdb := mdy_bd hd.1 (dLe d y) (m := mo.toNat) (by omega)
        by_cases qk : 0 ≤ k ∧ k < d.1.2.2.2.2.1.toInt
        · rw [if_pos (decide_eq_true qk), if_pos (decide_eq_true qk)]
          by_cases qc : 1 ≤ c ∧ c ≤ 200
          · rw [if_pos (decide_eq_true qc), if_neg (show ¬ c < 1 by omega), if_neg (show ¬ 200 < c by omega), v1 ⟨qy, qm, by omega, by omega⟩]
            have p2 : isDt d y mo 0 := ⟨qy, qm, by omega, by omega⟩
            have hbd := hol_bd hd (numb_hol hd p2)
            have e1 := c_monthDays hd.1 (dLe d y) (m := mo.toNat) (by omega)
            have e2 := m_monthDays hd hb hw (dLe d y) (m := mo.toNat) (by omega)
            rw [Int.toNat_of_nonneg qm.1] at e1 e2
            have hadd : ∀ i, numb d y mo i = numb d y mo 0 + i := fun i => by unfold numb; omega
            rw [Option.bind_some, if_neg (j_no ⟨by omega, by omega⟩), c_leap hd.2.1 ⟨by omega, by omega⟩ (by omega), m_leap hd.2.1 (by omega) hw.2.2.2.2.2.2.2.2.1 ⟨by omega, by omega⟩ (by omega), Option.bind_some, Option.bind_some, show lLeap d.2.1 y = dLe d y from rfl, e1, e2, Option.bind_some, Option.bind_some]
            have hpm : 0 ≤ (c - 1) * d.1.2.2.2.2.1.toInt ∧ (c - 1) * d.1.2.2.2.2.1.toInt ≤ 199 * 10 := ⟨Int.mul_nonneg (by omega) (by omega), Int.mul_le_mul (by omega) (by omega) (by omega) (by omega)⟩
            by_cases z : z5 = 0
            · have hL := m_nthLoop hd hb hw (upd F 0 0) (y := y) (mo := mo) (k := k) (c := c) (B := k - (numb d y mo 0 + d.1.2.2.2.2.2.toInt)) (D := mdy d.1 (dLe d y) mo.toNat) (z := z5) qy qm hk qc rfl rfl (fun i hi0 hi1 => by
                rw [if_pos z, hadd, wkd, emod_is qk, show k - (numb d y mo 0 + i + d.1.2.2.2.2.2.toInt) = k - (numb d y mo 0 + d.1.2.2.2.2.2.toInt) - i by omega]) hn
              have hm0 := Int.emod_nonneg (k - (numb d y mo 0 + d.1.2.2.2.2.2.toInt)) (show d.1.2.2.2.2.1.toInt ≠ 0 by omega)
              have hm1 := Int.emod_lt_of_pos (k - (numb d y mo 0 + d.1.2.2.2.2.2.toInt)) (show 0 < d.1.2.2.2.2.1.toInt by omega)
              have hwb := wkd_bd hd.1 (numb d y mo 0)
              have eW : j_fmodI (iI (k - wkd d.1 (numb d y mo 0))) d.1.2.2.2.2.1 = some (iI ((k - (numb d y mo 0 + d.1.2.2.2.2.2.toInt)) % d.1.2.2.2.2.1.toInt)) := by
                have := f_modI (a := k - wkd d.1 (numb d y mo 0)) (b := d.1.2.2.2.2.1.toInt) ⟨by omega, by omega⟩ (by omega) (by omega) ⟨by omega, by omega⟩
                rw [iI_of] at this
                rw [this, wkd, emod_sub_r]
              rw [if_pos z, c_weekday hd.1 ⟨by omega, by omega⟩, Option.bind_some, iI_sub, eW, Option.bind_some, hL]
              unfold l_nth_163 l_nth_177
              rw [show (iI c - 1 : Int32) = iI (c - 1) from iI_sub _ 1, show iI (c - 1) * d.1.2.2.2.2.1 = iI ((c - 1) * d.1.2.2.2.2.1.toInt) by rw [← iI_mul, iI_of], iI_add, if_c (show (iI ((k - (numb d y mo 0 + d.1.2.2.2.2.2.toInt)) % d.1.2.2.2.2.1.toInt + (c - 1) * d.1.2.2.2.2.1.toInt) < (0 : Int32)) = _ from iI_lt (b := 0) ⟨by omega, by omega⟩ ⟨by omega, by omega⟩), if_neg (by omega), if_c (iI_lt ⟨by omega, by omega⟩ ⟨by omega, by omega⟩), iI_J ⟨by omega, by omega⟩, iJ_add, if_pos z]
              by_cases t : (k - (numb d y mo 0 + d.1.2.2.2.2.2.toInt)) % d.1.2.2.2.2.1.toInt + (c - 1) * d.1.2.2.2.2.1.toInt < mdy d.1 (dLe d y) mo.toNat
              · rw [if_pos t, if_pos t]; exact ⟨_, _, rfl, rfl, congrArg iJ (hadd _).symm, h.thr⟩
              · rw [if_neg t, if_neg t]; exact ⟨_, _, rfl, rfl, rfl, h.thr⟩
            · have hL := m_nthLoop hd hb hw (upd F 0 0) (y := y) (mo := mo) (k := k) (c := c) (B := numb d y mo 0 + mdy d.1 (dLe d y) mo.toNat - 1 + d.1.2.2.2.2.2.toInt - k) (D := mdy d.1 (dLe d y) mo.toNat) (z := z5) qy qm hk qc rfl rfl (fun i hi0 hi1 => by
                rw [if_neg z, hadd, wkd, emod_is' qk, show numb d y mo 0 + (mdy d.1 (dLe d y) mo.toNat - 1 - i) + d.1.2.2.2.2.2.toInt - k = numb d y mo 0 + mdy d.1 (dLe d y) mo.toNat - 1 + d.1.2.2.2.2.2.toInt - k - i by omega]) hn
              have hm0 := Int.emod_nonneg (numb d y mo 0 + mdy d.1 (dLe d y) mo.toNat - 1 + d.1.2.2.2.2.2.toInt - k) (show d.1.2.2.2.2.1.toInt ≠ 0 by omega)
              have hm1 := Int.emod_lt_of_pos (numb d y mo 0 + mdy d.1 (dLe d y) mo.toNat - 1 + d.1.2.2.2.2.2.toInt - k) (show 0 < d.1.2.2.2.2.1.toInt by omega)
              have hwb := wkd_bd hd.1 (numb d y mo 0 + mdy d.1 (dLe d y) mo.toNat - 1)
              have eW : j_fmodI (iI (wkd d.1 (numb d y mo 0 + mdy d.1 (dLe d y) mo.toNat - 1) - k)) d.1.2.2.2.2.1 = some (iI ((numb d y mo 0 + mdy d.1 (dLe d y) mo.toNat - 1 + d.1.2.2.2.2.2.toInt - k) % d.1.2.2.2.2.1.toInt)) := by
                have := f_modI (a := wkd d.1 (numb d y mo 0 + mdy d.1 (dLe d y) mo.toNat - 1) - k) (b := d.1.2.2.2.2.1.toInt) ⟨by omega, by omega⟩ (by omega) (by omega) ⟨by omega, by omega⟩
                rw [iI_of] at this
                rw [this, wkd, emod_sub_l]
              rw [if_neg z, iI_J ⟨by omega, by omega⟩, iJ_add, show (iJ (numb d y mo 0 + mdy d.1 (dLe d y) mo.toNat) - 1 : Int64) = iJ (numb d y mo 0 + mdy d.1 (dLe d y) mo.toNat - 1) from iJ_sub _ 1, c_weekday hd.1 ⟨by omega, by omega⟩, Option.bind_some, iI_sub, eW, Option.bind_some, hL]
              unfold l_nth_163 l_nth_177
              rw [show (iI c - 1 : Int32) = iI (c - 1) from iI_sub _ 1, show iI (c - 1) * d.1.2.2.2.2.1 = iI ((c - 1) * d.1.2.2.2.2.1.toInt) by rw [← iI_mul, iI_of], show (iI (mdy d.1 (dLe d y) mo.toNat) - 1 : Int32) = iI (mdy d.1 (dLe d y) mo.toNat - 1) from iI_sub _ 1, iI_sub, iI_sub]
              generalize hE : (numb d y mo 0 + mdy d.1 (dLe d y) mo.toNat - 1 + d.1.2.2.2.2.2.toInt - k) % d.1.2.2.2.2.1.toInt = E at *
              generalize hP : (c - 1) * d.1.2.2.2.2.1.toInt = P at *
              rw [if_c (show (iI (mdy d.1 (dLe d y) mo.toNat - 1 - E - P) < (0 : Int32)) = (mdy d.1 (dLe d y) mo.toNat - 1 - E - P < 0) from iI_lt (b := 0) ⟨by omega, by omega⟩ ⟨by omega, by omega⟩), if_c (iI_lt ⟨by omega, by omega⟩ ⟨by omega, by omega⟩), iI_J ⟨by omega, by omega⟩, iJ_add, if_neg z, show mdy d.1 (dLe d y) mo.toNat - 1 - (E + P) = mdy d.1 (dLe d y) mo.toNat - 1 - E - P by omega]
              by_cases t : E + P < mdy d.1 (dLe d y) mo.toNat
              · rw [if_pos t, if_neg (by omega), if_pos (by omega)]; exact ⟨_, _, rfl, rfl, congrArg iJ (hadd _).symm, h.thr⟩
              · rw [if_neg t, if_pos (by omega)]; exact ⟨_, _, rfl, rfl, rfl, h.thr⟩
          · rw [if_neg (dneg qc)]
            by_cases t1 : c < 1
            · rw [if_pos t1]; exact ⟨_, _, rfl, rfl, rfl, h.thr⟩
            · rw [if_neg t1, if_pos (by omega)]; exact ⟨_, _, rfl, rfl, rfl, h.thr⟩
        · rw [if_neg (dneg qk), if_neg (dneg qk), ite_self, ite_self]; exact ⟨_, _, rfl, rfl, rfl, h.thr⟩
      · rw [if_neg (dneg qm), v2 (fun z => qm z.2.1), Option.bind_some, if_pos rfl, ite_self, ite_self, ite_self]; exact ⟨_, _, rfl, rfl, rfl, h.thr⟩
    · rw [if_neg (dneg qy), v2 (fun z => qy z.1), Option.bind_some, if_pos rfl, ite_self, ite_self, ite_self]; exact ⟨_, _, rfl, rfl, rfl, h.thr⟩
theorem lTo_mono {v : vLaw} (hv : lOk v) {y z : Int} (h : y ≤ z) : lTo v y ≤ lTo v z := by
  obtain ⟨k, rfl⟩ : ∃ k : Nat, z = y + k := ⟨(z - y).toNat, by omega⟩
  clear h
  induction k with
  | zero => simp
  | succ k ih =>
    have := lTo_succ hv (y + k)
    rw [show y + ((k + 1 : Nat) : Int) = y + k + 1 by omega, this]
    split <;> omega
theorem c_completing {v : vLaw} (hv : lOk v) {T : Int} (h1 : lTo v (-100000) < T) (h2 : T ≤ lTo v 100001) {n : Nat} (hn : 250000 ≤ n) : ∃ y, (-100000 ≤ y ∧ y ≤ 100000) ∧ lTo v y < T ∧ T ≤ lTo v (y + 1) ∧ k_yearCompleting n v (iI T) = some (iI y) := by
  have b1 := lTo_abs hv (y := -100000) ⟨by omega, by omega⟩
  have b2 := lTo_abs hv (y := 100001) ⟨by omega, by omega⟩
  obtain ⟨r, g1, y, g2, g3, g4, g5⟩ := zloop_inv (f := k_yearCompleting_8 n v (iI T)) (R := fun s => ∃ (j : Nat) (y : Int), j ≤ 18 ∧ s = (iI y, iI ((131072 / 2 ^ j : Nat) : Int)) ∧ (-100000 ≤ y ∧ y ≤ 100000) ∧ lTo v y < T ∧ ∀ z, z ≤ 100000 → lTo v z < T → z < y + ((262144 / 2 ^ j : Nat) : Int)) (S := fun r => ∃ y, (-100000 ≤ y ∧ y ≤ 100000) ∧ lTo v y < T ∧ T ≤ lTo v (y + 1) ∧ r = iI y) (fun s => s.2.toNatClampNeg) (by
    rintro s ⟨j, y, hj, rfl, hy, hs, hu⟩
    unfold k_yearCompleting_8
    dsimp only
    by_cases q : j = 18
    · subst q
      right
      rw [if_pos (by decide)]
      refine ⟨_, rfl, y, hy, hs, ?_, rfl⟩
      have := hu (y + 1)
      rw [show ((262144 / 2 ^ 18 : Nat) : Int) = 1 by decide] at this
      by_cases q : y = 100000
      · subst q; exact h2
      · have := this (by omega); omega
    · obtain ⟨⟨e1, e2⟩, e3, e4⟩ := hv_steps j (by omega)
      have hst : ((131072 / 2 ^ j : Nat) : Int) ≤ 131072 ∧ 1 ≤ ((131072 / 2 ^ j : Nat) : Int) := by omega
      generalize hS : (131072 / 2 ^ j : Nat) = S at *
      have hdiv : (iI (S : Int) / 2 : Int32) = iI ((131072 / 2 ^ (j + 1) : Nat) : Int) := by
        show iI (S : Int) / iI 2 = _
        rw [iI_div ⟨by omega, by omega⟩ (by omega) ⟨by omega, by omega⟩, tdiv_pos (by omega), if_pos (by omega), ← e1]; congr 1
      have hlt : (131072 / 2 ^ (j + 1) : Nat) < S := by omega
      left
      rw [if_c (show (iI (S : Int) ≤ (0 : Int32)) = ((S : Int) ≤ 0) from iI_le (b := 0) ⟨by omega, by omega⟩ ⟨by omega, by omega⟩), if_neg (by omega), iI_add, if_c (show ((100000 : Int32) < iI (y + S)) = (100000 < y + S) from iI_lt (a := 100000) ⟨by omega, by omega⟩ ⟨by omega, by omega⟩)]
      unfold k_yearCompleting_36
      rw [hdiv]
      by_cases p : 100000 < y + S
      · rw [if_pos p]
        refine ⟨_, rfl, ⟨j + 1, y, by omega, rfl, hy, hs, fun z hz1 hz2 => by rw [e2]; omega⟩, ?_⟩
        dsimp only
        rw [iI_nat (by omega) (by omega), iI_nat (by omega) (by omega)]; omega
      · have b3 := lTo_abs hv (y := y + S) ⟨by omega, by omega⟩
        rw [if_neg p, c_to hv ⟨by omega, by omega⟩ (by omega), Option.bind_some, if_c (iI_le ⟨by omega, by omega⟩ ⟨by omega, by omega⟩)]
        by_cases p2 : T ≤ lTo v (y + S)
        · rw [if_pos p2]
          refine ⟨_, rfl, ⟨j + 1, y, by omega, rfl, hy, hs, fun z hz1 hz2 => by
            rw [e2]
            rcases Int.lt_or_le z (y + S) with h | h
            · exact h
            · have := lTo_mono hv h; omega⟩, ?_⟩
          dsimp only
          rw [iI_nat (by omega) (by omega), iI_nat (by omega) (by omega)]; omega
        · rw [if_neg p2]
          refine ⟨_, rfl, ⟨j + 1, y + S, by omega, rfl, ⟨by omega, by omega⟩, by omega, fun z hz1 hz2 => by
            have := hu z hz1 hz2
            have e5 : (262144 / 2 ^ j : Nat) = 2 * S := by
              have : ∀ j, j < 18 → 262144 / 2 ^ j = 2 * (131072 / 2 ^ j) := by decide +kernel
              rw [this j (by omega), hS]
            rw [e5] at this
            rw [e2]; omega⟩, ?_⟩
          dsimp only
          rw [iI_nat (by omega) (by omega), iI_nat (by omega) (by omega)]; omega) n (iI (-100000), iI ((131072 / 2 ^ 0 : Nat) : Int)) ⟨0, -100000, by omega, rfl, ⟨by omega, by omega⟩, h1, fun z hz _ => by rw [show ((262144 / 2 ^ 0 : Nat) : Int) = 262144 by decide]; omega⟩ (by dsimp only; rw [iI_nat (by decide) (by decide)]; show 131072 < n; omega)
  refine ⟨y, g2, g3, g4, ?_⟩
  rw [← g5, ← g1]
  unfold k_yearCompleting
  rw [show ((-100000 : Int32), (131072 : Int32)) = (iI (-100000), iI ((131072 / 2 ^ 0 : Nat) : Int)) by decide +kernel]
/-- the year whose leap day is the T-th, or none -/
def nxR (v : vLaw) (T : Int) (r : Int64) : Prop := (∃ y, (-100000 ≤ y ∧ y ≤ 100000) ∧ lTo v y < T ∧ T ≤ lTo v (y + 1) ∧ r = iJ y) ∨ ((T ≤ lTo v (-100000) ∨ lTo v 100001 < T) ∧ r = -1000000000000000)
theorem nxR_u {v : vLaw} (hv : lOk v) {T : Int} {r r' : Int64} (h : nxR v T r) (h' : nxR v T r') : r = r' := by
  rcases h with ⟨y, hy, a1, a2, rfl⟩ | ⟨a1, rfl⟩
  · rcases h' with ⟨z, hz, b1, b2, rfl⟩ | ⟨b1, rfl⟩
    · have : y = z := by
        rcases Int.lt_trichotomy y z with q | q | q
        · have := lTo_mono hv (show y + 1 ≤ z by omega); omega
        · exact q
        · have := lTo_mono hv (show z + 1 ≤ y by omega); omega
      rw [this]
    · have := lTo_mono hv (show -100000 ≤ y by omega)
      have := lTo_mono hv (show y + 1 ≤ 100001 by omega)
      omega
  · rcases h' with ⟨z, hz, b1, b2, rfl⟩ | ⟨b1, rfl⟩
    · have := lTo_mono hv (show -100000 ≤ z by omega)
      have := lTo_mono hv (show z + 1 ≤ 100001 by omega)
      omega
    · rfl
theorem c_next75 {v : vLaw} (hv : lOk v) {T : Int} (hT : b32 T) {n : Nat} (hn : 250000 ≤ n) : ∃ r, l_next_75 n v (iI T) = some r ∧ nxR v T r := by
  have b1 := lTo_abs hv (y := -100000) ⟨by omega, by omega⟩
  have b2 := lTo_abs hv (y := 100001) ⟨by omega, by omega⟩
  unfold l_next_75
  rw [show (-100000 : Int32) = iI (-100000) by decide +kernel, show (100001 : Int32) = iI 100001 by decide +kernel, c_to hv ⟨by omega, by omega⟩ (by omega), c_to hv ⟨by omega, by omega⟩ (by omega), Option.bind_some, Option.bind_some, if_c (iI_le hT ⟨by omega, by omega⟩), if_c (iI_le hT ⟨by omega, by omega⟩)]
  by_cases p : T ≤ lTo v (-100000)
  · rw [if_pos p]; exact ⟨_, rfl, Or.inr ⟨Or.inl p, rfl⟩⟩
  · rw [if_neg p]
    by_cases q : T ≤ lTo v 100001
    · obtain ⟨y, y1, y2, y3, y4⟩ := c_completing hv (T := T) (by omega) q hn
      rw [if_pos q, y4, Option.bind_some, iI_J ⟨by omega, by omega⟩]
      exact ⟨_, rfl, Or.inl ⟨y, y1, y2, y3, rfl⟩⟩
    · rw [if_neg q]; exact ⟨_, rfl, Or.inr ⟨Or.inr (by omega), rfl⟩⟩
theorem m_nextStep {d : vDes} (hd : vOk d) {w : Nat → Int32} {s : Nat} (hs : s < 6) (hw : DR d w (442 * s)) (F : Nat → Int32) (t : Int) {y c : Int} (hy : -100001 ≤ y ∧ y ≤ 100001) (hc : 1 ≤ c ∧ c ≤ 1000) {n : Nat} (hn : 250000 ≤ n) : mnext3_66 n F w (iI (s : Int)) (iI t) (iI c, iI y) = if -100000 ≤ y ∧ y ≤ 100000 then (if c = lTo d.2.1 (y + 1) - lTo d.2.1 y then some (.inr (iJ y, F)) else some (.inl (iI (c - (lTo d.2.1 (y + 1) - lTo d.2.1 y)), iI (y + t)))) else some (.inr (-1000000000000000, F)) := by
  unfold mnext3_66
  dsimp only
  rw [iI_J ⟨by omega, by omega⟩, m_isYear ⟨by omega, by omega⟩, Option.bind_some, m_bank hs, Option.bind_some, m_leap hd.2.1 (by omega) hw.2.2.2.2.2.2.2.2.1 ⟨by omega, by omega⟩ (by omega), Option.bind_some]
  have e : mflag (zb (lLeap d.2.1 y)) = some (iI (lTo d.2.1 (y + 1) - lTo d.2.1 y)) := by
    rw [lTo_succ hd.2.1]
    cases lLeap d.2.1 y
    · rw [if_neg (by decide), show lTo d.2.1 y + 0 - lTo d.2.1 y = 0 by omega]; decide +kernel
    · rw [if_pos rfl, show lTo d.2.1 y + 1 - lTo d.2.1 y = 1 by omega]; decide +kernel
  have e2 : 0 ≤ lTo d.2.1 (y + 1) - lTo d.2.1 y ∧ lTo d.2.1 (y + 1) - lTo d.2.1 y ≤ 1 := by rw [lTo_succ hd.2.1]; split <;> omega
  rw [e, Option.bind_some, iI_sub, iI_add, if_c (show (iI (c - (lTo d.2.1 (y + 1) - lTo d.2.1 y)) = (0 : Int32)) = (c - (lTo d.2.1 (y + 1) - lTo d.2.1 y) = 0) from iI_eq (b := 0) ⟨by omega, by omega⟩ ⟨by omega, by omega⟩)]
  by_cases p : -100000 ≤ y ∧ y ≤ 100000
  · rw [if_pos (decide_eq_true p), if_pos p]
    by_cases q : c = lTo d.2.1 (y + 1) - lTo d.2.1 y
    · rw [if_pos (by omega), if_pos q]
    · rw [if_neg (by omega), if_neg q]
  · rw [if_neg (dneg p), if_neg p]
theorem hc_next : HC_next Inv := by
  intro A tp dv cs cv jv bo hg lw sb F G tq w oc z0 z1 z2 h
  have hn := hn_f
  unfold l_next mnext3
  rcases atD h.2.2.1 z0 with ⟨h1, h2⟩ | ⟨s, d, hs, rfl, hdv, h1, h2, h3, hd, hw⟩
  · rw [h1, h2]; exact ⟨_, _, rfl, rfl, rfl, h.thr⟩
  · obtain ⟨y, hy, rfl⟩ := ex32 z1
    obtain ⟨k, hk, rfl⟩ := ex32 z2
    have h1000 : misIn (iI k).toInt64 (-1000) 1000 = some (decide (-1000 ≤ k ∧ k ≤ 1000)) := by
      rw [iI_J hk, show (-1000 : Int64) = iJ (-1000) by decide +kernel, show (1000 : Int64) = iJ 1000 by decide +kernel]
      exact m_isIn (b32_64 hk) ⟨by omega, by omega⟩ ⟨by omega, by omega⟩
    simp only [h1, h2, Option.bind_some, zO_s, ↓reduceIte, h1000, iI_J hy, m_isYear (b32_64 hy), c_isYear hy]
    rw [if_c (show (iI k = (0 : Int32)) = (k = 0) from iI_eq (b := 0) hk ⟨by omega, by omega⟩), show (-1000 : Int32) = iI (-1000) by decide +kernel, if_c (iI_lt (b := -1000) hk ⟨by omega, by omega⟩), if_c (show (iI k ≤ (1000 : Int32)) = (k ≤ 1000) from iI_le (b := 1000) hk ⟨by omega, by omega⟩), if_c (show (iI k ≤ (0 : Int32)) = (k ≤ 0) from iI_le (b := 0) hk ⟨by omega, by omega⟩), if_c (show (iI k = (0 : Int32)) = (k = 0) from iI_eq (b := 0) hk ⟨by omega, by omega⟩), if_c (show (iI k ≤ (0 : Int32)) = (k ≤ 0) from iI_le (b := 0) hk ⟨by omega, by omega⟩)]
    by_cases qy : -100000 ≤ y ∧ y ≤ 100000
    · rw [if_pos (decide_eq_true qy), if_pos (decide_eq_true qy)]
      by_cases qk : -1000 ≤ k ∧ k ≤ 1000
      · rw [if_pos (decide_eq_true qk), if_neg (show ¬ k < -1000 by omega), if_pos (show k ≤ 1000 by omega)]
        by_cases q0 : k = 0
        · rw [if_pos q0, if_pos q0]; exact ⟨_, _, rfl, rfl, rfl, h.thr⟩
        · rw [if_neg q0, if_neg q0]
          unfold mnext3_52
          by_cases qn : k ≤ 0
          · have bL := lTo_abs hd.2.1 (y := y) ⟨by omega, by omega⟩
            rw [if_pos qn, if_pos qn, c_to hd.2.1 ⟨by omega, by omega⟩ (by omega), Option.bind_some, iI_add, show (iI (lTo d.2.1 y + k) + 1 : Int32) = iI (lTo d.2.1 y + k + 1) from iI_add _ 1, show (-1 : Int32) = iI (-1) by decide +kernel, iI_mul, iI_add]
            obtain ⟨r, r1, r2⟩ := c_next75 hd.2.1 (T := lTo d.2.1 y + k + 1) ⟨by omega, by omega⟩ hn
            obtain ⟨t, t1, t2, t3⟩ := zloop_inv (f := mnext3_66 fuel (upd F 0 0) w (iI (s : Int)) (iI (-1))) (R := fun a => ∃ z c : Int, (-100001 ≤ z ∧ z ≤ 100000) ∧ (1 ≤ c ∧ c ≤ 1000) ∧ a = (iI c, iI z) ∧ c = lTo d.2.1 (z + 1) - (lTo d.2.1 y + k + 1) + 1) (S := fun t => nxR d.2.1 (lTo d.2.1 y + k + 1) t.1 ∧ t.2 = upd F 0 0) (fun a => (a.2.toInt + 100001).toNat) (by
              rintro a ⟨z, c, hz, hc, rfl, hT⟩
              rw [m_nextStep hd hs hw _ _ ⟨by omega, by omega⟩ hc hn]
              have e2 : 0 ≤ lTo d.2.1 (z + 1) - lTo d.2.1 z ∧ lTo d.2.1 (z + 1) - lTo d.2.1 z ≤ 1 := by rw [lTo_succ hd.2.1]; split <;> omega
              by_cases p : -100000 ≤ z ∧ z ≤ 100000
              · rw [if_pos p]
                by_cases p2 : c = lTo d.2.1 (z + 1) - lTo d.2.1 z
                · right
                  rw [if_pos p2]
                  exact ⟨_, rfl, Or.inl ⟨z, p, by omega, by omega, rfl⟩, rfl⟩
                · left
                  rw [if_neg p2]
                  refine ⟨_, rfl, ⟨z + -1, _, ⟨by omega, by omega⟩, ⟨by omega, by omega⟩, rfl, ?_⟩, ?_⟩
                  · rw [show z + -1 + 1 = z by omega]; omega
                  · dsimp only; rw [iI_to ⟨by omega, by omega⟩, iI_to ⟨by omega, by omega⟩]; omega
              · right
                rw [if_neg p]
                refine ⟨_, rfl, Or.inr ⟨Or.inl ?_, rfl⟩, rfl⟩
                have : z + 1 = -100000 := by omega
                rw [this] at hT; omega) fuel (iI (k * -1), iI (y + -1)) ⟨y + -1, k * -1, ⟨by omega, by omega⟩, ⟨by omega, by omega⟩, rfl, by rw [show y + -1 + 1 = y by omega]; omega⟩ (by dsimp only; rw [iI_to ⟨by omega, by omega⟩]; omega)
            rw [r1, t1]
            exact ⟨_, _, rfl, rfl, nxR_u hd.2.1 r2 t2, by rw [t3]; exact h.thr⟩
          · have bL := lTo_abs hd.2.1 (y := y + 1) ⟨by omega, by omega⟩
            rw [if_neg qn, if_neg qn, show (1 : Int32) = iI 1 by decide +kernel, iI_add, c_to hd.2.1 ⟨by omega, by omega⟩ (by omega), Option.bind_some, iI_add, iI_mul]
            obtain ⟨r, r1, r2⟩ := c_next75 hd.2.1 (T := lTo d.2.1 (y + 1) + k) ⟨by omega, by omega⟩ hn
            obtain ⟨t, t1, t2, t3⟩ := zloop_inv (f := mnext3_66 fuel (upd F 0 0) w (iI (s : Int)) (iI 1)) (R := fun a => ∃ z c : Int, (-100000 ≤ z ∧ z ≤ 100001) ∧ (1 ≤ c ∧ c ≤ 1000) ∧ a = (iI c, iI z) ∧ c = lTo d.2.1 (y + 1) + k - lTo d.2.1 z) (S := fun t => nxR d.2.1 (lTo d.2.1 (y + 1) + k) t.1 ∧ t.2 = upd F 0 0) (fun a => (100001 - a.2.toInt).toNat) (by
              rintro a ⟨z, c, hz, hc, rfl, hT⟩
              rw [m_nextStep hd hs hw _ _ ⟨by omega, by omega⟩ hc hn]
              have e2 : 0 ≤ lTo d.2.1 (z + 1) - lTo d.2.1 z ∧ lTo d.2.1 (z + 1) - lTo d.2.1 z ≤ 1 := by rw [lTo_succ hd.2.1]; split <;> omega
              by_cases p : -100000 ≤ z ∧ z ≤ 100000
              · rw [if_pos p]
                by_cases p2 : c = lTo d.2.1 (z + 1) - lTo d.2.1 z
                · right
                  rw [if_pos p2]
                  exact ⟨_, rfl, Or.inl ⟨z, p, by omega, by omega, rfl⟩, rfl⟩
                · left
                  rw [if_neg p2]
                  refine ⟨_, rfl, ⟨z + 1, _, ⟨by omega, by omega⟩, ⟨by omega, by omega⟩, rfl, by omega⟩, ?_⟩
                  dsimp only; rw [iI_to ⟨by omega, by omega⟩, iI_to ⟨by omega, by omega⟩]; omega
              · right
                rw [if_neg p]
                refine ⟨_, rfl, Or.inr ⟨Or.inr ?_, rfl⟩, rfl⟩
                have : z = 100001 := by omega
                rw [this] at hT; omega) fuel (iI (k * 1), iI (y + 1)) ⟨y + 1, k * 1, ⟨by omega, by omega⟩, ⟨by omega, by omega⟩, rfl, by omega⟩ (by dsimp only; rw [iI_to ⟨by omega, by omega⟩]; omega)
            rw [r1, t1]
            exact ⟨_, _, rfl, rfl, nxR_u hd.2.1 r2 t2, by rw [t3]; exact h.thr⟩
      · rw [if_neg (dneg qk), if_neg (show ¬ k = 0 by omega)]
        by_cases t1 : k < -1000
        · rw [if_pos t1]; exact ⟨_, _, rfl, rfl, rfl, h.thr⟩
        · rw [if_neg t1, if_neg (by omega)]; exact ⟨_, _, rfl, rfl, rfl, h.thr⟩
    · rw [if_neg (dneg qy), if_neg (dneg qy)]; exact ⟨_, _, rfl, rfl, rfl, h.thr⟩
