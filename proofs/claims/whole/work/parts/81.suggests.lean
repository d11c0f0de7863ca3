/-! ===== calls: suggests ===== -/
theorem hc_suggests : HC_suggests Inv := by
  intro A tp dv cs cv jv bo hg lw sb F G tq w oc z0 z1 z2 h
  have hn := hn_f
  unfold l_suggests msuggests
  rcases atD h.2.2.1 z0 with ⟨h1, h2⟩ | ⟨s, d, hs, rfl, hdv, h1, h2, h3, hd, hw⟩
  · rw [h1, h2]; exact ⟨_, _, rfl, rfl, rfl, h.thr⟩
  · obtain ⟨x, hx, rfl⟩ := ex32 z1
    obtain ⟨k, hk, rfl⟩ := ex32 z2
    have i1 : misIn (iI x).toInt64 1 1000 = some (decide (1 ≤ x ∧ x ≤ 1000)) := by
      rw [iI_J hx, show (1 : Int64) = iJ 1 by decide +kernel, show (1000 : Int64) = iJ 1000 by decide +kernel]
      exact m_isIn (b32_64 hx) ⟨by omega, by omega⟩ ⟨by omega, by omega⟩
    have i2 : misIn (iI k).toInt64 0 2 = some (decide (0 ≤ k ∧ k ≤ 2)) := by
      rw [iI_J hk, show (0 : Int64) = iJ 0 by decide +kernel, show (2 : Int64) = iJ 2 by decide +kernel]
      exact m_isIn (b32_64 hk) ⟨by omega, by omega⟩ ⟨by omega, by omega⟩
    obtain ⟨w0, w1, w2, w4, w5, w6, w7, w24, wl, w12, w13, w14, w15, w16⟩ := hw
    obtain ⟨t1, t2, t3, t4, t5⟩ := hd.2.2
    have g1 := hd.1.1
    have g2 := hd.1.2.1
    simp only [h1, h2, h3, Option.bind_some, zO_s, ↓reduceIte, i1, i2]
    rw [if_c (show (iI x < (1 : Int32)) = (x < 1) from iI_lt (b := 1) hx ⟨by omega, by omega⟩), if_c (show (iI x ≤ (1000 : Int32)) = (x ≤ 1000) from iI_le (b := 1000) hx ⟨by omega, by omega⟩)]
    by_cases q1 : 1 ≤ x ∧ x ≤ 1000
    · rw [if_pos (decide_eq_true q1), if_neg (show ¬ x < 1 by omega), if_pos q1.2]
      generalize hQ : d.2.2.2.2.1 = Q at *
      generalize hP : d.2.2.2.1 = P at *
      generalize hW : d.2.2.1 = W at *
      generalize hN : d.1.1 = N at *
      generalize hU : d.1.2.1 = U at *
      have bA := mul_bd (a := W.toInt - N.toInt) (b := Q.toInt) (A := 999) (B := 1000000) ⟨by omega, by omega⟩ ⟨by omega, by omega⟩
      have bB : 1 ≤ Q.toInt * U.toInt ∧ Q.toInt * U.toInt ≤ 30000000 := by
        have a1 := Int.mul_le_mul t2.1 g2.1 (by omega) (by omega)
        have a2 := Int.mul_le_mul t2.2 g2.2 (by omega) (by omega)
        omega
      have hAY : k_aboveYear d = some (iJ ((W.toInt - N.toInt) * Q.toInt + P.toInt)) := by
        unfold k_aboveYear
        rw [hQ, hP, hW, hN, show (W - N : Int32) = iI (W.toInt - N.toInt) by rw [← iI_sub, iI_of, iI_of], iI_J ⟨by omega, by omega⟩, e64, e64, iJ_mul, iJ_add]
      have hTA : mtrueAbove w (iI ((442 * s : Nat) : Int)) = some (iJ (W.toInt * Q.toInt + P.toInt)) := by
        unfold mtrueAbove
        rw [zck_t (watz (442 * s) 12 (by omega)), zck_t (watz (442 * s) 14 (by omega)), zck_t (watz (442 * s) 13 (by omega)), wat (442 * s) 12 (by omega), wat (442 * s) 13 (by omega), wat (442 * s) 14 (by omega), w12, w13, w14, e64, e64, e64, iJ_mul, iJ_add]
      have hsub : iJ (W.toInt * Q.toInt + P.toInt) - N.toInt64 * Q.toInt64 = iJ ((W.toInt - N.toInt) * Q.toInt + P.toInt) := by
        rw [e64, e64, iJ_mul, iJ_sub, Int.sub_mul]; congr 1; omega
      generalize hAd : (W.toInt - N.toInt) * Q.toInt + P.toInt = Ad at *
      have bAd : -1000000000 ≤ Ad ∧ Ad ≤ 1000000000 := by omega
      have hBJ : Q.toInt64 * U.toInt64 = iJ (Q.toInt * U.toInt) := by rw [e64, e64, iJ_mul]
      generalize hBd : Q.toInt * U.toInt = Bd at *
      have hgp : 1 ≤ Int.gcd Ad Bd := Int.gcd_pos_of_ne_zero_right _ (by omega)
      have hgB : (Int.gcd Ad Bd : Int) ≤ Bd := by
        have : Int.gcd Ad Bd ≤ Bd.natAbs := Nat.gcd_le_right _ (by omega)
        omega
      have nz : decide (¬ iJ (Int.gcd Ad Bd : Int) = 0) = true := by rw [decide_eq_true_eq]; show ¬ iJ _ = iJ 0; rw [iJ_eq ⟨by omega, by omega⟩ ⟨by omega, by omega⟩]; omega
      have hlt : k_leastTerms fuel (iJ Ad) (iJ Bd) = some (iJ (Ad.tdiv (Int.gcd Ad Bd : Int)), iJ (Bd.tdiv (Int.gcd Ad Bd : Int))) := by
        unfold k_leastTerms k_newFra
        rw [c_gcd ⟨by omega, by omega⟩ (by omega) ⟨by omega, by omega⟩ (by omega) (by omega) hn, Option.bind_some, zck_t nz, zck_t nz, Option.bind_some, iJ_div ⟨by omega, by omega⟩ (by omega) ⟨by omega, by omega⟩, iJ_div ⟨by omega, by omega⟩ (by omega) ⟨by omega, by omega⟩]
      have hmg := m_gcd (a := Ad) (b := Bd) ⟨by omega, by omega⟩ (by omega) ⟨by omega, by omega⟩ (by omega) hn
      have ba : -1000000000 ≤ Ad.tdiv (Int.gcd Ad Bd : Int) ∧ Ad.tdiv (Int.gcd Ad Bd : Int) ≤ 1000000000 := by
        have e2 : (Ad.tdiv (Int.gcd Ad Bd : Int)).natAbs ≤ Ad.natAbs := by rw [Int.natAbs_tdiv]; exact Nat.div_le_self _ _
        omega
      have bb : 1 ≤ Bd.tdiv (Int.gcd Ad Bd : Int) ∧ Bd.tdiv (Int.gcd Ad Bd : Int) ≤ 30000000 := by
        have hdv : (Int.gcd Ad Bd : Int) ∣ Bd := Int.gcd_dvd_right ..
        rw [tdiv_pos (by omega), if_pos (by omega)]
        have e1 := (Int.le_ediv_iff_mul_le (show 0 < (Int.gcd Ad Bd : Int) by omega) (a := 1) (b := Bd)).mpr (by omega)
        have e2 := Int.ediv_le_self (b := (Int.gcd Ad Bd : Int)) (a := Bd) (by omega)
        omega
      have hJa : iJ Ad / iJ (Int.gcd Ad Bd : Int) = iJ (Ad.tdiv (Int.gcd Ad Bd : Int)) := iJ_div ⟨by omega, by omega⟩ (by omega) ⟨by omega, by omega⟩
      have hJb : iJ Bd / iJ (Int.gcd Ad Bd : Int) = iJ (Bd.tdiv (Int.gcd Ad Bd : Int)) := iJ_div ⟨by omega, by omega⟩ (by omega) ⟨by omega, by omega⟩
      have hw1 := watz (442 * s) 1 (by omega)
      have hw2 := watz (442 * s) 2 (by omega)
      have hw14 := watz (442 * s) 14 (by omega)
      have ww1 := wat (442 * s) 1 (by omega)
      have ww2 := wat (442 * s) 2 (by omega)
      have ww14 := wat (442 * s) 14 (by omega)
      simp only [hAY, hBJ, hlt, Option.bind_some, hTA, zck_t hw1, zck_t hw2, zck_t hw14, ww1, ww2, ww14, w1, w2, w14, hsub, hmg, zck_t nz, hJa, hJb]
      generalize Ad.tdiv (Int.gcd Ad Bd : Int) = a at *
      generalize Bd.tdiv (Int.gcd Ad Bd : Int) = b at *
      have c1 : (iJ a < (0 : Int64)) = (a < 0) := iJ_lt (b := 0) ⟨by omega, by omega⟩ ⟨by omega, by omega⟩
      have c2 : (iJ b < iJ a) = (b < a) := iJ_lt ⟨by omega, by omega⟩ ⟨by omega, by omega⟩
      have c3 : (iJ b ≤ (1000000 : Int64)) = (b ≤ 1000000) := iJ_le (b := 1000000) ⟨by omega, by omega⟩ ⟨by omega, by omega⟩
      have c4 : (iI k = (2 : Int32)) = (k = 2) := iI_eq (b := 2) hk ⟨by omega, by omega⟩
      have c5 : ((2 : Int32) ≤ iI k) = (2 ≤ k) := iI_le (a := 2) ⟨by omega, by omega⟩ hk
      have c6 : (iI k = (0 : Int32)) = (k = 0) := iI_eq (b := 0) hk ⟨by omega, by omega⟩
      have c7 : (iI k = (1 : Int32)) = (k = 1) := iI_eq (b := 1) hk ⟨by omega, by omega⟩
      by_cases p1 : a < 0
      · simp only [c1, if_pos p1, ite_self]; exact ⟨_, _, rfl, rfl, rfl, h.thr⟩
      by_cases p2 : b < a
      · simp only [c1, c2, if_neg p1, if_pos p2, ite_self]; exact ⟨_, _, rfl, rfl, rfl, h.thr⟩
      by_cases p3 : b ≤ 1000000
      · simp only [c1, c2, c3, if_neg p1, if_neg p2, if_pos p3, iI_J hx]
        obtain ⟨an, han⟩ : ∃ t : Nat, a = t := ⟨a.toNat, by omega⟩
        obtain ⟨bn, hbn⟩ : ∃ t : Nat, b = t := ⟨b.toNat, by omega⟩
        subst han; subst hbn
        obtain ⟨c, e, n1, n2⟩ := c_nearest (P := an) (Q := bn) (N := x) (by omega) (by omega) (by omega) ⟨by omega, by omega⟩
        obtain ⟨u, v, kk, G', m1, m2, m3, m4, m5, m6, m7⟩ := m_best (P := an) (Q := bn) (N := x) (by omega) (by omega) (by omega) ⟨by omega, by omega⟩ G hn
        obtain ⟨rfl, rfl⟩ := bst_u (by omega) n2 m2 m3
        have hI : Inv A tp dv cs cv jv bo hg lw sb (upd F 0 0) G' tq w oc := h.fld ⟨rfl, rfl, rfl, rfl, rfl, rfl⟩ ⟨m6, m7⟩
        obtain ⟨⟨h1, h2⟩, ⟨h3, h4⟩, h5, h6, h7⟩ := n2
        have hab := c_abs (a := c * bn - an * e) ⟨by omega, by omega⟩
        have hms := msize_abs (a := c * bn - an * e) ⟨by omega, by omega⟩
        simp only [n1, m1, Option.bind_some, m4, m5, c4, c5, c6, iJ_mul, iJ_sub, hab, hms]
        by_cases q2 : 0 ≤ k ∧ k ≤ 2
        · simp only [if_pos (decide_eq_true q2)]
          by_cases q3 : k = 2
          · rw [if_pos q3, if_pos (show 2 ≤ k by omega)]
            by_cases q4 : iJ ((c * bn - an * e).natAbs : Int) * U.toInt64 = 0
            · rw [if_pos q4, if_pos q4]; exact ⟨_, _, rfl, rfl, rfl, hI⟩
            · rw [if_neg q4, if_neg q4, zck_t (decide_eq_true q4), zck_t (decide_eq_true q4)]; exact ⟨_, _, rfl, rfl, rfl, hI⟩
          · rw [if_neg q3, if_neg (show ¬ 2 ≤ k by omega)]
            unfold k_tellPart
            rw [if_c c6, if_c c7]
            by_cases q4 : k = 0
            · rw [if_pos q4, if_pos q4]; exact ⟨_, _, rfl, rfl, rfl, hI⟩
            · rw [if_neg q4, if_neg q4, if_pos (show k = 1 by omega)]; exact ⟨_, _, rfl, rfl, rfl, hI⟩
        · simp only [if_neg (dneg q2)]
          rw [if_neg (show ¬ k = 2 by omega)]
          unfold k_tellPart
          rw [if_c c6, if_c c7, if_neg (show ¬ k = 0 by omega), if_neg (show ¬ k = 1 by omega)]
          exact ⟨_, _, rfl, rfl, rfl, h.thr⟩
      · simp only [c1, c2, c3, if_neg p1, if_neg p2, if_neg p3, ite_self]; exact ⟨_, _, rfl, rfl, rfl, h.thr⟩
    · rw [if_neg (dneg q1)]
      by_cases p : x < 1
      · rw [if_pos p]; exact ⟨_, _, rfl, rfl, rfl, h.thr⟩
      · rw [if_neg p, if_neg (show ¬ x ≤ 1000 by omega)]; exact ⟨_, _, rfl, rfl, rfl, h.thr⟩
