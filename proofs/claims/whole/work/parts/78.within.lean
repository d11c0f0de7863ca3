/-! ===== calls: within ===== -/
def nk (T B m : Int) : Int := if (if (if (T / B + 1) * B - T < T - T / B * B then T / B + 1 else T / B) < m then (if (T / B + 1) * B - T < T - T / B * B then T / B + 1 else T / B) else m) < 0 then 0 else (if (if (T / B + 1) * B - T < T - T / B * B then T / B + 1 else T / B) < m then (if (T / B + 1) * B - T < T - T / B * B then T / B + 1 else T / B) else m)
theorem nk_best {T B m : Int} (hB : 1 ≤ B) (hm : 0 ≤ m) : (0 ≤ nk T B m ∧ nk T B m ≤ m) ∧ ∀ k, 0 ≤ k → k ≤ m → ((nk T B m * B - T).natAbs : Int) ≤ ((k * B - T).natAbs : Int) ∧ (((nk T B m * B - T).natAbs : Int) = ((k * B - T).natAbs : Int) → nk T B m ≤ k) := by
  have key : ∀ a b : Int, a < b → a * B + B ≤ b * B := fun a b h => by
    have := Int.mul_le_mul_of_nonneg_right (show a + 1 ≤ b by omega) (show 0 ≤ B by omega)
    rw [Int.add_mul, Int.one_mul] at this
    exact this
  have h1 := Int.mul_ediv_add_emod T B
  have h2 := Int.emod_nonneg T (show B ≠ 0 by omega)
  have h3 := Int.emod_lt_of_pos T (show 0 < B by omega)
  rw [Int.mul_comm] at h1
  have e1 : (T / B + 1) * B = T / B * B + B := by rw [Int.add_mul, Int.one_mul]
  generalize hf : T / B = f at *
  generalize T % B = r at *
  have hmain : ∀ K : Int, (0 ≤ K ∧ K ≤ m) → (∀ k, 0 ≤ k → k ≤ m → ((K * B - T).natAbs : Int) ≤ ((k * B - T).natAbs : Int) ∧ (((K * B - T).natAbs : Int) = ((k * B - T).natAbs : Int) → K ≤ k)) → K = nk T B m → (0 ≤ nk T B m ∧ nk T B m ≤ m) ∧ ∀ k, 0 ≤ k → k ≤ m → ((nk T B m * B - T).natAbs : Int) ≤ ((k * B - T).natAbs : Int) ∧ (((nk T B m * B - T).natAbs : Int) = ((k * B - T).natAbs : Int) → nk T B m ≤ k) := fun K hK hk e => by rw [← e]; exact ⟨hK, hk⟩
  have hnk : nk T B m = if (if (if (f + 1) * B - T < T - f * B then f + 1 else f) < m then (if (f + 1) * B - T < T - f * B then f + 1 else f) else m) < 0 then 0 else (if (if (f + 1) * B - T < T - f * B then f + 1 else f) < m then (if (f + 1) * B - T < T - f * B then f + 1 else f) else m) := by unfold nk; rw [hf]
  have kf := key f
  have k0 := key 0
  have km := fun k => key k m
  have kf2 := fun k => key k f
  have kf3 := fun k => key k (f + 1)
  have kf4 := key (f + 1)
  have z0 : (0 : Int) * B = 0 := Int.zero_mul B
  by_cases u : (f + 1) * B - T < T - f * B
  · rw [if_pos u] at hnk
    by_cases p : f + 1 < m
    · rw [if_pos p] at hnk
      by_cases q : f + 1 < 0
      · rw [if_pos q] at hnk
        refine hmain 0 ⟨by omega, hm⟩ (fun k hk0 hk => ?_) hnk.symm
        have a1 := kf4 0 q
        have a2 := k0 k
        rcases Int.lt_trichotomy k 0 with z | z | z
        · omega
        · subst z; omega
        · have := a2 z; omega
      · rw [if_neg q] at hnk
        refine hmain (f + 1) ⟨by omega, by omega⟩ (fun k hk0 hk => ?_) hnk.symm
        rcases Int.lt_trichotomy k (f + 1) with z | z | z
        · have := kf3 k z
          omega
        · subst z; omega
        · have := kf4 k z; omega
    · rw [if_neg p, if_neg (show ¬ m < 0 by omega)] at hnk
      refine hmain m ⟨by omega, by omega⟩ (fun k hk0 hk => ?_) hnk.symm
      rcases Int.lt_trichotomy k m with z | z | z
      · have a1 := km k z
        rcases Int.lt_trichotomy m (f + 1) with y | y | y
        · have := kf3 m y; omega
        · rw [y] at a1 ⊢; omega
        · omega
      · subst z; omega
      · omega
  · rw [if_neg u] at hnk
    by_cases p : f < m
    · rw [if_pos p] at hnk
      by_cases q : f < 0
      · rw [if_pos q] at hnk
        refine hmain 0 ⟨by omega, hm⟩ (fun k hk0 hk => ?_) hnk.symm
        have a1 := kf 0 q
        have a2 := k0 k
        rcases Int.lt_trichotomy k 0 with z | z | z
        · omega
        · subst z; omega
        · have := a2 z; omega
      · rw [if_neg q] at hnk
        refine hmain f ⟨by omega, by omega⟩ (fun k hk0 hk => ?_) hnk.symm
        rcases Int.lt_trichotomy k f with z | z | z
        · have := kf2 k z; omega
        · subst z; omega
        · have := kf k z; omega
    · rw [if_neg p, if_neg (show ¬ m < 0 by omega)] at hnk
      refine hmain m ⟨by omega, by omega⟩ (fun k hk0 hk => ?_) hnk.symm
      rcases Int.lt_trichotomy k m with z | z | z
      · have a1 := km k z
        rcases Int.lt_trichotomy m f with y | y | y
        · have := kf2 m y; omega
        · rw [y] at a1 ⊢; omega
        · omega
      · subst z; omega
      · omega
theorem c_nearestK {T B m : Int} (hT : -2000000000000 ≤ T ∧ T ≤ 2000000000000) (hB : 1 ≤ B ∧ B ≤ 30000000) (hm : 0 ≤ m ∧ m ≤ 1000) : k_nearestK (iJ T) (iJ B) (iI m) = some (iJ (nk T B m)) := by
  have h1 := Int.mul_ediv_add_emod T B
  have h2 := Int.emod_nonneg T (show B ≠ 0 by omega)
  have h3 := Int.emod_lt_of_pos T (show 0 < B by omega)
  rw [Int.mul_comm] at h1
  have e1 : (T / B + 1) * B = T / B * B + B := by rw [Int.add_mul, Int.one_mul]
  have hf : -2000000000001 ≤ T / B ∧ T / B ≤ 2000000000001 := by
    have a1 := (Int.le_ediv_iff_mul_le (show 0 < B by omega) (a := -2000000000001) (b := T)).mpr (by omega)
    have a2 := (Int.ediv_lt_iff_lt_mul (show 0 < B by omega) (a := T) (b := 2000000000001)).mpr (by omega)
    omega
  have h42 : ∀ u : Int, (-3000000000000 ≤ u ∧ u ≤ 3000000000000) → k_nearestK_42 (iI m) (iJ u) = some (iJ (if (if u < m then u else m) < 0 then 0 else (if u < m then u else m))) := fun u hu => by
    unfold k_nearestK_42 j_minL j_maxL
    rw [iI_J ⟨by omega, by omega⟩, if_c (iJ_lt ⟨by omega, by omega⟩ ⟨by omega, by omega⟩)]
    by_cases p : u < m
    · rw [if_pos p, if_pos p, Option.bind_some, if_c (show ((0 : Int64) < iJ u) = (0 < u) from iJ_lt (a := 0) ⟨by omega, by omega⟩ ⟨by omega, by omega⟩)]
      by_cases q : 0 < u
      · rw [if_pos q, if_neg (by omega)]; rfl
      · rw [if_neg q]
        by_cases r : u < 0
        · rw [if_pos r]; rfl
        · rw [if_neg r, show u = 0 by omega]; rfl
    · rw [if_neg p, if_neg p, Option.bind_some, if_c (show ((0 : Int64) < iJ m) = (0 < m) from iJ_lt (a := 0) ⟨by omega, by omega⟩ ⟨by omega, by omega⟩)]
      by_cases q : 0 < m
      · rw [if_pos q, if_neg (by omega)]; rfl
      · rw [if_neg q, if_neg (by omega), show m = 0 by omega]; rfl
  unfold k_nearestK nk
  rw [if_c (show ((1 : Int64) ≤ iJ B) = (1 ≤ B) from iJ_le (a := 1) ⟨by omega, by omega⟩ ⟨by omega, by omega⟩), if_pos hB.1, f_divJ ⟨by omega, by omega⟩ (by omega) (by omega) ⟨by omega, by omega⟩, Option.bind_some, show (iJ (T / B) + 1 : Int64) = iJ (T / B + 1) from iJ_add _ 1, iJ_mul, iJ_mul, iJ_sub, iJ_sub, if_c (iJ_lt ⟨by omega, by omega⟩ ⟨by omega, by omega⟩), h42 _ ⟨by omega, by omega⟩, h42 _ ⟨by omega, by omega⟩]
  by_cases p : (T / B + 1) * B - T < T - T / B * B
  · simp only [if_pos p]
  · simp only [if_neg p]
theorem hc_within : HC_within Inv := by
  intro A tp dv cs cv jv bo hg lw sb F G tq w oc z0 z1 z2 z3 h
  have hn := hn_f
  unfold l_within mwithin
  rcases atD h.2.2.1 z0 with ⟨h1, h2⟩ | ⟨s, d, hs, rfl, hdv, h1, h2, h3, hd, hw⟩
  · rw [h1, h2]; exact ⟨_, _, rfl, rfl, rfl, h.thr⟩
  · obtain ⟨x, hx, rfl⟩ := ex32 z1
    obtain ⟨y, hy, rfl⟩ := ex32 z2
    obtain ⟨k, hk, rfl⟩ := ex32 z3
    have hb : 442 * s ≤ 35360 := by omega
    have i1 : misIn (iI x).toInt64 1 100000 = some (decide (1 ≤ x ∧ x ≤ 100000)) := by
      rw [iI_J hx, show (1 : Int64) = iJ 1 by decide +kernel, show (100000 : Int64) = iJ 100000 by decide +kernel]
      exact m_isIn (b32_64 hx) ⟨by omega, by omega⟩ ⟨by omega, by omega⟩
    have i2 : misIn (iI y).toInt64 1 9999 = some (decide (1 ≤ y ∧ y ≤ 9999)) := by
      rw [iI_J hy, show (1 : Int64) = iJ 1 by decide +kernel, show (9999 : Int64) = iJ 9999 by decide +kernel]
      exact m_isIn (b32_64 hy) ⟨by omega, by omega⟩ ⟨by omega, by omega⟩
    have i3 : misIn (iI k).toInt64 0 1 = some (decide (0 ≤ k ∧ k ≤ 1)) := by
      rw [iI_J hk, show (0 : Int64) = iJ 0 by decide +kernel, show (1 : Int64) = iJ 1 by decide +kernel]
      exact m_isIn (b32_64 hk) ⟨by omega, by omega⟩ ⟨by omega, by omega⟩
    simp only [h1, h2, h3, Option.bind_some, zO_s, ↓reduceIte, i1, i2, i3]
    rw [if_c (show (iI x < (1 : Int32)) = (x < 1) from iI_lt (b := 1) hx ⟨by omega, by omega⟩), if_c (show ((100000 : Int32) < iI x) = (100000 < x) from iI_lt (a := 100000) ⟨by omega, by omega⟩ hx), if_c (show (iI y < (1 : Int32)) = (y < 1) from iI_lt (b := 1) hy ⟨by omega, by omega⟩), if_c (show (iI y ≤ (9999 : Int32)) = (y ≤ 9999) from iI_le (b := 9999) hy ⟨by omega, by omega⟩), if_c (show (iI k < (0 : Int32)) = (k < 0) from iI_lt (b := 0) hk ⟨by omega, by omega⟩), if_c (show (iI k ≤ (1 : Int32)) = (k ≤ 1) from iI_le (b := 1) hk ⟨by omega, by omega⟩)]
    by_cases q1 : 1 ≤ x ∧ x ≤ 100000
    · rw [if_pos (decide_eq_true q1), if_neg (show ¬ x < 1 by omega), if_neg (show ¬ 100000 < x by omega)]
      by_cases q2 : 1 ≤ y ∧ y ≤ 9999
      · rw [if_pos (decide_eq_true q2), if_neg (show ¬ y < 1 by omega), if_pos (show y ≤ 9999 by omega)]
        by_cases q3 : 0 ≤ k ∧ k ≤ 1
        · rw [if_pos (decide_eq_true q3), if_neg (show ¬ k < 0 by omega), if_pos (show k ≤ 1 by omega)]
          obtain ⟨w0, w1, w2, w4, w5, w6, w7, w24, wl, w12, w13, w14, w15, w16⟩ := hw
          obtain ⟨t1, t2, t3, t4, t5⟩ := hd.2.2
          have g1 := hd.1.1
          have g2 := hd.1.2.1
          generalize hQ : d.2.2.2.2.1 = Q at *
          generalize hP : d.2.2.2.1 = P at *
          generalize hW : d.2.2.1 = W at *
          generalize hN : d.1.1 = N at *
          generalize hU : d.1.2.1 = U at *
          have bA := mul_bd (a := W.toInt - N.toInt) (b := Q.toInt) (A := 999) (B := 1000000) ⟨by omega, by omega⟩ ⟨by omega, by omega⟩
          have bB : 1 ≤ Q.toInt * U.toInt ∧ Q.toInt * U.toInt ≤ 30000000 := by
            have a1 := Int.mul_le_mul t2.1 g2.1 (by omega) (by omega)
            have a2 := Int.mul_le_mul t2.2 g2.2 (by omega) (by omega)
            omega
          have hAY : k_aboveYear d = some (iJ ((W.toInt - N.toInt) * Q.toInt + P.toInt)) := by
            unfold k_aboveYear
            rw [hQ, hP, hW, hN, show (W - N : Int32) = iI (W.toInt - N.toInt) by rw [← iI_sub, iI_of, iI_of], iI_J ⟨by omega, by omega⟩, e64, e64, iJ_mul, iJ_add]
          generalize hAd : (W.toInt - N.toInt) * Q.toInt + P.toInt = Ad at *
          have bAd : -1000000000 ≤ Ad ∧ Ad ≤ 1000000000 := by omega
          have hTA : mtrueAbove w (iI ((442 * s : Nat) : Int)) = some (iJ (W.toInt * Q.toInt + P.toInt)) := by
            unfold mtrueAbove
            rw [zck_t (watz (442 * s) 12 (by omega)), zck_t (watz (442 * s) 14 (by omega)), zck_t (watz (442 * s) 13 (by omega)), wat (442 * s) 12 (by omega), wat (442 * s) 13 (by omega), wat (442 * s) 14 (by omega), w12, w13, w14, e64, e64, e64, iJ_mul, iJ_add]
          generalize hBd : Q.toInt * U.toInt = Bd at *
          rw [hAY, Option.bind_some, e64, e64, iJ_mul, hBd]
          -- the reference's inner search
          have hin : ∀ m : Int, 1 ≤ m → m ≤ 1000 → ∃ kk : Int, kk = nk (Ad * m) Bd m ∧ (0 ≤ kk ∧ kk ≤ m) ∧ zloop (mwithin_78 fuel (upd F 0 0) w (iI x) (iI y) (iI k) (iI ((442 * s : Nat) : Int)) (iI m)) fuel (0, 0, 0) = some (if y * m * Q.toInt < ((kk * Bd - Ad * m).natAbs : Int) * x then .inl (iI (m + 1)) else .inr (if k = 0 then iJ m else iJ kk, upd F 0 0)) := fun m hm0 hm1 => by
            have bT := mul_bd (a := Ad) (b := m) (A := 1000000000) (B := 1000) bAd ⟨by omega, by omega⟩
            have bym := mul_bd (a := y) (b := m) (A := 9999) (B := 1000) ⟨by omega, by omega⟩ ⟨by omega, by omega⟩
            have bymq := mul_bd (a := y * m) (b := Q.toInt) (A := 9999 * 1000) (B := 1000000) ⟨by omega, by omega⟩ ⟨by omega, by omega⟩
            have hdist : ∀ j : Int, (N.toInt * m + U.toInt * j) * Q.toInt - (W.toInt * Q.toInt + P.toInt) * m = j * Bd - Ad * m := fun j => by
              rw [← hBd, ← hAd]
              simp only [Int.add_mul, Int.sub_mul, Int.mul_add]
              have r1 : N.toInt * m * Q.toInt = N.toInt * Q.toInt * m := by ac_rfl
              have r2 : U.toInt * j * Q.toInt = j * (Q.toInt * U.toInt) := by ac_rfl
              omega
            have hjB : ∀ j : Int, 0 ≤ j → j ≤ 1001 → 0 ≤ j * Bd ∧ j * Bd ≤ 1001 * 30000000 := fun j j0 j1 => ⟨Int.mul_nonneg j0 (by omega), Int.mul_le_mul j1 bB.2 (by omega) (by omega)⟩
            obtain ⟨r, e1, e2⟩ := zloop_inv (f := mwithin_78 fuel (upd F 0 0) w (iI x) (iI y) (iI k) (iI ((442 * s : Nat) : Int)) (iI m)) (R := fun a => ∃ j b v : Int, (0 ≤ j ∧ j ≤ m + 1) ∧ a = (iI b, iJ v, iI j) ∧ ((j = 0 ∧ b = 0 ∧ v = 0) ∨ (0 ≤ b ∧ b < j ∧ v = ((b * Bd - Ad * m).natAbs : Int) ∧ (∀ i, 0 ≤ i → i < j → v ≤ ((i * Bd - Ad * m).natAbs : Int)) ∧ ∀ i, 0 ≤ i → i < b → v < ((i * Bd - Ad * m).natAbs : Int)))) (S := fun r => r = if y * m * Q.toInt < ((nk (Ad * m) Bd m * Bd - Ad * m).natAbs : Int) * x then .inl (iI (m + 1)) else .inr (if k = 0 then iJ m else iJ (nk (Ad * m) Bd m), upd F 0 0)) (fun a => (m + 1 - a.2.2.toInt).toNat) (by
              rintro a ⟨j, b, v, hj, rfl, hph⟩
              unfold mwithin_78 mwithin_158 mwithin_166
              dsimp only
              rw [if_c (iI_lt ⟨by omega, by omega⟩ ⟨by omega, by omega⟩)]
              by_cases p : m < j
              · right
                rcases hph with hph | ⟨hb0, hb1, hv, hmin, hst⟩
                · omega
                · obtain ⟨hk1, hk2⟩ := nk_best (T := Ad * m) bB.1 (show 0 ≤ m by omega)
                  have hbe : b = nk (Ad * m) Bd m := by
                    have c1 := hk2 b hb0 (by omega)
                    have c2 := hmin (nk (Ad * m) Bd m) hk1.1 (by omega)
                    have c3 := c1.2 (by omega)
                    rcases Int.lt_or_le (nk (Ad * m) Bd m) b with c4 | c4
                    · have := hst _ hk1.1 c4; omega
                    · omega
                  have bb := hjB b hb0 (by omega)
                  have bv : 0 ≤ v ∧ v ≤ 1100000000000 := by omega
                  have bvx := mul_bd (a := v) (b := x) (A := 1100000000000) (B := 100000) ⟨by omega, by omega⟩ ⟨by omega, by omega⟩
                  rw [if_pos p, zck_t (watz (442 * s) 14 (by omega)), wat (442 * s) 14 (by omega), w14, e64 Q, iI_J ⟨by omega, by omega⟩, iI_J ⟨by omega, by omega⟩, iI_J ⟨by omega, by omega⟩, iJ_mul, iJ_mul, iJ_mul, if_c (iJ_lt ⟨by omega, by omega⟩ ⟨by omega, by omega⟩), if_c (show (iI k = (0 : Int32)) = (k = 0) from iI_eq (b := 0) hk ⟨by omega, by omega⟩), ← hbe, ← hv, show (iI m + 1 : Int32) = iI (m + 1) from iI_add _ 1]
                  by_cases t : y * m * Q.toInt < v * x
                  · rw [if_pos t, if_pos t]; exact ⟨_, rfl, rfl⟩
                  · rw [if_neg t, if_neg t]
                    by_cases t2 : k = 0
                    · rw [if_pos t2, if_pos t2]; exact ⟨_, rfl, rfl⟩
                    · rw [if_neg t2, if_neg t2, iI_J ⟨by omega, by omega⟩]; exact ⟨_, rfl, rfl⟩
              · left
                have bj := hjB j hj.1 (by omega)
                have hμ : (m + 1 - (iI (j + 1)).toInt).toNat < (m + 1 - (iI j).toInt).toNat := by rw [iI_to ⟨by omega, by omega⟩, iI_to ⟨by omega, by omega⟩]; omega
                rw [if_neg p, zck_t (watz (442 * s) 1 (by omega)), zck_t (watz (442 * s) 2 (by omega)), zck_t (watz (442 * s) 14 (by omega)), wat (442 * s) 1 (by omega), wat (442 * s) 2 (by omega), wat (442 * s) 14 (by omega), w1, w2, w14, hTA, Option.bind_some, e64 N, e64 U, e64 Q, iI_J ⟨by omega, by omega⟩, iI_J ⟨by omega, by omega⟩]
                simp only [iJ_mul, iJ_add, iJ_sub]
                rw [hdist, msize_abs ⟨by omega, by omega⟩, Option.bind_some, if_c (show (iI j ≤ (0 : Int32)) = (j ≤ 0) from iI_le (b := 0) ⟨by omega, by omega⟩ ⟨by omega, by omega⟩), show (iI j + 1 : Int32) = iI (j + 1) from iI_add _ 1]
                rcases hph with ⟨hj0, hb0, hv0⟩ | ⟨hb0, hb1, hv, hmin, hst⟩
                · subst hj0
                  rw [if_pos (by omega)]
                  refine ⟨_, rfl, ⟨0 + 1, 0, _, ⟨by omega, by omega⟩, rfl, Or.inr ⟨by omega, by omega, rfl, fun i i0 i1 => ?_, fun i i0 i1 => by omega⟩⟩, hμ⟩
                  rw [show i = 0 by omega]; exact Int.le_refl _
                · rw [if_neg (by omega), if_c (iJ_lt ⟨by omega, by omega⟩ ⟨by have := hjB b hb0 (by omega); omega, by have := hjB b hb0 (by omega); omega⟩)]
                  by_cases t : ((j * Bd - Ad * m).natAbs : Int) < v
                  · rw [if_pos t]
                    refine ⟨_, rfl, ⟨j + 1, j, _, ⟨by omega, by omega⟩, rfl, Or.inr ⟨by omega, by omega, rfl, fun i i0 i1 => ?_, fun i i0 i1 => ?_⟩⟩, hμ⟩
                    · by_cases u : i = j
                      · rw [u]; exact Int.le_refl _
                      · have := hmin i i0 (by omega); omega
                    · have := hmin i i0 i1; omega
                  · rw [if_neg t]
                    refine ⟨_, rfl, ⟨j + 1, b, v, ⟨by omega, by omega⟩, rfl, Or.inr ⟨by omega, by omega, hv, fun i i0 i1 => ?_, hst⟩⟩, hμ⟩
                    by_cases u : i = j
                    · rw [u]; omega
                    · exact hmin i i0 (by omega)) fuel (0, 0, 0) ⟨0, 0, 0, ⟨by omega, by omega⟩, rfl, Or.inl ⟨rfl, rfl, rfl⟩⟩ (by show (m + 1 - (iI 0).toInt).toNat < fuel; rw [iI_to ⟨by omega, by omega⟩]; omega)
            exact ⟨_, rfl, (nk_best bB.1 (by omega)).1, by rw [e1, e2]⟩
          obtain ⟨r, t, e1, e2, e3⟩ := zloop_sim (f := l_within_86 fuel (iI x) (iI y) (iI k) d (iJ Ad) (iJ Bd)) (g := mwithin_61 fuel (upd F 0 0) w (iI x) (iI y) (iI k) (iI ((442 * s : Nat) : Int))) (R := fun a c => a = c ∧ ∃ m : Int, (1 ≤ m ∧ m ≤ 1001) ∧ a = iI m) (S := fun a c => c = (a, upd F 0 0)) (fun a => (1001 - a.toInt).toNat) (by
            rintro a c ⟨rfl, m, hm, rfl⟩
            unfold l_within_86 mwithin_61
            rw [if_c (show ((1000 : Int32) < iI m) = (1000 < m) from iI_lt (a := 1000) ⟨by omega, by omega⟩ ⟨by omega, by omega⟩), if_c (show ((1000 : Int32) < iI m) = (1000 < m) from iI_lt (a := 1000) ⟨by omega, by omega⟩ ⟨by omega, by omega⟩)]
            by_cases p : 1000 < m
            · right; rw [if_pos p, if_pos p]; exact ⟨_, _, rfl, rfl, rfl⟩
            · obtain ⟨kk, j1, j2, j3⟩ := hin m hm.1 (by omega)
              have bT := mul_bd (a := Ad) (b := m) (A := 1000000000) (B := 1000) bAd ⟨by omega, by omega⟩
              have bym := mul_bd (a := y) (b := m) (A := 9999) (B := 1000) ⟨by omega, by omega⟩ ⟨by omega, by omega⟩
              have bymq := mul_bd (a := y * m) (b := Q.toInt) (A := 9999 * 1000) (B := 1000000) ⟨by omega, by omega⟩ ⟨by omega, by omega⟩
              have bb : 0 ≤ kk * Bd ∧ kk * Bd ≤ 1001 * 30000000 := ⟨Int.mul_nonneg j2.1 (by omega), Int.mul_le_mul (by omega) bB.2 (by omega) (by omega)⟩
              have bv : 0 ≤ ((kk * Bd - Ad * m).natAbs : Int) ∧ ((kk * Bd - Ad * m).natAbs : Int) ≤ 1100000000000 := by omega
              have bvx := mul_bd (a := ((kk * Bd - Ad * m).natAbs : Int)) (b := x) (A := 1100000000000) (B := 100000) ⟨by omega, by omega⟩ ⟨by omega, by omega⟩
              rw [if_neg p, if_neg p, j3, iI_J ⟨by omega, by omega⟩, iJ_mul, c_nearestK ⟨by omega, by omega⟩ bB ⟨by omega, by omega⟩, Option.bind_some, ← j1, iJ_mul, iJ_sub, c_abs ⟨by omega, by omega⟩, Option.bind_some, hQ, e64 Q, iI_J ⟨by omega, by omega⟩, iI_J ⟨by omega, by omega⟩, iJ_mul, iJ_mul, iJ_mul, if_c (iJ_lt ⟨by omega, by omega⟩ ⟨by omega, by omega⟩), if_c (show (iI k = (0 : Int32)) = (k = 0) from iI_eq (b := 0) hk ⟨by omega, by omega⟩), show (iI m + 1 : Int32) = iI (m + 1) from iI_add _ 1]
              by_cases t : y * m * Q.toInt < ((kk * Bd - Ad * m).natAbs : Int) * x
              · left
                rw [if_pos t, if_pos t]
                refine ⟨_, _, rfl, rfl, ⟨rfl, m + 1, ⟨by omega, by omega⟩, rfl⟩, ?_⟩
                rw [iI_to ⟨by omega, by omega⟩, iI_to ⟨by omega, by omega⟩]; omega
              · right
                rw [if_neg t, if_neg t]
                by_cases t2 : k = 0
                · rw [if_pos t2, if_pos t2]; exact ⟨_, _, rfl, rfl, rfl⟩
                · rw [if_neg t2, if_neg t2]; exact ⟨_, _, rfl, rfl, rfl⟩) fuel fuel 1 1 ⟨rfl, 1, ⟨by omega, by omega⟩, by decide +kernel⟩ (by show (1001 - (iI 1).toInt).toNat < fuel; rw [iI_to ⟨by omega, by omega⟩]; omega) (by show (1001 - (iI 1).toInt).toNat < fuel; rw [iI_to ⟨by omega, by omega⟩]; omega)
          rw [e1, e2, e3]
          exact ⟨_, _, rfl, rfl, rfl, h.thr⟩
        · rw [if_neg (dneg q3)]
          by_cases p : k < 0
          · rw [if_pos p]; exact ⟨_, _, rfl, rfl, rfl, h.thr⟩
          · rw [if_neg p, if_neg (show ¬ k ≤ 1 by omega)]; exact ⟨_, _, rfl, rfl, rfl, h.thr⟩
      · rw [if_neg (dneg q2)]
        by_cases p : y < 1
        · rw [if_pos p]; exact ⟨_, _, rfl, rfl, rfl, h.thr⟩
        · rw [if_neg p, if_neg (show ¬ y ≤ 9999 by omega)]; exact ⟨_, _, rfl, rfl, rfl, h.thr⟩
    · rw [if_neg (dneg q1)]
      by_cases p : x < 1
      · rw [if_pos p]; exact ⟨_, _, rfl, rfl, rfl, h.thr⟩
      · rw [if_neg p, if_pos (show 100000 < x by omega)]; exact ⟨_, _, rfl, rfl, rfl, h.thr⟩
