/-! ===== calls: dawns ===== -/
def dwn (d : vDes) (y : Int) : Int := daw d y / tL d.2.2
theorem dwn_mono {d : vDes} (hd : vOk d) {y z : Int} (h : y ≤ z) : dwn d y ≤ dwn d z := by
  obtain ⟨f1, f2, f3, f4, f5, f6, f7, f8, f9⟩ := t_facts hd.2.2
  unfold dwn daw
  have := Int.mul_le_mul_of_nonneg_right h f8.1
  exact Int.ediv_le_ediv (by omega) (by omega)
theorem c_dawn {d : vDes} (hd : vOk d) {y : Int} (hy : -200002 ≤ y ∧ y ≤ 200002) : k_dawnOf d (iI y) = some (iJ (dwn d y)) := by
  obtain ⟨f1, f2, f3, f4, f5, f6, f7, f8, f9⟩ := t_facts hd.2.2
  obtain ⟨u1, u2, u3⟩ := c_units hd.2.2
  obtain ⟨b1, b2, b3⟩ := gL_bd hd
  have h2 := mul_bd (a := y) (b := tG d.2.2 * tY d.2.2) (A := 200002) (B := 1000000000000) hy ⟨by omega, by omega⟩
  unfold k_dawnOf
  rw [u2, Option.bind_some, u3, Option.bind_some, u1, Option.bind_some, iI_J ⟨by omega, by omega⟩, iJ_mul, iJ_add, f_divJ ⟨by omega, by omega⟩ (by omega) (by omega) ⟨by omega, by omega⟩, Option.bind_some]
  congr 2
  unfold dwn daw
  rw [show y * (tG d.2.2 * tY d.2.2) + tG d.2.2 * tB d.2.2 = tG d.2.2 * (y * tY d.2.2 + tB d.2.2) by rw [Int.mul_add]; congr 1; ac_rfl, Int.mul_ediv_mul_of_pos _ _ (by omega)]
theorem m_dawnDay {d : vDes} (hd : vOk d) {w : Nat → Int32} {b : Nat} (hb : b ≤ 35360) (hw : DR d w b) {y : Int} (hy : -200002 ≤ y ∧ y ≤ 200002) {n : Nat} (hn : 250000 ≤ n) : mdawnOf n w (iI (b : Int)) (iJ y) = some (iJ (daw d y)) ∧ mbelowOf n w (iI (b : Int)) = some (iJ (tL d.2.2)) ∧ mfloor (iJ (daw d y)) (iJ (tL d.2.2)) = some (iJ (dwn d y)) ∧ b64 (dwn d y) := by
  obtain ⟨f1, f2, f3, f4, f5, f6, f7, f8, f9⟩ := t_facts hd.2.2
  have h1 := yY_bd hd hy
  have hda : -210000000000000000 ≤ daw d y ∧ daw d y ≤ 210000000000000000 := by unfold daw; omega
  refine ⟨m_dawn hd hb hw y hn, m_below hd hb hw hn, m_floor ⟨by omega, by omega⟩ (by omega) (by omega) ⟨by omega, by omega⟩, ?_⟩
  unfold dwn
  have b3 := (Int.ediv_lt_iff_lt_mul (show 0 < tL d.2.2 by omega) (a := daw d y) (b := 210000000000000001)).mpr (by
    have : 210000000000000001 * 1 ≤ 210000000000000001 * tL d.2.2 := Int.mul_le_mul_of_nonneg_left (by omega) (by omega)
    omega)
  have b2 := (Int.le_ediv_iff_mul_le (show 0 < tL d.2.2 by omega) (a := -210000000000000000) (b := daw d y)).mpr (by
    have : (-210000000000000000) * tL d.2.2 ≤ (-210000000000000000) * 1 := Int.mul_le_mul_of_nonpos_left (by omega) (by omega)
    omega)
  exact ⟨by omega, by omega⟩
theorem c_dawnInner {d : vDes} (hd : vOk d) {D z y : Int} (x2 x3 c : Int32) {a b : Int} (hD : hol d D) (hz : -100000 ≤ z ∧ z ≤ 100000) (hzD : sta d z ≤ D) (hy : -100000 ≤ y ∧ y ≤ 100000) (ha : 0 ≤ a ∧ a ≤ 2000) (hb : 0 ≤ b ∧ b ≤ 2000) {n : Nat} (hn : 250000 ≤ n) : ∃ u, isYr d D u ∧ zloop (k_tellDawns_86 n d x2 x3 (iI a) (iI b) c (iI y) (iJ D)) n (iI z, iJ (sta d z), iI (dys d z)) = some (.inl (iI u, iJ (sta d u), iI (dys d u), iI (if D - sta d u < a then D - sta d u else a), iI (if b < D - sta d u then D - sta d u else b), c + (if u = y then 0 else 1), iI (y + 1))) := by
  have hDb := hol_bd hd hD
  obtain ⟨r, g1, u, g2, g3⟩ := zloop_inv (f := k_tellDawns_86 n d x2 x3 (iI a) (iI b) c (iI y) (iJ D)) (R := fun s => ∃ u : Int, (-100000 ≤ u ∧ u ≤ 100000) ∧ sta d u ≤ D ∧ s = (iI u, iJ (sta d u), iI (dys d u))) (S := fun r => ∃ u, isYr d D u ∧ r = .inl (iI u, iJ (sta d u), iI (dys d u), iI (if D - sta d u < a then D - sta d u else a), iI (if b < D - sta d u then D - sta d u else b), c + (if u = y then 0 else 1), iI (y + 1))) (fun s => (100000 - s.1.toInt).toNat) (by
    rintro s ⟨u, hu, hs, rfl⟩
    have hsb := sta_bd hd (y := u) ⟨by omega, by omega⟩
    have hdb := dys_bd hd u
    have h127 : isYr d D u → k_tellDawns_127 n d x2 x3 (iI u) (iJ (sta d u)) (iI (dys d u)) (iI a) (iI b) c (iI y) (iJ D) = some (.inl (iI u, iJ (sta d u), iI (dys d u), iI (if D - sta d u < a then D - sta d u else a), iI (if b < D - sta d u then D - sta d u else b), c + (if u = y then 0 else 1), iI (y + 1))) := fun hyr => by
      have h5 := sta_succ hd u
      have h6 := hyr.2.2
      unfold k_tellDawns_127 k_tellDawns_167 j_minI j_maxI
      rw [iJ_sub, iJ_I, if_c (iI_lt ⟨by omega, by omega⟩ ⟨by omega, by omega⟩), if_c (iI_lt ⟨by omega, by omega⟩ ⟨by omega, by omega⟩)]
      have a1 : (iI u = iI y) = (u = y) := iI_eq ⟨by omega, by omega⟩ ⟨by omega, by omega⟩
      have a2 : (iI y + 1 : Int32) = iI (y + 1) := iI_add _ 1
      by_cases p1 : D - sta d u < a
      · by_cases p2 : b < D - sta d u
        · by_cases p3 : u = y
          · simp only [a1, a2, if_pos p1, if_pos p2, if_pos p3, Option.bind_some]
          · simp only [a1, a2, if_pos p1, if_pos p2, if_neg p3, Option.bind_some]
        · by_cases p3 : u = y
          · simp only [a1, a2, if_pos p1, if_neg p2, if_pos p3, Option.bind_some]
          · simp only [a1, a2, if_pos p1, if_neg p2, if_neg p3, Option.bind_some]
      · by_cases p2 : b < D - sta d u
        · by_cases p3 : u = y
          · simp only [a1, a2, if_neg p1, if_pos p2, if_pos p3, Option.bind_some]
          · simp only [a1, a2, if_neg p1, if_pos p2, if_neg p3, Option.bind_some]
        · by_cases p3 : u = y
          · simp only [a1, a2, if_neg p1, if_neg p2, if_pos p3, Option.bind_some]
          · simp only [a1, a2, if_neg p1, if_neg p2, if_neg p3, Option.bind_some]
    unfold k_tellDawns_86
    dsimp only
    rw [if_c (show ((100000 : Int32) ≤ iI u) = (100000 ≤ u) from iI_le (a := 100000) ⟨by omega, by omega⟩ ⟨by omega, by omega⟩), iJ_sub, iI_J ⟨by omega, by omega⟩, if_c (iJ_lt ⟨by omega, by omega⟩ ⟨by omega, by omega⟩)]
    by_cases p : 100000 ≤ u
    · right
      have hu1 : u = 100000 := by omega
      have hyr : isYr d D u := ⟨hu, hs, by rw [hu1]; exact hD.2⟩
      rw [if_pos p, h127 hyr]
      exact ⟨_, rfl, u, hyr, rfl⟩
    · rw [if_neg p]
      have h5 := sta_succ hd u
      by_cases p2 : D - sta d u < dys d u
      · right
        have hyr : isYr d D u := ⟨hu, hs, by omega⟩
        rw [if_pos p2, h127 hyr]
        exact ⟨_, rfl, u, hyr, rfl⟩
      · left
        rw [if_neg p2, show (iI u + 1 : Int32) = iI (u + 1) from iI_add _ 1, c_days hd ⟨by omega, by omega⟩ (by omega), Option.bind_some, iJ_add, ← h5]
        refine ⟨_, rfl, ⟨u + 1, ⟨by omega, by omega⟩, by omega, rfl⟩, ?_⟩
        dsimp only; rw [iI_to ⟨by omega, by omega⟩, iI_to ⟨by omega, by omega⟩]; omega) n (iI z, iJ (sta d z), iI (dys d z)) ⟨z, hz, hzD, rfl⟩ (by dsimp only; rw [iI_to ⟨by omega, by omega⟩]; omega)
  exact ⟨u, g2, by rw [g1, g3]⟩
theorem m_dawnStep {d : vDes} (hd : vOk d) {w : Nat → Int32} {b : Nat} (hb : b ≤ 35360) (hw : DR d w b) (F : Nat → Int32) {f z y u : Int} (x4 c : Int32) {a' b' : Int} (hf : b32 f) (hz : b32 z) (hy : -100000 ≤ y ∧ y ≤ 100000) (hyz : y ≤ z) (hyr : isYr d (dwn d y) u) (ha : 0 ≤ a' ∧ a' ≤ 2000) (hb' : 0 ≤ b' ∧ b' ≤ 2000) {n : Nat} (hn : 250000 ≤ n) : mdawns_54 n F w (iI f) (iI z) x4 (iI (b : Int)) (iJ a', iJ b', c, iI y) = some (.inl (iJ (if y = f ∨ dwn d y - sta d u < a' then dwn d y - sta d u else a'), iJ (if y = f ∨ b' < dwn d y - sta d u then dwn d y - sta d u else b'), c + (if u = y then 0 else 1), iI (y + 1))) := by
  obtain ⟨k1, k2, k3, k4⟩ := m_dawnDay hd hb hw (y := y) ⟨by omega, by omega⟩ hn
  obtain ⟨hu, hu1, hu2⟩ := hyr
  have h5 := sta_succ hd u
  have hdb := dys_bd hd u
  have hh : hol d (dwn d y) := ⟨by have := sta_le hd hu.1; omega, by have := sta_le hd (show u + 1 ≤ 100001 by omega); omega⟩
  obtain ⟨r, m1, m2⟩ := m_isDay hd hb hw k4 (show 7 ≤ n by omega)
  obtain ⟨v, v1, v2⟩ := m_yearOf hd hb hw hh hn
  have huv := isYr_u hd v1 ⟨hu, hu1, hu2⟩
  subst huv
  unfold mdawns_54 mdawns_132 mdawns_152 mdawns_159 mdawns_175 mdawns_182 mflag
  dsimp only
  have hsb := sta_bd hd (y := v) ⟨by omega, by omega⟩
  rw [if_c (iI_lt hz ⟨by omega, by omega⟩), if_neg (by omega), iI_J ⟨by omega, by omega⟩, k1, Option.bind_some, k2, Option.bind_some, k3, Option.bind_some, m1, Option.bind_some, if_pos (m2.mpr hh), v2, Option.bind_some, m_start hd hb hw ⟨by omega, by omega⟩ (by omega), Option.bind_some, iJ_sub, if_c (iJ_eq ⟨by omega, by omega⟩ ⟨by omega, by omega⟩)]
  have a1 : (iI y = iI f) = (y = f) := iI_eq ⟨by omega, by omega⟩ hf
  have a2 : (iJ a' ≤ iJ (dwn d y - sta d v)) = (a' ≤ dwn d y - sta d v) := iJ_le ⟨by omega, by omega⟩ ⟨by omega, by omega⟩
  have a3 : (iJ (dwn d y - sta d v) ≤ iJ b') = (dwn d y - sta d v ≤ b') := iJ_le ⟨by omega, by omega⟩ ⟨by omega, by omega⟩
  have a4 : (iI y + 1 : Int32) = iI (y + 1) := iI_add _ 1
  have z10 : ¬ (1 : Int32) = 0 := by decide
  by_cases p1 : y = f
  · have o1 : y = f ∨ dwn d y - sta d v < a' := Or.inl p1
    have o2 : y = f ∨ b' < dwn d y - sta d v := Or.inl p1
    by_cases p3 : v = y
    · simp only [a1, a4, if_pos p1, if_pos o1, if_pos o2, if_pos p3, ↓reduceIte, Option.bind_some]
    · simp only [a1, a4, if_pos p1, if_pos o1, if_pos o2, if_neg p3, if_neg z10, ↓reduceIte, Option.bind_some]
  · by_cases p2 : a' ≤ dwn d y - sta d v
    · have o1 : ¬ (y = f ∨ dwn d y - sta d v < a') := by omega
      by_cases p4 : dwn d y - sta d v ≤ b'
      · have o2 : ¬ (y = f ∨ b' < dwn d y - sta d v) := by omega
        by_cases p3 : v = y
        · simp only [a1, a2, a3, a4, if_neg p1, if_pos p2, if_pos p4, if_neg o1, if_neg o2, if_pos p3, ↓reduceIte, Option.bind_some]
        · simp only [a1, a2, a3, a4, if_neg p1, if_pos p2, if_pos p4, if_neg o1, if_neg o2, if_neg p3, if_neg z10, ↓reduceIte, Option.bind_some]
      · have o2 : y = f ∨ b' < dwn d y - sta d v := by omega
        by_cases p3 : v = y
        · simp only [a1, a2, a3, a4, if_neg p1, if_pos p2, if_neg p4, if_neg o1, if_pos o2, if_pos p3, ↓reduceIte, Option.bind_some]
        · simp only [a1, a2, a3, a4, if_neg p1, if_pos p2, if_neg p4, if_neg o1, if_pos o2, if_neg p3, if_neg z10, ↓reduceIte, Option.bind_some]
    · have o1 : y = f ∨ dwn d y - sta d v < a' := by omega
      by_cases p4 : dwn d y - sta d v ≤ b'
      · have o2 : ¬ (y = f ∨ b' < dwn d y - sta d v) := by omega
        by_cases p3 : v = y
        · simp only [a1, a2, a3, a4, if_neg p1, if_neg p2, if_pos p4, if_pos o1, if_neg o2, if_pos p3, ↓reduceIte, Option.bind_some]
        · simp only [a1, a2, a3, a4, if_neg p1, if_neg p2, if_pos p4, if_pos o1, if_neg o2, if_neg p3, if_neg z10, ↓reduceIte, Option.bind_some]
      · have o2 : y = f ∨ b' < dwn d y - sta d v := by omega
        by_cases p3 : v = y
        · simp only [a1, a2, a3, a4, if_neg p1, if_neg p2, if_neg p4, if_pos o1, if_pos o2, if_pos p3, ↓reduceIte, Option.bind_some]
        · simp only [a1, a2, a3, a4, if_neg p1, if_neg p2, if_neg p4, if_pos o1, if_pos o2, if_neg p3, if_neg z10, ↓reduceIte, Option.bind_some]
theorem hc_dawns : HC_dawns Inv := by
  intro A tp dv cs cv jv bo hg lw sb F G tq w oc z0 z1 z2 z3 h
  have hn := hn_f
  unfold l_dawns mdawns
  rcases atD h.2.2.1 z0 with ⟨h1, h2⟩ | ⟨s, d, hs, rfl, hdv, h1, h2, h3, hd, hw⟩
  · rw [h1, h2]; exact ⟨_, _, rfl, rfl, rfl, h.thr⟩
  · obtain ⟨f, hf, rfl⟩ := ex32 z1
    obtain ⟨z, hz, rfl⟩ := ex32 z2
    obtain ⟨k, hk, rfl⟩ := ex32 z3
    have hb : 442 * s ≤ 35360 := by omega
    have h02 : misIn (iI k).toInt64 0 2 = some (decide (0 ≤ k ∧ k ≤ 2)) := by
      rw [iI_J hk, show (0 : Int64) = iJ 0 by decide +kernel, show (2 : Int64) = iJ 2 by decide +kernel]
      exact m_isIn (b32_64 hk) ⟨by omega, by omega⟩ ⟨by omega, by omega⟩
    simp only [h1, h2, h3, Option.bind_some, zO_s, ↓reduceIte, c_isWalk hf hz, m_isSpan hf hz, h02]
    rw [if_c (show (iI k < (0 : Int32)) = (k < 0) from iI_lt (b := 0) hk ⟨by omega, by omega⟩), if_c (show (iI k ≤ (2 : Int32)) = (k ≤ 2) from iI_le (b := 2) hk ⟨by omega, by omega⟩)]
    by_cases q : (-100000 ≤ f ∧ f ≤ 100000) ∧ (-100000 ≤ z ∧ z ≤ 100000) ∧ f ≤ z ∧ z - f ≤ 20000
    · rw [if_pos (decide_eq_true q), if_pos (decide_eq_true q)]
      by_cases qk : 0 ≤ k ∧ k ≤ 2
      · rw [if_pos (decide_eq_true qk), if_neg (show ¬ k < 0 by omega), if_pos (show k ≤ 2 by omega)]
        have hbf := (m_dawnDay hd hb hw (y := f) ⟨by omega, by omega⟩ hn).2.2.2
        have hbz := (m_dawnDay hd hb hw (y := z) ⟨by omega, by omega⟩ hn).2.2.2
        obtain ⟨rf, cf1, cf2⟩ := c_holds hd hbf (show 7 ≤ fuel by omega)
        obtain ⟨rz, cz1, cz2⟩ := c_holds hd hbz (show 7 ≤ fuel by omega)
        unfold k_tellDawns
        rw [c_dawn hd ⟨by omega, by omega⟩, Option.bind_some, cf1, Option.bind_some, c_dawn hd ⟨by omega, by omega⟩, Option.bind_some, cz1, Option.bind_some]
        by_cases hff : hol d (dwn d f)
        · rw [if_pos (cf2.mpr hff)]
          by_cases hzz : hol d (dwn d z)
          · rw [if_pos (cz2.mpr hzz)]
            have hall : ∀ y, f ≤ y → y ≤ z → hol d (dwn d y) := fun y h1 h2 => ⟨by have := dwn_mono hd h1; have := hff.1; omega, by have := dwn_mono hd h2; have := hzz.2; omega⟩
            obtain ⟨u0, u1, u2⟩ := c_yearOf hd hff hn
            have hu0 := u1.1
            rw [Option.bind_some, u2, Option.bind_some, c_start hd ⟨by omega, by omega⟩ (by omega), Option.bind_some, c_days hd ⟨by omega, by omega⟩ (by omega), Option.bind_some, show k_yearDays d.1 1 = some (iI (d.1.1.toInt + d.1.2.1.toInt)) by unfold k_yearDays; rw [if_neg (by decide), ← iI_add, iI_of, iI_of], Option.bind_some]
            have g1 := hd.1.1
            have g2 := hd.1.2.1
            obtain ⟨r, t, e1, e2, e3⟩ := zloop_sim (f := k_tellDawns_72 fuel d (iI z) (iI k)) (g := mdawns_54 fuel (upd F 0 0) w (iI f) (iI z) (iI k) (iI ((442 * s : Nat) : Int))) (R := fun p c => ∃ (y u a b a' b' : Int) (n' : Int32), (f ≤ y ∧ y ≤ z + 1) ∧ (-100000 ≤ u ∧ u ≤ 100000) ∧ (y ≤ z → sta d u ≤ dwn d y) ∧ ((0 ≤ a ∧ a ≤ 2000) ∧ (0 ≤ b ∧ b ≤ 2000) ∧ (0 ≤ a' ∧ a' ≤ 2000) ∧ 0 ≤ b' ∧ b' ≤ 2000) ∧ ((y = f ∧ a = d.1.1.toInt + d.1.2.1.toInt ∧ b = 0) ∨ (f < y ∧ a = a' ∧ b = b')) ∧ p = (iI u, iJ (sta d u), iI (dys d u), iI a, iI b, n', iI y) ∧ c = (iJ a', iJ b', n', iI y)) (S := fun p c => c = (p, upd F 0 0)) (fun p => (z + 1 - p.2.2.2.2.2.2.toInt).toNat) (by
              rintro p c ⟨y, u, a, b, a', b', n', hy, hu, hsu, ⟨ba, bb, ba', bb'⟩, hab, rfl, rfl⟩
              by_cases py : y ≤ z
              · left
                have hho := hall y hy.1 py
                obtain ⟨v, v1, v2⟩ := c_dawnInner hd (D := dwn d y) (z := u) (y := y) (iI z) (iI k) n' (a := a) (b := b) hho hu (hsu py) ⟨by omega, by omega⟩ ba bb hn
                have hv := v1.1
                have h5 := sta_succ hd v
                have h6 := v1.2.2
                have h7 := v1.2.1
                have hdb := dys_bd hd v
                have hdm : dys d v ≤ d.1.1.toInt + d.1.2.1.toInt := by unfold dys; split <;> omega
                have hk72 : k_tellDawns_72 fuel d (iI z) (iI k) (iI u, iJ (sta d u), iI (dys d u), iI a, iI b, n', iI y) = some (.inl (iI v, iJ (sta d v), iI (dys d v), iI (if dwn d y - sta d v < a then dwn d y - sta d v else a), iI (if b < dwn d y - sta d v then dwn d y - sta d v else b), n' + (if v = y then 0 else 1), iI (y + 1))) := by
                  unfold k_tellDawns_72
                  dsimp only
                  rw [if_c (iI_lt hz ⟨by omega, by omega⟩), if_neg (by omega), c_dawn hd ⟨by omega, by omega⟩, Option.bind_some, v2]
                refine ⟨_, _, hk72, m_dawnStep hd hb hw (upd F 0 0) (iI k) n' hf hz ⟨by omega, by omega⟩ py v1 ba' bb' hn, ⟨y + 1, v, _, _, _, _, _, ⟨by omega, by omega⟩, hv, fun hz1 => by have := dwn_mono hd (show y ≤ y + 1 by omega); omega, ?_, Or.inr ⟨by omega, ?_, ?_⟩, rfl, rfl⟩, ?_⟩
                · refine ⟨?_, ?_, ?_, ?_⟩
                  · split <;> omega
                  · split <;> omega
                  · split <;> omega
                  · split <;> omega
                · rcases hab with ⟨j1, j2, j3⟩ | ⟨j1, j2, j3⟩
                  · rw [if_pos (Or.inl j1)]
                    split <;> omega
                  · by_cases t : dwn d y - sta d v < a
                    · rw [if_pos t, if_pos (Or.inr (by omega))]
                    · rw [if_neg t, if_neg (by omega)]; exact j2
                · rcases hab with ⟨j1, j2, j3⟩ | ⟨j1, j2, j3⟩
                  · rw [if_pos (Or.inl j1)]
                    split <;> omega
                  · by_cases t : b < dwn d y - sta d v
                    · rw [if_pos t, if_pos (Or.inr (by omega))]
                    · rw [if_neg t, if_neg (by omega)]; exact j3
                · dsimp only; rw [iI_to ⟨by omega, by omega⟩, iI_to ⟨by omega, by omega⟩]; omega
              · right
                unfold k_tellDawns_72 mdawns_54
                dsimp only
                rw [if_c (iI_lt hz ⟨by omega, by omega⟩), if_pos (show z < y by omega), if_c (iI_lt hz ⟨by omega, by omega⟩), if_pos (show z < y by omega), iJ_I, iJ_I]
                rcases hab with ⟨j1, j2, j3⟩ | ⟨j1, j2, j3⟩
                · omega
                · by_cases t0 : iI k = 0
                  · rw [if_pos t0, if_pos t0, j2]; exact ⟨_, _, rfl, rfl, rfl⟩
                  · rw [if_neg t0, if_neg t0]
                    by_cases t1 : iI k = 1
                    · rw [if_pos t1, if_pos t1, j3]; exact ⟨_, _, rfl, rfl, rfl⟩
                    · rw [if_neg t1, if_neg t1]; exact ⟨_, _, rfl, rfl, rfl⟩) fuel fuel (iI u0, iJ (sta d u0), iI (dys d u0), iI (d.1.1.toInt + d.1.2.1.toInt), 0, 0, iI f) (0, 0, 0, iI f) ⟨f, u0, _, 0, 0, 0, 0, ⟨by omega, by omega⟩, hu0, fun _ => u1.2.1, ⟨⟨by omega, by omega⟩, ⟨by omega, by omega⟩, ⟨by omega, by omega⟩, by omega, by omega⟩, Or.inl ⟨rfl, rfl, rfl⟩, rfl, rfl⟩ (by show (z + 1 - (iI f).toInt).toNat < fuel; rw [iI_to ⟨by omega, by omega⟩]; omega) (by show (z + 1 - (iI f).toInt).toNat < fuel; rw [iI_to ⟨by omega, by omega⟩]; omega)
            rw [e1, e2, e3]
            exact ⟨_, _, rfl, rfl, rfl, h.thr⟩
          · rw [if_neg (fun t => hzz (cz2.mp t))]
            obtain ⟨r, e1, e2⟩ := zloop_inv (f := mdawns_54 fuel (upd F 0 0) w (iI f) (iI z) (iI k) (iI ((442 * s : Nat) : Int))) (R := fun c => ∃ (y a' b' : Int) (n' : Int32), (f ≤ y ∧ y ≤ z) ∧ ((0 ≤ a' ∧ a' ≤ 2000) ∧ 0 ≤ b' ∧ b' ≤ 2000) ∧ c = (iJ a', iJ b', n', iI y)) (S := fun c => c = (-1, upd F 0 0)) (fun p => (z + 1 - p.2.2.2.toInt).toNat) (by
              rintro c ⟨y, a', b', n', hy, ⟨ba', bb'⟩, rfl⟩
              by_cases hho : hol d (dwn d y)
              · left
                obtain ⟨v, v1, v2⟩ := c_yearOf hd hho hn
                have hv := v1.1
                have h5 := sta_succ hd v
                have h6 := v1.2.2
                have h7 := v1.2.1
                have hdb := dys_bd hd v
                have hne : y ≠ z := fun e => hzz (by rw [← e]; exact hho)
                refine ⟨_, m_dawnStep hd hb hw (upd F 0 0) (iI k) n' hf hz ⟨by omega, by omega⟩ hy.2 v1 ba' bb' hn, ⟨y + 1, _, _, _, ⟨by omega, by omega⟩, ⟨?_, ?_⟩, rfl⟩, ?_⟩
                · split <;> omega
                · split <;> omega
                · dsimp only; rw [iI_to ⟨by omega, by omega⟩, iI_to ⟨by omega, by omega⟩]; omega
              · right
                obtain ⟨k1, k2, k3, k4⟩ := m_dawnDay hd hb hw (y := y) ⟨by omega, by omega⟩ hn
                obtain ⟨r, m1, m2⟩ := m_isDay hd hb hw k4 (show 7 ≤ fuel by omega)
                unfold mdawns_54
                dsimp only
                rw [if_c (iI_lt hz ⟨by omega, by omega⟩), if_neg (by omega), iI_J ⟨by omega, by omega⟩, k1, Option.bind_some, k2, Option.bind_some, k3, Option.bind_some, m1, Option.bind_some, if_neg (fun t => hho (m2.mp t))]
                exact ⟨_, rfl, rfl⟩) fuel (0, 0, 0, iI f) ⟨f, 0, 0, 0, ⟨by omega, by omega⟩, ⟨⟨by omega, by omega⟩, by omega, by omega⟩, rfl⟩ (by show (z + 1 - (iI f).toInt).toNat < fuel; rw [iI_to ⟨by omega, by omega⟩]; omega)
            rw [e1, e2]
            exact ⟨_, _, rfl, rfl, rfl, h.thr⟩
        · rw [if_neg (fun t => hff (cf2.mp t))]
          have hst : mdawns_54 fuel (upd F 0 0) w (iI f) (iI z) (iI k) (iI ((442 * s : Nat) : Int)) (0, 0, 0, iI f) = some (.inr (-1, upd F 0 0)) := by
            obtain ⟨k1, k2, k3, k4⟩ := m_dawnDay hd hb hw (y := f) ⟨by omega, by omega⟩ hn
            obtain ⟨r, m1, m2⟩ := m_isDay hd hb hw k4 (show 7 ≤ fuel by omega)
            unfold mdawns_54
            dsimp only
            rw [if_c (iI_lt hz hf), if_neg (by omega), iI_J ⟨by omega, by omega⟩, k1, Option.bind_some, k2, Option.bind_some, k3, Option.bind_some, m1, Option.bind_some, if_neg (fun t => hff (m2.mp t))]
          obtain ⟨r, e1, e2⟩ := zloop_inv (f := mdawns_54 fuel (upd F 0 0) w (iI f) (iI z) (iI k) (iI ((442 * s : Nat) : Int))) (R := fun c => c = (0, 0, 0, iI f)) (S := fun c => c = (-1, upd F 0 0)) (fun p => 0) (by
            rintro c rfl
            right
            exact ⟨_, hst, rfl⟩) fuel (0, 0, 0, iI f) rfl (by omega)
          rw [e1, e2]
          exact ⟨_, _, rfl, rfl, rfl, h.thr⟩
      · rw [if_neg (dneg qk)]
        by_cases p : k < 0
        · rw [if_pos p]; exact ⟨_, _, rfl, rfl, rfl, h.thr⟩
        · rw [if_neg p, if_neg (show ¬ k ≤ 2 by omega)]; exact ⟨_, _, rfl, rfl, rfl, h.thr⟩
    · rw [if_neg (dneg q), if_neg (dneg q)]; exact ⟨_, _, rfl, rfl, rfl, h.thr⟩
