/-! ===== calls: extreme, passes, steady, dawns ===== -/
theorem zloop_peel {σ ρ : Type} {f : σ → Option (σ ⊕ ρ)} {s s' : σ} {n : Nat} (hn : 1 ≤ n) (h : f s = some (.inl s')) : zloop f n s = zloop f (n - 1) s' := by
  obtain ⟨k, rfl⟩ : ∃ k, n = k + 1 := ⟨n - 1, by omega⟩
  rw [zloop, h]; rfl
theorem c_extremeStep {d : vDes} (hd : vOk d) {x2 y e : Int} {x3 : Int32} (hx : b32 x2) (hy : -100000 ≤ y ∧ y ≤ 100000) (he : -100000 ≤ e ∧ e ≤ 100000) (hyx : y ≤ x2) {n : Nat} (hn : 250000 ≤ n) : k_extremeYear_31 n d (iI x2) x3 (iJ (tG d.2.2 * ((d.1.1.toInt + if false = true then d.1.2.1.toInt else 0) * tL d.2.2 - tY d.2.2))) (iJ (tG d.2.2 * ((d.1.1.toInt + if true = true then d.1.2.1.toInt else 0) * tL d.2.2 - tY d.2.2))) (iJ (tG d.2.2 * dri d y), iJ (tG d.2.2 * dri d e), iI e, iI y) = some (.inl (iJ (tG d.2.2 * dri d (y + 1)), iJ (tG d.2.2 * dri d (if (x3 = 0 ∧ dri d y < dri d e) ∨ (x3 ≠ 0 ∧ dri d e < dri d y) then y else e)), iI (if (x3 = 0 ∧ dri d y < dri d e) ∨ (x3 ≠ 0 ∧ dri d e < dri d y) then y else e), iI (y + 1))) := by
  obtain ⟨f1, _⟩ := t_facts hd.2.2
  have b1 := gdri_bd hd (y := y) ⟨by omega, by omega⟩
  have b2 := gdri_bd hd (y := e) ⟨by omega, by omega⟩
  have h68 : ∀ m e' : Int, k_extremeYear_68 n d (iI x2) x3 (iJ (tG d.2.2 * ((d.1.1.toInt + if false = true then d.1.2.1.toInt else 0) * tL d.2.2 - tY d.2.2))) (iJ (tG d.2.2 * ((d.1.1.toInt + if true = true then d.1.2.1.toInt else 0) * tL d.2.2 - tY d.2.2))) (iJ (tG d.2.2 * dri d y)) (iJ m) (iI e') (iI y) = some (.inl (iJ (tG d.2.2 * dri d (y + 1)), iJ m, iI e', iI (y + 1))) := fun m e' => by
    unfold k_extremeYear_68 k_extremeYear_89
    rw [c_leap hd.2.1 ⟨by omega, by omega⟩ (by omega), Option.bind_some, gdri_succ hd, show (iI y + 1 : Int32) = iI (y + 1) from iI_add _ 1]
    cases lLeap d.2.1 y
    · rw [if_neg (by decide), iJ_add]
    · rw [if_pos rfl, iJ_add]
  unfold k_extremeYear_31 k_extremeYear_60
  dsimp only
  rw [if_c (iI_lt hx ⟨by omega, by omega⟩), if_neg (by omega), if_c (iJ_le ⟨by omega, by omega⟩ ⟨by omega, by omega⟩), if_c (iJ_le ⟨by omega, by omega⟩ ⟨by omega, by omega⟩), if_c (gcmp f1.1), if_c (gcmp f1.1), h68, h68]
  by_cases z : x3 = 0
  · rw [if_pos z]
    by_cases p : dri d e ≤ dri d y
    · rw [if_pos p, if_neg (by rintro (q | q); omega; exact q.1 z)]
    · rw [if_neg p, if_pos (Or.inl ⟨z, by omega⟩)]
  · rw [if_neg z]
    by_cases p : dri d y ≤ dri d e
    · rw [if_pos p, if_neg (by rintro (q | q); exact z q.1; omega)]
    · rw [if_neg p, if_pos (Or.inr ⟨z, by omega⟩)]
theorem m_extremeStep {d : vDes} (hd : vOk d) {w : Nat → Int32} {b : Nat} (hb : b ≤ 35360) (hw : DR d w b) (F : Nat → Int32) {x2 y e : Int} {x3 x5 : Int32} (hx : b32 x2) (hy : -100000 ≤ y ∧ y ≤ 100000) (he : -100000 ≤ e ∧ e ≤ 100000) (hyx : y ≤ x2) {n : Nat} (hn : 250000 ≤ n) : mextreme_62 n F w (iI x2) x3 x5 (iI (b : Int)) (iI e, iJ (dri d e), iI y) = some (.inl (iI (if (x3 = 0 ∧ dri d y < dri d e) ∨ (x3 ≠ 0 ∧ dri d e < dri d y) then y else e), iJ (dri d (if (x3 = 0 ∧ dri d y < dri d e) ∨ (x3 ≠ 0 ∧ dri d e < dri d y) then y else e)), iI (y + 1))) := by
  have b1 := dri_bd hd (y := y) ⟨by omega, by omega⟩
  have b2 := dri_bd hd (y := e) ⟨by omega, by omega⟩
  unfold mextreme_62 mextreme_106 mextreme_114
  dsimp only
  rw [if_c (iI_lt hx ⟨by omega, by omega⟩), if_neg (by omega), iI_J ⟨by omega, by omega⟩, m_drift hd hb hw ⟨by omega, by omega⟩ hn, Option.bind_some, if_c (iJ_lt ⟨by omega, by omega⟩ ⟨by omega, by omega⟩), if_c (iJ_lt ⟨by omega, by omega⟩ ⟨by omega, by omega⟩), show (iI y + 1 : Int32) = iI (y + 1) from iI_add _ 1]
  by_cases z : x3 = 0
  · rw [if_pos z]
    by_cases p : dri d y < dri d e
    · rw [if_pos p, if_pos (Or.inl ⟨z, by omega⟩)]
    · rw [if_neg p, if_neg (by rintro (q | q); omega; exact q.1 z)]
  · rw [if_neg z]
    by_cases p : dri d e < dri d y
    · rw [if_pos p, if_pos (Or.inr ⟨z, by omega⟩)]
    · rw [if_neg p, if_neg (by rintro (q | q); exact z q.1; omega)]
theorem hc_extreme : HC_extreme Inv := by
  intro A tp dv cs cv jv bo hg lw sb F G tq w oc z0 z1 z2 z3 z4 h
  have hn := hn_f
  unfold l_extreme mextreme
  rcases atD h.2.2.1 z0 with ⟨h1, h2⟩ | ⟨s, d, hs, rfl, hdv, h1, h2, h3, hd, hw⟩
  · rw [h1, h2]; exact ⟨_, _, rfl, rfl, rfl, h.thr⟩
  · obtain ⟨f, hf, rfl⟩ := ex32 z1
    obtain ⟨z, hz, rfl⟩ := ex32 z2
    obtain ⟨x, hx, rfl⟩ := ex32 z4
    have hb : 442 * s ≤ 35360 := by omega
    have h02 : misIn (iI x).toInt64 0 2 = some (decide (0 ≤ x ∧ x ≤ 2)) := by
      rw [iI_J hx, show (0 : Int64) = iJ 0 by decide +kernel, show (2 : Int64) = iJ 2 by decide +kernel]
      exact m_isIn (b32_64 hx) ⟨by omega, by omega⟩ ⟨by omega, by omega⟩
    simp only [h1, h2, h3, Option.bind_some, zO_s, ↓reduceIte, c_isWalk hf hz, m_isSpan hf hz, h02]
    by_cases q : (-100000 ≤ f ∧ f ≤ 100000) ∧ (-100000 ≤ z ∧ z ≤ 100000) ∧ f ≤ z ∧ z - f ≤ 20000
    · rw [if_pos (decide_eq_true q), if_pos (decide_eq_true q)]
      have hcl : ∀ y, (-100000 ≤ y ∧ y ≤ 100000) → ∃ v r, k_driftOf fuel d (iI y) = some v ∧ k_tellPart v (iI x) = some r ∧ mpartOf fuel (iJ (dri d y)) (iJ (tL d.2.2)) (iI x) = some r := fun y hy => cm_driftPart hd hb hw (y := y) ⟨by omega, by omega⟩ (iI x) hn
      obtain ⟨r, t, e1, e2, y, hy, e3, e4⟩ := zloop_sim (f := k_extremeYear_31 fuel d (iI z) z3 (iJ (tG d.2.2 * ((d.1.1.toInt + if false = true then d.1.2.1.toInt else 0) * tL d.2.2 - tY d.2.2))) (iJ (tG d.2.2 * ((d.1.1.toInt + if true = true then d.1.2.1.toInt else 0) * tL d.2.2 - tY d.2.2)))) (g := mextreme_62 fuel (upd F 0 0) w (iI z) z3 (iI x) (iI ((442 * s : Nat) : Int))) (R := fun a c => ∃ y e : Int, (f + 1 ≤ y ∧ y ≤ z + 1) ∧ (f ≤ e ∧ e ≤ z) ∧ a = (iJ (tG d.2.2 * dri d y), iJ (tG d.2.2 * dri d e), iI e, iI y) ∧ c = (iI e, iJ (dri d e), iI y)) (S := fun a c => ∃ y : Int, (-100000 ≤ y ∧ y ≤ 100000) ∧ a = iI y ∧ ((x = 2 ∧ c = (iJ y, upd F 0 0)) ∨ (x ≠ 2 ∧ ∃ v, mpartOf fuel (iJ (dri d y)) (iJ (tL d.2.2)) (iI x) = some v ∧ c = (v, upd F 0 0)))) (fun a => (z + 1 - a.2.2.2.toInt).toNat) (by
        rintro a c ⟨y, e, hy, he, rfl, rfl⟩
        by_cases p : y ≤ z
        · left
          refine ⟨_, _, c_extremeStep hd hz ⟨by omega, by omega⟩ ⟨by omega, by omega⟩ p hn, m_extremeStep hd hb hw (upd F 0 0) hz ⟨by omega, by omega⟩ ⟨by omega, by omega⟩ p hn, ⟨y + 1, _, ⟨by omega, by omega⟩, ?_, rfl, rfl⟩, ?_⟩
          · split <;> omega
          · dsimp only; rw [iI_to ⟨by omega, by omega⟩, iI_to ⟨by omega, by omega⟩]; omega
        · right
          unfold k_extremeYear_31 mextreme_62
          dsimp only
          rw [if_c (iI_lt hz ⟨by omega, by omega⟩), if_pos (by omega), if_c (iI_lt hz ⟨by omega, by omega⟩), if_pos (by omega), if_c (show (iI x = (2 : Int32)) = (x = 2) from iI_eq (b := 2) hx ⟨by omega, by omega⟩)]
          by_cases p2 : x = 2
          · rw [if_pos p2, iI_J ⟨by omega, by omega⟩]
            exact ⟨_, _, rfl, rfl, e, ⟨by omega, by omega⟩, rfl, Or.inl ⟨p2, rfl⟩⟩
          · obtain ⟨v, r, g1, g2, g3⟩ := hcl e ⟨by omega, by omega⟩
            rw [if_neg p2, m_below hd hb hw hn, Option.bind_some, g3, Option.bind_some]
            exact ⟨_, _, rfl, rfl, e, ⟨by omega, by omega⟩, rfl, Or.inr ⟨p2, r, g3, rfl⟩⟩) (fuel - 1) fuel (iJ (tG d.2.2 * dri d (f + 1)), iJ (tG d.2.2 * dri d f), iI f, iI (f + 1)) (iI f, iJ (dri d f), iI (f + 1)) ⟨f + 1, f, ⟨by omega, by omega⟩, ⟨by omega, by omega⟩, rfl, rfl⟩ (by show (z + 1 - (iI (f + 1)).toInt).toNat < fuel - 1; rw [iI_to ⟨by omega, by omega⟩]; omega) (by show (z + 1 - (iI (f + 1)).toInt).toNat < fuel; rw [iI_to ⟨by omega, by omega⟩]; omega)
      have hk : k_extremeYear fuel d (iI f) (iI z) z3 = some (iI y) := by
        have st := c_extremeStep hd (x2 := z) (y := f) (e := f) (x3 := z3) hz q.1 q.1 q.2.2.1 hn
        rw [if_neg (show ¬ ((z3 = 0 ∧ dri d f < dri d f) ∨ (z3 ≠ 0 ∧ dri d f < dri d f)) by rintro (⟨_, q⟩ | ⟨_, q⟩) <;> omega)] at st
        have hp := zloop_peel (n := fuel) (by omega) st
        have s0 := c_driftStep hd false
        have s1 := c_driftStep hd true
        unfold k_extremeYear
        rw [show (0 : Int32) = zb false from rfl, show (1 : Int32) = zb true from rfl, s0, Option.bind_some, s1, Option.bind_some, c_driftUnits hd ⟨by omega, by omega⟩ (by omega), Option.bind_some, hp, e1, e3]
      rw [hk, Option.bind_some, if_c (show (iI x = (2 : Int32)) = (x = 2) from iI_eq (b := 2) hx ⟨by omega, by omega⟩), iI_J hf, m_drift hd hb hw ⟨by omega, by omega⟩ hn, Option.bind_some, show (iI f + 1 : Int32) = iI (f + 1) from iI_add _ 1, e2, iI_J ⟨by omega, by omega⟩]
      obtain ⟨v, r', g1, g2, g3⟩ := hcl y hy
      by_cases q2 : 0 ≤ x ∧ x ≤ 2
      · rw [if_pos (decide_eq_true q2)]
        rcases e4 with ⟨p2, rfl⟩ | ⟨p2, v', g4, rfl⟩
        · rw [if_pos p2]; exact ⟨_, _, rfl, rfl, rfl, h.thr⟩
        · rw [if_neg p2, g1, Option.bind_some, g2]
          rw [g3] at g4
          exact ⟨_, _, rfl, rfl, Option.some.inj g4, h.thr⟩
      · rw [if_neg (dneg q2), if_neg (by omega), g1, Option.bind_some]
        have : k_tellPart v (iI x) = some (-1000000000000000) := by
          unfold k_tellPart
          rw [if_c (show (iI x = (0 : Int32)) = (x = 0) from iI_eq (b := 0) hx ⟨by omega, by omega⟩), if_c (show (iI x = (1 : Int32)) = (x = 1) from iI_eq (b := 1) hx ⟨by omega, by omega⟩), if_neg (by omega), if_neg (by omega)]
        rw [this]
        exact ⟨_, _, rfl, rfl, rfl, h.thr⟩
    · rw [if_neg (dneg q), if_neg (dneg q)]; exact ⟨_, _, rfl, rfl, rfl, h.thr⟩
theorem hc_passes : HC_passes Inv := by
  intro A tp dv cs cv jv bo hg lw sb F G tq w oc z0 z1 h
  have hn := hn_f
  unfold l_passes mpasses
  rcases atD h.2.2.1 z0 with ⟨h1, h2⟩ | ⟨s, d, hs, rfl, hdv, h1, h2, h3, hd, hw⟩
  · rw [h1, h2]; exact ⟨_, _, rfl, rfl, rfl, h.thr⟩
  · obtain ⟨x, hx, rfl⟩ := ex32 z1
    have hb : 442 * s ≤ 35360 := by omega
    have h02 : misIn (iI x).toInt64 1 9999 = some (decide (1 ≤ x ∧ x ≤ 9999)) := by
      rw [iI_J hx, show (1 : Int64) = iJ 1 by decide +kernel, show (9999 : Int64) = iJ 9999 by decide +kernel]
      exact m_isIn (b32_64 hx) ⟨by omega, by omega⟩ ⟨by omega, by omega⟩
    simp only [h1, h2, h3, Option.bind_some, zO_s, ↓reduceIte, h02]
    rw [if_c (show (iI x < (1 : Int32)) = (x < 1) from iI_lt (b := 1) hx ⟨by omega, by omega⟩), if_c (show (iI x ≤ (9999 : Int32)) = (x ≤ 9999) from iI_le (b := 9999) hx ⟨by omega, by omega⟩)]
    by_cases q : 1 ≤ x ∧ x ≤ 9999
    · rw [if_pos (decide_eq_true q), if_neg (by omega), if_pos q.2]
      obtain ⟨f1, f2, f3, f4, f5, f6, f7, f8, f9⟩ := t_facts hd.2.2
      obtain ⟨b3, _⟩ := gL_bd hd
      have bx := mul_bd (a := x) (b := tL d.2.2) (A := 9999) (B := 1000000000) ⟨by omega, by omega⟩ ⟨by omega, by omega⟩
      have bgx := mul_bd (a := x) (b := tG d.2.2 * tL d.2.2) (A := 9999) (B := 1000000000) ⟨by omega, by omega⟩ ⟨by omega, by omega⟩
      have e0 : x * (tG d.2.2 * tL d.2.2) = tG d.2.2 * (x * tL d.2.2) := Int.mul_left_comm ..
      have s0 := c_driftStep hd false
      have s1 := c_driftStep hd true
      have d0 := dri_bd hd (y := 0) ⟨by omega, by omega⟩
      have g0 := gdri_bd hd (y := 0) ⟨by omega, by omega⟩
      obtain ⟨r, t, e1, e2, e3⟩ := zloop_sim (f := k_passingYear_31 fuel d (iJ (tG d.2.2 * ((d.1.1.toInt + if false = true then d.1.2.1.toInt else 0) * tL d.2.2 - tY d.2.2))) (iJ (tG d.2.2 * ((d.1.1.toInt + if true = true then d.1.2.1.toInt else 0) * tL d.2.2 - tY d.2.2))) (iJ (x * (tG d.2.2 * tL d.2.2)))) (g := mpasses_53 fuel (upd F 0 0) w (iI ((442 * s : Nat) : Int)) (iJ (dri d 0)) (iJ (x * tL d.2.2))) (R := fun a c => ∃ y : Int, (0 ≤ y ∧ y ≤ 20001) ∧ a = (iJ (tG d.2.2 * dri d y - tG d.2.2 * dri d 0), iI y) ∧ c = iI y) (S := fun a c => c = (a, upd F 0 0)) (fun a => (20001 - a.2.toInt).toNat) (by
        rintro a c ⟨y, hy, rfl, rfl⟩
        unfold k_passingYear_31 mpasses_53 k_passingYear_73
        dsimp only
        rw [if_c (show ((20000 : Int32) < iI y) = (20000 < y) from iI_lt (a := 20000) ⟨by omega, by omega⟩ ⟨by omega, by omega⟩), if_c (show ((20000 : Int32) < iI y) = (20000 < y) from iI_lt (a := 20000) ⟨by omega, by omega⟩ ⟨by omega, by omega⟩)]
        by_cases p : 20000 < y
        · right; rw [if_pos p, if_pos p]; exact ⟨_, _, rfl, rfl, rfl⟩
        · have d1 := dri_bd hd (y := y) ⟨by omega, by omega⟩
          have g1 := gdri_bd hd (y := y) ⟨by omega, by omega⟩
          have eab : ((tG d.2.2 * dri d y - tG d.2.2 * dri d 0).natAbs : Int) = tG d.2.2 * ((dri d y - dri d 0).natAbs : Int) := by rw [← Int.mul_sub, gabs f1.1]
          have hab : b64 (tG d.2.2 * ((dri d y - dri d 0).natAbs : Int)) := by rw [← eab]; exact ⟨by omega, by omega⟩
          rw [if_neg p, if_neg p, c_abs ⟨by omega, by omega⟩, Option.bind_some, iI_J ⟨by omega, by omega⟩, m_drift hd hb hw ⟨by omega, by omega⟩ hn, Option.bind_some, iJ_sub, msize_abs ⟨by omega, by omega⟩, Option.bind_some, eab, e0, if_c (iJ_le hab ⟨by omega, by omega⟩), if_c (gcmp f1.1), if_c (iJ_le ⟨by omega, by omega⟩ ⟨by omega, by omega⟩), c_leap hd.2.1 ⟨by omega, by omega⟩ (by omega), Option.bind_some, show (iI y + 1 : Int32) = iI (y + 1) from iI_add _ 1]
          by_cases p2 : ((dri d y - dri d 0).natAbs : Int) ≤ x * tL d.2.2
          · left
            rw [if_pos p2, if_pos p2]
            have hμ : (20001 - (iI (y + 1)).toInt).toNat < (20001 - (iI y).toInt).toNat := by rw [iI_to ⟨by omega, by omega⟩, iI_to ⟨by omega, by omega⟩]; omega
            have hs := gdri_succ hd y
            cases hl : lLeap d.2.1 y
            · rw [hl] at hs
              rw [if_neg (by decide)]
              refine ⟨_, _, rfl, rfl, ⟨y + 1, ⟨by omega, by omega⟩, ?_, rfl⟩, hμ⟩
              rw [iJ_add]; congr 2; omega
            · rw [hl] at hs
              rw [if_pos rfl]
              refine ⟨_, _, rfl, rfl, ⟨y + 1, ⟨by omega, by omega⟩, ?_, rfl⟩, hμ⟩
              rw [iJ_add]; congr 2; omega
          · right
            rw [if_neg p2, if_neg p2]; exact ⟨_, _, rfl, rfl, rfl⟩) fuel fuel (0, 0) 0 ⟨0, ⟨by omega, by omega⟩, by rw [Int.sub_self]; rfl, rfl⟩ (by show (20001 - (iI 0).toInt).toNat < fuel; rw [iI_to ⟨by omega, by omega⟩]; omega) (by show (20001 - (iI 0).toInt).toNat < fuel; rw [iI_to ⟨by omega, by omega⟩]; omega)
      unfold k_passingYear
      have m0 := m_drift hd hb hw (y := 0) ⟨by omega, by omega⟩ hn
      rw [show iJ 0 = (0 : Int64) by decide +kernel] at m0
      rw [show k_driftStep d 0 = _ from s0, Option.bind_some, show k_driftStep d 1 = _ from s1, Option.bind_some, (c_units hd.2.2).1, Option.bind_some, iI_J hx, iJ_mul, e1, Option.bind_some, m0, Option.bind_some, m_below hd hb hw hn, Option.bind_some, iJ_mul, e2, e3]
      exact ⟨_, _, rfl, rfl, rfl, h.thr⟩
    · rw [if_neg (dneg q)]
      by_cases p : x < 1
      · rw [if_pos p]; exact ⟨_, _, rfl, rfl, rfl, h.thr⟩
      · rw [if_neg p, if_neg (by omega)]; exact ⟨_, _, rfl, rfl, rfl, h.thr⟩
theorem hc_steady : HC_steady Inv := by
  intro A tp dv cs cv jv bo hg lw sb F G tq w oc z0 z1 z2 z3 z4 h
  have hn := hn_f
  unfold l_steady msteady
  rcases atD h.2.2.1 z0 with ⟨h1, h2⟩ | ⟨s, d, hs, rfl, hdv, h1, h2, h3, hd, hw⟩
  · rw [h1, h2]; exact ⟨_, _, rfl, rfl, rfl, h.thr⟩
  · obtain ⟨f, hf, rfl⟩ := ex32 z1
    obtain ⟨z, hz, rfl⟩ := ex32 z2
    obtain ⟨x, hx, rfl⟩ := ex32 z3
    obtain ⟨k, hk, rfl⟩ := ex32 z4
    have hb : 442 * s ≤ 35360 := by omega
    have h02 : misIn (iI x).toInt64 0 9999 = some (decide (0 ≤ x ∧ x ≤ 9999)) := by
      rw [iI_J hx, show (0 : Int64) = iJ 0 by decide +kernel, show (9999 : Int64) = iJ 9999 by decide +kernel]
      exact m_isIn (b32_64 hx) ⟨by omega, by omega⟩ ⟨by omega, by omega⟩
    have h01 : misIn (iI k).toInt64 0 1 = some (decide (0 ≤ k ∧ k ≤ 1)) := by
      rw [iI_J hk, show (0 : Int64) = iJ 0 by decide +kernel, show (1 : Int64) = iJ 1 by decide +kernel]
      exact m_isIn (b32_64 hk) ⟨by omega, by omega⟩ ⟨by omega, by omega⟩
    simp only [h1, h2, h3, Option.bind_some, zO_s, ↓reduceIte, c_isWalk hf hz, m_isSpan hf hz, h02, h01]
    rw [if_c (show (iI x < (0 : Int32)) = (x < 0) from iI_lt (b := 0) hx ⟨by omega, by omega⟩), if_c (show ((9999 : Int32) < iI x) = (9999 < x) from iI_lt (a := 9999) ⟨by omega, by omega⟩ hx), if_c (show (iI k < (0 : Int32)) = (k < 0) from iI_lt (b := 0) hk ⟨by omega, by omega⟩), if_c (show (iI k ≤ (1 : Int32)) = (k ≤ 1) from iI_le (b := 1) hk ⟨by omega, by omega⟩)]
    by_cases q : (-100000 ≤ f ∧ f ≤ 100000) ∧ (-100000 ≤ z ∧ z ≤ 100000) ∧ f ≤ z ∧ z - f ≤ 20000
    · rw [if_pos (decide_eq_true q), if_pos (decide_eq_true q)]
      by_cases qx : 0 ≤ x ∧ x ≤ 9999
      · rw [if_pos (decide_eq_true qx), if_neg (show ¬ x < 0 by omega), if_neg (show ¬ 9999 < x by omega)]
        by_cases qk : 0 ≤ k ∧ k ≤ 1
        · rw [if_pos (decide_eq_true qk), if_neg (show ¬ k < 0 by omega), if_pos (show k ≤ 1 by omega)]
          obtain ⟨f1, f2, f3, f4, f5, f6, f7, f8, f9⟩ := t_facts hd.2.2
          obtain ⟨b3, _⟩ := gL_bd hd
          have bx := mul_bd (a := x) (b := tL d.2.2) (A := 9999) (B := 1000000000) ⟨by omega, by omega⟩ ⟨by omega, by omega⟩
          have bgx := mul_bd (a := x) (b := tG d.2.2 * tL d.2.2) (A := 9999) (B := 1000000000) ⟨by omega, by omega⟩ ⟨by omega, by omega⟩
          have e0 : x * (tG d.2.2 * tL d.2.2) = tG d.2.2 * (x * tL d.2.2) := Int.mul_left_comm ..
          have s0 := c_driftStep hd false
          have s1 := c_driftStep hd true
          obtain ⟨r, t, e1, e2, e3⟩ := zloop_sim (f := k_tellSteady_45 fuel d (iI z) (iI k) (iJ (tG d.2.2 * ((d.1.1.toInt + if false = true then d.1.2.1.toInt else 0) * tL d.2.2 - tY d.2.2))) (iJ (tG d.2.2 * ((d.1.1.toInt + if true = true then d.1.2.1.toInt else 0) * tL d.2.2 - tY d.2.2))) (iJ (x * (tG d.2.2 * tL d.2.2)))) (g := msteady_79 fuel (upd F 0 0) w (iI z) (iI k) (iI ((442 * s : Nat) : Int)) (iJ (x * tL d.2.2))) (R := fun a c => ∃ (y : Int) (u v t : Int32), (f ≤ y ∧ y ≤ z + 1) ∧ a = (iJ (tG d.2.2 * dri d y), u, v, t, iI y) ∧ c = (v, t, u, iI y)) (S := fun a c => c = (a, upd F 0 0)) (fun a => (z + 1 - a.2.2.2.2.toInt).toNat) (by
            rintro a c ⟨y, u, v, t, hy, rfl, rfl⟩
            unfold k_tellSteady_45 msteady_79
            dsimp only
            rw [if_c (iI_lt hz ⟨by omega, by omega⟩), if_c (iI_lt hz ⟨by omega, by omega⟩)]
            by_cases p : z < y
            · right
              rw [if_pos p, if_pos p]
              by_cases p2 : iI k = 0
              · rw [if_pos p2, if_pos p2]; exact ⟨_, _, rfl, rfl, rfl⟩
              · rw [if_neg p2, if_neg p2]; exact ⟨_, _, rfl, rfl, rfl⟩
            · left
              have d1 := dri_bd hd (y := y) ⟨by omega, by omega⟩
              have g1 := gdri_bd hd (y := y) ⟨by omega, by omega⟩
              have eab : ((tG d.2.2 * dri d y).natAbs : Int) = tG d.2.2 * ((dri d y).natAbs : Int) := gabs f1.1
              have hab : b64 (tG d.2.2 * ((dri d y).natAbs : Int)) := by rw [← eab]; exact ⟨by omega, by omega⟩
              have hμ : (z + 1 - (iI (y + 1)).toInt).toNat < (z + 1 - (iI y).toInt).toNat := by rw [iI_to ⟨by omega, by omega⟩, iI_to ⟨by omega, by omega⟩]; omega
              have h92 : ∀ a b c : Int32, k_tellSteady_92 fuel d (iI z) (iI k) (iJ (tG d.2.2 * ((d.1.1.toInt + if false = true then d.1.2.1.toInt else 0) * tL d.2.2 - tY d.2.2))) (iJ (tG d.2.2 * ((d.1.1.toInt + if true = true then d.1.2.1.toInt else 0) * tL d.2.2 - tY d.2.2))) (iJ (x * (tG d.2.2 * tL d.2.2))) (iJ (tG d.2.2 * dri d y)) a b c (iI y) = some (.inl (iJ (tG d.2.2 * dri d (y + 1)), a, b, c, iI (y + 1))) := fun a b c => by
                unfold k_tellSteady_92 k_tellSteady_113
                rw [c_leap hd.2.1 ⟨by omega, by omega⟩ (by omega), Option.bind_some, gdri_succ hd, show (iI y + 1 : Int32) = iI (y + 1) from iI_add _ 1]
                cases lLeap d.2.1 y
                · rw [if_neg (by decide), iJ_add]
                · rw [if_pos rfl, iJ_add]
              have h70 : ∀ t0 : Int32, (∃ a' c', k_tellSteady_70 fuel d (iI z) (iI k) (iJ (tG d.2.2 * ((d.1.1.toInt + if false = true then d.1.2.1.toInt else 0) * tL d.2.2 - tY d.2.2))) (iJ (tG d.2.2 * ((d.1.1.toInt + if true = true then d.1.2.1.toInt else 0) * tL d.2.2 - tY d.2.2))) (iJ (x * (tG d.2.2 * tL d.2.2))) (iJ (tG d.2.2 * dri d y)) v t (iI y) t0 = some (.inl a') ∧ msteady_111 fuel (upd F 0 0) w (iI z) (iI k) (iI ((442 * s : Nat) : Int)) (iJ (x * tL d.2.2)) v t (iI y) t0 = some (.inl c') ∧ (∃ (y : Int) (u v t : Int32), (f ≤ y ∧ y ≤ z + 1) ∧ a' = (iJ (tG d.2.2 * dri d y), u, v, t, iI y) ∧ c' = (v, t, u, iI y)) ∧ (z + 1 - a'.2.2.2.2.toInt).toNat < (z + 1 - (iI y).toInt).toNat) := fun t0 => by
                unfold k_tellSteady_70 msteady_111 msteady_136
                rw [h92, h92, show (iI y + 1 : Int32) = iI (y + 1) from iI_add _ 1]
                by_cases p3 : v < t0
                · rw [if_neg (Int32.not_le.mpr p3), if_pos p3]
                  exact ⟨_, _, rfl, rfl, ⟨y + 1, _, _, _, ⟨by omega, by omega⟩, rfl, rfl⟩, hμ⟩
                · rw [if_pos (Int32.not_lt.mp p3), if_neg p3]
                  exact ⟨_, _, rfl, rfl, ⟨y + 1, _, _, _, ⟨by omega, by omega⟩, rfl, rfl⟩, hμ⟩
              rw [if_neg p, if_neg p, c_abs ⟨by omega, by omega⟩, Option.bind_some, iI_J ⟨by omega, by omega⟩, m_drift hd hb hw ⟨by omega, by omega⟩ hn, Option.bind_some, msize_abs ⟨by omega, by omega⟩, Option.bind_some, if_c (show (iJ (x * (tG d.2.2 * tL d.2.2)) < iJ ((tG d.2.2 * dri d y).natAbs : Int)) = (x * tL d.2.2 < ((dri d y).natAbs : Int)) by
                rw [eab, e0, iJ_lt ⟨by omega, by omega⟩ hab]
                exact propext (Int.mul_lt_mul_left (show 0 < tG d.2.2 by omega))), if_c (iJ_lt ⟨by omega, by omega⟩ ⟨by omega, by omega⟩)]
              by_cases p2 : x * tL d.2.2 < ((dri d y).natAbs : Int)
              · rw [if_pos p2, if_pos p2]; exact h70 0
              · rw [if_neg p2, if_neg p2]; exact h70 (u + 1)) fuel fuel (iJ (tG d.2.2 * dri d f), 0, 0, -1, iI f) (0, -1, 0, iI f) ⟨f, 0, 0, -1, ⟨by omega, by omega⟩, rfl, rfl⟩ (by show (z + 1 - (iI f).toInt).toNat < fuel; rw [iI_to ⟨by omega, by omega⟩]; omega) (by show (z + 1 - (iI f).toInt).toNat < fuel; rw [iI_to ⟨by omega, by omega⟩]; omega)
          unfold k_tellSteady
          rw [show k_driftStep d 0 = _ from s0, Option.bind_some, show k_driftStep d 1 = _ from s1, Option.bind_some, (c_units hd.2.2).1, Option.bind_some, c_driftUnits hd ⟨by omega, by omega⟩ (by omega), Option.bind_some, iI_J hx, iJ_mul, e1, Option.bind_some, m_below hd hb hw hn, Option.bind_some, iJ_mul, e2, e3]
          exact ⟨_, _, rfl, rfl, rfl, h.thr⟩
        · rw [if_neg (dneg qk)]
          by_cases p : k < 0
          · rw [if_pos p]; exact ⟨_, _, rfl, rfl, rfl, h.thr⟩
          · rw [if_neg p, if_neg (show ¬ k ≤ 1 by omega)]; exact ⟨_, _, rfl, rfl, rfl, h.thr⟩
      · rw [if_neg (dneg qx)]
        by_cases p : x < 0
        · rw [if_pos p]; exact ⟨_, _, rfl, rfl, rfl, h.thr⟩
        · rw [if_neg p, if_pos (show 9999 < x by omega)]; exact ⟨_, _, rfl, rfl, rfl, h.thr⟩
    · rw [if_neg (dneg q), if_neg (dneg q)]; exact ⟨_, _, rfl, rfl, rfl, h.thr⟩
