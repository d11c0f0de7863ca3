/-! ===== calls: feed, has, pattern, moons, age ===== -/
def FR (A F A' tp' F' tq' : Nat → Int32) (t : Nat) : Prop := A' 1 = nI t ∧ F' 2 = nI t ∧ (∀ i, i ≠ 1 → A' i = A i) ∧ (∀ i, i ≠ 2 → F' i = F i) ∧ ∀ i, i < 800 → tp' i = tq' i
theorem upd_at {f : Nat → Int32} {i : Nat} {x : Int32} : upd f i x i = x := by simp [upd]
theorem upd_ne {f : Nat → Int32} {i j : Nat} {x : Int32} (h : j ≠ i) : upd f i x j = f j := by simp [upd, h]
theorem put4 {A0 F0 A tp F tq : Nat → Int32} {t0 : Nat} (ht : t0 + 4 ≤ 800) (h : FR A0 F0 A tp F tq t0) (x : Int32) {n : Nat} (hn : 250000 ≤ n) : ∃ r q, w_putFourBytes n A tp x = some r ∧ mputs n F tq x = some q ∧ FR A0 F0 r.1 r.2 q.1 q.2 (t0 + 4) := by
  have h32 : ((24 : Int32).toInt + 8).toNat = 32 := by decide
  unfold w_putFourBytes mputs
  refine zloop_sim (f := w_putFourBytes_3 n x) (g := mputs_3 n x) (R := fun s t => ∃ j : Nat, j ≤ 4 ∧ s.1 = iI (24 - 8 * (j : Int)) ∧ t.1 = iI (24 - 8 * (j : Int)) ∧ FR A0 F0 s.2.1 s.2.2 t.2.1 t.2.2 (t0 + j)) (S := fun r q => FR A0 F0 r.1 r.2 q.1 q.2 (t0 + 4)) (fun s => (s.1.toInt + 8).toNat) ?_ n n (24, A, tp) (24, F, tq) ⟨0, by omega, rfl, rfl, h⟩ (by show ((24 : Int32).toInt + 8).toNat < n; omega) (by show ((24 : Int32).toInt + 8).toNat < n; omega)
  rintro ⟨a, A1, p1⟩ ⟨b, F1, p2⟩ ⟨j, hj, e1, e2, f1, f2, f3, f4, f5⟩
  dsimp only at e1 e2 f1 f2 f3 f4 f5
  subst e1; subst e2
  unfold w_putFourBytes_3 mputs_3
  dsimp only
  rw [if_c (show (iI (24 - 8 * (j : Int)) < (0 : Int32)) = (24 - 8 * (j : Int) < 0) from iI_lt (b := 0) ⟨by omega, by omega⟩ ⟨by omega, by omega⟩), if_c (show (iI (24 - 8 * (j : Int)) < (0 : Int32)) = (24 - 8 * (j : Int) < 0) from iI_lt (b := 0) ⟨by omega, by omega⟩ ⟨by omega, by omega⟩)]
  by_cases q : 24 - 8 * (j : Int) < 0
  · right
    rw [if_pos q, if_pos q]
    rw [show j = 4 by omega] at f1 f2
    exact ⟨_, _, rfl, rfl, f1, f2, f3, f4, f5⟩
  · left
    rw [if_neg q, if_neg q]
    simp only [f1, f2, nI_iI]
    rw [if_c (show ((800 : Int32) ≤ iI ((t0 + j : Nat) : Int)) = (800 ≤ ((t0 + j : Nat) : Int)) from iI_le (a := 800) ⟨by omega, by omega⟩ ⟨by omega, by omega⟩), if_neg (by omega), zck_t (iI_zin (by omega) (by omega) (by omega)), zck_t (iI_zin (by omega) (by omega) (by omega)), iI_nat (by omega) (by omega), Int.toNat_natCast]
    have e8 : (iI (24 - 8 * (j : Int)) + (-8) : Int32) = iI (24 - 8 * ((j + 1 : Nat) : Int)) := by
      rw [show (-8 : Int32) = iI (-8) by decide +kernel, iI_add]; congr 1; omega
    have e9 : (iI ((t0 + j : Nat) : Int) + 1 : Int32) = nI (t0 + (j + 1)) := by rw [nI_iI]; exact iI_add _ 1
    rw [e8, e9]
    refine ⟨_, _, rfl, rfl, ⟨j + 1, by omega, rfl, rfl, (show upd A1 1 (nI (t0 + (j + 1))) 1 = _ from upd_at), (show upd F1 2 (nI (t0 + (j + 1))) 2 = _ from upd_at), fun i hi => (upd_ne hi).trans (f3 i hi), fun i hi => (upd_ne hi).trans (f4 i hi), fun i hi => ?_⟩, ?_⟩
    · dsimp only
      by_cases p : i = t0 + j
      · subst p; rw [upd_at, upd_at]
      · rw [upd_ne p, upd_ne p]; exact f5 i hi
    · dsimp only
      rw [iI_to ⟨by omega, by omega⟩, iI_to ⟨by omega, by omega⟩]; omega
theorem hc_feed : HC_feed Inv := by
  intro A tp dv cs cv jv bo hg lw sb F G tq w oc z0 z1 z2 z3 z4 h
  have hn := hn_f
  obtain ⟨⟨t, t1, t2, t3, t4⟩, hrest⟩ := id h
  unfold w_feed mfeed
  rw [show (upd F 0 0) 2 = F 2 from rfl, t2, t3, nI_iI, show (iI (t : Int) + 20 : Int32) = iI ((t : Int) + 20) from iI_add _ 20, if_c (show (iI ((t : Int) + 20) ≤ (800 : Int32)) = ((t : Int) + 20 ≤ 800) from iI_le (b := 800) ⟨by omega, by omega⟩ ⟨by omega, by omega⟩), if_c (show (iI ((t : Int) + 20) ≤ (800 : Int32)) = ((t : Int) + 20 ≤ 800) from iI_le (b := 800) ⟨by omega, by omega⟩ ⟨by omega, by omega⟩)]
  by_cases q : (t : Int) + 20 ≤ 800
  · rw [if_pos q, if_pos q]
    have f0 : FR A (upd F 0 0) A tp (upd F 0 0) tq t := ⟨t2, t3, fun _ _ => rfl, fun _ _ => rfl, t4⟩
    obtain ⟨r1, q1, a1, b1, c1⟩ := put4 (by omega) f0 z0 hn
    obtain ⟨r2, q2, a2, b2, c2⟩ := put4 (by omega) c1 z1 hn
    obtain ⟨r3, q3, a3, b3, c3⟩ := put4 (by omega) c2 z2 hn
    obtain ⟨r4, q4, a4, b4, c4⟩ := put4 (by omega) c3 z3 hn
    obtain ⟨r5, q5, a5, b5, c5⟩ := put4 (by omega) c4 z4 hn
    simp only [a1, b1, a2, b2, a3, b3, a4, b4, a5, b5, Option.bind_some]
    obtain ⟨g1, g2, g3, g4, g5⟩ := c5
    refine ⟨_, _, rfl, rfl, g1.trans g2.symm, ⟨t + 4 + 4 + 4 + 4 + 4, by omega, g1, g2, g5⟩, ?_⟩
    obtain ⟨⟨f1, f2⟩, d1, ⟨c, e, S, s1, ⟨s2, s3, s4⟩, s5⟩, j1, o1, ⟨o2, o3⟩, o4⟩ := hrest
    dsimp only
    refine ⟨⟨(g3 2 (by omega)).trans (f1.trans (g4 8 (by omega)).symm), (g3 3 (by omega)).trans (f2.trans (g4 9 (by omega)).symm)⟩, d1, ⟨c, e, S, s1, ⟨(g3 8 (by omega)).trans s2, (g4 14 (by omega)).trans s3, (g3 7 (by omega)).trans s4⟩, s5⟩, ?_, o1, ⟨o2, (g4 16 (by omega)).trans o3⟩, o4⟩
    cases jv with
    | none => exact (g4 20 (by omega)).trans j1
    | some v => exact ⟨(g4 20 (by omega)).trans j1.1, j1.2⟩
  · rw [if_neg q, if_neg q]
    exact ⟨_, _, rfl, rfl, rfl, h.thr⟩
theorem c_stretch {f m : Int} (hf : b32 f) (hm : b32 m) : k_isStretch (iI f) (iI m) = some (decide ((-100000 ≤ f ∧ f ≤ 100000) ∧ (1 ≤ m ∧ m ≤ 5000) ∧ f + m - 1 ≤ 100000)) := by
  unfold k_isStretch
  rw [c_isYear hf, Option.bind_some]
  by_cases q : -100000 ≤ f ∧ f ≤ 100000
  · rw [if_pos (decide_eq_true q), if_c (show (iI m < (1 : Int32)) = (m < 1) from iI_lt (b := 1) hm ⟨by omega, by omega⟩), if_c (show ((5000 : Int32) < iI m) = (5000 < m) from iI_lt (a := 5000) ⟨by omega, by omega⟩ hm)]
    by_cases p1 : m < 1
    · rw [if_pos p1, decide_eq_false (by omega)]
    · rw [if_neg p1]
      by_cases p2 : 5000 < m
      · rw [if_pos p2, decide_eq_false (by omega)]
      · rw [if_neg p2, iI_add, show (iI (f + m) - 1 : Int32) = iI (f + m - 1) from iI_sub _ 1, if_c (show ((100000 : Int32) < iI (f + m - 1)) = (100000 < f + m - 1) from iI_lt (a := 100000) ⟨by omega, by omega⟩ ⟨by omega, by omega⟩)]
        by_cases p3 : 100000 < f + m - 1
        · rw [if_pos p3, decide_eq_false (by omega)]
        · rw [if_neg p3, decide_eq_true (by omega)]
  · rw [if_neg (dneg q), decide_eq_false (by omega)]
theorem m_run {f m M : Int} (hf : b32 f) (hm : b32 m) (hM : b32 M) : misRun (iI f) (iI m) (iI M) = some (decide ((-100000 ≤ f ∧ f ≤ 100000) ∧ (1 ≤ m ∧ m ≤ M) ∧ -100000 ≤ f + m - 1 ∧ f + m - 1 ≤ 100000)) := by
  unfold misRun
  have := hf.1; have := hf.2; have := hm.1; have := hm.2
  rw [iI_J hm, iI_J hM, iI_J hf, show (1 : Int64) = iJ 1 by decide +kernel, m_isIn (b32_64 hm) ⟨by omega, by omega⟩ (b32_64 hM), Option.bind_some, m_isYear (b32_64 hf), Option.bind_some, iJ_add, iJ_sub, m_isYear ⟨by omega, by omega⟩, Option.bind_some]
  by_cases p : 1 ≤ m ∧ m ≤ M
  · rw [if_pos (decide_eq_true p)]
    by_cases q : -100000 ≤ f ∧ f ≤ 100000
    · rw [if_pos (decide_eq_true q)]
      by_cases r : -100000 ≤ f + m - 1 ∧ f + m - 1 ≤ 100000
      · rw [if_pos (decide_eq_true r), decide_eq_true ⟨q, p, r⟩]
      · rw [if_neg (dneg r), decide_eq_false (fun z => r z.2.2)]
    · rw [if_neg (dneg q), decide_eq_false (fun z => q z.1)]
  · rw [if_neg (dneg p), decide_eq_false (fun z => p z.2.1)]
theorem hc_pattern : HC_pattern Inv := by
  intro A tp dv cs cv jv bo hg lw sb F G tq w oc z0 z1 z2 h
  have hn := hn_f
  unfold l_pattern mpattern
  rcases atD h.2.2.1 z0 with ⟨h1, h2⟩ | ⟨s, d, hs, rfl, hdv, h1, h2, h3, hd, hw⟩
  · rw [h1, h2]; exact ⟨_, _, rfl, rfl, rfl, h.thr⟩
  · obtain ⟨f, hf, rfl⟩ := ex32 z1
    obtain ⟨m, hm, rfl⟩ := ex32 z2
    have hr := m_run hf hm (M := 62) ⟨by omega, by omega⟩
    rw [show iI 62 = (62 : Int32) by decide +kernel] at hr
    simp only [h1, h2, Option.bind_some, zO_s, ↓reduceIte, hr, c_stretch hf hm]
    rw [if_c (show ((62 : Int32) < iI m) = (62 < m) from iI_lt (a := 62) ⟨by omega, by omega⟩ hm)]
    by_cases q : (-100000 ≤ f ∧ f ≤ 100000) ∧ (1 ≤ m ∧ m ≤ 62) ∧ -100000 ≤ f + m - 1 ∧ f + m - 1 ≤ 100000
    · rw [if_pos (decide_eq_true q), if_neg (by omega), if_pos (decide_eq_true ⟨q.1, by omega, q.2.2.2⟩)]
      obtain ⟨r, t, e1, e2, e3, e4⟩ := zloop_sim (f := l_pattern_36 fuel (iI f) (iI m) d) (g := mpattern_33 fuel (upd F 0 0) w (iI (s : Int)) (iI f) (iI m)) (R := fun x y => x = y ∧ ∃ i : Int, 0 ≤ i ∧ i ≤ m ∧ x.2 = iI i) (S := fun r q => r = q.1 ∧ q.2 = upd F 0 0) (fun x => (m - x.2.toInt).toNat) (by
        rintro ⟨a, b⟩ t ⟨rfl, i, hi0, hi, hb⟩
        dsimp only at hb
        subst hb
        unfold l_pattern_36 mpattern_33 l_pattern_66 mpattern_64
        dsimp only
        rw [if_c (iI_le hm ⟨by omega, by omega⟩), if_c (iI_le hm ⟨by omega, by omega⟩)]
        by_cases p : m ≤ i
        · right; rw [if_pos p, if_pos p]; exact ⟨_, _, rfl, rfl, rfl, rfl⟩
        · left
          rw [if_neg p, if_neg p, h3, Option.bind_some, iI_add, iI_J (show b32 (f + i) from ⟨by omega, by omega⟩), c_leap hd.2.1 ⟨by omega, by omega⟩ (by omega), m_leap hd.2.1 (by omega) hw.2.2.2.2.2.2.2.2.1 ⟨by omega, by omega⟩ (by omega), Option.bind_some, Option.bind_some, show (iI i + 1 : Int32) = iI (i + 1) from iI_add _ 1]
          have hμ : (m - (iI (i + 1)).toInt).toNat < (m - (iI i).toInt).toNat := by rw [iI_to ⟨by omega, by omega⟩, iI_to ⟨by omega, by omega⟩]; omega
          by_cases t : lLeap d.2.1 (f + i) = true
          · rw [if_pos t, if_pos t]; exact ⟨_, _, rfl, rfl, ⟨rfl, i + 1, by omega, by omega, rfl⟩, hμ⟩
          · rw [if_neg t, if_neg t]; exact ⟨_, _, rfl, rfl, ⟨rfl, i + 1, by omega, by omega, rfl⟩, hμ⟩) fuel fuel (0, 0) (0, 0) ⟨rfl, 0, by omega, by omega, rfl⟩ (by show (m - (iI 0).toInt).toNat < fuel; rw [iI_to ⟨by omega, by omega⟩]; omega) (by show (m - (iI 0).toInt).toNat < fuel; rw [iI_to ⟨by omega, by omega⟩]; omega)
      exact ⟨_, _, e1, e2, e3, by rw [e4]; exact h.thr⟩
    · rw [if_neg (dneg q)]
      by_cases p : 62 < m
      · rw [if_pos p]; exact ⟨_, _, rfl, rfl, rfl, h.thr⟩
      · rw [if_neg p, if_neg (dneg (by omega))]; exact ⟨_, _, rfl, rfl, rfl, h.thr⟩
