/-! ===== calls: undo ===== -/
theorem c_undo {A : Nat → Int32} {dv : Nat → Option vDes} {cs : Nat → Int32} {cv : Nat → Option vDes} {c e q : Nat} (hc0 : 1 ≤ c) (hc : c ≤ 12) (he : e < 12) (h7 : A 7 = nI e) (h8 : A 8 = nI c) (hq : q < 6) (hcs : cs ((e + 11) % 12) = nI q) : ∃ A', w_undo A dv cs cv = some (nI (c - 1), A', va_up dv q (cv ((e + 11) % 12)), va_up cv ((e + 11) % 12) none) ∧ A' 7 = nI ((e + 11) % 12) ∧ A' 8 = nI (c - 1) ∧ ∀ i, i ≠ 7 → i ≠ 8 → A' i = A i := by
  have em : (A 7 + 12 - 1 - (A 7 + 12 - 1) / 12 * 12 : Int32) = nI ((e + 11) % 12) := by
    rw [h7, nI_iI, nI_iI, show (iI (e : Int) + 12 - 1 : Int32) = iI ((e + 11 : Nat) : Int) by
      rw [show (12 : Int32) = iI 12 by decide +kernel, show (1 : Int32) = iI 1 by decide +kernel, iI_add, iI_sub]; congr 1; omega, show (12 : Int32) = iI 12 by decide +kernel, iI_mod ⟨by omega, by omega⟩ (by omega) ⟨by omega, by omega⟩, tmod_pos (by omega), if_pos (by omega)]
    congr 1
  have e8 : ((upd A 7 (nI ((e + 11) % 12))) 8 - 1 : Int32) = nI (c - 1) := by
    rw [upd_ne (by omega), h8, nI_iI, nI_iI, show (iI (c : Int) - 1 : Int32) = iI ((c : Int) - 1) from iI_sub _ 1]; congr 1; omega
  have e7 : (upd (upd A 7 (nI ((e + 11) % 12))) 8 (nI (c - 1))) 7 = nI ((e + 11) % 12) := by rw [upd_ne (by omega), upd_at]
  have e8' : (upd (upd A 7 (nI ((e + 11) % 12))) 8 (nI (c - 1))) 8 = nI (c - 1) := upd_at
  have z7 : zin (nI ((e + 11) % 12)) 12 = true := by rw [nI_iI]; exact iI_zin (by omega) (by omega) (by omega)
  have n7 : (nI ((e + 11) % 12)).toNatClampNeg = (e + 11) % 12 := by rw [nI_iI, iI_nat (by omega) (by omega)]; omega
  have zq : zin (nI q) 6 = true := by rw [nI_iI]; exact iI_zin (by omega) (by omega) (by omega)
  have nq : (nI q).toNatClampNeg = q := by rw [nI_iI, iI_nat (by omega) (by omega)]; omega
  have d12 : decide (¬ (12 : Int32) = 0) = true := by decide
  refine ⟨upd (upd A 7 (nI ((e + 11) % 12))) 8 (nI (c - 1)), ?_, e7, e8', fun i h1 h2 => by rw [upd_ne h2, upd_ne h1]⟩
  unfold w_undo
  rw [if_c (show (A 8 = (0 : Int32)) = (c = 0) by
    rw [h8, nI_iI]
    show (iI (c : Int) = iI 0) = _
    rw [iI_eq ⟨by omega, by omega⟩ ⟨by omega, by omega⟩]; apply propext; omega), if_neg (by omega)]
  simp only [em, e8, e7, e8', zck_t z7, zck_t d12, n7, hcs, zck_t zq, nq]
  cases cv ((e + 11) % 12) <;> rfl
set_option maxRecDepth 100000 in
theorem m_undo {F w : Nat → Int32} {c : Nat} (hc0 : 1 ≤ c) (hc : c ≤ 12) (hF : F 14 = nI c) {n : Nat} (hn : 250000 ≤ n) : ∃ F' w', mundo n F w = some (nI (c - 1), F', w') ∧ F' 14 = nI (c - 1) ∧ (∀ i, i ≠ 14 → i ≠ 0 → F' i = F i) ∧ (∀ k, k < 2652 → w' k = w (3978 + 2652 * (c - 1) + k)) ∧ ∀ i, 2652 ≤ i → w' i = w i := by
  unfold mundo
  have e0 : (upd F 0 0) 14 = nI c := hF
  have e1 : ((upd F 0 0) 14 - 1 : Int32) = nI (c - 1) := by
    rw [e0, nI_iI, nI_iI, show (iI (c : Int) - 1 : Int32) = iI ((c : Int) - 1) from iI_sub _ 1]; congr 1; omega
  rw [if_c (show ((upd F 0 0) 14 = (0 : Int32)) = (c = 0) by
    rw [e0, nI_iI]
    show (iI (c : Int) = iI 0) = _
    rw [iI_eq ⟨by omega, by omega⟩ ⟨by omega, by omega⟩]; apply propext; omega), if_neg (by omega), e1]
  have e2 : (upd (upd F 0 0) 14 (nI (c - 1))) 14 = nI (c - 1) := upd_at
  have eb : (3978 + 2652 * (upd (upd F 0 0) 14 (nI (c - 1))) 14 : Int32) = iI ((3978 + 2652 * (c - 1) : Nat) : Int) := by
    rw [e2, nI_iI, show (3978 : Int32) = iI 3978 by decide +kernel, show (2652 : Int32) = iI 2652 by decide +kernel, iI_mul, iI_add]; congr 1
  obtain ⟨r, h1, w', h2, h3, h4⟩ := zloop_inv (f := mundo_31 n (upd (upd F 0 0) 14 (nI (c - 1))) 2652) (R := fun s => ∃ j : Nat, j ≤ 2652 ∧ s.1 = iI (j : Int) ∧ (∀ k, k < j → s.2 k = w (3978 + 2652 * (c - 1) + k)) ∧ ∀ i, j ≤ i → s.2 i = w i) (S := fun r => ∃ w', r = (nI (c - 1), upd (upd F 0 0) 14 (nI (c - 1)), w') ∧ (∀ k, k < 2652 → w' k = w (3978 + 2652 * (c - 1) + k)) ∧ ∀ i, 2652 ≤ i → w' i = w i) (fun s => 2652 - s.1.toNatClampNeg) (by
    rintro ⟨a, u⟩ ⟨j, hj, g1, g2, g3⟩
    dsimp only at g1 g2 g3
    subst g1
    unfold mundo_31
    dsimp only
    rw [if_c (show ((2652 : Int32) ≤ iI (j : Int)) = (2652 ≤ (j : Int)) from iI_le (a := 2652) ⟨by omega, by omega⟩ ⟨by omega, by omega⟩)]
    by_cases q : 2652 ≤ (j : Int)
    · right
      rw [if_pos q, e2]
      rw [show j = 2652 by omega] at g2 g3
      exact ⟨_, rfl, u, rfl, g2, g3⟩
    · left
      rw [if_neg q, eb, iI_add, zck_t (iI_zin (by omega) (by omega) (by omega)), zck_t (iI_zin (by omega) (by omega) (by omega)), iI_nat (by omega) (by omega), iI_nat (by omega) (by omega), show (iI (j : Int) + 1 : Int32) = iI ((j + 1 : Nat) : Int) from iI_add _ 1, Int.toNat_natCast, show (((3978 + 2652 * (c - 1) : Nat) : Int) + j).toNat = 3978 + 2652 * (c - 1) + j by omega]
      refine ⟨_, rfl, ⟨j + 1, by omega, rfl, fun k hk => ?_, fun i hi => ?_⟩, ?_⟩
      · dsimp only
        by_cases p : k = j
        · subst p; rw [upd_at]; exact g3 _ (by omega)
        · rw [upd_ne (by omega)]; exact g2 k (by omega)
      · dsimp only
        rw [upd_ne (by omega)]; exact g3 i (by omega)
      · dsimp only
        rw [iI_nat (by omega) (by omega)]; omega) n (0, w) ⟨0, by omega, rfl, fun k hk => absurd hk (Nat.not_lt_zero _), fun _ _ => rfl⟩ (by show 2652 - (iI 0).toNatClampNeg < n; omega)
  refine ⟨_, w', by rw [h1, h2], e2, fun i i1 i2 => by rw [upd_ne i1, upd_ne i2], h3, h4⟩
theorem hc_undo : HC_undo Inv := by
  intro A tp dv cs cv jv bo hg lw sb F G tq w oc h
  have hn := hn_f
  obtain ⟨⟨t, t1, t2, t3, t4⟩, ⟨f1, f2⟩, d1, ⟨c, e, S, ⟨s1, s2⟩, ⟨a8, f14, a7⟩, u1, u2⟩, j1, b1, ⟨b2, b3⟩, b4⟩ := id h
  by_cases q : c = 0
  · subst q
    unfold w_undo mundo
    rw [a8, show (upd F 0 0) 14 = F 14 from rfl, f14]
    exact ⟨_, _, rfl, rfl, rfl, h.thr⟩
  · obtain ⟨⟨q0, v1, v2, v3, v4⟩, v5⟩ := u2 (c - 1) (by omega)
    rw [show (e + 12 - c + (c - 1)) % 12 = (e + 11) % 12 by omega] at v2 v3
    obtain ⟨A', k1, k2, k3, k4⟩ := c_undo (dv := dv) (cv := cv) (by omega) s1 s2 a7 a8 v1 v2
    obtain ⟨F', w', m1, m2, m3, m4, m5⟩ := m_undo (w := w) (by omega) s1 f14 hn
    rw [k1, m1]
    have hS : ∀ s, s < 6 → S (c - 1) s = va_up dv q0 (cv ((e + 11) % 12)) s := fun s hs => by
      by_cases p : s = q0
      · subst p; rw [va_at', v3]
      · rw [va_ne p, v4 s hs p, show c - 1 + 1 = c by omega, u1 s hs]
    refine ⟨_, _, rfl, rfl, rfl, ⟨t, t1, (k4 1 (by omega) (by omega)).trans t2, (m3 2 (by omega) (by omega)).trans t3, t4⟩, ⟨(k4 2 (by omega) (by omega)).trans (f1.trans (m3 8 (by omega) (by omega)).symm), (k4 3 (by omega) (by omega)).trans (f2.trans (m3 9 (by omega) (by omega)).symm)⟩, fun s hs => ?_, ⟨c - 1, (e + 11) % 12, S, ⟨by omega, by omega⟩, ⟨k3, m2, k2⟩, hS, fun j hj => ?_⟩, JR_congr (m3 20 (by omega) (by omega)) (fun i h1 h2 => m5 i (by omega)) j1, b1, ⟨b2, (m3 16 (by omega) (by omega)).trans b3⟩, b4⟩
    · show BR (va_up dv q0 (cv ((e + 11) % 12)) s) w' (442 * s)
      rw [← hS s hs]
      refine BR_congr (fun k hk => ?_) (v5 s hs)
      rw [m4 _ (by omega)]; congr 1; omega
    · obtain ⟨⟨q1, x1, x2, x3, x4⟩, x5⟩ := u2 j (by omega)
      have hp : ((e + 11) % 12 + 12 - (c - 1) + j) % 12 = (e + 12 - c + j) % 12 := by omega
      rw [hp]
      refine ⟨⟨q1, x1, x2, ?_, x4⟩, fun s hs => BR_congr (fun k hk => m5 _ (by omega)) (x5 s hs)⟩
      show va_up cv ((e + 11) % 12) none ((e + 12 - c + j) % 12) = S j q1
      rw [va_ne (by omega)]; exact x3
