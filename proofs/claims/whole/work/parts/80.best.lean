/-! ===== calls: best, suggests ===== -/
theorem dom {q1 e Y Z al be b D : Int} (hq : 1 ≤ q1) (he : 0 ≤ e) (hY : 0 ≤ Y) (hZ : 1 ≤ Z) (hbe : be ≤ 0) (hb : b = al * q1 + be * e) (hD : D = al * Y - be * Z) : Y * b ≤ D * q1 ∧ (Y * b = D * q1 → be = 0) := by
  have h1 : D * q1 - Y * b = (-be) * (Z * q1 + Y * e) := by rw [hb, hD]; grind
  have h2 : 1 * 1 ≤ Z * q1 := Int.mul_le_mul hZ hq (by omega) (by omega)
  have h3 : 0 ≤ Y * e := Int.mul_nonneg hY he
  have h4 : 0 ≤ (-be) * (Z * q1 + Y * e) := Int.mul_nonneg (by omega) (by omega)
  refine ⟨by omega, fun h => ?_⟩
  have h5 : (-be) * (Z * q1 + Y * e) = 0 := by omega
  rcases Int.mul_eq_zero.mp h5 with q | q
  · omega
  · omega
theorem uni {p1 q1 s e P Q Y Z N a b sg : Int} (hs : sg = 1 ∨ sg = -1) (det : p1 * e - s * q1 = sg) (h1 : p1 * Q - P * q1 = sg * Y) (h2 : s * Q - P * e = -(sg * Z)) (hY : 1 ≤ Y) (hZ : 1 ≤ Z) (hq : 1 ≤ q1) (he : 1 ≤ e) (hN : N < q1 + e) (hb : 1 ≤ b) (hbN : b ≤ N) : (Y * b ≤ ((a * Q - P * b).natAbs : Int) * q1 ∧ (Y * b = ((a * Q - P * b).natAbs : Int) * q1 → ∃ k : Int, 1 ≤ k ∧ a = k * p1 ∧ b = k * q1)) ∨ (Z * b ≤ ((a * Q - P * b).natAbs : Int) * e ∧ (Z * b = ((a * Q - P * b).natAbs : Int) * e → ∃ k : Int, 1 ≤ k ∧ a = k * s ∧ b = k * e)) := by
  have hss : sg * sg = 1 := by rcases hs with q | q <;> rw [q] <;> rfl
  generalize hal : sg * (a * e - s * b) = al
  generalize hbe : sg * (p1 * b - a * q1) = be
  have i1 : b = al * q1 + be * e := by grind
  have i2 : a = al * p1 + be * s := by grind
  have i3 : a * Q - P * b = sg * (al * Y - be * Z) := by
    have : a * Q - P * b = al * (p1 * Q - P * q1) + be * (s * Q - P * e) := by rw [i2, i1]; grind
    rw [this, h1, h2]; grind
  have i4 : ((a * Q - P * b).natAbs : Int) = ((al * Y - be * Z).natAbs : Int) := by
    rw [i3]; rcases hs with q | q
    · rw [q, Int.one_mul]
    · rw [q]; omega
  rw [i4]
  rcases Int.lt_or_le 0 be with q | q
  · have hal0 : al ≤ 0 := by
      rcases Int.lt_or_le 0 al with r | r
      · have r1 := Int.mul_le_mul_of_nonneg_right (show (1 : Int) ≤ al by omega) (show 0 ≤ q1 by omega)
        have r2 := Int.mul_le_mul_of_nonneg_right (show (1 : Int) ≤ be by omega) (show 0 ≤ e by omega)
        omega
      · exact r
    right
    have n1 : al * Y ≤ 0 := Int.mul_nonpos_of_nonpos_of_nonneg hal0 (by omega)
    have n2 : 0 ≤ be * Z := Int.mul_nonneg (by omega) (by omega)
    obtain ⟨d1, d2⟩ := dom (q1 := e) (e := q1) (Y := Z) (Z := Y) (al := be) (be := al) (b := b) (D := ((al * Y - be * Z).natAbs : Int)) he (by omega) (by omega) hY hal0 (by omega) (by omega)
    refine ⟨d1, fun h => ⟨be, by omega, ?_, ?_⟩⟩
    · have := d2 h; rw [i2, this]; omega
    · have := d2 h; rw [i1, this]; omega
  · have n2 : be * Z ≤ 0 := Int.mul_nonpos_of_nonpos_of_nonneg q (by omega)
    have n3 : be * e ≤ 0 := Int.mul_nonpos_of_nonpos_of_nonneg q (by omega)
    have hal1 : 1 ≤ al := by
      rcases Int.lt_or_le 0 al with r | r
      · omega
      · have := Int.mul_nonpos_of_nonpos_of_nonneg r (show 0 ≤ q1 by omega); omega
    have n1 : 0 ≤ al * Y := Int.mul_nonneg (by omega) (by omega)
    left
    obtain ⟨d1, d2⟩ := dom (q1 := q1) (e := e) (Y := Y) (Z := Z) (al := al) (be := be) (b := b) (D := ((al * Y - be * Z).natAbs : Int)) hq (by omega) (by omega) hZ q i1 (by omega)
    refine ⟨d1, fun h => ⟨al, hal1, ?_, ?_⟩⟩
    · have := d2 h; rw [i2, this]; omega
    · have := d2 h; rw [i1, this]; omega
def bst (P Q N c d : Int) : Prop := (1 ≤ d ∧ d ≤ N) ∧ (0 ≤ c ∧ c ≤ d) ∧ ((c * Q - P * d).natAbs : Int) < Q ∧ Int.gcd c d = 1 ∧ ∀ a b : Int, 1 ≤ b → b ≤ N → ((c * Q - P * d).natAbs : Int) * b ≤ ((a * Q - P * b).natAbs : Int) * d ∧ (((c * Q - P * d).natAbs : Int) * b = ((a * Q - P * b).natAbs : Int) * d → d ≤ b ∧ (d = b → c ≤ a))
theorem mulk {k d b : Int} (hk : 1 ≤ k) (hd : 1 ≤ d) (h : b = k * d) : d ≤ b ∧ (d = b → k = 1) := by
  have h1 := Int.mul_le_mul_of_nonneg_right hk (show 0 ≤ d by omega)
  refine ⟨by omega, fun q => ?_⟩
  rcases Int.lt_or_le 1 k with z | z
  · have := Int.mul_le_mul_of_nonneg_right (show 2 ≤ k by omega) (show 0 ≤ d by omega); omega
  · omega
theorem gcd1 {c d x y σ : Int} (hs : σ = 1 ∨ σ = -1) (h : c * x - y * d = σ) : Int.gcd c d = 1 := by
  have hd : (Int.gcd c d : Int) ∣ σ := by
    rw [← h]
    exact Int.dvd_sub (Int.dvd_mul_of_dvd_left (Int.gcd_dvd_left ..)) (Int.dvd_mul_of_dvd_right (Int.gcd_dvd_right ..))
  have hd2 : (Int.gcd c d : Int) ∣ 1 := by
    rcases hs with q | q
    · rw [q] at hd; exact hd
    · rw [q] at hd; exact (Int.dvd_neg).mp hd
  have := Int.le_of_dvd (by omega) hd2
  have h0 : Int.gcd c d ≠ 0 := fun q => by
    rw [q] at hd2
    obtain ⟨z, hz⟩ := hd2
    rw [show ((0 : Nat) : Int) = 0 from rfl, Int.zero_mul] at hz
    omega
  omega
theorem c_le_d {P Q c d : Int} (hQ : 1 ≤ Q) (hPQ : P ≤ Q) (hd : 1 ≤ d) (h : ((c * Q - P * d).natAbs : Int) < Q) : c ≤ d := by
  have h1 : P * d ≤ Q * d := Int.mul_le_mul_of_nonneg_right hPQ (by omega)
  rcases Int.lt_or_le d c with z | z
  · have h2 := Int.mul_le_mul_of_nonneg_right (show d + 1 ≤ c by omega) (show 0 ≤ Q by omega)
    have h3 : (d + 1) * Q = Q * d + Q := by grind
    omega
  · exact z
theorem bst_exact {P Q N p1 q1 p0 q0 σ : Int} (hs : σ = 1 ∨ σ = -1) (det : p1 * q0 - p0 * q1 = σ) (he : p1 * Q = P * q1) (hQ : 1 ≤ Q) (hPQ : P ≤ Q) (hp : 0 ≤ p1) (hq : 1 ≤ q1) (hqN : q1 ≤ N) : bst P Q N p1 q1 := by
  have hD : ((p1 * Q - P * q1).natAbs : Int) = 0 := by omega
  refine ⟨⟨hq, hqN⟩, ⟨hp, c_le_d hQ hPQ hq (by omega)⟩, by omega, gcd1 hs det, fun a b hb hbN => ?_⟩
  rw [hD, Int.zero_mul]
  refine ⟨Int.mul_nonneg (by omega) (by omega), fun h => ?_⟩
  have h2 : a * Q = P * b := by
    rcases Int.mul_eq_zero.mp h.symm with z | z
    · omega
    · omega
  have h3 : (a * q1 - p1 * b) * Q = 0 := by grind
  have h4 : a * q1 = p1 * b := by
    rcases Int.mul_eq_zero.mp h3 with z | z
    · omega
    · omega
  have hss : σ * σ = 1 := by rcases hs with q | q <;> rw [q] <;> rfl
  generalize hk : σ * (a * q0 - p0 * b) = k
  have k1 : b = k * q1 := by grind
  have k2 : a = k * p1 := by grind
  have hk1 : 1 ≤ k := by
    rcases Int.lt_or_le 0 k with z | z
    · omega
    · have := Int.mul_nonpos_of_nonpos_of_nonneg z (show 0 ≤ q1 by omega); omega
  obtain ⟨m1, m2⟩ := mulk hk1 hq k1
  refine ⟨m1, fun q => ?_⟩
  rw [k2, m2 q]; omega
theorem bst_stop {P Q N p1 q1 p0 q0 X Y t σ : Int} (hs : σ = 1 ∨ σ = -1) (det : p1 * q0 - p0 * q1 = σ) (hP : P = p1 * X + p0 * Y) (hQ : Q = q1 * X + q0 * Y) (hPQ : P ≤ Q) (hp1 : 0 ≤ p1) (hp0 : 0 ≤ p0) (hq0 : 0 ≤ q0) (hq1 : 1 ≤ q1) (hqq : q0 ≤ q1) (hqN : q1 ≤ N) (hY : 1 ≤ Y) (hYX : Y < X) (ht : 0 ≤ t) (hz : q0 = 0 → σ = -1 ∧ 1 ≤ t) (heN : q0 + t * q1 ≤ N) (hNe : N < q0 + t * q1 + q1) (htY : t * Y + Y ≤ X) : (((p0 + t * p1) * Q - P * (q0 + t * q1)).natAbs : Int) = X - t * Y ∧ ((p1 * Q - P * q1).natAbs : Int) = Y ∧ (Y * (q0 + t * q1) ≤ (X - t * Y) * q1 → bst P Q N p1 q1) ∧ (¬ Y * (q0 + t * q1) ≤ (X - t * Y) * q1 → bst P Q N (p0 + t * p1) (q0 + t * q1)) := by
  have h1 : p1 * Q - P * q1 = σ * Y := by rw [hP, hQ]; grind
  have h2 : (p0 + t * p1) * Q - P * (q0 + t * q1) = -(σ * (X - t * Y)) := by rw [hP, hQ]; grind
  have det' : p1 * (q0 + t * q1) - (p0 + t * p1) * q1 = σ := by grind
  have hXQ : X ≤ Q := by
    have a1 := Int.mul_le_mul_of_nonneg_right hq1 (show 0 ≤ X by omega)
    have a2 := Int.mul_nonneg hq0 (show 0 ≤ Y by omega)
    omega
  have htq : 0 ≤ t * q1 := Int.mul_nonneg ht (by omega)
  have htp : 0 ≤ t * p1 := Int.mul_nonneg ht hp1
  have he : 1 ≤ q0 + t * q1 := by
    by_cases z : q0 = 0
    · have := Int.mul_le_mul (hz z).2 hq1 (by omega) (by omega); omega
    · omega
  have hZ : 1 ≤ X - t * Y := by omega
  have hD1 : ((p1 * Q - P * q1).natAbs : Int) = Y := by
    rw [h1]; rcases hs with q | q <;> rw [q] <;> omega
  have hD2 : (((p0 + t * p1) * Q - P * (q0 + t * q1)).natAbs : Int) = X - t * Y := by
    rw [h2]; rcases hs with q | q <;> rw [q] <;> omega
  have ht0 : ¬ 1 ≤ t → Y * (q0 + t * q1) < (X - t * Y) * q1 := fun z => by
    have : t = 0 := by omega
    rw [this, Int.zero_mul, Int.zero_mul, Int.add_zero, Int.sub_zero]
    have a1 := Int.mul_le_mul_of_nonneg_left hqq (show 0 ≤ Y by omega)
    have a2 := Int.mul_lt_mul_of_pos_right hYX (show 0 < q1 by omega)
    omega
  generalize hE : q0 + t * q1 = e at *
  generalize hS : p0 + t * p1 = s at *
  generalize hZe : X - t * Y = Z at *
  have hu := fun (a b : Int) (hb : 1 ≤ b) (hbN : b ≤ N) => uni (N := N) (a := a) (b := b) hs det' h1 h2 hY hZ hq1 he (by omega) hb hbN
  have hQ1 : 1 ≤ Q := by omega
  refine ⟨hD2, hD1, fun hc => ?_, fun hc => ?_⟩
  · refine ⟨⟨hq1, hqN⟩, ⟨hp1, c_le_d hQ1 hPQ hq1 (by omega)⟩, by omega, gcd1 hs det, fun a b hb hbN => ?_⟩
    rw [hD1]
    generalize hDD : ((a * Q - P * b).natAbs : Int) = D
    have huab := hu a b hb hbN
    rw [hDD] at huab
    rcases huab with ⟨u1, u2⟩ | ⟨u1, u2⟩
    · refine ⟨u1, fun h => ?_⟩
      obtain ⟨k, k1, k2, k3⟩ := u2 h
      obtain ⟨m1, m2⟩ := mulk k1 hq1 k3
      exact ⟨m1, fun q => by rw [k2, m2 q]; omega⟩
    · have g1 : Y * e * b ≤ Z * q1 * b := Int.mul_le_mul_of_nonneg_right hc (by omega)
      have g2 : Z * b * q1 ≤ D * e * q1 := Int.mul_le_mul_of_nonneg_right u1 (by omega)
      have g3 : Y * e * b = Y * b * e := by grind
      have g4 : Z * q1 * b = Z * b * q1 := by grind
      have g5 : D * e * q1 = D * q1 * e := by grind
      have g6 : Y * b * e ≤ D * q1 * e := by omega
      refine ⟨Int.le_of_mul_le_mul_right g6 (by omega), fun h => ?_⟩
      have g7 : Z * b = D * e := by
        have : Z * b * q1 = D * e * q1 := by
          have : Y * b * e = D * q1 * e := by rw [h]
          omega
        exact Int.eq_of_mul_eq_mul_right (by omega) this
      have g8 : Y * e = Z * q1 := by
        have : Y * e * b = Z * q1 * b := by
          have : Y * b * e = D * q1 * e := by rw [h]
          omega
        exact Int.eq_of_mul_eq_mul_right (by omega) this
      have t1 : 1 ≤ t := by
        rcases Int.lt_or_le t 1 with z | z
        · have := ht0 (by omega); omega
        · exact z
      have hge : q1 ≤ e := by
        have := Int.mul_le_mul_of_nonneg_right t1 (show 0 ≤ q1 by omega); omega
      obtain ⟨k, k1, k2, k3⟩ := u2 g7
      obtain ⟨m1, m2⟩ := mulk k1 he k3
      refine ⟨by omega, fun q => ?_⟩
      have hee : e = q1 := by omega
      have hk : k = 1 := m2 (by omega)
      have hq00 : q0 = 0 := by
        have := Int.mul_le_mul_of_nonneg_right t1 (show 0 ≤ q1 by omega); omega
      have hsg := (hz hq00).1
      rw [k2, hk, Int.one_mul]
      rw [hee, hsg, ← Int.sub_mul] at det'
      rcases Int.lt_or_le s p1 with z | z
      · have := Int.mul_nonneg (show 0 ≤ p1 - s by omega) (show 0 ≤ q1 by omega); omega
      · exact z
  · have t1 : 1 ≤ t := by
      rcases Int.lt_or_le t 1 with z | z
      · have := ht0 (by omega); omega
      · exact z
    have hZQ : Z < Q := by
      have := Int.mul_le_mul_of_nonneg_right t1 (show 0 ≤ Y by omega); omega
    refine ⟨⟨he, heN⟩, ⟨by omega, c_le_d hQ1 hPQ he (by omega)⟩, by omega, gcd1 (c := s) (d := e) (x := -q1) (y := -p1) hs (by grind), fun a b hb hbN => ?_⟩
    rw [hD2]
    generalize hDD : ((a * Q - P * b).natAbs : Int) = D
    have huab := hu a b hb hbN
    rw [hDD] at huab
    rcases huab with ⟨u1, u2⟩ | ⟨u1, u2⟩
    · have g1 : Z * q1 * b < Y * e * b := Int.mul_lt_mul_of_pos_right (by omega) (by omega)
      have g2 : Y * b * e ≤ D * q1 * e := Int.mul_le_mul_of_nonneg_right u1 (by omega)
      have g3 : Y * e * b = Y * b * e := by grind
      have g4 : Z * q1 * b = Z * b * q1 := by grind
      have g5 : D * q1 * e = D * e * q1 := by grind
      have g6 : Z * b * q1 < D * e * q1 := by omega
      have g7 := Int.lt_of_mul_lt_mul_right g6 (by omega)
      exact ⟨by omega, fun h => by omega⟩
    · refine ⟨u1, fun h => ?_⟩
      obtain ⟨k, k1, k2, k3⟩ := u2 h
      obtain ⟨m1, m2⟩ := mulk k1 he k3
      exact ⟨m1, fun q => by rw [k2, m2 q]; omega⟩
theorem c_nearest {P Q : Nat} {N : Int} (hQ1 : 1 ≤ Q) (hQ : Q ≤ 1000000) (hPQ : P ≤ Q) (hN : 1 ≤ N ∧ N ≤ 100000) : ∃ c d : Int, k_nearest (iJ (P : Int)) (iJ (Q : Int)) (iJ N) = some (iJ c, iJ d) ∧ bst P Q N c d := by
  unfold k_nearest k_newFra
  rw [Option.bind_some, Option.bind_some]
  have hP63 : P < 2 ^ 63 := by omega
  have hQ63 : Q < 2 ^ 63 := by omega
  obtain ⟨r, g1, c, d, g2, g3⟩ := zloop_ix (f := k_nearest_31 (iJ (P : Int)) (iJ (Q : Int)) (iJ N)) (R := fun i s => eD P Q i ∧ (1 ≤ i → (eC P Q i).2.1 ≤ N) ∧ s = (iJ ((eXY P Q i).1 : Int), iJ ((eXY P Q i).2 : Int), (iJ (eC P Q i).2.2.1, iJ (eC P Q i).2.2.2), (iJ (eC P Q i).1, iJ (eC P Q i).2.1), iI (i : Int))) (S := fun r => ∃ c d : Int, r = (iJ c, iJ d) ∧ bst P Q N c d) 127 (by rintro i s ⟨hd, -, -⟩; exact (e_eu hP63 hQ63 i hd).1) (by
    rintro i s ⟨hd, hqN, rfl⟩
    have he := e_eu hP63 hQ63 i hd
    have b1 := he.1
    have b2 := he.2.1
    have b3 := he.2.2.1
    obtain ⟨⟨v1, v2⟩, v3, ⟨p1, p2, p3, p4⟩, v5⟩ := e_inv P Q i hd
    have hpt : k_plusTimes (iJ (eC P Q i).2.2.1, iJ (eC P Q i).2.2.2) (iJ (eC P Q i).1, iJ (eC P Q i).2.1) (iJ (((eXY P Q i).1 / (eXY P Q i).2 : Nat) : Int)) = some (iJ (eC P Q (i + 1)).1, iJ (eC P Q (i + 1)).2.1) := by
      unfold k_plusTimes k_newFra
      dsimp only
      rw [Option.bind_some, iJ_mul, iJ_mul, iJ_add, iJ_add, eC]
      dsimp only
      rw [Int.add_comm (eC P Q i).2.2.1, Int.add_comm (eC P Q i).2.2.2]
    unfold k_nearest_31
    dsimp only
    rw [if_c (show ((200 : Int32) ≤ iI (i : Int)) = (200 ≤ (i : Int)) from iI_le (a := 200) ⟨by omega, by omega⟩ ⟨by omega, by omega⟩), if_neg (by omega), if_c (show (iJ ((eXY P Q i).2 : Int) ≤ (0 : Int64)) = (((eXY P Q i).2 : Int) ≤ 0) from iJ_le (b := 0) ⟨by omega, by omega⟩ ⟨by omega, by omega⟩)]
    by_cases p : ((eXY P Q i).2 : Int) ≤ 0
    · right
      rw [if_pos p]
      have hi1 : 1 ≤ i := by
        rcases Nat.eq_zero_or_pos i with z | z
        · subst z; rw [eXY] at p; dsimp only at p; omega
        · exact z
      obtain ⟨w1, w2, w3⟩ := v5 hi1
      refine ⟨_, rfl, _, _, rfl, bst_exact (sg_sq i) v3 ?_ (by omega) (by omega) p1 w2 (hqN hi1)⟩
      have hy0 : ((eXY P Q i).2 : Int) = 0 := by omega
      rw [hy0] at v1 v2
      grind
    · have hnext : eD P Q (i + 1) := eD_succ hd (by omega)
      obtain ⟨_, _, ⟨_, n2, _, _⟩, n5⟩ := e_inv P Q (i + 1) hnext
      obtain ⟨⟨n6, n7⟩, _⟩ := e_bd hQ1 (show 1 ≤ i + 1 by omega) hnext
      rw [if_neg p, zck_t (j0_nz b3 (by omega)), eu_div b2 b3, hpt, Option.bind_some]
      dsimp only
      rw [if_c (iJ_le ⟨by omega, by omega⟩ ⟨by omega, by omega⟩)]
      by_cases q : (eC P Q (i + 1)).2.1 ≤ N
      · left
        rw [if_pos q, zck_t (j0_nz b3 (by omega)), ← eu_div b2 b3, eu_tmod b2 b3, show (iI (i : Int) + 1 : Int32) = iI ((i + 1 : Nat) : Int) from iI_add _ 1]
        exact ⟨_, rfl, hnext, fun _ => q, rfl⟩
      · right
        have hi1 : 1 ≤ i := by
          rcases Nat.eq_zero_or_pos i with z | z
          · subst z
            exfalso; apply q
            simp [eC, eXY]
            omega
          · exact z
        obtain ⟨w1, w2, w3⟩ := v5 hi1
        have w4 := hqN hi1
        have hsg : (eC P Q i).2.2.2 = 0 → sg i = -1 := fun z => by
          obtain ⟨k, hk⟩ : ∃ k, i = k + 1 := ⟨i - 1, by omega⟩
          subst hk
          rcases Nat.eq_zero_or_pos k with y | y
          · subst y; rfl
          · have := (e_inv P Q k (fun j hj => hd j (by omega))).2.2.2 y
            rw [eC] at z
            dsimp only at z
            omega
        have hdm := Nat.div_add_mod (eXY P Q i).1 (eXY P Q i).2
        have hA : (eC P Q (i + 1)).2.1 = (((eXY P Q i).1 / (eXY P Q i).2 : Nat) : Int) * (eC P Q i).2.1 + (eC P Q i).2.2.2 := rfl
        rw [if_neg q]
        rw [hA] at q
        have hXY : ((eXY P Q i).2 : Int) * (((eXY P Q i).1 / (eXY P Q i).2 : Nat) : Int) ≤ ((eXY P Q i).1 : Int) := by
          rw [← Int.natCast_mul]; omega
        generalize hX : (eXY P Q i).1 = X at *
        generalize hY : (eXY P Q i).2 = Y at *
        generalize hC : eC P Q i = C at *
        obtain ⟨c1, c2, c3, c4⟩ := C
        dsimp only at *
        generalize ((X / Y : Nat) : Int) = a at *
        unfold j_maxL
        rw [if_c (show ((1 : Int64) < iJ c2) = (1 < c2) from iJ_lt (a := 1) ⟨by omega, by omega⟩ ⟨by omega, by omega⟩)]
        have hmx : (if 1 < c2 then some (iJ c2) else some (1 : Int64)) = some (iJ c2) := by
          by_cases z : 1 < c2
          · rw [if_pos z]
          · rw [if_neg z, show c2 = 1 by omega]; rfl
        have hdv : (iJ N - iJ c4) / iJ c2 = iJ ((N - c4) / c2) := by
          rw [iJ_sub, iJ_div ⟨by omega, by omega⟩ (by omega) ⟨by omega, by omega⟩, tdiv_pos (by omega), if_pos (by omega)]
        have t0 : 0 ≤ (N - c4) / c2 := Int.ediv_nonneg (by omega) (by omega)
        have h1 := Int.mul_ediv_add_emod (N - c4) c2
        have h2 := Int.emod_nonneg (N - c4) (show c2 ≠ 0 by omega)
        have h3 := Int.emod_lt_of_pos (N - c4) (show 0 < c2 by omega)
        rw [Int.mul_comm] at h1
        rw [hmx, Option.bind_some, zck_t (by rw [decide_eq_true_eq]; show ¬ iJ c2 = iJ 0; rw [iJ_eq ⟨by omega, by omega⟩ ⟨by omega, by omega⟩]; omega), hdv]
        generalize hte : (N - c4) / c2 = t at *
        have hta : t < a := by
          rcases Int.lt_or_le t a with z | z
          · exact z
          · have := Int.mul_le_mul_of_nonneg_right z (show 0 ≤ c2 by omega); omega
        have htY : t * (Y : Int) + Y ≤ X := by
          have := Int.mul_le_mul_of_nonneg_left (show t + 1 ≤ a by omega) (show 0 ≤ (Y : Int) by omega)
          have e1 : (Y : Int) * (t + 1) = t * Y + Y := by grind
          omega
        have hz : c4 = 0 → sg i = -1 ∧ 1 ≤ t := fun z => ⟨hsg z, by
          rcases Int.lt_or_le t 1 with y | y
          · have : t = 0 := by omega
            rw [this, Int.zero_mul] at h1
            omega
          · exact y⟩
        have hXQ : (X : Int) ≤ Q := by
          have a1 := Int.mul_le_mul_of_nonneg_right w2 (show 0 ≤ (X : Int) by omega)
          have a2 := Int.mul_nonneg p4 (show 0 ≤ (Y : Int) by omega)
          omega
        have htY0 : 0 ≤ t * (Y : Int) := Int.mul_nonneg t0 (by omega)
        obtain ⟨s1, s2, s3, s4⟩ := bst_stop (N := N) (t := t) (sg_sq i) v3 v1 v2 (by omega) p1 p3 p4 w2 w3 w4 (by omega) (by omega) t0 hz (by omega) (by omega) htY
        have hpt2 : k_plusTimes (iJ c3, iJ c4) (iJ c1, iJ c2) (iJ t) = some (iJ (c3 + t * c1), iJ (c4 + t * c2)) := by
          unfold k_plusTimes k_newFra
          dsimp only
          rw [Option.bind_some, iJ_mul, iJ_mul, iJ_add, iJ_add]
        have heb : 0 ≤ c4 + t * c2 ∧ c4 + t * c2 ≤ 100000 := by
          have := Int.mul_nonneg t0 p2; omega
        have m1 := mul_bd (a := (Y : Int)) (b := c4 + t * c2) (A := 1000000) (B := 100000) ⟨by omega, by omega⟩ ⟨by omega, by omega⟩
        have m2 := mul_bd (a := (X : Int) - t * Y) (b := c2) (A := 1000000) (B := 100000) ⟨by omega, by omega⟩ ⟨by omega, by omega⟩
        have hnr : k_isNearer (iJ (c3 + t * c1), iJ (c4 + t * c2)) (iJ c1, iJ c2) (iJ (P : Int)) (iJ (Q : Int)) = some (decide (¬ (Y : Int) * (c4 + t * c2) ≤ ((X : Int) - t * Y) * c2)) := by
          unfold k_isNearer
          dsimp only
          rw [iJ_mul, iJ_mul, iJ_sub, c_abs ⟨by omega, by omega⟩, Option.bind_some, iJ_mul, iJ_mul, iJ_sub, c_abs ⟨by omega, by omega⟩, Option.bind_some, s1, s2, iJ_mul, iJ_mul, if_c (iJ_le ⟨by omega, by omega⟩ ⟨by omega, by omega⟩)]
          by_cases z : (Y : Int) * (c4 + t * c2) ≤ ((X : Int) - t * Y) * c2
          · rw [if_pos z, decide_eq_false (fun y => y z)]
          · rw [if_neg z, decide_eq_true z]
        rw [hpt2, Option.bind_some, hnr, Option.bind_some]
        by_cases z : (Y : Int) * (c4 + t * c2) ≤ ((X : Int) - t * Y) * c2
        · rw [if_neg (dneg (fun y => y z))]
          exact ⟨_, rfl, _, _, rfl, s3 z⟩
        · rw [if_pos (decide_eq_true z)]
          exact ⟨_, rfl, _, _, rfl, s4 z⟩) 256 0 (iJ (P : Int), iJ (Q : Int), (0, 1), (1, 0), 0) ⟨fun j hj => by omega, fun h => by omega, rfl⟩ (by omega)
  exact ⟨c, d, by rw [g1, g2], g3⟩
def cnd (P Q a b : Int) : Prop := P * b / Q ≤ a ∧ a ≤ P * b / Q + 1 ∧ a ≤ b
/-- the first of the nearest among the candidates before -/
def fst_ (P Q : Int) (B : Int → Int → Prop) (u v k : Int) : Prop := 1 ≤ v ∧ k = ((u * Q - P * v).natAbs : Int) ∧ (∀ a b : Int, 1 ≤ b → cnd P Q a b → B a b → k * b ≤ ((a * Q - P * b).natAbs : Int) * v) ∧ ∀ a b : Int, 1 ≤ b → cnd P Q a b → (b < v ∨ (b = v ∧ a < u)) → k * b < ((a * Q - P * b).natAbs : Int) * v
theorem cnd_bd {P Q a b : Int} (hQ : 1 ≤ Q) (h : P * b / Q ≤ a ∧ a ≤ P * b / Q + 1) : ((a * Q - P * b).natAbs : Int) ≤ Q := by
  have h1 := Int.mul_ediv_add_emod (P * b) Q
  have h2 := Int.emod_nonneg (P * b) (show Q ≠ 0 by omega)
  have h3 := Int.emod_lt_of_pos (P * b) (show 0 < Q by omega)
  rw [Int.mul_comm] at h1
  rcases (show a = P * b / Q ∨ a = P * b / Q + 1 by omega) with z | z
  · rw [z]; omega
  · rw [z, Int.add_mul, Int.one_mul]; omega
theorem m_best {P Q : Nat} {N : Int} (hQ1 : 1 ≤ Q) (hQ : Q ≤ 1000000) (hPQ : P ≤ Q) (hN : 1 ≤ N ∧ N ≤ 100000) (G : Nat → Int64) {n : Nat} (hn : 250000 ≤ n) : ∃ (u v k : Int) (G' : Nat → Int64), mlaysBest n G (iJ (P : Int)) (iJ (Q : Int)) (iI N) = some G' ∧ (1 ≤ v ∧ v ≤ N) ∧ fst_ P Q (fun _ b => b ≤ N) u v k ∧ G' 23 = iJ u ∧ G' 24 = iJ v ∧ G' 21 = G 21 ∧ G' 22 = G 22 := by
  have nzQ : decide (¬ iJ (Q : Int) = 0) = true := j0_nz (by omega) (by omega)
  have hQi : (1 : Int) ≤ Q := by omega
  -- the numerators over one denominator
  have hin : ∀ (b u v k : Int) (G1 : Nat → Int64), (1 ≤ b ∧ b ≤ N) → v ≤ N → (v < b ∨ (v = b ∧ b = 1 ∧ u = 0)) → k ≤ 1000000 → fst_ P Q (fun _ b' => b' < b) u v k → G1 23 = iJ u → G1 24 = iJ v → G1 21 = G 21 → G1 22 = G 22 → ∃ (u' v' k' : Int) (G2 : Nat → Int64), zloop (mlaysBest_33 n (iJ (P : Int)) (iJ (Q : Int)) (iI N) (iJ b)) n (iJ k, iJ ((P : Int) * b / Q), G1) = some (.inl (iJ k', iJ (b + 1), G2)) ∧ (v' ≤ N ∧ v' ≤ b) ∧ k' ≤ 1000000 ∧ fst_ P Q (fun _ b' => b' < b + 1) u' v' k' ∧ G2 23 = iJ u' ∧ G2 24 = iJ v' ∧ G2 21 = G 21 ∧ G2 22 = G 22 := by
    intro b u v k G1 hb hvN hvb hk hf g23 g24 g21 g22
    have bPb := mul_bd (a := (P : Int)) (b := b) (A := 1000000) (B := 100000) ⟨by omega, by omega⟩ ⟨by omega, by omega⟩
    have hPb0 : 0 ≤ (P : Int) * b := Int.mul_nonneg (by omega) (by omega)
    have hPbQ : (P : Int) * b ≤ Q * b := Int.mul_le_mul_of_nonneg_right (by omega) (by omega)
    have hfl0 : 0 ≤ (P : Int) * b / Q := Int.ediv_nonneg hPb0 (by omega)
    have hflb : (P : Int) * b / Q ≤ b := by
      have := Int.ediv_le_ediv (show 0 < (Q : Int) by omega) hPbQ
      rw [Int.mul_ediv_cancel_left _ (by omega)] at this
      exact this
    obtain ⟨r, e1, u', v', k', G2, e2, e3⟩ := zloop_inv (f := mlaysBest_33 n (iJ (P : Int)) (iJ (Q : Int)) (iI N) (iJ b)) (R := fun s => ∃ (a u v k : Int) (G1 : Nat → Int64), s = (iJ k, iJ a, G1) ∧ ((P : Int) * b / Q ≤ a ∧ a ≤ (P : Int) * b / Q + 2 ∧ a ≤ b + 1) ∧ (v ≤ N ∧ v ≤ b) ∧ (v < b ∨ (v = b ∧ u ≤ a)) ∧ k ≤ 1000000 ∧ fst_ P Q (fun a' b' => b' < b ∨ (b' = b ∧ a' < a)) u v k ∧ G1 23 = iJ u ∧ G1 24 = iJ v ∧ G1 21 = G 21 ∧ G1 22 = G 22) (S := fun r => ∃ (u' v' k' : Int) (G2 : Nat → Int64), r = .inl (iJ k', iJ (b + 1), G2) ∧ (v' ≤ N ∧ v' ≤ b) ∧ k' ≤ 1000000 ∧ fst_ P Q (fun _ b' => b' < b + 1) u' v' k' ∧ G2 23 = iJ u' ∧ G2 24 = iJ v' ∧ G2 21 = G 21 ∧ G2 22 = G 22) (fun s => ((P : Int) * b / Q + 3 - s.2.1.toInt).toNat) (by
      rintro s ⟨a, u, v, k, G1, rfl, ha, hv, hord, hk, hf, g23, g24, g21, g22⟩
      obtain ⟨f1, f2, f3, f4⟩ := hf
      have h113 : (mlaysBest_113 n G1 (iJ (P : Int)) (iJ (Q : Int)) (iI N) (iJ k) (iJ b)).map (fun z => (Sum.inr z : (Int64 × Int64 × (Nat → Int64)) ⊕ ((Int64 × Int64 × (Nat → Int64)) ⊕ ((Nat → Int64))))) = some (.inr (.inl (iJ k, iJ (b + 1), G1))) := by
        unfold mlaysBest_113
        rw [show (iJ b + 1 : Int64) = iJ (b + 1) from iJ_add _ 1]; rfl
      unfold mlaysBest_33 mlaysBest_104
      dsimp only
      rw [zck_t nzQ, iJ_mul, iJ_div ⟨by omega, by omega⟩ (by omega) ⟨by omega, by omega⟩, tdiv_pos (by omega), if_pos hPb0, show (iJ ((P : Int) * b / Q) + 1 : Int64) = iJ ((P : Int) * b / Q + 1) from iJ_add _ 1, if_c (iJ_lt ⟨by omega, by omega⟩ ⟨by omega, by omega⟩), if_c (iJ_lt ⟨by omega, by omega⟩ ⟨by omega, by omega⟩), h113]
      have hend : (P : Int) * b / Q + 1 < a ∨ b < a → ∃ r, (some (.inr (.inl (iJ k, iJ (b + 1), G1))) : Option ((Int64 × Int64 × (Nat → Int64)) ⊕ ((Int64 × Int64 × (Nat → Int64)) ⊕ ((Nat → Int64))))) = some (.inr r) ∧ ∃ (u' v' k' : Int) (G2 : Nat → Int64), r = .inl (iJ k', iJ (b + 1), G2) ∧ (v' ≤ N ∧ v' ≤ b) ∧ k' ≤ 1000000 ∧ fst_ P Q (fun _ b' => b' < b + 1) u' v' k' ∧ G2 23 = iJ u' ∧ G2 24 = iJ v' ∧ G2 21 = G 21 ∧ G2 22 = G 22 := fun hh =>
        ⟨_, rfl, u, v, k, G1, rfl, hv, hk, ⟨f1, f2, fun a' b' hb' hc hB => f3 a' b' hb' hc (by
          by_cases z : b' = b
          · subst z
            obtain ⟨c1, c2, c3⟩ := hc
            exact Or.inr ⟨rfl, by omega⟩
          · exact Or.inl (by omega)), f4⟩, g23, g24, g21, g22⟩
      by_cases p1 : (P : Int) * b / Q + 1 < a
      · right; rw [if_pos p1]; exact hend (Or.inl p1)
      · rw [if_neg p1]
        by_cases p2 : b < a
        · right; rw [if_pos p2]; exact hend (Or.inr p2)
        · left
          clear hend h113
          have hcn : cnd P Q a b := ⟨ha.1, by omega, by omega⟩
          have hDb := cnd_bd (P := P) (b := b) hQi ⟨ha.1, (by omega : a ≤ (P : Int) * b / Q + 1)⟩
          have hab : (((P : Int) * b - a * Q).natAbs : Int) = ((a * Q - P * b).natAbs : Int) := by omega
          have baQ := mul_bd (a := a) (b := (Q : Int)) (A := 200000) (B := 1000000) ⟨by omega, by omega⟩ ⟨by omega, by omega⟩
          have hμ : ((P : Int) * b / Q + 3 - (iJ (a + 1)).toInt).toNat < ((P : Int) * b / Q + 3 - (iJ a).toInt).toNat := by rw [iJ_to ⟨by omega, by omega⟩, iJ_to ⟨by omega, by omega⟩]; omega
          rw [if_neg p2, iJ_mul, iJ_sub, msize_abs ⟨by omega, by omega⟩, Option.bind_some, hab]
          generalize hDD : ((a * (Q : Int) - P * b).natAbs : Int) = D at *
          have m1 := mul_bd (a := D) (b := v) (A := 1000000) (B := 100000) ⟨by omega, by omega⟩ ⟨by omega, by omega⟩
          have m2 := mul_bd (a := k) (b := b) (A := 1000000) (B := 100000) ⟨by omega, by omega⟩ ⟨by omega, by omega⟩
          rw [if_c (show (iJ D * G1 24 < iJ k * iJ b) = (D * v < k * b) by rw [g24, iJ_mul, iJ_mul, iJ_lt ⟨by omega, by omega⟩ ⟨by omega, by omega⟩]), show (iJ a + 1 : Int64) = iJ (a + 1) from iJ_add _ 1]
          by_cases p3 : D * v < k * b
          · rw [if_pos p3]
            have hst : ∀ a' b' : Int, 1 ≤ b' → cnd P Q a' b' → (b' < b ∨ (b' = b ∧ a' < a)) → D * b' < ((a' * Q - P * b').natAbs : Int) * b := fun a' b' hb' hc hB => by
              have t1 := f3 a' b' hb' hc hB
              generalize ((a' * (Q : Int) - P * b').natAbs : Int) = E at *
              have t2 := Int.mul_lt_mul_of_pos_right p3 (show 0 < b' by omega)
              have t3 := Int.mul_le_mul_of_nonneg_right t1 (show 0 ≤ b by omega)
              have t4 : D * v * b' = D * b' * v := by grind
              have t5 : k * b * b' = k * b' * b := by grind
              have t6 : E * v * b = E * b * v := by grind
              exact Int.lt_of_mul_lt_mul_right (show D * b' * v < E * b * v by omega) (by omega)
            refine ⟨_, rfl, ⟨a + 1, a, b, D, _, rfl, ⟨by omega, by omega, by omega⟩, ⟨by omega, by omega⟩, Or.inr ⟨rfl, by omega⟩, by omega, ⟨by omega, hDD.symm, fun a' b' hb' hc hB => ?_, hst⟩, ?_, updL_at, ?_, ?_⟩, hμ⟩
            · by_cases z : b' = b ∧ a' = a
              · obtain ⟨z1, z2⟩ := z
                subst z1; subst z2
                rw [hDD]; exact Int.le_refl _
              · exact Int.le_of_lt (hst a' b' hb' hc (by omega))
            · rw [updL_ne (by omega), updL_at]
            · rw [updL_ne (by omega), updL_ne (by omega)]; exact g21
            · rw [updL_ne (by omega), updL_ne (by omega)]; exact g22
          · rw [if_neg p3]
            refine ⟨_, rfl, ⟨a + 1, u, v, k, G1, rfl, ⟨by omega, by omega, by omega⟩, hv, by omega, hk, ⟨f1, f2, fun a' b' hb' hc hB => ?_, f4⟩, g23, g24, g21, g22⟩, hμ⟩
            by_cases z : b' = b ∧ a' = a
            · obtain ⟨z1, z2⟩ := z
              subst z1; subst z2
              rw [hDD]; omega
            · exact f3 a' b' hb' hc (by omega)) n (iJ k, iJ ((P : Int) * b / Q), G1) ⟨_, u, v, k, G1, rfl, ⟨by omega, by omega, by omega⟩, ⟨hvN, by omega⟩, by omega, hk, ⟨hf.1, hf.2.1, fun a' b' hb' hc hB => hf.2.2.1 a' b' hb' hc (by
          rcases hB with z | ⟨z, z2⟩
          · exact z
          · obtain ⟨c1, _⟩ := hc
            rw [z] at c1; omega), hf.2.2.2⟩, g23, g24, g21, g22⟩ (by show ((P : Int) * b / Q + 3 - (iJ ((P : Int) * b / Q)).toInt).toNat < n; rw [iJ_to ⟨by omega, by omega⟩]; omega)
    exact ⟨u', v', k', G2, by rw [e1, e2], e3⟩
  unfold mlaysBest
  obtain ⟨r, e1, u, v, k, e2⟩ := zloop_inv (f := mlaysBest_16 n (iJ (P : Int)) (iJ (Q : Int)) (iI N)) (R := fun s => ∃ (b u v k : Int) (G1 : Nat → Int64), s = (iJ k, iJ b, G1) ∧ (1 ≤ b ∧ b ≤ N + 1) ∧ v ≤ N ∧ (v < b ∨ (v = b ∧ b = 1 ∧ u = 0)) ∧ k ≤ 1000000 ∧ fst_ P Q (fun _ b' => b' < b) u v k ∧ G1 23 = iJ u ∧ G1 24 = iJ v ∧ G1 21 = G 21 ∧ G1 22 = G 22) (S := fun G' => ∃ u v k : Int, (1 ≤ v ∧ v ≤ N) ∧ fst_ P Q (fun _ b => b ≤ N) u v k ∧ G' 23 = iJ u ∧ G' 24 = iJ v ∧ G' 21 = G 21 ∧ G' 22 = G 22) (fun s => (N + 1 - s.2.1.toInt).toNat) (by
    rintro s ⟨b, u, v, k, G1, rfl, hb, hvN, hvb, hk, hf, g23, g24, g21, g22⟩
    unfold mlaysBest_16
    dsimp only
    rw [iI_J ⟨by omega, by omega⟩, if_c (iJ_lt ⟨by omega, by omega⟩ ⟨by omega, by omega⟩)]
    by_cases p : N < b
    · right
      rw [if_pos p]
      exact ⟨_, rfl, u, v, k, ⟨hf.1, hvN⟩, ⟨hf.1, hf.2.1, fun a' b' hb' hc hB => hf.2.2.1 a' b' hb' hc (by omega), hf.2.2.2⟩, g23, g24, g21, g22⟩
    · left
      have bPb := mul_bd (a := (P : Int)) (b := b) (A := 1000000) (B := 100000) ⟨by omega, by omega⟩ ⟨by omega, by omega⟩
      have hPb0 : 0 ≤ (P : Int) * b := Int.mul_nonneg (by omega) (by omega)
      obtain ⟨u', v', k', G2, i1, i2, i3, i4, i5, i6, i7, i8⟩ := hin b u v k G1 ⟨by omega, by omega⟩ hvN hvb hk hf g23 g24 g21 g22
      rw [if_neg p, zck_t nzQ, iJ_mul, iJ_div ⟨by omega, by omega⟩ (by omega) ⟨by omega, by omega⟩, tdiv_pos (by omega), if_pos hPb0, i1]
      refine ⟨_, rfl, ⟨b + 1, u', v', k', G2, rfl, ⟨by omega, by omega⟩, i2.1, Or.inl (by omega), i3, i4, i5, i6, i7, i8⟩, ?_⟩
      dsimp only; rw [iJ_to ⟨by omega, by omega⟩, iJ_to ⟨by omega, by omega⟩]; omega) n (iJ (P : Int), 1, vp_updL (vp_updL G 23 0) 24 1) ⟨1, 0, 1, P, _, rfl, ⟨by omega, by omega⟩, by omega, Or.inr ⟨rfl, rfl, rfl⟩, by omega, ⟨by omega, by omega, fun a' b' hb' hc hB => by omega, fun a' b' hb' hc hB => by
        obtain ⟨c1, _⟩ := hc
        have : 0 ≤ (P : Int) * b' / Q := Int.ediv_nonneg (Int.mul_nonneg (by omega) (by omega)) (by omega)
        omega⟩, by rw [updL_ne (by omega), updL_at]; rfl, updL_at, by rw [updL_ne (by omega), updL_ne (by omega)], by rw [updL_ne (by omega), updL_ne (by omega)]⟩ (by show (N + 1 - (iJ 1).toInt).toNat < n; rw [iJ_to ⟨by omega, by omega⟩]; omega)
  exact ⟨u, v, k, r, e1, e2⟩
theorem bst_u {P Q N c d u v k : Int} (hQ : 1 ≤ Q) (h : bst P Q N c d) (hv : 1 ≤ v ∧ v ≤ N) (h' : fst_ P Q (fun _ b => b ≤ N) u v k) : c = u ∧ d = v := by
  obtain ⟨⟨h1, h2⟩, ⟨h3, h4⟩, h5, h6, h7⟩ := h
  obtain ⟨f1, f2, f3, f4⟩ := h'
  have hc : cnd P Q c d := by
    have g1 := Int.mul_ediv_add_emod (P * d) Q
    have g2 := Int.emod_nonneg (P * d) (show Q ≠ 0 by omega)
    have g3 := Int.emod_lt_of_pos (P * d) (show 0 < Q by omega)
    rw [Int.mul_comm] at g1
    refine ⟨?_, ?_, h4⟩
    · rcases Int.lt_or_le c (P * d / Q) with z | z
      · have := Int.mul_le_mul_of_nonneg_right (show c + 1 ≤ P * d / Q by omega) (show 0 ≤ Q by omega)
        rw [Int.add_mul, Int.one_mul] at this
        omega
      · exact z
    · rcases Int.lt_or_le (P * d / Q + 1) c with z | z
      · have := Int.mul_le_mul_of_nonneg_right (show P * d / Q + 1 + 1 ≤ c by omega) (show 0 ≤ Q by omega)
        rw [Int.add_mul, Int.add_mul, Int.one_mul] at this
        omega
      · exact z
  have a1 := h7 u v hv.1 hv.2
  have a2 := f3 c d h1 hc h2
  rw [← f2] at a1
  have a3 := a1.2 (by omega)
  have a4 := f4 c d h1 hc
  have a5 : ¬ (d < v ∨ (d = v ∧ c < u)) := fun z => by have := a4 z; omega
  have : d = v := by omega
  have := a3.2 this
  exact ⟨by omega, by omega⟩
theorem hc_best : HC_best Inv := by
  intro A tp dv cs cv jv bo hg lw sb F G tq w oc z0 z1 z2 z3 h
  have hn := hn_f
  obtain ⟨p, hp, rfl⟩ := ex32 z0
  obtain ⟨q, hq, rfl⟩ := ex32 z1
  obtain ⟨x, hx, rfl⟩ := ex32 z2
  unfold l_best mbest
  have i1 : misIn (iI x).toInt64 1 100000 = some (decide (1 ≤ x ∧ x ≤ 100000)) := by
    rw [iI_J hx, show (1 : Int64) = iJ 1 by decide +kernel, show (100000 : Int64) = iJ 100000 by decide +kernel]
    exact m_isIn (b32_64 hx) ⟨by omega, by omega⟩ ⟨by omega, by omega⟩
  rw [c_isShare hp hq, m_isFraction hp hq, Option.bind_some, Option.bind_some]
  by_cases hs : (1 ≤ q ∧ q ≤ 1000000) ∧ 0 ≤ p ∧ p ≤ q
  · rw [if_pos (decide_eq_true hs), if_pos (decide_eq_true hs), i1, Option.bind_some, iI_J hp, iI_J hq, iI_J hx, if_c (show (iI x < (1 : Int32)) = (x < 1) from iI_lt (b := 1) hx ⟨by omega, by omega⟩), if_c (show (iI x ≤ (100000 : Int32)) = (x ≤ 100000) from iI_le (b := 100000) hx ⟨by omega, by omega⟩)]
    by_cases x0 : 1 ≤ x ∧ x ≤ 100000
    · obtain ⟨P, hPe⟩ : ∃ P : Nat, p = P := ⟨p.toNat, by omega⟩
      obtain ⟨Q, hQe⟩ : ∃ Q : Nat, q = Q := ⟨q.toNat, by omega⟩
      subst hPe; subst hQe
      rw [if_pos (decide_eq_true x0), if_neg (show ¬ x < 1 by omega), if_pos x0.2]
      obtain ⟨c, d, c1, c2⟩ := c_nearest (P := P) (Q := Q) (N := x) (by omega) (by omega) (by omega) x0
      obtain ⟨u, v, k, G', m1, m2, m3, m4, m5, m6, m7⟩ := m_best (P := P) (Q := Q) (N := x) (by omega) (by omega) (by omega) x0 G hn
      obtain ⟨rfl, rfl⟩ := bst_u (by omega) c2 m2 m3
      obtain ⟨⟨h1, h2⟩, ⟨h3, h4⟩, h5, h6, h7⟩ := c2
      obtain ⟨r', g1, g2⟩ := cm_part1 (a := c) (b := d) ⟨by omega, by omega⟩ (by omega) ⟨by omega, by omega⟩ (by omega) h6 z3 hn
      rw [c1, m1, Option.bind_some, Option.bind_some, m4, m5, g1, g2]
      exact ⟨_, _, rfl, rfl, rfl, h.fld ⟨rfl, rfl, rfl, rfl, rfl, rfl⟩ ⟨m6, m7⟩⟩
    · rw [if_neg (dneg x0)]
      by_cases t : x < 1
      · rw [if_pos t]; exact ⟨_, _, rfl, rfl, rfl, h.thr⟩
      · rw [if_neg t, if_neg (by omega)]; exact ⟨_, _, rfl, rfl, rfl, h.thr⟩
  · rw [if_neg (dneg hs), if_neg (dneg hs)]; exact ⟨_, _, rfl, rfl, rfl, h.thr⟩
