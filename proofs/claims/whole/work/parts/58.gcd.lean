/-! ===== the common divisor; octet, weeks, mean ===== -/
theorem zloop_ix {σ ρ : Type} {f : σ → Option (σ ⊕ ρ)} {R : Nat → σ → Prop} {S : ρ → Prop} (N : Nat) (hN : ∀ i s, R i s → i ≤ N) (hs : ∀ i s, R i s → (∃ s', f s = some (.inl s') ∧ R (i + 1) s') ∨ ∃ r, f s = some (.inr r) ∧ S r) : ∀ (n i : Nat) (s : σ), R i s → N < n + i → ∃ r, zloop f n s = some r ∧ S r := by
  intro n
  induction n with
  | zero => intro i s hR h; have := hN i s hR; omega
  | succ n ih =>
    intro i s hR h
    rcases hs i s hR with ⟨s', h1, h2⟩ | ⟨r, h1, h2⟩
    · obtain ⟨r, h3, h4⟩ := ih (i + 1) s' h2 (by omega)
      exact ⟨r, by rw [zloop, h1]; exact h3, h4⟩
    · exact ⟨r, by rw [zloop, h1], h2⟩
/-- after so many steps of Euclid's -/
def euR (g i X Y : Nat) : Prop := i ≤ 127 ∧ X < 2 ^ 63 ∧ Y < 2 ^ 63 ∧ Nat.gcd X Y = g ∧ ∃ k, (i = 2 * k ∧ Y * 2 ^ k < 2 ^ 63) ∨ (i = 2 * k + 1 ∧ X * 2 ^ k < 2 ^ 63 ∧ Y < X)
theorem euR_k {Y k : Nat} (h : Y * 2 ^ k < 2 ^ 63) (hY : 1 ≤ Y) : k < 63 := by
  rcases Nat.lt_or_ge k 63 with h1 | h1
  · exact h1
  · have h2 : 2 ^ 63 ≤ 2 ^ k := Nat.pow_le_pow_right (by omega) h1
    have h3 : 1 * 2 ^ k ≤ Y * 2 ^ k := Nat.mul_le_mul_right _ hY
    omega
theorem euR_step {g i X Y : Nat} (h : euR g i X Y) (hY : 1 ≤ Y) : euR g (i + 1) Y (X % Y) := by
  obtain ⟨h1, h2, h3, h4, k, hk⟩ := h
  have hlt := Nat.mod_lt X (show 0 < Y by omega)
  have hg : Nat.gcd Y (X % Y) = g := by rw [← h4, Nat.gcd_comm X Y, Nat.gcd_rec Y X, Nat.gcd_comm]
  rcases hk with ⟨e, hk⟩ | ⟨e, hk, hlt2⟩
  · have := euR_k hk hY
    exact ⟨by omega, h3, by omega, hg, k, Or.inr ⟨by omega, hk, hlt⟩⟩
  · have := euR_k hk (by omega)
    refine ⟨by omega, h3, by omega, hg, k + 1, Or.inl ⟨by omega, ?_⟩⟩
    have h5 : 2 * (X % Y) ≤ X := by
      have e1 := Nat.div_add_mod X Y
      have e2 : 1 ≤ X / Y := (Nat.le_div_iff_mul_le (by omega)).mpr (by omega)
      have e3 : Y * 1 ≤ Y * (X / Y) := Nat.mul_le_mul_left _ e2
      omega
    have h6 : 2 * (X % Y) * 2 ^ k ≤ X * 2 ^ k := Nat.mul_le_mul_right _ h5
    rw [Nat.pow_succ, ← Nat.mul_assoc, Nat.mul_right_comm, Nat.mul_comm _ 2]
    omega
theorem eu_tmod {X Y : Nat} (hX : X < 2 ^ 63) (hY : Y < 2 ^ 63) : iJ (X : Int) - iJ (X : Int) / iJ (Y : Int) * iJ (Y : Int) = iJ ((X % Y : Nat) : Int) := by
  rw [iJ_mod ⟨by omega, by omega⟩ (by omega) ⟨by omega, by omega⟩]
  congr 1
theorem abs_J {a : Int} (ha : b64 a) (ha2 : a ≠ -9223372036854775808) : b64 (a.natAbs : Int) ∧ a.natAbs < 2 ^ 63 := by
  have := ha.1; have := ha.2
  exact ⟨⟨by omega, by omega⟩, by omega⟩
theorem eu_0 {a b : Int} (ha : b64 a) (ha2 : a ≠ -9223372036854775808) (hb : b64 b) (hb2 : b ≠ -9223372036854775808) : euR (Int.gcd a b) 0 a.natAbs b.natAbs := by
  have h1 := (abs_J ha ha2).2
  have h2 := (abs_J hb hb2).2
  exact ⟨by omega, h1, h2, rfl, 0, Or.inl ⟨rfl, by simpa using h2⟩⟩
theorem m_gcd {a b : Int} (ha : b64 a) (ha2 : a ≠ -9223372036854775808) (hb : b64 b) (hb2 : b ≠ -9223372036854775808) {n : Nat} (hn : 250000 ≤ n) : mgcd n (iJ a) (iJ b) = some (iJ (Int.gcd a b : Int)) := by
  unfold mgcd
  have e1 : (if a < 0 then -a else a) = (a.natAbs : Int) := by omega
  have e2 : (if b < 0 then -b else b) = (b.natAbs : Int) := by omega
  rw [m_size ha, m_size hb, Option.bind_some, Option.bind_some, e1, e2]
  obtain ⟨r, h1, h2⟩ := zloop_ix (f := mgcd_12 n) (R := fun i s => ∃ X Y : Nat, s = (iJ (X : Int), iJ (Y : Int)) ∧ euR (Int.gcd a b) i X Y) (S := fun r => r = iJ (Int.gcd a b : Int)) 127 (by rintro i s ⟨X, Y, -, h⟩; exact h.1) (by
    rintro i s ⟨X, Y, rfl, h⟩
    have hX := h.2.1
    have hY := h.2.2.1
    unfold mgcd_12
    dsimp only
    rw [if_c (show (iJ (Y : Int) = (0 : Int64)) = ((Y : Int) = 0) from iJ_eq (b := 0) ⟨by omega, by omega⟩ ⟨by omega, by omega⟩)]
    by_cases q : (Y : Int) = 0
    · right
      rw [if_pos q]
      have hg := h.2.2.2.1
      rw [show Y = 0 by omega, Nat.gcd_zero_right] at hg
      exact ⟨_, rfl, by rw [hg]⟩
    · left
      rw [if_neg q, zck_t (by rw [decide_eq_true_eq]; show ¬ iJ (Y : Int) = iJ 0; rw [iJ_eq ⟨by omega, by omega⟩ ⟨by omega, by omega⟩]; exact q), eu_tmod hX hY]
      exact ⟨_, rfl, Y, X % Y, rfl, euR_step h (by omega)⟩) n 0 (iJ (a.natAbs : Int), iJ (b.natAbs : Int)) ⟨_, _, rfl, eu_0 ha ha2 hb hb2⟩ (by omega)
  rw [h1, h2]
theorem c_abs {a : Int} (ha : b64 a) : j_abs (iJ a) = some (iJ (a.natAbs : Int)) := by
  unfold j_abs
  rw [if_c (show ((0 : Int64) ≤ iJ a) = (0 ≤ a) from iJ_le (a := 0) ⟨by omega, by omega⟩ ha)]
  by_cases q : 0 ≤ a
  · rw [if_pos q]; congr 2; omega
  · rw [if_neg q, iJ_neg]; congr 2; omega
theorem c_gcd {a b : Int} (ha : b64 a) (ha2 : a ≠ -9223372036854775808) (hb : b64 b) (hb2 : b ≠ -9223372036854775808) (h0 : b ≠ 0) {n : Nat} (hn : 250000 ≤ n) : k_gcd n (iJ a) (iJ b) = some (iJ (Int.gcd a b : Int)) := by
  unfold k_gcd
  rw [c_abs ha, c_abs hb, Option.bind_some, Option.bind_some]
  have hg1 : 1 ≤ Int.gcd a b := Int.gcd_pos_of_ne_zero_right a h0
  have hg2 : (Int.gcd a b : Int) ≤ 9223372036854775807 := by
    have h1 : Int.gcd a b ≤ b.natAbs := Nat.gcd_le_right _ (by omega)
    have := (abs_J hb hb2).2; omega
  have h51 : k_gcd_51 n (iJ (Int.gcd a b : Int)) = some (iJ (Int.gcd a b : Int)) := by
    unfold k_gcd_51 j_maxL
    rw [if_c (show ((1 : Int64) < iJ (Int.gcd a b : Int)) = (1 < (Int.gcd a b : Int)) from iJ_lt (a := 1) ⟨by omega, by omega⟩ ⟨by omega, by omega⟩)]
    by_cases q : 1 < (Int.gcd a b : Int)
    · rw [if_pos q]; rfl
    · rw [if_neg q, show (Int.gcd a b : Int) = 1 by omega]; rfl
  obtain ⟨r, h1, h2⟩ := zloop_ix (f := k_gcd_15 n) (R := fun i s => ∃ X Y : Nat, s = (iJ (X : Int), iJ (Y : Int), iI (i : Int)) ∧ euR (Int.gcd a b) i X Y) (S := fun r => r = iJ (Int.gcd a b : Int)) 127 (by rintro i s ⟨X, Y, -, h⟩; exact h.1) (by
    rintro i s ⟨X, Y, rfl, h⟩
    have hi := h.1
    have hX := h.2.1
    have hY := h.2.2.1
    unfold k_gcd_15
    dsimp only
    rw [if_c (show ((200 : Int32) ≤ iI (i : Int)) = (200 ≤ (i : Int)) from iI_le (a := 200) ⟨by omega, by omega⟩ ⟨by omega, by omega⟩), if_neg (by omega), if_c (show (iJ (Y : Int) ≤ (0 : Int64)) = ((Y : Int) ≤ 0) from iJ_le (b := 0) ⟨by omega, by omega⟩ ⟨by omega, by omega⟩)]
    by_cases q : (Y : Int) ≤ 0
    · right
      rw [if_pos q]
      have hg := h.2.2.2.1
      rw [show Y = 0 by omega, Nat.gcd_zero_right] at hg
      rw [hg, h51]
      exact ⟨_, rfl, rfl⟩
    · left
      rw [if_neg q, zck_t (by rw [decide_eq_true_eq]; show ¬ iJ (Y : Int) = iJ 0; rw [iJ_eq ⟨by omega, by omega⟩ ⟨by omega, by omega⟩]; omega), eu_tmod hX hY, show (iI (i : Int) + 1 : Int32) = iI ((i + 1 : Nat) : Int) from iI_add _ 1]
      exact ⟨_, rfl, Y, X % Y, rfl, euR_step h (by omega)⟩) n 0 (iJ (a.natAbs : Int), iJ (b.natAbs : Int), 0) ⟨_, _, rfl, eu_0 ha ha2 hb hb2⟩ (by omega)
  rw [h1, h2]
/-- a part of a fraction in least terms, on both sides -/
theorem cm_part {a b : Int} (ha : b64 a) (ha2 : a ≠ -9223372036854775808) (hb : b64 b) (hb0 : 0 < b) (z : Int32) {n : Nat} (hn : 250000 ≤ n) : ∃ (v : vFra) (r : Int64), k_leastTerms n (iJ a) (iJ b) = some v ∧ k_tellPart v z = some r ∧ mpartOf n (iJ a) (iJ b) z = some r := by
  have hg1 : 1 ≤ Int.gcd a b := Int.gcd_pos_of_ne_zero_right a (by omega)
  have hg2 : (Int.gcd a b : Int) ≤ 9223372036854775807 := by
    have h1 : Int.gcd a b ≤ b.natAbs := Nat.gcd_le_right _ (by omega)
    have := (abs_J hb (by omega)).2; omega
  have nz : decide (¬ iJ (Int.gcd a b : Int) = 0) = true := by rw [decide_eq_true_eq]; show ¬ iJ _ = iJ 0; rw [iJ_eq ⟨by omega, by omega⟩ ⟨by omega, by omega⟩]; omega
  have hv : k_leastTerms n (iJ a) (iJ b) = some (iJ a / iJ (Int.gcd a b : Int), iJ b / iJ (Int.gcd a b : Int)) := by
    unfold k_leastTerms k_newFra
    rw [c_gcd ha ha2 hb (by omega) (by omega) hn, Option.bind_some, zck_t nz, zck_t nz]
    rfl
  obtain ⟨k, hk, rfl⟩ := ex32 z
  refine ⟨_, if k = 0 then iJ a / iJ (Int.gcd a b : Int) else if k = 1 then iJ b / iJ (Int.gcd a b : Int) else -1000000000000000, hv, ?_, ?_⟩
  · unfold k_tellPart
    dsimp only
    rw [if_c (show (iI k = (0 : Int32)) = (k = 0) from iI_eq (b := 0) hk ⟨by omega, by omega⟩), if_c (show (iI k = (1 : Int32)) = (k = 1) from iI_eq (b := 1) hk ⟨by omega, by omega⟩)]
    by_cases q : k = 0
    · rw [if_pos q, if_pos q]
    · rw [if_neg q, if_neg q]
      by_cases p : k = 1
      · rw [if_pos p, if_pos p]
      · rw [if_neg p, if_neg p]
  · unfold mpartOf
    rw [iI_J hk, show (0 : Int64) = iJ 0 by decide +kernel, show (1 : Int64) = iJ 1 by decide +kernel, m_isIn (b32_64 hk) ⟨by omega, by omega⟩ ⟨by omega, by omega⟩, Option.bind_some, m_gcd ha ha2 hb (by omega) hn, Option.bind_some, if_c (show (iI k = (0 : Int32)) = (k = 0) from iI_eq (b := 0) hk ⟨by omega, by omega⟩)]
    have nz' : decide (¬ iJ (Int.gcd a b : Int) = iJ 0) = true := nz
    rw [zck_t nz', zck_t nz']
    by_cases q : 0 ≤ k ∧ k ≤ 1
    · rw [if_pos (decide_eq_true q)]
      by_cases q0 : k = 0
      · rw [if_pos q0, if_pos q0]
      · rw [if_neg q0, if_neg q0, if_pos (by omega)]
    · rw [if_neg (dneg q), if_neg (by omega), if_neg (by omega)]
theorem oct_b : ∀ i : Nat, i < 128 → (((iI (i : Int)) &&& 255).toUInt32 % 65536).toInt32 = iI (i : Int) := by decide +kernel
theorem hc_octet : HC_octet Inv := by
  intro A tp dv cs cv jv bo hg lw sb F G tq w oc z0 h
  obtain ⟨b1, ⟨b2, b3⟩, b4⟩ := h.2.2.2.2.2
  obtain ⟨k, hk, rfl⟩ := ex32 z0
  unfold w_octet moctet
  rw [show (upd F 0 0) 16 = F 16 from rfl, b3, nI_iI, show (iI (sb.1 : Int) - 1 : Int32) = iI ((sb.1 : Int) - 1) from iI_sub _ 1, iI_J hk, iI_J ⟨by omega, by omega⟩, show (0 : Int64) = iJ 0 by decide +kernel, m_isIn (b32_64 hk) ⟨by omega, by omega⟩ ⟨by omega, by omega⟩, Option.bind_some, if_c (show (iI k < (0 : Int32)) = (k < 0) from iI_lt (b := 0) hk ⟨by omega, by omega⟩), if_c (iI_lt hk ⟨by omega, by omega⟩)]
  by_cases q : 0 ≤ k ∧ k ≤ (sb.1 : Int) - 1
  · obtain ⟨j, hj⟩ : ∃ j : Nat, k = j := ⟨k.toNat, by omega⟩
    subst hj
    obtain ⟨c1, c2, c3⟩ := b4 j (by omega)
    rw [if_pos (decide_eq_true q), if_neg (by omega), if_pos (by omega), zck_t (iI_zin (by omega) (by omega) (by omega)), iI_nat (by omega) (by omega), Int.toNat_natCast, c1]
    refine ⟨_, _, rfl, rfl, ?_, h.thr, b1⟩
    have e := oct_b (sb.2.2.2 j).toInt.toNat (by omega)
    rw [Int.toNat_of_nonneg c2, iI_of] at e
    exact e
  · rw [if_neg (dneg q)]
    by_cases p : k < 0
    · rw [if_pos p]; exact ⟨_, _, rfl, rfl, rfl, h.thr, b1⟩
    · rw [if_neg p, if_neg (by omega)]; exact ⟨_, _, rfl, rfl, rfl, h.thr, b1⟩
theorem hc_mean : HC_mean Inv := by
  intro A tp dv cs cv jv bo hg lw sb F G tq w oc z0 z1 z2 h
  have hn := hn_f
  unfold l_mean mmean
  rcases atD h.2.2.1 z0 with ⟨h1, h2⟩ | ⟨s, d, hs, rfl, hdv, h1, h2, h3, hd, hw⟩
  · rw [h1, h2]; exact ⟨_, _, rfl, rfl, rfl, h.thr⟩
  · simp only [h1, h2, h3, Option.bind_some, zO_s, ↓reduceIte]
    have hcy := lCyc_bd hd.2.1
    have hwl := hw.2.2.2.2.2.2.2.2.1
    by_cases q : z1 = 0
    · rw [if_pos q, if_pos q]
      have hsb := sta_bd hd (y := lCyc d.2.1) ⟨by omega, by omega⟩
      obtain ⟨v, r, e1, e2, e3⟩ := cm_part (a := sta d (lCyc d.2.1)) (b := lCyc d.2.1) ⟨by omega, by omega⟩ (by omega) ⟨by omega, by omega⟩ (by omega) z2 hn
      unfold k_meanYear
      simp only [c_cyc hd.2.1, c_start hd (y := lCyc d.2.1) ⟨by omega, by omega⟩ (show 7 ≤ fuel by omega), Option.bind_some, iI_J (show b32 (lCyc d.2.1) from ⟨by omega, by omega⟩), e1, e2]
      rw [zck_t (watz (442 * s) 8 (by omega)), wat (442 * s) 8 (by omega), LR_cyc hd.2.1 hwl, iI_J ⟨by omega, by omega⟩, m_start hd (by omega) hw ⟨by omega, by omega⟩ (by omega), Option.bind_some, zck_t (watz (442 * s) 8 (by omega)), e3]
      exact ⟨_, _, rfl, rfl, rfl, h.thr⟩
    · rw [if_neg q, if_neg q]
      obtain ⟨w0, w1, w2, w4, w5, w6, w7, w24, wl, w12, w13, w14, w15, w16⟩ := hw
      obtain ⟨t1, t2, t3, t4, t5⟩ := hd.2.2
      have hm := mul_bd (a := d.2.2.1.toInt) (b := d.2.2.2.2.1.toInt) (A := 999) (B := 1000000) ⟨by omega, by omega⟩ ⟨by omega, by omega⟩
      obtain ⟨v, r, e1, e2, e3⟩ := cm_part (a := d.2.2.1.toInt * d.2.2.2.2.1.toInt + d.2.2.2.1.toInt) (b := d.2.2.2.2.1.toInt) ⟨by omega, by omega⟩ (by omega) ⟨by omega, by omega⟩ (by omega) z2 hn
      unfold k_length mtrueAbove
      simp only [e64, iJ_mul, iJ_add, e1, e2, Option.bind_some]
      rw [zck_t (watz (442 * s) 12 (by omega)), zck_t (watz (442 * s) 14 (by omega)), zck_t (watz (442 * s) 13 (by omega)), wat (442 * s) 12 (by omega), wat (442 * s) 13 (by omega), wat (442 * s) 14 (by omega), w12, w13, w14, Option.bind_some, zck_t (watz (442 * s) 14 (by omega)), e3]
      exact ⟨_, _, rfl, rfl, rfl, h.thr⟩
theorem hc_weeks : HC_weeks Inv := by
  intro A tp dv cs cv jv bo hg lw sb F G tq w oc z0 h
  have hn := hn_f
  unfold l_weeks mweeks
  rcases atD h.2.2.1 z0 with ⟨h1, h2⟩ | ⟨s, d, hs, rfl, hdv, h1, h2, h3, hd, hw⟩
  · rw [h1, h2]; exact ⟨_, _, rfl, rfl, rfl, h.thr⟩
  · have hcy := lCyc_bd hd.2.1
    have hwl := hw.2.2.2.2.2.2.2.2.1
    have hsb := sta_bd hd (y := lCyc d.2.1) ⟨by omega, by omega⟩
    have hwk := hd.1.2.2.2.2.2.2.1
    have g1 := c_gcd (a := sta d (lCyc d.2.1)) (b := d.1.2.2.2.2.1.toInt) ⟨by omega, by omega⟩ (by omega) ⟨by omega, by omega⟩ (by omega) (by omega) hn
    have g2 := m_gcd (a := sta d (lCyc d.2.1)) (b := d.1.2.2.2.2.1.toInt) ⟨by omega, by omega⟩ (by omega) ⟨by omega, by omega⟩ (by omega) hn
    have hg1 : 1 ≤ Int.gcd (sta d (lCyc d.2.1)) d.1.2.2.2.2.1.toInt := Int.gcd_pos_of_ne_zero_right _ (by omega)
    have hg2 : Int.gcd (sta d (lCyc d.2.1)) d.1.2.2.2.2.1.toInt ≤ d.1.2.2.2.2.1.toInt.natAbs := Nat.gcd_le_right _ (by omega)
    simp only [h1, h2, h3, Option.bind_some, zO_s, ↓reduceIte, c_cyc hd.2.1, c_start hd (y := lCyc d.2.1) ⟨by omega, by omega⟩ (show 7 ≤ fuel by omega), e64, g1]
    rw [zck_t (watz (442 * s) 8 (by omega)), zck_t (watz (442 * s) 6 (by omega)), zck_t (watz (442 * s) 8 (by omega)), wat (442 * s) 8 (by omega), wat (442 * s) 6 (by omega), LR_cyc hd.2.1 hwl, hw.2.2.2.2.2.1, iI_to ⟨by omega, by omega⟩, m_start hd (by omega) hw ⟨by omega, by omega⟩ (by omega), Option.bind_some, zck_t (watz (442 * s) 6 (by omega)), g2, Option.bind_some, iJ_I, zck_t (by rw [decide_eq_true_eq]; show ¬ iI _ = iI 0; rw [iI_eq ⟨by omega, by omega⟩ ⟨by omega, by omega⟩]; omega), zck_t (by rw [decide_eq_true_eq]; show ¬ iI _ = iI 0; rw [iI_eq ⟨by omega, by omega⟩ ⟨by omega, by omega⟩]; omega)]
    exact ⟨_, _, rfl, rfl, rfl, h.thr⟩
