/-! ===== laws, as the class has them ===== -/
theorem mul_bd {a b A B : Int} (ha : -A ≤ a ∧ a ≤ A) (hb : -B ≤ b ∧ b ≤ B) : -(A * B) ≤ a * b ∧ a * b ≤ A * B := by
  have h1 : (a * b).natAbs ≤ A.natAbs * B.natAbs := by
    rw [Int.natAbs_mul]
    exact Nat.mul_le_mul (by omega) (by omega)
  have h2 : ((A.natAbs * B.natAbs : Nat) : Int) = A * B := by
    rw [Int.natCast_mul, Int.natAbs_of_nonneg (by omega), Int.natAbs_of_nonneg (by omega)]
  omega
theorem tmod_zero {a b : Int} (hb : 0 < b) : (a.tmod b = 0) = (a % b = 0) := by
  have h := tmod_pos (a := a) hb
  have e3 := Int.emod_lt_of_pos a hb
  have e2 := Int.emod_nonneg a (Int.ne_of_gt hb)
  apply propext
  rw [h]
  split
  · exact Iff.rfl
  · split <;> omega
theorem ladC_stop {f : Nat → Int32} {y : Int} {i : Nat} (h : ladC f y i = i) (hn : ¬ y % (f i).toInt = 0) : ∀ m, i ≤ m → ladC f y m = i := by
  intro m
  induction m with
  | zero => intro hm; have : i = 0 := by omega
            subst this; exact h
  | succ m ih =>
    intro hm
    by_cases q : i = m + 1
    · subst q; exact h
    · have hi := ih (by omega)
      rw [ladC, if_neg]
      · exact hi
      · rintro ⟨z1, z2⟩
        rw [hi] at z1; subst z1; exact hn z2
theorem par2 (i : Nat) (hi : i < 1000) : (iI (i : Int) - iI (i : Int) / 2 * 2) = iI ((i % 2 : Nat) : Int) := by
  show iI (i : Int) - iI (i : Int) / iI 2 * iI 2 = _
  rw [iI_mod ⟨by omega, by omega⟩ (by omega) ⟨by omega, by omega⟩, tmod_pos (by omega), if_pos (by omega)]; congr 1
theorem c_leap {v : vLaw} (hv : lOk v) {y : Int} (hy : -200002 ≤ y ∧ y ≤ 200002) {n : Nat} (hn : 7 ≤ n) : d_isLeap n v (iI y) = some (lLeap v y) := by
  match v, hv with
  | .inl _, _ => rfl
  | .inr (.inl (k, m, s)), hv =>
    obtain ⟨k, hk, rfl⟩ := ex32 k
    obtain ⟨m, hm, rfl⟩ := ex32 m
    obtain ⟨s, hs, rfl⟩ := ex32 s
    simp only [lOk, iI_to hk, iI_to hm, iI_to hs] at hv
    have hb := mul_bd (a := k) (b := y) (A := 1000) (B := 200002) ⟨by omega, by omega⟩ ⟨by omega, by omega⟩
    show k_isLeap_Even (iI k, iI m, iI s) (iI y) = some (evLeap (iI k).toInt (iI m).toInt (iI s).toInt y)
    rw [iI_to hk, iI_to hm, iI_to hs]
    unfold k_isLeap_Even evLeap
    have e2 := Int.emod_nonneg (k * y + s) (show m ≠ 0 by omega)
    have e3 := Int.emod_lt_of_pos (k * y + s) (show 0 < m by omega)
    rw [iI_mul, iI_add, f_modI ⟨by omega, by omega⟩ (by omega) (by omega) hm, Option.bind_some, if_c (iI_le hk ⟨by omega, by omega⟩)]
    by_cases q : (k * y + s) % m < k
    · rw [if_neg (by omega), decide_eq_true q]
    · rw [if_pos (by omega), decide_eq_false q]
  | .inr (.inr (.inl (M, f))), hv =>
    simp only [lOk] at hv
    show zloop (k_isLeap_Ladder_2 n (M, f) (iI y)) n 0 = some (decide (ladC f y M % 2 = 1))
    have h37 : ∀ i : Nat, i ≤ M → k_isLeap_Ladder_37 n (iI (i : Int)) = some (decide (i % 2 = 1)) := fun i hi => by
      unfold k_isLeap_Ladder_37
      rw [par2 i (by omega), if_c (show (iI ((i % 2 : Nat) : Int) = (1 : Int32)) = (i % 2 = 1) by
        show (iI _ = iI 1) = _
        rw [iI_eq ⟨by omega, by omega⟩ ⟨by omega, by omega⟩]; apply propext; omega)]
      by_cases q : i % 2 = 1
      · rw [if_pos q, decide_eq_true q]
      · rw [if_neg q, decide_eq_false q]
    obtain ⟨r, h1, h2⟩ := zloop_inv (f := k_isLeap_Ladder_2 n (M, f) (iI y)) (R := fun s => ∃ i : Nat, i ≤ M ∧ s = iI (i : Int) ∧ ladC f y i = i) (S := fun r => r = decide (ladC f y M % 2 = 1)) (fun s => M - s.toNatClampNeg) (by
      rintro s ⟨i, hi, rfl, hc⟩
      unfold k_isLeap_Ladder_2
      dsimp only
      rw [nI_iI, if_c (iI_le ⟨by omega, by omega⟩ ⟨by omega, by omega⟩), h37 i hi]
      by_cases q : M ≤ i
      · have : i = M := by omega
        subst this
        right
        rw [if_pos (by omega)]
        exact ⟨_, rfl, by rw [hc]⟩
      · obtain ⟨d, hd, hde⟩ := ex32 (f i)
        have hfi := hv.2.1 i (by omega)
        rw [hde, iI_to hd] at hfi
        rw [if_neg (by omega), zck_t (iI_zin (by omega) (by omega) (by omega)), iI_nat (by omega) (by omega), Int.toNat_natCast]
        simp only [hde]
        rw [if_c (show (iI d ≤ (0 : Int32)) = (d ≤ 0) from iI_le hd (b := 0) ⟨by omega, by omega⟩), if_neg (by omega), zck_t (iI_zin (by omega) (by omega) (by omega)), zck_t (by rw [decide_eq_true_eq]; show ¬ iI d = iI 0; rw [iI_eq hd ⟨by omega, by omega⟩]; omega), iI_mod ⟨by omega, by omega⟩ (by omega) hd, if_c (show (iI (y.tmod d) = (0 : Int32)) = (y.tmod d = 0) from iI_eq (b := 0) (by
          have e3 := Int.emod_lt_of_pos y (show 0 < d by omega)
          have e2 := Int.emod_nonneg y (show d ≠ 0 by omega)
          have h := tmod_pos (a := y) (show 0 < d by omega)
          rw [h]; split
          · exact ⟨by omega, by omega⟩
          · split <;> exact ⟨by omega, by omega⟩) ⟨by omega, by omega⟩), if_c (tmod_zero (by omega))]
        by_cases p : y % d = 0
        · left
          rw [if_pos p]
          refine ⟨_, rfl, ⟨i + 1, by omega, by show iI _ + iI 1 = _; rw [iI_add]; congr 1, by rw [ladC, if_pos ⟨hc, by rw [hde, iI_to hd]; exact p⟩]⟩, ?_⟩
          show M - (iI (i : Int) + iI 1).toNatClampNeg < M - i
          rw [iI_add, iI_nat (by omega) (by omega)]; omega
        · right
          rw [if_neg p]
          exact ⟨_, rfl, by rw [ladC_stop hc (by rw [hde, iI_to hd]; exact p) M hi]⟩) n (0 : Int32) ⟨0, by omega, rfl, rfl⟩ (by show M - (iI 0).toNatClampNeg < n; rw [iI_nat (by omega) (by omega)]; omega)
    rw [h1, h2]
  | .inr (.inr (.inr ((L, f), c))), hv =>
    obtain ⟨c, hc, rfl⟩ := ex32 c
    simp only [lOk, iI_to hc] at hv
    show k_isLeap_Row ((L, f), iI c) (iI y) = some (roLeap (iI c).toInt f y)
    rw [iI_to hc]
    unfold k_isLeap_Row roLeap
    dsimp only
    have e2 := Int.emod_nonneg y (show c ≠ 0 by omega)
    have e3 := Int.emod_lt_of_pos y (show 0 < c by omega)
    have hL : (L : Int) = c + 1 := by omega
    rw [if_c (show ((1 : Int32) ≤ iI c) = (1 ≤ c) from iI_le (a := 1) ⟨by omega, by omega⟩ hc), if_pos hv.1.1, f_modI ⟨by omega, by omega⟩ (by omega) (by omega) hc, Option.bind_some]
    rw [show (iI (y % c) + 1 : Int32) = iI (y % c + 1) from iI_add _ 1, zck_t (iI_zin (by omega) (by omega) (by omega)), zck_t (iI_zin (by omega) (by omega) (by omega)), iI_nat (by omega) (by omega), iI_nat (by omega) (by omega), show (y % c + 1).toNat = (y % c).toNat + 1 by omega]
    rw [if_c (propext Int32.le_iff_toInt_le)]
    by_cases q : (f (y % c).toNat).toInt < (f ((y % c).toNat + 1)).toInt
    · rw [if_neg (by omega), decide_eq_true q]
    · rw [if_pos (by omega), decide_eq_false q]
theorem b32_nat {i N : Nat} (h : i ≤ N) (hN : N ≤ 2147483647) : b32 (i : Int) := ⟨by omega, by omega⟩
theorem ladS_bd {f : Nat → Int32} {y : Int} {M : Nat} (h : ∀ i, i < M → 1 ≤ (f i).toInt) (hy : -200002 ≤ y ∧ y ≤ 200002) : ∀ m, m ≤ M → -(200002 * (m : Int)) ≤ ladS f y m ∧ ladS f y m ≤ 200002 * (m : Int)
  | 0, _ => by simp [ladS]
  | m + 1, hm => by
    have ih := ladS_bd h hy m (by omega)
    have hf := h m (by omega)
    generalize (f m).toInt = d at hf
    have h1 : -200002 ≤ (-y) / (f m).toInt ∧ (-y) / (f m).toInt ≤ 200002 := by
      have hf := h m (by omega)
      generalize (f m).toInt = d at hf
      constructor
      · rw [Int.le_ediv_iff_mul_le (by omega)]
        have : -200002 * d ≤ -200002 * 1 := Int.mul_le_mul_of_nonpos_left (by omega) (by omega)
        omega
      · have : (-y) / d < 200003 := by
          rw [Int.ediv_lt_iff_lt_mul (by omega)]
          have : 200003 * 1 ≤ 200003 * d := Int.mul_le_mul_of_nonneg_left (by omega) (by omega)
          omega
        omega
    rw [ladS, show (((m + 1 : Nat)) : Int) = (m : Int) + 1 by omega]
    split <;> omega
theorem c_to {v : vLaw} (hv : lOk v) {y : Int} (hy : -200002 ≤ y ∧ y ≤ 200002) {n : Nat} (hn : 7 ≤ n) : d_leapsBefore n v (iI y) = some (iI (lTo v y)) := by
  match v, hv with
  | .inl _, _ => rfl
  | .inr (.inl (k, m, s)), hv =>
    obtain ⟨k, hk, rfl⟩ := ex32 k
    obtain ⟨m, hm, rfl⟩ := ex32 m
    obtain ⟨s, hs, rfl⟩ := ex32 s
    simp only [lOk, iI_to hk, iI_to hm, iI_to hs] at hv
    have hb := mul_bd (a := k) (b := y - 1) (A := 1000) (B := 200003) ⟨by omega, by omega⟩ ⟨by omega, by omega⟩
    show k_leapsBefore_Even (iI k, iI m, iI s) (iI y) = some (iI (evTo (iI k).toInt (iI m).toInt (iI s).toInt y))
    rw [iI_to hk, iI_to hm, iI_to hs]
    unfold k_leapsBefore_Even evTo
    dsimp only
    rw [show (iI y - 1 : Int32) = iI (y - 1) from iI_sub y 1, iI_mul, iI_add, f_divI ⟨by omega, by omega⟩ (by omega) (by omega) hm, Option.bind_some, iI_sub, f_divI ⟨by omega, by omega⟩ (by omega) (by omega) hm, Option.bind_some, iI_sub]
  | .inr (.inr (.inl (M, f))), hv =>
    simp only [lOk] at hv
    show zloop (k_leapsBefore_Ladder_4 n (M, f) (iI y)) n (0, 0) = some (iI (ladS f y M))
    obtain ⟨r, h1, h2⟩ := zloop_inv (f := k_leapsBefore_Ladder_4 n (M, f) (iI y)) (R := fun s => ∃ i : Nat, i ≤ M ∧ s = (iI (ladS f y i), iI (i : Int))) (S := fun r => r = iI (ladS f y M)) (fun s => M - s.2.toNatClampNeg) (by
      rintro s ⟨i, hi, rfl⟩
      unfold k_leapsBefore_Ladder_4
      dsimp only
      rw [nI_iI, if_c (iI_le ⟨by omega, by omega⟩ ⟨by omega, by omega⟩)]
      by_cases q : M ≤ i
      · have : i = M := by omega
        subst this
        right
        rw [if_pos (by omega)]
        exact ⟨_, rfl, rfl⟩
      · obtain ⟨d, hd, hde⟩ := ex32 (f i)
        have hfi := hv.2.1 i (by omega)
        rw [hde, iI_to hd] at hfi
        left
        rw [if_neg (by omega), zck_t (iI_zin (by omega) (by omega) (by omega)), iI_nat (by omega) (by omega), Int.toNat_natCast]
        simp only [hde]
        rw [if_c (show (iI d ≤ (0 : Int32)) = (d ≤ 0) from iI_le hd (b := 0) ⟨by omega, by omega⟩), if_neg (by omega), zck_t (iI_zin (by omega) (by omega) (by omega)), iI_neg, f_divI ⟨by omega, by omega⟩ (by omega) (by omega) hd, Option.bind_some]
        unfold k_leapsBefore_Ladder_38 k_leapsBefore_Ladder_55
        rw [par2 i (by omega), if_c (show (iI ((i % 2 : Nat) : Int) = (0 : Int32)) = (i % 2 = 0) by
          show (iI _ = iI 0) = _
          rw [iI_eq ⟨by omega, by omega⟩ ⟨by omega, by omega⟩]; apply propext; omega)]
        have hstep : (if i % 2 = 0 then some (Sum.inl (iI (ladS f y i) + -iI (-y / d), iI (i : Int) + 1)) else some (Sum.inl (iI (ladS f y i) + - -iI (-y / d), iI (i : Int) + 1))) = (some (Sum.inl (iI (ladS f y (i + 1)), iI ((i + 1 : Nat) : Int))) : Option ((Int32 × Int32) ⊕ Int32)) := by
          rw [show (iI (i : Int) + 1 : Int32) = iI ((i + 1 : Nat) : Int) from iI_add _ 1, ladS, hde, iI_to hd, iI_neg, iI_neg, iI_add, iI_add]
          by_cases p : i % 2 = 0
          · rw [if_pos p, if_pos p]; congr 5; omega
          · rw [if_neg p, if_neg p]; congr 5; omega
        refine ⟨_, hstep, ⟨i + 1, by omega, rfl⟩, ?_⟩
        dsimp only
        rw [iI_nat (by omega) (by omega)]; omega) n (0, 0) ⟨0, by omega, rfl⟩ (by show M - (iI 0).toNatClampNeg < n; rw [iI_nat (by omega) (by omega)]; omega)
    rw [h1, h2]
  | .inr (.inr (.inr ((L, f), c))), hv =>
    obtain ⟨c, hc, rfl⟩ := ex32 c
    simp only [lOk, iI_to hc] at hv
    show k_leapsBefore_Row ((L, f), iI c) (iI y) = some (iI (roTo (iI c).toInt f y))
    rw [iI_to hc]
    unfold k_leapsBefore_Row roTo
    dsimp only
    have e2 := Int.emod_nonneg y (show c ≠ 0 by omega)
    have e3 := Int.emod_lt_of_pos y (show 0 < c by omega)
    have hL : (L : Int) = c + 1 := by omega
    rw [if_c (show ((1 : Int32) ≤ iI c) = (1 ≤ c) from iI_le (a := 1) ⟨by omega, by omega⟩ hc), if_pos hv.1.1, f_divI ⟨by omega, by omega⟩ (by omega) (by omega) hc, Option.bind_some, zck_t (iI_zin (by omega) (by omega) (by omega)), f_modI ⟨by omega, by omega⟩ (by omega) (by omega) hc, Option.bind_some, zck_t (iI_zin (by omega) (by omega) (by omega)), iI_nat (by omega) (by omega), iI_nat (by omega) (by omega), ← iI_add, ← iI_mul, iI_of, iI_of]
theorem c_cyc {v : vLaw} (hv : lOk v) : d_cycle v = some (iI (lCyc v)) := by
  match v, hv with
  | .inl _, _ => rfl
  | .inr (.inl e), hv => show some e.2.1 = some (iI e.2.1.toInt); rw [iI_of]
  | .inr (.inr (.inl (M, f))), hv =>
    simp only [lOk] at hv
    show k_cycle_Ladder (M, f) = some (iI (f (M - 1)).toInt)
    unfold k_cycle_Ladder
    dsimp only
    rw [nI_iI, if_c (show (iI (M : Int) = (0 : Int32)) = ((M : Int) = 0) from iI_eq (b := 0) ⟨by omega, by omega⟩ ⟨by omega, by omega⟩), if_neg (by omega), show (iI (M : Int) - 1 : Int32) = iI ((M : Int) - 1) from iI_sub _ 1, zck_t (iI_zin (by omega) (by omega) (by omega)), iI_nat (by omega) (by omega), iI_of, show ((M : Int) - 1).toNat = M - 1 by omega]
  | .inr (.inr (.inr r)), hv => show some r.2 = some (iI r.2.toInt); rw [iI_of]
theorem lCyc_bd {v : vLaw} (hv : lOk v) : 1 ≤ lCyc v ∧ lCyc v ≤ 9999 := by
  match v, hv with
  | .inl _, _ => show (1 : Int) ≤ 1 ∧ (1 : Int) ≤ 9999; omega
  | .inr (.inl e), hv => show 1 ≤ e.2.1.toInt ∧ e.2.1.toInt ≤ 9999; have := hv.1; omega
  | .inr (.inr (.inl a)), hv => exact hv.2.1 (a.1 - 1) (by have := hv.1; omega)
  | .inr (.inr (.inr r)), hv => show 1 ≤ r.2.toInt ∧ r.2.toInt ≤ 9999; have := hv.1; omega
