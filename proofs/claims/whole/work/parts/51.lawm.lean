/-! ===== laws, as the reference has them in a bank ===== -/
def LR : vLaw → (Nat → Int32) → Nat → Prop
  | .inl _, w, b => w (b + 3) = 0 ∧ w (b + 8) = 1
  | .inr (.inl e), w, b => w (b + 3) = 1 ∧ w (b + 9) = e.1 ∧ w (b + 10) = e.2.1 ∧ w (b + 11) = e.2.2 ∧ w (b + 8) = e.2.1
  | .inr (.inr (.inl a)), w, b => w (b + 3) = 2 ∧ w (b + 17) = nI a.1 ∧ (∀ i, i < a.1 → w (b + 18 + i) = a.2 i) ∧ w (b + 8) = a.2 (a.1 - 1)
  | .inr (.inr (.inr r)), w, b => w (b + 3) = 3 ∧ w (b + 8) = r.2 ∧ ∀ i, i ≤ r.2.toInt.toNat → w (b + 40 + i) = r.1.2 i
theorem LR_cyc {v : vLaw} (hv : lOk v) {w : Nat → Int32} {b : Nat} (h : LR v w b) : w (b + 8) = iI (lCyc v) := by
  match v, hv, h with
  | .inl _, _, h => exact h.2
  | .inr (.inl e), hv, h => rw [h.2.2.2.2]; show e.2.1 = iI e.2.1.toInt; rw [iI_of]
  | .inr (.inr (.inl a)), hv, h => rw [h.2.2.2]; show _ = iI (a.2 (a.1 - 1)).toInt; rw [iI_of]
  | .inr (.inr (.inr r)), hv, h => rw [h.2.1]; show _ = iI r.2.toInt; rw [iI_of]
theorem m_leap {v : vLaw} (hv : lOk v) {w : Nat → Int32} {b : Nat} (hb : b ≤ 35360) (hw : LR v w b) {y : Int} (hy : -200002 ≤ y ∧ y ≤ 200002) {n : Nat} (hn : 7 ≤ n) : misLeap n w (iI (b : Int)) (iJ y) = some (lLeap v y) := by
  unfold misLeap
  rw [zck_t (watz b 3 (by omega)), wat b 3 (by omega)]
  match v, hv, hw with
  | .inl _, _, hw =>
    simp only [hw.1]
    rfl
  | .inr (.inl (k, m, s)), hv, hw =>
    obtain ⟨k, hk, rfl⟩ := ex32 k
    obtain ⟨m, hm, rfl⟩ := ex32 m
    obtain ⟨s, hs, rfl⟩ := ex32 s
    simp only [lOk, iI_to hk, iI_to hm, iI_to hs] at hv
    simp only [LR] at hw
    obtain ⟨w3, w9, w10, w11, w8⟩ := hw
    have hb2 := mul_bd (a := k) (b := y) (A := 1000) (B := 200002) ⟨by omega, by omega⟩ ⟨by omega, by omega⟩
    show _ = some (evLeap (iI k).toInt (iI m).toInt (iI s).toInt y)
    rw [iI_to hk, iI_to hm, iI_to hs]
    have e2 := Int.emod_nonneg (k * y + s) (show m ≠ 0 by omega)
    have e3 := Int.emod_lt_of_pos (k * y + s) (show 0 < m by omega)
    simp only [w3]
    rw [if_pos trivial, zck_t (watz b 9 (by omega)), zck_t (watz b 11 (by omega)), zck_t (watz b 10 (by omega)), wat b 9 (by omega), wat b 10 (by omega), wat b 11 (by omega), w9, w10, w11, iI_J hk, iI_J hm, iI_J hs, iJ_mul, iJ_add, m_rest ⟨by omega, by omega⟩ (by omega) (by omega) (b32_64 hm), Option.bind_some, zck_t (watz b 9 (by omega)), if_c (iJ_le (b32_64 hk) ⟨by omega, by omega⟩)]
    unfold evLeap
    by_cases q : (k * y + s) % m < k
    · rw [if_neg (by omega), decide_eq_true q]
    · rw [if_pos (by omega), decide_eq_false q]
  | .inr (.inr (.inl (M, f))), hv, hw =>
    simp only [lOk] at hv
    simp only [LR] at hw
    obtain ⟨w3, w17, w18, w8⟩ := hw
    simp only [w3]
    rw [if_neg (by decide), if_pos trivial]
    show _ = some (decide (ladC f y M % 2 = 1))
    have h37 : ∀ i : Nat, i ≤ M → misLeap_135 n w (iI (i : Int)) = some (decide (i % 2 = 1)) := fun i hi => by
      unfold misLeap_135
      rw [par2 i (by omega), if_c (show (iI ((i % 2 : Nat) : Int) = (1 : Int32)) = (i % 2 = 1) by
        show (iI _ = iI 1) = _
        rw [iI_eq ⟨by omega, by omega⟩ ⟨by omega, by omega⟩]; apply propext; omega)]
      by_cases q : i % 2 = 1
      · rw [if_pos q, decide_eq_true q]
      · rw [if_neg q, decide_eq_false q]
    obtain ⟨r, h1, h2⟩ := zloop_inv (f := misLeap_95 n w (iI (b : Int)) (iJ y)) (R := fun s => ∃ i : Nat, i ≤ M ∧ s = iI (i : Int) ∧ ladC f y i = i) (S := fun r => r = decide (ladC f y M % 2 = 1)) (fun s => M - s.toNatClampNeg) (by
      rintro s ⟨i, hi, rfl, hc⟩
      unfold misLeap_95
      rw [zck_t (watz b 17 (by omega)), wat b 17 (by omega), w17, nI_iI, if_c (iI_le ⟨by omega, by omega⟩ ⟨by omega, by omega⟩), h37 i hi]
      by_cases q : M ≤ i
      · have : i = M := by omega
        subst this
        right
        rw [if_pos (by omega)]
        exact ⟨_, rfl, by rw [hc]⟩
      · obtain ⟨d, hd, hde⟩ := ex32 (f i)
        have hfi := hv.2.1 i (by omega)
        rw [hde, iI_to hd] at hfi
        rw [if_neg (by omega), zck_t (wat2z b 18 i (by omega) (by omega)), wat2 b 18 i (by omega) (by omega), Int.toNat_natCast, w18 i (by omega)]
        simp only [hde, iI_J hd]
        rw [zck_t (by rw [decide_eq_true_eq]; show ¬ iJ d = iJ 0; rw [iJ_eq (b32_64 hd) ⟨by omega, by omega⟩]; omega), iJ_mod ⟨by omega, by omega⟩ (by omega) (b32_64 hd), if_c (show (iJ (y.tmod d) = (0 : Int64)) = (y.tmod d = 0) from iJ_eq (b := 0) (by
          have e3 := Int.emod_lt_of_pos y (show 0 < d by omega)
          have e2 := Int.emod_nonneg y (show d ≠ 0 by omega)
          have h := tmod_pos (a := y) (show 0 < d by omega)
          rw [h]; split
          · exact ⟨by omega, by omega⟩
          · split <;> exact ⟨by omega, by omega⟩) ⟨by omega, by omega⟩), if_c (tmod_zero (by omega))]
        by_cases p : y % d = 0
        · left
          rw [if_pos p]
          refine ⟨_, rfl, ⟨i + 1, by omega, by show iI _ + iI 1 = _; rw [iI_add]; congr 1, by rw [ladC, if_pos ⟨hc, by rw [hde, iI_to hd]; exact p⟩]⟩, ?_⟩
          show M - (iI (i : Int) + iI 1).toNatClampNeg < M - (iI (i : Int)).toNatClampNeg
          rw [iI_add, iI_nat (by omega) (by omega), iI_nat (by omega) (by omega)]; omega
        · right
          rw [if_neg p]
          exact ⟨_, rfl, by rw [ladC_stop hc (by rw [hde, iI_to hd]; exact p) M hi]⟩) n (0 : Int32) ⟨0, by omega, rfl, rfl⟩ (by show M - (iI 0).toNatClampNeg < n; rw [iI_nat (by omega) (by omega)]; omega)
    rw [h1, h2]
  | .inr (.inr (.inr ((L, f), c))), hv, hw =>
    obtain ⟨c, hc, rfl⟩ := ex32 c
    simp only [lOk, iI_to hc] at hv
    simp only [LR, iI_to hc] at hw
    obtain ⟨w3, w8, w40⟩ := hw
    show _ = some (roLeap (iI c).toInt f y)
    rw [iI_to hc]
    simp only [w3]
    have e2 := Int.emod_nonneg y (show c ≠ 0 by omega)
    have e3 := Int.emod_lt_of_pos y (show 0 < c by omega)
    rw [if_neg (by decide), if_neg (by decide), if_pos trivial, zck_t (watz b 8 (by omega)), wat b 8 (by omega), w8, iI_J hc, m_rest ⟨by omega, by omega⟩ (by omega) (by omega) (b32_64 hc), Option.bind_some, iJ_I]
    have ea : (iI (b : Int) + 40 + iI (y % c) + 1 : Int32) = iI (b : Int) + 40 + iI (y % c + 1) := by rw [← iI_add (y % c) 1, Int32.add_assoc]; rfl
    rw [ea, zck_t (wat2z b 40 _ (by omega) (by omega)), zck_t (wat2z b 40 _ (by omega) (by omega)), wat2 b 40 _ (by omega) (by omega), wat2 b 40 _ (by omega) (by omega), show (y % c + 1).toNat = (y % c).toNat + 1 by omega, w40 _ (by omega), w40 _ (by omega), if_c (propext Int32.le_iff_toInt_le)]
    unfold roLeap
    by_cases q : (f (y % c).toNat).toInt < (f ((y % c).toNat + 1)).toInt
    · rw [if_neg (by omega), decide_eq_true q]
    · rw [if_pos (by omega), decide_eq_false q]
theorem ro_bd {r : vRow} (hv : lOk (.inr (.inr (.inr r)))) : ∀ i, i ≤ r.2.toInt.toNat → 0 ≤ (r.1.2 i).toInt ∧ (r.1.2 i).toInt ≤ i := by
  intro i
  induction i with
  | zero => intro _; rw [hv.2.2.1]; decide
  | succ i ih => intro hi; have := ih (by omega); have := hv.2.2.2 i (by omega); omega
theorem m_to {v : vLaw} (hv : lOk v) {w : Nat → Int32} {b : Nat} (hb : b ≤ 35360) (hw : LR v w b) {y : Int} (hy : -200002 ≤ y ∧ y ≤ 200002) {n : Nat} (hn : 7 ≤ n) : mleapsTo n w (iI (b : Int)) (iJ y) = some (iJ (lTo v y)) := by
  unfold mleapsTo
  rw [zck_t (watz b 3 (by omega)), wat b 3 (by omega)]
  match v, hv, hw with
  | .inl _, _, hw =>
    simp only [hw.1]
    rfl
  | .inr (.inl (k, m, s)), hv, hw =>
    obtain ⟨k, hk, rfl⟩ := ex32 k
    obtain ⟨m, hm, rfl⟩ := ex32 m
    obtain ⟨s, hs, rfl⟩ := ex32 s
    simp only [lOk, iI_to hk, iI_to hm, iI_to hs] at hv
    simp only [LR] at hw
    obtain ⟨w3, w9, w10, w11, w8⟩ := hw
    have hb2 := mul_bd (a := k) (b := y - 1) (A := 1000) (B := 200003) ⟨by omega, by omega⟩ ⟨by omega, by omega⟩
    show _ = some (iJ (evTo (iI k).toInt (iI m).toInt (iI s).toInt y))
    rw [iI_to hk, iI_to hm, iI_to hs]
    simp only [w3]
    rw [if_pos trivial, zck_t (watz b 9 (by omega)), zck_t (watz b 11 (by omega)), zck_t (watz b 10 (by omega)), wat b 9 (by omega), wat b 10 (by omega), wat b 11 (by omega), w9, w10, w11, iI_J hk, iI_J hm, iI_J hs, show (iJ y - 1 : Int64) = iJ (y - 1) from iJ_sub y 1, iJ_mul, iJ_add, m_floor ⟨by omega, by omega⟩ (by omega) (by omega) (b32_64 hm), Option.bind_some, zck_t (watz b 11 (by omega)), zck_t (watz b 9 (by omega)), zck_t (watz b 10 (by omega)), iI_sub, iI_J ⟨by omega, by omega⟩, m_floor ⟨by omega, by omega⟩ (by omega) (by omega) (b32_64 hm), Option.bind_some, iJ_sub]
    rfl
  | .inr (.inr (.inl (M, f))), hv, hw =>
    simp only [lOk] at hv
    simp only [LR] at hw
    obtain ⟨w3, w17, w18, w8⟩ := hw
    simp only [w3]
    rw [if_neg (by decide), if_pos trivial]
    show _ = some (iJ (ladS f y M))
    obtain ⟨r, h1, h2⟩ := zloop_inv (f := mleapsTo_115 n w (iI (b : Int)) (iJ y)) (R := fun s => ∃ i : Nat, i ≤ M ∧ s = (iJ (ladS f y i), iI (i : Int))) (S := fun r => r = iJ (ladS f y M)) (fun s => M - s.2.toNatClampNeg) (by
      rintro s ⟨i, hi, rfl⟩
      unfold mleapsTo_115
      dsimp only
      rw [zck_t (watz b 17 (by omega)), wat b 17 (by omega), w17, nI_iI, if_c (iI_le ⟨by omega, by omega⟩ ⟨by omega, by omega⟩)]
      by_cases q : M ≤ i
      · have : i = M := by omega
        subst this
        right
        rw [if_pos (by omega)]
        exact ⟨_, rfl, rfl⟩
      · obtain ⟨d, hd, hde⟩ := ex32 (f i)
        have hfi := hv.2.1 i (by omega)
        rw [hde, iI_to hd] at hfi
        left
        have hc := ceil_succ (show 1 ≤ d by omega) (y - 1)
        rw [show y - 1 + 1 = y by omega] at hc
        have hfl : (y - 1) / d + 1 = -((-y) / d) := by
          have h1 := Int.mul_ediv_add_emod (y - 1) d
          have h2 := Int.emod_nonneg (y - 1) (show d ≠ 0 by omega)
          have h3 := Int.emod_lt_of_pos (y - 1) (show 0 < d by omega)
          have : (-y) / d = -((y - 1) / d) - 1 := by
            rw [Int.ediv_eq_iff_of_pos (by omega)]
            have : (-((y - 1) / d) - 1) * d = -(d * ((y - 1) / d)) - d := by rw [Int.sub_mul, Int.neg_mul, Int.mul_comm]; omega
            have : (-((y - 1) / d) - 1 + 1) * d = -(d * ((y - 1) / d)) := by rw [show -((y - 1) / d) - 1 + 1 = -((y - 1) / d) by omega, Int.neg_mul, Int.mul_comm]
            omega
          omega
        rw [if_neg (by omega), par2 i (by omega), if_c (show (iI ((i % 2 : Nat) : Int) = (0 : Int32)) = (i % 2 = 0) by
          show (iI _ = iI 0) = _
          rw [iI_eq ⟨by omega, by omega⟩ ⟨by omega, by omega⟩]; apply propext; omega)]
        have h145 : ∀ t : Int, mleapsTo_145 n w (iI (b : Int)) (iJ y) (iI (i : Int)) (iJ (ladS f y i)) (iJ t) = some (.inl (iJ (ladS f y i + t * (-((-y) / d))), iI ((i + 1 : Nat) : Int))) := fun t => by
          unfold mleapsTo_145
          rw [zck_t (wat2z b 18 i (by omega) (by omega)), wat2 b 18 i (by omega) (by omega), Int.toNat_natCast, w18 i (by omega), hde, iI_J hd, show (iJ y - 1 : Int64) = iJ (y - 1) from iJ_sub y 1, m_floor ⟨by omega, by omega⟩ (by omega) (by omega) (b32_64 hd), Option.bind_some, show (iJ ((y - 1) / d) + 1 : Int64) = iJ ((y - 1) / d + 1) from iJ_add _ 1, hfl, iJ_mul, iJ_add]
          congr 3
          exact iI_add _ 1
        have hstep : (if i % 2 = 0 then mleapsTo_145 n w (iI (b : Int)) (iJ y) (iI (i : Int)) (iJ (ladS f y i)) 1 else mleapsTo_145 n w (iI (b : Int)) (iJ y) (iI (i : Int)) (iJ (ladS f y i)) (-1)) = (some (Sum.inl (iJ (ladS f y (i + 1)), iI ((i + 1 : Nat) : Int))) : Option ((Int64 × Int32) ⊕ Int64)) := by
          rw [ladS, hde, iI_to hd]
          by_cases p : i % 2 = 0
          · rw [if_pos p, if_pos p, show (1 : Int64) = iJ 1 by decide +kernel]; exact h145 1
          · rw [if_neg p, if_neg p, show (-1 : Int64) = iJ (-1) by decide +kernel]; exact h145 (-1)
        refine ⟨_, hstep, ⟨i + 1, by omega, rfl⟩, ?_⟩
        dsimp only
        rw [iI_nat (by omega) (by omega), iI_nat (by omega) (by omega)]; omega) n (0, 0) ⟨0, by omega, rfl⟩ (by show M - (iI 0).toNatClampNeg < n; rw [iI_nat (by omega) (by omega)]; omega)
    rw [h1, h2]
  | .inr (.inr (.inr ((L, f), c))), hv, hw =>
    have hro := ro_bd hv
    obtain ⟨c, hc, rfl⟩ := ex32 c
    simp only [lOk, iI_to hc] at hv
    simp only [LR, iI_to hc] at hw hro
    obtain ⟨w3, w8, w40⟩ := hw
    show _ = some (iJ (roTo (iI c).toInt f y))
    rw [iI_to hc]
    simp only [w3]
    have e2 := Int.emod_nonneg y (show c ≠ 0 by omega)
    have e3 := Int.emod_lt_of_pos y (show 0 < c by omega)
    have key : ∀ x : Int32, x.toInt64 = iJ x.toInt := fun x => by rw [← iI_J (i_b32 x), iI_of]
    rw [if_neg (by decide), if_neg (by decide), if_pos trivial, zck_t (watz b 8 (by omega)), wat b 8 (by omega), w8, iI_J hc, m_floor ⟨by omega, by omega⟩ (by omega) (by omega) (b32_64 hc), Option.bind_some, zck_t (wat2z b 40 _ (by omega) (by omega)), m_rest ⟨by omega, by omega⟩ (by omega) (by omega) (b32_64 hc), Option.bind_some, iJ_I, zck_t (wat2z b 40 _ (by omega) (by omega)), wat2 b 40 _ (by omega) (by omega), wat2 b 40 _ (by omega) (by omega), w40 _ (by omega), w40 _ (by omega), key, key, iJ_mul, iJ_add]
    rfl
