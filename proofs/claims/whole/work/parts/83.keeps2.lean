/-! ===== calls: keeps, the walk ===== -/
def isFarS (S : Int → Int) (N Bg j W : Int) : Prop := (∀ y : Int, 0 ≤ y → y < N → ((S (j + y) - S j - Bg).natAbs : Int) ≤ W) ∧ ∃ y : Int, 0 ≤ y ∧ y < N ∧ ((S (j + y) - S j - Bg).natAbs : Int) = W
theorem far_of {S : Int → Int} {N Bg j M m : Int} (hM : ∀ y : Int, 0 ≤ y → y < N → S (j + y) ≤ M) (hMa : ∃ y : Int, 0 ≤ y ∧ y < N ∧ S (j + y) = M) (hm : ∀ y : Int, 0 ≤ y → y < N → m ≤ S (j + y)) (hma : ∃ y : Int, 0 ≤ y ∧ y < N ∧ S (j + y) = m) : isFarS S N Bg j (if ((M - S j - Bg).natAbs : Int) < ((m - S j - Bg).natAbs : Int) then ((m - S j - Bg).natAbs : Int) else ((M - S j - Bg).natAbs : Int)) := by
  constructor
  · intro y y0 y1
    have a1 := hM y y0 y1
    have a2 := hm y y0 y1
    by_cases q : ((M - S j - Bg).natAbs : Int) < ((m - S j - Bg).natAbs : Int)
    · rw [if_pos q]; omega
    · rw [if_neg q]; omega
  · by_cases q : ((M - S j - Bg).natAbs : Int) < ((m - S j - Bg).natAbs : Int)
    · rw [if_pos q]
      obtain ⟨y, y0, y1, y2⟩ := hma
      exact ⟨y, y0, y1, by rw [y2]⟩
    · rw [if_neg q]
      obtain ⟨y, y0, y1, y2⟩ := hMa
      exact ⟨y, y0, y1, by rw [y2]⟩
theorem isFarS_u {S : Int → Int} {N Bg j v v' : Int} (h : isFarS S N Bg j v) (h' : isFarS S N Bg j v') : v = v' := by
  obtain ⟨y, y0, y1, y2⟩ := h.2
  obtain ⟨z, z0, z1, z2⟩ := h'.2
  have := h.1 z z0 z1
  have := h'.1 y y0 y1
  omega
theorem c_keepLoop {d : vDes} (hd : vOk d) {N k st : Int} (hN : 1 ≤ N ∧ N ≤ 1000) (hk : 0 ≤ k ∧ k ≤ 1000) (hst : 1 ≤ st ∧ st ≤ N) {h l : Nat → Int64} (hhl : ∀ j : Nat, (j : Int) < N → h j = iJ (hvf (fun y => tG d.2.2 * slp d y) N j) ∧ l j = iJ (lvf (fun y => tG d.2.2 * slp d y) N j)) {n : Nat} (hn : 250000 ≤ n) : ∃ kp le j0 : Int, zloop (w_keepingShift_62 n (some h) (some l) d (iI k) (iI N) (iI st) (iJ (tG d.2.2 * tB d.2.2))) n (iJ (tG d.2.2 * slp d (N - 1)), iJ (tG d.2.2 * slp d (N - 1)), 4611686018427387904, 0, iI (N - 1)) = some (iI kp, some h, some l) ∧ ((0 ≤ j0 ∧ j0 < st) ∧ kp = k * j0 % N ∧ isFarS (fun y => tG d.2.2 * slp d y) N (tG d.2.2 * tB d.2.2) j0 le) ∧ ∀ j : Int, 0 ≤ j → j < st → ∀ W, isFarS (fun y => tG d.2.2 * slp d y) N (tG d.2.2 * tB d.2.2) j W → le < W ∨ (le = W ∧ kp ≤ k * j % N) := by
  have hS : ∀ y, 0 ≤ y → y ≤ 2000 → -420000000000000000 ≤ tG d.2.2 * slp d y ∧ tG d.2.2 * slp d y ≤ 420000000000000000 := fun y y0 y1 => gslp_bd hd ⟨by omega, by omega⟩
  have hsl : ∀ y : Int, 0 ≤ y → y ≤ 2000 → k_slipUnits n d (iI y) = some (iJ (tG d.2.2 * slp d y)) := fun y y0 y1 => c_slip hd ⟨by omega, by omega⟩ (by omega)
  obtain ⟨_, _, hBg⟩ := gL_bd hd
  generalize hSe : (fun y => tG d.2.2 * slp d y) = S at *
  have hSx : ∀ y, tG d.2.2 * slp d y = S y := fun y => by rw [← hSe]
  simp only [hSx] at hS hsl ⊢
  generalize tG d.2.2 * tB d.2.2 = Bg at *
  obtain ⟨r, e1, kp, le, j0, e2, e3, e4⟩ := zloop_inv (f := w_keepingShift_62 n (some h) (some l) d (iI k) (iI N) (iI st) (iJ Bg)) (R := fun s => ∃ j hi lo le kp : Int, (-1 ≤ j ∧ j ≤ N - 1) ∧ s = (iJ hi, iJ lo, iJ le, iI kp, iI j) ∧ ((∀ y, j < y → 0 ≤ y → y < N → S y ≤ hi) ∧ ∃ y, (j < y ∨ y = N - 1) ∧ 0 ≤ y ∧ y < N ∧ S y = hi) ∧ ((∀ y, j < y → 0 ≤ y → y < N → lo ≤ S y) ∧ ∃ y, (j < y ∨ y = N - 1) ∧ 0 ≤ y ∧ y < N ∧ S y = lo) ∧ ((0 ≤ kp ∧ kp ≤ 1000) ∧ 0 ≤ le ∧ le ≤ 4611686018427387904) ∧ ((st - 1 ≤ j ∧ le = 4611686018427387904) ∨ ((∃ j' : Int, j < j' ∧ (0 ≤ j' ∧ j' < st) ∧ kp = k * j' % N ∧ isFarS S N Bg j' le) ∧ ∀ j' : Int, j < j' → 0 ≤ j' → j' < st → ∀ W, isFarS S N Bg j' W → le < W ∨ (le = W ∧ kp ≤ k * j' % N)))) (S := fun r => ∃ kp le j0 : Int, r = (iI kp, some h, some l) ∧ ((0 ≤ j0 ∧ j0 < st) ∧ kp = k * j0 % N ∧ isFarS S N Bg j0 le) ∧ ∀ j : Int, 0 ≤ j → j < st → ∀ W, isFarS S N Bg j W → le < W ∨ (le = W ∧ kp ≤ k * j % N)) (fun s => (s.2.2.2.2.toInt + 1).toNat) (by
    rintro s ⟨j, hi, lo, le, kp, hj, rfl, ⟨hi1, hi2⟩, ⟨lo1, lo2⟩, ⟨hkp, hle⟩, hph⟩
    have bhi : -420000000000000000 ≤ hi ∧ hi ≤ 420000000000000000 := by
      obtain ⟨y, _, y0, y1, y2⟩ := hi2
      have := hS y y0 (by omega); omega
    have blo : -420000000000000000 ≤ lo ∧ lo ≤ 420000000000000000 := by
      obtain ⟨y, _, y0, y1, y2⟩ := lo2
      have := hS y y0 (by omega); omega
    unfold w_keepingShift_62
    dsimp only
    rw [if_c (show (iI j < (0 : Int32)) = (j < 0) from iI_lt (b := 0) ⟨by omega, by omega⟩ ⟨by omega, by omega⟩)]
    by_cases p : j < 0
    · right
      rw [if_pos p]
      rcases hph with ⟨z, _⟩ | ⟨⟨j', a1, a2, a3, a4⟩, a5⟩
      · omega
      · exact ⟨_, rfl, kp, le, j', rfl, ⟨a2, a3, a4⟩, fun i i0 i1 W hW => a5 i (by omega) i0 i1 W hW⟩
    · left
      have bS := hS j (by omega) (by omega)
      rw [if_neg p, hsl j (by omega) (by omega), Option.bind_some, c_maxL ⟨by omega, by omega⟩ ⟨by omega, by omega⟩, Option.bind_some, c_minL ⟨by omega, by omega⟩ ⟨by omega, by omega⟩, Option.bind_some, if_c (iI_le ⟨by omega, by omega⟩ ⟨by omega, by omega⟩)]
      have ghi1 : ∀ y, j - 1 < y → 0 ≤ y → y < N → S y ≤ (if hi < S j then S j else hi) := fun y y0 y1 y2 => by
        by_cases t : y = j
        · rw [t]; split <;> omega
        · have := hi1 y (by omega) y1 y2; split <;> omega
      have ghi2 : ∃ y, j ≤ y ∧ y < N ∧ S y = (if hi < S j then S j else hi) := by
        by_cases t : hi < S j
        · rw [if_pos t]; exact ⟨j, by omega, by omega, rfl⟩
        · rw [if_neg t]; obtain ⟨y, y0, y1, y2, y3⟩ := hi2; exact ⟨y, by omega, y2, y3⟩
      have glo1 : ∀ y, j - 1 < y → 0 ≤ y → y < N → (if S j < lo then S j else lo) ≤ S y := fun y y0 y1 y2 => by
        by_cases t : y = j
        · rw [t]; split <;> omega
        · have := lo1 y (by omega) y1 y2; split <;> omega
      have glo2 : ∃ y, j ≤ y ∧ y < N ∧ S y = (if S j < lo then S j else lo) := by
        by_cases t : S j < lo
        · rw [if_pos t]; exact ⟨j, by omega, by omega, rfl⟩
        · rw [if_neg t]; obtain ⟨y, y0, y1, y2, y3⟩ := lo2; exact ⟨y, by omega, y2, y3⟩
      generalize (if hi < S j then S j else hi) = hi' at *
      generalize (if S j < lo then S j else lo) = lo' at *
      have bhi' : -420000000000000000 ≤ hi' ∧ hi' ≤ 420000000000000000 := by
        obtain ⟨y, y0, y1, y2⟩ := ghi2
        have := hS y (by omega) (by omega); omega
      have blo' : -420000000000000000 ≤ lo' ∧ lo' ≤ 420000000000000000 := by
        obtain ⟨y, y0, y1, y2⟩ := glo2
        have := hS y (by omega) (by omega); omega
      have hμ : ((iI (j + -1)).toInt + 1).toNat < ((iI j).toInt + 1).toNat := by rw [iI_to ⟨by omega, by omega⟩, iI_to ⟨by omega, by omega⟩]; omega
      have hnx : (iI j + -1 : Int32) = iI (j + -1) := by rw [show (-1 : Int32) = iI (-1) by decide +kernel, iI_add]
      have Rhi : (∀ y, j + -1 < y → 0 ≤ y → y < N → S y ≤ hi') ∧ ∃ y, (j + -1 < y ∨ y = N - 1) ∧ 0 ≤ y ∧ y < N ∧ S y = hi' :=
        ⟨fun y y0 y1 y2 => ghi1 y (by omega) y1 y2, by obtain ⟨y, y0, y1, y2⟩ := ghi2; exact ⟨y, Or.inl (by omega), by omega, y1, y2⟩⟩
      have Rlo : (∀ y, j + -1 < y → 0 ≤ y → y < N → lo' ≤ S y) ∧ ∃ y, (j + -1 < y ∨ y = N - 1) ∧ 0 ≤ y ∧ y < N ∧ S y = lo' :=
        ⟨fun y y0 y1 y2 => glo1 y (by omega) y1 y2, by obtain ⟨y, y0, y1, y2⟩ := glo2; exact ⟨y, Or.inl (by omega), by omega, y1, y2⟩⟩
      by_cases p2 : st ≤ j
      · rw [if_pos p2]
        unfold w_keepingShift_194
        rw [hnx]
        refine ⟨_, rfl, ⟨j + -1, hi', lo', le, kp, ⟨by omega, by omega⟩, rfl, Rhi, Rlo, ⟨hkp, hle⟩, ?_⟩, hμ⟩
        rcases hph with ⟨z, z2⟩ | ⟨⟨j', a1, a2, a3, a4⟩, a5⟩
        · exact Or.inl ⟨by omega, z2⟩
        · omega
      · obtain ⟨jn, hjn⟩ : ∃ jn : Nat, j = jn := ⟨j.toNat, by omega⟩
        obtain ⟨q1, q2, q3⟩ := hvf_p (N := N) (fun y y0 y1 => hS y (by omega) y1) jn (by omega)
        obtain ⟨r1, r2, r3⟩ := lvf_p (N := N) (fun y y0 y1 => hS y (by omega) y1) jn (by omega)
        obtain ⟨hh, hl⟩ := hhl jn (by omega)
        have hkj : 0 ≤ k * j ∧ k * j ≤ 1000 * 1000 := ⟨Int.mul_nonneg (by omega) (by omega), Int.mul_le_mul (by omega) (by omega) (by omega) (by omega)⟩
        have hsh : (iI k * iI j) - (iI k * iI j) / iI N * iI N = iI (k * j % N) := by
          rw [iI_mul, iI_mod ⟨by omega, by omega⟩ (by omega) ⟨by omega, by omega⟩, tmod_pos (by omega), if_pos hkj.1]
        have hs0 := Int.emod_nonneg (k * j) (show N ≠ 0 by omega)
        have hs1 := Int.emod_lt_of_pos (k * j) (show 0 < N by omega)
        have hnz : decide (¬ iI N = 0) = true := by rw [decide_eq_true_eq]; show ¬ iI N = iI 0; rw [iI_eq ⟨by omega, by omega⟩ ⟨by omega, by omega⟩]; omega
        have hnat : (iI j).toNatClampNeg = jn := by rw [iI_nat (by omega) (by omega)]; omega
        rw [if_neg p2, zO_s, zck_t (iI_zin (by omega) (by omega) (by omega)), hnat, hh, c_maxL ⟨by omega, by omega⟩ ⟨by omega, by omega⟩, Option.bind_some, zO_s, zck_t (iI_zin (by omega) (by omega) (by omega)), hl, c_minL ⟨by omega, by omega⟩ ⟨by omega, by omega⟩, Option.bind_some]
        have hM1 : ∀ y : Int, 0 ≤ y → y < N → S (j + y) ≤ (if hi' < hvf S N jn then hvf S N jn else hi') := fun y y0 y1 => by
          by_cases t : j + y < N
          · have := ghi1 (j + y) (by omega) (by omega) t; split <;> omega
          · have := q2 (j + y) (by omega) (by omega); split <;> omega
        have hM2 : ∃ y : Int, 0 ≤ y ∧ y < N ∧ S (j + y) = (if hi' < hvf S N jn then hvf S N jn else hi') := by
          by_cases t : hi' < hvf S N jn
          · rw [if_pos t]
            rcases q3 with q3 | ⟨y, y0, y1, y2⟩
            · omega
            · exact ⟨y - j, by omega, by omega, by rw [← y2]; congr 1; omega⟩
          · rw [if_neg t]
            obtain ⟨y, y0, y1, y2⟩ := ghi2
            exact ⟨y - j, by omega, by omega, by rw [← y2]; congr 1; omega⟩
        have hm1 : ∀ y : Int, 0 ≤ y → y < N → (if lvf S N jn < lo' then lvf S N jn else lo') ≤ S (j + y) := fun y y0 y1 => by
          by_cases t : j + y < N
          · have := glo1 (j + y) (by omega) (by omega) t; split <;> omega
          · have := r2 (j + y) (by omega) (by omega); split <;> omega
        have hm2 : ∃ y : Int, 0 ≤ y ∧ y < N ∧ S (j + y) = (if lvf S N jn < lo' then lvf S N jn else lo') := by
          by_cases t : lvf S N jn < lo'
          · rw [if_pos t]
            rcases r3 with r3 | ⟨y, y0, y1, y2⟩
            · omega
            · exact ⟨y - j, by omega, by omega, by rw [← y2]; congr 1; omega⟩
          · rw [if_neg t]
            obtain ⟨y, y0, y1, y2⟩ := glo2
            exact ⟨y - j, by omega, by omega, by rw [← y2]; congr 1; omega⟩
        have hfar := far_of (Bg := Bg) hM1 hM2 hm1 hm2
        have bM : -420000000000000000 ≤ (if hi' < hvf S N jn then hvf S N jn else hi') ∧ (if hi' < hvf S N jn then hvf S N jn else hi') ≤ 420000000000000000 := by split <;> omega
        have bm : -420000000000000000 ≤ (if lvf S N jn < lo' then lvf S N jn else lo') ∧ (if lvf S N jn < lo' then lvf S N jn else lo') ≤ 420000000000000000 := by split <;> omega
        generalize (if hi' < hvf S N jn then hvf S N jn else hi') = M at *
        generalize (if lvf S N jn < lo' then lvf S N jn else lo') = m at *
        rw [iJ_sub, iJ_sub, c_abs ⟨by omega, by omega⟩, Option.bind_some, iJ_sub, iJ_sub, c_abs ⟨by omega, by omega⟩, Option.bind_some, c_maxL ⟨by omega, by omega⟩ ⟨by omega, by omega⟩, Option.bind_some, zck_t hnz, hsh]
        have bW : 0 ≤ (if ((M - S j - Bg).natAbs : Int) < ((m - S j - Bg).natAbs : Int) then ((m - S j - Bg).natAbs : Int) else ((M - S j - Bg).natAbs : Int)) ∧ (if ((M - S j - Bg).natAbs : Int) < ((m - S j - Bg).natAbs : Int) then ((m - S j - Bg).natAbs : Int) else ((M - S j - Bg).natAbs : Int)) ≤ 900000000000000000 := by split <;> omega
        generalize (if ((M - S j - Bg).natAbs : Int) < ((m - S j - Bg).natAbs : Int) then ((m - S j - Bg).natAbs : Int) else ((M - S j - Bg).natAbs : Int)) = W at *
        rw [if_c (iJ_lt ⟨by omega, by omega⟩ ⟨by omega, by omega⟩), if_c (iJ_eq ⟨by omega, by omega⟩ ⟨by omega, by omega⟩), if_c (iI_le ⟨by omega, by omega⟩ ⟨by omega, by omega⟩)]
        unfold w_keepingShift_186 w_keepingShift_194
        rw [hnx]
        have take : (W < le ∨ (W = le ∧ k * j % N < kp)) → ∃ s', (some (.inl (iJ hi', iJ lo', iJ W, iI (k * j % N), iI (j + -1))) : Option ((Int64 × Int64 × Int64 × Int32 × Int32) ⊕ (Int32 × (Option (Nat → Int64)) × (Option (Nat → Int64))))) = some (.inl s') ∧ (∃ j hi lo le kp : Int, (-1 ≤ j ∧ j ≤ N - 1) ∧ s' = (iJ hi, iJ lo, iJ le, iI kp, iI j) ∧ ((∀ y, j < y → 0 ≤ y → y < N → S y ≤ hi) ∧ ∃ y, (j < y ∨ y = N - 1) ∧ 0 ≤ y ∧ y < N ∧ S y = hi) ∧ ((∀ y, j < y → 0 ≤ y → y < N → lo ≤ S y) ∧ ∃ y, (j < y ∨ y = N - 1) ∧ 0 ≤ y ∧ y < N ∧ S y = lo) ∧ ((0 ≤ kp ∧ kp ≤ 1000) ∧ 0 ≤ le ∧ le ≤ 4611686018427387904) ∧ ((st - 1 ≤ j ∧ le = 4611686018427387904) ∨ ((∃ j' : Int, j < j' ∧ (0 ≤ j' ∧ j' < st) ∧ kp = k * j' % N ∧ isFarS S N Bg j' le) ∧ ∀ j' : Int, j < j' → 0 ≤ j' → j' < st → ∀ W, isFarS S N Bg j' W → le < W ∨ (le = W ∧ kp ≤ k * j' % N)))) ∧ (s'.2.2.2.2.toInt + 1).toNat < ((iI j).toInt + 1).toNat := fun hlt => by
          refine ⟨_, rfl, ⟨j + -1, hi', lo', W, k * j % N, ⟨by omega, by omega⟩, rfl, Rhi, Rlo, ⟨⟨by omega, by omega⟩, by omega, by omega⟩, Or.inr ⟨⟨j, by omega, ⟨by omega, by omega⟩, rfl, hfar⟩, fun j' a0 a1 a2 V hV => ?_⟩⟩, hμ⟩
          by_cases t : j' = j
          · subst t
            have := isFarS_u hfar hV
            exact Or.inr ⟨this, Int.le_refl _⟩
          · rcases hph with ⟨z, z2⟩ | ⟨_, a5⟩
            · omega
            · have := a5 j' (by omega) a1 a2 V hV; omega
        have skip : ¬ (W < le ∨ (W = le ∧ k * j % N < kp)) → ∃ s', (some (.inl (iJ hi', iJ lo', iJ le, iI kp, iI (j + -1))) : Option ((Int64 × Int64 × Int64 × Int32 × Int32) ⊕ (Int32 × (Option (Nat → Int64)) × (Option (Nat → Int64))))) = some (.inl s') ∧ (∃ j hi lo le kp : Int, (-1 ≤ j ∧ j ≤ N - 1) ∧ s' = (iJ hi, iJ lo, iJ le, iI kp, iI j) ∧ ((∀ y, j < y → 0 ≤ y → y < N → S y ≤ hi) ∧ ∃ y, (j < y ∨ y = N - 1) ∧ 0 ≤ y ∧ y < N ∧ S y = hi) ∧ ((∀ y, j < y → 0 ≤ y → y < N → lo ≤ S y) ∧ ∃ y, (j < y ∨ y = N - 1) ∧ 0 ≤ y ∧ y < N ∧ S y = lo) ∧ ((0 ≤ kp ∧ kp ≤ 1000) ∧ 0 ≤ le ∧ le ≤ 4611686018427387904) ∧ ((st - 1 ≤ j ∧ le = 4611686018427387904) ∨ ((∃ j' : Int, j < j' ∧ (0 ≤ j' ∧ j' < st) ∧ kp = k * j' % N ∧ isFarS S N Bg j' le) ∧ ∀ j' : Int, j < j' → 0 ≤ j' → j' < st → ∀ W, isFarS S N Bg j' W → le < W ∨ (le = W ∧ kp ≤ k * j' % N)))) ∧ (s'.2.2.2.2.toInt + 1).toNat < ((iI j).toInt + 1).toNat := fun hlt => by
          refine ⟨_, rfl, ⟨j + -1, hi', lo', le, kp, ⟨by omega, by omega⟩, rfl, Rhi, Rlo, ⟨hkp, hle⟩, Or.inr ?_⟩, hμ⟩
          rcases hph with ⟨z, z2⟩ | ⟨⟨j', a1, a2, a3, a4⟩, a5⟩
          · omega
          · refine ⟨⟨j', by omega, a2, a3, a4⟩, fun i i0 i1 i2 V hV => ?_⟩
            by_cases t : i = j
            · subst t
              have := isFarS_u hfar hV
              omega
            · exact a5 i (by omega) i1 i2 V hV
        by_cases c1 : W < le
        · rw [if_pos c1]; exact take (Or.inl c1)
        · rw [if_neg c1]
          by_cases c2 : W = le
          · rw [if_pos c2]
            by_cases c3 : kp ≤ k * j % N
            · rw [if_pos c3]; exact skip (by omega)
            · rw [if_neg c3]; exact take (Or.inr ⟨c2, by omega⟩)
          · rw [if_neg c2]; exact skip (by omega)) n (iJ (S (N - 1)), iJ (S (N - 1)), 4611686018427387904, 0, iI (N - 1)) ⟨N - 1, S (N - 1), S (N - 1), 4611686018427387904, 0, ⟨by omega, by omega⟩, rfl, ⟨fun y y0 y1 y2 => by omega, N - 1, Or.inr rfl, by omega, by omega, rfl⟩, ⟨fun y y0 y1 y2 => by omega, N - 1, Or.inr rfl, by omega, by omega, rfl⟩, ⟨⟨by omega, by omega⟩, by omega, by omega⟩, Or.inl ⟨by omega, rfl⟩⟩ (by dsimp only; rw [iI_to ⟨by omega, by omega⟩]; omega)
  exact ⟨kp, le, j0, by rw [e1, e2], e3, e4⟩
