/-! ===== design: what is told, as a whole ===== -/
theorem c_sum {m : vArr} (hm : m.1 ≤ 15) {n : Nat} (hn : 250000 ≤ n) : r_sumOfMonths n (some m) = some (iI (moS m m.1)) := by
  unfold r_sumOfMonths
  obtain ⟨r, e1, e2⟩ := zloop_inv (f := r_sumOfMonths_4 n (some m)) (R := fun s => ∃ i : Nat, i ≤ m.1 ∧ s = (iI (moS m i), nI i)) (S := fun r => r = iI (moS m m.1)) (fun s => 16 - s.2.toNatClampNeg) (by
    rintro s ⟨i, hi, rfl⟩
    unfold r_sumOfMonths_4
    rw [zO_s]
    dsimp only
    rw [if_c (show (nI m.1 ≤ nI i) = (m.1 ≤ i) from qI_le (by omega) (by omega))]
    by_cases p : m.1 ≤ i
    · right
      rw [if_pos p, show i = m.1 by omega]
      exact ⟨_, rfl, rfl⟩
    · left
      rw [if_neg p, zO_s, zck_t (qI_z (by omega) (by omega)), qI_n (by omega), qI_1]
      refine ⟨_, rfl, ⟨i + 1, by omega, ?_⟩, ?_⟩
      · rw [show iI (moS m (i + 1)) = iI (moS m i) + m.2 i by rw [moS, ← iI_add, iI_of]]
      · dsimp only; rw [qI_n (by omega)]; omega) n (0, 0) ⟨0, by omega, rfl⟩ (by show 16 - (nI 0).toNatClampNeg < n; omega)
  rw [e1, e2]
theorem m_sum {w : Nat → Int32} {m : Nat} (hm : m ≤ 15) (h56 : w 2656 = nI m) (F : Nat → Int32) {n : Nat} (hn : 250000 ≤ n) : misAllRead n F w = if m = 0 then misAllRead_67 n F w else if iI (moS (m, fun i => w (2676 + i)) m) = w 2653 then misAllRead_67 n F w else (mfail F 5 (F 3)).bind (fun v3 => misAllRead_67 n v3 w) := by
  unfold misAllRead
  have key : ∀ k i : Nat, i + k = m → zloop (misAllRead_4 n F w) (n - i) (iI (moS (m, fun i => w (2676 + i)) i), nI i) = if m = 0 then misAllRead_67 n F w else if iI (moS (m, fun i => w (2676 + i)) m) = w 2653 then misAllRead_67 n F w else (mfail F 5 (F 3)).bind (fun v3 => misAllRead_67 n v3 w) := by
    intro k
    induction k with
    | zero =>
      intro i hi
      obtain rfl : i = m := by omega
      have e : misAllRead_4 n F w (iI (moS (i, fun i => w (2676 + i)) i), nI i) = (if i = 0 then misAllRead_67 n F w else if iI (moS (i, fun i => w (2676 + i)) i) = w 2653 then misAllRead_67 n F w else (mfail F 5 (F 3)).bind (fun v3 => misAllRead_67 n v3 w)).map (fun z => .inr z) := by
        unfold misAllRead_4
        dsimp only
        rw [zck_t (by decide +kernel), show (2656 : Int32).toNatClampNeg = 2656 by decide +kernel, show (2653 : Int32).toNatClampNeg = 2653 by decide +kernel, h56, if_pos (by rw [qI_le (by omega) (by omega)]; exact Nat.le_refl _), zck_t (by decide +kernel), if_c (show (nI i ≤ (0 : Int32)) = (i = 0) by rw [show (0 : Int32) = nI 0 from rfl, qI_le (by omega) (by omega)]; exact propext ⟨fun z => by omega, fun z => by omega⟩), zck_t (by decide +kernel)]
        by_cases p : i = 0
        · rw [if_pos p, if_pos p]
        · rw [if_neg p, if_neg p]
          by_cases q : iI (moS (i, fun i => w (2676 + i)) i) = w 2653
          · rw [if_pos q, if_pos q]
          · rw [if_neg q, if_neg q]
            unfold mfail
            by_cases t : F 6 = 0
            · rw [if_pos t, Option.bind_some, Option.bind_some]
            · rw [if_neg t, Option.bind_some, Option.bind_some]
      obtain ⟨n', hn'⟩ : ∃ n', n - i = n' + 1 := ⟨n - i - 1, by omega⟩
      rw [hn', zloop, e]
      rcases (if i = 0 then misAllRead_67 n F w else if iI (moS (i, fun i => w (2676 + i)) i) = w 2653 then misAllRead_67 n F w else (mfail F 5 (F 3)).bind (fun v3 => misAllRead_67 n v3 w)) with _ | z
      · rfl
      · rfl
    | succ k ih =>
      intro i hi
      obtain ⟨n', hn'⟩ : ∃ n', n - i = n' + 1 := ⟨n - i - 1, by omega⟩
      have e : misAllRead_4 n F w (iI (moS (m, fun i => w (2676 + i)) i), nI i) = some (.inl (iI (moS (m, fun i => w (2676 + i)) (i + 1)), nI (i + 1))) := by
        unfold misAllRead_4
        dsimp only
        rw [zck_t (by decide +kernel), show (2656 : Int32).toNatClampNeg = 2656 by decide +kernel, h56, if_neg (by rw [qI_le (by omega) (by omega)]; omega), show (2676 : Int32) + nI i = nI (2676 + i) by rw [show (2676 : Int32) = nI 2676 from rfl, nI_iI, nI_iI, nI_iI, iI_add]; rfl, zck_t (qI_z (by omega) (by omega)), qI_n (by omega), qI_1, moS, ← iI_add, iI_of]
      rw [hn', zloop, e, show n' = n - (i + 1) by omega]
      exact ih (i + 1) (by omega)
  have := key m 0 (by omega)
  exact this
theorem m_row {F w : Nat → Int32} {N : Nat} {f : Nat → Int32} (hN : 1 ≤ N ∧ N ≤ 400) (h3 : w 2655 = 3) (h8 : w 2660 = nI N) (h0 : w 2692 = f 0) (hf : ∀ i, i < N → w (2692 + (i + 1)) = f (i + 1) - f i) {n : Nat} (hn : 250000 ≤ n) : ∃ w', misAllRead_111 n F w = some (F, w') ∧ (∀ i, i ≤ N → w' (2692 + i) = f i) ∧ ∀ i, i < 2692 ∨ 3094 ≤ i → w' i = w i := by
  unfold misAllRead_111
  obtain ⟨r, e1, w', e2, e3, e4⟩ := zloop_inv (f := misAllRead_113 n F) (R := fun s => ∃ i : Nat, (1 ≤ i ∧ i ≤ N + 1) ∧ s.1 = nI i ∧ (∀ j, j < i → s.2 (2692 + j) = f j) ∧ (∀ j, i ≤ j → s.2 (2692 + j) = w (2692 + j)) ∧ ∀ j, j < 2692 ∨ 3094 ≤ j → s.2 j = w j) (S := fun r => ∃ w', r = (F, w') ∧ (∀ i, i ≤ N → w' (2692 + i) = f i) ∧ ∀ i, i < 2692 ∨ 3094 ≤ i → w' i = w i) (fun s => N + 1 - s.1.toNatClampNeg) (by
    rintro ⟨a, v⟩ ⟨i, hi, hs, g1, g2, g3⟩
    dsimp only at hs g1 g2 g3
    subst hs
    unfold misAllRead_113
    dsimp only
    rw [zck_t (by decide +kernel), show (2660 : Int32).toNatClampNeg = 2660 by decide +kernel, show (2655 : Int32).toNatClampNeg = 2655 by decide +kernel, if_c (show (v 2660 < nI i) = (N < i) by rw [g3 2660 (by omega), h8, nI_iI, nI_iI, iI_lt ⟨by omega, by omega⟩ ⟨by omega, by omega⟩]; exact propext ⟨fun z => by omega, fun z => by omega⟩)]
    by_cases p : N < i
    · right
      rw [if_pos p]
      exact ⟨_, rfl, v, rfl, fun j hj => g1 j (by omega), g3⟩
    · left
      rw [if_neg p, zck_t (by decide +kernel), if_pos (show v 2655 = 3 by rw [g3 2655 (by omega), h3]), show (2692 : Int32) + nI i = nI (2692 + i) by rw [show (2692 : Int32) = nI 2692 from rfl, nI_iI, nI_iI, nI_iI, iI_add]; rfl, show nI (2692 + i) - 1 = nI (2692 + (i - 1)) by
        rw [show nI (2692 + i) - 1 = nI (2692 + i - 1) from qI_sb (a := 2692 + i) (b := 1) (by omega), show 2692 + i - 1 = 2692 + (i - 1) by omega], zck_t (qI_z (by omega) (by omega)), zck_t (qI_z (by omega) (by omega)), zck_t (qI_z (by omega) (by omega)), qI_n (by omega), qI_n (by omega), qI_1]
      refine ⟨_, rfl, ⟨i + 1, ⟨by omega, by omega⟩, rfl, fun j hj => ?_, fun j hj => ?_, fun j hj => ?_⟩, by dsimp only; rw [qI_n (by omega), qI_n (by omega)]; omega⟩
      · show upd v (2692 + i) (v (2692 + i) + v (2692 + (i - 1))) (2692 + j) = f j
        by_cases t : j = i
        · subst t
          obtain ⟨j', rfl⟩ : ∃ j', j = j' + 1 := ⟨j - 1, by omega⟩
          rw [upd_at, g2 _ (Nat.le_refl _), hf j' (by omega), show j' + 1 - 1 = j' by omega, g1 j' (by omega), Int32.sub_add_cancel]
        · rw [upd_ne (by omega)]; exact g1 j (by omega)
      · show upd v (2692 + i) (v (2692 + i) + v (2692 + (i - 1))) (2692 + j) = _
        rw [upd_ne (by omega)]; exact g2 j (by omega)
      · show upd v (2692 + i) (v (2692 + i) + v (2692 + (i - 1))) j = _
        rw [upd_ne (by omega)]; exact g3 j hj) n (1, w) ⟨1, ⟨by omega, by omega⟩, rfl, fun j hj => by rw [show j = 0 by omega]; exact h0, fun _ _ => rfl, fun _ _ => rfl⟩ (by show N + 1 - (nI 1).toNatClampNeg < n; omega)
  exact ⟨w', by rw [e1, e2], e3, e4⟩
theorem m_norow {F w : Nat → Int32} (h3 : w 2655 ≠ 3) {n : Nat} (hn : 250000 ≤ n) : misAllRead_111 n F w = some (F, w) := by
  unfold misAllRead_111
  obtain ⟨n', rfl⟩ : ∃ n', n = n' + 1 := ⟨n - 1, by omega⟩
  rw [zloop]
  have : misAllRead_113 (n' + 1) F (1, w) = some (.inr (F, w)) := by
    unfold misAllRead_113
    dsimp only
    rw [zck_t (by decide +kernel), zck_t (by decide +kernel), show (2655 : Int32).toNatClampNeg = 2655 by decide +kernel, if_neg h3, ite_self]
  rw [this]
