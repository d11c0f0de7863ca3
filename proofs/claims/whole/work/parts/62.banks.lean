/-! ===== banks that are copied; changes ===== -/
theorem LR_congr {v : vLaw} (hv : lOk v) {w w' : Nat → Int32} {b b' : Nat} (h : ∀ k, k < 442 → w' (b' + k) = w (b + k)) (hw : LR v w b) : LR v w' b' := by
  match v, hv, hw with
  | .inl _, _, hw => exact ⟨(h 3 (by omega)).trans hw.1, (h 8 (by omega)).trans hw.2⟩
  | .inr (.inl e), hv, hw => exact ⟨(h 3 (by omega)).trans hw.1, (h 9 (by omega)).trans hw.2.1, (h 10 (by omega)).trans hw.2.2.1, (h 11 (by omega)).trans hw.2.2.2.1, (h 8 (by omega)).trans hw.2.2.2.2⟩
  | .inr (.inr (.inl a)), hv, hw =>
    refine ⟨(h 3 (by omega)).trans hw.1, (h 17 (by omega)).trans hw.2.1, fun i hi => ?_, (h 8 (by omega)).trans hw.2.2.2⟩
    have h6 := hv.1
    have := h (18 + i) (by omega)
    rw [← Nat.add_assoc, ← Nat.add_assoc] at this
    exact this.trans (hw.2.2.1 i hi)
  | .inr (.inr (.inr r)), hv, hw =>
    refine ⟨(h 3 (by omega)).trans hw.1, (h 8 (by omega)).trans hw.2.1, fun i hi => ?_⟩
    have h6 := hv.1
    have := h (40 + i) (by omega)
    rw [← Nat.add_assoc, ← Nat.add_assoc] at this
    exact this.trans (hw.2.2 i hi)
theorem DR_congr {d : vDes} (hd : vOk d) {w w' : Nat → Int32} {b b' : Nat} (h : ∀ k, k < 442 → w' (b' + k) = w (b + k)) (hw : DR d w b) : DR d w' b' := by
  obtain ⟨w0, w1, w2, w4, w5, w6, w7, w24, wl, w12, w13, w14, w15, w16⟩ := hw
  refine ⟨(h 0 (by omega)).trans w0, (h 1 (by omega)).trans w1, (h 2 (by omega)).trans w2, (h 4 (by omega)).trans w4, (h 5 (by omega)).trans w5, (h 6 (by omega)).trans w6, (h 7 (by omega)).trans w7, fun i hi => ?_, LR_congr hd.2.1 h wl, (h 12 (by omega)).trans w12, (h 13 (by omega)).trans w13, (h 14 (by omega)).trans w14, (h 15 (by omega)).trans w15, (h 16 (by omega)).trans w16⟩
  have h6 := hd.1.2.2.1
  have := h (24 + i) (by omega)
  rw [← Nat.add_assoc, ← Nat.add_assoc] at this
  exact this.trans (w24 i hi)
theorem BR_congr {o : Option vDes} {w w' : Nat → Int32} {b b' : Nat} (h : ∀ k, k < 442 → w' (b' + k) = w (b + k)) (hw : BR o w b) : BR o w' b' := by
  cases o with
  | none => exact (h 0 (by omega)).trans hw
  | some d => exact ⟨hw.1, DR_congr hw.1 h hw.2⟩
theorem JR_congr {jv : Option vJoint} {F F' : Nat → Int32} {G : Nat → Int64} {w w' : Nat → Int32} (hF : F' 20 = F 20) (h : ∀ i, 3094 ≤ i → i < 3978 → w' i = w i) (hj : JR jv F G w) : JR jv F' G w' := by
  cases jv with
  | none => exact hF.trans hj
  | some v => exact ⟨hF.trans hj.1, ⟨hj.2.1.1, DR_congr hj.2.1.1 (fun k hk => h _ (by omega) (by omega)) hj.2.1.2⟩, ⟨hj.2.2.1.1, DR_congr hj.2.2.1.1 (fun k hk => h _ (by omega) (by omega)) hj.2.2.1.2⟩, hj.2.2.2⟩
theorem m_copies {w : Nat → Int32} {to fr : Nat} (hto : to + 442 ≤ 35802) (hfr : fr + 442 ≤ 35802) (hdis : to + 442 ≤ fr ∨ fr + 442 ≤ to) {n : Nat} (hn : 250000 ≤ n) : ∃ w', mcopies n w (iI (to : Int)) (iI (fr : Int)) = some w' ∧ (∀ k, k < 442 → w' (to + k) = w (fr + k)) ∧ ∀ i, i < to ∨ to + 442 ≤ i → w' i = w i := by
  unfold mcopies
  refine zloop_inv (f := mcopies_2 n (iI (to : Int)) (iI (fr : Int))) (R := fun s => ∃ j : Nat, j ≤ 442 ∧ s.1 = iI (j : Int) ∧ (∀ k, k < j → s.2 (to + k) = w (fr + k)) ∧ ∀ i, i < to ∨ to + j ≤ i → s.2 i = w i) (S := fun w' => (∀ k, k < 442 → w' (to + k) = w (fr + k)) ∧ ∀ i, i < to ∨ to + 442 ≤ i → w' i = w i) (fun s => 442 - s.1.toNatClampNeg) ?_ n (0, w) ⟨0, by omega, rfl, fun k hk => absurd hk (Nat.not_lt_zero _), fun _ _ => rfl⟩ (by show 442 - (iI 0).toNatClampNeg < n; omega)
  rintro ⟨a, u⟩ ⟨j, hj, e1, e2, e3⟩
  dsimp only at e1 e2 e3
  subst e1
  unfold mcopies_2
  dsimp only
  rw [if_c (show ((442 : Int32) ≤ iI (j : Int)) = (442 ≤ (j : Int)) from iI_le (a := 442) ⟨by omega, by omega⟩ ⟨by omega, by omega⟩)]
  by_cases q : 442 ≤ (j : Int)
  · right
    rw [if_pos q]
    rw [show j = 442 by omega] at e2 e3
    exact ⟨_, rfl, e2, e3⟩
  · left
    rw [if_neg q, iI_add, iI_add, zck_t (iI_zin (by omega) (by omega) (by omega)), zck_t (iI_zin (by omega) (by omega) (by omega)), iI_nat (by omega) (by omega), iI_nat (by omega) (by omega), show (iI (j : Int) + 1 : Int32) = iI ((j + 1 : Nat) : Int) from iI_add _ 1, show ((to : Int) + j).toNat = to + j by omega, show ((fr : Int) + j).toNat = fr + j by omega]
    refine ⟨_, rfl, ⟨j + 1, by omega, rfl, fun k hk => ?_, fun i hi => ?_⟩, ?_⟩
    · dsimp only
      by_cases p : k = j
      · subst p; rw [upd_at]; exact e3 _ (by omega)
      · rw [upd_ne (by omega)]; exact e2 k (by omega)
    · dsimp only
      rw [upd_ne (by omega)]; exact e3 i (by omega)
    · dsimp only
      rw [iI_nat (by omega) (by omega), iI_nat (by omega) (by omega)]; omega
set_option maxRecDepth 100000 in
/-- all designs put aside -/
theorem m_save {F w : Nat → Int32} {c : Nat} (hc : c ≤ 11) (hF : F 14 = nI c) {n : Nat} (hn : 250000 ≤ n) : ∃ w', mchangesNow_61 n F w 2652 = some (upd F 14 (nI (c + 1)), w') ∧ (∀ k, k < 2652 → w' (3978 + 2652 * c + k) = w k) ∧ ∀ i, i < 3978 + 2652 * c ∨ 3978 + 2652 * (c + 1) ≤ i → w' i = w i := by
  unfold mchangesNow_61
  have eF : (F 14 + 1 : Int32) = nI (c + 1) := by rw [hF, nI_iI, nI_iI]; exact iI_add _ 1
  have eb : (3978 + 2652 * F 14 : Int32) = iI ((3978 + 2652 * c : Nat) : Int) := by
    rw [hF, nI_iI, show (3978 : Int32) = iI 3978 by decide +kernel, show (2652 : Int32) = iI 2652 by decide +kernel, iI_mul, iI_add]; congr 1
  obtain ⟨r, h1, w', h2, h3, h4⟩ := zloop_inv (f := mchangesNow_63 n F 2652) (R := fun s => ∃ j : Nat, j ≤ 2652 ∧ s.1 = iI (j : Int) ∧ (∀ k, k < j → s.2 (3978 + 2652 * c + k) = w k) ∧ ∀ i, i < 3978 + 2652 * c ∨ 3978 + 2652 * c + j ≤ i → s.2 i = w i) (S := fun r => ∃ w', r = (upd F 14 (nI (c + 1)), w') ∧ (∀ k, k < 2652 → w' (3978 + 2652 * c + k) = w k) ∧ ∀ i, i < 3978 + 2652 * c ∨ 3978 + 2652 * (c + 1) ≤ i → w' i = w i) (fun s => 2652 - s.1.toNatClampNeg) (by
    rintro ⟨a, u⟩ ⟨j, hj, e1, e2, e3⟩
    dsimp only at e1 e2 e3
    subst e1
    unfold mchangesNow_63
    dsimp only
    rw [if_c (show ((2652 : Int32) ≤ iI (j : Int)) = (2652 ≤ (j : Int)) from iI_le (a := 2652) ⟨by omega, by omega⟩ ⟨by omega, by omega⟩)]
    by_cases q : 2652 ≤ (j : Int)
    · right
      rw [if_pos q, eF]
      rw [show j = 2652 by omega] at e2 e3
      exact ⟨_, rfl, u, rfl, e2, fun i hi => e3 i (by omega)⟩
    · left
      rw [if_neg q, eb, iI_add, zck_t (iI_zin (by omega) (by omega) (by omega)), zck_t (iI_zin (by omega) (by omega) (by omega)), iI_nat (by omega) (by omega), iI_nat (by omega) (by omega), show (iI (j : Int) + 1 : Int32) = iI ((j + 1 : Nat) : Int) from iI_add _ 1, Int.toNat_natCast, show (((3978 + 2652 * c : Nat) : Int) + j).toNat = 3978 + 2652 * c + j by omega]
      refine ⟨_, rfl, ⟨j + 1, by omega, rfl, fun k hk => ?_, fun i hi => ?_⟩, ?_⟩
      · dsimp only
        by_cases p : k = j
        · subst p; rw [upd_at]; exact e3 _ (by omega)
        · rw [upd_ne (by omega)]; exact e2 k (by omega)
      · dsimp only
        rw [upd_ne (by omega)]; exact e3 i (by omega)
      · dsimp only
        rw [iI_nat (by omega) (by omega)]; omega) n (0, w) ⟨0, by omega, rfl, fun k hk => absurd hk (Nat.not_lt_zero _), fun _ _ => rfl⟩ (by show 2652 - (iI 0).toNatClampNeg < n; omega)
  exact ⟨w', by rw [h1, h2], h3, h4⟩
set_option maxRecDepth 100000 in
theorem m_changes {F w : Nat → Int32} {c : Nat} (hc : c ≤ 12) (hF : F 14 = nI c) {n : Nat} (hn : 250000 ≤ n) : ∃ (F' w' : Nat → Int32) (e : Nat), mchangesNow n F w = some (F', w') ∧ (e = if c = 12 then 1 else 0) ∧ F' 14 = nI (c - e + 1) ∧ (∀ i, i ≠ 14 → F' i = F i) ∧ (∀ i, i < 3978 → w' i = w i) ∧ (∀ k, k < 2652 → w' (3978 + 2652 * (c - e) + k) = w k) ∧ ∀ j, j < c - e → ∀ k, k < 2652 → w' (3978 + 2652 * j + k) = w (3978 + 2652 * (j + e) + k) := by
  unfold mchangesNow
  rw [if_c (show (F 14 = (12 : Int32)) = (c = 12) by
    rw [hF, nI_iI]
    show (iI (c : Int) = iI 12) = _
    rw [iI_eq ⟨by omega, by omega⟩ ⟨by omega, by omega⟩]; apply propext; omega)]
  by_cases q : c = 12
  · rw [if_pos q]
    subst q
    have e13 : (upd F 14 (F 14 - 1)) 14 = nI 11 := by rw [upd_at, hF]; decide +kernel
    obtain ⟨r, h1, u, h2, h3, h4⟩ := zloop_inv (f := mchangesNow_15 n F 2652) (R := fun s => ∃ j : Nat, j ≤ 29172 ∧ s.1 = iI ((2652 + j : Nat) : Int) ∧ (∀ k, k < j → s.2 (3978 + k) = w (3978 + 2652 + k)) ∧ ∀ i, i < 3978 ∨ 3978 + j ≤ i → s.2 i = w i) (S := fun r => ∃ u, mchangesNow_61 n (upd F 14 (F 14 - 1)) u 2652 = some r ∧ (∀ k, k < 29172 → u (3978 + k) = w (3978 + 2652 + k)) ∧ ∀ i, i < 3978 → u i = w i) (fun s => 31824 - s.1.toNatClampNeg) (by
      rintro ⟨a, u⟩ ⟨j, hj, e1, e2, e3⟩
      dsimp only at e1 e2 e3
      subst e1
      unfold mchangesNow_15
      dsimp only
      rw [show (12 * 2652 : Int32) = iI 31824 by decide +kernel, if_c (iI_le ⟨by omega, by omega⟩ ⟨by omega, by omega⟩)]
      by_cases q : (31824 : Int) ≤ ((2652 + j : Nat) : Int)
      · right
        rw [if_pos q]
        rw [show j = 29172 by omega] at e2 e3
        obtain ⟨w', g1, g2, g3⟩ := m_save (w := u) (c := 11) (by omega) e13 hn
        rw [g1]
        exact ⟨_, rfl, u, g1, e2, fun i hi => e3 i (by omega)⟩
      · left
        rw [if_neg q, show (3978 : Int32) = iI 3978 by decide +kernel, show (2652 : Int32) = iI 2652 by decide +kernel, iI_add, iI_sub, zck_t (iI_zin (by omega) (by omega) (by omega)), zck_t (iI_zin (by omega) (by omega) (by omega)), iI_nat (by omega) (by omega), iI_nat (by omega) (by omega), show (iI ((2652 + j : Nat) : Int) + 1 : Int32) = iI ((2652 + (j + 1) : Nat) : Int) from iI_add _ 1, show (3978 + ((2652 + j : Nat) : Int)).toNat = 3978 + 2652 + j by omega, show (3978 + ((2652 + j : Nat) : Int) - 2652).toNat = 3978 + j by omega]
        refine ⟨_, rfl, ⟨j + 1, by omega, rfl, fun k hk => ?_, fun i hi => ?_⟩, ?_⟩
        · dsimp only
          by_cases p : k = j
          · subst p; rw [upd_at]; exact e3 _ (by omega)
          · rw [upd_ne (by omega)]; exact e2 k (by omega)
        · dsimp only
          rw [upd_ne (by omega)]; exact e3 i (by omega)
        · dsimp only
          rw [iI_nat (by omega) (by omega), iI_nat (by omega) (by omega)]; omega) n (2652, w) ⟨0, by omega, rfl, fun k hk => absurd hk (Nat.not_lt_zero _), fun _ _ => rfl⟩ (by show 31824 - (iI 2652).toNatClampNeg < n; omega)
    obtain ⟨w', g1, g2, g3⟩ := m_save (w := u) (c := 11) (by omega) e13 hn
    rw [g1] at h2
    cases h2
    refine ⟨_, w', 1, h1, rfl, upd_at, fun i hi => by rw [upd_ne hi, upd_ne hi], fun i hi => (g3 i (by omega)).trans (h4 i hi), fun k hk => (g2 k hk).trans (h4 k (by omega)), fun j hj k hk => ?_⟩
    have a1 := g3 (3978 + 2652 * j + k) (by omega)
    have a2 := h3 (2652 * j + k) (by omega)
    rw [← Nat.add_assoc] at a2
    rw [a1, a2]; congr 1; omega
  · rw [if_neg q]
    obtain ⟨w', g1, g2, g3⟩ := m_save (w := w) (c := c) (by omega) hF hn
    refine ⟨_, w', 0, g1, by rw [if_neg q], upd_at, fun i hi => upd_ne hi, fun i hi => g3 i (by omega), fun k hk => g2 k hk, fun j hj k hk => ?_⟩
    exact g3 _ (by omega)
