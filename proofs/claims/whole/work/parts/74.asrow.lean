/-! ===== calls: asRow ===== -/
theorem hc_asRow : HC_asRow Inv := by
  intro A tp dv cs cv jv bo hg lw sb F G tq w oc z0 h
  have hn := hn_f
  unfold w_asRow masRow
  rcases atD h.2.2.1 z0 with ⟨h1, h2⟩ | ⟨s, d, hs, rfl, hdv, h1, h2, h3, hd, hw⟩
  · rw [h1, h2]; exact ⟨_, _, rfl, rfl, rfl, h.thr⟩
  · have hC := lCyc_bd hd.2.1
    have wl := hw.2.2.2.2.2.2.2.2.1
    have hcy := LR_cyc hd.2.1 wl
    simp only [h1, h2, h3, Option.bind_some, zO_s, ↓reduceIte, c_cyc hd.2.1]
    rw [zck_t (watz (442 * s) 8 (by omega)), wat (442 * s) 8 (by omega), hcy, if_c (show (iI (lCyc d.2.1) ≤ (400 : Int32)) = (lCyc d.2.1 ≤ 400) from iI_le (b := 400) ⟨by omega, by omega⟩ ⟨by omega, by omega⟩), if_c (show (iI (lCyc d.2.1) ≤ (400 : Int32)) = (lCyc d.2.1 ≤ 400) from iI_le (b := 400) ⟨by omega, by omega⟩ ⟨by omega, by omega⟩)]
    by_cases q : lCyc d.2.1 ≤ 400
    · rw [if_pos q, if_pos q, show (iI (lCyc d.2.1) + 1 : Int32) = iI (lCyc d.2.1 + 1) from iI_add _ 1, zck_t (iI_zin (by omega) (by omega) (by omega)), iI_nat (by omega) (by omega)]
      obtain ⟨c, e, S, ⟨s1a, s1b⟩, ⟨a8, f14, a7⟩, hU⟩ := h.2.2.2.1
      obtain ⟨wc, n1, n2, n3⟩ := m_copies (w := w) (to := 2652) (fr := 442 * s) (by omega) (by omega) (by omega) hn
      rw [show (2652 : Int32) = iI ((2652 : Nat) : Int) by decide +kernel, n1, Option.bind_some]
      have hL : ∀ i : Int, 0 ≤ i → i ≤ 400 → 0 ≤ lTo d.2.1 i ∧ lTo d.2.1 i ≤ i := fun i i0 i1 => by
        have := (lTo_bd hd.2.1 i.toNat).1
        rw [Int.toNat_of_nonneg i0] at this
        exact this
      obtain ⟨r, g1, f, A', g2, g3, g4, g5, g6⟩ := zloop_inv (f := w_asRow_41 fuel A dv cs cv (iI (s : Int)) d (iI (lCyc d.2.1)) (lCyc d.2.1 + 1).toNat) (R := fun t => ∃ i : Int, (0 ≤ i ∧ i ≤ lCyc d.2.1 + 1) ∧ t.1 = iI i ∧ ∀ k : Nat, (k : Int) < i → t.2 k = iI (lTo d.2.1 k)) (S := fun r => ∃ (f A' : Nat → Int32), (∀ k : Nat, (k : Int) ≤ lCyc d.2.1 → f k = iI (lTo d.2.1 k)) ∧ r = (iI (lCyc d.2.1), A', va_up dv s (some (d.1, .inr (.inr (.inr (((lCyc d.2.1 + 1).toNat, f), iI (lCyc d.2.1)))), d.2.2)), upd cs e (iI (s : Int)), va_up cv e (dv s)) ∧ A' 7 = nI ((e + 1) % 12) ∧ A' 8 = nI (c - (if c = 12 then 1 else 0) + 1) ∧ ∀ i, i ≠ 7 → i ≠ 8 → A' i = A i) (fun t => (lCyc d.2.1 + 1 - t.1.toInt).toNat) (by
        rintro ⟨i', f⟩ ⟨i, hi, hi', hf⟩
        dsimp only at hi' hf
        subst hi'
        unfold w_asRow_41 k_newRow k_withLaw k_newDes
        dsimp only
        rw [if_c (iI_lt ⟨by omega, by omega⟩ ⟨by omega, by omega⟩)]
        by_cases p : lCyc d.2.1 < i
        · right
          obtain ⟨A', k1, k2, k3, k4⟩ := c_change (dv := dv) (cs := cs) (cv := cv) hs s1a s1b a7 a8 (some (d.1, .inr (.inr (.inr (((lCyc d.2.1 + 1).toNat, f), iI (lCyc d.2.1)))), d.2.2))
          rw [if_pos p]
          simp only [Option.bind_some]
          rw [show nI (lCyc d.2.1 + 1).toNat - 1 = iI (lCyc d.2.1) by rw [nI_iI, Int.toNat_of_nonneg (by omega), show (1 : Int32) = iI 1 by decide +kernel, iI_sub]; congr 1; omega, k1, Option.bind_some]
          exact ⟨_, rfl, f, A', fun k hk => hf k (by omega), rfl, k2, k3, k4⟩
        · left
          rw [if_neg p, c_to hd.2.1 ⟨by omega, by omega⟩ (by omega), Option.bind_some, zck_t (iI_zin (by omega) (by omega) (by omega)), iI_nat (by omega) (by omega), show (iI i + 1 : Int32) = iI (i + 1) from iI_add _ 1]
          refine ⟨_, rfl, ⟨i + 1, ⟨by omega, by omega⟩, rfl, fun k hk => ?_⟩, ?_⟩
          · show upd f i.toNat (iI (lTo d.2.1 i)) k = _
            by_cases t : k = i.toNat
            · rw [t, upd_at, Int.toNat_of_nonneg hi.1]
            · rw [upd_ne t]; exact hf k (by omega)
          · dsimp only; rw [iI_to ⟨by omega, by omega⟩, iI_to ⟨by omega, by omega⟩]; omega) fuel (0, fun _ => 0) ⟨0, ⟨by omega, by omega⟩, rfl, fun k hk => by omega⟩ (by show (lCyc d.2.1 + 1 - (iI 0).toInt).toNat < fuel; rw [iI_to ⟨by omega, by omega⟩]; omega)
      obtain ⟨r', j1, F', w', ε, j2, m2, m3, m4, m5, m6, m7, m8⟩ := zloop_inv (f := masRow_52 fuel (upd F 0 0) (iI ((442 * s : Nat) : Int)) (iI (lCyc d.2.1))) (R := fun t => ∃ i : Int, (0 ≤ i ∧ i ≤ lCyc d.2.1 + 1) ∧ t.1 = iI i ∧ (∀ k : Nat, (k : Int) < i → t.2 (2692 + k) = iI (lTo d.2.1 k)) ∧ (∀ k, k < 40 → t.2 (2652 + k) = w (442 * s + k)) ∧ ∀ k, k < 2652 ∨ 3094 ≤ k → t.2 k = w k) (S := fun r => ∃ (F' w' : Nat → Int32) (ε : Nat), r = (iI (lCyc d.2.1), F', w') ∧ (ε = if c = 12 then 1 else 0) ∧ F' 14 = nI (c - ε + 1) ∧ (∀ i, i ≠ 14 → F' i = (upd F 0 0) i) ∧ (∀ i, i < 3978 → ¬ (442 * s ≤ i ∧ i < 442 * s + 442) → ¬ (2652 ≤ i ∧ i < 3094) → w' i = w i) ∧ (∀ k, k < 2652 → w' (3978 + 2652 * (c - ε) + k) = w k) ∧ (∀ j, j < c - ε → ∀ k, k < 2652 → w' (3978 + 2652 * j + k) = w (3978 + 2652 * (j + ε) + k)) ∧ (w' (442 * s + 3) = 3 ∧ (∀ k, k < 40 → k ≠ 3 → w' (442 * s + k) = w (442 * s + k)) ∧ ∀ k : Nat, (k : Int) ≤ lCyc d.2.1 → w' (442 * s + 40 + k) = iI (lTo d.2.1 k))) (fun t => (lCyc d.2.1 + 1 - t.1.toInt).toNat) (by
        rintro ⟨i', v⟩ ⟨i, hi, hi', hv1, hv2, hv3⟩
        dsimp only at hi' hv1 hv2 hv3
        subst hi'
        unfold masRow_52
        dsimp only
        rw [if_c (iI_lt ⟨by omega, by omega⟩ ⟨by omega, by omega⟩)]
        by_cases p : lCyc d.2.1 < i
        · right
          obtain ⟨F', w', ε, m1, m2, m3, m4, m5, m6, m7⟩ := m_changes (F := upd F 0 0) (w := upd v 2655 3) s1a (show (upd F 0 0) 14 = nI c from f14) hn
          obtain ⟨w2, o1, o2, o3⟩ := m_copies (w := w') (to := 442 * s) (fr := 2652) (by omega) (by omega) (by omega) hn
          rw [if_pos p, zck_t (by decide +kernel), show (2655 : Int32).toNatClampNeg = 2655 by decide +kernel, m1, Option.bind_some]
          dsimp only
          rw [show (2652 : Int32) = iI ((2652 : Nat) : Int) by decide +kernel, o1, Option.bind_some]
          refine ⟨_, rfl, F', w2, ε, rfl, m2, m3, m4, fun k k1 k2 k3 => ?_, fun k hk => ?_, fun j hj k hk => ?_, ?_, fun k hk hk3 => ?_, fun k hk => ?_⟩
          · rw [o3 k (by omega), m5 k k1, upd_ne (by omega), hv3 k (by omega)]
          · rw [o3 _ (by omega), m6 k hk, upd_ne (by omega), hv3 k (by omega)]
          · rw [o3 _ (by omega), m7 j hj k hk, upd_ne (by omega), hv3 _ (by omega)]
          · rw [o2 3 (by omega), m5 _ (by omega), upd_at]
          · rw [o2 k (by omega), m5 _ (by omega), upd_ne (by omega), hv2 k hk]
          · rw [Nat.add_assoc, o2 (40 + k) (by omega), m5 _ (by omega), upd_ne (by omega), ← Nat.add_assoc]
            exact hv1 k (by omega)
        · left
          rw [if_neg p, iI_J ⟨by omega, by omega⟩, m_to hd.2.1 (by omega) (LR_congr hd.2.1 (fun k hk => hv3 _ (by omega)) wl) ⟨by omega, by omega⟩ (by omega), Option.bind_some, show (2692 : Int32) = iI 2692 by decide +kernel, iI_add, zck_t (iI_zin (by omega) (by omega) (by omega)), iI_nat (by omega) (by omega), show (iI i + 1 : Int32) = iI (i + 1) from iI_add _ 1, iJ_I, show (2692 + i).toNat = 2692 + i.toNat by omega]
          refine ⟨_, rfl, ⟨i + 1, ⟨by omega, by omega⟩, rfl, fun k hk => ?_, fun k hk => ?_, fun k hk => ?_⟩, ?_⟩
          · show upd v (2692 + i.toNat) (iI (lTo d.2.1 i)) (2692 + k) = _
            by_cases t : k = i.toNat
            · rw [t, upd_at, Int.toNat_of_nonneg hi.1]
            · rw [upd_ne (by omega)]; exact hv1 k (by omega)
          · show upd v (2692 + i.toNat) (iI (lTo d.2.1 i)) (2652 + k) = _
            rw [upd_ne (by omega)]; exact hv2 k hk
          · show upd v (2692 + i.toNat) (iI (lTo d.2.1 i)) k = _
            rw [upd_ne (by omega)]; exact hv3 k hk
          · dsimp only; rw [iI_to ⟨by omega, by omega⟩, iI_to ⟨by omega, by omega⟩]; omega) fuel (0, wc) ⟨0, ⟨by omega, by omega⟩, rfl, fun k hk => by omega, fun k hk => n2 k (by omega), fun k hk => n3 k (by omega)⟩ (by show (lCyc d.2.1 + 1 - (iI 0).toInt).toNat < fuel; rw [iI_to ⟨by omega, by omega⟩]; omega)
      rw [g1, j1]
      subst g3
      subst j2
      refine ⟨_, _, rfl, rfl, rfl, ?_⟩
      have hcb : (iI (lCyc d.2.1)).toInt = lCyc d.2.1 := iI_to ⟨by omega, by omega⟩
      have hvk : vOk (d.1, .inr (.inr (.inr (((lCyc d.2.1 + 1).toNat, f), iI (lCyc d.2.1)))), d.2.2) := by
        refine ⟨hd.1, ?_, hd.2.2⟩
        show lOk (.inr (.inr (.inr (((lCyc d.2.1 + 1).toNat, f), iI (lCyc d.2.1)))))
        simp only [lOk, hcb]
        refine ⟨⟨by omega, q⟩, by omega, ?_, fun i hi => ?_⟩
        · rw [g2 0 (by omega)]
          show iI (lTo d.2.1 0) = 0
          rw [lTo_0 hd.2.1]; rfl
        · have b1 := hL i (by omega) (by omega)
          have b2 := hL (i + 1 : Nat) (by omega) (by omega)
          have e1 := lTo_succ hd.2.1 i
          rw [g2 i (by omega), g2 (i + 1) (by omega), iI_to ⟨by omega, by omega⟩, iI_to ⟨by omega, by omega⟩, show ((i + 1 : Nat) : Int) = (i : Int) + 1 by omega, e1]
          split
          · right; rfl
          · left; omega
      refine h.chg hs s1a s1b hU m2 g4 (by rw [m2]; exact g5) g6 m3 (fun i h1 h2 => (m4 i h1).trans (upd_ne h2)) m5 m6 m7 ⟨hvk, ?_⟩
      obtain ⟨p3, pk, pr⟩ := m8
      obtain ⟨w0, w1, w2, w4, w5, w6, w7, w24, _, w12, w13, w14, w15, w16⟩ := hw
      refine ⟨(pk 0 (by omega) (by omega)).trans w0, (pk 1 (by omega) (by omega)).trans w1, (pk 2 (by omega) (by omega)).trans w2, (pk 4 (by omega) (by omega)).trans w4, (pk 5 (by omega) (by omega)).trans w5, (pk 6 (by omega) (by omega)).trans w6, (pk 7 (by omega) (by omega)).trans w7, fun i hi => ?_, ⟨p3, (pk 8 (by omega) (by omega)).trans hcy, fun i hi => ?_⟩, (pk 12 (by omega) (by omega)).trans w12, (pk 13 (by omega) (by omega)).trans w13, (pk 14 (by omega) (by omega)).trans w14, (pk 15 (by omega) (by omega)).trans w15, (pk 16 (by omega) (by omega)).trans w16⟩
      · have hN := hd.1.2.2.1
        have hi' : i < d.1.2.2.1.1 := hi
        show w' (442 * s + 24 + i) = d.1.2.2.1.2 i
        rw [Nat.add_assoc, pk (24 + i) (by omega) (by omega), ← Nat.add_assoc]
        exact w24 i hi
      · dsimp only at hi ⊢
        rw [hcb] at hi
        rw [pr i (by omega), g2 i (by omega)]
    · rw [if_neg q, if_neg q]; exact ⟨_, _, rfl, rfl, rfl, h.thr⟩
