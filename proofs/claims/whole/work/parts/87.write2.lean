/-! ===== calls: write ===== -/
theorem endD1 (l L : List Int32) (x : Int32) : ∃ m c, l ++ (L ++ ([32] ++ decI x)) = m ++ [c] ∧ c ≠ 59 := by
  obtain ⟨m, c, h1, h2⟩ := dec_last x.toNatClampNeg
  exact ⟨l ++ (L ++ ([32] ++ m)), c, by simp only [decI, h1, List.append_assoc], h2⟩
theorem endD2 (l L : List Int32) (x : Int32) : ∃ m c, l ++ ([32] ++ (L ++ ([32] ++ decI x))) = m ++ [c] ∧ c ≠ 59 := by
  obtain ⟨m, c, h1, h2⟩ := dec_last x.toNatClampNeg
  exact ⟨l ++ ([32] ++ (L ++ ([32] ++ m))), c, by simp only [decI, h1, List.append_assoc], h2⟩
theorem endD3 (l : List Int32) (x : Int32) : ∃ m c, l ++ ([32] ++ decI x) = m ++ [c] ∧ c ≠ 59 := by
  obtain ⟨m, c, h1, h2⟩ := dec_last x.toNatClampNeg
  exact ⟨l ++ ([32] ++ m), c, by simp only [decI, h1, List.append_assoc], h2⟩
theorem endS (l : List Int32) (x : Int32) : l ++ ([32] ++ (decI x ++ [59])) = [] ∨ ∃ m, l ++ ([32] ++ (decI x ++ [59])) = m ++ [59] :=
  Or.inr ⟨l ++ ([32] ++ decI x), by simp only [List.append_assoc]⟩
theorem WR.dn {F0 F oc : Nat → Int32} {l : List Int32} {B B' : Nat} (h : WR F0 F oc l B) (hB : l.length ≤ B') : WR F0 F oc l B' := ⟨⟨hB, h.1.2⟩, h.2⟩
theorem dec_3 {v : Nat} (h : v < 1000) : (dec v).length ≤ 3 := by
  by_cases h1 : v < 10
  · rw [dec_lt h1]; simp
  · rw [dec_ge h1, List.length_append]
    by_cases h2 : v / 10 < 10
    · rw [dec_lt h2]; simp
    · rw [dec_ge h2, List.length_append, dec_lt (by omega)]; simp
theorem pMonths_s (f : Nat → Int32) : ∀ (k a : Nat), pMonths f a (k + 1) = pMonths f a k ++ [[32], decI (f (a + k))]
  | 0, a => rfl
  | k + 1, a => by
    rw [pMonths, pMonths_s f k (a + 1), pMonths, show a + 1 + k = a + (k + 1) by omega]
    rfl
theorem pSteps_s (f : Nat → Int32) : ∀ (k a : Nat), pSteps f a (k + 1) = pSteps f a k ++ [pStep (a + k), decI (f (a + k))]
  | 0, a => rfl
  | k + 1, a => by
    rw [pSteps, pSteps_s f k (a + 1), pSteps, show a + 1 + k = a + (k + 1) by omega]
    rfl
theorem pRow_s (v : vRow) : ∀ (k a : Nat), pRowYears v a (k + 1) = pRowYears v a k ++ pRowYear v (a + k)
  | 0, a => by rw [pRowYears, pRowYears, pRowYears, List.append_nil, List.nil_append]; rfl
  | k + 1, a => by
    rw [pRowYears, pRow_s v k (a + 1), pRowYears, List.append_assoc, show a + 1 + k = a + (k + 1) by omega]
theorem m_law {d : vDes} (hd : vOk d) {w : Nat → Int32} {b : Nat} (hb : b ≤ 35360) (hw : DR d w b) {F0 F oc : Nat → Int32} {l : List Int32} (h : WR F0 F oc l 27) (hl : ∃ m, l = m ++ [59]) {n : Nat} (hn : 250000 ≤ n) : ∃ F' oc', mwritesLaw n F w oc (iI (b : Int)) = some (F', oc') ∧ WR F0 F' oc' (l ++ (pLaw d.2.1).flatten) 1700 ∧ ∃ m, l ++ (pLaw d.2.1).flatten = m ++ [59] := by
  have wl := hw.2.2.2.2.2.2.2.2.1
  have hlo := hd.2.1
  have hlv := fun (y : Int) (hy : -200002 ≤ y ∧ y ≤ 200002) => m_leap (n := n) hd.2.1 hb hw.2.2.2.2.2.2.2.2.1 hy (by omega)
  have hcl := fun (y : Int) (hy : -200002 ≤ y ∧ y ≤ 200002) => c_leap (n := n) hd.2.1 hy (by omega)
  unfold mwritesLaw
  rw [zck_t (watz b 3 (by omega)), wat b 3 (by omega)]
  generalize d.2.1 = law at *
  match law, wl, hlo, hlv, hcl with
  | .inl _, wl, hlo, hlv, hcl =>
    rw [wl.1, if_neg (by decide), zck_t (watz b 3 (by omega)), if_neg (by decide), zck_t (watz b 3 (by omega)), if_neg (by decide)]
    refine ⟨_, _, rfl, ?_, ?_⟩
    · show WR F0 F oc (l ++ []) 1700
      rw [List.append_nil]; exact h.up (by omega)
    · show ∃ m, l ++ [] = m ++ [59]
      rw [List.append_nil]; exact hl
  | .inr (.inl e), wl, hlo, hlv, hcl =>
    obtain ⟨l3, l9, l10, l11, l8⟩ := wl
    obtain ⟨o1, o2, o3⟩ := hlo
    obtain ⟨F1, c1, g1, k1⟩ := m_toldS wk_even h (Or.inr hl) (by omega) (x := e.1) ⟨by omega, by omega⟩ hn
    obtain ⟨F2, c2, g2, k2⟩ := m_toldD wk_of k1 (endD1 ..) (by omega) (x := e.2.1) ⟨by omega, by omega⟩ hn
    obtain ⟨F3, c3, g3, k3⟩ := m_wordD wk_shift k2 (endD2 ..) (by omega) hn
    obtain ⟨F4, c4, g4, k4⟩ := m_last k3 (by omega) (x := e.2.2) ⟨by omega, by omega⟩ hn
    rw [l3, if_pos rfl, zck_t (watz b 9 (by omega)), wat b 9 (by omega), l9, g1, Option.bind_some, zck_t (watz b 10 (by omega)), wat b 10 (by omega), l10]
    dsimp only
    rw [g2, Option.bind_some]
    dsimp only
    rw [g3, Option.bind_some]
    dsimp only
    rw [zck_t (watz b 11 (by omega)), wat b 11 (by omega), l11, g4, Option.bind_some]
    have hT : l ++ ([101, 118, 101, 110] ++ ([32] ++ decI e.1)) ++ ([32] ++ ([111, 102] ++ ([32] ++ decI e.2.1))) ++ ([32] ++ [115, 104, 105, 102, 116]) ++ ([32] ++ (decI e.2.2 ++ [59])) = l ++ (pLaw (.inr (.inl e))).flatten := by
      simp [pLaw, pEven, L_even_, L__of_, L__shift_]
    refine ⟨_, _, rfl, by rw [← hT]; exact k4.up (by omega), ?_⟩
    rw [← hT]
    rcases endS (l ++ ([101, 118, 101, 110] ++ ([32] ++ decI e.1)) ++ ([32] ++ ([111, 102] ++ ([32] ++ decI e.2.1))) ++ ([32] ++ [115, 104, 105, 102, 116])) e.2.2 with z | z
    · simp at z
    · exact z
  | .inr (.inr (.inl a)), wl, hlo, hlv, hcl =>
    obtain ⟨l3, l17, l18, l8⟩ := wl
    obtain ⟨o1, o2, o3⟩ := hlo
    rw [l3, if_neg (by decide), zck_t (watz b 3 (by omega)), if_pos rfl]
    obtain ⟨r, e1, e2⟩ := zloop_inv (f := mwritesLaw_81 n w (iI (b : Int))) (R := fun s => ∃ i : Nat, i ≤ a.1 ∧ s.1 = iI (i : Int) ∧ WR F0 s.2.1 s.2.2 (l ++ (pSteps a.2 0 i).flatten) (27 + 15 * i) ∧ (i = 0 ∨ ∃ m c, l ++ (pSteps a.2 0 i).flatten = m ++ [c] ∧ c ≠ 59)) (S := fun r => WR F0 r.1 r.2 (l ++ (pLaw (.inr (.inr (.inl a)))).flatten) 1700 ∧ ∃ m, l ++ (pLaw (.inr (.inr (.inl a)))).flatten = m ++ [59]) (fun s => ((a.1 : Int) - s.1.toInt).toNat) (by
      rintro ⟨s, G, o⟩ ⟨i, hi, hs, hwr, hend⟩
      dsimp only at hs hwr
      subst hs
      unfold mwritesLaw_81 mwritesLaw_121
      dsimp only
      rw [zck_t (watz b 17 (by omega)), wat b 17 (by omega), l17, nI_iI, if_c (iI_le (a := (a.1 : Int)) (b := (i : Int)) ⟨by omega, by omega⟩ ⟨by omega, by omega⟩)]
      by_cases p : (a.1 : Int) ≤ (i : Int)
      · right
        have hia : i = a.1 := by omega
        obtain ⟨F', o', g1, g2⟩ := m_oct1 hwr (by omega) (c := 59) (by decide)
        rw [if_pos p, g1, Option.bind_some]
        have hT : l ++ (pSteps a.2 0 i).flatten ++ [59] = l ++ (pLaw (.inr (.inr (.inl a)))).flatten := by
          rw [hia]; simp [pLaw]
        rw [hT] at g2
        exact ⟨_, rfl, g2.up (by omega), l ++ (pSteps a.2 0 i).flatten, hT.symm⟩
      · left
        have hx : nOk (a.2 i) := by have := o2 i (by omega); exact ⟨by omega, by omega⟩
        have hμ : ((a.1 : Int) - (iI ((i + 1 : Nat) : Int)).toInt).toNat < ((a.1 : Int) - (iI (i : Int)).toInt).toNat := by rw [iI_to ⟨by omega, by omega⟩, iI_to ⟨by omega, by omega⟩]; omega
        have hin : (iI (i : Int) + 1 : Int32) = iI ((i + 1 : Nat) : Int) := iI_add _ 1
        have hfl : l ++ (pSteps a.2 0 (i + 1)).flatten = l ++ (pSteps a.2 0 i).flatten ++ (pStep i ++ decI (a.2 i)) := by
          rw [pSteps_s, Nat.zero_add]; simp
        have hE : ∃ m c, l ++ (pSteps a.2 0 (i + 1)).flatten = m ++ [c] ∧ c ≠ 59 := by
          obtain ⟨m, c, h1, h2⟩ := dec_last (a.2 i).toNatClampNeg
          exact ⟨l ++ (pSteps a.2 0 i).flatten ++ (pStep i ++ m), c, by rw [hfl, decI, h1]; simp only [List.append_assoc], h2⟩
        have hz18 := wat2z b 18 (i : Int) (by omega) (by omega)
        have hw18 := wat2 b 18 (i : Int) (by omega) (by omega)
        rw [Int.toNat_natCast] at hw18
        rw [if_neg p, if_c (show (iI (i : Int) = (0 : Int32)) = ((i : Int) = 0) from iI_eq (b := 0) ⟨by omega, by omega⟩ ⟨by omega, by omega⟩), par2 i (by omega), if_c (show (iI ((i % 2 : Nat) : Int) = (1 : Int32)) = (((i % 2 : Nat) : Int) = 1) from iI_eq (b := 1) ⟨by omega, by omega⟩ ⟨by omega, by omega⟩), zck_t hz18, zck_t hz18, zck_t hz18, hw18, l18 i (by omega), hin]
        by_cases q0 : (i : Int) = 0
        · have : i = 0 := by omega
          subst this
          obtain ⟨F', o', g1, g2⟩ := m_toldS wk_every hwr (Or.inr (by show ∃ m, l ++ [] = m ++ [59]; rw [List.append_nil]; exact hl)) (by omega) hx hn
          rw [if_pos q0, g1, Option.bind_some]
          refine ⟨_, rfl, ⟨0 + 1, by omega, rfl, ?_, Or.inr hE⟩, hμ⟩
          rw [hfl]
          have : l ++ (pSteps a.2 0 0).flatten ++ ([101, 118, 101, 114, 121] ++ ([32] ++ decI (a.2 0))) = l ++ (pSteps a.2 0 0).flatten ++ (pStep 0 ++ decI (a.2 0)) := by simp [pStep, L_every_]
          rw [← this]; exact g2.up (by omega)
        · rcases hend with z | hend
          · omega
          rw [if_neg q0]
          by_cases q1 : ((i % 2 : Nat) : Int) = 1
          · obtain ⟨F', o', g1, g2⟩ := m_toldD wk_not hwr hend (by omega) hx hn
            rw [if_pos q1, g1, Option.bind_some]
            refine ⟨_, rfl, ⟨i + 1, by omega, rfl, ?_, Or.inr hE⟩, hμ⟩
            rw [hfl]
            have : l ++ (pSteps a.2 0 i).flatten ++ ([32] ++ ([110, 111, 116] ++ ([32] ++ decI (a.2 i)))) = l ++ (pSteps a.2 0 i).flatten ++ (pStep i ++ decI (a.2 i)) := by
              rw [pStep, if_neg (by omega), if_pos (by omega)]; simp [L__not_]
            rw [← this]; exact g2.up (by omega)
          · obtain ⟨F', o', g1, g2⟩ := m_toldD wk_but hwr hend (by omega) hx hn
            rw [if_neg q1, g1, Option.bind_some]
            refine ⟨_, rfl, ⟨i + 1, by omega, rfl, ?_, Or.inr hE⟩, hμ⟩
            rw [hfl]
            have : l ++ (pSteps a.2 0 i).flatten ++ ([32] ++ ([98, 117, 116] ++ ([32] ++ decI (a.2 i)))) = l ++ (pSteps a.2 0 i).flatten ++ (pStep i ++ decI (a.2 i)) := by
              rw [pStep, if_neg (by omega), if_neg (by omega)]; simp [L__but_]
            rw [← this]; exact g2.up (by omega)) n (0, F, oc) ⟨0, by omega, rfl, by show WR F0 F oc (l ++ []) 27; rw [List.append_nil]; exact h, Or.inl rfl⟩ (by show ((a.1 : Int) - (iI 0).toInt).toNat < n; rw [iI_to ⟨by omega, by omega⟩]; omega)
    exact ⟨r.1, r.2, e1, e2⟩
  | .inr (.inr (.inr r)), wl, hlo, hlv, hcl =>
    obtain ⟨l3, l8, l40⟩ := wl
    obtain ⟨o1, o2, o3, o4⟩ := hlo
    have hx : nOk r.2 := ⟨by omega, by omega⟩
    have hrn : r.2.toNatClampNeg = r.2.toInt.toNat := by
      have := iI_nat (a := r.2.toInt) (by omega) (by omega)
      rw [iI_of] at this; exact this
    obtain ⟨F1, c1, g1, k1⟩ := m_toldS wk_row h (Or.inr hl) (by omega) (x := r.2) hx hn
    rw [l3, if_neg (by decide), zck_t (watz b 3 (by omega)), if_neg (by decide), zck_t (watz b 3 (by omega)), if_pos rfl, zck_t (watz b 8 (by omega)), wat b 8 (by omega), l8, g1, Option.bind_some]
    dsimp only
    obtain ⟨rr, e1, e2⟩ := zloop_inv (f := mwritesLaw_180 n w (iI (b : Int))) (R := fun s => ∃ i : Nat, (i : Int) ≤ r.2.toInt ∧ s.1 = iI (i : Int) ∧ WR F0 s.2.1 s.2.2 (l ++ ([114, 111, 119] ++ ([32] ++ decI r.2)) ++ (pRowYears r 0 i).flatten) (38 + 4 * i)) (S := fun s => WR F0 s.1 s.2 (l ++ (pLaw (.inr (.inr (.inr r)))).flatten) 1700 ∧ ∃ m, l ++ (pLaw (.inr (.inr (.inr r)))).flatten = m ++ [59]) (fun s => (r.2.toInt - s.1.toInt).toNat) (by
      rintro ⟨s, G, o⟩ ⟨i, hi, hs, hwr⟩
      dsimp only at hs hwr
      subst hs
      unfold mwritesLaw_180 mwritesLaw_208
      dsimp only
      rw [zck_t (watz b 8 (by omega)), wat b 8 (by omega), if_c (show (w (b + 8) ≤ iI (i : Int)) = (r.2.toInt ≤ (i : Int)) by rw [l8, ← iI_of r.2, iI_to ⟨by omega, by omega⟩]; exact iI_le ⟨by omega, by omega⟩ ⟨by omega, by omega⟩)]
      by_cases p : r.2.toInt ≤ (i : Int)
      · right
        have hia : i = r.2.toNatClampNeg := by omega
        obtain ⟨F', o', g1, g2⟩ := m_oct1 hwr (by omega) (c := 59) (by decide)
        rw [if_pos p, g1, Option.bind_some]
        have hT : l ++ ([114, 111, 119] ++ ([32] ++ decI r.2)) ++ (pRowYears r 0 i).flatten ++ [59] = l ++ (pLaw (.inr (.inr (.inr r)))).flatten := by
          rw [hia]; simp [pLaw, pRow, L_row_]
        rw [hT] at g2
        exact ⟨_, rfl, g2.up (by omega), _, hT.symm⟩
      · left
        have hμ : (r.2.toInt - (iI ((i + 1 : Nat) : Int)).toInt).toNat < (r.2.toInt - (iI (i : Int)).toInt).toNat := by rw [iI_to ⟨by omega, by omega⟩, iI_to ⟨by omega, by omega⟩]; omega
        have hin : (iI (i : Int) + 1 : Int32) = iI ((i + 1 : Nat) : Int) := iI_add _ 1
        have hcl' : k_isLeap_Row r (nI i) = some (lLeap (.inr (.inr (.inr r))) (i : Int)) := by rw [nI_iI]; exact hcl (i : Int) ⟨by omega, by omega⟩
        rw [if_neg p, iI_J ⟨by omega, by omega⟩, hlv (i : Int) ⟨by omega, by omega⟩, Option.bind_some, hin]
        cases hlp : lLeap (.inr (.inr (.inr r))) (i : Int)
        · rw [if_neg (by decide)]
          refine ⟨_, rfl, ⟨i + 1, by omega, rfl, ?_⟩, hμ⟩
          rw [pRow_s, Nat.zero_add, pRowYear, hcl', hlp, if_neg (by decide), List.append_nil]
          exact hwr.up (by omega)
        · have hni : nOk (iI (i : Int)) := by unfold nOk; rw [iI_to ⟨by omega, by omega⟩]; omega
          have hdi : decI (iI (i : Int)) = dec i := by unfold decI; rw [iI_nat (by omega) (by omega), Int.toNat_natCast]
          obtain ⟨F', o', g1, g2⟩ := m_writes hwr (by omega) hni hn
          rw [if_pos rfl, g1, Option.bind_some]
          refine ⟨_, rfl, ⟨i + 1, by omega, rfl, ?_⟩, hμ⟩
          have hT : l ++ ([114, 111, 119] ++ ([32] ++ decI r.2)) ++ (pRowYears r 0 i).flatten ++ ([32] ++ decI (iI (i : Int))) = l ++ ([114, 111, 119] ++ ([32] ++ decI r.2)) ++ (pRowYears r 0 (i + 1)).flatten := by
            rw [pRow_s, Nat.zero_add, pRowYear, hcl', hlp, if_pos rfl, hdi]; simp
          have hlen := hwr.1.1
          have h3 := dec_3 (v := i) (by omega)
          rw [← hT]
          refine g2.dn ?_
          simp only [List.length_append, List.length_cons, List.length_nil, hdi] at hlen ⊢
          omega) n (0, F1, c1) ⟨0, by omega, rfl, by show WR F0 F1 c1 (_ ++ []) 38; rw [List.append_nil]; exact k1⟩ (by show (r.2.toInt - (iI 0).toInt).toNat < n; rw [iI_to ⟨by omega, by omega⟩]; omega)
    exact ⟨rr.1, rr.2, e1, e2⟩
theorem fits_ok : ∀ i : Nat, i < 128 → fits .byte (.int (iI (i : Int))) = true := by decide +kernel
theorem fits_c {c : Int32} (h : 0 ≤ c.toInt ∧ c.toInt < 128) : fits .byte (.int c) = true := by
  have := fits_ok c.toInt.toNat (by omega)
  rw [Int.toNat_of_nonneg h.1, iI_of] at this
  exact this
theorem bApps_ok : ∀ (ps : List (List Int32)) (sb : vSB), sbOk sb → sb.1 + ps.flatten.length ≤ 2400 → (∀ c ∈ ps.flatten, fits .byte (.int c) = true) → ∃ x, bApps sb ps = some x ∧ sbOk x ∧ x.1 = sb.1 + ps.flatten.length ∧ (∀ j, j < sb.1 → x.2.2.2 j = sb.2.2.2 j) ∧ ∀ j, j < ps.flatten.length → x.2.2.2 (sb.1 + j) = ps.flatten.getD j 0
  | [], sb, h, _, _ => ⟨sb, rfl, h, rfl, fun _ _ => rfl, fun j hj => absurd hj (Nat.not_lt_zero _)⟩
  | l :: ps, sb, h, hl, hf => by
    rw [List.flatten_cons] at hl hf ⊢
    rw [List.length_append] at hl ⊢
    have hle : sb.1 + l.length ≤ 2400 := by omega
    have hput := sbPut_ok h hle (fit_getD (fun c hc => hf c (List.mem_append_left _ hc)))
    obtain ⟨x, x1, x2, x3, x4, x5⟩ := bApps_ok ps (sbPut sb l) hput (by show sb.1 + l.length + _ ≤ 2400; omega) (fun c hc => hf c (List.mem_append_right _ hc))
    have x3' : x.1 = sb.1 + l.length + ps.flatten.length := x3
    have hens : ∀ k, k < sb.1 → (sbEns (sb.1 + l.length) sb).2.2.2 k = sb.2.2.2 k := fun k hk => by
      unfold sbEns
      by_cases q : sb.1 + l.length ≤ sb.2.1
      · rw [if_pos q]
      · rw [if_neg q]
        have := h.1
        show va_cpy sb.2.2.2 (fun _ => 0) 0 0 sb.2.1 k = _
        unfold va_cpy
        rw [if_pos ⟨Nat.zero_le _, by rw [Nat.zero_add]; exact Nat.lt_of_lt_of_le hk this⟩, Nat.zero_add, Nat.sub_zero]
    have hp : ∀ k, (sbPut sb l).2.2.2 k = if sb.1 ≤ k ∧ k < sb.1 + l.length then l.getD (0 + (k - sb.1)) 0 else (sbEns (sb.1 + l.length) sb).2.2.2 k := fun k => rfl
    refine ⟨x, by rw [bApps, if_pos hle]; exact x1, x2, by omega, fun j hj => ?_, fun j hj => ?_⟩
    · rw [x4 j (by show j < sb.1 + l.length; omega), hp, if_neg (by omega), hens j hj]
    · by_cases q : j < l.length
      · rw [x4 (sb.1 + j) (by show sb.1 + j < sb.1 + l.length; omega), hp, if_pos ⟨by omega, by omega⟩, getD_app_l q]
        congr 1; omega
      · have := x5 (j - l.length) (by omega)
        have e : sb.1 + j = (sbPut sb l).1 + (j - l.length) := by
          show sb.1 + j = sb.1 + l.length + (j - l.length)
          omega
        rw [getD_app_r (by omega), ← this, e]
theorem de_ok {d : vDes} (hd : vOk d) : deOk d := by
  obtain ⟨⟨f1, f2, f3, f4, f5, f6, f7, f8⟩, hl, ⟨t1, t2, t3, t4, t5⟩⟩ := hd
  refine ⟨⟨nOk_i ⟨by omega, by omega⟩, nOk_i ⟨by omega, by omega⟩, nOk_i ⟨by omega, by omega⟩, nOk_i ⟨by omega, by omega⟩, nOk_i ⟨by omega, by omega⟩, by omega, fun i hi => nOk_i (by have := f4 i hi; exact ⟨by omega, by omega⟩)⟩, ?_, ⟨nOk_i ⟨by omega, by omega⟩, nOk_i ⟨by omega, by omega⟩, nOk_i ⟨by omega, by omega⟩, nOk_i ⟨by omega, by omega⟩, nOk_i ⟨by omega, by omega⟩⟩⟩
  generalize d.2.1 = law at *
  match law, hl with
  | .inl _, hl => trivial
  | .inr (.inl e), hl =>
    obtain ⟨o1, o2, o3⟩ := hl
    exact ⟨nOk_i ⟨by omega, by omega⟩, nOk_i ⟨by omega, by omega⟩, nOk_i ⟨by omega, by omega⟩⟩
  | .inr (.inr (.inl a)), hl =>
    obtain ⟨o1, o2, o3⟩ := hl
    exact ⟨by omega, fun i hi => nOk_i (by have := o2 i hi; exact ⟨by omega, by omega⟩)⟩
  | .inr (.inr (.inr r)), hl =>
    have hl' := hl
    obtain ⟨o1, o2, o3, o4⟩ := hl
    have hrn : r.2.toNatClampNeg = r.2.toInt.toNat := by
      have := iI_nat (a := r.2.toInt) (by omega) (by omega)
      rw [iI_of] at this; exact this
    refine ⟨nOk_i ⟨by omega, by omega⟩, by omega, fun i hi => ⟨lLeap (.inr (.inr (.inr r))) (i : Int), ?_⟩⟩
    rw [nI_iI]
    exact c_leap (n := 7) hl' (y := (i : Int)) ⟨by omega, by omega⟩ (by omega)
theorem m_write {d : vDes} (hd : vOk d) {w : Nat → Int32} {s : Nat} (hs : s < 6) (hw : DR d w (442 * s)) (hthere : misThere w (iI (s : Int)) = some true) (F oc : Nat → Int32) {n : Nat} (hn : 250000 ≤ n) : ∃ F' oc', mwrite n F w oc (iI (s : Int)) = some (F' 16, F', oc') ∧ WR (upd F 0 0) F' oc' (pDes d).flatten 2000 := by
  have hb : 442 * s ≤ 35360 := by omega
  have hw' := hw
  obtain ⟨w0, w1, w2, w4, w5, w6, w7, w24, wl, w12, w13, w14, w15, w16⟩ := hw
  obtain ⟨⟨f1, f2, f3, f4, f5, f6, f7, f8⟩, _, ⟨t1, t2, t3, t4, t5⟩⟩ := id hd
  have h0 : WR (upd F 0 0) (upd (upd F 0 0) 16 0) oc [] 0 := ⟨⟨by simp, upd_at⟩, fun i hi => upd_ne hi, fun j hj => by simp at hj, fun c hc => by cases hc⟩
  obtain ⟨F1, c1, g1, k1⟩ := m_wordS wk_year h0 (Or.inl rfl) (by omega) hn
  obtain ⟨F2, c2, g2, k2⟩ := m_last k1 (by omega) (x := d.1.1) ⟨by omega, by omega⟩ hn
  obtain ⟨F3, c3, g3, k3⟩ := m_wordS wk_extra k2 (endS ..) (by omega) hn
  obtain ⟨F4, c4, g4, k4⟩ := m_last k3 (by omega) (x := d.1.2.1) ⟨by omega, by omega⟩ hn
  have hT4 : [] ++ [121, 101, 97, 114] ++ ([32] ++ (decI d.1.1 ++ [59])) ++ [101, 120, 116, 114, 97] ++ ([32] ++ (decI d.1.2.1 ++ [59])) = (pYear d.1).flatten := by
    simp [pYear, L_year_, L_Sextra_]
  rw [hT4] at k4
  have hE4 : ∃ m, (pYear d.1).flatten = m ++ [59] := ⟨[121, 101, 97, 114] ++ ([32] ++ (decI d.1.1 ++ [59])) ++ [101, 120, 116, 114, 97] ++ ([32] ++ decI d.1.2.1), by rw [← hT4]; simp⟩
  obtain ⟨F5, c5, g5, k5, hE5⟩ := m_law hd hb hw' k4 hE4 hn
  obtain ⟨F6, c6, g6, k6⟩ := m_wordS wk_months k5 (Or.inr hE5) (by omega) hn
  unfold mwrite
  rw [hthere, Option.bind_some, if_pos rfl, m_bank hs, Option.bind_some, g1, Option.bind_some, zck_t (watz (442 * s) 1 (by omega)), wat (442 * s) 1 (by omega), w1]
  dsimp only
  rw [g2, Option.bind_some]
  dsimp only
  rw [g3, Option.bind_some, zck_t (watz (442 * s) 2 (by omega)), wat (442 * s) 2 (by omega), w2]
  dsimp only
  rw [g4, Option.bind_some]
  dsimp only
  rw [g5, Option.bind_some]
  dsimp only
  rw [g6, Option.bind_some]
  dsimp only
  generalize hl6 : (pYear d.1).flatten ++ (pLaw d.2.1).flatten ++ [109, 111, 110, 116, 104, 115] = l6 at k6
  obtain ⟨r, e1, e2⟩ := zloop_inv (f := mwrite_77 n w (iI ((442 * s : Nat) : Int))) (R := fun s => ∃ i : Nat, i ≤ d.1.2.2.1.1 ∧ s.1 = iI (i : Int) ∧ WR (upd F 0 0) s.2.1 s.2.2 (l6 ++ (pMonths d.1.2.2.1.2 0 i).flatten) (1706 + 8 * i)) (S := fun r => r.1 = r.2.1 16 ∧ WR (upd F 0 0) r.2.1 r.2.2 (pDes d).flatten 2000) (fun s => ((d.1.2.2.1.1 : Int) - s.1.toInt).toNat) (by
    rintro ⟨t, G, o⟩ ⟨i, hi, ht, hwr⟩
    dsimp only at ht hwr
    subst ht
    unfold mwrite_77
    dsimp only
    rw [zck_t (watz (442 * s) 4 (by omega)), wat (442 * s) 4 (by omega), if_c (show (w (442 * s + 4) ≤ iI (i : Int)) = ((d.1.2.2.1.1 : Int) ≤ (i : Int)) by rw [w4, nI_iI]; exact iI_le ⟨by omega, by omega⟩ ⟨by omega, by omega⟩)]
    by_cases p : (d.1.2.2.1.1 : Int) ≤ (i : Int)
    · right
      have hiN : i = d.1.2.2.1.1 := by omega
      have hEm : ∃ m c, l6 ++ (pMonths d.1.2.2.1.2 0 i).flatten = m ++ [c] ∧ c ≠ 59 := by
        obtain ⟨j, hj⟩ : ∃ j, i = j + 1 := ⟨i - 1, by omega⟩
        obtain ⟨m, c, h1, h2⟩ := dec_last (d.1.2.2.1.2 j).toNatClampNeg
        refine ⟨l6 ++ ((pMonths d.1.2.2.1.2 0 j).flatten ++ ([32] ++ m)), c, ?_, h2⟩
        rw [hj, pMonths_s, Nat.zero_add]
        simp [decI, h1]
      obtain ⟨G1, o1, a1, b1⟩ := m_wordD wk_leap hwr hEm (by omega) hn
      obtain ⟨G2, o2, a2, b2⟩ := m_last b1 (by omega) (x := d.1.2.2.2.1) ⟨by omega, by omega⟩ hn
      obtain ⟨G3, o3, a3, b3⟩ := m_toldS wk_week b2 (endS ..) (by omega) (x := d.1.2.2.2.2.1) ⟨by omega, by omega⟩ hn
      obtain ⟨G4, o4, a4, b4⟩ := m_wordD wk_at b3 (endD1 ..) (by omega) hn
      obtain ⟨G5, o5, a5, b5⟩ := m_last b4 (by omega) (x := d.1.2.2.2.2.2) ⟨by omega, by omega⟩ hn
      obtain ⟨G6, o6, a6, b6⟩ := m_toldS wk_true b5 (endS ..) (by omega) (x := d.2.2.1) ⟨by omega, by omega⟩ hn
      obtain ⟨G7, o7, a7, b7⟩ := m_toldD wk_and b6 (endD1 ..) (by omega) (x := d.2.2.2.1) ⟨by omega, by omega⟩ hn
      obtain ⟨G8, o8, a8, b8⟩ := m_wordD wk_of b7 (endD2 ..) (by omega) hn
      obtain ⟨G9, o9, a9, b9⟩ := m_last b8 (by omega) (x := d.2.2.2.2.1) ⟨by omega, by omega⟩ hn
      obtain ⟨Ga, oa, aa, ba⟩ := m_toldS wk_begins b9 (endS ..) (by omega) (x := d.2.2.2.2.2.1) ⟨by omega, by omega⟩ hn
      obtain ⟨Gb, ob, ab, bb⟩ := m_wordD wk_of ba (endD1 ..) (by omega) hn
      obtain ⟨Gc, occ, ac, bc⟩ := m_last bb (by omega) (x := d.2.2.2.2.2.2) ⟨by omega, by omega⟩ hn
      rw [if_pos p, a1, Option.bind_some, zck_t (watz (442 * s) 5 (by omega)), wat (442 * s) 5 (by omega), w5]
      dsimp only
      rw [a2, Option.bind_some, zck_t (watz (442 * s) 6 (by omega)), wat (442 * s) 6 (by omega), w6]
      dsimp only
      rw [a3, Option.bind_some]
      dsimp only
      rw [a4, Option.bind_some, zck_t (watz (442 * s) 7 (by omega)), wat (442 * s) 7 (by omega), w7]
      dsimp only
      rw [a5, Option.bind_some, zck_t (watz (442 * s) 12 (by omega)), wat (442 * s) 12 (by omega), w12]
      dsimp only
      rw [a6, Option.bind_some, zck_t (watz (442 * s) 13 (by omega)), wat (442 * s) 13 (by omega), w13]
      dsimp only
      rw [a7, Option.bind_some]
      dsimp only
      rw [a8, Option.bind_some, zck_t (watz (442 * s) 14 (by omega)), wat (442 * s) 14 (by omega), w14]
      dsimp only
      rw [a9, Option.bind_some, zck_t (watz (442 * s) 15 (by omega)), wat (442 * s) 15 (by omega), w15]
      dsimp only
      rw [aa, Option.bind_some]
      dsimp only
      rw [ab, Option.bind_some, zck_t (watz (442 * s) 16 (by omega)), wat (442 * s) 16 (by omega), w16]
      dsimp only
      rw [ac, Option.bind_some]
      refine ⟨_, rfl, rfl, ?_⟩
      refine (?_ : (_ : List Int32) = (pDes d).flatten) ▸ bc.up (by omega)
      rw [← hl6, hiN]
      simp [pDes, pMW, pWeek, pTrue, L_months, L__leap_, L_Sweek_, L__at_, L_true_, L__and_, L__of_, L_Sbegins_]
    · left
      have hx : nOk (d.1.2.2.1.2 i) := by have := f4 i (by omega); exact ⟨by omega, by omega⟩
      obtain ⟨G1, o1, a1, b1⟩ := m_writes hwr (by omega) hx hn
      have hz24 := wat2z (442 * s) 24 (i : Int) (by omega) (by omega)
      have hw24 := wat2 (442 * s) 24 (i : Int) (by omega) (by omega)
      rw [Int.toNat_natCast] at hw24
      rw [if_neg p, zck_t hz24, hw24, w24 i (by omega), a1, Option.bind_some, show (iI (i : Int) + 1 : Int32) = iI ((i + 1 : Nat) : Int) from iI_add _ 1]
      refine ⟨_, rfl, ⟨i + 1, by omega, rfl, ?_⟩, ?_⟩
      · have hT : l6 ++ (pMonths d.1.2.2.1.2 0 i).flatten ++ ([32] ++ decI (d.1.2.2.1.2 i)) = l6 ++ (pMonths d.1.2.2.1.2 0 (i + 1)).flatten := by
          rw [pMonths_s, Nat.zero_add]; simp
        rw [← hT]; exact b1.up (by omega)
      · dsimp only; rw [iI_to ⟨by omega, by omega⟩, iI_to ⟨by omega, by omega⟩]; omega) n (0, F6, c6) ⟨0, by omega, rfl, by show WR (upd F 0 0) F6 c6 (l6 ++ []) 1706; rw [List.append_nil]; exact k6⟩ (by show ((d.1.2.2.1.1 : Int) - (iI 0).toInt).toNat < n; rw [iI_to ⟨by omega, by omega⟩]; omega)
  obtain ⟨r1, r2, r3⟩ := r
  refine ⟨r2, r3, ?_, e2.2⟩
  rw [e1]
  have := e2.1
  dsimp only at this
  rw [this]
theorem hc_write : HC_write Inv := by
  intro A tp dv cs cv jv bo hg lw sb F G tq w oc z0 h
  have hn := hn_f
  have hsb : sbOk sb := h.2.2.2.2.2.1
  unfold w_write
  rcases atD h.2.2.1 z0 with ⟨h1, h2⟩ | ⟨s, d, hs, rfl, hdv, h1, h2, h3, hd, hw⟩
  · unfold mwrite
    rw [h1, h2]
    exact ⟨_, _, rfl, rfl, rfl, h.thr, fun z hz => (by cases hz), Nat.le_refl _, hsb⟩
  · obtain ⟨F', oc', m1, m2⟩ := m_write hd hs hw h2 F oc hn
    obtain ⟨⟨k1, k2⟩, k3, k4, k5⟩ := m2
    obtain ⟨x, x1, x2, x3, x4, x5⟩ := bApps_ok (pDes d) (sbZero sb) (sbZero_ok hsb) (by show 0 + _ ≤ 2400; omega) (fun c hc => fits_c (k5 c hc))
    have x3' : x.1 = (pDes d).flatten.length := by rw [x3]; show 0 + _ = _; omega
    have hcap : sb.2.1 ≤ x.2.1 := bApps_mono (pDes d) (sbZero sb) x x1
    rw [h1, Option.bind_some, zO_s, x1, Option.bind_some, m1]
    refine ⟨_, _, rfl, rfl, ?_, ?_, fun z hz => ?_, hcap, hsb⟩
    · show nI x.1 = F' 16
      rw [k2, x3']
    · show Inv A tp dv cs cv jv bo hg lw x F' G tq w oc'
      obtain ⟨⟨t, t1, t2, t3, t4⟩, ⟨f1, f2⟩, d1, ⟨c, e, S, s1, ⟨s2, s3, s4⟩, s5⟩, j1, b1, b2, b4⟩ := h
      have kf : ∀ i, i ≠ 16 → i ≠ 0 → F' i = F i := fun i i1 i2 => (k3 i i1).trans (upd_ne i2)
      refine ⟨⟨t, t1, t2, (kf 2 (by omega) (by omega)).trans t3, t4⟩, ⟨f1.trans (kf 8 (by omega) (by omega)).symm, f2.trans (kf 9 (by omega) (by omega)).symm⟩, d1, ⟨c, e, S, s1, ⟨s2, (kf 14 (by omega) (by omega)).trans s3, s4⟩, s5⟩, ?_, x2, ⟨by omega, by rw [x3']; exact k2⟩, fun i hi => ?_⟩
      · cases jv with
        | none => exact (kf 20 (by omega) (by omega)).trans j1
        | some v => exact ⟨(kf 20 (by omega) (by omega)).trans j1.1, j1.2⟩
      · have hi' : i < (pDes d).flatten.length := by rw [← x3']; exact hi
        have e1 := x5 i hi'
        rw [show (sbZero sb).1 + i = i from Nat.zero_add i] at e1
        rw [k4 i hi', e1]
        refine ⟨rfl, ?_⟩
        apply k5
        rw [List.getD_eq_getElem?_getD, List.getElem?_eq_getElem hi']
        exact List.getElem_mem hi'
    · cases hz
      exact de_ok hd
