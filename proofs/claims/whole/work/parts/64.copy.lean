/-! ===== calls: copy, drop ===== -/
theorem c_isSlot {x : Int} (hx : b32 x) : k_isSlot (iI x) = some (decide (0 ≤ x ∧ x ≤ 5)) := by
  unfold k_isSlot
  rw [if_c (show (iI x < (0 : Int32)) = (x < 0) from iI_lt (b := 0) hx ⟨by omega, by omega⟩), if_c (show ((6 : Int32) ≤ iI x) = (6 ≤ x) from iI_le (a := 6) ⟨by omega, by omega⟩ hx)]
  by_cases q : x < 0
  · rw [if_pos q, decide_eq_false (by omega)]
  · rw [if_neg q]
    by_cases p : 6 ≤ x
    · rw [if_pos p, decide_eq_false (by omega)]
    · rw [if_neg p, decide_eq_true (by omega)]
theorem m_in5 {x : Int} (hx : b32 x) : misIn (iI x).toInt64 0 5 = some (decide (0 ≤ x ∧ x ≤ 5)) := by
  rw [iI_J hx, show (0 : Int64) = iJ 0 by decide +kernel, show (5 : Int64) = iJ 5 by decide +kernel]
  exact m_isIn (b32_64 hx) ⟨by omega, by omega⟩ ⟨by omega, by omega⟩
theorem m_bank {s : Nat} (hs : s < 6) : mbank (iI (s : Int)) = some (iI ((442 * s : Nat) : Int)) := by
  unfold mbank
  rw [show (442 : Int32) = iI 442 by decide +kernel, iI_mul]; congr 2
theorem cm_many {dv : Nat → Option vDes} {w : Nat → Int32} (hD : ∀ s, s < 6 → BR (dv s) w (442 * s)) {n : Nat} (hn : 250000 ≤ n) : ∃ r, w_designsThere n dv = some r ∧ mhowMany n w = some r := by
  have hl : ∃ r r', w_designsThere n dv = some r ∧ mhowMany n w = some r' ∧ r = r' := by
    unfold w_designsThere mhowMany
    refine zloop_sim (R := fun s t => ∃ i : Nat, i ≤ 6 ∧ s.2 = iI (i : Int) ∧ t = s) (fun s => 6 - s.2.toNatClampNeg) ?_ n n (0, 0) (0, 0) ⟨0, by omega, rfl, rfl⟩ (by show 6 - (iI 0).toNatClampNeg < n; omega) (by show 6 - (iI 0).toNatClampNeg < n; omega)
    rintro ⟨a, b⟩ t ⟨i, hi, hb, rfl⟩
    dsimp only at hb
    subst hb
    unfold w_designsThere_4 mhowMany_4 w_designsThere_22
    dsimp only
    rw [if_c (show ((6 : Int32) ≤ iI (i : Int)) = (6 ≤ (i : Int)) from iI_le (a := 6) ⟨by omega, by omega⟩ ⟨by omega, by omega⟩), if_c (show ((6 : Int32) ≤ iI (i : Int)) = (6 ≤ (i : Int)) from iI_le (a := 6) ⟨by omega, by omega⟩ ⟨by omega, by omega⟩)]
    by_cases p : 6 ≤ (i : Int)
    · right; rw [if_pos p, if_pos p]; exact ⟨_, _, rfl, rfl, rfl⟩
    · left
      rw [if_neg p, if_neg p, m_bank (by omega), Option.bind_some, zck_t (watz (442 * i) 0 (by omega)), wat (442 * i) 0 (by omega), zck_t (iI_zin (by omega) (by omega) (by omega)), iI_nat (by omega) (by omega), Int.toNat_natCast, show (iI (i : Int) + 1 : Int32) = iI ((i + 1 : Nat) : Int) from iI_add _ 1]
      have hB := hD i (by omega)
      have hμ : 6 - (iI ((i + 1 : Nat) : Int)).toNatClampNeg < 6 - i := by rw [iI_nat (by omega) (by omega)]; omega
      cases hd : dv i with
      | none =>
        rw [hd] at hB
        rw [show w (442 * i + 0) = 0 from hB, Int32.add_zero]
        exact ⟨_, _, rfl, rfl, ⟨i + 1, by omega, rfl, rfl⟩, hμ⟩
      | some d =>
        rw [hd] at hB
        rw [show w (442 * i + 0) = 1 from hB.2.1]
        exact ⟨_, _, rfl, rfl, ⟨i + 1, by omega, rfl, rfl⟩, hμ⟩
  obtain ⟨r, r', e1, e2, e3⟩ := hl
  exact ⟨r, e1, by rw [e2, e3]⟩
theorem hc_copy : HC_copy Inv := by
  intro A tp dv cs cv jv bo hg lw sb F G tq w oc z0 z1 h
  have hn := hn_f
  unfold w_copy mcopy
  obtain ⟨x, hx, rfl⟩ := ex32 z0
  rw [m_in5 hx, Option.bind_some]
  rcases atD h.2.2.1 z1 with ⟨h1, h2⟩ | ⟨s1, d, hs1, rfl, hdv, h1, h2, h3, hd, hw⟩
  · simp only [h1, h2, c_isSlot hx, Option.bind_some, zO_n, ite_self]
    by_cases q : 0 ≤ x ∧ x ≤ 5
    · rw [if_pos (decide_eq_true q), if_neg (by decide)]; exact ⟨_, _, rfl, rfl, rfl, h.thr⟩
    · rw [if_neg (dneg q)]; exact ⟨_, _, rfl, rfl, rfl, h.thr⟩
  · simp only [h1, h2, c_isSlot hx, Option.bind_some, zO_s, ↓reduceIte]
    by_cases q : 0 ≤ x ∧ x ≤ 5
    · rw [if_pos (decide_eq_true q), if_pos (decide_eq_true q)]
      obtain ⟨s, hsx⟩ : ∃ s : Nat, x = s := ⟨x.toNat, by omega⟩
      subst hsx
      have hs : s < 6 := by omega
      rw [if_c (iI_eq (a := (s : Int)) (b := (s1 : Int)) hx ⟨by omega, by omega⟩), if_c (iI_eq (a := (s : Int)) (b := (s1 : Int)) hx ⟨by omega, by omega⟩)]
      by_cases p : (s : Int) = (s1 : Int)
      · rw [if_pos p, if_pos p]; exact ⟨_, _, rfl, rfl, rfl, h.thr⟩
      · rw [if_neg p, if_neg p]
        obtain ⟨c, e, S, ⟨s1a, s1b⟩, ⟨a8, f14, a7⟩, hU⟩ := h.2.2.2.1
        obtain ⟨A', k1, k2, k3, k4⟩ := c_change (dv := dv) (cs := cs) (cv := cv) hs s1a s1b a7 a8 (some d)
        obtain ⟨F', w', ε, m1, m2, m3, m4, m5, m6, m7⟩ := m_changes (F := upd F 0 0) (w := w) s1a (show (upd F 0 0) 14 = nI c from f14) hn
        obtain ⟨w2, n1, n2, n3⟩ := m_copies (w := w') (to := 442 * s) (fr := 442 * s1) (by omega) (by omega) (by omega) hn
        rw [k1, m1]
        simp only [Option.bind_some, m_bank hs, m_bank hs1, n1]
        refine ⟨_, _, rfl, rfl, rfl, h.chg hs s1a s1b hU m2 k2 (by rw [m2]; exact k3) k4 m3 (fun i h1 h2 => (m4 i h1).trans (upd_ne h2)) (fun i i1 i2 _ => (n3 i (by omega)).trans (m5 i i1)) (fun k hk => (n3 _ (by omega)).trans (m6 k hk)) (fun j hj k hk => (n3 _ (by omega)).trans (m7 j hj k hk)) ⟨hd, DR_congr hd (fun k hk => (n2 k hk).trans (m5 _ (by omega))) hw⟩⟩
    · rw [if_neg (dneg q), if_neg (dneg q)]; exact ⟨_, _, rfl, rfl, rfl, h.thr⟩
theorem hc_drop : HC_drop Inv := by
  intro A tp dv cs cv jv bo hg lw sb F G tq w oc z0 h
  have hn := hn_f
  unfold w_drop mdrop
  rcases atD h.2.2.1 z0 with ⟨h1, h2⟩ | ⟨s, d, hs, rfl, hdv, h1, h2, h3, hd, hw⟩
  · rw [h1, h2]; exact ⟨_, _, rfl, rfl, rfl, h.thr⟩
  · obtain ⟨c, e, S, ⟨s1a, s1b⟩, ⟨a8, f14, a7⟩, hU⟩ := h.2.2.2.1
    obtain ⟨A', k1, k2, k3, k4⟩ := c_change (dv := dv) (cs := cs) (cv := cv) hs s1a s1b a7 a8 none
    obtain ⟨F', w', ε, m1, m2, m3, m4, m5, m6, m7⟩ := m_changes (F := upd F 0 0) (w := w) s1a (show (upd F 0 0) 14 = nI c from f14) hn
    have hI := h.chg (o := none) (w' := upd w' (442 * s + 0) 0) hs s1a s1b hU m2 k2 (by rw [m2]; exact k3) k4 m3 (fun i h1 h2 => (m4 i h1).trans (upd_ne h2)) (fun i i1 i2 _ => (upd_ne (by omega)).trans (m5 i i1)) (fun k hk => (upd_ne (by omega)).trans (m6 k hk)) (fun j hj k hk => (upd_ne (by omega)).trans (m7 j hj k hk)) upd_at
    obtain ⟨r, e1, e2⟩ := cm_many hI.2.2.1 hn
    rw [h1, h2, Option.bind_some, Option.bind_some, if_pos rfl, m1, zO_s, k1]
    simp only [Option.bind_some, h3, zck_t (watz (442 * s) 0 (by omega)), wat (442 * s) 0 (by omega), e1, e2]
    exact ⟨_, _, rfl, rfl, rfl, hI⟩
