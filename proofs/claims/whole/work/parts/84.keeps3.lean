/-! ===== calls: keeps, both sides ===== -/
theorem evd_turn {d : vDes} (hd : vOk d) {k m : Int32} (hm : 1 ≤ m.toInt ∧ m.toInt ≤ 1000) (hk : 0 ≤ k.toInt ∧ k.toInt ≤ m.toInt) {j y : Int} (hy : 0 ≤ y) : slp (evd d k m (k.toInt * j % m.toInt)) y = slp (evd d k m 0) (y + j) - slp (evd d k m 0) j := by
  have h1 := Int.emod_nonneg (k.toInt * j) (show m.toInt ≠ 0 by omega)
  have h2 := Int.emod_lt_of_pos (k.toInt * j) (show 0 < m.toInt by omega)
  have hlp : ∀ y : Int, 0 ≤ y → lLeap (evd d k m (k.toInt * j % m.toInt)).2.1 y = lLeap (evd d k m 0).2.1 (y + j) := fun y _ => by
    rw [evd_leap d k m (t := k.toInt * j % m.toInt) ⟨h1, by omega⟩, evd_leap d k m (t := 0) ⟨by omega, by omega⟩]
    exact decide_eq_decide.mpr (by rw [ev_turn])
  have o1 : lOk (evd d k m (k.toInt * j % m.toInt)).2.1 := (evd_ok hd hm hk ⟨h1, h2⟩).2.1
  have o2 : lOk (evd d k m 0).2.1 := (evd_ok hd hm hk ⟨by omega, by omega⟩).2.1
  exact slp_turn (d := evd d k m (k.toInt * j % m.toInt)) (e := evd d k m 0) (j := j) o1 o2 rfl rfl hlp hy
theorem farS_to {d : vDes} (hd : vOk d) {k m : Int32} (hm : 1 ≤ m.toInt ∧ m.toInt ≤ 1000) (hk : 0 ≤ k.toInt ∧ k.toInt ≤ m.toInt) (j y : Int) (hy : 0 ≤ y) : (((tG (evd d k m 0).2.2 * slp (evd d k m 0) (j + y)) - (tG (evd d k m 0).2.2 * slp (evd d k m 0) j) - tG (evd d k m 0).2.2 * tB (evd d k m 0).2.2).natAbs : Int) = tG d.2.2 * ((dri (evd d k m (k.toInt * j % m.toInt)) y).natAbs : Int) := by
  obtain ⟨f1, _⟩ := t_facts hd.2.2
  rw [← gabs f1.1, dri_slp, evd_turn hd hm hk hy, Int.add_comm j y]
  congr 1
  show ((tG d.2.2 * slp (evd d k m 0) (y + j)) - (tG d.2.2 * slp (evd d k m 0) j) - tG d.2.2 * tB d.2.2).natAbs = (tG d.2.2 * (slp (evd d k m 0) (y + j) - slp (evd d k m 0) j - tB d.2.2)).natAbs
  congr 1
  grind
theorem farS_1 {d : vDes} (hd : vOk d) {k m : Int32} (hm : 1 ≤ m.toInt ∧ m.toInt ≤ 1000) (hk : 0 ≤ k.toInt ∧ k.toInt ≤ m.toInt) {j v : Int} (h : isFar (evd d k m (k.toInt * j % m.toInt)) v) : isFarS (fun y => tG (evd d k m 0).2.2 * slp (evd d k m 0) y) m.toInt (tG (evd d k m 0).2.2 * tB (evd d k m 0).2.2) j (tG d.2.2 * v) := by
  obtain ⟨f1, _⟩ := t_facts hd.2.2
  obtain ⟨h1, y, h2, h3, h4⟩ := h
  refine ⟨fun y y0 y1 => ?_, y, h2, h3, ?_⟩
  · dsimp only
    rw [farS_to hd hm hk j y y0]
    exact Int.mul_le_mul_of_nonneg_left (h1 y y0 y1) (by omega)
  · dsimp only
    rw [farS_to hd hm hk j y h2, h4]
theorem farS_2 {d : vDes} (hd : vOk d) {k m : Int32} (hm : 1 ≤ m.toInt ∧ m.toInt ≤ 1000) (hk : 0 ≤ k.toInt ∧ k.toInt ≤ m.toInt) {j W : Int} (h : isFarS (fun y => tG (evd d k m 0).2.2 * slp (evd d k m 0) y) m.toInt (tG (evd d k m 0).2.2 * tB (evd d k m 0).2.2) j W) : ∃ v, W = tG d.2.2 * v ∧ isFar (evd d k m (k.toInt * j % m.toInt)) v := by
  obtain ⟨f1, _⟩ := t_facts hd.2.2
  obtain ⟨h1, y, h2, h3, h4⟩ := h
  dsimp only at h1 h4
  rw [farS_to hd hm hk j y h2] at h4
  refine ⟨_, h4.symm, fun z z0 z1 => ?_, y, h2, h3, rfl⟩
  have := h1 z z0 z1
  rw [farS_to hd hm hk j z z0, ← h4] at this
  exact Int.le_of_mul_le_mul_left this (by omega)
theorem far_low {d : vDes} (hd : vOk d) {k m : Int32} (hm : 1 ≤ m.toInt ∧ m.toInt ≤ 1000) (hk : 0 ≤ k.toInt ∧ k.toInt ≤ m.toInt) {g t v : Int} (hg : g = (Int.gcd k.toInt m.toInt : Int)) (hg1 : 1 ≤ g) (ht : 0 ≤ t ∧ t < m.toInt) (h : isFar (evd d k m t) v) : isFar (evd d k m (g * (t / g))) v := by
  have h1 := Int.mul_ediv_add_emod t g
  have h2 := Int.emod_nonneg t (show g ≠ 0 by omega)
  have h3 := Int.emod_lt_of_pos t (show 0 < g by omega)
  have h4 : 0 ≤ g * (t / g) := Int.mul_nonneg (by omega) (Int.ediv_nonneg ht.1 (by omega))
  have hdr : ∀ y, 0 ≤ y → dri (evd d k m (g * (t / g))) y = dri (evd d k m t) y := fun y hy => by
    have := slp_turn (d := evd d k m (g * (t / g))) (e := evd d k m t) (j := 0) (evd_ok hd hm hk ⟨h4, by omega⟩).2.1 (evd_ok hd hm hk ht).2.1 rfl rfl (fun y _ => by
      rw [evd_leap d k m ⟨h4, by omega⟩, evd_leap d k m ⟨by omega, by omega⟩, Int.add_zero]
      exact decide_eq_decide.mpr (by rw [← ev_low hg1 (by rw [hg]; exact Int.gcd_dvd_left ..) (by rw [hg]; exact Int.gcd_dvd_right ..) hm.1 ht.1])) hy
    rw [dri_slp, dri_slp, this, Int.add_zero]
    have e0 : slp (evd d k m t) 0 = 0 := by
      unfold slp sta
      rw [lTo_0 (evd_ok hd hm hk ht).2.1]
      simp
    rw [e0]
    show slp (evd d k m t) y - 0 - tB d.2.2 = slp (evd d k m t) y - tB d.2.2
    omega
  obtain ⟨a1, y, a2, a3, a4⟩ := h
  exact ⟨fun z z0 z1 => by rw [hdr z z0]; exact a1 z z0 z1, y, a2, a3, by rw [hdr y a2]; exact a4⟩
theorem m_keepLoop {d : vDes} (hd : vOk d) {k m t0 : Int32} (hl : d.2.1 = .inr (.inl (k, m, t0))) {w wc : Nat → Int32} {b : Nat} (hb : b ≤ 2210) (hw : DR d w b) (hc1 : ∀ i, i < 442 → wc (2652 + i) = w (b + i)) (hc2 : ∀ i, i < 2652 ∨ 3094 ≤ i → wc i = w i) (F : Nat → Int32) {n : Nat} (hn : 250000 ≤ n) : ∃ (bt bf : Int) (w' : Nat → Int32), zloop (mkeeps_48 n F) n (0, 0, 0, wc) = some (iI bt, F, w') ∧ (0 ≤ bt ∧ bt < m.toInt) ∧ isFar (evd d k m bt) bf ∧ (∀ t : Int, 0 ≤ t → t < m.toInt → ∀ v, isFar (evd d k m t) v → bf ≤ v ∧ (t < bt → bf < v)) ∧ ∀ i, i < 2652 ∨ 3094 ≤ i → w' i = w i := by
  have hlo := hd.2.1
  rw [hl] at hlo
  obtain ⟨hm, hk, _⟩ := hlo
  dsimp only at hm hk
  obtain ⟨w0, w1, w2, w4, w5, w6, w7, w24, wl, w12, w13, w14, w15, w16⟩ := hw
  rw [hl] at wl
  obtain ⟨l3, l9, l10, l11, l8⟩ := wl
  dsimp only at l9 l10 l11 l8
  obtain ⟨r, e1, bt, bf, w', e2, e3⟩ := zloop_inv (f := mkeeps_48 n F) (R := fun s => ∃ (t bt bf : Int) (w' : Nat → Int32), (0 ≤ t ∧ t ≤ m.toInt) ∧ s = (iI bt, iJ bf, iI t, w') ∧ (∀ i, i < 442 → i ≠ 11 → w' (2652 + i) = w (b + i)) ∧ (∀ i, i < 2652 ∨ 3094 ≤ i → w' i = w i) ∧ ((t = 0 ∧ bt = 0 ∧ bf = 0) ∨ ((0 ≤ bt ∧ bt < t) ∧ (0 ≤ bf ∧ bf ≤ 410000000000000000) ∧ isFar (evd d k m bt) bf ∧ ∀ t' : Int, 0 ≤ t' → t' < t → ∀ v, isFar (evd d k m t') v → bf ≤ v ∧ (t' < bt → bf < v)))) (S := fun r => ∃ (bt bf : Int) (w' : Nat → Int32), r = (iI bt, F, w') ∧ (0 ≤ bt ∧ bt < m.toInt) ∧ isFar (evd d k m bt) bf ∧ (∀ t : Int, 0 ≤ t → t < m.toInt → ∀ v, isFar (evd d k m t) v → bf ≤ v ∧ (t < bt → bf < v)) ∧ ∀ i, i < 2652 ∨ 3094 ≤ i → w' i = w i) (fun s => (m.toInt - s.2.2.1.toInt).toNat) (by
    rintro s ⟨t, bt, bf, w', ht, rfl, hw1, hw2, hph⟩
    have h10 : w' 2662 = iI m.toInt := by rw [show 2662 = 2652 + 10 from rfl, hw1 10 (by omega) (by omega), l10, iI_of]
    unfold mkeeps_48
    dsimp only
    rw [zck_t (by decide +kernel), show (2662 : Int32).toNatClampNeg = 2662 by decide +kernel, if_c (show (w' 2662 ≤ iI t) = (m.toInt ≤ t) by rw [h10, iI_le ⟨by omega, by omega⟩ ⟨by omega, by omega⟩])]
    by_cases p : m.toInt ≤ t
    · right
      rw [if_pos p]
      rcases hph with ⟨z, _⟩ | ⟨a1, a2, a3, a4⟩
      · omega
      · exact ⟨_, rfl, bt, bf, w', rfl, ⟨a1.1, by omega⟩, a3, fun t' b0 b1 v hv => a4 t' b0 (by omega) v hv, hw2⟩
    · left
      have hat : ∀ i, i < 442 → i ≠ 11 → upd w' 2663 (iI t) (2652 + i) = w (b + i) := fun i i0 i1 => (upd_ne (by omega)).trans (hw1 i i0 i1)
      have hdt := evd_ok hd hm hk (t := t) ⟨by omega, by omega⟩
      have hDR : DR (evd d k m t) (upd w' 2663 (iI t)) 2652 := by
        refine ⟨(hat 0 (by omega) (by omega)).trans w0, (hat 1 (by omega) (by omega)).trans w1, (hat 2 (by omega) (by omega)).trans w2, (hat 4 (by omega) (by omega)).trans w4, (hat 5 (by omega) (by omega)).trans w5, (hat 6 (by omega) (by omega)).trans w6, (hat 7 (by omega) (by omega)).trans w7, fun i hi => ?_, ⟨(hat 3 (by omega) (by omega)).trans l3, (hat 9 (by omega) (by omega)).trans l9, (hat 10 (by omega) (by omega)).trans l10, upd_at, (hat 8 (by omega) (by omega)).trans l8⟩, (hat 12 (by omega) (by omega)).trans w12, (hat 13 (by omega) (by omega)).trans w13, (hat 14 (by omega) (by omega)).trans w14, (hat 15 (by omega) (by omega)).trans w15, (hat 16 (by omega) (by omega)).trans w16⟩
        have hN := hd.1.2.2.1
        have hi' : i < d.1.2.2.1.1 := hi
        have := hat (24 + i) (by omega) (by omega)
        rw [← Nat.add_assoc, ← Nat.add_assoc] at this
        exact this.trans (w24 i hi)
      obtain ⟨v, bv, v1, v2⟩ := m_far hdt (by omega) hDR hn
      have hw1' : ∀ i, i < 442 → i ≠ 11 → upd w' 2663 (iI t) (2652 + i) = w (b + i) := hat
      have hw2' : ∀ i, i < 2652 ∨ 3094 ≤ i → upd w' 2663 (iI t) i = w i := fun i hi => (upd_ne (by omega)).trans (hw2 i hi)
      have hμ : (m.toInt - (iI (t + 1)).toInt).toNat < (m.toInt - (iI t).toInt).toNat := by rw [iI_to ⟨by omega, by omega⟩, iI_to ⟨by omega, by omega⟩]; omega
      rw [if_neg p, zck_t (by decide +kernel), show (2663 : Int32).toNatClampNeg = 2663 by decide +kernel, show (2652 : Int32) = iI ((2652 : Nat) : Int) by decide +kernel, v1, Option.bind_some, if_c (show (iI t ≤ (0 : Int32)) = (t ≤ 0) from iI_le (b := 0) ⟨by omega, by omega⟩ ⟨by omega, by omega⟩)]
      unfold mkeeps_95 mkeeps_101
      rw [show (iI t + 1 : Int32) = iI (t + 1) from iI_add _ 1]
      by_cases q : t ≤ 0
      · rw [if_pos q]
        refine ⟨_, rfl, ⟨t + 1, t, v, _, ⟨by omega, by omega⟩, rfl, hw1', hw2', Or.inr ⟨⟨by omega, by omega⟩, bv, v2, fun t' b0 b1 u hu => ?_⟩⟩, hμ⟩
        have : t' = t := by omega
        subst this
        have := isFar_u v2 hu
        omega
      · rw [if_neg q]
        rcases hph with ⟨z, _⟩ | ⟨a1, a2, a3, a4⟩
        · omega
        · rw [if_c (iJ_lt ⟨by omega, by omega⟩ ⟨by omega, by omega⟩)]
          by_cases c : v < bf
          · rw [if_pos c]
            refine ⟨_, rfl, ⟨t + 1, t, v, _, ⟨by omega, by omega⟩, rfl, hw1', hw2', Or.inr ⟨⟨by omega, by omega⟩, bv, v2, fun t' b0 b1 u hu => ?_⟩⟩, hμ⟩
            by_cases e : t' = t
            · subst e
              have := isFar_u v2 hu
              omega
            · have := a4 t' b0 (by omega) u hu; omega
          · rw [if_neg c]
            refine ⟨_, rfl, ⟨t + 1, bt, bf, _, ⟨by omega, by omega⟩, rfl, hw1', hw2', Or.inr ⟨⟨by omega, by omega⟩, a2, a3, fun t' b0 b1 u hu => ?_⟩⟩, hμ⟩
            by_cases e : t' = t
            · subst e
              have := isFar_u v2 hu
              omega
            · exact a4 t' b0 (by omega) u hu) n (0, 0, 0, wc) ⟨0, 0, 0, wc, ⟨by omega, by omega⟩, rfl, fun i i0 _ => hc1 i i0, hc2, Or.inl ⟨rfl, rfl, rfl⟩⟩ (by show (m.toInt - (iI 0).toInt).toNat < n; rw [iI_to ⟨by omega, by omega⟩]; omega)
  exact ⟨bt, bf, w', by rw [e1, e2], e3⟩
/-- the reference's draft doesn't matter -/
theorem Inv.drf {A tp : Nat → Int32} {dv : Nat → Option vDes} {cs : Nat → Int32} {cv : Nat → Option vDes} {jv : Option vJoint} {bo bo' : Option (Nat → Int32)} {hg lw hg' lw' : Option (Nat → Int64)} {sb : vSB} {F : Nat → Int32} {G : Nat → Int64} {tq w w' oc : Nat → Int32} (h : Inv A tp dv cs cv jv bo hg lw sb F G tq w oc) (hw : ∀ i, i < 2652 ∨ 3094 ≤ i → w' i = w i) : Inv A tp dv cs cv jv bo' hg' lw' sb F G tq w' oc := by
  obtain ⟨t1, f1, d1, ⟨c, e, S, s1, s2, s5, s6⟩, j1, b1⟩ := h
  refine ⟨t1, f1, fun s hs => BR_congr (fun k hk => hw _ (by omega)) (d1 s hs), ⟨c, e, S, s1, s2, s5, fun j hj => ⟨(s6 j hj).1, fun s hs => BR_congr (fun k hk => hw _ (by omega)) ((s6 j hj).2 s hs)⟩⟩, JR_congr rfl (fun i i0 i1 => hw i (by omega)) j1, b1⟩
theorem hc_keeps : HC_keeps Inv := by
  intro A tp dv cs cv jv bo hg lw sb F G tq w oc z0 h
  have hn := hn_f
  unfold w_keeps mkeeps
  rcases atD h.2.2.1 z0 with ⟨h1, h2⟩ | ⟨s, d, hs, rfl, hdv, h1, h2, h3, hd, hw⟩
  · rw [h1, h2]; exact ⟨_, _, rfl, rfl, rfl, h.thr⟩
  · simp only [h1, h2, h3, Option.bind_some, zO_s, ↓reduceIte]
    rw [zck_t (watz (442 * s) 3 (by omega)), wat (442 * s) 3 (by omega)]
    have wl := hw.2.2.2.2.2.2.2.2.1
    generalize hl : d.2.1 = law at *
    match law, hl, wl with
    | .inl _, hl, wl => rw [wl.1]; exact ⟨_, _, rfl, rfl, rfl, h.thr⟩
    | .inr (.inr (.inl a)), hl, wl => rw [wl.1]; exact ⟨_, _, rfl, rfl, rfl, h.thr⟩
    | .inr (.inr (.inr r)), hl, wl => rw [wl.1]; exact ⟨_, _, rfl, rfl, rfl, h.thr⟩
    | .inr (.inl (k, m, t0)), hl, wl =>
      have hlo := hd.2.1
      rw [hl] at hlo
      obtain ⟨hm, hk, _⟩ := hlo
      dsimp only at hm hk
      obtain ⟨wc, n1, n2, n3⟩ := m_copies (w := w) (to := 2652) (fr := 442 * s) (by omega) (by omega) (by omega) hn
      obtain ⟨bt, bf, w', m1, m2, m3, m4, m5⟩ := m_keepLoop hd hl (by omega) hw n2 (fun i hi => n3 i (by omega)) (upd F 0 0) hn
      rw [wl.1, if_pos rfl, show (2652 : Int32) = iI ((2652 : Nat) : Int) by decide +kernel, n1, Option.bind_some, m1]
      show ∃ rx ry, (k_newEven k m 0).bind (fun v18 => (k_withLaw d (.inr (.inl v18))).bind (fun v21 => (w_keepingShift fuel hg lw v21 k m).bind (fun v25 => some (v25.1, v25.2.1, v25.2.2)))) = some rx ∧ _
      have hmI : m = iI m.toInt := (iI_of m).symm
      have hkI : k = iI k.toInt := (iI_of k).symm
      have hmx : j_maxI 1 m = some m := by
        have := c_max1 (x := m.toInt) ⟨by omega, by omega⟩ hm.1
        rw [iI_of] at this; exact this
      unfold k_newEven k_withLaw k_newDes
      rw [hmx]
      simp only [Option.bind_some]
      have hd0 := evd_ok hd hm hk (t := 0) ⟨by omega, by omega⟩
      have hd0e : (d.1, (.inr (.inl (k, m, 0)) : vLaw), d.2.2) = evd d k m 0 := rfl
      rw [hd0e]
      obtain ⟨hh, ll, c1, c2⟩ := c_heads hd0 (N := m.toInt) hm hg lw hn
      have hgp : 1 ≤ Int.gcd k.toInt m.toInt := Int.gcd_pos_of_ne_zero_right _ (by omega)
      have hgm : (Int.gcd k.toInt m.toInt : Int) ≤ m.toInt := by
        have : Int.gcd k.toInt m.toInt ≤ m.toInt.natAbs := Nat.gcd_le_right _ (by omega)
        omega
      generalize hge : (Int.gcd k.toInt m.toInt : Int) = g at *
      have hst : 1 ≤ m.toInt / g ∧ m.toInt / g ≤ m.toInt := by
        have e1 := (Int.le_ediv_iff_mul_le (show 0 < g by omega) (a := 1) (b := m.toInt)).mpr (by omega)
        have e2 := Int.ediv_le_self (b := g) (a := m.toInt) (by omega)
        omega
      obtain ⟨kp, le, j0, k1, ⟨k2, k3, k4⟩, k5⟩ := c_keepLoop hd0 (N := m.toInt) (k := k.toInt) (st := m.toInt / g) hm ⟨by omega, by omega⟩ hst c2 hn
      have hkeep : w_keepingShift fuel hg lw (evd d k m 0) k m = some (iI kp, some hh, some ll) := by
        unfold w_keepingShift
        have u3 := (c_units hd0.2.2).2.2
        have hgj := c_gcd (a := k.toInt) (b := m.toInt) ⟨by omega, by omega⟩ (by omega) ⟨by omega, by omega⟩ (by omega) (by omega) hn
        rw [hge] at hgj
        rw [if_c (show (m ≤ (1000 : Int32)) = (m.toInt ≤ 1000) by rw [hmI, iI_to ⟨by omega, by omega⟩]; exact iI_le (b := 1000) ⟨by omega, by omega⟩ ⟨by omega, by omega⟩), if_pos hm.2]
        have c1' : w_fillHeads fuel hg lw (evd d k m 0) m = some (some hh, some ll) := by rw [iI_of] at c1; exact c1
        have hm1 : (m - 1 : Int32) = iI (m.toInt - 1) := by rw [← iI_sub, iI_of]; rfl
        have hdiv : m / iI g = iI (m.toInt / g) := by
          have := iI_div (a := m.toInt) (b := g) ⟨by omega, by omega⟩ (by omega) ⟨by omega, by omega⟩
          rw [iI_of, tdiv_pos (by omega), if_pos (by omega)] at this
          exact this
        have hnz : decide (¬ iI g = 0) = true := by rw [decide_eq_true_eq]; show ¬ iI g = iI 0; rw [iI_eq ⟨by omega, by omega⟩ ⟨by omega, by omega⟩]; omega
        rw [c1', Option.bind_some, e64, e64, hgj, Option.bind_some, iJ_I, zck_t hnz, u3, Option.bind_some, hm1, c_slip hd0 ⟨by omega, by omega⟩ (by omega), Option.bind_some, hdiv]
        rw [iI_of, iI_of] at k1
        exact k1
      rw [hkeep, Option.bind_some]
      refine ⟨_, _, rfl, rfl, ?_, ?_⟩
      · show iI kp = iI bt
        have hg1 : 1 ≤ g := by omega
        have f1 := (t_facts hd.2.2).1
        have a1 := far_low hd hm hk hge.symm hg1 m2 m3
        have a2 := Int.mul_ediv_add_emod bt g
        have a3 := Int.emod_nonneg bt (show g ≠ 0 by omega)
        have a4 : 0 ≤ g * (bt / g) := Int.mul_nonneg (by omega) (Int.ediv_nonneg m2.1 (by omega))
        have a5 := m4 (g * (bt / g)) a4 (by omega) bf a1
        have a6 : g * (bt / g) = bt := by omega
        obtain ⟨j1, b1, b2, b3⟩ := cover (k := k.toInt) (n := m.toInt) (g := g) (q := bt / g) hk.1 hm.1 hge.symm (Int.ediv_nonneg m2.1 (by omega)) (by omega)
        rw [a6] at b3
        have a7 := k5 j1 b1 b2 (tG d.2.2 * bf) (farS_1 hd hm hk (by rw [b3]; exact m3))
        obtain ⟨v0, c3, c4⟩ := farS_2 hd hm hk k4
        rw [← k3] at c4
        have hs0 := Int.emod_nonneg (k.toInt * j0) (show m.toInt ≠ 0 by omega)
        have hs1 := Int.emod_lt_of_pos (k.toInt * j0) (show 0 < m.toInt by omega)
        have a8 := m4 kp (by omega) (by omega) v0 c4
        rw [b3, c3] at a7
        have a9 : kp = bt := by
          rcases a7 with a7 | ⟨a7, a7'⟩
          · have := Int.lt_of_mul_lt_mul_left a7 (show 0 ≤ tG d.2.2 by omega); omega
          · have := Int.eq_of_mul_eq_mul_left (show tG d.2.2 ≠ 0 by omega) a7
            omega
        rw [a9]
      · exact h.thr.drf m5
