/-! ===== calls: has ===== -/
theorem LR_sort {v : vLaw} {w : Nat → Int32} {b : Nat} (h : LR v w b) : d_sort v = some (w (b + 3)) := by
  match v, h with
  | .inl _, h => rw [h.1]; rfl
  | .inr (.inl e), h => rw [h.1]; rfl
  | .inr (.inr (.inl a)), h => rw [h.1]; rfl
  | .inr (.inr (.inr r)), h => rw [h.1]; rfl
theorem cm_inCyc {d : vDes} (hd : vOk d) {w : Nat → Int32} {b : Nat} (hb : b ≤ 35360) (hw : DR d w b) {n : Nat} (hn : 7 ≤ n) : k_leapsInCycle n d.2.1 = some (iI (lTo d.2.1 (lCyc d.2.1))) ∧ mleapsInCycle n w (iI (b : Int)) = some (iI (lTo d.2.1 (lCyc d.2.1))) := by
  have hcy := lCyc_bd hd.2.1
  have hwl := hw.2.2.2.2.2.2.2.2.1
  unfold k_leapsInCycle mleapsInCycle
  constructor
  · rw [c_cyc hd.2.1, Option.bind_some, c_to hd.2.1 ⟨by omega, by omega⟩ hn]; rfl
  · rw [zck_t (watz b 8 (by omega)), wat b 8 (by omega), LR_cyc hd.2.1 hwl, iI_J ⟨by omega, by omega⟩, m_to hd.2.1 hb hwl ⟨by omega, by omega⟩ hn, Option.bind_some, iJ_I]
theorem cm_even {v : vLaw} {w : Nat → Int32} {b : Nat} (hb : b ≤ 35360) (hw : LR v w b) {k : Int} (hk : 9 ≤ k ∧ k ≤ 11) (F : Nat → Int32) (n : Nat) : ∃ r, k_evenNumber v (iI k) = some r ∧ mhas_165 n F w (iI k) (iI (b : Int)) = some (r, F) := by
  unfold mhas_165
  have e : (iI (b : Int) + 9 + iI k - 9 : Int32) = iI ((b : Int) + k) := by
    rw [show (9 : Int32) = iI 9 by decide +kernel, iI_add, iI_add, iI_sub]; congr 1; omega
  rw [zck_t (watz b 3 (by omega)), wat b 3 (by omega), e, zck_t (iI_zin (by omega) (by omega) (by omega)), iI_nat (by omega) (by omega)]
  match v, hw with
  | .inl _, hw => rw [hw.1]; exact ⟨_, rfl, rfl⟩
  | .inr (.inr (.inl a)), hw => rw [hw.1]; exact ⟨_, rfl, rfl⟩
  | .inr (.inr (.inr r)), hw => rw [hw.1]; exact ⟨_, rfl, rfl⟩
  | .inr (.inl ev), hw =>
    obtain ⟨w3, w9, w10, w11, w8⟩ := hw
    rw [w3, if_pos rfl]
    show ∃ r, (if iI k = 9 then some ev.1 else (if iI k = 10 then some ev.2.1 else (if iI k = 11 then some ev.2.2 else some (-1)))) = some r ∧ _
    rw [if_c (show (iI k = (9 : Int32)) = (k = 9) from iI_eq (b := 9) ⟨by omega, by omega⟩ ⟨by omega, by omega⟩), if_c (show (iI k = (10 : Int32)) = (k = 10) from iI_eq (b := 10) ⟨by omega, by omega⟩ ⟨by omega, by omega⟩), if_c (show (iI k = (11 : Int32)) = (k = 11) from iI_eq (b := 11) ⟨by omega, by omega⟩ ⟨by omega, by omega⟩)]
    rcases (show k = 9 ∨ k = 10 ∨ k = 11 by omega) with rfl | rfl | rfl
    · rw [if_pos rfl, show ((b : Int) + 9).toNat = b + 9 by omega, w9]; exact ⟨_, rfl, rfl⟩
    · rw [if_neg (by decide), if_pos rfl, show ((b : Int) + 10).toNat = b + 10 by omega, w10]; exact ⟨_, rfl, rfl⟩
    · rw [if_neg (by decide), if_neg (by decide), if_pos rfl, show ((b : Int) + 11).toNat = b + 11 by omega, w11]; exact ⟨_, rfl, rfl⟩
theorem ev_out {v : vLaw} {z : Int32} (h9 : ¬ z = 9) (h10 : ¬ z = 10) (h11 : ¬ z = 11) : k_evenNumber v z = some (-1) := by
  match v with
  | .inl _ => rfl
  | .inr (.inr (.inl a)) => rfl
  | .inr (.inr (.inr r)) => rfl
  | .inr (.inl ev) =>
    show (if z = 9 then some ev.1 else (if z = 10 then some ev.2.1 else (if z = 11 then some ev.2.2 else some (-1)))) = some (-1)
    rw [if_neg h9, if_neg h10, if_neg h11]
theorem hc_has : HC_has Inv := by
  intro A tp dv cs cv jv bo hg lw sb F G tq w oc z0 z1 h
  have hn := hn_f
  unfold l_has mhas
  rcases atD h.2.2.1 z0 with ⟨h1, h2⟩ | ⟨s, d, hs, rfl, hdv, h1, h2, h3, hd, hw⟩
  · rw [h1, h2]; exact ⟨_, _, rfl, rfl, rfl, h.thr⟩
  · simp only [h1, h2, h3, Option.bind_some, zO_s, ↓reduceIte]
    have hw' := hw
    obtain ⟨w0, w1, w2, w4, w5, w6, w7, w24, wl, w12, w13, w14, w15, w16⟩ := hw'
    obtain ⟨c1, c2⟩ := cm_inCyc hd (show 442 * s ≤ 35360 by omega) hw (show 7 ≤ fuel by omega)
    by_cases k0 : z1 = 0
    · rw [if_pos k0, if_pos k0, zck_t (watz (442 * s) 1 (by omega)), wat (442 * s) 1 (by omega), w1]; exact ⟨_, _, rfl, rfl, rfl, h.thr⟩
    rw [if_neg k0, if_neg k0]
    by_cases k1 : z1 = 1
    · rw [if_pos k1, if_pos k1, zck_t (watz (442 * s) 2 (by omega)), wat (442 * s) 2 (by omega), w2]; exact ⟨_, _, rfl, rfl, rfl, h.thr⟩
    rw [if_neg k1, if_neg k1]
    by_cases k2 : z1 = 2
    · rw [if_pos k2, if_pos k2, zck_t (watz (442 * s) 3 (by omega)), wat (442 * s) 3 (by omega), LR_sort wl]; exact ⟨_, _, rfl, rfl, rfl, h.thr⟩
    rw [if_neg k2, if_neg k2]
    by_cases k3 : z1 = 3
    · rw [if_pos k3, if_pos k3, zck_t (watz (442 * s) 4 (by omega)), wat (442 * s) 4 (by omega), w4]; exact ⟨_, _, rfl, rfl, rfl, h.thr⟩
    rw [if_neg k3, if_neg k3]
    by_cases k4 : z1 = 4
    · rw [if_pos k4, if_pos k4, zck_t (watz (442 * s) 5 (by omega)), wat (442 * s) 5 (by omega), w5]; exact ⟨_, _, rfl, rfl, rfl, h.thr⟩
    rw [if_neg k4, if_neg k4]
    by_cases k5 : z1 = 5
    · rw [if_pos k5, if_pos k5, zck_t (watz (442 * s) 6 (by omega)), wat (442 * s) 6 (by omega), w6]; exact ⟨_, _, rfl, rfl, rfl, h.thr⟩
    rw [if_neg k5, if_neg k5]
    by_cases k6 : z1 = 6
    · rw [if_pos k6, if_pos k6, zck_t (watz (442 * s) 7 (by omega)), wat (442 * s) 7 (by omega), w7]; exact ⟨_, _, rfl, rfl, rfl, h.thr⟩
    rw [if_neg k6, if_neg k6]
    by_cases k7 : z1 = 7
    · rw [if_pos k7, if_pos k7, zck_t (watz (442 * s) 8 (by omega)), wat (442 * s) 8 (by omega), LR_cyc hd.2.1 wl, c_cyc hd.2.1]; exact ⟨_, _, rfl, rfl, rfl, h.thr⟩
    rw [if_neg k7, if_neg k7]
    by_cases k8 : z1 = 8
    · rw [if_pos k8, if_pos k8, c1, c2]; exact ⟨_, _, rfl, rfl, rfl, h.thr⟩
    rw [if_neg k8, if_neg k8]
    by_cases k9 : z1 = 9
    · subst k9
      obtain ⟨r, e1, e2⟩ := cm_even (show 442 * s ≤ 35360 by omega) wl (k := 9) ⟨by omega, by omega⟩ (upd F 0 0) fuel
      rw [show iI 9 = (9 : Int32) by decide +kernel] at e1 e2
      rw [if_pos rfl, e1, e2]; exact ⟨_, _, rfl, rfl, rfl, h.thr⟩
    rw [if_neg k9]
    by_cases k10 : z1 = 10
    · subst k10
      obtain ⟨r, e1, e2⟩ := cm_even (show 442 * s ≤ 35360 by omega) wl (k := 10) ⟨by omega, by omega⟩ (upd F 0 0) fuel
      rw [show iI 10 = (10 : Int32) by decide +kernel] at e1 e2
      rw [if_pos rfl, e1, e2]; exact ⟨_, _, rfl, rfl, rfl, h.thr⟩
    rw [if_neg k10]
    by_cases k11 : z1 = 11
    · subst k11
      obtain ⟨r, e1, e2⟩ := cm_even (show 442 * s ≤ 35360 by omega) wl (k := 11) ⟨by omega, by omega⟩ (upd F 0 0) fuel
      rw [show iI 11 = (11 : Int32) by decide +kernel] at e1 e2
      rw [if_pos rfl, e1, e2]; exact ⟨_, _, rfl, rfl, rfl, h.thr⟩
    rw [if_neg k11, ev_out k9 k10 k11]
    exact ⟨_, _, rfl, rfl, rfl, h.thr⟩
