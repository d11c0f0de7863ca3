/-! ===== calls: gap, even ===== -/
theorem lLeap_per {v : vLaw} (hv : lOk v) (y : Int) : lLeap v (y + lCyc v) = lLeap v y := by
  rcases v with v | e | a | r
  · rfl
  · show evLeap _ _ _ _ = evLeap _ _ _ _
    unfold evLeap
    congr 1
    rw [show e.1.toInt * (y + lCyc (.inr (.inl e))) + e.2.2.toInt = e.1.toInt * y + e.2.2.toInt + e.2.1.toInt * e.1.toInt by
      show e.1.toInt * (y + e.2.1.toInt) + e.2.2.toInt = _
      rw [Int.mul_add, Int.mul_comm e.1.toInt e.2.1.toInt]; omega, Int.add_mul_emod_self_left]
  · obtain ⟨h1, h2, h3⟩ := hv
    show decide (ladC a.2 (y + (a.2 (a.1 - 1)).toInt) a.1 % 2 = 1) = decide (ladC a.2 y a.1 % 2 = 1)
    have hdv : ∀ k, k < a.1 → (a.2 (a.1 - 1)).toInt % (a.2 (a.1 - 1 - k)).toInt = 0 := by
      intro k
      induction k with
      | zero => intro _; exact Int.emod_self
      | succ k ih =>
        intro hk
        have g1 := ih (by omega)
        have g2 := h3 (a.1 - 1 - (k + 1)) (by omega)
        rw [show a.1 - 1 - (k + 1) + 1 = a.1 - 1 - k by omega] at g2
        exact Int.emod_eq_zero_of_dvd (Int.dvd_trans (Int.dvd_of_emod_eq_zero g2) (Int.dvd_of_emod_eq_zero g1))
    have hall : ∀ m, m ≤ a.1 → ladC a.2 (y + (a.2 (a.1 - 1)).toInt) m = ladC a.2 y m := by
      intro m
      induction m with
      | zero => intro _; rfl
      | succ m ih =>
        intro hm
        rw [ladC, ladC, ih (by omega)]
        have g := hdv (a.1 - 1 - m) (by omega)
        rw [show a.1 - 1 - (a.1 - 1 - m) = m by omega] at g
        rw [show (y + (a.2 (a.1 - 1)).toInt) % (a.2 m).toInt = y % (a.2 m).toInt by
          obtain ⟨c, hc⟩ := Int.dvd_of_emod_eq_zero g
          rw [hc, Int.add_mul_emod_self_left]]
    rw [hall _ (Nat.le_refl _)]
  · show roLeap _ _ _ = roLeap _ _ _
    unfold roLeap
    rw [show (y + lCyc (.inr (.inr (.inr r)))) % r.2.toInt = y % r.2.toInt by
      show (y + r.2.toInt) % r.2.toInt = _
      exact Int.add_emod_right _ _]
def gst (s : Int × Int × Int × Int) (lp : Bool) (y : Int) : Int × Int × Int × Int :=
  if lp = true then (y, if s.2.1 = 0 ∨ y - s.1 < s.2.1 then y - s.1 else s.2.1, if s.2.2.1 < y - s.1 then y - s.1 else s.2.2.1, if s.2.2.1 < y - s.1 then 1 else if y - s.1 = s.2.2.1 then s.2.2.2 + 1 else s.2.2.2) else s
def gw (v : vLaw) (f : Int) : Nat → Int × Int × Int × Int
  | 0 => (f, 0, 0, 0)
  | j + 1 => gst (gw v f j) (lLeap v (f + (j + 1 : Nat))) (f + (j + 1 : Nat))
theorem gw_bd (v : vLaw) (f : Int) (j : Nat) : (f ≤ (gw v f j).1 ∧ (gw v f j).1 ≤ f + j) ∧ (0 ≤ (gw v f j).2.1 ∧ (gw v f j).2.1 ≤ j) ∧ (0 ≤ (gw v f j).2.2.1 ∧ (gw v f j).2.2.1 ≤ j) ∧ 0 ≤ (gw v f j).2.2.2 ∧ (gw v f j).2.2.2 ≤ j := by
  induction j with
  | zero => simp [gw]
  | succ j ih =>
    rw [gw, gst]
    generalize gw v f j = g at *
    by_cases q : lLeap v (f + (j + 1 : Nat)) = true
    · rw [if_pos q]
      dsimp only
      refine ⟨⟨by omega, by omega⟩, ?_, ?_, ?_⟩
      · split <;> omega
      · split <;> omega
      · split
        · omega
        · split <;> omega
    · rw [if_neg q]; omega
theorem m_gapMeet {F : Nat → Int32} {mn mx ct g : Int} (h17 : F 17 = iI mn) (h18 : F 18 = iI mx) (h19 : F 19 = iI ct) (b1 : 0 ≤ mn ∧ mn ≤ 100000) (b2 : 0 ≤ mx ∧ mx ≤ 100000) (bg : 1 ≤ g ∧ g ≤ 100000) : ∃ F', mmeetsGap F (iI g) = some F' ∧ F' 17 = iI (if mn = 0 ∨ g < mn then g else mn) ∧ F' 18 = iI (if mx < g then g else mx) ∧ F' 19 = iI (if mx < g then 1 else if g = mx then ct + 1 else ct) ∧ ∀ i, i ≠ 17 → i ≠ 18 → i ≠ 19 → F' i = F i := by
  have e54 : ∀ (G : Nat → Int32) (t : Int32), G 17 = iI mn → ∃ F', mmeetsGap_54 G (iI g) t = some F' ∧ F' 17 = iI (if mn = 0 ∨ g < mn then g else mn) ∧ F' 18 = t ∧ F' 19 = G 19 ∧ ∀ i, i ≠ 17 → i ≠ 18 → i ≠ 19 → F' i = G i := fun G t hG => by
    unfold mmeetsGap_54 mmeetsGap_73
    rw [show (upd G 18 t) 17 = iI mn from hG, if_c (show (iI mn = (0 : Int32)) = (mn = 0) from iI_eq (b := 0) ⟨by omega, by omega⟩ ⟨by omega, by omega⟩), if_c (iI_le ⟨by omega, by omega⟩ ⟨by omega, by omega⟩)]
    by_cases p : mn = 0
    · rw [if_pos p, if_pos (Or.inl p)]
      exact ⟨_, rfl, upd_at, rfl, rfl, fun i h1 h2 h3 => by rw [upd_ne h1, upd_ne h2]⟩
    · rw [if_neg p]
      by_cases q : mn ≤ g
      · rw [if_pos q, if_neg (by omega)]
        exact ⟨_, rfl, upd_at, rfl, rfl, fun i h1 h2 h3 => by rw [upd_ne h1, upd_ne h2]⟩
      · rw [if_neg q, if_pos (by omega)]
        exact ⟨_, rfl, upd_at, rfl, rfl, fun i h1 h2 h3 => by rw [upd_ne h1, upd_ne h2]⟩
  have e34 : ∀ t : Int32, ∃ F', mmeetsGap_34 F (iI g) t = some F' ∧ F' 17 = iI (if mn = 0 ∨ g < mn then g else mn) ∧ F' 18 = iI (if mx < g then g else mx) ∧ F' 19 = t ∧ ∀ i, i ≠ 17 → i ≠ 18 → i ≠ 19 → F' i = F i := fun t => by
    unfold mmeetsGap_34
    rw [show (upd F 19 t) 18 = iI mx from h18, if_c (iI_le ⟨by omega, by omega⟩ ⟨by omega, by omega⟩)]
    by_cases p : g ≤ mx
    · obtain ⟨F', a1, a2, a3, a4, a5⟩ := e54 (upd F 19 t) (iI mx) h17
      rw [if_pos p, if_neg (show ¬ mx < g by omega)]
      exact ⟨F', a1, a2, a3, a4, fun i h1 h2 h3 => by rw [a5 i h1 h2 h3, upd_ne h3]⟩
    · obtain ⟨F', a1, a2, a3, a4, a5⟩ := e54 (upd F 19 t) (iI g) h17
      rw [if_neg p, if_pos (show mx < g by omega)]
      exact ⟨F', a1, a2, a3, a4, fun i h1 h2 h3 => by rw [a5 i h1 h2 h3, upd_ne h3]⟩
  unfold mmeetsGap
  rw [h18, h19, if_c (iI_le ⟨by omega, by omega⟩ ⟨by omega, by omega⟩), if_c (iI_eq ⟨by omega, by omega⟩ ⟨by omega, by omega⟩)]
  by_cases p : g ≤ mx
  · rw [if_pos p]
    by_cases q : g = mx
    · rw [if_pos q, if_neg (show ¬ mx < g by omega), if_neg (show ¬ mx < g by omega), if_pos q, show (1 : Int32) = iI 1 by decide +kernel, iI_add]
      have := e34 (iI (ct + 1))
      rw [if_neg (show ¬ mx < g by omega)] at this
      exact this
    · rw [if_neg q, if_neg (show ¬ mx < g by omega), if_neg (show ¬ mx < g by omega), if_neg q]
      have := e34 (iI ct)
      rw [if_neg (show ¬ mx < g by omega)] at this
      exact this
  · rw [if_neg p, if_pos (show mx < g by omega), if_pos (show mx < g by omega)]
    have := e34 (iI 1)
    rw [if_pos (show mx < g by omega)] at this
    exact this
theorem c_firstLeap {v : vLaw} (hv : lOk v) {n : Nat} (hn : 250000 ≤ n) : ∃ r : Int, k_firstLeap n v = some (iI r) ∧ ((r = -1 ∧ ∀ y, 0 ≤ y → y < lCyc v → lLeap v y = false) ∨ ((0 ≤ r ∧ r < lCyc v) ∧ lLeap v r = true ∧ ∀ y, 0 ≤ y → y < r → lLeap v y = false)) := by
  have hC := lCyc_bd hv
  obtain ⟨r, g1, x, g2, g3⟩ := zloop_inv (f := k_firstLeap_7 n v (iI (lCyc v))) (R := fun s => ∃ i : Int, (0 ≤ i ∧ i ≤ lCyc v) ∧ s = iI i ∧ ∀ y, 0 ≤ y → y < i → lLeap v y = false) (S := fun r => ∃ x : Int, r = iI x ∧ ((x = -1 ∧ ∀ y, 0 ≤ y → y < lCyc v → lLeap v y = false) ∨ ((0 ≤ x ∧ x < lCyc v) ∧ lLeap v x = true ∧ ∀ y, 0 ≤ y → y < x → lLeap v y = false))) (fun s => (lCyc v - s.toInt).toNat) (by
    rintro s ⟨i, hi, rfl, hu⟩
    unfold k_firstLeap_7
    rw [if_c (iI_le ⟨by omega, by omega⟩ ⟨by omega, by omega⟩)]
    by_cases p : lCyc v ≤ i
    · right
      rw [if_pos p]
      exact ⟨_, rfl, -1, by decide +kernel, Or.inl ⟨rfl, fun y h0 h1 => hu y h0 (by omega)⟩⟩
    · rw [if_neg p, c_leap hv ⟨by omega, by omega⟩ (by omega), Option.bind_some]
      cases hl : lLeap v i
      · left
        rw [if_neg (by decide), show (iI i + 1 : Int32) = iI (i + 1) from iI_add _ 1]
        refine ⟨_, rfl, ⟨i + 1, ⟨by omega, by omega⟩, rfl, fun y h0 h1 => ?_⟩, ?_⟩
        · by_cases q : y = i
          · rw [q, hl]
          · exact hu y h0 (by omega)
        · rw [iI_to ⟨by omega, by omega⟩, iI_to ⟨by omega, by omega⟩]; omega
      · right
        rw [if_pos rfl]
        exact ⟨_, rfl, i, rfl, Or.inr ⟨⟨hi.1, by omega⟩, hl, hu⟩⟩) n 0 ⟨0, ⟨by omega, by omega⟩, rfl, fun y h0 h1 => by omega⟩ (by show (lCyc v - (iI 0).toInt).toNat < n; rw [iI_to ⟨by omega, by omega⟩]; omega)
  refine ⟨x, ?_, g3⟩
  unfold k_firstLeap
  rw [c_cyc hv, Option.bind_some, g1, g2]
theorem gw_flat {v : vLaw} (hv : lOk v) {f : Int} (hf : 0 ≤ f ∧ f < lCyc v) (hu : ∀ y, 0 ≤ y → y < f → lLeap v y = false) : ∀ k : Nat, (k : Int) ≤ f → gw v f ((lCyc v - 1 - f).toNat + k) = gw v f (lCyc v - 1 - f).toNat
  | 0, _ => rfl
  | k + 1, hk => by
    rw [← Nat.add_assoc, gw, gst, gw_flat hv hf hu k (by omega), if_neg]
    rw [show f + (((lCyc v - 1 - f).toNat + k + 1 : Nat) : Int) = (k : Int) + lCyc v by omega, lLeap_per hv, hu k (by omega) (by omega)]
    decide
theorem c_gapWalk {v : vLaw} (hv : lOk v) {f : Int} (hf : 0 ≤ f ∧ f < lCyc v) (hl : lLeap v f = true) {n : Nat} (hn : 250000 ≤ n) (z : Int32) : zloop (k_tellGap_39 n v z (iI (f + lCyc v))) n (iI f, iI (lCyc v), 0, 0, iI (f + 1)) = some (iI (if z = 0 then (gw v f (lCyc v).toNat).2.1 else if z = 1 then (gw v f (lCyc v).toNat).2.2.1 else (gw v f (lCyc v).toNat).2.2.2)) := by
  have hC := lCyc_bd hv
  obtain ⟨r, g1, g2⟩ := zloop_inv (f := k_tellGap_39 n v z (iI (f + lCyc v))) (R := fun s => ∃ j : Nat, (j : Int) ≤ lCyc v ∧ s = (iI (gw v f j).1, iI (if (gw v f j).2.1 = 0 then lCyc v else (gw v f j).2.1), iI (gw v f j).2.2.1, iI (gw v f j).2.2.2, iI (f + j + 1))) (S := fun r => r = iI (if z = 0 then (gw v f (lCyc v).toNat).2.1 else if z = 1 then (gw v f (lCyc v).toNat).2.2.1 else (gw v f (lCyc v).toNat).2.2.2)) (fun s => (f + lCyc v + 1 - s.2.2.2.2.toInt).toNat) (by
    rintro s ⟨j, hj, rfl⟩
    unfold k_tellGap_39 k_tellGap_87 k_tellGap_97 j_minI
    dsimp only
    have hb := gw_bd v f j
    rw [if_c (iI_lt ⟨by omega, by omega⟩ ⟨by omega, by omega⟩)]
    by_cases p : f + lCyc v < f + j + 1
    · right
      have hjC : j = (lCyc v).toNat := by omega
      rw [if_pos p, ← hjC]
      have hne : ¬ (gw v f j).2.1 = 0 := by
        obtain ⟨i, rfl⟩ : ∃ i, j = i + 1 := ⟨j - 1, by omega⟩
        have hb' := gw_bd v f i
        rw [gw, gst, show f + ((i + 1 : Nat) : Int) = f + lCyc v by omega, lLeap_per hv, hl, if_pos rfl]
        dsimp only
        split <;> omega
      rw [if_neg hne]
      by_cases z0 : z = 0
      · rw [if_pos z0, if_pos z0]; exact ⟨_, rfl, rfl⟩
      · rw [if_neg z0, if_neg z0]
        by_cases z1 : z = 1
        · rw [if_pos z1, if_pos z1]; exact ⟨_, rfl, rfl⟩
        · rw [if_neg z1, if_neg z1]; exact ⟨_, rfl, rfl⟩
    · left
      have hμ : (f + lCyc v + 1 - (iI (f + ((j + 1 : Nat) : Int) + 1)).toInt).toNat < (f + lCyc v + 1 - (iI (f + j + 1)).toInt).toNat := by rw [iI_to ⟨by omega, by omega⟩, iI_to ⟨by omega, by omega⟩]; omega
      have hy : (iI (f + j + 1) + 1 : Int32) = iI (f + ((j + 1 : Nat) : Int) + 1) := by rw [show (1 : Int32) = iI 1 by decide +kernel, iI_add]; congr 1; omega
      have hgw : gw v f (j + 1) = gst (gw v f j) (lLeap v (f + j + 1)) (f + j + 1) := by rw [gw, show f + ((j + 1 : Nat) : Int) = f + j + 1 by omega]
      rw [if_neg p, c_leap hv ⟨by omega, by omega⟩ (by omega), Option.bind_some, hy]
      cases hl : lLeap v (f + j + 1)
      · rw [if_neg (show ¬ (false = true) by decide)]
        refine ⟨_, rfl, ⟨j + 1, by omega, ?_⟩, hμ⟩
        rw [hgw, hl, gst, if_neg (show ¬ (false = true) by decide)]
      · rw [if_pos rfl, iI_sub, if_c (show (iI (f + j + 1 - (gw v f j).1) < iI (if (gw v f j).2.1 = 0 then lCyc v else (gw v f j).2.1)) = (f + j + 1 - (gw v f j).1 < (if (gw v f j).2.1 = 0 then lCyc v else (gw v f j).2.1)) from iI_lt ⟨by omega, by omega⟩ (by split <;> exact ⟨by omega, by omega⟩))]
        rw [hl, gst, if_pos rfl] at hgw
        have hmin : (if f + j + 1 - (gw v f j).1 < (if (gw v f j).2.1 = 0 then lCyc v else (gw v f j).2.1) then some (iI (f + j + 1 - (gw v f j).1)) else some (iI (if (gw v f j).2.1 = 0 then lCyc v else (gw v f j).2.1))) = some (iI (if (gw v f (j + 1)).2.1 = 0 then lCyc v else (gw v f (j + 1)).2.1)) := by
          rw [hgw]
          dsimp only
          by_cases q0 : (gw v f j).2.1 = 0
          · rw [if_pos q0, if_pos (Or.inl q0), if_neg (show ¬ f + j + 1 - (gw v f j).1 = 0 by omega)]
            by_cases q1 : f + j + 1 - (gw v f j).1 < lCyc v
            · rw [if_pos q1]
            · rw [if_neg q1]; congr 2; omega
          · rw [if_neg q0]
            by_cases q1 : f + j + 1 - (gw v f j).1 < (gw v f j).2.1
            · rw [if_pos q1, if_pos (Or.inr q1), if_neg (show ¬ f + j + 1 - (gw v f j).1 = 0 by omega)]
            · rw [if_neg q1, if_neg (show ¬ ((gw v f j).2.1 = 0 ∨ f + j + 1 - (gw v f j).1 < (gw v f j).2.1) by omega), if_neg q0]
        rw [hmin, Option.bind_some, if_c (iI_le ⟨by omega, by omega⟩ ⟨by omega, by omega⟩), if_c (iI_eq ⟨by omega, by omega⟩ ⟨by omega, by omega⟩), if_pos rfl]
        by_cases q2 : f + j + 1 - (gw v f j).1 ≤ (gw v f j).2.2.1
        · rw [if_pos q2]
          by_cases q3 : f + j + 1 - (gw v f j).1 = (gw v f j).2.2.1
          · rw [if_pos q3]
            refine ⟨_, rfl, ⟨j + 1, by omega, ?_⟩, hμ⟩
            rw [hgw]
            dsimp only
            rw [if_neg (show ¬ (gw v f j).2.2.1 < f + j + 1 - (gw v f j).1 by omega), if_neg (show ¬ (gw v f j).2.2.1 < f + j + 1 - (gw v f j).1 by omega), if_pos q3, show (1 : Int32) = iI 1 by decide +kernel, iI_add]
          · rw [if_neg q3]
            refine ⟨_, rfl, ⟨j + 1, by omega, ?_⟩, hμ⟩
            rw [hgw]
            dsimp only
            rw [if_neg (show ¬ (gw v f j).2.2.1 < f + j + 1 - (gw v f j).1 by omega), if_neg (show ¬ (gw v f j).2.2.1 < f + j + 1 - (gw v f j).1 by omega), if_neg q3]
        · rw [if_neg q2]
          refine ⟨_, rfl, ⟨j + 1, by omega, ?_⟩, hμ⟩
          rw [hgw]
          dsimp only
          rw [if_pos (show (gw v f j).2.2.1 < f + j + 1 - (gw v f j).1 by omega), if_pos (show (gw v f j).2.2.1 < f + j + 1 - (gw v f j).1 by omega)]
          rfl) n (iI f, iI (lCyc v), 0, 0, iI (f + 1)) ⟨0, by omega, by show _ = (iI f, iI (if (0 : Int) = 0 then lCyc v else 0), iI 0, iI 0, iI (f + ((0 : Nat) : Int) + 1)); rw [if_pos rfl, show f + ((0 : Nat) : Int) + 1 = f + 1 by omega]; rfl⟩ (by show (f + lCyc v + 1 - (iI (f + 1)).toInt).toNat < n; rw [iI_to ⟨by omega, by omega⟩]; omega)
  rw [g1, g2]
theorem m_gaps {d : vDes} (hd : vOk d) {w : Nat → Int32} {b : Nat} (hb : b ≤ 35360) (hw : DR d w b) (F : Nat → Int32) {n : Nat} (hn : 250000 ≤ n) {f : Int} (hF : (f = -1 ∧ ∀ y, 0 ≤ y → y < lCyc d.2.1 → lLeap d.2.1 y = false) ∨ ((0 ≤ f ∧ f < lCyc d.2.1) ∧ lLeap d.2.1 f = true ∧ ∀ y, 0 ≤ y → y < f → lLeap d.2.1 y = false)) : ∃ F', mlaysGaps n F w (iI (b : Int)) = some F' ∧ (∀ i, i ≠ 17 → i ≠ 18 → i ≠ 19 → F' i = F i) ∧ ((f = -1 ∧ F' 17 = 0 ∧ F' 18 = 0 ∧ F' 19 = 0) ∨ (f ≠ -1 ∧ F' 17 = iI (gw d.2.1 f (lCyc d.2.1).toNat).2.1 ∧ F' 18 = iI (gw d.2.1 f (lCyc d.2.1).toNat).2.2.1 ∧ F' 19 = iI (gw d.2.1 f (lCyc d.2.1).toNat).2.2.2)) := by
  have hC := lCyc_bd hd.2.1
  have hcy := LR_cyc hd.2.1 hw.2.2.2.2.2.2.2.2.1
  unfold mlaysGaps
  obtain ⟨r, g1, g2⟩ := zloop_inv (f := mlaysGaps_22 n w (iI (b : Int))) (R := fun s => ∃ y : Int, (0 ≤ y ∧ y ≤ lCyc d.2.1) ∧ s.2.2.1 = iI y ∧ (∀ i, i ≠ 17 → i ≠ 18 → i ≠ 19 → s.2.2.2 i = F i) ∧ ((s.1 = -1 ∧ (s.2.2.2 17 = 0 ∧ s.2.2.2 18 = 0 ∧ s.2.2.2 19 = 0) ∧ (f = -1 ∨ y ≤ f)) ∨ (f ≠ -1 ∧ ∃ j : Nat, y = f + j + 1 ∧ s.1 = iI f ∧ s.2.1 = iI (gw d.2.1 f j).1 ∧ s.2.2.2 17 = iI (gw d.2.1 f j).2.1 ∧ s.2.2.2 18 = iI (gw d.2.1 f j).2.2.1 ∧ s.2.2.2 19 = iI (gw d.2.1 f j).2.2.2))) (S := fun F' => (∀ i, i ≠ 17 → i ≠ 18 → i ≠ 19 → F' i = F i) ∧ ((f = -1 ∧ F' 17 = 0 ∧ F' 18 = 0 ∧ F' 19 = 0) ∨ (f ≠ -1 ∧ F' 17 = iI (gw d.2.1 f (lCyc d.2.1).toNat).2.1 ∧ F' 18 = iI (gw d.2.1 f (lCyc d.2.1).toNat).2.2.1 ∧ F' 19 = iI (gw d.2.1 f (lCyc d.2.1).toNat).2.2.2))) (fun s => (lCyc d.2.1 - s.2.2.1.toInt).toNat) (by
    rintro ⟨a, l, y', Fs⟩ ⟨y, hy, hy', hot, hph⟩
    dsimp only at hy' hot hph
    subst hy'
    unfold mlaysGaps_22 mlaysGaps_69 mlaysGaps_72
    dsimp only
    rw [zck_t (watz b 8 (by omega)), wat b 8 (by omega), hcy, if_c (iI_le ⟨by omega, by omega⟩ ⟨by omega, by omega⟩)]
    by_cases p : lCyc d.2.1 ≤ y
    · right
      rw [if_pos p]
      rcases hph with ⟨ha, hz, hq⟩ | ⟨hf1, j, hj, ha, hl, h17, h18, h19⟩
      · rw [if_pos ha]
        rcases hF with ⟨f1, _⟩ | ⟨f1, _⟩
        · exact ⟨_, rfl, hot, Or.inl ⟨f1, hz⟩⟩
        · omega
      · rcases hF with ⟨f1, _⟩ | ⟨f1, f2, f3⟩
        · exact absurd f1 hf1
        have hbd := gw_bd d.2.1 f j
        have hjj : j = (lCyc d.2.1 - 1 - f).toNat := by omega
        have hfl := gw_flat hd.2.1 f1 f3 f.toNat (by omega)
        rw [← hjj] at hfl
        have hlast : gw d.2.1 f (lCyc d.2.1).toNat = gst (gw d.2.1 f j) true (f + lCyc d.2.1) := by
          obtain ⟨i, hi⟩ : ∃ i, (lCyc d.2.1).toNat = i + 1 := ⟨(lCyc d.2.1).toNat - 1, by omega⟩
          rw [hi, gw, show i = j + f.toNat by omega, hfl, show f + ((j + f.toNat + 1 : Nat) : Int) = f + lCyc d.2.1 by omega, lLeap_per hd.2.1, f2]
        obtain ⟨F', k1, k2, k3, k4, k5⟩ := m_gapMeet (g := f + lCyc d.2.1 - (gw d.2.1 f j).1) h17 h18 h19 ⟨by omega, by omega⟩ ⟨by omega, by omega⟩ ⟨by omega, by omega⟩
        rw [ha, hl, if_c (show (iI f = (-1 : Int32)) = (f = -1) from iI_eq (b := -1) ⟨by omega, by omega⟩ ⟨by omega, by omega⟩), if_neg hf1, zck_t (watz b 8 (by omega)), iI_add, iI_sub, k1, Option.bind_some]
        refine ⟨_, rfl, fun i i1 i2 i3 => by rw [k5 i i1 i2 i3, hot i i1 i2 i3], Or.inr ⟨hf1, ?_, ?_, ?_⟩⟩
        · rw [hlast, gst, if_pos rfl]; exact k2
        · rw [hlast, gst, if_pos rfl]; exact k3
        · rw [hlast, gst, if_pos rfl]; exact k4
    · left
      have hμ : (lCyc d.2.1 - (iI (y + 1)).toInt).toNat < (lCyc d.2.1 - (iI y).toInt).toNat := by rw [iI_to ⟨by omega, by omega⟩, iI_to ⟨by omega, by omega⟩]; omega
      rw [if_neg p, iI_J ⟨by omega, by omega⟩, m_leap hd.2.1 hb hw.2.2.2.2.2.2.2.2.1 ⟨by omega, by omega⟩ (by omega), Option.bind_some, show (iI y + 1 : Int32) = iI (y + 1) from iI_add _ 1]
      rcases hph with ⟨ha, hz, hq⟩ | ⟨hf1, j, hj, ha, hl, h17, h18, h19⟩
      · rcases hF with ⟨f1, f2⟩ | ⟨f1, f2, f3⟩
        · rw [f2 y hy.1 (by omega), if_neg (by decide)]
          exact ⟨_, rfl, ⟨y + 1, ⟨by omega, by omega⟩, rfl, hot, Or.inl ⟨ha, hz, Or.inl f1⟩⟩, hμ⟩
        · by_cases q : y = f
          · subst q
            rw [f2, if_pos rfl, if_pos ha]
            exact ⟨_, rfl, ⟨y + 1, ⟨by omega, by omega⟩, rfl, hot, Or.inr ⟨by omega, 0, by omega, rfl, rfl, hz⟩⟩, hμ⟩
          · rw [f3 y hy.1 (by omega), if_neg (by decide)]
            exact ⟨_, rfl, ⟨y + 1, ⟨by omega, by omega⟩, rfl, hot, Or.inl ⟨ha, hz, Or.inr (by omega)⟩⟩, hμ⟩
      · rcases hF with ⟨f1, _⟩ | ⟨f1, f2, f3⟩
        · exact absurd f1 hf1
        have hbd := gw_bd d.2.1 f j
        have hgw : gw d.2.1 f (j + 1) = gst (gw d.2.1 f j) (lLeap d.2.1 y) y := by rw [gw, show f + ((j + 1 : Nat) : Int) = y by omega]
        cases hlp : lLeap d.2.1 y
        · rw [hlp, gst, if_neg (by decide)] at hgw
          rw [if_neg (by decide)]
          exact ⟨_, rfl, ⟨y + 1, ⟨by omega, by omega⟩, rfl, hot, Or.inr ⟨hf1, j + 1, by omega, ha, by rw [hgw]; exact hl, by rw [hgw]; exact h17, by rw [hgw]; exact h18, by rw [hgw]; exact h19⟩⟩, hμ⟩
        · rw [hlp, gst, if_pos rfl] at hgw
          obtain ⟨F', k1, k2, k3, k4, k5⟩ := m_gapMeet (g := y - (gw d.2.1 f j).1) h17 h18 h19 ⟨by omega, by omega⟩ ⟨by omega, by omega⟩ ⟨by omega, by omega⟩
          rw [if_pos rfl, ha, hl, if_c (show (iI f = (-1 : Int32)) = (f = -1) from iI_eq (b := -1) ⟨by omega, by omega⟩ ⟨by omega, by omega⟩), if_neg hf1, iI_sub, k1, Option.bind_some]
          exact ⟨_, rfl, ⟨y + 1, ⟨by omega, by omega⟩, rfl, fun i i1 i2 i3 => by show F' i = F i; rw [k5 i i1 i2 i3, hot i i1 i2 i3], Or.inr ⟨hf1, j + 1, by omega, rfl, by rw [hgw], by rw [hgw]; exact k2, by rw [hgw]; exact k3, by rw [hgw]; exact k4⟩⟩, hμ⟩) n (-1, -1, 0, upd (upd (upd F 17 0) 18 0) 19 0) ⟨0, ⟨by omega, by omega⟩, rfl, fun i i1 i2 i3 => by show (upd (upd (upd F 17 0) 18 0) 19 0) i = F i; rw [upd_ne i3, upd_ne i2, upd_ne i1], Or.inl ⟨rfl, ⟨rfl, rfl, rfl⟩, by rcases hF with ⟨f1, _⟩ | ⟨f1, _⟩ <;> omega⟩⟩ (by show (lCyc d.2.1 - (iI 0).toInt).toNat < n; rw [iI_to ⟨by omega, by omega⟩]; omega)
  exact ⟨r, g1, g2.1, g2.2⟩
theorem cm_gaps {d : vDes} (hd : vOk d) {w : Nat → Int32} {b : Nat} (hb : b ≤ 35360) (hw : DR d w b) (F : Nat → Int32) {n : Nat} (hn : 250000 ≤ n) : ∃ (F' : Nat → Int32) (mn mx ct : Int), mlaysGaps n F w (iI (b : Int)) = some F' ∧ (∀ i, i ≠ 17 → i ≠ 18 → i ≠ 19 → F' i = F i) ∧ (F' 17 = iI mn ∧ F' 18 = iI mx ∧ F' 19 = iI ct) ∧ ((0 ≤ mn ∧ mn ≤ 9999) ∧ 0 ≤ mx ∧ mx ≤ 9999) ∧ ∀ z : Int32, k_tellGap n d.2.1 z = some (iI (if z = 0 then mn else if z = 1 then mx else ct)) := by
  have hC := lCyc_bd hd.2.1
  obtain ⟨f, f1, f2⟩ := c_firstLeap hd.2.1 hn
  obtain ⟨F', g1, g2, g3⟩ := m_gaps hd hb hw F hn f2
  unfold k_tellGap
  rcases f2 with ⟨q, f2⟩ | ⟨q, f2, f3⟩
  · rcases g3 with ⟨_, g3⟩ | ⟨g3, _⟩
    · refine ⟨F', 0, 0, 0, g1, g2, g3, by omega, fun z => ?_⟩
      rw [f1, Option.bind_some, q, if_pos (by decide +kernel), ite_self, ite_self]
      rfl
    · exact absurd q g3
  · rcases g3 with ⟨g3, _⟩ | ⟨_, g3⟩
    · omega
    · have hbd := gw_bd d.2.1 f (lCyc d.2.1).toNat
      refine ⟨F', _, _, _, g1, g2, g3, ⟨⟨by omega, by omega⟩, by omega, by omega⟩, fun z => ?_⟩
      rw [f1, Option.bind_some, if_c (show (iI f = (-1 : Int32)) = (f = -1) from iI_eq (b := -1) ⟨by omega, by omega⟩ ⟨by omega, by omega⟩), if_neg (by omega), c_cyc hd.2.1, Option.bind_some, Option.bind_some, iI_add, show (iI f + 1 : Int32) = iI (f + 1) from iI_add _ 1, c_gapWalk hd.2.1 q f2 hn]
theorem hc_gap : HC_gap Inv := by
  intro A tp dv cs cv jv bo hg lw sb F G tq w oc z0 z1 h
  have hn := hn_f
  unfold l_gap mgap
  rcases atD h.2.2.1 z0 with ⟨h1, h2⟩ | ⟨s, d, hs, rfl, hdv, h1, h2, h3, hd, hw⟩
  · rw [h1, h2]; exact ⟨_, _, rfl, rfl, rfl, h.thr⟩
  · obtain ⟨k, hk, rfl⟩ := ex32 z1
    have h02 : misIn (iI k).toInt64 0 2 = some (decide (0 ≤ k ∧ k ≤ 2)) := by
      rw [iI_J hk, show (0 : Int64) = iJ 0 by decide +kernel, show (2 : Int64) = iJ 2 by decide +kernel]
      exact m_isIn (b32_64 hk) ⟨by omega, by omega⟩ ⟨by omega, by omega⟩
    obtain ⟨F', mn, mx, ct, g1, g2, ⟨g3, g4, g5⟩, g6, g7⟩ := cm_gaps hd (b := 442 * s) (by omega) hw (upd F 0 0) hn
    simp only [h1, h2, h3, Option.bind_some, zO_s, ↓reduceIte, h02, g1, g7]
    rw [if_c (show (iI k < (0 : Int32)) = (k < 0) from iI_lt (b := 0) hk ⟨by omega, by omega⟩), if_c (show (iI k ≤ (2 : Int32)) = (k ≤ 2) from iI_le (b := 2) hk ⟨by omega, by omega⟩)]
    by_cases q : 0 ≤ k ∧ k ≤ 2
    · have hI : Inv A tp dv cs cv jv bo hg lw sb F' G tq w oc := h.fld ⟨g2 _ (by omega) (by omega) (by omega), g2 _ (by omega) (by omega) (by omega), g2 _ (by omega) (by omega) (by omega), g2 _ (by omega) (by omega) (by omega), g2 _ (by omega) (by omega) (by omega), g2 _ (by omega) (by omega) (by omega)⟩ ⟨rfl, rfl⟩
      rw [if_pos (decide_eq_true q), if_neg (by omega), if_pos q.2]
      by_cases t0 : iI k = 0
      · rw [if_pos t0, if_pos t0]; exact ⟨_, _, rfl, rfl, g3.symm, hI⟩
      · rw [if_neg t0, if_neg t0]
        by_cases t1 : iI k = 1
        · rw [if_pos t1, if_pos t1]; exact ⟨_, _, rfl, rfl, g4.symm, hI⟩
        · rw [if_neg t1, if_neg t1]; exact ⟨_, _, rfl, rfl, g5.symm, hI⟩
    · rw [if_neg (dneg q)]
      by_cases t1 : k < 0
      · rw [if_pos t1]; exact ⟨_, _, rfl, rfl, rfl, h.thr⟩
      · rw [if_neg t1, if_neg (by omega)]; exact ⟨_, _, rfl, rfl, rfl, h.thr⟩
theorem hc_even : HC_even Inv := by
  intro A tp dv cs cv jv bo hg lw sb F G tq w oc z0 h
  have hn := hn_f
  unfold l_even meven
  rcases atD h.2.2.1 z0 with ⟨h1, h2⟩ | ⟨s, d, hs, rfl, hdv, h1, h2, h3, hd, hw⟩
  · rw [h1, h2]; exact ⟨_, _, rfl, rfl, rfl, h.thr⟩
  · obtain ⟨F', mn, mx, ct, g1, g2, ⟨g3, g4, g5⟩, g6, g7⟩ := cm_gaps hd (b := 442 * s) (by omega) hw (upd F 0 0) hn
    have hI : Inv A tp dv cs cv jv bo hg lw sb F' G tq w oc := h.fld ⟨g2 _ (by omega) (by omega) (by omega), g2 _ (by omega) (by omega) (by omega), g2 _ (by omega) (by omega) (by omega), g2 _ (by omega) (by omega) (by omega), g2 _ (by omega) (by omega) (by omega), g2 _ (by omega) (by omega) (by omega)⟩ ⟨rfl, rfl⟩
    have e1 := g7 1
    have e0 := g7 0
    rw [if_neg (by decide), if_pos rfl] at e1
    rw [if_pos rfl] at e0
    unfold meven_41 mflag
    simp only [h1, h2, h3, Option.bind_some, zO_s, ↓reduceIte, g1, e1, e0, g3, g4, iI_sub]
    rw [if_c (show ((1 : Int32) < iI (mx - mn)) = (1 < mx - mn) from iI_lt (a := 1) ⟨by omega, by omega⟩ ⟨by omega, by omega⟩), if_c (show ((2 : Int32) ≤ iI (mx - mn)) = (2 ≤ mx - mn) from iI_le (a := 2) ⟨by omega, by omega⟩ ⟨by omega, by omega⟩)]
    by_cases q : 1 < mx - mn
    · rw [if_pos q, if_pos (by omega)]; exact ⟨_, _, rfl, rfl, rfl, hI⟩
    · rw [if_neg q, if_neg (by omega)]; exact ⟨_, _, rfl, rfl, rfl, hI⟩
