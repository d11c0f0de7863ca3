/-! ===== what holds of both objects between calls ===== -/
def BR (o : Option vDes) (w : Nat → Int32) (b : Nat) : Prop := match o with
  | none => w (b + 0) = 0
  | some d => vOk d ∧ DR d w b
def JR (jv : Option vJoint) (F : Nat → Int32) (G : Nat → Int64) (w : Nat → Int32) : Prop := match jv with
  | none => F 20 = 0
  | some v => F 20 = 1 ∧ (vOk v.1 ∧ DR v.1 w 3094) ∧ (vOk v.2.1 ∧ DR v.2.1 w 3536) ∧ (G 21 = v.2.2.1 ∧ G 22 = v.2.2.2) ∧ hol v.1 v.2.2.1.toInt ∧ hol v.2.1 (v.2.2.1.toInt + v.2.2.2.toInt)
def UR (c e : Nat) (S : Nat → Nat → Option vDes) (dv : Nat → Option vDes) (cs : Nat → Int32) (cv : Nat → Option vDes) (w : Nat → Int32) : Prop :=
  (∀ s, s < 6 → S c s = dv s) ∧ ∀ j, j < c → (∃ q, q < 6 ∧ cs ((e + 12 - c + j) % 12) = nI q ∧ cv ((e + 12 - c + j) % 12) = S j q ∧ ∀ s, s < 6 → s ≠ q → S j s = S (j + 1) s) ∧ ∀ s, s < 6 → BR (S j s) w (3978 + 2652 * j + 442 * s)
def Inv (A tp : Nat → Int32) (dv : Nat → Option vDes) (cs : Nat → Int32) (cv : Nat → Option vDes) (jv : Option vJoint) (_bo : Option (Nat → Int32)) (_hg _lw : Option (Nat → Int64)) (sb : vSB) (F : Nat → Int32) (G : Nat → Int64) (tq w oc : Nat → Int32) : Prop :=
  (∃ t : Nat, t ≤ 800 ∧ A 1 = nI t ∧ F 2 = nI t ∧ ∀ i, i < 800 → tp i = tq i) ∧ (A 2 = F 8 ∧ A 3 = F 9) ∧ (∀ s, s < 6 → BR (dv s) w (442 * s)) ∧
  (∃ (c e : Nat) (S : Nat → Nat → Option vDes), (c ≤ 12 ∧ e < 12) ∧ (A 8 = nI c ∧ F 14 = nI c ∧ A 7 = nI e) ∧ UR c e S dv cs cv w) ∧
  JR jv F G w ∧ sbOk sb ∧ (sb.1 ≤ 2400 ∧ F 16 = nI sb.1) ∧ ∀ i, i < sb.1 → oc i = sb.2.2.2 i ∧ 0 ≤ (sb.2.2.2 i).toInt ∧ (sb.2.2.2 i).toInt < 128
theorem Inv_0 : Inv (upd (fun _ => 0) 3 (-1)) (fun _ => 0) (fun _ => none) (fun _ => 0) (fun _ => none) none none none none (0, 16, 0, fun _ => 0) (upd (fun _ => 0) 9 (-1)) (fun _ => 0) (fun _ => 0) (fun _ => 0) (fun _ => 0) := by
  refine ⟨⟨0, by omega, rfl, rfl, fun _ _ => rfl⟩, ⟨rfl, rfl⟩, fun _ _ => rfl, ⟨0, 0, fun _ _ => none, ⟨by omega, by omega⟩, ⟨rfl, rfl, rfl⟩, fun _ _ => rfl, fun j hj => by omega⟩, rfl, ⟨by decide, by decide, fun _ => (show fits .byte (.int 0) = true by decide)⟩, ⟨by decide, rfl⟩, fun i hi => absurd hi (Nat.not_lt_zero _)⟩
theorem dneg {p : Prop} [Decidable p] (h : ¬ p) : ¬ decide p = true := by rw [decide_eq_false h]; decide
/-- the reference's other fields don't matter -/
theorem Inv.fld {A tp : Nat → Int32} {dv : Nat → Option vDes} {cs : Nat → Int32} {cv : Nat → Option vDes} {jv : Option vJoint} {bo bo' : Option (Nat → Int32)} {hg lw hg' lw' : Option (Nat → Int64)} {sb : vSB} {F F' : Nat → Int32} {G G' : Nat → Int64} {tq w oc : Nat → Int32} (h : Inv A tp dv cs cv jv bo hg lw sb F G tq w oc) (hF : F' 2 = F 2 ∧ F' 8 = F 8 ∧ F' 9 = F 9 ∧ F' 14 = F 14 ∧ F' 16 = F 16 ∧ F' 20 = F 20) (hG : G' 21 = G 21 ∧ G' 22 = G 22) : Inv A tp dv cs cv jv bo' hg' lw' sb F' G' tq w oc := by
  obtain ⟨⟨t, t1, t2, t3, t4⟩, ⟨f1, f2⟩, d1, ⟨c, e, S, s1, ⟨s2, s3, s4⟩, s5⟩, j1, b1, ⟨b2, b3⟩, b4⟩ := h
  obtain ⟨g1, g2, g3, g4, g5, g6⟩ := hF
  refine ⟨⟨t, t1, t2, g1.trans t3, t4⟩, ⟨f1.trans g2.symm, f2.trans g3.symm⟩, d1, ⟨c, e, S, s1, ⟨s2, g4.trans s3, s4⟩, s5⟩, ?_, b1, ⟨b2, g5.trans b3⟩, b4⟩
  cases jv with
  | none => exact g6.trans j1
  | some v => exact ⟨g6.trans j1.1, j1.2.1, j1.2.2.1, ⟨hG.1.trans j1.2.2.2.1.1, hG.2.trans j1.2.2.2.1.2⟩, j1.2.2.2.2⟩
theorem Inv.thr {A tp : Nat → Int32} {dv : Nat → Option vDes} {cs : Nat → Int32} {cv : Nat → Option vDes} {jv : Option vJoint} {bo : Option (Nat → Int32)} {hg lw : Option (Nat → Int64)} {sb : vSB} {F : Nat → Int32} {G : Nat → Int64} {tq w oc : Nat → Int32} (h : Inv A tp dv cs cv jv bo hg lw sb F G tq w oc) : Inv A tp dv cs cv jv bo hg lw sb (upd F 0 0) G tq w oc :=
  h.fld ⟨rfl, rfl, rfl, rfl, rfl, rfl⟩ ⟨rfl, rfl⟩
/-- a slot, on both sides -/
theorem atD {dv : Nat → Option vDes} {w : Nat → Int32} (h : ∀ s, s < 6 → BR (dv s) w (442 * s)) (z : Int32) : (k_designAt dv z = some none ∧ misThere w z = some false) ∨ ∃ (s : Nat) (d : vDes), s < 6 ∧ z = iI (s : Int) ∧ dv s = some d ∧ k_designAt dv z = some (some d) ∧ misThere w z = some true ∧ mbank z = some (iI ((442 * s : Nat) : Int)) ∧ vOk d ∧ DR d w (442 * s) := by
  obtain ⟨x, hx, rfl⟩ := ex32 z
  have hin : misIn (iI x).toInt64 0 5 = some (decide (0 ≤ x ∧ x ≤ 5)) := by
    rw [iI_J hx, show (0 : Int64) = iJ 0 by decide +kernel, show (5 : Int64) = iJ 5 by decide +kernel]
    exact m_isIn (b32_64 hx) ⟨by omega, by omega⟩ ⟨by omega, by omega⟩
  have hsl : k_isSlot (iI x) = some (decide (0 ≤ x ∧ x ≤ 5)) := by
    unfold k_isSlot
    rw [if_c (show (iI x < (0 : Int32)) = (x < 0) from iI_lt (b := 0) hx ⟨by omega, by omega⟩), if_c (show ((6 : Int32) ≤ iI x) = (6 ≤ x) from iI_le (a := 6) ⟨by omega, by omega⟩ hx)]
    by_cases q : x < 0
    · rw [if_pos q, decide_eq_false (by omega)]
    · rw [if_neg q]
      by_cases p : 6 ≤ x
      · rw [if_pos p, decide_eq_false (by omega)]
      · rw [if_neg p, decide_eq_true (by omega)]
  by_cases q : 0 ≤ x ∧ x ≤ 5
  · obtain ⟨s, hs⟩ : ∃ s : Nat, x = s := ⟨x.toNat, by omega⟩
    subst hs
    have hb : mbank (iI (s : Int)) = some (iI ((442 * s : Nat) : Int)) := by
      unfold mbank
      rw [show (442 : Int32) = iI 442 by decide +kernel, iI_mul]; congr 2
    have hk : k_designAt dv (iI (s : Int)) = some (dv s) := by
      unfold k_designAt
      rw [hsl, Option.bind_some, if_pos (decide_eq_true q), zck_t (iI_zin (by omega) (by omega) (by omega)), iI_nat (by omega) (by omega), Int.toNat_natCast]
    have hm : misThere w (iI (s : Int)) = if w (442 * s + 0) = 1 then some true else some false := by
      unfold misThere
      rw [hin, Option.bind_some, if_pos (decide_eq_true q), hb, Option.bind_some, zck_t (watz (442 * s) 0 (by omega)), wat (442 * s) 0 (by omega)]
    have hs := h s (by omega)
    cases hd : dv s with
    | none =>
      rw [hd] at hk hs
      left
      refine ⟨hk, ?_⟩
      rw [hm, if_neg]
      rw [show w (442 * s + 0) = 0 from hs]; decide
    | some d =>
      rw [hd] at hk hs
      right
      refine ⟨s, d, by omega, rfl, hd, hk, ?_, hb, hs.1, hs.2⟩
      rw [hm, if_pos hs.2.1]
  · left
    constructor
    · unfold k_designAt
      rw [hsl, Option.bind_some, if_neg (dneg q)]
    · unfold misThere
      rw [hin, Option.bind_some, if_neg (dneg q)]
theorem zO_s {α β : Type} (x : α) (a : Option β) (f : α → Option β) : zOm (some x) a f = f x := rfl
theorem zO_n {α β : Type} (a : Option β) (f : α → Option β) : zOm none a f = a := rfl
theorem hc_fault : HC_fault Inv := by
  intro A tp dv cs cv jv bo hg lw sb F G tq w oc z0 h
  obtain ⟨f1, f2⟩ := h.2.1
  unfold w_fault mfault
  by_cases q : z0 = 0
  · rw [if_pos q, if_pos q]; exact ⟨_, _, rfl, rfl, f1, h.thr⟩
  · rw [if_neg q, if_neg q]
    by_cases p : z0 = 1
    · rw [if_pos p, if_pos p]; exact ⟨_, _, rfl, rfl, f2, h.thr⟩
    · rw [if_neg p, if_neg p]; exact ⟨_, _, rfl, rfl, rfl, h.thr⟩
theorem hc_end : HC_end Inv := by
  intro A tp dv cs cv jv bo hg lw sb F G tq w oc z0 h
  obtain ⟨⟨t, t1, t2, t3, t4⟩, hrest⟩ := id h
  obtain ⟨x, hx, rfl⟩ := ex32 z0
  unfold w_end mend
  have h2 : misIn (iI x).toInt64 0 ((upd F 0 0) 2).toInt64 = some (decide (0 ≤ x ∧ x ≤ t)) := by
    rw [show (upd F 0 0) 2 = F 2 from rfl, t3, nI_iI, iI_J hx, iI_J ⟨by omega, by omega⟩, show (0 : Int64) = iJ 0 by decide +kernel]
    exact m_isIn (b32_64 hx) ⟨by omega, by omega⟩ ⟨by omega, by omega⟩
  rw [h2, Option.bind_some, t2, nI_iI, if_c (show (iI x < (0 : Int32)) = (x < 0) from iI_lt (b := 0) hx ⟨by omega, by omega⟩), if_c (iI_le hx ⟨by omega, by omega⟩)]
  by_cases q : 0 ≤ x ∧ x ≤ t
  · rw [if_pos (decide_eq_true q), if_neg (by omega), if_pos q.2]
    refine ⟨_, _, rfl, rfl, rfl, ⟨x.toNat, by omega, ?_, ?_, t4⟩, hrest⟩
    · show iI x = nI x.toNat
      rw [nI_iI, Int.toNat_of_nonneg q.1]
    · show iI x = nI x.toNat
      rw [nI_iI, Int.toNat_of_nonneg q.1]
  · rw [if_neg (dneg q)]
    by_cases p : x < 0
    · rw [if_pos p]; exact ⟨_, _, rfl, rfl, rfl, h.thr⟩
    · rw [if_neg p, if_neg (by omega)]; exact ⟨_, _, rfl, rfl, rfl, h.thr⟩
theorem hn_f : 250000 ≤ fuel := by unfold fuel; omega
theorem hc_leap : HC_leap Inv := by
  intro A tp dv cs cv jv bo hg lw sb F G tq w oc z0 z1 h
  have hn := hn_f
  unfold l_leap mleap
  rcases atD h.2.2.1 z0 with ⟨h1, h2⟩ | ⟨s, d, hs, rfl, hdv, h1, h2, h3, hd, hw⟩
  · rw [h1, h2]; exact ⟨_, _, rfl, rfl, rfl, h.thr⟩
  · obtain ⟨y, hy, rfl⟩ := ex32 z1
    simp only [h1, h2, h3, Option.bind_some, zO_s, ↓reduceIte, iI_J hy, m_isYear (b32_64 hy), c_isYear hy]
    by_cases q : -100000 ≤ y ∧ y ≤ 100000
    · rw [if_pos (decide_eq_true q), if_pos (decide_eq_true q), c_leap hd.2.1 ⟨by omega, by omega⟩ (by omega), Option.bind_some, m_leap hd.2.1 (by omega) hw.2.2.2.2.2.2.2.2.1 ⟨by omega, by omega⟩ (by omega), Option.bind_some]
      cases lLeap d.2.1 y
      · exact ⟨_, _, rfl, rfl, rfl, h.thr⟩
      · exact ⟨_, _, rfl, rfl, rfl, h.thr⟩
    · rw [if_neg (dneg q), if_neg (dneg q)]
      exact ⟨_, _, rfl, rfl, rfl, h.thr⟩
theorem hc_leaps : HC_leaps Inv := by
  intro A tp dv cs cv jv bo hg lw sb F G tq w oc z0 z1 z2 h
  have hn := hn_f
  unfold l_leaps mleaps
  rcases atD h.2.2.1 z0 with ⟨h1, h2⟩ | ⟨s, d, hs, rfl, hdv, h1, h2, h3, hd, hw⟩
  · rw [h1, h2]; exact ⟨_, _, rfl, rfl, rfl, h.thr⟩
  · obtain ⟨y, hy, rfl⟩ := ex32 z1
    obtain ⟨y2, hy2, rfl⟩ := ex32 z2
    simp only [h1, h2, h3, Option.bind_some, zO_s, ↓reduceIte, iI_J hy, iI_J hy2, m_isYear (b32_64 hy), m_isYear (b32_64 hy2), c_isYear hy, c_isYear hy2]
    by_cases q : -100000 ≤ y ∧ y ≤ 100000
    · rw [if_pos (decide_eq_true q), if_pos (decide_eq_true q)]
      by_cases q2 : -100000 ≤ y2 ∧ y2 ≤ 100000
      · rw [if_pos (decide_eq_true q2), if_pos (decide_eq_true q2)]
        by_cases p : iI y < iI y2
        · rw [if_pos p, if_pos p, c_to hd.2.1 ⟨by omega, by omega⟩ (by omega), Option.bind_some, c_to hd.2.1 ⟨by omega, by omega⟩ (by omega), Option.bind_some, m_to hd.2.1 (by omega) hw.2.2.2.2.2.2.2.2.1 ⟨by omega, by omega⟩ (by omega), Option.bind_some, m_to hd.2.1 (by omega) hw.2.2.2.2.2.2.2.2.1 ⟨by omega, by omega⟩ (by omega), Option.bind_some, iI_sub, iJ_sub, iJ_I]
          exact ⟨_, _, rfl, rfl, rfl, h.thr⟩
        · rw [if_neg p, if_neg p]
          exact ⟨_, _, rfl, rfl, rfl, h.thr⟩
      · rw [if_neg (dneg q2), if_neg (dneg q2)]
        exact ⟨_, _, rfl, rfl, rfl, h.thr⟩
    · rw [if_neg (dneg q), if_neg (dneg q)]
      exact ⟨_, _, rfl, rfl, rfl, h.thr⟩
theorem hc_start : HC_start Inv := by
  intro A tp dv cs cv jv bo hg lw sb F G tq w oc z0 z1 h
  have hn := hn_f
  unfold l_start mstart
  rcases atD h.2.2.1 z0 with ⟨h1, h2⟩ | ⟨s, d, hs, rfl, hdv, h1, h2, h3, hd, hw⟩
  · rw [h1, h2]; exact ⟨_, _, rfl, rfl, rfl, h.thr⟩
  · obtain ⟨y, hy, rfl⟩ := ex32 z1
    simp only [h1, h2, h3, Option.bind_some, zO_s, ↓reduceIte, iI_J hy, m_isYear (b32_64 hy), c_isYear hy]
    by_cases q : -100000 ≤ y ∧ y ≤ 100000
    · rw [if_pos (decide_eq_true q), if_pos (decide_eq_true q), c_start hd ⟨by omega, by omega⟩ (by omega), Option.bind_some, m_start hd (by omega) hw ⟨by omega, by omega⟩ (by omega), Option.bind_some]
      exact ⟨_, _, rfl, rfl, rfl, h.thr⟩
    · rw [if_neg (dneg q), if_neg (dneg q)]
      exact ⟨_, _, rfl, rfl, rfl, h.thr⟩
