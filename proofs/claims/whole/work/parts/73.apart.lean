/-! ===== calls: apart ===== -/
theorem c_isWalk {a b : Int} (ha : b32 a) (hb : b32 b) : k_isWalk (iI a) (iI b) = some (decide ((-100000 ≤ a ∧ a ≤ 100000) ∧ (-100000 ≤ b ∧ b ≤ 100000) ∧ a ≤ b ∧ b - a ≤ 20000)) := by
  unfold k_isWalk
  rw [c_isYear ha, Option.bind_some, c_isYear hb, Option.bind_some]
  by_cases q : -100000 ≤ a ∧ a ≤ 100000
  · rw [if_pos (decide_eq_true q)]
    by_cases q2 : -100000 ≤ b ∧ b ≤ 100000
    · rw [if_pos (decide_eq_true q2), if_c (iI_lt hb ha), iI_sub, if_c (show ((20000 : Int32) < iI (b - a)) = (20000 < b - a) from iI_lt (a := 20000) ⟨by omega, by omega⟩ ⟨by omega, by omega⟩)]
      by_cases p : b < a
      · rw [if_pos p, decide_eq_false (by omega)]
      · rw [if_neg p]
        by_cases p2 : 20000 < b - a
        · rw [if_pos p2, decide_eq_false (by omega)]
        · rw [if_neg p2, decide_eq_true (by omega)]
    · rw [if_neg (dneg q2), decide_eq_false (fun z => q2 z.2.1)]
  · rw [if_neg (dneg q), decide_eq_false (fun z => q z.1)]
theorem m_isSpan {a b : Int} (ha : b32 a) (hb : b32 b) : misSpan (iI a) (iI b) = some (decide ((-100000 ≤ a ∧ a ≤ 100000) ∧ (-100000 ≤ b ∧ b ≤ 100000) ∧ a ≤ b ∧ b - a ≤ 20000)) := by
  unfold misSpan
  have := ha.1; have := ha.2; have := hb.1; have := hb.2
  rw [iI_J ha, iI_J hb, m_isYear (b32_64 ha), Option.bind_some, m_isYear (b32_64 hb), Option.bind_some, iJ_sub, show (0 : Int64) = iJ 0 by decide +kernel, show (20000 : Int64) = iJ 20000 by decide +kernel, m_isIn ⟨by omega, by omega⟩ ⟨by omega, by omega⟩ ⟨by omega, by omega⟩, Option.bind_some]
  by_cases q : -100000 ≤ a ∧ a ≤ 100000
  · rw [if_pos (decide_eq_true q)]
    by_cases q2 : -100000 ≤ b ∧ b ≤ 100000
    · rw [if_pos (decide_eq_true q2)]
      by_cases p : 0 ≤ b - a ∧ b - a ≤ 20000
      · rw [if_pos (decide_eq_true p), decide_eq_true (by omega)]
      · rw [if_neg (dneg p), decide_eq_false (by omega)]
    · rw [if_neg (dneg q2), decide_eq_false (fun z => q2 z.2.1)]
  · rw [if_neg (dneg q), decide_eq_false (fun z => q z.1)]
theorem zb_eqv (a b : Bool) : (zb a = (zb b : Int32)) = (a = b) := by cases a <;> cases b <;> decide
def dst (d e : vDes) (y : Int) : Int := ((sta d y - sta e y).natAbs : Int)
theorem m_apartStep {d e : vDes} (hd : vOk d) (he : vOk e) {w : Nat → Int32} {s t : Nat} (hs : s < 6) (ht : t < 6) (hw : DR d w (442 * s)) (hv : DR e w (442 * t)) (F : Nat → Int32) {z x : Int} (hz : b32 z) {cc D y : Int} {a Y : Int32} (hc : 0 ≤ cc ∧ cc ≤ 100000) (hD : -1 ≤ D ∧ D ≤ 1000000000) (hy : -100000 ≤ y ∧ y ≤ 100000) (hyz : y ≤ z) {n : Nat} (hn : 250000 ≤ n) : mapart_64 n F w (iI (s : Int)) (iI (t : Int)) (iI z) (iI x) (iI cc, a, iJ D, Y, iI y) = some (.inl (iI (if dLe d y = dLe e y then cc else cc + 1), if dLe d y = dLe e y then a else if cc = 0 then iI y else a, iJ (if D < dst d e y then dst d e y else D), if D < dst d e y then iI y else Y, iI (y + 1))) := by
  have b1 := sta_bd hd (y := y) ⟨by omega, by omega⟩
  have b2 := sta_bd he (y := y) ⟨by omega, by omega⟩
  have e114 : ∀ (c' a' : Int32), mapart_114 n F w (iI (s : Int)) (iI (t : Int)) (iI z) (iI x) c' a' (iJ D) Y (iI y) = some (.inl (c', a', iJ (if D < dst d e y then dst d e y else D), if D < dst d e y then iI y else Y, iI (y + 1))) := fun c' a' => by
    unfold mapart_114 mapart_161
    have hab : (if sta d y - sta e y < 0 then -(sta d y - sta e y) else sta d y - sta e y) = dst d e y := by unfold dst; split <;> omega
    have hdb : 0 ≤ dst d e y ∧ dst d e y ≤ 500000000 := by unfold dst; omega
    rw [m_bank hs, Option.bind_some, iI_J ⟨by omega, by omega⟩, m_start hd (by omega) hw ⟨by omega, by omega⟩ (by omega), Option.bind_some, m_bank ht, Option.bind_some, m_start he (by omega) hv ⟨by omega, by omega⟩ (by omega), Option.bind_some, iJ_sub, m_size ⟨by omega, by omega⟩, Option.bind_some, hab, if_c (iJ_lt ⟨by omega, by omega⟩ ⟨by omega, by omega⟩), show (iI y + 1 : Int32) = iI (y + 1) from iI_add _ 1]
    by_cases p : D < dst d e y
    · rw [if_pos p, if_pos p, if_pos p]
    · rw [if_neg p, if_neg p, if_neg p]
  unfold mapart_64 mapart_112
  dsimp only
  rw [if_c (iI_lt hz ⟨by omega, by omega⟩), if_neg (by omega), m_bank hs, Option.bind_some, iI_J ⟨by omega, by omega⟩, m_leap hd.2.1 (by omega) hw.2.2.2.2.2.2.2.2.1 ⟨by omega, by omega⟩ (by omega), Option.bind_some, m_bank ht, Option.bind_some, m_leap he.2.1 (by omega) hv.2.2.2.2.2.2.2.2.1 ⟨by omega, by omega⟩ (by omega), Option.bind_some, if_c (zb_eqv _ _), show (iI cc + 1 : Int32) = iI (cc + 1) from iI_add _ 1, if_c (show (iI (cc + 1) = (1 : Int32)) = (cc + 1 = 1) from iI_eq (b := 1) ⟨by omega, by omega⟩ ⟨by omega, by omega⟩), e114, e114, e114]
  show _ = some (Sum.inl (iI (if lLeap d.2.1 y = lLeap e.2.1 y then cc else cc + 1), if lLeap d.2.1 y = lLeap e.2.1 y then a else if cc = 0 then iI y else a, _, _, _))
  by_cases p : lLeap d.2.1 y = lLeap e.2.1 y
  · rw [if_pos p, if_pos p, if_pos p]
  · rw [if_neg p, if_neg p, if_neg p]
    by_cases q : cc = 0
    · rw [if_pos (by omega), if_pos q]
    · rw [if_neg (by omega), if_neg q]
theorem cm_lonely {d e : vDes} (hd : vOk d) (he : vOk e) {w : Nat → Int32} {s t : Nat} (hs : s < 6) (ht : t < 6) (hw : DR d w (442 * s)) (hv : DR e w (442 * t)) (F : Nat → Int32) {f z x : Int} (hf : -100000 ≤ f ∧ f ≤ 100000) (hz : -100000 ≤ z ∧ z ≤ 100000) (hfz : f ≤ z ∧ z - f ≤ 20000) (hx : x = 0 ∨ x = 1) {n : Nat} (hn : 250000 ≤ n) : ∃ r, k_lonelyLeaps n d.2.1 e.2.1 (iI f) (iI z) (iI x) = some r ∧ zloop (mapart_64 n F w (iI (s : Int)) (iI (t : Int)) (iI z) (iI x)) n (0, -1, -1, iI f, iI f) = some (r, F) := by
  unfold k_lonelyLeaps
  obtain ⟨r, q, e1, e2, e3⟩ := zloop_sim (f := k_lonelyLeaps_9 n d.2.1 e.2.1 (iI z) (iI x)) (g := mapart_64 n F w (iI (s : Int)) (iI (t : Int)) (iI z) (iI x)) (R := fun p q => ∃ (y cc D : Int) (a Y : Int32), (f ≤ y ∧ y ≤ z + 1) ∧ (0 ≤ cc ∧ cc ≤ y - f) ∧ (-1 ≤ D ∧ D ≤ 1000000000) ∧ p = (a, iI cc, iI y) ∧ q = (iI cc, a, iJ D, Y, iI y)) (S := fun p q => q = (p, F)) (fun p => (z + 1 - p.2.2.toInt).toNat) (by
    rintro p q ⟨y, cc, D, a, Y, hy, hc, hD, rfl, rfl⟩
    by_cases py : y ≤ z
    · left
      have hdb : 0 ≤ dst d e y ∧ dst d e y ≤ 500000000 := by
        have b1 := sta_bd hd (y := y) ⟨by omega, by omega⟩
        have b2 := sta_bd he (y := y) ⟨by omega, by omega⟩
        unfold dst; omega
      have hμ : (z + 1 - (iI (y + 1)).toInt).toNat < (z + 1 - (iI y).toInt).toNat := by rw [iI_to ⟨by omega, by omega⟩, iI_to ⟨by omega, by omega⟩]; omega
      have hk : k_lonelyLeaps_9 n d.2.1 e.2.1 (iI z) (iI x) (a, iI cc, iI y) = some (.inl (if dLe d y = dLe e y then a else if cc = 0 then iI y else a, iI (if dLe d y = dLe e y then cc else cc + 1), iI (y + 1))) := by
        unfold k_lonelyLeaps_9 k_lonelyLeaps_42 k_lonelyLeaps_47
        dsimp only
        rw [if_c (iI_lt ⟨by omega, by omega⟩ ⟨by omega, by omega⟩), if_neg (by omega), c_leap hd.2.1 ⟨by omega, by omega⟩ (by omega), Option.bind_some, c_leap he.2.1 ⟨by omega, by omega⟩ (by omega), Option.bind_some, if_c (zb_eqv _ _), show (iI cc + 1 : Int32) = iI (cc + 1) from iI_add _ 1, show (iI y + 1 : Int32) = iI (y + 1) from iI_add _ 1, if_c (show (iI cc = (0 : Int32)) = (cc = 0) from iI_eq (b := 0) ⟨by omega, by omega⟩ ⟨by omega, by omega⟩)]
        show _ = some (Sum.inl (if lLeap d.2.1 y = lLeap e.2.1 y then a else if cc = 0 then iI y else a, iI (if lLeap d.2.1 y = lLeap e.2.1 y then cc else cc + 1), _))
        by_cases p : lLeap d.2.1 y = lLeap e.2.1 y
        · rw [if_pos p, if_pos p, if_pos p]
        · rw [if_neg p, if_neg p, if_neg p]
          by_cases q : cc = 0
          · rw [if_pos q, if_pos q]
          · rw [if_neg q, if_neg q]
      refine ⟨_, _, hk, m_apartStep hd he hs ht hw hv F ⟨by omega, by omega⟩ ⟨by omega, by omega⟩ hD ⟨by omega, by omega⟩ py hn, ⟨y + 1, _, _, _, _, ⟨by omega, by omega⟩, ?_, ?_, rfl, rfl⟩, hμ⟩
      · split <;> omega
      · split <;> omega
    · right
      unfold k_lonelyLeaps_9 mapart_64
      dsimp only
      rw [if_c (iI_lt ⟨by omega, by omega⟩ ⟨by omega, by omega⟩), if_pos (show z < y by omega), if_c (iI_lt ⟨by omega, by omega⟩ ⟨by omega, by omega⟩), if_pos (show z < y by omega)]
      rcases hx with rfl | rfl
      · rw [if_pos (show iI 0 = (0 : Int32) by decide +kernel), if_pos (show iI 0 = (0 : Int32) by decide +kernel)]; exact ⟨_, _, rfl, rfl, rfl⟩
      · rw [if_neg (show ¬ iI 1 = (0 : Int32) by decide +kernel), if_neg (show ¬ iI 1 = (0 : Int32) by decide +kernel), if_pos (show iI 1 = (1 : Int32) by decide +kernel)]; exact ⟨_, _, rfl, rfl, rfl⟩) n n (-1, 0, iI f) (0, -1, -1, iI f, iI f) ⟨f, 0, -1, -1, iI f, ⟨by omega, by omega⟩, ⟨by omega, by omega⟩, ⟨by omega, by omega⟩, rfl, rfl⟩ (by show (z + 1 - (iI f).toInt).toNat < n; rw [iI_to ⟨by omega, by omega⟩]; omega) (by show (z + 1 - (iI f).toInt).toNat < n; rw [iI_to ⟨by omega, by omega⟩]; omega)
  exact ⟨r, e1, by rw [e2, e3]⟩
theorem cm_farthest {d e : vDes} (hd : vOk d) (he : vOk e) {w : Nat → Int32} {s t : Nat} (hs : s < 6) (ht : t < 6) (hw : DR d w (442 * s)) (hv : DR e w (442 * t)) (F : Nat → Int32) {f z x : Int} (hf : -100000 ≤ f ∧ f ≤ 100000) (hz : -100000 ≤ z ∧ z ≤ 100000) (hfz : f ≤ z ∧ z - f ≤ 20000) (hx : x = 2 ∨ x = 3) {n : Nat} (hn : 250000 ≤ n) : ∃ r, k_farthestStarts n d e (iI f) (iI z) (iI x) = some r ∧ zloop (mapart_64 n F w (iI (s : Int)) (iI (t : Int)) (iI z) (iI x)) n (0, -1, -1, iI f, iI f) = some (r, F) := by
  unfold k_farthestStarts
  rw [c_start hd ⟨by omega, by omega⟩ (by omega), Option.bind_some, c_start he ⟨by omega, by omega⟩ (by omega), Option.bind_some]
  obtain ⟨r, q, e1, e2, e3⟩ := zloop_sim (f := k_farthestStarts_25 n d e (iI z) (iI x)) (g := mapart_64 n F w (iI (s : Int)) (iI (t : Int)) (iI z) (iI x)) (R := fun p q => ∃ (y cc D : Int) (a Y : Int32), (f ≤ y ∧ y ≤ z + 1) ∧ (0 ≤ cc ∧ cc ≤ y - f) ∧ (-1 ≤ D ∧ D ≤ 1000000000) ∧ p = (iJ (sta d y), iJ (sta e y), iJ D, Y, iI y) ∧ q = (iI cc, a, iJ D, Y, iI y)) (S := fun p q => q = (p, F)) (fun p => (z + 1 - p.2.2.2.2.toInt).toNat) (by
    rintro p q ⟨y, cc, D, a, Y, hy, hc, hD, rfl, rfl⟩
    by_cases py : y ≤ z
    · left
      have b1 := sta_bd hd (y := y) ⟨by omega, by omega⟩
      have b2 := sta_bd he (y := y) ⟨by omega, by omega⟩
      have hdb : 0 ≤ dst d e y ∧ dst d e y ≤ 500000000 := by unfold dst; omega
      have hμ : (z + 1 - (iI (y + 1)).toInt).toNat < (z + 1 - (iI y).toInt).toNat := by rw [iI_to ⟨by omega, by omega⟩, iI_to ⟨by omega, by omega⟩]; omega
      have hk : k_farthestStarts_25 n d e (iI z) (iI x) (iJ (sta d y), iJ (sta e y), iJ D, Y, iI y) = some (.inl (iJ (sta d (y + 1)), iJ (sta e (y + 1)), iJ (if D < dst d e y then dst d e y else D), if D < dst d e y then iI y else Y, iI (y + 1))) := by
        have d1 := dys_bd hd y
        have d2 := dys_bd he y
        have h57 : ∀ (D : Int64) (Y : Int32), k_farthestStarts_57 n d e (iI z) (iI x) (iJ (sta d y)) (iJ (sta e y)) D Y (iI y) = some (.inl (iJ (sta d (y + 1)), iJ (sta e (y + 1)), D, Y, iI (y + 1))) := fun D Y => by
          unfold k_farthestStarts_57
          rw [c_days hd ⟨by omega, by omega⟩ (by omega), Option.bind_some, c_days he ⟨by omega, by omega⟩ (by omega), Option.bind_some, iI_J ⟨by omega, by omega⟩, iI_J ⟨by omega, by omega⟩, iJ_add, iJ_add, ← sta_succ hd, ← sta_succ he, show (iI y + 1 : Int32) = iI (y + 1) from iI_add _ 1]
        unfold k_farthestStarts_25
        dsimp only
        rw [if_c (iI_lt ⟨by omega, by omega⟩ ⟨by omega, by omega⟩), if_neg (by omega), iJ_sub, c_abs ⟨by omega, by omega⟩, Option.bind_some, if_c (show (iJ ((sta d y - sta e y).natAbs : Int) ≤ iJ D) = (dst d e y ≤ D) from iJ_le ⟨by omega, by omega⟩ ⟨by omega, by omega⟩), h57, h57]
        by_cases p : dst d e y ≤ D
        · rw [if_pos p, if_neg (by omega), if_neg (by omega)]
        · rw [if_neg p, if_pos (by omega), if_pos (by omega)]; rfl
      refine ⟨_, _, hk, m_apartStep hd he hs ht hw hv F ⟨by omega, by omega⟩ ⟨by omega, by omega⟩ hD ⟨by omega, by omega⟩ py hn, ⟨y + 1, _, _, _, _, ⟨by omega, by omega⟩, ?_, ?_, rfl, rfl⟩, hμ⟩
      · split <;> omega
      · split <;> omega
    · right
      unfold k_farthestStarts_25 mapart_64
      dsimp only
      rw [if_c (iI_lt ⟨by omega, by omega⟩ ⟨by omega, by omega⟩), if_pos (show z < y by omega), if_c (iI_lt ⟨by omega, by omega⟩ ⟨by omega, by omega⟩), if_pos (show z < y by omega)]
      rcases hx with rfl | rfl
      · rw [if_pos (show iI 2 = (2 : Int32) by decide +kernel), if_neg (show ¬ iI 2 = (0 : Int32) by decide +kernel), if_neg (show ¬ iI 2 = (1 : Int32) by decide +kernel), if_pos (show iI 2 = (2 : Int32) by decide +kernel)]; exact ⟨_, _, rfl, rfl, rfl⟩
      · rw [if_neg (show ¬ iI 3 = (2 : Int32) by decide +kernel), if_neg (show ¬ iI 3 = (0 : Int32) by decide +kernel), if_neg (show ¬ iI 3 = (1 : Int32) by decide +kernel), if_neg (show ¬ iI 3 = (2 : Int32) by decide +kernel)]; exact ⟨_, _, rfl, rfl, rfl⟩) n n (iJ (sta d f), iJ (sta e f), -1, iI f, iI f) (0, -1, -1, iI f, iI f) ⟨f, 0, -1, -1, iI f, ⟨by omega, by omega⟩, ⟨by omega, by omega⟩, ⟨by omega, by omega⟩, rfl, rfl⟩ (by show (z + 1 - (iI f).toInt).toNat < n; rw [iI_to ⟨by omega, by omega⟩]; omega) (by show (z + 1 - (iI f).toInt).toNat < n; rw [iI_to ⟨by omega, by omega⟩]; omega)
  exact ⟨r, e1, by rw [e2, e3]⟩
theorem hc_apart : HC_apart Inv := by
  intro A tp dv cs cv jv bo hg lw sb F G tq w oc z0 z1 z2 z3 z4 h
  have hn := hn_f
  unfold l_apart mapart
  rcases atD h.2.2.1 z0 with ⟨h1, h2⟩ | ⟨s, d, hs, rfl, hdv, h1, h2, h3, hd, hw⟩
  · rcases atD h.2.2.1 z1 with ⟨k1, k2⟩ | ⟨t, e, ht, rfl, hev, k1, k2, k3, he, hv⟩
    · rw [h1, h2, Option.bind_some, zO_n, k1]; exact ⟨_, _, rfl, rfl, rfl, h.thr⟩
    · rw [h1, h2, Option.bind_some, zO_n, k1]; exact ⟨_, _, rfl, rfl, rfl, h.thr⟩
  · rcases atD h.2.2.1 z1 with ⟨k1, k2⟩ | ⟨t, e, ht, rfl, hev, k1, k2, k3, he, hv⟩
    · rw [h1, h2, Option.bind_some, zO_s, k1, k2]; exact ⟨_, _, rfl, rfl, rfl, h.thr⟩
    · obtain ⟨f, hf, rfl⟩ := ex32 z2
      obtain ⟨z, hz, rfl⟩ := ex32 z3
      obtain ⟨x, hx, rfl⟩ := ex32 z4
      have h03 : misIn (iI x).toInt64 0 3 = some (decide (0 ≤ x ∧ x ≤ 3)) := by
        rw [iI_J hx, show (0 : Int64) = iJ 0 by decide +kernel, show (3 : Int64) = iJ 3 by decide +kernel]
        exact m_isIn (b32_64 hx) ⟨by omega, by omega⟩ ⟨by omega, by omega⟩
      simp only [h1, h2, k1, k2, Option.bind_some, zO_s, ↓reduceIte, c_isWalk hf hz, m_isSpan hf hz, h03]
      rw [if_c (show (iI x = (0 : Int32)) = (x = 0) from iI_eq (b := 0) hx ⟨by omega, by omega⟩), if_c (show (iI x = (1 : Int32)) = (x = 1) from iI_eq (b := 1) hx ⟨by omega, by omega⟩), if_c (show (iI x = (2 : Int32)) = (x = 2) from iI_eq (b := 2) hx ⟨by omega, by omega⟩), if_c (show (iI x = (3 : Int32)) = (x = 3) from iI_eq (b := 3) hx ⟨by omega, by omega⟩)]
      unfold l_apart_68 l_apart_87
      by_cases q : (-100000 ≤ f ∧ f ≤ 100000) ∧ (-100000 ≤ z ∧ z ≤ 100000) ∧ f ≤ z ∧ z - f ≤ 20000
      · rw [if_pos (decide_eq_true q), if_pos (decide_eq_true q)]
        by_cases qx : 0 ≤ x ∧ x ≤ 3
        · rw [if_pos (decide_eq_true qx)]
          by_cases t1 : x = 0 ∨ x = 1
          · obtain ⟨r, e1, e2⟩ := cm_lonely hd he hs ht hw hv (upd F 0 0) q.1 q.2.1 q.2.2 t1 hn
            rw [e1, e2, Option.bind_some]
            refine ⟨r, _, ?_, rfl, rfl, h.thr⟩
            rcases t1 with rfl | rfl
            · rw [if_pos rfl]
            · rw [if_neg (by omega), if_pos rfl]
          · obtain ⟨r, e1, e2⟩ := cm_farthest hd he hs ht hw hv (upd F 0 0) q.1 q.2.1 q.2.2 (x := x) (by omega) hn
            rw [e1, e2, Option.bind_some]
            refine ⟨r, _, ?_, rfl, rfl, h.thr⟩
            rw [if_neg (by omega), if_neg (by omega)]
            by_cases t2 : x = 2
            · rw [if_pos t2]
            · rw [if_neg t2, if_pos (by omega)]
        · rw [if_neg (dneg qx), if_neg (by omega), if_neg (by omega), if_neg (by omega), if_neg (by omega)]; exact ⟨_, _, rfl, rfl, rfl, h.thr⟩
      · rw [if_neg (dneg q), if_neg (dneg q)]; exact ⟨_, _, rfl, rfl, rfl, h.thr⟩
