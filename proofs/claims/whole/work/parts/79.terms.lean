/-! ===== calls: term, convergent ===== -/
def eXY (P Q : Nat) : Nat → Nat × Nat
  | 0 => (P, Q)
  | i + 1 => ((eXY P Q i).2, (eXY P Q i).1 % (eXY P Q i).2)
def eC (P Q : Nat) : Nat → Int × Int × Int × Int
  | 0 => (1, 0, 0, 1)
  | i + 1 => (((eXY P Q i).1 / (eXY P Q i).2 : Nat) * (eC P Q i).1 + (eC P Q i).2.2.1, ((eXY P Q i).1 / (eXY P Q i).2 : Nat) * (eC P Q i).2.1 + (eC P Q i).2.2.2, (eC P Q i).1, (eC P Q i).2.1)
def eD (P Q i : Nat) : Prop := ∀ j, j < i → (eXY P Q j).2 ≠ 0
theorem eD_succ {P Q i : Nat} (h : eD P Q i) (hy : (eXY P Q i).2 ≠ 0) : eD P Q (i + 1) := fun j hj => by
  by_cases q : j = i
  · rw [q]; exact hy
  · exact h j (by omega)
theorem e_eu {P Q : Nat} (hP : P < 2 ^ 63) (hQ : Q < 2 ^ 63) : ∀ i, eD P Q i → euR (Nat.gcd P Q) i (eXY P Q i).1 (eXY P Q i).2
  | 0, _ => ⟨by omega, hP, hQ, rfl, 0, Or.inl ⟨rfl, by simpa [eXY] using hQ⟩⟩
  | i + 1, h => by
    have ih := e_eu hP hQ i (fun j hj => h j (by omega))
    have := h i (by omega)
    exact euR_step ih (Nat.pos_of_ne_zero this)
def sg (i : Nat) : Int := if i % 2 = 0 then 1 else -1
theorem sg_succ (i : Nat) : sg (i + 1) = -sg i := by
  unfold sg
  by_cases q : i % 2 = 0
  · rw [if_pos q, if_neg (by omega)]
  · rw [if_neg q, if_pos (by omega)]; rfl
theorem sg_sq (i : Nat) : sg i = 1 ∨ sg i = -1 := by unfold sg; split <;> simp
theorem e_inv (P Q : Nat) : ∀ i, eD P Q i → ((P : Int) = (eC P Q i).1 * (eXY P Q i).1 + (eC P Q i).2.2.1 * (eXY P Q i).2 ∧ (Q : Int) = (eC P Q i).2.1 * (eXY P Q i).1 + (eC P Q i).2.2.2 * (eXY P Q i).2) ∧ (eC P Q i).1 * (eC P Q i).2.2.2 - (eC P Q i).2.2.1 * (eC P Q i).2.1 = sg i ∧ (0 ≤ (eC P Q i).1 ∧ 0 ≤ (eC P Q i).2.1 ∧ 0 ≤ (eC P Q i).2.2.1 ∧ 0 ≤ (eC P Q i).2.2.2) ∧ (1 ≤ i → (eXY P Q i).2 < (eXY P Q i).1 ∧ 1 ≤ (eC P Q i).2.1 ∧ (eC P Q i).2.2.2 ≤ (eC P Q i).2.1)
  | 0, _ => by simp [eC, eXY, sg]
  | i + 1, h => by
    obtain ⟨⟨h1, h2⟩, h3, ⟨p1, p2, p3, p4⟩, h5⟩ := e_inv P Q i (fun j hj => h j (by omega))
    have hy := h i (by omega)
    have hdm := Nat.div_add_mod (eXY P Q i).1 (eXY P Q i).2
    have hlt := Nat.mod_lt (eXY P Q i).1 (show 0 < (eXY P Q i).2 by omega)
    rw [eC, eXY, sg_succ]
    dsimp only
    generalize hX : (eXY P Q i).1 = X at *
    generalize hY : (eXY P Q i).2 = Y at *
    generalize hC : eC P Q i = C at *
    obtain ⟨c1, c2, c3, c4⟩ := C
    dsimp only at *
    have ha0 : (0 : Int) ≤ ((X / Y : Nat) : Int) := Int.natCast_nonneg _
    have hXe : (X : Int) = (Y : Int) * ((X / Y : Nat) : Int) + ((X % Y : Nat) : Int) := by rw [← Int.natCast_mul, ← Int.natCast_add, hdm]
    generalize hA : ((X / Y : Nat) : Int) = a at *
    generalize hM : ((X % Y : Nat) : Int) = r at *
    refine ⟨⟨?_, ?_⟩, ?_, ⟨?_, ?_, p1, p2⟩, fun _ => ⟨by omega, ?_⟩⟩
    · rw [h1, hXe]; simp only [Int.mul_add, Int.add_mul]
      have : c1 * ((Y : Int) * a) = a * c1 * Y := by ac_rfl
      omega
    · rw [h2, hXe]; simp only [Int.mul_add, Int.add_mul]
      have : c2 * ((Y : Int) * a) = a * c2 * Y := by ac_rfl
      omega
    · simp only [Int.add_mul]
      have e1 : a * c1 * c2 = c1 * (a * c2) := by ac_rfl
      have e2 : c1 * (a * c2 + c4) = c1 * (a * c2) + c1 * c4 := Int.mul_add ..
      omega
    · exact Int.add_nonneg (Int.mul_nonneg ha0 p1) p3
    · exact Int.add_nonneg (Int.mul_nonneg ha0 p2) p4
    · by_cases q : i = 0
      · subst q
        rw [eC] at hC
        obtain ⟨rfl, rfl, rfl, rfl⟩ := Prod.mk.injEq .. ▸ hC |> fun (h : (1 : Int) = c1 ∧ ((0 : Int), (0 : Int), (1 : Int)) = (c2, c3, c4)) => (⟨h.1, (Prod.mk.inj h.2).1, (Prod.mk.inj (Prod.mk.inj h.2).2).1, (Prod.mk.inj (Prod.mk.inj h.2).2).2⟩ : (1 : Int) = c1 ∧ (0 : Int) = c2 ∧ (0 : Int) = c3 ∧ (1 : Int) = c4)
        simp
      · obtain ⟨g1, g2, g3⟩ := h5 (by omega)
        have ha1 : 1 ≤ a := by
          have : 1 ≤ X / Y := (Nat.le_div_iff_mul_le (by omega)).mpr (by omega)
          omega
        have := Int.mul_le_mul_of_nonneg_right ha1 p2
        rw [Int.one_mul] at this
        exact ⟨by omega, by omega⟩
theorem e_bd {P Q : Nat} (hQ1 : 1 ≤ Q) {i : Nat} (hi : 1 ≤ i) (h : eD P Q i) : ((eC P Q i).1 ≤ P ∧ (eC P Q i).2.1 ≤ Q) ∧ Int.gcd (eC P Q i).1 (eC P Q i).2.1 = 1 := by
  obtain ⟨⟨h1, h2⟩, h3, ⟨p1, p2, p3, p4⟩, h5⟩ := e_inv P Q i h
  obtain ⟨g1, g2, g3⟩ := h5 hi
  generalize hX : (eXY P Q i).1 = X at *
  generalize hY : (eXY P Q i).2 = Y at *
  generalize hC : eC P Q i = C at *
  obtain ⟨c1, c2, c3, c4⟩ := C
  dsimp only at *
  have a1 : c1 * 1 ≤ c1 * (X : Int) := Int.mul_le_mul_of_nonneg_left (by omega) p1
  have a2 : c2 * 1 ≤ c2 * (X : Int) := Int.mul_le_mul_of_nonneg_left (by omega) p2
  have a3 : 0 ≤ c3 * (Y : Int) := Int.mul_nonneg p3 (by omega)
  have a4 : 0 ≤ c4 * (Y : Int) := Int.mul_nonneg p4 (by omega)
  refine ⟨⟨by omega, by omega⟩, ?_⟩
  have hd : (Int.gcd c1 c2 : Int) ∣ sg i := by
    rw [← h3]
    exact Int.dvd_sub (Int.dvd_mul_of_dvd_left (Int.gcd_dvd_left ..)) (Int.dvd_mul_of_dvd_right (Int.gcd_dvd_right ..))
  have hd2 : (Int.gcd c1 c2 : Int) ∣ 1 := by
    rcases sg_sq i with q | q
    · rw [q] at hd; exact hd
    · rw [q] at hd; exact (Int.dvd_neg).mp hd
  have := Int.le_of_dvd (by omega) hd2
  have : 1 ≤ Int.gcd c1 c2 := Int.gcd_pos_of_ne_zero_right _ (by omega)
  omega
theorem j0_nz {Y : Nat} (hY : Y < 2 ^ 63) (h : Y ≠ 0) : decide (¬ iJ (Y : Int) = 0) = true := by
  rw [decide_eq_true_eq]; show ¬ iJ (Y : Int) = iJ 0; rw [iJ_eq ⟨by omega, by omega⟩ ⟨by omega, by omega⟩]; omega
theorem eu_div {X Y : Nat} (hX : X < 2 ^ 63) (hY : Y < 2 ^ 63) : iJ (X : Int) / iJ (Y : Int) = iJ ((X / Y : Nat) : Int) := by
  rw [iJ_div ⟨by omega, by omega⟩ (by omega) ⟨by omega, by omega⟩]
  congr 1
theorem c_term {P Q : Nat} (hP : P < 2 ^ 63) (hQ : Q < 2 ^ 63) {x : Int} (hx : b32 x) {n : Nat} (hn : 250000 ≤ n) : ∃ r, k_tellTerm n (iJ (P : Int)) (iJ (Q : Int)) (iI x) = some r ∧ ((∃ K : Nat, eD P Q K ∧ (eXY P Q K).2 = 0 ∧ ((x = -1 ∧ r = iJ (K : Int)) ∨ (x ≠ -1 ∧ (x < 0 ∨ (K : Int) ≤ x) ∧ r = -1000000000000000))) ∨ ∃ j : Nat, x = (j : Int) ∧ eD P Q j ∧ (eXY P Q j).2 ≠ 0 ∧ r = iJ (((eXY P Q j).1 / (eXY P Q j).2 : Nat) : Int)) := by
  unfold k_tellTerm
  obtain ⟨r, g1, g2⟩ := zloop_ix (f := k_tellTerm_9 n (iI x)) (R := fun i s => eD P Q i ∧ (x < 0 ∨ (i : Int) ≤ x) ∧ s = (iJ ((eXY P Q i).1 : Int), iJ ((eXY P Q i).2 : Int), iI (i : Int))) (S := fun r => (∃ K : Nat, eD P Q K ∧ (eXY P Q K).2 = 0 ∧ ((x = -1 ∧ r = iJ (K : Int)) ∨ (x ≠ -1 ∧ (x < 0 ∨ (K : Int) ≤ x) ∧ r = -1000000000000000))) ∨ ∃ j : Nat, x = (j : Int) ∧ eD P Q j ∧ (eXY P Q j).2 ≠ 0 ∧ r = iJ (((eXY P Q j).1 / (eXY P Q j).2 : Nat) : Int)) 127 (by rintro i s ⟨hd, -, -⟩; exact (e_eu hP hQ i hd).1) (by
    rintro i s ⟨hd, hxi, rfl⟩
    have he := e_eu hP hQ i hd
    have b1 := he.1
    have b2 := he.2.1
    have b3 := he.2.2.1
    unfold k_tellTerm_9 k_tellTerm_58
    dsimp only
    rw [if_c (show ((200 : Int32) ≤ iI (i : Int)) = (200 ≤ (i : Int)) from iI_le (a := 200) ⟨by omega, by omega⟩ ⟨by omega, by omega⟩), if_neg (by omega), if_c (show (iJ ((eXY P Q i).2 : Int) ≤ (0 : Int64)) = (((eXY P Q i).2 : Int) ≤ 0) from iJ_le (b := 0) ⟨by omega, by omega⟩ ⟨by omega, by omega⟩), if_c (iI_eq ⟨by omega, by omega⟩ hx), iI_J ⟨by omega, by omega⟩, show (-1 : Int32) = iI (-1) by decide +kernel, if_c (iI_eq hx ⟨by omega, by omega⟩)]
    by_cases p : ((eXY P Q i).2 : Int) ≤ 0
    · right
      rw [if_pos p]
      by_cases q : x = -1
      · rw [if_pos q]; exact ⟨_, rfl, Or.inl ⟨i, hd, by omega, Or.inl ⟨q, rfl⟩⟩⟩
      · rw [if_neg q]; exact ⟨_, rfl, Or.inl ⟨i, hd, by omega, Or.inr ⟨q, hxi, rfl⟩⟩⟩
    · rw [if_neg p]
      by_cases q : (i : Int) = x
      · right
        rw [if_pos q, zck_t (j0_nz b3 (by omega)), eu_div b2 b3]
        exact ⟨_, rfl, Or.inr ⟨i, q.symm, hd, by omega, rfl⟩⟩
      · left
        rw [if_neg q, zck_t (j0_nz b3 (by omega)), eu_tmod b2 b3, show (iI (i : Int) + 1 : Int32) = iI ((i + 1 : Nat) : Int) from iI_add _ 1]
        exact ⟨_, rfl, eD_succ hd (by omega), by omega, rfl⟩) n 0 (iJ (P : Int), iJ (Q : Int), 0) ⟨fun j hj => by omega, by omega, rfl⟩ (by omega)
  exact ⟨r, g1, g2⟩
theorem m_works {P Q : Nat} (hP : P < 2 ^ 63) (hQ : Q < 2 ^ 63) (G : Nat → Int64) {L : Int} (hL : b32 L) (hL0 : 0 ≤ L) {n : Nat} (hn : 250000 ≤ n) : ∃ (c : Nat) (G' : Nat → Int64), mworks n G (iJ (P : Int)) (iJ (Q : Int)) (iI L) = some (iI (c : Int), G') ∧ eD P Q c ∧ c ≤ 127 ∧ (((eXY P Q c).2 = 0 ∧ (c : Int) ≤ L) ∨ (c : Int) = L + 1) ∧ G' 23 = iJ (eC P Q c).1 ∧ G' 24 = iJ (eC P Q c).2.1 ∧ (∀ j : Nat, c = j + 1 → G' 25 = iJ (((eXY P Q j).1 / (eXY P Q j).2 : Nat) : Int)) ∧ G' 21 = G 21 ∧ G' 22 = G 22 := by
  unfold mworks
  obtain ⟨r, g1, c, G', g2, g3⟩ := zloop_ix (f := mworks_21 n (iI L)) (R := fun i s => eD P Q i ∧ (i : Int) ≤ L + 1 ∧ ∃ G' : Nat → Int64, s = (iJ ((eXY P Q i).1 : Int), iJ ((eXY P Q i).2 : Int), iJ (eC P Q i).1, iJ (eC P Q i).2.1, iJ (eC P Q i).2.2.1, iJ (eC P Q i).2.2.2, iI (i : Int), G') ∧ (∀ j : Nat, i = j + 1 → G' 25 = iJ (((eXY P Q j).1 / (eXY P Q j).2 : Nat) : Int)) ∧ G' 21 = G 21 ∧ G' 22 = G 22) (S := fun r => ∃ (c : Nat) (G' : Nat → Int64), r = (iI (c : Int), G') ∧ eD P Q c ∧ c ≤ 127 ∧ (((eXY P Q c).2 = 0 ∧ (c : Int) ≤ L) ∨ (c : Int) = L + 1) ∧ G' 23 = iJ (eC P Q c).1 ∧ G' 24 = iJ (eC P Q c).2.1 ∧ (∀ j : Nat, c = j + 1 → G' 25 = iJ (((eXY P Q j).1 / (eXY P Q j).2 : Nat) : Int)) ∧ G' 21 = G 21 ∧ G' 22 = G 22) 127 (by rintro i s ⟨hd, -⟩; exact (e_eu hP hQ i hd).1) (by
    rintro i s ⟨hd, hiL, G', rfl, k1, k2, k3⟩
    have he := e_eu hP hQ i hd
    have b1 := he.1
    have b2 := he.2.1
    have b3 := he.2.2.1
    have hLb := hL.2
    have h105 : (mworks_105 n G' (iJ (eC P Q i).1) (iJ (eC P Q i).2.1) (iI (i : Int))).map (fun z => (Sum.inr z : (Int64 × Int64 × Int64 × Int64 × Int64 × Int64 × Int32 × (Nat → Int64)) ⊕ (Int32 × (Nat → Int64)))) = some (.inr (iI (i : Int), vp_updL (vp_updL G' 23 (iJ (eC P Q i).1)) 24 (iJ (eC P Q i).2.1))) := rfl
    unfold mworks_21
    dsimp only
    rw [if_c (show (iJ ((eXY P Q i).2 : Int) = (0 : Int64)) = (((eXY P Q i).2 : Int) = 0) from iJ_eq (b := 0) ⟨by omega, by omega⟩ ⟨by omega, by omega⟩), if_c (iI_lt hL ⟨by omega, by omega⟩), h105]
    by_cases p : ((eXY P Q i).2 : Int) = 0
    · right
      rw [if_pos p]
      refine ⟨_, rfl, i, _, rfl, hd, b1, by omega, ?_, updL_at, fun j hj => ?_, ?_, ?_⟩
      · rw [updL_ne (by omega), updL_at]
      · rw [updL_ne (by omega), updL_ne (by omega)]; exact k1 j hj
      · rw [updL_ne (by omega), updL_ne (by omega)]; exact k2
      · rw [updL_ne (by omega), updL_ne (by omega)]; exact k3
    · rw [if_neg p]
      by_cases q : L < (i : Int)
      · right
        rw [if_pos q]
        refine ⟨_, rfl, i, _, rfl, hd, b1, by omega, ?_, updL_at, fun j hj => ?_, ?_, ?_⟩
        · rw [updL_ne (by omega), updL_at]
        · rw [updL_ne (by omega), updL_ne (by omega)]; exact k1 j hj
        · rw [updL_ne (by omega), updL_ne (by omega)]; exact k2
        · rw [updL_ne (by omega), updL_ne (by omega)]; exact k3
      · left
        rw [if_neg q, zck_t (j0_nz b3 (by omega)), zck_t (j0_nz b3 (by omega)), eu_tmod b2 b3, eu_div b2 b3, updL_at, show (iI (i : Int) + 1 : Int32) = iI ((i + 1 : Nat) : Int) from iI_add _ 1, iJ_mul, iJ_mul, iJ_add, iJ_add]
        refine ⟨_, rfl, eD_succ hd (by omega), by omega, _, rfl, fun j hj => ?_, ?_, ?_⟩
        · rw [updL_at, show j = i by omega]
        · rw [updL_ne (by omega)]; exact k2
        · rw [updL_ne (by omega)]; exact k3) n 0 (iJ (P : Int), iJ (Q : Int), 1, 0, 0, 1, 0, G) ⟨fun j hj => by omega, by omega, G, by show _ = (iJ (P : Int), iJ (Q : Int), iJ 1, iJ 0, iJ 0, iJ 1, iI 0, G); rfl, fun j hj => by omega, rfl, rfl⟩ (by omega)
  exact ⟨c, G', by rw [g1, g2], g3⟩
theorem hc_term : HC_term Inv := by
  intro A tp dv cs cv jv bo hg lw sb F G tq w oc z0 z1 z2 h
  have hn := hn_f
  obtain ⟨p, hp, rfl⟩ := ex32 z0
  obtain ⟨q, hq, rfl⟩ := ex32 z1
  obtain ⟨x, hx, rfl⟩ := ex32 z2
  unfold l_term mterm
  rw [c_isShare hp hq, m_isFraction hp hq, Option.bind_some, Option.bind_some]
  by_cases hs : (1 ≤ q ∧ q ≤ 1000000) ∧ 0 ≤ p ∧ p ≤ q
  · rw [if_pos (decide_eq_true hs), if_pos (decide_eq_true hs), iI_J hp, iI_J hq, show (-1 : Int32) = iI (-1) by decide +kernel, if_c (iI_le ⟨by omega, by omega⟩ hx), if_c (iI_eq hx ⟨by omega, by omega⟩)]
    obtain ⟨P, hPe⟩ : ∃ P : Nat, p = P := ⟨p.toNat, by omega⟩
    obtain ⟨Q, hQe⟩ : ∃ Q : Nat, q = Q := ⟨q.toNat, by omega⟩
    subst hPe; subst hQe
    obtain ⟨r, r1, r2⟩ := c_term (P := P) (Q := Q) (by omega) (by omega) hx hn
    rw [r1, Option.bind_some]
    have hI : ∀ G' : Nat → Int64, G' 21 = G 21 → G' 22 = G 22 → Inv A tp dv cs cv jv bo hg lw sb (upd F 0 0) G' tq w oc := fun G' g1 g2 => h.fld ⟨rfl, rfl, rfl, rfl, rfl, rfl⟩ ⟨g1, g2⟩
    unfold mterm_39
    by_cases x1 : -1 ≤ x
    · rw [if_pos x1]
      by_cases x2 : x = -1
      · rw [if_pos x2]
        obtain ⟨c, G', e1, e2, e3, e4, e5, e6, e7, e8, e9⟩ := m_works (P := P) (Q := Q) (by omega) (by omega) G (L := 1000) ⟨by omega, by omega⟩ (by omega) hn
        rw [show (1000 : Int32) = iI 1000 by decide +kernel, e1, Option.bind_some, show (-1 : Int32) = iI (-1) by decide +kernel, if_c (show (iI x = iI (-1)) = (x = -1) from iI_eq hx ⟨by omega, by omega⟩), if_pos x2, iI_J ⟨by omega, by omega⟩]
        refine ⟨_, _, rfl, rfl, ?_, hI G' e8 e9⟩
        rcases r2 with ⟨K, k1, k2, ⟨_, k3⟩ | ⟨k3, _⟩⟩ | ⟨j, k1, _⟩
        · have : K = c := by
            rcases Nat.lt_trichotomy K c with t | t | t
            · exact absurd k2 (e2 K t)
            · exact t
            · rcases e4 with ⟨e4, _⟩ | e4
              · exact absurd e4 (k1 c t)
              · omega
          rw [k3, this]
        · exact absurd x2 k3
        · omega
      · rw [if_neg x2]
        obtain ⟨c, G', e1, e2, e3, e4, e5, e6, e7, e8, e9⟩ := m_works (P := P) (Q := Q) (by omega) (by omega) G (L := x) hx (by omega) hn
        have hcmp : (iI (c : Int) = iI x + 1) = ((c : Int) = x + 1) := by
          apply propext
          constructor
          · intro t
            have t2 : iI ((c : Int) - 1) = iI x := by rw [← iI_sub, t]; show iI x + 1 - 1 = iI x; rw [Int32.add_sub_cancel]
            rw [iI_eq ⟨by omega, by omega⟩ hx] at t2
            omega
          · intro t; rw [t, ← iI_add]; rfl
        rw [e1, Option.bind_some, show (-1 : Int32) = iI (-1) by decide +kernel, if_c (show (iI x = iI (-1)) = (x = -1) from iI_eq hx ⟨by omega, by omega⟩), if_neg x2]
        dsimp only
        rw [if_c hcmp]
        by_cases t : (c : Int) = x + 1
        · rw [if_pos t]
          refine ⟨_, _, rfl, rfl, ?_, hI G' e8 e9⟩
          show r = G' 25
          rcases r2 with ⟨K, k1, k2, ⟨k3, _⟩ | ⟨_, k3, _⟩⟩ | ⟨j, k1, k2, k3, k4⟩
          · exact absurd k3 x2
          · exact absurd k2 (e2 K (by omega))
          · rw [k4, e7 j (by omega)]
        · rw [if_neg t]
          refine ⟨_, _, rfl, rfl, ?_, hI G' e8 e9⟩
          rcases r2 with ⟨K, k1, k2, ⟨k3, _⟩ | ⟨_, k3, k4⟩⟩ | ⟨j, k1, k2, k3, k4⟩
          · exact absurd k3 x2
          · exact k4
          · rcases e4 with ⟨e4, e5⟩ | e4
            · by_cases u : c = j
              · rw [u] at e4; exact absurd e4 k3
              · exact absurd e4 (k2 c (by omega))
            · exact absurd e4 t
    · rw [if_neg x1]
      refine ⟨_, _, rfl, rfl, ?_, h.thr⟩
      rcases r2 with ⟨K, k1, k2, ⟨k3, _⟩ | ⟨_, k3, k4⟩⟩ | ⟨j, k1, k2, k3, k4⟩
      · omega
      · exact k4
      · omega
  · rw [if_neg (dneg hs), if_neg (dneg hs)]; exact ⟨_, _, rfl, rfl, rfl, h.thr⟩
theorem c_ofTerms {P Q : Nat} (hP : P < 2 ^ 63) (hQ : Q < 2 ^ 63) {x : Int} (hx : b32 x) (hx0 : 0 ≤ x) : ∃ r, k_ofTerms (iJ (P : Int)) (iJ (Q : Int)) (iI x) = some r ∧ ((∃ K : Nat, eD P Q K ∧ (eXY P Q K).2 = 0 ∧ (K : Int) ≤ x ∧ K ≤ 127 ∧ r = none) ∨ ∃ j : Nat, x = (j : Int) ∧ j ≤ 127 ∧ eD P Q (j + 1) ∧ r = some (iJ (eC P Q (j + 1)).1, iJ (eC P Q (j + 1)).2.1)) := by
  unfold k_ofTerms k_newFra
  rw [Option.bind_some, Option.bind_some]
  obtain ⟨r, g1, g2⟩ := zloop_ix (f := k_ofTerms_31 (iI x)) (R := fun i s => eD P Q i ∧ (i : Int) ≤ x ∧ s = (iJ ((eXY P Q i).1 : Int), iJ ((eXY P Q i).2 : Int), (iJ (eC P Q i).2.2.1, iJ (eC P Q i).2.2.2), (iJ (eC P Q i).1, iJ (eC P Q i).2.1), iI (i : Int))) (S := fun r => (∃ K : Nat, eD P Q K ∧ (eXY P Q K).2 = 0 ∧ (K : Int) ≤ x ∧ K ≤ 127 ∧ r = none) ∨ ∃ j : Nat, x = (j : Int) ∧ j ≤ 127 ∧ eD P Q (j + 1) ∧ r = some (iJ (eC P Q (j + 1)).1, iJ (eC P Q (j + 1)).2.1)) 127 (by rintro i s ⟨hd, -, -⟩; exact (e_eu hP hQ i hd).1) (by
    rintro i s ⟨hd, hxi, rfl⟩
    have he := e_eu hP hQ i hd
    have b1 := he.1
    have b2 := he.2.1
    have b3 := he.2.2.1
    have hpt : k_plusTimes (iJ (eC P Q i).2.2.1, iJ (eC P Q i).2.2.2) (iJ (eC P Q i).1, iJ (eC P Q i).2.1) (iJ (((eXY P Q i).1 / (eXY P Q i).2 : Nat) : Int)) = some (iJ (eC P Q (i + 1)).1, iJ (eC P Q (i + 1)).2.1) := by
      unfold k_plusTimes k_newFra
      dsimp only
      rw [Option.bind_some, iJ_mul, iJ_mul, iJ_add, iJ_add, eC]
      dsimp only
      rw [Int.add_comm (eC P Q i).2.2.1, Int.add_comm (eC P Q i).2.2.2]
    unfold k_ofTerms_31
    dsimp only
    rw [if_c (show ((200 : Int32) ≤ iI (i : Int)) = (200 ≤ (i : Int)) from iI_le (a := 200) ⟨by omega, by omega⟩ ⟨by omega, by omega⟩), if_neg (by omega), if_c (show (iJ ((eXY P Q i).2 : Int) ≤ (0 : Int64)) = (((eXY P Q i).2 : Int) ≤ 0) from iJ_le (b := 0) ⟨by omega, by omega⟩ ⟨by omega, by omega⟩)]
    by_cases p : ((eXY P Q i).2 : Int) ≤ 0
    · right
      rw [if_pos p]
      exact ⟨_, rfl, Or.inl ⟨i, hd, by omega, hxi, b1, rfl⟩⟩
    · rw [if_neg p, zck_t (j0_nz b3 (by omega)), eu_div b2 b3, hpt, Option.bind_some, if_c (iI_eq ⟨by omega, by omega⟩ hx)]
      by_cases q : (i : Int) = x
      · right
        rw [if_pos q]
        exact ⟨_, rfl, Or.inr ⟨i, q.symm, b1, eD_succ hd (by omega), rfl⟩⟩
      · left
        rw [if_neg q, zck_t (j0_nz b3 (by omega)), ← eu_div b2 b3, eu_tmod b2 b3, show (iI (i : Int) + 1 : Int32) = iI ((i + 1 : Nat) : Int) from iI_add _ 1]
        exact ⟨_, rfl, eD_succ hd (by omega), by omega, rfl⟩) 256 0 (iJ (P : Int), iJ (Q : Int), (0, 1), (1, 0), 0) ⟨fun j hj => by omega, by omega, rfl⟩ (by omega)
  exact ⟨r, g1, g2⟩
theorem cm_part1 {a b : Int} (ha : b64 a) (ha2 : a ≠ -9223372036854775808) (hb : b64 b) (hb0 : 0 < b) (hg : Int.gcd a b = 1) (z : Int32) {n : Nat} (hn : 250000 ≤ n) : ∃ r : Int64, k_tellPart (iJ a, iJ b) z = some r ∧ mpartOf n (iJ a) (iJ b) z = some r := by
  obtain ⟨v, r, e1, e2, e3⟩ := cm_part ha ha2 hb hb0 z hn
  refine ⟨r, ?_, e3⟩
  unfold k_leastTerms k_newFra at e1
  rw [c_gcd ha ha2 hb (by omega) (by omega) hn, Option.bind_some, hg, zck_t (by decide +kernel), zck_t (by decide +kernel), Option.bind_some, iJ_div ha ha2 ⟨by omega, by omega⟩, iJ_div hb (by omega) ⟨by omega, by omega⟩, show ((1 : Nat) : Int) = 1 from rfl, Int.tdiv_one, Int.tdiv_one] at e1
  rw [Option.some.inj e1]
  exact e2
theorem hc_convergent : HC_convergent Inv := by
  intro A tp dv cs cv jv bo hg lw sb F G tq w oc z0 z1 z2 z3 h
  have hn := hn_f
  obtain ⟨p, hp, rfl⟩ := ex32 z0
  obtain ⟨q, hq, rfl⟩ := ex32 z1
  obtain ⟨x, hx, rfl⟩ := ex32 z2
  unfold l_convergent mconvergent
  have i1 : misIn (iI x).toInt64 0 1000 = some (decide (0 ≤ x ∧ x ≤ 1000)) := by
    rw [iI_J hx, show (0 : Int64) = iJ 0 by decide +kernel, show (1000 : Int64) = iJ 1000 by decide +kernel]
    exact m_isIn (b32_64 hx) ⟨by omega, by omega⟩ ⟨by omega, by omega⟩
  rw [c_isShare hp hq, m_isFraction hp hq, Option.bind_some, Option.bind_some]
  by_cases hs : (1 ≤ q ∧ q ≤ 1000000) ∧ 0 ≤ p ∧ p ≤ q
  · rw [if_pos (decide_eq_true hs), if_pos (decide_eq_true hs), i1, Option.bind_some, iI_J hp, iI_J hq, if_c (show ((0 : Int32) ≤ iI x) = (0 ≤ x) from iI_le (a := 0) ⟨by omega, by omega⟩ hx)]
    obtain ⟨P, hPe⟩ : ∃ P : Nat, p = P := ⟨p.toNat, by omega⟩
    obtain ⟨Q, hQe⟩ : ∃ Q : Nat, q = Q := ⟨q.toNat, by omega⟩
    subst hPe; subst hQe
    by_cases x0 : 0 ≤ x
    · obtain ⟨r, r1, r2⟩ := c_ofTerms (P := P) (Q := Q) (by omega) (by omega) hx x0
      rw [if_pos x0, r1, Option.bind_some]
      by_cases x1 : x ≤ 1000
      · obtain ⟨c, G', e1, e2, e3, e4, e5, e6, e7, e8, e9⟩ := m_works (P := P) (Q := Q) (by omega) (by omega) G (L := x) hx (by omega) hn
        have hI : Inv A tp dv cs cv jv bo hg lw sb (upd F 0 0) G' tq w oc := h.fld ⟨rfl, rfl, rfl, rfl, rfl, rfl⟩ ⟨e8, e9⟩
        rw [if_pos (decide_eq_true ⟨x0, x1⟩), e1, Option.bind_some]
        dsimp only
        rw [show (iI x + 1 : Int32) = iI (x + 1) from iI_add _ 1, if_c (iI_eq ⟨by omega, by omega⟩ ⟨by omega, by omega⟩)]
        by_cases t : (c : Int) = x + 1
        · rw [if_pos t, e5, e6]
          rcases r2 with ⟨K, k1, k2, k3, _, k4⟩ | ⟨j, k1, kj, k2, k3⟩
          · exact absurd k2 (e2 K (by omega))
          · have hcj : c = j + 1 := by omega
            subst hcj
            obtain ⟨⟨b1, b2⟩, b3⟩ := e_bd (P := P) (Q := Q) (by omega) (i := j + 1) (by omega) k2
            obtain ⟨_, _, ⟨b4, _⟩, b6⟩ := e_inv P Q (j + 1) k2
            have b7 := (b6 (by omega)).2.1
            obtain ⟨r', g1, g2⟩ := cm_part1 (a := (eC P Q (j + 1)).1) (b := (eC P Q (j + 1)).2.1) ⟨by omega, by omega⟩ (by omega) ⟨by omega, by omega⟩ (by omega) b3 z3 hn
            rw [k3, zO_s, g1, g2]
            exact ⟨_, _, rfl, rfl, rfl, hI⟩
        · rw [if_neg t]
          rcases r2 with ⟨K, k1, k2, k3, _, k4⟩ | ⟨j, k1, kj, k2, k3⟩
          · rw [k4, zO_n]; exact ⟨_, _, rfl, rfl, rfl, hI⟩
          · rcases e4 with ⟨e4, _⟩ | e4
            · exact absurd e4 (k2 c (by omega))
            · omega
      · rw [if_neg (dneg (by omega))]
        rcases r2 with ⟨K, k1, k2, k3, _, k4⟩ | ⟨j, k1, kj, k2, k3⟩
        · rw [k4, zO_n]; exact ⟨_, _, rfl, rfl, rfl, h.thr⟩
        · omega
    · rw [if_neg x0, if_neg (dneg (by omega))]; exact ⟨_, _, rfl, rfl, rfl, h.thr⟩
  · rw [if_neg (dneg hs), if_neg (dneg hs)]; exact ⟨_, _, rfl, rfl, rfl, h.thr⟩
