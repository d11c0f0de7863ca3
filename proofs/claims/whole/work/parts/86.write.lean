/-! ===== calls: write, the reference's side ===== -/
def WR (F0 F oc : Nat → Int32) (l : List Int32) (B : Nat) : Prop := (l.length ≤ B ∧ F 16 = nI l.length) ∧ (∀ i, i ≠ 16 → F i = F0 i) ∧ (∀ j, j < l.length → oc j = l.getD j 0) ∧ ∀ c ∈ l, 0 ≤ c.toInt ∧ c.toInt < 128
theorem getD_app_l {l m : List Int32} {j : Nat} (h : j < l.length) : (l ++ m).getD j 0 = l.getD j 0 := by
  rw [List.getD_eq_getElem?_getD, List.getD_eq_getElem?_getD, List.getElem?_append_left h]
theorem getD_app_r {l m : List Int32} {j : Nat} (h : l.length ≤ j) : (l ++ m).getD j 0 = m.getD (j - l.length) 0 := by
  rw [List.getD_eq_getElem?_getD, List.getD_eq_getElem?_getD, List.getElem?_append_right h]
theorem m_oct1 {F0 F oc : Nat → Int32} {l : List Int32} {B : Nat} (h : WR F0 F oc l B) (hB : B < 2400) {c : Int32} (hc : 0 ≤ c.toInt ∧ c.toInt < 128) : ∃ F' oc', moctet1 F oc c = some (F', oc') ∧ WR F0 F' oc' (l ++ [c]) (B + 1) := by
  obtain ⟨⟨h1, h2⟩, h3, h4, h5⟩ := h
  unfold moctet1
  rw [h2, nI_iI, zck_t (iI_zin (by omega) (by omega) (by omega)), iI_nat (by omega) (by omega), Int.toNat_natCast]
  refine ⟨_, _, rfl, ⟨by rw [List.length_append]; simp; omega, ?_⟩, fun i hi => (upd_ne hi).trans (h3 i hi), fun j hj => ?_, fun x hx => ?_⟩
  · rw [upd_at, List.length_append, show (iI (l.length : Int) + 1 : Int32) = iI (l.length + 1) from iI_add _ 1, nI_iI]; rfl
  · rw [List.length_append] at hj
    by_cases t : j = l.length
    · rw [t, upd_at, getD_app_r (Nat.le_refl _), Nat.sub_self]; rfl
    · have hj' : j < l.length := by simp at hj; omega
      rw [upd_ne t, getD_app_l hj']; exact h4 j hj'
  · rcases List.mem_append.mp hx with z | z
    · exact h5 x z
    · rw [List.mem_singleton.mp z]; exact hc
theorem WR.up {F0 F oc : Nat → Int32} {l : List Int32} {B B' : Nat} (h : WR F0 F oc l B) (hB : B ≤ B') : WR F0 F oc l B' := ⟨⟨Nat.le_trans h.1.1 hB, h.1.2⟩, h.2⟩
def dq (m : Nat) : List Int32 := if m = 0 then [] else dec m
theorem dq_s (m : Nat) : dq (m / 10) ++ [nI (48 + m % 10)] = dec m := by
  by_cases h : m < 10
  · rw [dec_lt h, show m / 10 = 0 by omega, dq, if_pos rfl, show m % 10 = m by omega]; rfl
  · rw [dec_ge h, dq, if_neg (by omega)]
theorem m_digits {F0 F oc : Nat → Int32} {l : List Int32} {B : Nat} (h : WR F0 F oc l B) (hB : B + 7 ≤ 2400) {v : Nat} (hv : v < 10 ^ 7) {n : Nat} (hn : 250000 ≤ n) : ∃ F' oc', mdigits n F oc (iI (v : Int)) = some (F', oc') ∧ WR F0 F' oc' (l ++ dec v) (B + 7) := by
  have hp : ∀ i, i ≤ 7 → 1 ≤ 10 ^ i ∧ 10 ^ i ≤ 10000000 := by decide
  have hdv : ∀ s : Nat, 1 ≤ s → s ≤ 10000000 → iI (v : Int) / iI (s : Int) = iI ((v / s : Nat) : Int) := fun s s1 s2 => by
    rw [iI_div ⟨by omega, by omega⟩ (by omega) ⟨by omega, by omega⟩]; congr 1
  have hnz : ∀ s : Nat, 1 ≤ s → s ≤ 10000000 → decide (¬ iI (s : Int) = 0) = true := fun s s1 s2 => by
    rw [decide_eq_true_eq]; show ¬ iI (s : Int) = iI 0; rw [iI_eq ⟨by omega, by omega⟩ ⟨by omega, by omega⟩]; omega
  have h10 : ∀ m : Nat, m ≤ 10000000 → (iI (m : Int) - iI (m : Int) / 10 * 10 : Int32) = iI ((m % 10 : Nat) : Int) := fun m hm => by
    show iI (m : Int) - iI (m : Int) / iI 10 * iI 10 = _
    rw [iI_mod ⟨by omega, by omega⟩ (by omega) ⟨by omega, by omega⟩]
    congr 1
  have hd10 : ∀ m : Nat, m ≤ 10000000 → (iI (m : Int) / 10 : Int32) = iI ((m / 10 : Nat) : Int) := fun m hm => by
    show iI (m : Int) / iI 10 = _
    rw [iI_div ⟨by omega, by omega⟩ (by omega) ⟨by omega, by omega⟩]; congr 1
  have hloop : ∀ i : Nat, i ≤ 6 → (i = 0 ∨ 10 ^ i ≤ v) → v / 10 ^ (i + 1) = 0 → ∃ r : (Nat → Int32) × (Nat → Int32), zloop (mdigits_18 n (iI (v : Int))) n (iI ((10 ^ i : Nat) : Int), F, oc) = some r ∧ WR F0 r.1 r.2 (l ++ dec v) (B + 7) := fun i hi hmin hv0 => by
    obtain ⟨r, e1, e2⟩ := zloop_ix (f := mdigits_18 n (iI (v : Int))) (R := fun k s => (∃ j : Nat, j + k = i ∧ s.1 = iI ((10 ^ j : Nat) : Int) ∧ WR F0 s.2.1 s.2.2 (l ++ dq (v / 10 ^ (j + 1))) (B + k)) ∨ (k = i + 1 ∧ s.1 = 0 ∧ WR F0 s.2.1 s.2.2 (l ++ dec v) (B + 7))) (S := fun r => WR F0 r.1 r.2 (l ++ dec v) (B + 7)) 7 (by rintro k s (⟨j, hj, _⟩ | ⟨hk, _⟩) <;> omega) (by
      rintro k ⟨s, G, o⟩ hh
      unfold mdigits_18
      dsimp only at hh ⊢
      rcases hh with ⟨j, hj, rfl, hw⟩ | ⟨hk, rfl, hw⟩
      · left
        have pj := hp j (by omega)
        have hle : v / 10 ^ j ≤ v := Nat.div_le_self _ _
        have hm10 := h10 (v / 10 ^ j) (by omega)
        have hs10 := hd10 (10 ^ j) pj.2
        have hdvj := hdv (10 ^ j) pj.1 pj.2
        have hnzj := hnz (10 ^ j) pj.1 pj.2
        have hcond : (iI ((10 ^ j : Nat) : Int) ≤ (0 : Int32)) = (((10 ^ j : Nat) : Int) ≤ 0) := by
          generalize 10 ^ j = T at pj
          exact iI_le (b := 0) ⟨by omega, by omega⟩ ⟨by omega, by omega⟩
        have hd9 : v / 10 ^ j % 10 < 10 := Nat.mod_lt _ (by omega)
        obtain ⟨F', o', g1, g2⟩ := m_oct1 hw (by omega) (c := nI (48 + v / 10 ^ j % 10)) (by
          generalize v / 10 ^ j % 10 = dg at *
          rw [nI_iI, iI_to ⟨by omega, by omega⟩]; omega)
        rw [if_c hcond, if_neg (by generalize 10 ^ j = T at pj; omega), zck_t hnzj, hdvj, hm10, show (48 + iI ((v / 10 ^ j % 10 : Nat) : Int) : Int32) = nI (48 + v / 10 ^ j % 10) by
          generalize v / 10 ^ j % 10 = dg
          rw [nI_iI, show (48 : Int32) = iI 48 by decide +kernel, iI_add]; congr 1, g1, Option.bind_some, hs10]
        have hlist : l ++ dq (v / 10 ^ (j + 1)) ++ [nI (48 + v / 10 ^ j % 10)] = l ++ dec (v / 10 ^ j) := by
          rw [List.append_assoc, show v / 10 ^ (j + 1) = v / 10 ^ j / 10 by rw [Nat.pow_succ, Nat.div_div_eq_div_mul], dq_s]
        rw [hlist] at g2
        refine ⟨_, rfl, ?_⟩
        cases j with
        | zero =>
          right
          rw [Nat.pow_zero, Nat.div_one] at g2
          exact ⟨by omega, rfl, g2.up (by omega)⟩
        | succ j =>
          left
          refine ⟨j, by omega, ?_, ?_⟩
          · dsimp only; rw [Nat.pow_succ, Nat.mul_div_cancel _ (by omega)]
          · have hge : 1 ≤ v / 10 ^ (j + 1) := by
              have h1 : 10 ^ (j + 1) ≤ 10 ^ i := Nat.pow_le_pow_right (by omega) (by omega)
              exact (Nat.le_div_iff_mul_le (by omega)).mpr (by rcases hmin with z | z <;> omega)
            rw [dq, if_neg (by omega)]
            exact g2
      · right
        rw [if_pos (by decide)]
        exact ⟨_, rfl, hw⟩) n 0 (iI ((10 ^ i : Nat) : Int), F, oc) (Or.inl ⟨i, rfl, rfl, by rw [hv0, dq, if_pos rfl, List.append_nil]; exact h⟩) (by omega)
    exact ⟨r, e1, e2⟩
  unfold mdigits
  obtain ⟨r, e1, e2⟩ := zloop_ix (f := mdigits_2 n F oc (iI (v : Int))) (R := fun i s => i ≤ 6 ∧ (i = 0 ∨ 10 ^ i ≤ v) ∧ s = iI ((10 ^ i : Nat) : Int)) (S := fun r => WR F0 r.1 r.2 (l ++ dec v) (B + 7)) 6 (by rintro i s ⟨hi, _⟩; exact hi) (by
    rintro i s ⟨hi, hmin, rfl⟩
    have pj := hp i (by omega)
    have hle : v / 10 ^ i ≤ v := Nat.div_le_self _ _
    unfold mdigits_2
    rw [zck_t (hnz _ pj.1 pj.2), hdv _ pj.1 pj.2]
    have hcond : (iI ((v / 10 ^ i : Nat) : Int) ≤ (9 : Int32)) = (((v / 10 ^ i : Nat) : Int) ≤ 9) := by
      generalize v / 10 ^ i = T at hle
      exact iI_le (b := 9) ⟨by omega, by omega⟩ ⟨by omega, by omega⟩
    rw [if_c hcond]
    by_cases p : ((v / 10 ^ i : Nat) : Int) ≤ 9
    · right
      have hv0 : v / 10 ^ (i + 1) = 0 := by
        rw [Nat.pow_succ, ← Nat.div_div_eq_div_mul]
        generalize v / 10 ^ i = T at p
        omega
      obtain ⟨r, g1, g2⟩ := hloop i hi hmin hv0
      rw [if_pos p, g1]
      exact ⟨_, rfl, g2⟩
    · left
      have h11 : 10 ^ (i + 1) ≤ v := by
        have : 10 ≤ v / 10 ^ i := by generalize v / 10 ^ i = T at p; omega
        have := (Nat.le_div_iff_mul_le (by omega)).mp this
        rw [Nat.pow_succ]; omega
      have hi6 : i + 1 ≤ 6 := by
        rcases Nat.lt_or_ge i 6 with z | z
        · omega
        · have : 10 ^ 7 ≤ 10 ^ (i + 1) := Nat.pow_le_pow_right (by omega) (by omega)
          omega
      rw [if_neg p]
      refine ⟨_, rfl, hi6, Or.inr h11, ?_⟩
      rw [show (10 : Int32) = iI 10 by decide +kernel, iI_mul]; congr 1) n 0 1 ⟨by omega, Or.inl rfl, by decide +kernel⟩ (by omega)
  exact ⟨r.1, r.2, e1, e2⟩
def wl (W : Int64) : Nat → List Int32
  | 0 => []
  | k + 1 => (((W >>> ((5 * nI k : Int32).toInt64 &&& 63)) &&& 31 : Int64).toInt32 + 96) :: wl W k
def wOk (W : Int64) (k : Nat) (L : List Int32) : Prop := (k ≤ 6 ∧ (∀ i, i < k → ¬ (W >>> ((5 * nI i : Int32).toInt64 &&& 63)) ≤ 0) ∧ (k = 6 ∨ (W >>> ((5 * nI k : Int32).toInt64 &&& 63)) ≤ 0)) ∧ wl W k = L ∧ ∀ c ∈ L, 0 ≤ c.toInt ∧ c.toInt < 128
theorem m_word29 {W : Int64} {k : Nat} {L : List Int32} (hW : wOk W k L) {F0 F oc : Nat → Int32} {l : List Int32} {B : Nat} (h : WR F0 F oc l B) (hB : B + k ≤ 2400) {n : Nat} (hn : 250000 ≤ n) : ∃ F' oc', mwritesWord_29 n F oc W = some (F', oc') ∧ WR F0 F' oc' (l ++ L) (B + k) := by
  obtain ⟨⟨hk, h1, h2⟩, h3, h4⟩ := hW
  have hmem : ∀ j, j ≤ k → ∀ c ∈ wl W j, 0 ≤ c.toInt ∧ c.toInt < 128 := by
    intro j hj c hc
    apply h4 c
    rw [← h3]
    clear h3 h4 h1 h2
    induction k with
    | zero => rw [show j = 0 by omega] at hc; exact hc
    | succ k ih =>
      by_cases t : j = k + 1
      · rw [← t]; exact hc
      · rw [wl]; exact List.mem_cons_of_mem _ (ih (by omega) (by omega) (by omega))
  have hloop : ∃ r : (Nat → Int32) × (Nat → Int32), mwritesWord_53 n F oc W (nI k) = some r ∧ WR F0 r.1 r.2 (l ++ L) (B + k) := by
    unfold mwritesWord_53
    obtain ⟨r, e1, e2⟩ := zloop_ix (f := mwritesWord_58 n W) (R := fun i s => ∃ (j : Nat) (m : List Int32), j + i = k ∧ s.1 = iI ((j : Int) - 1) ∧ m ++ wl W j = L ∧ WR F0 s.2.1 s.2.2 (l ++ m) (B + i)) (S := fun r => WR F0 r.1 r.2 (l ++ L) (B + k)) 6 (by rintro i s ⟨j, m, hj, _⟩; omega) (by
      rintro i ⟨s, G, o⟩ ⟨j, m, hj, hs, hm, hw⟩
      dsimp only at hs hw
      subst hs
      unfold mwritesWord_58
      dsimp only
      rw [if_c (show (iI ((j : Int) - 1) < (0 : Int32)) = ((j : Int) - 1 < 0) from iI_lt (b := 0) ⟨by omega, by omega⟩ ⟨by omega, by omega⟩)]
      cases j with
      | zero =>
        right
        rw [if_pos (by omega)]
        rw [wl, List.append_nil] at hm
        subst hm
        exact ⟨_, rfl, hw.up (by omega)⟩
      | succ j =>
        left
        have hc := hmem (j + 1) (by omega) _ (by rw [wl]; exact List.mem_cons_self ..)
        obtain ⟨F', o', g1, g2⟩ := m_oct1 hw (by omega) hc
        rw [if_neg (by omega), show iI (((j + 1 : Nat) : Int) - 1) = nI j by rw [nI_iI]; congr 1; omega, g1, Option.bind_some]
        refine ⟨_, rfl, j, _, by omega, ?_, ?_, by rw [← List.append_assoc]; exact g2⟩
        · dsimp only; rw [nI_iI, show (-1 : Int32) = iI (-1) by decide +kernel, iI_add]; congr 1
        · rw [List.append_assoc]; rw [wl] at hm; exact hm) n 0 (nI k - 1, F, oc) ⟨k, [], by omega, by rw [nI_iI, show (1 : Int32) = iI 1 by decide +kernel, iI_sub], by rw [List.nil_append]; exact h3, by rw [List.append_nil]; exact h⟩ (by omega)
    exact ⟨r, e1, e2⟩
  unfold mwritesWord_29
  obtain ⟨r, e1, e2⟩ := zloop_ix (f := mwritesWord_31 n F oc W) (R := fun i s => i ≤ k ∧ s = nI i) (S := fun r => WR F0 r.1 r.2 (l ++ L) (B + k)) 6 (by rintro i s ⟨hi, _⟩; omega) (by
    rintro i s ⟨hi, rfl⟩
    unfold mwritesWord_31
    obtain ⟨r, g1, g2⟩ := hloop
    rw [if_c (show ((6 : Int32) ≤ nI i) = (6 ≤ (i : Int)) by rw [nI_iI]; exact iI_le (a := 6) ⟨by omega, by omega⟩ ⟨by omega, by omega⟩)]
    by_cases p : 6 ≤ (i : Int)
    · right
      have : i = k := by omega
      subst this
      rw [if_pos p, g1]; exact ⟨_, rfl, g2⟩
    · rw [if_neg p]
      by_cases q : i = k
      · right
        subst q
        rcases h2 with h2 | h2
        · omega
        · rw [if_pos h2, g1]; exact ⟨_, rfl, g2⟩
      · left
        rw [if_neg (h1 i (by omega))]
        refine ⟨_, rfl, by omega, ?_⟩
        rw [nI_iI, nI_iI]; exact iI_add _ 1) n 0 0 ⟨by omega, rfl⟩ (by omega)
  exact ⟨r.1, r.2, e1, e2⟩
theorem m_wordS {W : Int64} {k : Nat} {L : List Int32} (hW : wOk W k L) {F0 F oc : Nat → Int32} {l : List Int32} {B : Nat} (h : WR F0 F oc l B) (hl : l = [] ∨ ∃ m, l = m ++ [59]) (hB : B + k ≤ 2400) {n : Nat} (hn : 250000 ≤ n) : ∃ F' oc', mwritesWord n F oc W = some (F', oc') ∧ WR F0 F' oc' (l ++ L) (B + k) := by
  have h29 := m_word29 hW h hB hn
  unfold mwritesWord
  have hlen := h.1
  rcases hl with hl | ⟨m, hl⟩
  · have : F 16 = 0 := by rw [hlen.2, hl]; rfl
    rw [if_pos (by rw [this]; decide)]; exact h29
  · have hlm : l.length = m.length + 1 := by rw [hl]; simp
    have h59 : oc (m.length) = 59 := by
      rw [h.2.2.1 _ (by omega), hl, getD_app_r (Nat.le_refl _), Nat.sub_self]; rfl
    have hF : F 16 = iI ((m.length : Int) + 1) := by rw [hlen.2, nI_iI, hlm]; rfl
    have hFm : (F 16 - 1 : Int32) = iI (m.length : Int) := by rw [hF, show (1 : Int32) = iI 1 by decide +kernel, iI_sub]; congr 1; omega
    rw [if_neg (show ¬ F 16 ≤ 0 by
      rw [hF]
      show ¬ iI ((m.length : Int) + 1) ≤ iI 0
      rw [iI_le ⟨by omega, by omega⟩ ⟨by omega, by omega⟩]; omega), hFm, zck_t (iI_zin (by omega) (by omega) (by omega)), iI_nat (by omega) (by omega), Int.toNat_natCast, if_pos h59]
    exact h29
theorem m_wordD {W : Int64} {k : Nat} {L : List Int32} (hW : wOk W k L) {F0 F oc : Nat → Int32} {l : List Int32} {B : Nat} (h : WR F0 F oc l B) (hl : ∃ m c, l = m ++ [c] ∧ c ≠ 59) (hB : B + 1 + k ≤ 2400) {n : Nat} (hn : 250000 ≤ n) : ∃ F' oc', mwritesWord n F oc W = some (F', oc') ∧ WR F0 F' oc' (l ++ ([32] ++ L)) (B + 1 + k) := by
  unfold mwritesWord
  have hlen := h.1
  obtain ⟨m, c, hl, hc⟩ := hl
  have hlm : l.length = m.length + 1 := by rw [hl]; simp
  have h59 : oc (m.length) = c := by
    rw [h.2.2.1 _ (by omega), hl, getD_app_r (Nat.le_refl _), Nat.sub_self]; rfl
  have hF : F 16 = iI ((m.length : Int) + 1) := by rw [hlen.2, nI_iI, hlm]; rfl
  have hFm : (F 16 - 1 : Int32) = iI (m.length : Int) := by rw [hF, show (1 : Int32) = iI 1 by decide +kernel, iI_sub]; congr 1; omega
  obtain ⟨F1, o1, g1, g2⟩ := m_oct1 h (by omega) (c := 32) (by decide)
  have h29 := m_word29 hW g2 (by omega) hn
  rw [if_neg (show ¬ F 16 ≤ 0 by
    rw [hF]
    show ¬ iI ((m.length : Int) + 1) ≤ iI 0
    rw [iI_le ⟨by omega, by omega⟩ ⟨by omega, by omega⟩]; omega), hFm, zck_t (iI_zin (by omega) (by omega) (by omega)), iI_nat (by omega) (by omega), Int.toNat_natCast, if_neg (by rw [h59]; exact hc), g1, Option.bind_some]
  rw [List.append_assoc] at h29
  exact h29
theorem dec_last (v : Nat) : ∃ (m : List Int32) (c : Int32), dec v = m ++ [c] ∧ c ≠ 59 := by
  by_cases h : v < 10
  · refine ⟨[], nI (48 + v), by rw [dec_lt h]; rfl, ?_⟩
    rw [nI_iI, show (59 : Int32) = iI 59 by decide +kernel, Ne, iI_eq ⟨by omega, by omega⟩ ⟨by omega, by omega⟩]; omega
  · refine ⟨_, nI (48 + v % 10), by rw [dec_ge h], ?_⟩
    have := Nat.mod_lt v (show 0 < 10 by omega)
    rw [nI_iI, show (59 : Int32) = iI 59 by decide +kernel, Ne, iI_eq ⟨by omega, by omega⟩ ⟨by omega, by omega⟩]; omega
theorem app_last (l : List Int32) (v : Nat) : ∃ (m : List Int32) (c : Int32), l ++ dec v = m ++ [c] ∧ c ≠ 59 := by
  obtain ⟨m, c, h1, h2⟩ := dec_last v
  exact ⟨l ++ m, c, by rw [h1, List.append_assoc], h2⟩
def nOk (x : Int32) : Prop := 0 ≤ x.toInt ∧ x.toInt < 10000000
theorem nOk_i {x : Int32} (h : nOk x) : iOk x := by
  refine ⟨?_, ?_⟩
  · rw [Int32.lt_iff_toInt_lt]; have := h.1; show ¬ x.toInt < 0; omega
  · have e := iI_nat (a := x.toInt) h.1 (by have := h.2; omega)
    rw [iI_of] at e
    rw [e]; have := h.2; have := h.1; omega
theorem m_digX {F0 F oc : Nat → Int32} {l : List Int32} {B : Nat} (h : WR F0 F oc l B) (hB : B + 7 ≤ 2400) {x : Int32} (hx : nOk x) {n : Nat} (hn : 250000 ≤ n) : ∃ F' oc', mdigits n F oc x = some (F', oc') ∧ WR F0 F' oc' (l ++ decI x) (B + 7) := by
  have h2 := (nOk_i hx).2
  have e := iI_nat (a := x.toInt) hx.1 (by have := hx.2; omega)
  rw [iI_of] at e
  have := m_digits h hB (v := x.toNatClampNeg) h2 hn
  rw [e, Int.toNat_of_nonneg hx.1, iI_of] at this
  unfold decI
  rw [e]
  exact this
theorem m_writes {F0 F oc : Nat → Int32} {l : List Int32} {B : Nat} (h : WR F0 F oc l B) (hB : B + 8 ≤ 2400) {x : Int32} (hx : nOk x) {n : Nat} (hn : 250000 ≤ n) : ∃ F' oc', mwrites n F oc x = some (F', oc') ∧ WR F0 F' oc' (l ++ ([32] ++ decI x)) (B + 8) := by
  obtain ⟨F1, o1, g1, g2⟩ := m_oct1 h (by omega) (c := 32) (by decide)
  obtain ⟨F2, o2, g3, g4⟩ := m_digX g2 (by omega) hx hn
  unfold mwrites
  rw [g1, Option.bind_some]
  dsimp only
  rw [g3, Option.bind_some]
  rw [List.append_assoc] at g4
  exact ⟨_, _, rfl, g4.up (by omega)⟩
theorem m_last {F0 F oc : Nat → Int32} {l : List Int32} {B : Nat} (h : WR F0 F oc l B) (hB : B + 9 ≤ 2400) {x : Int32} (hx : nOk x) {n : Nat} (hn : 250000 ≤ n) : ∃ F' oc', mwritesLast n F oc x = some (F', oc') ∧ WR F0 F' oc' (l ++ ([32] ++ (decI x ++ [59]))) (B + 9) := by
  obtain ⟨F1, o1, g1, g2⟩ := m_writes h (by omega) hx hn
  obtain ⟨F2, o2, g3, g4⟩ := m_oct1 g2 (by omega) (c := 59) (by decide)
  unfold mwritesLast
  rw [g1, Option.bind_some]
  dsimp only
  rw [g3, Option.bind_some]
  rw [List.append_assoc, List.append_assoc] at g4
  exact ⟨_, _, rfl, g4⟩
theorem m_toldS {W : Int64} {k : Nat} {L : List Int32} (hW : wOk W k L) {F0 F oc : Nat → Int32} {l : List Int32} {B : Nat} (h : WR F0 F oc l B) (hl : l = [] ∨ ∃ m, l = m ++ [59]) (hB : B + k + 8 ≤ 2400) {x : Int32} (hx : nOk x) {n : Nat} (hn : 250000 ≤ n) : ∃ F' oc', mwritesTold n F oc W x = some (F', oc') ∧ WR F0 F' oc' (l ++ (L ++ ([32] ++ decI x))) (B + k + 8) := by
  obtain ⟨F1, o1, g1, g2⟩ := m_wordS hW h hl (by omega) hn
  obtain ⟨F2, o2, g3, g4⟩ := m_writes g2 (by omega) hx hn
  unfold mwritesTold
  rw [g1, Option.bind_some]
  dsimp only
  rw [g3, Option.bind_some]
  rw [List.append_assoc] at g4
  exact ⟨_, _, rfl, g4⟩
theorem m_toldD {W : Int64} {k : Nat} {L : List Int32} (hW : wOk W k L) {F0 F oc : Nat → Int32} {l : List Int32} {B : Nat} (h : WR F0 F oc l B) (hl : ∃ m c, l = m ++ [c] ∧ c ≠ 59) (hB : B + k + 9 ≤ 2400) {x : Int32} (hx : nOk x) {n : Nat} (hn : 250000 ≤ n) : ∃ F' oc', mwritesTold n F oc W x = some (F', oc') ∧ WR F0 F' oc' (l ++ ([32] ++ (L ++ ([32] ++ decI x)))) (B + k + 9) := by
  obtain ⟨F1, o1, g1, g2⟩ := m_wordD hW h hl (by omega) hn
  obtain ⟨F2, o2, g3, g4⟩ := m_writes g2 (by omega) hx hn
  unfold mwritesTold
  rw [g1, Option.bind_some]
  dsimp only
  rw [g3, Option.bind_some]
  rw [List.append_assoc, List.append_assoc] at g4
  exact ⟨_, _, rfl, g4.up (by omega)⟩
theorem wk_year : wOk 824370 4 [121, 101, 97, 114] := by unfold wOk; decide +kernel
theorem wk_extra : wOk 6050369 5 [101, 120, 116, 114, 97] := by unfold wOk; decide +kernel
theorem wk_even : wOk 186542 4 [101, 118, 101, 110] := by unfold wOk; decide +kernel
theorem wk_of : wOk 486 2 [111, 102] := by unfold wOk; decide +kernel
theorem wk_shift : wOk 20194516 5 [115, 104, 105, 102, 116] := by unfold wOk; decide +kernel
theorem wk_every : wOk 5969497 5 [101, 118, 101, 114, 121] := by unfold wOk; decide +kernel
theorem wk_not : wOk 14836 3 [110, 111, 116] := by unfold wOk; decide +kernel
theorem wk_but : wOk 2740 3 [98, 117, 116] := by unfold wOk; decide +kernel
theorem wk_row : wOk 18935 3 [114, 111, 119] := by unfold wOk; decide +kernel
theorem wk_months : wOk 452415763 6 [109, 111, 110, 116, 104, 115] := by unfold wOk; decide +kernel
theorem wk_leap : wOk 398384 4 [108, 101, 97, 112] := by unfold wOk; decide +kernel
theorem wk_week : wOk 758955 4 [119, 101, 101, 107] := by unfold wOk; decide +kernel
theorem wk_at : wOk 52 2 [97, 116] := by unfold wOk; decide +kernel
theorem wk_true : wOk 674469 4 [116, 114, 117, 101] := by unfold wOk; decide +kernel
theorem wk_and : wOk 1476 3 [97, 110, 100] := by unfold wOk; decide +kernel
theorem wk_begins : wOk 72590803 6 [98, 101, 103, 105, 110, 115] := by unfold wOk; decide +kernel
