/-! ===== a design: in the class, in a bank of the reference ===== -/
def moS (f : vArr) : Nat → Int
  | 0 => 0
  | m + 1 => moS f m + (f.2 m).toInt
def fOk (f : vFrame) : Prop := (1 ≤ f.1.toInt ∧ f.1.toInt ≤ 999) ∧ (1 ≤ f.2.1.toInt ∧ f.2.1.toInt ≤ 30) ∧ (1 ≤ f.2.2.1.1 ∧ f.2.2.1.1 ≤ 15) ∧ (∀ i, i < f.2.2.1.1 → 1 ≤ (f.2.2.1.2 i).toInt ∧ (f.2.2.1.2 i).toInt ≤ 999) ∧ moS f.2.2.1 f.2.2.1.1 = f.1.toInt ∧ (0 ≤ f.2.2.2.1.toInt ∧ f.2.2.2.1.toInt < f.2.2.1.1) ∧ (1 ≤ f.2.2.2.2.1.toInt ∧ f.2.2.2.2.1.toInt ≤ 10) ∧ 0 ≤ f.2.2.2.2.2.toInt ∧ f.2.2.2.2.2.toInt < f.2.2.2.2.1.toInt
def tOk (t : vTrue) : Prop := (0 ≤ t.1.toInt ∧ t.1.toInt ≤ 999) ∧ (1 ≤ t.2.2.1.toInt ∧ t.2.2.1.toInt ≤ 1000000) ∧ (0 ≤ t.2.1.toInt ∧ t.2.1.toInt < t.2.2.1.toInt) ∧ (1 ≤ t.2.2.2.2.toInt ∧ t.2.2.2.2.toInt ≤ 1000) ∧ 0 ≤ t.2.2.2.1.toInt ∧ t.2.2.2.1.toInt < t.2.2.2.2.toInt
def vOk (d : vDes) : Prop := fOk d.1 ∧ lOk d.2.1 ∧ tOk d.2.2
def DR (d : vDes) (w : Nat → Int32) (b : Nat) : Prop := w (b + 0) = 1 ∧ w (b + 1) = d.1.1 ∧ w (b + 2) = d.1.2.1 ∧ w (b + 4) = nI d.1.2.2.1.1 ∧ w (b + 5) = d.1.2.2.2.1 ∧ w (b + 6) = d.1.2.2.2.2.1 ∧ w (b + 7) = d.1.2.2.2.2.2 ∧ (∀ i, i < d.1.2.2.1.1 → w (b + 24 + i) = d.1.2.2.1.2 i) ∧ LR d.2.1 w b ∧ w (b + 12) = d.2.2.1 ∧ w (b + 13) = d.2.2.2.1 ∧ w (b + 14) = d.2.2.2.2.1 ∧ w (b + 15) = d.2.2.2.2.2.1 ∧ w (b + 16) = d.2.2.2.2.2.2
def dLe (d : vDes) (y : Int) : Bool := lLeap d.2.1 y
def sta (d : vDes) (y : Int) : Int := d.1.1.toInt * y + d.1.2.1.toInt * lTo d.2.1 y
def dys (d : vDes) (y : Int) : Int := d.1.1.toInt + if dLe d y = true then d.1.2.1.toInt else 0
theorem e64 (x : Int32) : x.toInt64 = iJ x.toInt := by rw [← iI_J (i_b32 x), iI_of]
theorem lTo_abs {v : vLaw} (hv : lOk v) {y : Int} (hy : -200002 ≤ y ∧ y ≤ 200002) : -200002 ≤ lTo v y ∧ lTo v y ≤ 200002 := by
  rcases Int.le_total 0 y with h | h
  · have := (lTo_bd hv y.toNat).1
    rw [Int.toNat_of_nonneg h] at this; omega
  · have := (lTo_bd hv (-y).toNat).2
    rw [Int.toNat_of_nonneg (by omega), Int.neg_neg] at this; omega
theorem sta_bd {d : vDes} (hd : vOk d) {y : Int} (hy : -200002 ≤ y ∧ y ≤ 200002) : -205802058 ≤ sta d y ∧ sta d y ≤ 205802058 := by
  obtain ⟨h1, h2, h3⟩ := hd
  have a1 := mul_bd (a := d.1.1.toInt) (b := y) (A := 999) (B := 200002) ⟨by have := h1.1; omega, by have := h1.1; omega⟩ hy
  have a2 := mul_bd (a := d.1.2.1.toInt) (b := lTo d.2.1 y) (A := 30) (B := 200002) ⟨by have := h1.2.1; omega, by have := h1.2.1; omega⟩ (lTo_abs h2 hy)
  unfold sta
  omega
theorem c_start {d : vDes} (hd : vOk d) {y : Int} (hy : -200002 ≤ y ∧ y ≤ 200002) {n : Nat} (hn : 7 ≤ n) : k_startOf n d (iI y) = some (iJ (sta d y)) := by
  unfold k_startOf
  have hb := lTo_abs hd.2.1 hy
  rw [c_to hd.2.1 hy hn, Option.bind_some, iI_J ⟨by omega, by omega⟩, iI_J ⟨by omega, by omega⟩, e64, e64, iJ_mul, iJ_mul, iJ_add]
  unfold sta
  rw [Int.mul_comm y, Int.mul_comm (lTo _ _)]
theorem m_start {d : vDes} (hd : vOk d) {w : Nat → Int32} {b : Nat} (hb : b ≤ 35360) (hw : DR d w b) {y : Int} (hy : -200002 ≤ y ∧ y ≤ 200002) {n : Nat} (hn : 7 ≤ n) : mstartOf n w (iI (b : Int)) (iJ y) = some (iJ (sta d y)) := by
  obtain ⟨w0, w1, w2, w4, w5, w6, w7, w24, wl, w12, w13, w14, w15, w16⟩ := hw
  unfold mstartOf
  rw [zck_t (watz b 1 (by omega)), zck_t (watz b 2 (by omega)), wat b 1 (by omega), wat b 2 (by omega), m_to hd.2.1 hb wl hy hn, Option.bind_some, w1, w2, e64, e64, iJ_mul, iJ_mul, iJ_add]
  rfl
theorem sta_succ {d : vDes} (hd : vOk d) (y : Int) : sta d (y + 1) = sta d y + dys d y := by
  unfold sta dys dLe
  rw [lTo_succ hd.2.1 y, Int.mul_add, Int.mul_add]
  split <;> omega
theorem dys_bd {d : vDes} (hd : vOk d) (y : Int) : 1 ≤ dys d y ∧ dys d y ≤ 1029 := by
  have := hd.1.1; have := hd.1.2.1
  unfold dys; split <;> omega
theorem sta_add {d : vDes} (hd : vOk d) (y : Int) (k : Nat) : sta d y + k ≤ sta d (y + k) := by
  induction k with
  | zero => simp
  | succ k ih =>
    have h1 := sta_succ hd (y + k)
    have h2 := dys_bd hd (y + k)
    rw [show y + ((k + 1 : Nat) : Int) = y + k + 1 by omega, h1]; omega
theorem sta_lt {d : vDes} (hd : vOk d) {y z : Int} (h : y < z) : sta d y < sta d z := by
  have := sta_add hd y (z - y).toNat
  rw [show y + (((z - y).toNat : Nat) : Int) = z by omega] at this
  omega
theorem sta_le {d : vDes} (hd : vOk d) {y z : Int} (h : y ≤ z) : sta d y ≤ sta d z := by
  rcases Int.lt_or_eq_of_le h with h | h
  · exact Int.le_of_lt (sta_lt hd h)
  · rw [h]; exact Int.le_refl _
/-- the year of a day -/
def isYr (d : vDes) (x y : Int) : Prop := (-100000 ≤ y ∧ y ≤ 100000) ∧ sta d y ≤ x ∧ x < sta d (y + 1)
theorem isYr_u {d : vDes} (hd : vOk d) {x y z : Int} (hy : isYr d x y) (hz : isYr d x z) : y = z := by
  rcases Int.lt_trichotomy y z with h | h | h
  · have := sta_le hd (show y + 1 ≤ z by omega); have := hy.2.2; have := hz.2.1; omega
  · exact h
  · have := sta_le hd (show z + 1 ≤ y by omega); have := hz.2.2; have := hy.2.1; omega
def hol (d : vDes) (x : Int) : Prop := sta d (-100000) ≤ x ∧ x < sta d 100001
theorem c_holds {d : vDes} (hd : vOk d) {x : Int} (hx : b64 x) {n : Nat} (hn : 7 ≤ n) : ∃ r, k_holds n d (iJ x) = some r ∧ (r = true ↔ hol d x) := by
  have b1 := sta_bd hd (y := -100000) ⟨by omega, by omega⟩
  have b2 := sta_bd hd (y := 100001) ⟨by omega, by omega⟩
  unfold k_holds hol
  rw [show (-100000 : Int32) = iI (-100000) by decide +kernel, c_start hd ⟨by omega, by omega⟩ hn, Option.bind_some, if_c (iJ_lt hx ⟨by omega, by omega⟩), show (100001 : Int32) = iI 100001 by decide +kernel, c_start hd ⟨by omega, by omega⟩ hn, Option.bind_some, if_c (iJ_le ⟨by omega, by omega⟩ hx)]
  by_cases q : x < sta d (-100000)
  · rw [if_pos q]; exact ⟨false, rfl, by simp; omega⟩
  · rw [if_neg q]
    by_cases p : sta d 100001 ≤ x
    · rw [if_pos p]; exact ⟨false, rfl, by simp; omega⟩
    · rw [if_neg p]; exact ⟨true, rfl, by simp; omega⟩
theorem m_isDay {d : vDes} (hd : vOk d) {w : Nat → Int32} {b : Nat} (hb : b ≤ 35360) (hw : DR d w b) {x : Int} (hx : b64 x) {n : Nat} (hn : 7 ≤ n) : ∃ r, misDay n w (iI (b : Int)) (iJ x) = some r ∧ (r = true ↔ hol d x) := by
  have b1 := sta_bd hd (y := -100000) ⟨by omega, by omega⟩
  have b2 := sta_bd hd (y := 100001) ⟨by omega, by omega⟩
  unfold misDay hol
  rw [show (-100000 : Int64) = iJ (-100000) by decide +kernel, m_start hd hb hw ⟨by omega, by omega⟩ hn, Option.bind_some, if_c (iJ_lt hx ⟨by omega, by omega⟩), show (100001 : Int64) = iJ 100001 by decide +kernel, m_start hd hb hw ⟨by omega, by omega⟩ hn, Option.bind_some, if_c (iJ_le ⟨by omega, by omega⟩ hx)]
  by_cases q : x < sta d (-100000)
  · rw [if_pos q]; exact ⟨false, rfl, by simp; omega⟩
  · rw [if_neg q]
    by_cases p : sta d 100001 ≤ x
    · rw [if_pos p]; exact ⟨false, rfl, by simp; omega⟩
    · rw [if_neg p]; exact ⟨true, rfl, by simp; omega⟩
theorem hv_steps : ∀ j, j < 18 → (131072 / 2 ^ j / 2 = 131072 / 2 ^ (j + 1) ∧ 262144 / 2 ^ (j + 1) = 131072 / 2 ^ j) ∧ 1 ≤ 131072 / 2 ^ j ∧ 131072 / 2 ^ j ≤ 131072 := by decide +kernel
theorem c_yearOf {d : vDes} (hd : vOk d) {x : Int} (hx : hol d x) {n : Nat} (hn : 250000 ≤ n) : ∃ y, isYr d x y ∧ k_yearOf n d (iJ x) = some (iI y) := by
  have b1 := sta_bd hd (y := -100000) ⟨by omega, by omega⟩
  have b2 := sta_bd hd (y := 100001) ⟨by omega, by omega⟩
  have hx' := hx
  obtain ⟨hx1, hx2⟩ := hx'
  obtain ⟨r, h1, y, h2, h3⟩ := zloop_inv (f := k_yearOf_7 n d (iJ x)) (R := fun s => ∃ (j : Nat) (y : Int), j ≤ 18 ∧ s = (iI y, iI ((131072 / 2 ^ j : Nat) : Int)) ∧ (-100000 ≤ y ∧ y ≤ 100000) ∧ sta d y ≤ x ∧ ∀ z, z ≤ 100000 → sta d z ≤ x → z < y + ((262144 / 2 ^ j : Nat) : Int)) (S := fun r => ∃ y, isYr d x y ∧ r = iI y) (fun s => s.2.toNatClampNeg) (by
    rintro s ⟨j, y, hj, rfl, hy, hs, hu⟩
    unfold k_yearOf_7
    dsimp only
    by_cases q : j = 18
    · subst q
      right
      rw [if_pos (by decide)]
      refine ⟨_, rfl, y, ⟨hy, hs, ?_⟩, rfl⟩
      have := hu (y + 1)
      rw [show ((262144 / 2 ^ 18 : Nat) : Int) = 1 by decide] at this
      by_cases q : y = 100000
      · subst q; exact hx2
      · have := this (by omega); omega
    · obtain ⟨⟨e1, e2⟩, e3, e4⟩ := hv_steps j (by omega)
      have hst : ((131072 / 2 ^ j : Nat) : Int) ≤ 131072 ∧ 1 ≤ ((131072 / 2 ^ j : Nat) : Int) := by omega
      generalize hS : (131072 / 2 ^ j : Nat) = S at *
      have hdiv : (iI (S : Int) / 2 : Int32) = iI ((131072 / 2 ^ (j + 1) : Nat) : Int) := by
        show iI (S : Int) / iI 2 = _
        rw [iI_div ⟨by omega, by omega⟩ (by omega) ⟨by omega, by omega⟩, tdiv_pos (by omega), if_pos (by omega), ← e1]; congr 1
      have hlt : (131072 / 2 ^ (j + 1) : Nat) < S := by omega
      left
      rw [if_c (show (iI (S : Int) ≤ (0 : Int32)) = ((S : Int) ≤ 0) from iI_le (b := 0) ⟨by omega, by omega⟩ ⟨by omega, by omega⟩), if_neg (by omega), iI_add, if_c (show ((100000 : Int32) < iI (y + S)) = (100000 < y + S) from iI_lt (a := 100000) ⟨by omega, by omega⟩ ⟨by omega, by omega⟩)]
      unfold k_yearOf_39
      rw [hdiv]
      by_cases p : 100000 < y + S
      · rw [if_pos p]
        refine ⟨_, rfl, ⟨j + 1, y, by omega, rfl, hy, hs, fun z hz1 hz2 => by rw [e2]; omega⟩, ?_⟩
        dsimp only
        rw [iI_nat (by omega) (by omega), iI_nat (by omega) (by omega)]; omega
      · rw [if_neg p, c_start hd ⟨by omega, by omega⟩ (by omega), Option.bind_some]
        have b3 := sta_bd hd (y := y + S) ⟨by omega, by omega⟩
        rw [if_c (iJ_lt ⟨by omega, by omega⟩ ⟨by omega, by omega⟩)]
        by_cases p2 : x < sta d (y + S)
        · rw [if_pos p2]
          refine ⟨_, rfl, ⟨j + 1, y, by omega, rfl, hy, hs, fun z hz1 hz2 => by
            rw [e2]
            rcases Int.lt_or_le z (y + S) with h | h
            · exact h
            · have := sta_le hd h; omega⟩, ?_⟩
          dsimp only
          rw [iI_nat (by omega) (by omega), iI_nat (by omega) (by omega)]; omega
        · rw [if_neg p2]
          refine ⟨_, rfl, ⟨j + 1, y + S, by omega, rfl, ⟨by omega, by omega⟩, by omega, fun z hz1 hz2 => by
            have := hu z hz1 hz2
            have e5 : (262144 / 2 ^ j : Nat) = 2 * S := by
              have : ∀ j, j < 18 → 262144 / 2 ^ j = 2 * (131072 / 2 ^ j) := by decide +kernel
              rw [this j (by omega), hS]
            rw [e5] at this
            rw [e2]; omega⟩, ?_⟩
          dsimp only
          rw [iI_nat (by omega) (by omega), iI_nat (by omega) (by omega)]; omega) n (iI (-100000), iI ((131072 / 2 ^ 0 : Nat) : Int)) ⟨0, -100000, by omega, rfl, ⟨by omega, by omega⟩, hx1, fun z hz _ => by rw [show ((262144 / 2 ^ 0 : Nat) : Int) = 262144 by decide]; omega⟩ (by dsimp only; rw [iI_nat (by decide) (by decide)]; show 131072 < n; omega)
  refine ⟨y, h2, ?_⟩
  rw [← h3, ← h1]
  unfold k_yearOf
  rw [show ((-100000 : Int32), (131072 : Int32)) = (iI (-100000), iI ((131072 / 2 ^ 0 : Nat) : Int)) by decide +kernel]
theorem m_yearOf {d : vDes} (hd : vOk d) {w : Nat → Int32} {b : Nat} (hb : b ≤ 35360) (hw : DR d w b) {x : Int} (hx : hol d x) {n : Nat} (hn : 250000 ≤ n) : ∃ y, isYr d x y ∧ myearOf n w (iI (b : Int)) (iJ x) = some (iJ y) := by
  have b1 := sta_bd hd (y := -100000) ⟨by omega, by omega⟩
  have b2 := sta_bd hd (y := 100001) ⟨by omega, by omega⟩
  have hx' := hx
  obtain ⟨hx1, hx2⟩ := hx'
  obtain ⟨r, h1, y, h2, h3⟩ := zloop_inv (f := myearOf_10 n w (iI (b : Int)) (iJ x)) (R := fun s => ∃ (l h : Int), s = (iJ l, iJ h) ∧ (-100000 ≤ l ∧ l ≤ h ∧ h ≤ 100000) ∧ sta d l ≤ x ∧ x < sta d (h + 1)) (S := fun r => ∃ y, isYr d x y ∧ r = iJ y) (fun s => (s.2.toInt - s.1.toInt).toNat) (by
    rintro s ⟨l, h, rfl, hlh, hs, hu⟩
    unfold myearOf_10 myearOf_58
    dsimp only
    rw [if_c (iJ_le ⟨by omega, by omega⟩ ⟨by omega, by omega⟩)]
    by_cases q : h ≤ l
    · right
      rw [if_pos q]
      have : h = l := by omega
      subst this
      exact ⟨_, rfl, h, ⟨by omega, hs, hu⟩, rfl⟩
    · left
      rw [if_neg q, iJ_add, show (iJ (l + h) + 1 : Int64) = iJ (l + h + 1) from iJ_add _ 1, show (2 : Int64) = iJ 2 by decide +kernel, m_floor ⟨by omega, by omega⟩ (by omega) (by omega) ⟨by omega, by omega⟩, Option.bind_some, m_start hd hb hw ⟨by omega, by omega⟩ (by omega), Option.bind_some]
      have b3 := sta_bd hd (y := (l + h + 1) / 2) ⟨by omega, by omega⟩
      rw [if_c (iJ_lt ⟨by omega, by omega⟩ ⟨by omega, by omega⟩)]
      by_cases p : x < sta d ((l + h + 1) / 2)
      · rw [if_pos p, show (iJ ((l + h + 1) / 2) - 1 : Int64) = iJ ((l + h + 1) / 2 - 1) from iJ_sub _ 1]
        refine ⟨_, rfl, ⟨l, (l + h + 1) / 2 - 1, rfl, by omega, hs, by rw [show (l + h + 1) / 2 - 1 + 1 = (l + h + 1) / 2 by omega]; exact p⟩, ?_⟩
        dsimp only
        rw [iJ_to ⟨by omega, by omega⟩, iJ_to ⟨by omega, by omega⟩, iJ_to ⟨by omega, by omega⟩]; omega
      · rw [if_neg p]
        refine ⟨_, rfl, ⟨(l + h + 1) / 2, h, rfl, by omega, by omega, hu⟩, ?_⟩
        dsimp only
        rw [iJ_to ⟨by omega, by omega⟩, iJ_to ⟨by omega, by omega⟩, iJ_to ⟨by omega, by omega⟩]; omega) n (iJ (-100000), iJ 100000) ⟨-100000, 100000, rfl, by omega, hx1, hx2⟩ (by dsimp only; rw [iJ_to ⟨by omega, by omega⟩, iJ_to ⟨by omega, by omega⟩]; omega)
  refine ⟨y, h2, ?_⟩
  rw [← h3, ← h1]
  unfold myearOf
  rw [show ((-100000 : Int64), (100000 : Int64)) = (iJ (-100000), iJ 100000) by decide +kernel]
