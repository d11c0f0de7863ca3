/-! ===== calls: keeps ===== -/
theorem bez (a b : Nat) : ∃ x y : Int, (a : Int) * x + (b : Int) * y = (Nat.gcd a b : Int) := by
  induction a, b using Nat.gcd.induction with
  | H0 n => exact ⟨0, 1, by simp⟩
  | H1 m n hm ih =>
    obtain ⟨x, y, h⟩ := ih
    refine ⟨y - (n / m : Nat) * x, x, ?_⟩
    rw [Nat.gcd_rec m n, ← h]
    have e := Nat.div_add_mod n m
    have e2 : (n : Int) = (m : Int) * ((n / m : Nat) : Int) + ((n % m : Nat) : Int) := by rw [← Int.natCast_mul, ← Int.natCast_add, e]
    generalize ((n / m : Nat) : Int) = q at *
    generalize ((n % m : Nat) : Int) = r at *
    rw [e2]
    grind
theorem cover {k n g q : Int} (hk : 0 ≤ k) (hn : 1 ≤ n) (hg : g = (Int.gcd k n : Int)) (hq0 : 0 ≤ q) (hqn : g * q < n) : ∃ j : Int, 0 ≤ j ∧ j < n / g ∧ k * j % n = g * q := by
  obtain ⟨K, rfl⟩ : ∃ K : Nat, k = K := ⟨k.toNat, by omega⟩
  obtain ⟨M, rfl⟩ : ∃ M : Nat, n = M := ⟨n.toNat, by omega⟩
  obtain ⟨x, y, h⟩ := bez K M
  have hgg : g = (Nat.gcd K M : Int) := hg
  rw [← hgg] at h
  have hg1 : 1 ≤ g := by
    have : 1 ≤ Nat.gcd K M := Nat.gcd_pos_of_pos_right _ (by omega)
    omega
  obtain ⟨k', hk'⟩ : g ∣ (K : Int) := by rw [hg]; exact Int.gcd_dvd_left ..
  obtain ⟨n', hn'⟩ : g ∣ (M : Int) := by rw [hg]; exact Int.gcd_dvd_right ..
  have hn1 : 1 ≤ n' := by
    rcases Int.lt_or_le 0 n' with z | z
    · omega
    · have := Int.mul_nonpos_of_nonneg_of_nonpos (show 0 ≤ g by omega) z; omega
  have hdiv : (M : Int) / g = n' := by rw [hn', Int.mul_ediv_cancel_left _ (by omega)]
  have h1 := Int.mul_ediv_add_emod (q * x) n'
  have h2 := Int.emod_nonneg (q * x) (show n' ≠ 0 by omega)
  have h3 := Int.emod_lt_of_pos (q * x) (show 0 < n' by omega)
  refine ⟨q * x % n', h2, by rw [hdiv]; exact h3, ?_⟩
  generalize hr : q * x % n' = r at *
  generalize hd : q * x / n' = d at *
  have e : (K : Int) * r = g * q + (M : Int) * (-(q * y) - k' * d) := by
    have e1 : r = q * x - n' * d := by omega
    rw [e1]
    have e2 : (K : Int) * (q * x - n' * d) = q * ((K : Int) * x) - k' * d * (M : Int) := by rw [hk', hn']; grind
    rw [e2]
    have e3 : (K : Int) * x = g - (M : Int) * y := by omega
    rw [e3]; grind
  rw [e, Int.add_mul_emod_self_left, Int.emod_eq_of_lt (Int.mul_nonneg (by omega) hq0) hqn]
def evd (d : vDes) (k m : Int32) (t : Int) : vDes := (d.1, .inr (.inl (k, m, iI t)), d.2.2)
theorem evd_ok {d : vDes} (hd : vOk d) {k m : Int32} (hm : 1 ≤ m.toInt ∧ m.toInt ≤ 1000) (hk : 0 ≤ k.toInt ∧ k.toInt ≤ m.toInt) {t : Int} (ht : 0 ≤ t ∧ t < m.toInt) : vOk (evd d k m t) := by
  refine ⟨hd.1, ?_, hd.2.2⟩
  show lOk (.inr (.inl (k, m, iI t)))
  simp only [lOk, iI_to (show b32 t from ⟨by omega, by omega⟩)]
  exact ⟨hm, hk, ht⟩
theorem evd_leap (d : vDes) (k m : Int32) {t : Int} (ht : 0 ≤ t ∧ t ≤ 1000) (y : Int) : lLeap (evd d k m t).2.1 y = decide ((k.toInt * y + t) % m.toInt < k.toInt) := by
  show evLeap k.toInt m.toInt (iI t).toInt y = _
  rw [iI_to ⟨by omega, by omega⟩]; rfl
theorem ev_turn {k m j : Int} (y : Int) : (k * y + k * j % m) % m = (k * (y + j) + 0) % m := by
  rw [Int.emod_eq_emod_iff_emod_sub_eq_zero, show k * y + k * j % m - (k * (y + j) + 0) = m * (-(k * j / m)) by
    have := Int.mul_ediv_add_emod (k * j) m
    rw [Int.mul_add, Int.mul_neg]; omega]
  exact Int.mul_emod_right _ _
theorem ev_low {k m g t : Int} (hg : 1 ≤ g) (hk : g ∣ k) (hm : g ∣ m) (hm1 : 1 ≤ m) (ht : 0 ≤ t) (y : Int) : ((k * y + t) % m < k) = ((k * y + g * (t / g)) % m < k) := by
  have h1 := Int.mul_ediv_add_emod t g
  have h2 := Int.emod_nonneg t (show g ≠ 0 by omega)
  have h3 := Int.emod_lt_of_pos t (show 0 < g by omega)
  generalize hz : k * y + g * (t / g) = z
  have hgz : g ∣ z := by rw [← hz]; exact Int.dvd_add (Int.dvd_mul_of_dvd_left hk) (Int.dvd_mul_right ..)
  have e1 := Int.mul_ediv_add_emod z m
  have e2 := Int.emod_nonneg z (show m ≠ 0 by omega)
  have e3 := Int.emod_lt_of_pos z (show 0 < m by omega)
  have hgm : g ∣ z % m := by
    rw [show z % m = z - m * (z / m) by omega]
    exact Int.dvd_sub hgz (Int.dvd_mul_of_dvd_left hm)
  have hstep : ∀ a b : Int, g ∣ a → g ∣ b → a < b → a + g ≤ b := fun a b ha hb hab => by
    obtain ⟨c, hc⟩ := Int.dvd_sub hb ha
    have : 1 ≤ c := by
      rcases Int.lt_or_le 0 c with q | q
      · omega
      · have := Int.mul_nonpos_of_nonneg_of_nonpos (show 0 ≤ g by omega) q; omega
    have := Int.mul_le_mul_of_nonneg_left this (show 0 ≤ g by omega)
    omega
  have hle := hstep _ _ hgm hm e3
  have e4 : (k * y + t) % m = z % m + t % g := by
    rw [show k * y + t = z % m + t % g + m * (z / m) by omega, Int.add_mul_emod_self_left, Int.emod_eq_of_lt (by omega) (by omega)]
  rw [e4]
  apply propext
  constructor
  · intro h; omega
  · intro h; have := hstep _ _ hgm hk h; omega
theorem lTo_pat {v v' : vLaw} (hv : lOk v) (hv' : lOk v') {j : Int} (h : ∀ y : Int, 0 ≤ y → lLeap v y = lLeap v' (y + j)) : ∀ y : Nat, lTo v (y : Int) = lTo v' ((y : Int) + j) - lTo v' j
  | 0 => by rw [show ((0 : Nat) : Int) = 0 from rfl, lTo_0 hv, Int.zero_add]; omega
  | y + 1 => by
    rw [show ((y + 1 : Nat) : Int) = (y : Int) + 1 by omega, lTo_succ hv, lTo_pat hv hv' h y, show (y : Int) + 1 + j = (y : Int) + j + 1 by omega, lTo_succ hv', h y (by omega)]
    omega
def slp (d : vDes) (y : Int) : Int := sta d y * tL d.2.2 - y * tY d.2.2
theorem dri_slp (d : vDes) (y : Int) : dri d y = slp d y - tB d.2.2 := by unfold dri daw slp; omega
theorem slp_turn {d e : vDes} (hv : lOk d.2.1) (hv' : lOk e.2.1) (hf : d.1 = e.1) (ht : d.2.2 = e.2.2) {j : Int} (h : ∀ y : Int, 0 ≤ y → lLeap d.2.1 y = lLeap e.2.1 (y + j)) {y : Int} (hy : 0 ≤ y) : slp d y = slp e (y + j) - slp e j := by
  have hp := lTo_pat hv hv' h y.toNat
  rw [Int.toNat_of_nonneg hy] at hp
  unfold slp sta
  rw [hf, ht, hp]
  grind
def isFar (d : vDes) (v : Int) : Prop := (∀ y : Int, 0 ≤ y → y < lCyc d.2.1 → ((dri d y).natAbs : Int) ≤ v) ∧ ∃ y : Int, 0 ≤ y ∧ y < lCyc d.2.1 ∧ ((dri d y).natAbs : Int) = v
theorem isFar_u {d : vDes} {v v' : Int} (h : isFar d v) (h' : isFar d v') : v = v' := by
  obtain ⟨y, y0, y1, y2⟩ := h.2
  obtain ⟨z, z0, z1, z2⟩ := h'.2
  have := h.1 z z0 z1
  have := h'.1 y y0 y1
  omega
theorem m_far {d : vDes} (hd : vOk d) {w : Nat → Int32} {b : Nat} (hb : b ≤ 35360) (hw : DR d w b) {n : Nat} (hn : 250000 ≤ n) : ∃ v : Int, (0 ≤ v ∧ v ≤ 410000000000000000) ∧ mfarOf n w (iI (b : Int)) = some (iJ v) ∧ isFar d v := by
  unfold mfarOf
  have hC := lCyc_bd hd.2.1
  have hcy := LR_cyc hd.2.1 hw.2.2.2.2.2.2.2.2.1
  obtain ⟨r, e1, v, e2, e3, e4⟩ := zloop_inv (f := mfarOf_5 n w (iI (b : Int))) (R := fun s => ∃ (j v : Int), (0 ≤ j ∧ j ≤ lCyc d.2.1) ∧ (0 ≤ v ∧ v ≤ 410000000000000000) ∧ s = (iJ v, iI j) ∧ ((j = 0 ∧ v = 0) ∨ ((∀ y : Int, 0 ≤ y → y < j → ((dri d y).natAbs : Int) ≤ v) ∧ ∃ y : Int, 0 ≤ y ∧ y < j ∧ ((dri d y).natAbs : Int) = v))) (S := fun r => ∃ v : Int, (0 ≤ v ∧ v ≤ 410000000000000000) ∧ r = iJ v ∧ isFar d v) (fun s => (lCyc d.2.1 - s.2.toInt).toNat) (by
    rintro s ⟨j, v, hj, hv, rfl, hph⟩
    unfold mfarOf_5 mfarOf_45
    dsimp only
    rw [zck_t (watz b 8 (by omega)), wat b 8 (by omega), hcy, if_c (iI_le ⟨by omega, by omega⟩ ⟨by omega, by omega⟩)]
    by_cases p : lCyc d.2.1 ≤ j
    · right
      rw [if_pos p]
      rcases hph with ⟨j0, _⟩ | ⟨a1, y, a2, a3, a4⟩
      · omega
      · exact ⟨_, rfl, v, hv, rfl, fun y y0 y1 => a1 y y0 (by omega), y, a2, by omega, a4⟩
    · left
      have db := dri_bd hd (y := j) ⟨by omega, by omega⟩
      have hμ : (lCyc d.2.1 - (iI (j + 1)).toInt).toNat < (lCyc d.2.1 - (iI j).toInt).toNat := by rw [iI_to ⟨by omega, by omega⟩, iI_to ⟨by omega, by omega⟩]; omega
      rw [if_neg p, iI_J ⟨by omega, by omega⟩, m_drift hd hb hw ⟨by omega, by omega⟩ hn, Option.bind_some, msize_abs ⟨by omega, by omega⟩, Option.bind_some, if_c (iJ_le ⟨by omega, by omega⟩ ⟨by omega, by omega⟩), show (iI j + 1 : Int32) = iI (j + 1) from iI_add _ 1]
      by_cases q : ((dri d j).natAbs : Int) ≤ v
      · rw [if_pos q]
        refine ⟨_, rfl, ⟨j + 1, v, ⟨by omega, by omega⟩, hv, rfl, Or.inr ?_⟩, hμ⟩
        rcases hph with ⟨j0, v0⟩ | ⟨a1, y, a2, a3, a4⟩
        · refine ⟨fun y y0 y1 => ?_, j, by omega, by omega, by omega⟩
          rw [show y = j by omega]; exact q
        · refine ⟨fun y y0 y1 => ?_, y, a2, by omega, a4⟩
          by_cases t : y = j
          · rw [t]; exact q
          · exact a1 y y0 (by omega)
      · rw [if_neg q]
        refine ⟨_, rfl, ⟨j + 1, _, ⟨by omega, by omega⟩, ⟨by omega, by omega⟩, rfl, Or.inr ⟨fun y y0 y1 => ?_, j, by omega, by omega, rfl⟩⟩, hμ⟩
        by_cases t : y = j
        · rw [t]; exact Int.le_refl _
        · rcases hph with ⟨j0, v0⟩ | ⟨a1, _⟩
          · omega
          · have := a1 y y0 (by omega); omega) n (0, 0) ⟨0, 0, ⟨by omega, by omega⟩, ⟨by omega, by omega⟩, rfl, Or.inl ⟨rfl, rfl⟩⟩ (by show (lCyc d.2.1 - (iI 0).toInt).toNat < n; rw [iI_to ⟨by omega, by omega⟩]; omega)
  exact ⟨v, e2, by rw [e1, e3], e4⟩
theorem c_maxL {a b : Int} (ha : b64 a) (hb : b64 b) : j_maxL (iJ a) (iJ b) = some (iJ (if a < b then b else a)) := by
  unfold j_maxL
  rw [if_c (iJ_lt ha hb)]
  by_cases q : a < b
  · rw [if_pos q, if_pos q]
  · rw [if_neg q, if_neg q]
theorem c_minL {a b : Int} (ha : b64 a) (hb : b64 b) : j_minL (iJ a) (iJ b) = some (iJ (if b < a then b else a)) := by
  unfold j_minL
  rw [if_c (iJ_lt hb ha)]
  by_cases q : b < a
  · rw [if_pos q, if_pos q]
  · rw [if_neg q, if_neg q]
theorem c_slip {d : vDes} (hd : vOk d) {y : Int} (hy : -200002 ≤ y ∧ y ≤ 200002) {n : Nat} (hn : 7 ≤ n) : k_slipUnits n d (iI y) = some (iJ (tG d.2.2 * slp d y)) := by
  obtain ⟨u1, u2, u3⟩ := c_units hd.2.2
  unfold k_slipUnits
  rw [c_start hd hy hn, Option.bind_some, u1, Option.bind_some, u2, Option.bind_some, iI_J ⟨by omega, by omega⟩, iJ_mul, iJ_mul, iJ_sub]
  congr 2
  unfold slp
  grind
theorem gslp_bd {d : vDes} (hd : vOk d) {y : Int} (hy : -2000 ≤ y ∧ y ≤ 2000) : -420000000000000000 ≤ tG d.2.2 * slp d y ∧ tG d.2.2 * slp d y ≤ 420000000000000000 := by
  have h1 := gdri_bd hd (y := y) ⟨by omega, by omega⟩
  obtain ⟨_, _, h3⟩ := gL_bd hd
  rw [dri_slp, Int.mul_sub] at h1
  omega
def hvf (S : Int → Int) (N : Int) : Nat → Int
  | 0 => -4611686018427387904
  | j + 1 => if hvf S N j < S (N + j) then S (N + j) else hvf S N j
def lvf (S : Int → Int) (N : Int) : Nat → Int
  | 0 => 4611686018427387904
  | j + 1 => if S (N + j) < lvf S N j then S (N + j) else lvf S N j
theorem hvf_p {S : Int → Int} {N : Int} (hS : ∀ y, N ≤ y → y ≤ 2000 → -420000000000000000 ≤ S y ∧ S y ≤ 420000000000000000) : ∀ j : Nat, N + j ≤ 2000 → (-4611686018427387904 ≤ hvf S N j ∧ hvf S N j ≤ 420000000000000000) ∧ (∀ y, N ≤ y → y < N + j → S y ≤ hvf S N j) ∧ (hvf S N j = -4611686018427387904 ∨ ∃ y, N ≤ y ∧ y < N + j ∧ S y = hvf S N j)
  | 0, _ => ⟨⟨by rw [hvf]; omega, by rw [hvf]; omega⟩, fun y y0 y1 => by omega, Or.inl rfl⟩
  | j + 1, h => by
    obtain ⟨a1, a2, a3⟩ := hvf_p hS j (by omega)
    have a4 := hS (N + j) (by omega) (by omega)
    rw [hvf]
    by_cases q : hvf S N j < S (N + j)
    · rw [if_pos q]
      refine ⟨⟨by omega, by omega⟩, fun y y0 y1 => ?_, Or.inr ⟨N + j, by omega, by omega, rfl⟩⟩
      by_cases t : y = N + j
      · rw [t]; exact Int.le_refl _
      · have := a2 y y0 (by omega); omega
    · rw [if_neg q]
      refine ⟨a1, fun y y0 y1 => ?_, ?_⟩
      · by_cases t : y = N + j
        · rw [t]; omega
        · exact a2 y y0 (by omega)
      · rcases a3 with a3 | ⟨y, b1, b2, b3⟩
        · exact Or.inl a3
        · exact Or.inr ⟨y, b1, by omega, b3⟩
theorem lvf_p {S : Int → Int} {N : Int} (hS : ∀ y, N ≤ y → y ≤ 2000 → -420000000000000000 ≤ S y ∧ S y ≤ 420000000000000000) : ∀ j : Nat, N + j ≤ 2000 → (-420000000000000000 ≤ lvf S N j ∧ lvf S N j ≤ 4611686018427387904) ∧ (∀ y, N ≤ y → y < N + j → lvf S N j ≤ S y) ∧ (lvf S N j = 4611686018427387904 ∨ ∃ y, N ≤ y ∧ y < N + j ∧ S y = lvf S N j)
  | 0, _ => ⟨⟨by rw [lvf]; omega, by rw [lvf]; omega⟩, fun y y0 y1 => by omega, Or.inl rfl⟩
  | j + 1, h => by
    obtain ⟨a1, a2, a3⟩ := lvf_p hS j (by omega)
    have a4 := hS (N + j) (by omega) (by omega)
    rw [lvf]
    by_cases q : S (N + j) < lvf S N j
    · rw [if_pos q]
      refine ⟨⟨by omega, by omega⟩, fun y y0 y1 => ?_, Or.inr ⟨N + j, by omega, by omega, rfl⟩⟩
      by_cases t : y = N + j
      · rw [t]; exact Int.le_refl _
      · have := a2 y y0 (by omega); omega
    · rw [if_neg q]
      refine ⟨a1, fun y y0 y1 => ?_, ?_⟩
      · by_cases t : y = N + j
        · rw [t]; omega
        · exact a2 y y0 (by omega)
      · rcases a3 with a3 | ⟨y, b1, b2, b3⟩
        · exact Or.inl a3
        · exact Or.inr ⟨y, b1, by omega, b3⟩
theorem c_heads {d : vDes} (hd : vOk d) {N : Int} (hN : 1 ≤ N ∧ N ≤ 1000) (hg lw : Option (Nat → Int64)) {n : Nat} (hn : 250000 ≤ n) : ∃ h l : Nat → Int64, w_fillHeads n hg lw d (iI N) = some (some h, some l) ∧ ∀ j : Nat, (j : Int) < N → h j = iJ (hvf (fun y => tG d.2.2 * slp d y) N j) ∧ l j = iJ (lvf (fun y => tG d.2.2 * slp d y) N j) := by
  have hS : ∀ y, N ≤ y → y ≤ 2000 → -420000000000000000 ≤ tG d.2.2 * slp d y ∧ tG d.2.2 * slp d y ≤ 420000000000000000 := fun y y0 y1 => gslp_bd hd ⟨by omega, by omega⟩
  have h32 : ∀ h0 l0 : Nat → Int64, ∃ h l : Nat → Int64, w_fillHeads_32 n (some h0) (some l0) d (iI N) = some (some h, some l) ∧ ∀ j : Nat, (j : Int) < N → h j = iJ (hvf (fun y => tG d.2.2 * slp d y) N j) ∧ l j = iJ (lvf (fun y => tG d.2.2 * slp d y) N j) := fun h0 l0 => by
    unfold w_fillHeads_32
    obtain ⟨r, e1, h, l, e2, e3⟩ := zloop_inv (f := w_fillHeads_44 n d (iI N)) (R := fun s => ∃ (i : Nat) (h l : Nat → Int64), (i : Int) ≤ N ∧ s = (iJ (hvf (fun y => tG d.2.2 * slp d y) N i), iJ (lvf (fun y => tG d.2.2 * slp d y) N i), iI (i : Int), some h, some l) ∧ ∀ j : Nat, j < i → h j = iJ (hvf (fun y => tG d.2.2 * slp d y) N j) ∧ l j = iJ (lvf (fun y => tG d.2.2 * slp d y) N j)) (S := fun r => ∃ h l : Nat → Int64, r = (some h, some l) ∧ ∀ j : Nat, (j : Int) < N → h j = iJ (hvf (fun y => tG d.2.2 * slp d y) N j) ∧ l j = iJ (lvf (fun y => tG d.2.2 * slp d y) N j)) (fun s => (N - s.2.2.1.toInt).toNat) (by
      rintro s ⟨i, h, l, hi, rfl, hhl⟩
      have p1 := (hvf_p hS i (by omega)).1
      have p2 := (lvf_p hS i (by omega)).1
      unfold w_fillHeads_44
      dsimp only
      rw [if_c (iI_le ⟨by omega, by omega⟩ ⟨by omega, by omega⟩)]
      by_cases p : N ≤ (i : Int)
      · right
        rw [if_pos p]
        exact ⟨_, rfl, h, l, rfl, fun j hj => hhl j (by omega)⟩
      · left
        have b1 := hS (N + i) (by omega) (by omega)
        rw [if_neg p, zO_s, zck_t (iI_zin (by omega) (by omega) (by omega)), zO_s, zck_t (iI_zin (by omega) (by omega) (by omega)), iI_add, c_slip hd ⟨by omega, by omega⟩ (by omega), Option.bind_some, c_maxL ⟨by omega, by omega⟩ ⟨by omega, by omega⟩, Option.bind_some, c_minL ⟨by omega, by omega⟩ ⟨by omega, by omega⟩, Option.bind_some, iI_nat (by omega) (by omega), Int.toNat_natCast, show (iI (i : Int) + 1 : Int32) = iI ((i + 1 : Nat) : Int) from iI_add _ 1]
        refine ⟨_, rfl, ⟨i + 1, _, _, by omega, rfl, fun j hj => ?_⟩, ?_⟩
        · by_cases t : j = i
          · rw [t, updL_at, updL_at]; exact ⟨rfl, rfl⟩
          · rw [updL_ne t, updL_ne t]; exact hhl j (by omega)
        · dsimp only; rw [iI_to ⟨by omega, by omega⟩, iI_to ⟨by omega, by omega⟩]; omega) n (-4611686018427387904, 4611686018427387904, 0, some h0, some l0) ⟨0, h0, l0, by omega, by rw [hvf, lvf]; rfl, fun j hj => by omega⟩ (by show (N - (iI 0).toInt).toNat < n; rw [iI_to ⟨by omega, by omega⟩]; omega)
    exact ⟨h, l, by rw [e1, e2], e3⟩
  unfold w_fillHeads w_fillHeads_14
  cases hg with
  | none => rw [zO_n]; exact h32 _ _
  | some h0 =>
    rw [zO_s]
    cases lw with
    | none => rw [zO_n]; exact h32 _ _
    | some l0 => rw [zO_s]; exact h32 _ _
