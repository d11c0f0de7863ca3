/-! ===== loops ===== -/
theorem zloop_inv {σ ρ : Type} {f : σ → Option (σ ⊕ ρ)} {R : σ → Prop} {S : ρ → Prop} (μ : σ → Nat) (hs : ∀ s, R s → (∃ s', f s = some (.inl s') ∧ R s' ∧ μ s' < μ s) ∨ ∃ r, f s = some (.inr r) ∧ S r) : ∀ (n : Nat) (s : σ), R s → μ s < n → ∃ r, zloop f n s = some r ∧ S r := by
  intro n
  induction n with
  | zero => intro s _ h; omega
  | succ n ih =>
    intro s hR hm
    rcases hs s hR with ⟨s', h1, h2, h3⟩ | ⟨r, h1, h2⟩
    · obtain ⟨r, h4, h5⟩ := ih s' h2 (by omega)
      exact ⟨r, by rw [zloop, h1]; exact h4, h5⟩
    · exact ⟨r, by rw [zloop, h1], h2⟩
theorem zloop_sim {σ ρ τ κ : Type} {f : σ → Option (σ ⊕ ρ)} {g : τ → Option (τ ⊕ κ)} {R : σ → τ → Prop} {S : ρ → κ → Prop} (μ : σ → Nat) (hs : ∀ s t, R s t → (∃ s' t', f s = some (.inl s') ∧ g t = some (.inl t') ∧ R s' t' ∧ μ s' < μ s) ∨ ∃ r q, f s = some (.inr r) ∧ g t = some (.inr q) ∧ S r q) : ∀ (n m : Nat) (s : σ) (t : τ), R s t → μ s < n → μ s < m → ∃ r q, zloop f n s = some r ∧ zloop g m t = some q ∧ S r q := by
  intro n
  induction n with
  | zero => intro m s t _ h; omega
  | succ n ih =>
    intro m s t hR hn hm
    cases m with
    | zero => omega
    | succ m =>
      rcases hs s t hR with ⟨s', t', h1, h2, h3, h4⟩ | ⟨r, q, h1, h2, h3⟩
      · obtain ⟨r, q, h5, h6, h7⟩ := ih m s' t' h3 (by omega) (by omega)
        exact ⟨r, q, by rw [zloop, h1]; exact h5, by rw [zloop, h2]; exact h6, h7⟩
      · exact ⟨r, q, by rw [zloop, h1], by rw [zloop, h2], h3⟩
/-! ===== small ones of the reference ===== -/
theorem ex32 (x : Int32) : ∃ a, b32 a ∧ x = iI a := ⟨x.toInt, i_b32 x, (iI_of x).symm⟩
theorem ex64 (x : Int64) : ∃ a, b64 a ∧ x = iJ a := ⟨x.toInt, i_b64 x, (iJ_of x).symm⟩
theorem m_floor {a b : Int} (ha : b64 a) (ha2 : a ≠ -9223372036854775808) (h : 0 < b) (hb : b64 b) : mfloor (iJ a) (iJ b) = some (iJ (a / b)) := by
  have nz : decide (¬ iJ b = 0) = true := by rw [decide_eq_true_eq]; show ¬ iJ b = iJ 0; rw [iJ_eq hb ⟨by omega, by omega⟩]; omega
  have t2 := tmod_pos (a := a) h
  have e2 := Int.emod_nonneg a (Int.ne_of_gt h)
  have e3 := Int.emod_lt_of_pos a h
  have hb2 := hb.2
  have bt : b64 (a.tmod b) := by rw [t2]; split; exact ⟨by omega, by omega⟩; split <;> exact ⟨by omega, by omega⟩
  unfold mfloor
  rw [zck_t nz, zck_t nz, iJ_mod ha ha2 hb, if_c (show ((0 : Int64) ≤ iJ (a.tmod b)) = (0 ≤ a.tmod b) from iJ_le (a := 0) ⟨by omega, by omega⟩ bt), iJ_div ha ha2 hb, t2, tdiv_pos h]
  by_cases q : 0 ≤ a
  · rw [if_pos q, if_pos q, if_pos e2]
  · rw [if_neg q, if_neg q]
    by_cases q2 : a % b = 0
    · rw [if_pos q2, if_pos q2, if_pos (Int.le_refl _)]
    · rw [if_neg q2, if_neg q2, if_neg (by omega)]
      show some (iJ (a / b + 1) - iJ 1) = _
      rw [iJ_sub]; congr 2; omega
theorem m_rest {a b : Int} (ha : b64 a) (ha2 : a ≠ -9223372036854775808) (h : 0 < b) (hb : b64 b) : mrest (iJ a) (iJ b) = some (iJ (a % b)) := by
  unfold mrest
  rw [m_floor ha ha2 h hb]
  show some (iJ a - iJ b * iJ (a / b)) = _
  rw [iJ_mul, iJ_sub]; congr 2
  have := Int.mul_ediv_add_emod a b
  omega
theorem m_isIn {a b c : Int} (ha : b64 a) (hb : b64 b) (hc : b64 c) : misIn (iJ a) (iJ b) (iJ c) = some (decide (b ≤ a ∧ a ≤ c)) := by
  unfold misIn
  rw [if_c (iJ_lt ha hb), if_c (iJ_lt hc ha)]
  by_cases q : a < b
  · rw [if_pos q, decide_eq_false (by omega)]
  · rw [if_neg q]
    by_cases q2 : c < a
    · rw [if_pos q2, decide_eq_false (by omega)]
    · rw [if_neg q2, decide_eq_true (by omega)]
theorem m_size {a : Int} (ha : b64 a) : msize (iJ a) = some (iJ (if a < 0 then -a else a)) := by
  unfold msize
  rw [if_c (show ((0 : Int64) ≤ iJ a) = (0 ≤ a) from iJ_le (a := 0) ⟨by omega, by omega⟩ ha)]
  by_cases q : a < 0
  · rw [if_pos q, if_neg (by omega), iJ_neg]
  · rw [if_neg q, if_pos (by omega)]
theorem wat (b k : Nat) (h : b + k < 35802) : (iI (b : Int) + (OfNat.ofNat k : Int32)).toNatClampNeg = b + k := by
  show (iI (b : Int) + nI k).toNatClampNeg = _
  rw [nI_iI, iI_add, iI_nat (by omega) (by omega)]; omega
theorem watz (b k : Nat) (h : b + k < 35802) : zin (iI (b : Int) + (OfNat.ofNat k : Int32)) 35802 = true := by
  show zin (iI (b : Int) + nI k) 35802 = _
  rw [nI_iI, iI_add]
  exact iI_zin (by omega) (by omega) (by omega)
theorem wat2 (b k : Nat) (i : Int) (h0 : 0 ≤ i) (h : b + k + i < 35802) : ((iI (b : Int) + (OfNat.ofNat k : Int32)) + iI i).toNatClampNeg = b + k + i.toNat := by
  show ((iI (b : Int) + nI k) + iI i).toNatClampNeg = _
  rw [nI_iI, iI_add, iI_add, iI_nat (by omega) (by omega)]; omega
theorem wat2z (b k : Nat) (i : Int) (h0 : 0 ≤ i) (h : b + k + i < 35802) : zin ((iI (b : Int) + (OfNat.ofNat k : Int32)) + iI i) 35802 = true := by
  show zin ((iI (b : Int) + nI k) + iI i) 35802 = _
  rw [nI_iI, iI_add, iI_add]
  exact iI_zin (by omega) (by omega) (by omega)
/-! ===== laws: which years are leap, how many ahead of one ===== -/
def evLeap (k n s y : Int) : Bool := decide ((k * y + s) % n < k)
def evTo (k n s y : Int) : Int := (k * (y - 1) + s) / n - (s - k) / n
/-- how many of the first steps divide, until one does not -/
def ladC (f : Nat → Int32) (y : Int) : Nat → Nat
  | 0 => 0
  | m + 1 => if ladC f y m = m ∧ y % (f m).toInt = 0 then m + 1 else ladC f y m
def ladS (f : Nat → Int32) (y : Int) : Nat → Int
  | 0 => 0
  | m + 1 => ladS f y m + (if m % 2 = 0 then 1 else -1) * (-((-y) / (f m).toInt))
def roLeap (c : Int) (f : Nat → Int32) (y : Int) : Bool := decide ((f (y % c).toNat).toInt < (f ((y % c).toNat + 1)).toInt)
def roTo (c : Int) (f : Nat → Int32) (y : Int) : Int := y / c * (f c.toNat).toInt + (f (y % c).toNat).toInt
def lLeap : vLaw → Int → Bool
  | .inl _, _ => false
  | .inr (.inl e), y => evLeap e.1.toInt e.2.1.toInt e.2.2.toInt y
  | .inr (.inr (.inl a)), y => decide (ladC a.2 y a.1 % 2 = 1)
  | .inr (.inr (.inr r)), y => roLeap r.2.toInt r.1.2 y
def lTo : vLaw → Int → Int
  | .inl _, _ => 0
  | .inr (.inl e), y => evTo e.1.toInt e.2.1.toInt e.2.2.toInt y
  | .inr (.inr (.inl a)), y => ladS a.2 y a.1
  | .inr (.inr (.inr r)), y => roTo r.2.toInt r.1.2 y
def lCyc : vLaw → Int
  | .inl _ => 1
  | .inr (.inl e) => e.2.1.toInt
  | .inr (.inr (.inl a)) => (a.2 (a.1 - 1)).toInt
  | .inr (.inr (.inr r)) => r.2.toInt
def lOk : vLaw → Prop
  | .inl _ => True
  | .inr (.inl e) => (1 ≤ e.2.1.toInt ∧ e.2.1.toInt ≤ 1000) ∧ (0 ≤ e.1.toInt ∧ e.1.toInt ≤ e.2.1.toInt) ∧ 0 ≤ e.2.2.toInt ∧ e.2.2.toInt < e.2.1.toInt
  | .inr (.inr (.inl a)) => (1 ≤ a.1 ∧ a.1 ≤ 6) ∧ (∀ i, i < a.1 → 1 ≤ (a.2 i).toInt ∧ (a.2 i).toInt ≤ 9999) ∧ ∀ i, i + 1 < a.1 → (a.2 (i + 1)).toInt % (a.2 i).toInt = 0
  | .inr (.inr (.inr r)) => (1 ≤ r.2.toInt ∧ r.2.toInt ≤ 400) ∧ r.1.1 = r.2.toInt.toNat + 1 ∧ r.1.2 0 = 0 ∧ ∀ i, i < r.2.toInt.toNat → (r.1.2 (i + 1)).toInt = (r.1.2 i).toInt ∨ (r.1.2 (i + 1)).toInt = (r.1.2 i).toInt + 1
theorem evTo_succ {k n s : Int} (hn : 1 ≤ n) (hk0 : 0 ≤ k) (hk : k ≤ n) (y : Int) : evTo k n s (y + 1) = evTo k n s y + if evLeap k n s y = true then 1 else 0 := by
  unfold evTo evLeap
  rw [show y + 1 - 1 = y by omega]
  have e : k * (y - 1) + s = k * y + s - k := by rw [Int.mul_sub]; omega
  rw [e]
  generalize k * y + s = x
  have h1 := Int.mul_ediv_add_emod x n
  have h2 := Int.emod_nonneg x (show n ≠ 0 by omega)
  have h3 := Int.emod_lt_of_pos x (show 0 < n by omega)
  by_cases q : x % n < k
  · have : (x - k) / n = x / n - 1 := by
      rw [Int.ediv_eq_iff_of_pos (by omega)]
      have : (x / n - 1) * n = n * (x / n) - n := by rw [Int.sub_mul, Int.mul_comm]; omega
      have : (x / n - 1 + 1) * n = n * (x / n) := by rw [show x / n - 1 + 1 = x / n by omega, Int.mul_comm]
      omega
    rw [this, decide_eq_true q, if_pos rfl]; omega
  · have : (x - k) / n = x / n := by
      rw [Int.ediv_eq_iff_of_pos (by omega)]
      have : (x / n) * n = n * (x / n) := Int.mul_comm _ _
      have : (x / n + 1) * n = n * (x / n) + n := by rw [Int.add_mul, Int.mul_comm]; omega
      omega
    rw [this, decide_eq_false q, if_neg (by decide)]; omega
theorem ceil_succ {d : Int} (hd : 1 ≤ d) (y : Int) : -((-(y + 1)) / d) = -((-y) / d) + if y % d = 0 then 1 else 0 := by
  have h1 := Int.mul_ediv_add_emod (-y) d
  have h2 := Int.emod_nonneg (-y) (show d ≠ 0 by omega)
  have h3 := Int.emod_lt_of_pos (-y) (show 0 < d by omega)
  have hz : y % d = 0 ↔ (-y) % d = 0 := by
    rw [← Int.dvd_iff_emod_eq_zero, ← Int.dvd_iff_emod_eq_zero, Int.dvd_neg]
  generalize hx : -y = x at h1 h2 h3 hz ⊢
  rw [show -(y + 1) = x - 1 by omega]
  by_cases q : x % d = 0
  · rw [if_pos (hz.mpr q)]
    have : (x - 1) / d = x / d - 1 := by
      rw [Int.ediv_eq_iff_of_pos (by omega)]
      have : (x / d - 1) * d = d * (x / d) - d := by rw [Int.sub_mul, Int.mul_comm]; omega
      have : (x / d - 1 + 1) * d = d * (x / d) := by rw [show x / d - 1 + 1 = x / d by omega, Int.mul_comm]
      omega
    omega
  · rw [if_neg (fun z => q (hz.mp z))]
    have : (x - 1) / d = x / d := by
      rw [Int.ediv_eq_iff_of_pos (by omega)]
      have : (x / d) * d = d * (x / d) := Int.mul_comm _ _
      have : (x / d + 1) * d = d * (x / d) + d := by rw [Int.add_mul, Int.mul_comm]; omega
      omega
    omega
theorem ladC_le (f : Nat → Int32) (y : Int) : ∀ m, ladC f y m ≤ m
  | 0 => Nat.le_refl _
  | m + 1 => by have := ladC_le f y m; rw [ladC]; split <;> omega
theorem ladC_all {f : Nat → Int32} {M : Nat} (h : ∀ i, i + 1 < M → (f (i + 1)).toInt % (f i).toInt = 0) {y : Int} : ∀ m, m < M → y % (f m).toInt = 0 → ladC f y m = m
  | 0, _, _ => rfl
  | m + 1, hm, hy => by
    have h1 : y % (f m).toInt = 0 := Int.emod_eq_zero_of_dvd (Int.dvd_trans (Int.dvd_of_emod_eq_zero (h m hm)) (Int.dvd_of_emod_eq_zero hy))
    rw [ladC, if_pos ⟨ladC_all h m (by omega) h1, h1⟩]
theorem ladS_succ {f : Nat → Int32} {M : Nat} (h0 : ∀ i, i < M → 1 ≤ (f i).toInt) (h : ∀ i, i + 1 < M → (f (i + 1)).toInt % (f i).toInt = 0) (y : Int) : ∀ m, m ≤ M → ladS f (y + 1) m = ladS f y m + if ladC f y m % 2 = 1 then 1 else 0
  | 0, _ => rfl
  | m + 1, hm => by
    have hle := ladC_le f y m
    have hr := ladS_succ h0 h y m (by omega)
    have hd := ceil_succ (h0 m (by omega)) y
    rw [ladS, ladS, hr, hd]
    by_cases q : y % (f m).toInt = 0
    · have hc := ladC_all h m (by omega) q
      have e : ladC f y (m + 1) = m + 1 := by rw [ladC, if_pos ⟨hc, q⟩]
      rw [e, hc, if_pos q]
      by_cases p : m % 2 = 0
      · rw [if_pos p, if_neg (show ¬ m % 2 = 1 by omega), if_pos (show (m + 1) % 2 = 1 by omega)]; omega
      · rw [if_neg p, if_pos (show m % 2 = 1 by omega), if_neg (show ¬ (m + 1) % 2 = 1 by omega)]; omega
    · have e : ladC f y (m + 1) = ladC f y m := by rw [ladC, if_neg (fun z => q z.2)]
      rw [e, if_neg q]
      by_cases p : m % 2 = 0
      · rw [if_pos p]; omega
      · rw [if_neg p]; omega
theorem roTo_succ {c : Int} {f : Nat → Int32} (hc : 1 ≤ c) (h0 : f 0 = 0) (h : ∀ i, i < c.toNat → (f (i + 1)).toInt = (f i).toInt ∨ (f (i + 1)).toInt = (f i).toInt + 1) (y : Int) : roTo c f (y + 1) = roTo c f y + if roLeap c f y = true then 1 else 0 := by
  unfold roTo roLeap
  have h1 := Int.mul_ediv_add_emod y c
  have h2 := Int.emod_nonneg y (show c ≠ 0 by omega)
  have h3 := Int.emod_lt_of_pos y (show 0 < c by omega)
  have hs := h (y % c).toNat (by omega)
  have hl : ∀ P : Prop, [Decidable P] → (if decide P = true then (1 : Int) else 0) = if P then 1 else 0 := fun P _ => by by_cases q : P <;> simp [q]
  rw [hl]
  by_cases q : y % c + 1 < c
  · have e1 : (y + 1) / c = y / c := by
      rw [Int.ediv_eq_iff_of_pos (by omega)]
      have : (y / c) * c = c * (y / c) := Int.mul_comm _ _
      have : (y / c + 1) * c = c * (y / c) + c := by rw [Int.add_mul, Int.mul_comm]; omega
      omega
    have e2 : (y + 1) % c = y % c + 1 := by
      have := Int.mul_ediv_add_emod (y + 1) c
      rw [e1] at this; omega
    rw [e1, e2, show (y % c + 1).toNat = (y % c).toNat + 1 by omega]
    rcases hs with hs | hs <;> rw [hs]
    · rw [if_neg (by omega)]; omega
    · rw [if_pos (by omega)]; omega
  · have e1 : (y + 1) / c = y / c + 1 := by
      rw [Int.ediv_eq_iff_of_pos (by omega)]
      have : (y / c + 1) * c = c * (y / c) + c := by rw [Int.add_mul, Int.mul_comm]; omega
      have : (y / c + 1 + 1) * c = c * (y / c) + c + c := by rw [Int.add_mul, Int.add_mul, Int.mul_comm]; omega
      omega
    have e2 : (y + 1) % c = 0 := by
      have := Int.mul_ediv_add_emod (y + 1) c
      have : c * (y / c + 1) = c * (y / c) + c := by rw [Int.mul_add, Int.mul_one]
      rw [e1] at *; omega
    have e3 : (y % c).toNat + 1 = c.toNat := by omega
    rw [e1, e2, show (0 : Int).toNat = 0 from rfl, h0, show (0 : Int32).toInt = 0 from rfl, Int.add_mul, Int.one_mul]
    rw [e3] at hs ⊢
    rcases hs with hs | hs <;> rw [hs]
    · rw [if_neg (by omega), Int.add_zero]; (try omega)
    · rw [if_pos (by omega)]; (try omega)
theorem lTo_succ {v : vLaw} (hv : lOk v) (y : Int) : lTo v (y + 1) = lTo v y + if lLeap v y = true then 1 else 0 := by
  match v, hv with
  | .inl _, _ => rfl
  | .inr (.inl e), hv => exact evTo_succ hv.1.1 hv.2.1.1 hv.2.1.2 y
  | .inr (.inr (.inl a)), hv =>
    have := ladS_succ (fun i hi => (hv.2.1 i hi).1) hv.2.2 y a.1 (Nat.le_refl _)
    show ladS a.2 (y + 1) a.1 = ladS a.2 y a.1 + if decide (ladC a.2 y a.1 % 2 = 1) = true then 1 else 0
    rw [this]
    by_cases q : ladC a.2 y a.1 % 2 = 1
    · rw [if_pos q, decide_eq_true q, if_pos rfl]
    · rw [if_neg q, decide_eq_false q, if_neg (by decide)]
  | .inr (.inr (.inr r)), hv => exact roTo_succ hv.1.1 hv.2.2.1 hv.2.2.2 y
theorem lTo_0 {v : vLaw} (hv : lOk v) : lTo v 0 = 0 := by
  match v, hv with
  | .inl _, _ => rfl
  | .inr (.inl e), hv => show evTo _ _ _ _ = 0; unfold evTo; rw [show e.1.toInt * (0 - 1) + e.2.2.toInt = e.2.2.toInt - e.1.toInt by omega]; omega
  | .inr (.inr (.inl a)), hv =>
    have : ∀ m, ladS a.2 0 m = 0 := fun m => by
      induction m with
      | zero => rfl
      | succ m ih => rw [ladS, ih]; simp
    exact this _
  | .inr (.inr (.inr r)), hv => show roTo _ _ _ = 0; unfold roTo; simp [hv.2.2.1]
theorem lTo_bd {v : vLaw} (hv : lOk v) (n : Nat) : (0 ≤ lTo v n ∧ lTo v n ≤ n) ∧ (-(n : Int) ≤ lTo v (-n) ∧ lTo v (-n) ≤ 0) := by
  induction n with
  | zero => have := lTo_0 hv; simp [this]
  | succ n ih =>
    have h1 := lTo_succ hv n
    have h2 := lTo_succ hv (-((n : Int) + 1))
    rw [show -((n : Int) + 1) + 1 = -n by omega] at h2
    rw [show (((n + 1 : Nat)) : Int) = n + 1 by omega]
    split at h1 <;> split at h2 <;> omega
