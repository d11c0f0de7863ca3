/-! ===== the pure level: machine's numbers as whole numbers ===== -/
def iI (x : Int) : Int32 := Int32.ofInt x
def iJ (x : Int) : Int64 := Int64.ofInt x
/-- fits an int -/
def b32 (x : Int) : Prop := -2147483648 ≤ x ∧ x ≤ 2147483647
def b64 (x : Int) : Prop := -9223372036854775808 ≤ x ∧ x ≤ 9223372036854775807
theorem iI_add (a b : Int) : iI a + iI b = iI (a + b) := (Int32.ofInt_add a b).symm
theorem iI_sub (a b : Int) : iI a - iI b = iI (a - b) := (Int32.ofInt_sub a b).symm
theorem iI_mul (a b : Int) : iI a * iI b = iI (a * b) := (Int32.ofInt_mul a b).symm
theorem iI_neg (a : Int) : -iI a = iI (-a) := (Int32.ofInt_neg a).symm
theorem iJ_add (a b : Int) : iJ a + iJ b = iJ (a + b) := (Int64.ofInt_add a b).symm
theorem iJ_sub (a b : Int) : iJ a - iJ b = iJ (a - b) := (Int64.ofInt_sub a b).symm
theorem iJ_mul (a b : Int) : iJ a * iJ b = iJ (a * b) := (Int64.ofInt_mul a b).symm
theorem iJ_neg (a : Int) : -iJ a = iJ (-a) := (Int64.ofInt_neg a).symm
theorem iI_to {a : Int} (h : b32 a) : (iI a).toInt = a := Int32.toInt_ofInt_of_le (by have := h.1; omega) (by have := h.2; omega)
theorem iJ_to {a : Int} (h : b64 a) : (iJ a).toInt = a := Int64.toInt_ofInt_of_le (by have := h.1; omega) (by have := h.2; omega)
theorem iI_of (x : Int32) : iI x.toInt = x := Int32.ofInt_toInt x
theorem iJ_of (x : Int64) : iJ x.toInt = x := Int64.ofInt_toInt x
theorem i_b32 (x : Int32) : b32 x.toInt := ⟨by have := Int32.le_toInt x; omega, by have := Int32.toInt_lt x; omega⟩
theorem i_b64 (x : Int64) : b64 x.toInt := ⟨by have := Int64.le_toInt x; omega, by have := Int64.toInt_lt x; omega⟩
theorem iI_le {a b : Int} (ha : b32 a) (hb : b32 b) : (iI a ≤ iI b) = (a ≤ b) := by rw [Int32.le_iff_toInt_le, iI_to ha, iI_to hb]
theorem iI_lt {a b : Int} (ha : b32 a) (hb : b32 b) : (iI a < iI b) = (a < b) := by rw [Int32.lt_iff_toInt_lt, iI_to ha, iI_to hb]
theorem iI_eq {a b : Int} (ha : b32 a) (hb : b32 b) : (iI a = iI b) = (a = b) := propext ⟨fun h => by have := congrArg Int32.toInt h; rwa [iI_to ha, iI_to hb] at this, fun h => by rw [h]⟩
theorem iJ_le {a b : Int} (ha : b64 a) (hb : b64 b) : (iJ a ≤ iJ b) = (a ≤ b) := by rw [Int64.le_iff_toInt_le, iJ_to ha, iJ_to hb]
theorem iJ_lt {a b : Int} (ha : b64 a) (hb : b64 b) : (iJ a < iJ b) = (a < b) := by rw [Int64.lt_iff_toInt_lt, iJ_to ha, iJ_to hb]
theorem iJ_eq {a b : Int} (ha : b64 a) (hb : b64 b) : (iJ a = iJ b) = (a = b) := propext ⟨fun h => by have := congrArg Int64.toInt h; rwa [iJ_to ha, iJ_to hb] at this, fun h => by rw [h]⟩
theorem b32_64 {a : Int} (h : b32 a) : b64 a := ⟨by have := h.1; omega, by have := h.2; omega⟩
theorem iI_J {a : Int} (h : b32 a) : (iI a).toInt64 = iJ a := Int64.toInt_inj.mp (by rw [Int32.toInt_toInt64, iI_to h, iJ_to (b32_64 h)])
theorem iJ_I (a : Int) : (iJ a).toInt32 = iI a := Int64.toInt32_ofInt
theorem nI_iI (n : Nat) : nI n = iI (n : Int) := (Int32.ofInt_eq_ofNat).symm
theorem iI_nat {a : Int} (h0 : 0 ≤ a) (h : a ≤ 2147483647) : (iI a).toNatClampNeg = a.toNat := by
  show (iI a).toInt.toNat = _
  rw [iI_to ⟨by omega, by omega⟩]
theorem iI_zin {a : Int} {n : Nat} (h0 : 0 ≤ a) (h : a < n) (hn : n ≤ 2147483647) : zin (iI a) n = true := by
  unfold zin
  rw [iI_nat h0 (by omega)]
  have h1 : (0 : Int32) ≤ iI a := by
    show iI 0 ≤ iI a
    rw [iI_le ⟨by omega, by omega⟩ ⟨by omega, by omega⟩]; exact h0
  rw [Bool.and_eq_true, decide_eq_true_eq, decide_eq_true_eq]
  exact ⟨h1, by omega⟩
theorem zck_t {α : Type} {b : Bool} (h : b = true) (k : Option α) : zck b k = k := by rw [zck, if_pos h]
theorem if_c {α : Type} {p q : Prop} [Decidable p] [Decidable q] (h : p = q) (a b : α) : (if p then a else b) = if q then a else b := by
  by_cases hp : p
  · rw [if_pos hp, if_pos (h ▸ hp)]
  · rw [if_neg hp, if_neg (fun z => hp (h ▸ z))]
theorem tdiv_pos {a b : Int} (hb : 0 < b) : a.tdiv b = if 0 ≤ a then a / b else if a % b = 0 then a / b else a / b + 1 := by
  rw [Int.tdiv_eq_ediv]
  by_cases h : 0 ≤ a
  · rw [if_pos (Or.inl h), if_pos h]; omega
  · rw [if_neg h]
    by_cases h2 : a % b = 0
    · rw [if_pos h2, if_pos (Or.inr (Int.dvd_of_emod_eq_zero h2))]; omega
    · rw [if_neg h2, if_neg (by rintro (q | q); exact h q; exact h2 (Int.emod_eq_zero_of_dvd q)), Int.sign_eq_one_of_pos hb]
theorem iI_min {a : Int} (h : b32 a) (h2 : a ≠ -2147483648) : iI a ≠ Int32.minValue := fun q => by
  have := congrArg Int32.toInt q
  rw [iI_to h] at this
  exact h2 this
theorem iJ_min {a : Int} (h : b64 a) (h2 : a ≠ -9223372036854775808) : iJ a ≠ Int64.minValue := fun q => by
  have := congrArg Int64.toInt q
  rw [iJ_to h] at this
  exact h2 this
theorem iI_div {a b : Int} (ha : b32 a) (ha2 : a ≠ -2147483648) (hb : b32 b) : iI a / iI b = iI (a.tdiv b) := by
  rw [← iI_of (iI a / iI b), Int32.toInt_div_of_ne_left _ _ (iI_min ha ha2), iI_to ha, iI_to hb]
theorem iJ_div {a b : Int} (ha : b64 a) (ha2 : a ≠ -9223372036854775808) (hb : b64 b) : iJ a / iJ b = iJ (a.tdiv b) := by
  rw [← iJ_of (iJ a / iJ b), Int64.toInt_div_of_ne_left _ _ (iJ_min ha ha2), iJ_to ha, iJ_to hb]
theorem sgn32 {x y : Int32} (hy : 0 ≤ y) : ((0 : Int32) ≤ x ^^^ y) = ((0 : Int32) ≤ x) := by
  have key : ∀ z : Int32, ((0 : Int32) ≤ z) ↔ z.toBitVec.msb = false := fun z => by
    rw [Int32.le_iff_toInt_le, BitVec.msb_eq_toInt]
    show (0 : Int) ≤ z.toInt ↔ decide (z.toInt < 0) = false
    rw [decide_eq_false_iff_not]; omega
  have h1 := (key y).mp hy
  rw [key, key, Int32.toBitVec_xor, BitVec.msb_xor, h1, Bool.xor_false]
theorem sgn64 {x y : Int64} (hy : 0 ≤ y) : ((0 : Int64) ≤ x ^^^ y) = ((0 : Int64) ≤ x) := by
  have key : ∀ z : Int64, ((0 : Int64) ≤ z) ↔ z.toBitVec.msb = false := fun z => by
    rw [Int64.le_iff_toInt_le, BitVec.msb_eq_toInt]
    show (0 : Int) ≤ z.toInt ↔ decide (z.toInt < 0) = false
    rw [decide_eq_false_iff_not]; omega
  have h1 := (key y).mp hy
  rw [key, key, Int64.toBitVec_xor, BitVec.msb_xor, h1, Bool.xor_false]
theorem b32_tdiv {a b : Int} (ha : b32 a) (h : 0 < b) : b32 (a.tdiv b) := by
  rw [tdiv_pos h]
  have h1 := Int.ediv_mul_le a (Int.ne_of_gt h)
  have h2 := Int.lt_ediv_add_one_mul_self a h
  have := ha.1; have := ha.2
  have e1 : 0 ≤ a → 0 ≤ a / b := fun q => Int.ediv_nonneg q (by omega)
  have e2 : 0 ≤ a → a / b ≤ a := fun q => Int.ediv_le_self b q
  have e3 : a < 0 → a ≤ a / b := fun q => by
    rw [Int.le_ediv_iff_mul_le h]
    have : a * b ≤ a * 1 := Int.mul_le_mul_of_nonpos_left (by omega) (by omega)
    omega
  have e4 : a < 0 → a / b < 0 := fun q => Int.ediv_neg_of_neg_of_pos q h
  unfold b32
  split
  · omega
  · split <;> omega
theorem b64_tdiv {a b : Int} (ha : b64 a) (h : 0 < b) : b64 (a.tdiv b) := by
  rw [tdiv_pos h]
  have := ha.1; have := ha.2
  have e1 : 0 ≤ a → 0 ≤ a / b := fun q => Int.ediv_nonneg q (by omega)
  have e2 : 0 ≤ a → a / b ≤ a := fun q => Int.ediv_le_self b q
  have e3 : a < 0 → a ≤ a / b := fun q => by
    rw [Int.le_ediv_iff_mul_le h]
    have : a * b ≤ a * 1 := Int.mul_le_mul_of_nonpos_left (by omega) (by omega)
    omega
  have e4 : a < 0 → a / b < 0 := fun q => Int.ediv_neg_of_neg_of_pos q h
  unfold b64
  split
  · omega
  · split <;> omega
/-- the rest, as the machine has it -/
theorem iI_mod {a b : Int} (ha : b32 a) (ha2 : a ≠ -2147483648) (hb : b32 b) : iI a - iI a / iI b * iI b = iI (a.tmod b) := by
  rw [iI_div ha ha2 hb, iI_mul, iI_sub, Int.tmod_def, Int.mul_comm]
theorem iJ_mod {a b : Int} (ha : b64 a) (ha2 : a ≠ -9223372036854775808) (hb : b64 b) : iJ a - iJ a / iJ b * iJ b = iJ (a.tmod b) := by
  rw [iJ_div ha ha2 hb, iJ_mul, iJ_sub, Int.tmod_def, Int.mul_comm]
theorem tmod_pos {a b : Int} (hb : 0 < b) : a.tmod b = if 0 ≤ a then a % b else if a % b = 0 then 0 else a % b - b := by
  have h1 := Int.mul_ediv_add_emod a b
  have h2 := Int.mul_tdiv_add_tmod a b
  rw [tdiv_pos hb] at h2
  split at h2
  · rw [if_pos (by assumption)]; omega
  · rw [if_neg (by assumption)]
    split at h2
    · rw [if_pos (by assumption)]; omega
    · rw [if_neg (by assumption)]
      have : b * (a / b + 1) = b * (a / b) + b := by rw [Int.mul_add, Int.mul_one]
      omega
theorem f_divI {a b : Int} (ha : b32 a) (ha2 : a ≠ -2147483648) (h : 0 < b) (hb : b32 b) : j_fdivI (iI a) (iI b) = some (iI (a / b)) := by
  have hb0 : (0 : Int32) ≤ iI b := by show iI 0 ≤ iI b; rw [iI_le ⟨by omega, by omega⟩ hb]; omega
  have z1 : ((0 : Int32) ≤ iI a) = (0 ≤ a) := by show (iI 0 ≤ iI a) = _; rw [iI_le ⟨by omega, by omega⟩ ha]
  have nz : decide (¬ iI b = 0) = true := by rw [decide_eq_true_eq]; show ¬ iI b = iI 0; rw [iI_eq hb ⟨by omega, by omega⟩]; omega
  unfold j_fdivI
  rw [zck_t nz, if_c (sgn32 hb0), if_c z1, iI_div ha ha2 hb]
  by_cases q : 0 ≤ a
  · rw [if_pos q, tdiv_pos h, if_pos q]
  · rw [if_neg q]
    have e1 := Int.mul_ediv_add_emod a b
    have e2 := Int.emod_nonneg a (Int.ne_of_gt h)
    have e3 := Int.emod_lt_of_pos a h
    have t1 : a.tdiv b * b = a - a.tmod b := by have := Int.mul_tdiv_add_tmod a b; rw [Int.mul_comm]; omega
    have t2 := tmod_pos (a := a) h
    rw [if_neg q] at t2
    rw [iI_mul, if_c (iI_eq (by
      rw [t1, t2]; have := ha.1; have := ha.2; have := hb.2
      split
      · exact ⟨by omega, by omega⟩
      · have := Int.mul_comm b (a / b)
        exact ⟨by omega, by omega⟩) ha), t1, t2, tdiv_pos h, if_neg q]
    by_cases q2 : a % b = 0
    · rw [if_pos q2, if_pos q2, if_pos (by omega)]
    · rw [if_neg q2, if_neg q2, if_neg (by omega)]
      show some (iI (a / b + 1) - iI 1) = _
      rw [iI_sub]; congr 2; omega
theorem f_modI {a b : Int} (ha : b32 a) (ha2 : a ≠ -2147483648) (h : 0 < b) (hb : b32 b) : j_fmodI (iI a) (iI b) = some (iI (a % b)) := by
  have hb0 : (0 : Int32) ≤ iI b := by show iI 0 ≤ iI b; rw [iI_le ⟨by omega, by omega⟩ hb]; omega
  have z1 : ((0 : Int32) ≤ iI a) = (0 ≤ a) := by show (iI 0 ≤ iI a) = _; rw [iI_le ⟨by omega, by omega⟩ ha]
  have nz : decide (¬ iI b = 0) = true := by rw [decide_eq_true_eq]; show ¬ iI b = iI 0; rw [iI_eq hb ⟨by omega, by omega⟩]; omega
  unfold j_fmodI
  rw [zck_t nz, if_c (sgn32 hb0), if_c z1, iI_mod ha ha2 hb]
  have e2 := Int.emod_nonneg a (Int.ne_of_gt h)
  have e3 := Int.emod_lt_of_pos a h
  have t2 := tmod_pos (a := a) h
  by_cases q : 0 ≤ a
  · rw [if_pos q, t2, if_pos q]
  · rw [if_neg q] at t2 ⊢
    have hb2 := hb.2
    rw [if_c (show ((iI (a.tmod b) : Int32) = 0) = (a.tmod b = 0) from iI_eq (b := 0) (by rw [t2]; split <;> exact ⟨by omega, by omega⟩) ⟨by omega, by omega⟩), t2]
    by_cases q2 : a % b = 0
    · rw [if_pos q2, if_pos rfl, q2]
    · rw [if_neg q2, if_neg (by omega), iI_add]; congr 2; omega
theorem f_divJ {a b : Int} (ha : b64 a) (ha2 : a ≠ -9223372036854775808) (h : 0 < b) (hb : b64 b) : j_fdivL (iJ a) (iJ b) = some (iJ (a / b)) := by
  have hb0 : (0 : Int64) ≤ iJ b := by show iJ 0 ≤ iJ b; rw [iJ_le ⟨by omega, by omega⟩ hb]; omega
  have z1 : ((0 : Int64) ≤ iJ a) = (0 ≤ a) := by show (iJ 0 ≤ iJ a) = _; rw [iJ_le ⟨by omega, by omega⟩ ha]
  have nz : decide (¬ iJ b = 0) = true := by rw [decide_eq_true_eq]; show ¬ iJ b = iJ 0; rw [iJ_eq hb ⟨by omega, by omega⟩]; omega
  unfold j_fdivL
  rw [zck_t nz, if_c (sgn64 hb0), if_c z1, iJ_div ha ha2 hb]
  by_cases q : 0 ≤ a
  · rw [if_pos q, tdiv_pos h, if_pos q]
  · rw [if_neg q]
    have e1 := Int.mul_ediv_add_emod a b
    have e2 := Int.emod_nonneg a (Int.ne_of_gt h)
    have e3 := Int.emod_lt_of_pos a h
    have t1 : a.tdiv b * b = a - a.tmod b := by have := Int.mul_tdiv_add_tmod a b; rw [Int.mul_comm]; omega
    have t2 := tmod_pos (a := a) h
    rw [if_neg q] at t2
    rw [iJ_mul, if_c (iJ_eq (by
      rw [t1, t2]; have := ha.1; have := ha.2; have := hb.2
      split
      · exact ⟨by omega, by omega⟩
      · have := Int.mul_comm b (a / b)
        exact ⟨by omega, by omega⟩) ha), t1, t2, tdiv_pos h, if_neg q]
    by_cases q2 : a % b = 0
    · rw [if_pos q2, if_pos q2, if_pos (by omega)]
    · rw [if_neg q2, if_neg q2, if_neg (by omega)]
      show some (iJ (a / b + 1) - iJ 1) = _
      rw [iJ_sub]; congr 2; omega
theorem f_modJ {a b : Int} (ha : b64 a) (ha2 : a ≠ -9223372036854775808) (h : 0 < b) (hb : b64 b) : j_fmodL (iJ a) (iJ b) = some (iJ (a % b)) := by
  have hb0 : (0 : Int64) ≤ iJ b := by show iJ 0 ≤ iJ b; rw [iJ_le ⟨by omega, by omega⟩ hb]; omega
  have z1 : ((0 : Int64) ≤ iJ a) = (0 ≤ a) := by show (iJ 0 ≤ iJ a) = _; rw [iJ_le ⟨by omega, by omega⟩ ha]
  have nz : decide (¬ iJ b = 0) = true := by rw [decide_eq_true_eq]; show ¬ iJ b = iJ 0; rw [iJ_eq hb ⟨by omega, by omega⟩]; omega
  unfold j_fmodL
  rw [zck_t nz, if_c (sgn64 hb0), if_c z1, iJ_mod ha ha2 hb]
  have e2 := Int.emod_nonneg a (Int.ne_of_gt h)
  have e3 := Int.emod_lt_of_pos a h
  have t2 := tmod_pos (a := a) h
  by_cases q : 0 ≤ a
  · rw [if_pos q, t2, if_pos q]
  · rw [if_neg q] at t2 ⊢
    have hb2 := hb.2
    rw [if_c (show ((iJ (a.tmod b) : Int64) = 0) = (a.tmod b = 0) from iJ_eq (b := 0) (by rw [t2]; split <;> exact ⟨by omega, by omega⟩) ⟨by omega, by omega⟩), t2]
    by_cases q2 : a % b = 0
    · rw [if_pos q2, if_pos rfl, q2]
    · rw [if_neg q2, if_neg (by omega), iJ_add]; congr 2; omega
