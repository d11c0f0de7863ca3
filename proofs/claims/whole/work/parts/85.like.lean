/-! ===== calls: like ===== -/
def bd (p : Nat → Bool) (l L : Nat) : Prop := L ≤ l ∧ ∀ s, s < L → p s = p (l - L + s)
def mtc (p X : Nat → Bool) (k l : Nat) : Prop := l ≤ k ∧ ∀ s, s < l → p s = X (k - l + s)
theorem bd_self (p : Nat → Bool) (l : Nat) : bd p l l := ⟨Nat.le_refl _, fun s _ => by rw [Nat.sub_self, Nat.zero_add]⟩
theorem bd_tr {p : Nat → Bool} {l L M : Nat} (h : bd p l L) (h' : bd p L M) : bd p l M := by
  refine ⟨by have := h.1; have := h'.1; omega, fun s hs => ?_⟩
  rw [h'.2 s hs, h.2 (L - M + s) (by have := h'.1; omega)]
  congr 1; have := h.1; have := h'.1; omega
theorem bd_in {p : Nat → Bool} {l L M : Nat} (h : bd p l L) (h' : bd p l M) (hM : M ≤ L) : bd p L M := by
  refine ⟨hM, fun s hs => ?_⟩
  rw [h'.2 s hs, h.2 (L - M + s) (by omega)]
  congr 1; have := h.1; omega
theorem mt_bd {p X : Nat → Bool} {k l L : Nat} (h : mtc p X k l) (h' : bd p l L) : mtc p X k L := by
  refine ⟨by have := h.1; have := h'.1; omega, fun s hs => ?_⟩
  rw [h'.2 s hs, h.2 (l - L + s) (by have := h'.1; omega)]
  congr 1; have := h.1; have := h'.1; omega
theorem mt_in {p X : Nat → Bool} {k l L : Nat} (h : mtc p X k l) (h' : mtc p X k L) (hL : L ≤ l) : bd p l L := by
  refine ⟨hL, fun s hs => ?_⟩
  rw [h'.2 s hs, h.2 (l - L + s) (by omega)]
  congr 1; have := h.1; omega
/-- the longest border -/
def mb (p : Nat → Bool) (m b : Nat) : Prop := (bd p m b ∧ b < m) ∧ ∀ L, bd p m L → L < m → L ≤ b
def goR (p : Nat → Bool) (l : Nat) (c : Bool) (r : Nat) : Prop := (∀ L, bd p l L → p L = c → L + 1 ≤ r) ∧ (r = 0 ∨ ∃ L, bd p l L ∧ p L = c ∧ r = L + 1)
def mtx (p X : Nat → Bool) (C k l : Nat) : Prop := mtc p X k l ∧ ∀ L, L ≤ C → mtc p X k L → L ≤ l
theorem mt_0 (p X : Nat → Bool) (k : Nat) : mtc p X k 0 := ⟨Nat.zero_le _, fun s hs => absurd hs (Nat.not_lt_zero _)⟩
theorem mtx_step {p X : Nat → Bool} {C k l r : Nat} (h : mtx p X C k l) (hl : l < C) (hr : goR p l (X k) r) : mtx p X C (k + 1) r ∧ r ≤ l + 1 := by
  obtain ⟨h1, h2⟩ := h
  obtain ⟨r1, r2⟩ := hr
  have hrl : r ≤ l + 1 := by
    rcases r2 with q | ⟨L, a1, a2, a3⟩
    · omega
    · have := a1.1; omega
  refine ⟨⟨?_, fun L hL hm => ?_⟩, hrl⟩
  · rcases r2 with q | ⟨L, a1, a2, a3⟩
    · rw [q]; exact mt_0 ..
    · have a4 := mt_bd h1 a1
      refine ⟨by have := a4.1; omega, fun s hs => ?_⟩
      by_cases t : s = L
      · rw [t, a2]; congr 1; have := a4.1; omega
      · rw [a4.2 s (by omega)]; congr 1; have := a4.1; omega
  · rcases Nat.eq_zero_or_pos L with q | q
    · omega
    · have m1 : mtc p X k (L - 1) := ⟨by have := hm.1; omega, fun s hs => by rw [hm.2 s (by omega)]; congr 1; have := hm.1; omega⟩
      have m2 : p (L - 1) = X k := by rw [hm.2 (L - 1) (by omega)]; congr 1; have := hm.1; omega
      have m3 := h2 (L - 1) (by omega) m1
      have := r1 (L - 1) (mt_in h1 m1 m3) m2
      omega
theorem bd_mt (p : Nat → Bool) (m L : Nat) (h : L < m + 1) : bd p (m + 1) L ↔ mtc p (fun i => p (i + 1)) m L := by
  constructor
  · intro a
    refine ⟨by omega, fun s hs => ?_⟩
    rw [a.2 s hs]; dsimp only; congr 1; omega
  · intro a
    refine ⟨by omega, fun s hs => ?_⟩
    rw [a.2 s hs]; dsimp only; congr 1; omega
theorem mb_of {p : Nat → Bool} {C m l : Nat} (hm : m < C) (h : mtx p (fun i => p (i + 1)) C m l) : mb p (m + 1) l := by
  have hl := h.1.1
  exact ⟨⟨(bd_mt p m l (by omega)).mpr h.1, by omega⟩, fun L hL hlt => h.2 L (by omega) ((bd_mt p m L hlt).mp hL)⟩
def pl (v : vLaw) : Nat → Bool := fun i => lLeap v (i : Int)
theorem c_goOn {v : vLaw} (hv : lOk v) {f : Nat → Int32} {l : Nat} (hl : l ≤ 9998) (hf : ∀ m, 1 ≤ m → m ≤ l → ∃ b : Nat, f (m - 1) = iI (b : Int) ∧ mb (pl v) m b) (c : Bool) {n : Nat} (hn : 250000 ≤ n) : ∃ r : Nat, w_goOn n (some f) v (iI (l : Int)) (zb c) = some (iI (r : Int)) ∧ goR (pl v) l c r := by
  have h44 : ∀ L : Nat, L ≤ 9998 → w_goOn_44 n (some f) v (zb c) (iI (L : Int)) = some (iI ((if pl v L = c then L + 1 else L : Nat) : Int)) := fun L hL => by
    unfold w_goOn_44
    rw [c_leap hv ⟨by omega, by omega⟩ (by omega), Option.bind_some, if_c (zb_eqv _ _), show (iI (L : Int) + 1 : Int32) = iI ((L + 1 : Nat) : Int) from iI_add _ 1]
    show (if pl v L = c then _ else _) = _
    by_cases q : pl v L = c
    · rw [if_pos q, if_pos q]
    · rw [if_neg q, if_neg q]
  unfold w_goOn
  obtain ⟨r, e1, r', e2, e3⟩ := zloop_inv (f := w_goOn_6 n (some f) v (iI (l : Int)) (zb c)) (R := fun s => ∃ L t : Nat, s = (iI (L : Int), iI (t : Int)) ∧ (t ≤ l ∧ L + t ≤ l) ∧ bd (pl v) l L ∧ ∀ M, bd (pl v) l M → pl v M = c → M ≤ L) (S := fun r => ∃ r' : Nat, r = iI (r' : Int) ∧ goR (pl v) l c r') (fun s => s.1.toInt.toNat) (by
    rintro s ⟨L, t, rfl, ht, hb, hu⟩
    unfold w_goOn_6
    dsimp only
    have hLl := hb.1
    have hfin : (L = 0 ∨ pl v L = c) → ∃ r, (w_goOn_44 n (some f) v (zb c) (iI (L : Int))).map (fun z => (Sum.inr z : (Int32 × Int32) ⊕ Int32)) = some (.inr r) ∧ ∃ r' : Nat, r = iI (r' : Int) ∧ goR (pl v) l c r' := fun hh => by
      rw [h44 L (by omega)]
      refine ⟨_, rfl, _, rfl, ?_⟩
      by_cases q : pl v L = c
      · rw [if_pos q]
        exact ⟨fun M h1 h2 => by have := hu M h1 h2; omega, Or.inr ⟨L, hb, q, rfl⟩⟩
      · rw [if_neg q]
        refine ⟨fun M h1 h2 => ?_, Or.inl (by rcases hh with z | z; exact z; exact absurd z q)⟩
        have h3 := hu M h1 h2
        rcases hh with z | z
        · have : M = L := by omega
          rw [this] at h2; exact absurd h2 q
        · exact absurd z q
    rw [if_c (iI_le (a := (l : Int)) (b := (t : Int)) ⟨by omega, by omega⟩ ⟨by omega, by omega⟩), if_c (show (iI (L : Int) ≤ (0 : Int32)) = ((L : Int) ≤ 0) from iI_le (b := 0) ⟨by omega, by omega⟩ ⟨by omega, by omega⟩)]
    by_cases p1 : (l : Int) ≤ (t : Int)
    · right; rw [if_pos p1]; exact hfin (Or.inl (by omega))
    · rw [if_neg p1]
      by_cases p2 : (L : Int) ≤ 0
      · right; rw [if_pos p2]; exact hfin (Or.inl (by omega))
      · rw [if_neg p2, c_leap hv ⟨by omega, by omega⟩ (by omega), Option.bind_some, if_c (zb_eqv _ _)]
        by_cases p3 : lLeap v (L : Int) = c
        · right; rw [if_pos p3]; exact hfin (Or.inr p3)
        · left
          obtain ⟨b, b1, ⟨b2, b3⟩, b4⟩ := hf L (by omega) hLl
          rw [if_neg p3, zO_s, show (iI (L : Int) - 1 : Int32) = iI ((L - 1 : Nat) : Int) by rw [show (1 : Int32) = iI 1 by decide +kernel, iI_sub]; congr 1; omega, zck_t (iI_zin (by omega) (by omega) (by omega)), iI_nat (by omega) (by omega), Int.toNat_natCast, b1, show (iI (t : Int) + 1 : Int32) = iI ((t + 1 : Nat) : Int) from iI_add _ 1]
          refine ⟨_, rfl, ⟨b, t + 1, rfl, ⟨by omega, by omega⟩, bd_tr hb b2, fun M h1 h2 => ?_⟩, ?_⟩
          · have h3 := hu M h1 h2
            have h4 : M ≠ L := fun z => by rw [z] at h2; exact p3 h2
            exact b4 M (bd_in hb h1 (by omega)) (by omega)
          · dsimp only; rw [iI_to ⟨by omega, by omega⟩, iI_to ⟨by omega, by omega⟩]; omega) n (iI (l : Int), 0) ⟨l, 0, rfl, ⟨by omega, by omega⟩, bd_self _ _, fun M h1 _ => h1.1⟩ (by dsimp only; rw [iI_to ⟨by omega, by omega⟩]; omega)
  exact ⟨r', by rw [e1, e2], e3⟩
theorem c_fill {v : vLaw} (hv : lOk v) {C : Nat} (hC : 1 ≤ C ∧ C ≤ 9999) (bo : Option (Nat → Int32)) {n : Nat} (hn : 250000 ≤ n) : ∃ f : Nat → Int32, w_fillBorders n bo v (iI (C : Int)) = some (some f) ∧ ∀ m, 1 ≤ m → m ≤ C → ∃ b : Nat, f (m - 1) = iI (b : Int) ∧ mb (pl v) m b := by
  have h16 : ∀ f0 : Nat → Int32, ∃ f : Nat → Int32, w_fillBorders_16 n (some f0) v (iI (C : Int)) = some (some f) ∧ ∀ m, 1 ≤ m → m ≤ C → ∃ b : Nat, f (m - 1) = iI (b : Int) ∧ mb (pl v) m b := fun f0 => by
    unfold w_fillBorders_16
    rw [zO_s, zck_t (by decide +kernel), show (0 : Int32).toNatClampNeg = 0 by decide +kernel]
    obtain ⟨r, e1, f, e2, e3⟩ := zloop_inv (f := w_fillBorders_28 n v (iI (C : Int))) (R := fun s => ∃ (l i : Nat) (f : Nat → Int32), s = (iI (l : Int), iI (i : Int), some f) ∧ (1 ≤ i ∧ i ≤ C) ∧ mtx (pl v) (fun j => pl v (j + 1)) C (i - 1) l ∧ ∀ m, 1 ≤ m → m ≤ i → ∃ b : Nat, f (m - 1) = iI (b : Int) ∧ mb (pl v) m b) (S := fun r => ∃ f, r = some f ∧ ∀ m, 1 ≤ m → m ≤ C → ∃ b : Nat, f (m - 1) = iI (b : Int) ∧ mb (pl v) m b) (fun s => ((C : Int) - s.2.1.toInt).toNat) (by
      rintro s ⟨l, i, f, rfl, hi, hm, hf⟩
      unfold w_fillBorders_28
      dsimp only
      rw [if_c (iI_le (a := (C : Int)) (b := (i : Int)) ⟨by omega, by omega⟩ ⟨by omega, by omega⟩)]
      by_cases p : (C : Int) ≤ (i : Int)
      · right
        rw [if_pos p]
        exact ⟨_, rfl, f, rfl, fun m m1 m2 => hf m m1 (by omega)⟩
      · left
        have hl := hm.1.1
        obtain ⟨r, g1, g2⟩ := c_goOn hv (f := f) (l := l) (by omega) (fun m m1 m2 => hf m m1 (by omega)) (lLeap v (i : Int)) hn
        have hstep := mtx_step (k := i - 1) hm (by omega) (r := r) (by
          show goR (pl v) l (pl v (i - 1 + 1)) r
          rw [show i - 1 + 1 = i by omega]; exact g2)
        rw [show i - 1 + 1 = i by omega] at hstep
        rw [if_neg p, c_leap hv ⟨by omega, by omega⟩ (by omega), Option.bind_some, g1, Option.bind_some, zO_s, zck_t (iI_zin (by omega) (by omega) (by omega)), iI_nat (by omega) (by omega), Int.toNat_natCast, show (iI (i : Int) + 1 : Int32) = iI ((i + 1 : Nat) : Int) from iI_add _ 1]
        refine ⟨_, rfl, ⟨r, i + 1, _, rfl, ⟨by omega, by omega⟩, hstep.1, fun m m1 m2 => ?_⟩, ?_⟩
        · by_cases t : m = i + 1
          · rw [t, Nat.add_sub_cancel, upd_at]
            exact ⟨r, rfl, mb_of (by omega) hstep.1⟩
          · rw [upd_ne (by omega)]; exact hf m m1 (by omega)
        · dsimp only; rw [iI_to ⟨by omega, by omega⟩, iI_to ⟨by omega, by omega⟩]; omega) n (0, 1, some (upd f0 0 0)) ⟨0, 1, upd f0 0 0, rfl, ⟨by omega, by omega⟩, ⟨mt_0 .., fun L _ h => h.1⟩, fun m m1 m2 => by
        have : m = 1 := by omega
        subst this
        exact ⟨0, upd_at, mb_of (C := C) (m := 0) (by omega) ⟨mt_0 .., fun L _ h => h.1⟩⟩⟩ (by show ((C : Int) - (iI 1).toInt).toNat < n; rw [iI_to ⟨by omega, by omega⟩]; omega)
    exact ⟨f, by rw [e1, e2], e3⟩
  unfold w_fillBorders
  cases bo with
  | none => rw [zO_n]; exact h16 _
  | some f0 => rw [zO_s]; exact h16 _
def hitAt (p X : Nat → Bool) (C t : Nat) : Prop := ∀ s, s < C → p s = X (s + t)
/-- the first place of the round, or -1 -/
def plc (p X : Nat → Bool) (C : Nat) (r : Int32) : Prop := (∃ t : Nat, t < C ∧ hitAt p X C t ∧ (∀ t', t' < t → ¬ hitAt p X C t') ∧ r = iI (t : Int)) ∨ ((∀ t, t < C → ¬ hitAt p X C t) ∧ r = -1)
theorem plc_u {p X : Nat → Bool} {C : Nat} {r r' : Int32} (h : plc p X C r) (h' : plc p X C r') : r = r' := by
  rcases h with ⟨t, a1, a2, a3, rfl⟩ | ⟨a1, rfl⟩
  · rcases h' with ⟨u, b1, b2, b3, rfl⟩ | ⟨b1, rfl⟩
    · have : t = u := by
        rcases Nat.lt_trichotomy t u with q | q | q
        · exact absurd a2 (b3 t q)
        · exact q
        · exact absurd b2 (a3 u q)
      rw [this]
    · exact absurd a2 (b1 t a1)
  · rcases h' with ⟨u, b1, b2, b3, rfl⟩ | ⟨b1, rfl⟩
    · exact absurd b2 (a1 u b1)
    · rfl
theorem c_place {v u : vLaw} (hv : lOk v) (hu : lOk u) {C : Nat} (hC : 1 ≤ C ∧ C ≤ 9999) {f : Nat → Int32} (hf : ∀ m, 1 ≤ m → m ≤ C → ∃ b : Nat, f (m - 1) = iI (b : Int) ∧ mb (pl v) m b) {n : Nat} (hn : 250000 ≤ n) : ∃ r, w_placeInRound n (some f) v u (iI (C : Int)) = some r ∧ plc (pl v) (pl u) C r := by
  unfold w_placeInRound
  obtain ⟨r, e1, e2⟩ := zloop_inv (f := w_placeInRound_6 n (some f) v u (iI (C : Int))) (R := fun s => ∃ l i : Nat, s = (iI (l : Int), iI (i : Int)) ∧ (i ≤ 2 * C - 1 ∧ l < C) ∧ mtx (pl v) (pl u) C i l ∧ ∀ t, t + C ≤ i → ¬ hitAt (pl v) (pl u) C t) (S := fun r => plc (pl v) (pl u) C r) (fun s => (2 * (C : Int) - 1 - s.2.toInt).toNat) (by
    rintro s ⟨l, i, rfl, hi, hm, hno⟩
    unfold w_placeInRound_6
    dsimp only
    have e1 : (2 * iI (C : Int) - 1 : Int32) = iI (2 * (C : Int) - 1) := by rw [show (2 : Int32) = iI 2 by decide +kernel, show (1 : Int32) = iI 1 by decide +kernel, iI_mul, iI_sub]
    rw [e1, if_c (iI_le (a := 2 * (C : Int) - 1) (b := (i : Int)) ⟨by omega, by omega⟩ ⟨by omega, by omega⟩)]
    by_cases p : 2 * (C : Int) - 1 ≤ (i : Int)
    · right
      rw [if_pos p]
      exact ⟨_, rfl, Or.inr ⟨fun t ht => hno t (by omega), rfl⟩⟩
    · obtain ⟨r, g1, g2⟩ := c_goOn hv (f := f) (l := l) (by omega) (fun m m1 m2 => hf m m1 (by omega)) (lLeap u (i : Int)) hn
      obtain ⟨s1, s2⟩ := mtx_step hm hi.2 (r := r) g2
      have hrC : r ≤ C := by omega
      rw [if_neg p, c_leap hu ⟨by omega, by omega⟩ (by omega), Option.bind_some, g1, Option.bind_some, if_c (iI_eq (a := (r : Int)) (b := (C : Int)) ⟨by omega, by omega⟩ ⟨by omega, by omega⟩)]
      by_cases q : (r : Int) = (C : Int)
      · right
        have hrc : r = C := by omega
        subst hrc
        have h1 := s1.1.1
        rw [if_pos q]
        refine ⟨_, rfl, Or.inl ⟨i + 1 - r, by omega, fun s hs => ?_, fun t ht => hno t (by omega), ?_⟩⟩
        · rw [s1.1.2 s hs]; congr 1; omega
        · rw [show (1 : Int32) = iI 1 by decide +kernel, iI_sub, iI_add]; congr 1; omega
      · left
        rw [if_neg q, show (iI (i : Int) + 1 : Int32) = iI ((i + 1 : Nat) : Int) from iI_add _ 1]
        refine ⟨_, rfl, ⟨r, i + 1, rfl, ⟨by omega, by omega⟩, s1, fun t ht hh => ?_⟩, ?_⟩
        · by_cases t1 : t + C = i + 1
          · have : C ≤ r := s1.2 C (Nat.le_refl _) ⟨by omega, fun s hs => by rw [hh s hs]; congr 1; omega⟩
            omega
          · exact hno t (by omega) hh
        · dsimp only; rw [iI_to ⟨by omega, by omega⟩, iI_to ⟨by omega, by omega⟩]; omega) n (0, 0) ⟨0, 0, rfl, ⟨by omega, by omega⟩, ⟨mt_0 .., fun L _ h => h.1⟩, fun t ht => by omega⟩ (by show (2 * (C : Int) - 1 - (iI 0).toInt).toNat < n; rw [iI_to ⟨by omega, by omega⟩]; omega)
  exact ⟨r, e1, e2⟩
theorem m_areLike {d e : vDes} (hd : vOk d) (he : vOk e) {w : Nat → Int32} {a b : Nat} (ha : a ≤ 35360) (hb : b ≤ 35360) (hw : DR d w a) (hv : DR e w b) {C : Nat} (hC : lCyc d.2.1 = C) {t : Nat} (ht : t ≤ 9999) {n : Nat} (hn : 250000 ≤ n) : ∃ r, mareLike n w (iI (a : Int)) (iI (b : Int)) (iI (t : Int)) = some r ∧ (r = true ↔ hitAt (pl d.2.1) (pl e.2.1) C t) := by
  have hCb := lCyc_bd hd.2.1
  have hcy := LR_cyc hd.2.1 hw.2.2.2.2.2.2.2.2.1
  unfold mareLike
  obtain ⟨r, e1, e2⟩ := zloop_inv (f := mareLike_3 n w (iI (a : Int)) (iI (b : Int)) (iI (t : Int))) (R := fun s => ∃ i : Nat, s = iI (i : Int) ∧ i ≤ C ∧ ∀ j, j < i → pl d.2.1 j = pl e.2.1 (j + t)) (S := fun r => r = true ↔ hitAt (pl d.2.1) (pl e.2.1) C t) (fun s => ((C : Int) - s.toInt).toNat) (by
    rintro s ⟨i, rfl, hi, hm⟩
    unfold mareLike_3
    rw [zck_t (watz a 8 (by omega)), wat a 8 (by omega), hcy, hC, if_c (iI_le (a := (C : Int)) (b := (i : Int)) ⟨by omega, by omega⟩ ⟨by omega, by omega⟩)]
    by_cases p : (C : Int) ≤ (i : Int)
    · right
      rw [if_pos p]
      exact ⟨_, rfl, ⟨fun _ s hs => hm s (by omega), fun _ => rfl⟩⟩
    · rw [if_neg p, iI_add, iI_J ⟨by omega, by omega⟩, m_leap hd.2.1 ha hw.2.2.2.2.2.2.2.2.1 ⟨by omega, by omega⟩ (by omega), Option.bind_some, iI_J ⟨by omega, by omega⟩, m_leap he.2.1 hb hv.2.2.2.2.2.2.2.2.1 ⟨by omega, by omega⟩ (by omega), Option.bind_some, if_c (zb_eqv _ _)]
      have e5 : lLeap e.2.1 ((i : Int) + (t : Int)) = pl e.2.1 (i + t) := by unfold pl; congr 1
      rw [e5]
      by_cases q : lLeap d.2.1 (i : Int) = pl e.2.1 (i + t)
      · left
        rw [if_pos q, show (iI (i : Int) + 1 : Int32) = iI ((i + 1 : Nat) : Int) from iI_add _ 1]
        refine ⟨_, rfl, ⟨i + 1, rfl, by omega, fun j hj => ?_⟩, ?_⟩
        · by_cases u : j = i
          · rw [u]; exact q
          · exact hm j (by omega)
        · rw [iI_to ⟨by omega, by omega⟩, iI_to ⟨by omega, by omega⟩]; omega
      · right
        rw [if_neg q]
        exact ⟨_, rfl, ⟨fun z => (by cases z), fun z => absurd (z i (by omega)) q⟩⟩) n 0 ⟨0, rfl, by omega, fun j hj => by omega⟩ (by show ((C : Int) - (iI 0).toInt).toNat < n; rw [iI_to ⟨by omega, by omega⟩]; omega)
  exact ⟨r, e1, e2⟩
theorem hit_count {v u : vLaw} (hv : lOk v) (hu : lOk u) {C t : Nat} (h : hitAt (pl v) (pl u) C t) : ∀ s, s ≤ C → lTo v (s : Int) = lTo u ((s + t : Nat) : Int) - lTo u (t : Int)
  | 0, _ => by rw [show ((0 : Nat) : Int) = 0 from rfl, lTo_0 hv, Nat.zero_add]; omega
  | s + 1, hs => by
    have ih := hit_count hv hu h s (by omega)
    have h1 := h s (by omega)
    unfold pl at h1
    rw [show ((s + 1 : Nat) : Int) = (s : Int) + 1 by omega, lTo_succ hv, show ((s + 1 + t : Nat) : Int) = ((s + t : Nat) : Int) + 1 by omega, lTo_succ hu, h1, ih]
    omega
theorem lTo_per {v : vLaw} (hv : lOk v) : ∀ t : Nat, lTo v ((t : Int) + lCyc v) = lTo v (t : Int) + lTo v (lCyc v)
  | 0 => by rw [show ((0 : Nat) : Int) = 0 from rfl, lTo_0 hv, Int.zero_add, Int.zero_add]
  | t + 1 => by
    rw [show ((t + 1 : Nat) : Int) = (t : Int) + 1 by omega, show (t : Int) + 1 + lCyc v = (t : Int) + lCyc v + 1 by omega, lTo_succ hv, lTo_succ hv, lTo_per hv t, lLeap_per hv]
    omega
theorem hc_like : HC_like Inv := by
  intro A tp dv cs cv jv bo hg lw sb F G tq w oc z0 z1 h
  have hn := hn_f
  unfold w_like mlike
  rcases atD h.2.2.1 z0 with ⟨h1, h2⟩ | ⟨s, d, hs, rfl, hdv, h1, h2, h3, hd, hw⟩
  · rcases atD h.2.2.1 z1 with ⟨k1, k2⟩ | ⟨t, e, ht, rfl, hev, k1, k2, k3, he, hv⟩
    · rw [h1, h2, Option.bind_some, zO_n, k1]; exact ⟨_, _, rfl, rfl, rfl, h.thr⟩
    · rw [h1, h2, Option.bind_some, zO_n, k1]; exact ⟨_, _, rfl, rfl, rfl, h.thr⟩
  · rcases atD h.2.2.1 z1 with ⟨k1, k2⟩ | ⟨t, e, ht, rfl, hev, k1, k2, k3, he, hv⟩
    · rw [h1, h2, Option.bind_some, zO_s, k1, k2]; exact ⟨_, _, rfl, rfl, rfl, h.thr⟩
    · have hC1 := lCyc_bd hd.2.1
      have hC2 := lCyc_bd he.2.1
      have hcy1 := LR_cyc hd.2.1 hw.2.2.2.2.2.2.2.2.1
      have hcy2 := LR_cyc he.2.1 hv.2.2.2.2.2.2.2.2.1
      have ic1 := (cm_inCyc hd (b := 442 * s) (by omega) hw (show 7 ≤ fuel by omega)).2
      have ic2 := (cm_inCyc he (b := 442 * t) (by omega) hv (show 7 ≤ fuel by omega)).2
      simp only [h1, h2, h3, k1, k2, k3, Option.bind_some, zO_s, ↓reduceIte, c_cyc hd.2.1, c_cyc he.2.1, ic1, ic2]
      rw [zck_t (watz (442 * s) 8 (by omega)), wat (442 * s) 8 (by omega), zck_t (watz (442 * t) 8 (by omega)), wat (442 * t) 8 (by omega), hcy1, hcy2, if_c (iI_eq ⟨by omega, by omega⟩ ⟨by omega, by omega⟩), if_c (iI_eq ⟨by omega, by omega⟩ ⟨by omega, by omega⟩)]
      by_cases q : lCyc d.2.1 = lCyc e.2.1
      · rw [if_pos q, if_pos q, if_c (show (iI (lCyc d.2.1) ≤ (9999 : Int32)) = (lCyc d.2.1 ≤ 9999) from iI_le (b := 9999) ⟨by omega, by omega⟩ ⟨by omega, by omega⟩), if_pos hC1.2]
        obtain ⟨C, hC⟩ : ∃ C : Nat, lCyc d.2.1 = C := ⟨(lCyc d.2.1).toNat, by omega⟩
        obtain ⟨f, f1, f2⟩ := c_fill hd.2.1 (C := C) ⟨by omega, by omega⟩ bo hn
        obtain ⟨r, r1, r2⟩ := c_place hd.2.1 he.2.1 (C := C) ⟨by omega, by omega⟩ f2 hn
        have hI : Inv A tp dv cs cv jv (some f) hg lw sb (upd F 0 0) G tq w oc := h.fld ⟨rfl, rfl, rfl, rfl, rfl, rfl⟩ ⟨rfl, rfl⟩
        have b1 := lTo_abs hd.2.1 (y := lCyc d.2.1) ⟨by omega, by omega⟩
        have b2 := lTo_abs he.2.1 (y := lCyc e.2.1) ⟨by omega, by omega⟩
        rw [hC, f1, Option.bind_some, r1, Option.bind_some, if_c (iI_eq (a := lTo d.2.1 (C : Int)) (b := lTo e.2.1 (lCyc e.2.1)) (by rw [← hC]; exact ⟨by omega, by omega⟩) ⟨by omega, by omega⟩)]
        by_cases q2 : lTo d.2.1 (C : Int) = lTo e.2.1 (lCyc e.2.1)
        · rw [if_pos q2]
          obtain ⟨r', e1, e2, e3⟩ := zloop_inv (f := mlike_75 fuel (upd F 0 0) w (iI ((442 * s : Nat) : Int)) (iI ((442 * t : Nat) : Int))) (R := fun a => ∃ i : Nat, a = iI (i : Int) ∧ i ≤ C ∧ ∀ j, j < i → ¬ hitAt (pl d.2.1) (pl e.2.1) C j) (S := fun r' => plc (pl d.2.1) (pl e.2.1) C r'.1 ∧ r'.2 = upd F 0 0) (fun a => ((C : Int) - a.toInt).toNat) (by
            rintro a ⟨i, rfl, hi, hno⟩
            unfold mlike_75
            rw [zck_t (watz (442 * s) 8 (by omega)), wat (442 * s) 8 (by omega), hcy1, hC, if_c (iI_le (a := (C : Int)) (b := (i : Int)) ⟨by omega, by omega⟩ ⟨by omega, by omega⟩)]
            by_cases p : (C : Int) ≤ (i : Int)
            · right
              rw [if_pos p]
              exact ⟨_, rfl, Or.inr ⟨fun j hj => hno j (by omega), rfl⟩, rfl⟩
            · obtain ⟨rr, g1, g2⟩ := m_areLike hd he (a := 442 * s) (b := 442 * t) (by omega) (by omega) hw hv hC (t := i) (by omega) hn
              rw [if_neg p, g1, Option.bind_some]
              by_cases p2 : rr = true
              · right
                rw [if_pos p2]
                exact ⟨_, rfl, Or.inl ⟨i, by omega, g2.mp p2, hno, rfl⟩, rfl⟩
              · left
                rw [if_neg p2, show (iI (i : Int) + 1 : Int32) = iI ((i + 1 : Nat) : Int) from iI_add _ 1]
                refine ⟨_, rfl, ⟨i + 1, rfl, by omega, fun j hj => ?_⟩, ?_⟩
                · by_cases u : j = i
                  · rw [u]; exact fun z => p2 (g2.mpr z)
                  · exact hno j (by omega)
                · rw [iI_to ⟨by omega, by omega⟩, iI_to ⟨by omega, by omega⟩]; omega) fuel 0 ⟨0, rfl, by omega, fun j hj => by omega⟩ (by show ((C : Int) - (iI 0).toInt).toNat < fuel; rw [iI_to ⟨by omega, by omega⟩]; omega)
          rw [e1]
          exact ⟨_, _, rfl, rfl, plc_u r2 e2, by rw [e3]; exact hI⟩
        · rw [if_neg q2]
          refine ⟨_, _, rfl, rfl, ?_, hI⟩
          rcases r2 with ⟨j, a1, a2, a3, a4⟩ | ⟨a1, a2⟩
          · exfalso
            apply q2
            have c1 := hit_count hd.2.1 he.2.1 a2 C (Nat.le_refl _)
            have c2 := lTo_per he.2.1 j
            rw [c1, show ((C + j : Nat) : Int) = (j : Int) + lCyc e.2.1 by omega, c2]
            omega
          · exact a2
      · rw [if_neg q, if_neg q]; exact ⟨_, _, rfl, rfl, rfl, h.thr⟩
