/-! ===== design: what both readers do with a token ===== -/
def FI (tp : Nat → Int32) (L : Nat) (F M : Nat → Int32) : Prop := (F 0 = nI L ∧ F 3 = 0 ∧ F 4 = -1) ∧ (M 3 = nI L ∧ M 6 = 0 ∧ M 7 = -1) ∧ ∃ a fr to : Nat, (F 2 = nI fr ∧ F 6 = nI to ∧ M 4 = nI a) ∧ rnn tp L 1 a fr ∧ (a ≤ L ∧ fr ≤ to ∧ to ≤ L) ∧ TK tp L fr to (F 1) (M 5 = nI fr) ∧ ∃ e : Int, M 5 = iI e ∧ -1 ≤ e ∧ e ≤ a
def BD (L : Nat) (F M : Nat → Int32) : Prop := (F 3 ≠ 0 ∧ F 1 = 0 ∧ F 0 = nI L) ∧ (M 3 = nI L ∧ M 6 = F 3 ∧ M 7 = F 4) ∧ ∃ a : Nat, a ≤ L ∧ M 4 = nI a
def SS (tp : Nat → Int32) (L : Nat) (F M : Nat → Int32) : Prop := FI tp L F M ∨ BD L F M
def KP (M M' : Nat → Int32) : Prop := ∀ i, i ≠ 4 → i ≠ 5 → i ≠ 6 → i ≠ 7 → i ≠ 10 → i ≠ 11 → M' i = M i
theorem KP.r (M : Nat → Int32) : KP M M := fun _ _ _ _ _ _ _ => rfl
theorem KP.t {M M' M'' : Nat → Int32} (h : KP M M') (h' : KP M' M'') : KP M M'' := fun i a b c d e f => (h' i a b c d e f).trans (h i a b c d e f)
theorem not_both {tp : Nat → Int32} {L : Nat} {F M : Nat → Int32} (h : FI tp L F M) (h' : BD L F M) : False := h'.1.1 h.1.2.1
theorem m_next {tp tq : Nat → Int32} (hq : ∀ i, i < 800 → tq i = tp i) {L : Nat} (hL : L ≤ 800) {M : Nat → Int32} {a : Nat} (h3 : M 3 = nI L) (h4 : M 4 = nI a) (ha : a ≤ L) {n : Nat} (hn : 250000 ≤ n) : ∃ (q : Nat) (M' : Nat → Int32), mnext n M tq = some (nI q, M') ∧ rnn tp L 1 a q ∧ M' 4 = nI q ∧ ∀ i, i ≠ 4 → M' i = M i := by
  unfold mnext
  obtain ⟨r, e1, q, e2, e3, e4, e5⟩ := zloop_inv (f := mnext_0 n tq) (R := fun s => ∃ q : Nat, a ≤ q ∧ q ≤ L ∧ s 4 = nI q ∧ (∀ i, i ≠ 4 → s i = M i) ∧ ∀ i, a ≤ i → i < q → i < L ∧ so (tp i) = 1) (S := fun r => ∃ q : Nat, r.1 = nI q ∧ rnn tp L 1 a q ∧ r.2 4 = nI q ∧ ∀ i, i ≠ 4 → r.2 i = M i) (fun s => L - (s 4).toNatClampNeg) (by
    rintro s ⟨q, hq1, hqL, h4', hot, hall⟩
    unfold mnext_0 mnext_39
    rw [if_c (show (s 3 ≤ s 4) = (L ≤ q) by rw [hot 3 (by omega), h3, h4', qI_le (by omega) (by omega)])]
    by_cases p : L ≤ q
    · right
      rw [if_pos p]
      exact ⟨_, rfl, q, h4', ⟨hq1, hall, fun z => by omega⟩, h4', hot⟩
    · have hso := (so_e (tp q)).2.1
      rw [if_neg p, h4', zck_t (qI_z (by omega) (by omega)), qI_n (by omega), hq q (by omega), zck_t (qI_z (by omega) (by omega)), qI_1]
      have hstep : so (tp q) = 1 → ∃ s', (some (.inl (upd s 4 (nI (q + 1)))) : Option ((Nat → Int32) ⊕ (Int32 × (Nat → Int32)))) = some (.inl s') ∧ (∃ q : Nat, a ≤ q ∧ q ≤ L ∧ s' 4 = nI q ∧ (∀ i, i ≠ 4 → s' i = M i) ∧ ∀ i, a ≤ i → i < q → i < L ∧ so (tp i) = 1) ∧ L - (s' 4).toNatClampNeg < L - (nI q).toNatClampNeg := fun z => by
        refine ⟨_, rfl, ⟨q + 1, by omega, by omega, upd_at, fun i hi => (upd_ne hi).trans (hot i hi), fun i i0 i1 => ?_⟩, by rw [upd_at, qI_n (by omega), qI_n (by omega)]; omega⟩
        by_cases t : i = q
        · rw [t]; exact ⟨by omega, z⟩
        · exact hall i i0 (by omega)
      by_cases p2 : tp q = 32
      · left; rw [if_pos p2]
        obtain ⟨s', a1, a2, a3⟩ := hstep (by rw [hso]; exact Or.inl p2)
        exact ⟨s', a1, a2, by rw [qI_n (by omega)] at a3; exact a3⟩
      · rw [if_neg p2]
        by_cases p3 : tp q = 10
        · left; rw [if_pos p3]
          obtain ⟨s', a1, a2, a3⟩ := hstep (by rw [hso]; exact Or.inr p3)
          exact ⟨s', a1, a2, by rw [qI_n (by omega)] at a3; exact a3⟩
        · right
          rw [if_neg p3]
          exact ⟨_, rfl, q, rfl, ⟨hq1, hall, fun z => by have z2 := z.2; rw [hso] at z2; rcases z2 with z2 | z2; exact p2 z2; exact p3 z2⟩, h4', hot⟩) n M ⟨a, Nat.le_refl _, ha, h4, fun _ _ => rfl, fun i i0 i1 => by omega⟩ (by rw [h4, qI_n (by omega)]; omega)
  obtain ⟨r1, r2⟩ := r
  dsimp only at e2 e4 e5
  subst e2
  exact ⟨q, r2, e1, e3, e4, e5⟩
/-- the reference looks at the next token -/
theorem SS_next {tp tq : Nat → Int32} (hq : ∀ i, i < 800 → tq i = tp i) {L : Nat} (hL : L ≤ 800) {F M : Nat → Int32} (h : SS tp L F M) {n : Nat} (hn : 250000 ≤ n) : ∃ (q : Nat) (M' : Nat → Int32), mnext n M tq = some (nI q, M') ∧ q ≤ L ∧ M' 4 = nI q ∧ (∀ i, i ≠ 4 → M' i = M i) ∧ SS tp L F M' ∧ (FI tp L F M → F 2 = nI q ∧ FI tp L F M' ∧ ¬ (q < L ∧ so (tp q) = 1) ∧ ∃ to, F 6 = nI to ∧ (q ≤ to ∧ to ≤ L) ∧ TK tp L q to (F 1) (M 5 = nI q)) := by
  rcases h with h | h
  · obtain ⟨h1, h2, a, fr, to, ⟨h3, h4, h5⟩, h6, ⟨h7, h8, h9⟩, h10, e0, h11, h12, h13⟩ := id h
    obtain ⟨q, M', e1, e2, e3, e4⟩ := m_next hq hL h2.1 h5 h7 hn
    have hqf := rnn_u e2 h6
    subst hqf
    have hqL := rnn_le e2 h7
    have hfi : FI tp L F M' := ⟨h1, ⟨(e4 3 (by omega)).trans h2.1, (e4 6 (by omega)).trans h2.2.1, (e4 7 (by omega)).trans h2.2.2⟩, q, q, to, ⟨h3, h4, e3⟩, ⟨Nat.le_refl _, fun i i0 i1 => by omega, h6.2.2⟩, ⟨hqL, h8, h9⟩, by rw [e4 5 (by omega)]; exact h10, e0, (e4 5 (by omega)).trans h11, h12, by have := e2.1; omega⟩
    exact ⟨q, M', e1, hqL, e3, e4, Or.inl hfi, fun _ => ⟨h3, hfi, h6.2.2, to, h4, ⟨h8, h9⟩, h10⟩⟩
  · obtain ⟨h1, h2, a, h3, h4⟩ := id h
    obtain ⟨q, M', e1, e2, e3, e4⟩ := m_next hq hL h2.1 h4 h3 hn
    have hqL := rnn_le e2 h3
    exact ⟨q, M', e1, hqL, e3, e4, Or.inr ⟨h1, ⟨(e4 3 (by omega)).trans h2.1, (e4 6 (by omega)).trans h2.2.1, (e4 7 (by omega)).trans h2.2.2⟩, q, hqL, e3⟩, fun z => (not_both z h).elim⟩
theorem m_fine {M : Nat → Int32} : misFine M = some (decide (M 6 = 0)) := by
  unfold misFine
  by_cases p : M 6 = 0
  · rw [if_pos p, decide_eq_true p]
  · rw [if_neg p, decide_eq_false p]
theorem SS_fine {tp : Nat → Int32} {L : Nat} {F M : Nat → Int32} (h : SS tp L F M) : (M 6 = 0 ∧ FI tp L F M) ∨ (¬ M 6 = 0 ∧ BD L F M) := by
  rcases h with h | h
  · exact Or.inl ⟨h.2.1.2.1, h⟩
  · exact Or.inr ⟨by rw [h.2.1.2.1]; exact h.1.1, h⟩
/-- both fail at the same place -/
theorem SS_fail {tp : Nat → Int32} {L : Nat} (hL : L ≤ 800) {F M : Nat → Int32} (h : SS tp L F M) {k p p' : Int32} (hk : k ≠ 0) (hp : FI tp L F M → p = p') : ∃ F' M', n_fail F k p = some F' ∧ mfail M k p' = some M' ∧ BD L F' M' ∧ KP M M' ∧ M' 11 = M 11 := by
  unfold n_fail mfail
  rcases h with h | h
  · obtain ⟨h1, h2, a, fr, to, ⟨h3, h4, h5⟩, h6, ⟨h7, h8, h9⟩, h10, _⟩ := id h
    rw [if_pos h1.2.1, if_pos h2.2.1]
    refine ⟨_, _, rfl, rfl, ⟨⟨hk, rfl, h1.1⟩, ⟨h2.1, rfl, (hp h).symm⟩, a, h7, h5⟩, fun i a b c d e f => (upd_ne d).trans (upd_ne c), rfl⟩
  · obtain ⟨⟨h1, h2, h3⟩, h4, h5⟩ := id h
    rw [if_neg h1, if_neg (by rw [h4.2.1]; exact h1)]
    exact ⟨_, _, rfl, rfl, ⟨⟨h1, rfl, h3⟩, h4, h5⟩, KP.r _, rfl⟩
theorem c_bad {L : Nat} {F M : Nat → Int32} (h : BD L F M) (tp : Nat → Int32) (n : Nat) : n_advance n F tp = some F := by
  unfold n_advance
  rw [if_neg h.1.1]
def cdf (f : Nat → Int32) : Nat → Int
  | 0 => 0
  | m + 1 => 32 * cdf f m + (f m).toInt - 96
theorem cdf_p {f : Nat → Int32} : ∀ m, (∀ i, i < m → 97 ≤ (f i).toInt ∧ (f i).toInt ≤ 122) → (m = 0 ∧ cdf f m = 0) ∨ 1 ≤ cdf f m
  | 0, _ => Or.inl ⟨rfl, rfl⟩
  | m + 1, h => by
    have h1 := cdf_p m (fun i hi => h i (by omega))
    have h2 := h m (by omega)
    rw [cdf]; right; omega
theorem cdf_u {f g : Nat → Int32} : ∀ m k, (∀ i, i < m → 97 ≤ (f i).toInt ∧ (f i).toInt ≤ 122) → (∀ i, i < k → 97 ≤ (g i).toInt ∧ (g i).toInt ≤ 122) → cdf f m = cdf g k → m = k ∧ ∀ i, i < m → f i = g i
  | 0, 0, _, _, _ => ⟨rfl, fun i hi => absurd hi (Nat.not_lt_zero _)⟩
  | 0, k + 1, _, hg, h => by
    have := cdf_p (k + 1) hg
    rw [← h, cdf] at this; omega
  | m + 1, 0, hf, _, h => by
    have := cdf_p (m + 1) hf
    rw [h, cdf] at this; omega
  | m + 1, k + 1, hf, hg, h => by
    have h1 := hf m (by omega)
    have h2 := hg k (by omega)
    rw [cdf, cdf] at h
    obtain ⟨e1, e2⟩ := cdf_u (f := f) (g := g) m k (fun i hi => hf i (by omega)) (fun i hi => hg i (by omega)) (by omega)
    subst e1
    refine ⟨rfl, fun i hi => ?_⟩
    by_cases t : i = m
    · rw [t]
      have : (f m).toInt = (g m).toInt := by omega
      rw [← iI_of (f m), ← iI_of (g m), this]
    · exact e2 i (by omega)
theorem cdf_bd {f : Nat → Int32} : ∀ m, m ≤ 6 → (∀ i, i < m → 97 ≤ (f i).toInt ∧ (f i).toInt ≤ 122) → 0 ≤ cdf f m ∧ cdf f m ≤ 32 ^ m
  | 0, _, _ => by rw [cdf]; decide
  | m + 1, hm, h => by
    have h1 := cdf_bd m (by omega) (fun i hi => h i (by omega))
    have h2 := h m (by omega)
    rw [cdf, Int.pow_succ]
    have : cdf f m = 0 ∨ 1 ≤ cdf f m := by omega
    have h3 : cdf f m ≤ 32 ^ m - 1 := by
      clear h2
      have : ∀ k, k ≤ m → cdf f k ≤ 32 ^ k - 1 := by
        intro k
        induction k with
        | zero => intro _; rw [cdf]; decide
        | succ k ih =>
          intro hk
          have := ih (by omega)
          have := h k (by omega)
          rw [cdf, Int.pow_succ]; omega
      exact this m (Nat.le_refl _)
    omega
def wSp (wn : Nat) (wf : Nat → Int32) (W : Int64) : Prop := ((1 ≤ wn ∧ wn ≤ 6) ∧ (Int32.ofNat wn >>> ((0 : Int32) &&& 31)) = nI wn) ∧ (∀ i, i < wn → ((wf i &&& 255).toUInt32 % 65536).toInt32 = wf i ∧ 97 ≤ (wf i).toInt ∧ (wf i).toInt ≤ 122) ∧ W = iJ (cdf wf wn)
theorem m_letter {tp tq : Nat → Int32} (hq : ∀ i, i < 800 → tq i = tp i) {L : Nat} (hL : L ≤ 800) {M : Nat → Int32} (h3 : M 3 = nI L) {k : Nat} (hk : k ≤ 2000) : misLetter M tq (nI k) = some (decide (k < L ∧ so (tp k) = 2)) ∧ misDigit M tq (nI k) = some (decide (k < L ∧ so (tp k) = 3)) := by
  unfold misLetter misDigit
  rw [h3, if_c (qI_le (a := L) (b := k) (by omega) (by omega)), if_c (qI_le (a := L) (b := k) (by omega) (by omega))]
  by_cases p : L ≤ k
  · rw [if_pos p, if_pos p, decide_eq_false (by omega), decide_eq_false (by omega)]; exact ⟨rfl, rfl⟩
  · have hb := i_b32 (tp k)
    have i1 : misIn (tp k).toInt64 97 122 = some (decide (97 ≤ (tp k).toInt ∧ (tp k).toInt ≤ 122)) := by
      rw [e64, show (97 : Int64) = iJ 97 by decide +kernel, show (122 : Int64) = iJ 122 by decide +kernel]
      exact m_isIn (b32_64 hb) ⟨by omega, by omega⟩ ⟨by omega, by omega⟩
    have i2 : misIn (tp k).toInt64 48 57 = some (decide (48 ≤ (tp k).toInt ∧ (tp k).toInt ≤ 57)) := by
      rw [e64, show (48 : Int64) = iJ 48 by decide +kernel, show (57 : Int64) = iJ 57 by decide +kernel]
      exact m_isIn (b32_64 hb) ⟨by omega, by omega⟩ ⟨by omega, by omega⟩
    obtain ⟨_, _, s2, s3, _⟩ := so_e (tp k)
    rw [if_neg p, if_neg p, zck_t (qI_z (by omega) (by omega)), zck_t (qI_z (by omega) (by omega)), qI_n (by omega), hq k (by omega), i1, i2, Option.bind_some, Option.bind_some]
    constructor
    · by_cases c : 97 ≤ (tp k).toInt ∧ (tp k).toInt ≤ 122
      · rw [if_pos (decide_eq_true c), decide_eq_true ⟨by omega, by rw [s2]; exact c⟩]
      · rw [if_neg (dneg c), decide_eq_false (fun z => c (by have := z.2; rw [s2] at this; exact this))]
    · by_cases c : 48 ≤ (tp k).toInt ∧ (tp k).toInt ≤ 57
      · rw [if_pos (decide_eq_true c), decide_eq_true ⟨by omega, by rw [s3]; exact c⟩]
      · rw [if_neg (dneg c), decide_eq_false (fun z => c (by have := z.2; rw [s3] at this; exact this))]
/-- the reference's word from a place on -/
theorem m_wordLoop {tp tq : Nat → Int32} (hq : ∀ i, i < 800 → tq i = tp i) {L : Nat} (hL : L ≤ 800) {wn : Nat} {wf : Nat → Int32} {W : Int64} (hw : wSp wn wf W) {M : Nat → Int32} (h3 : M 3 = nI L) {fr to : Nat} (hr : rnn tp L 2 fr to) (hto : to ≤ L) {n : Nat} (hn : 250000 ≤ n) : ∃ b M', zloop (misWord_38 n tq W (nI fr)) n (0, upd M 10 0) = some (b, M') ∧ (b = true ↔ to - fr = wn ∧ ∀ i, i < wn → tp (fr + i) = wf i) ∧ M' 10 = nI (to - fr) ∧ ∀ i, i ≠ 10 → M' i = M i := by
  have hft := hr.1
  have hlet : ∀ i, i < to - fr → 97 ≤ (tp (fr + i)).toInt ∧ (tp (fr + i)).toInt ≤ 122 := fun i hi => by
    have := (hr.2.1 (fr + i) (by omega) (by omega)).2
    rw [(so_e (tp (fr + i))).2.2.1] at this
    exact this
  obtain ⟨r, e1, e2⟩ := zloop_inv (f := misWord_38 n tq W (nI fr)) (R := fun s => ∃ m : Nat, m ≤ to - fr ∧ s.2 10 = nI m ∧ (∀ i, i ≠ 10 → s.2 i = M i) ∧ (m ≤ 6 → s.1 = iJ (cdf (fun i => tp (fr + i)) m))) (S := fun r => (r.1 = true ↔ to - fr = wn ∧ ∀ i, i < wn → tp (fr + i) = wf i) ∧ r.2 10 = nI (to - fr) ∧ ∀ i, i ≠ 10 → r.2 i = M i) (fun s => to - fr - (s.2 10).toNatClampNeg) (by
    rintro ⟨x, s⟩ ⟨m, hm, h10, hot, hx⟩
    dsimp only at h10 hot hx
    unfold misWord_38 misWord_89
    dsimp only
    have hfm : nI fr + nI m = nI (fr + m) := by rw [nI_iI, nI_iI, nI_iI, iI_add]; rfl
    simp only [h10, hfm]
    rw [(m_letter hq hL ((hot 3 (by omega)).trans h3) (by omega)).1, Option.bind_some]
    by_cases p : m = to - fr
    · right
      have hstop : ¬ (fr + m < L ∧ so (tp (fr + m)) = 2) := by rw [p, show fr + (to - fr) = to by omega]; exact hr.2.2
      rw [if_neg (dneg hstop), if_c (show ((7 : Int32) ≤ nI m) = (7 ≤ m) from qI_le (a := 7) (by omega) (by omega))]
      by_cases c : 7 ≤ m
      · rw [if_pos c]
        refine ⟨_, rfl, ⟨fun z => (by cases z), fun z => ?_⟩, (by show s 10 = nI (to - fr); rw [h10, p]), hot⟩
        have := hw.1.1.2; omega
      · have hxm := hx (by omega)
        rw [if_neg c, hxm, hw.2.2]
        have bd1 := cdf_bd (f := fun i => tp (fr + i)) m (by omega) (fun i hi => hlet i (by omega))
        have bd2 := cdf_bd (f := wf) wn hw.1.1.2 (fun i hi => (hw.2.1 i hi).2)
        have p1 : (32 : Int) ^ m ≤ 1073741824 := by
          have : ∀ j : Nat, j ≤ 6 → (32 : Int) ^ j ≤ 1073741824 := by decide
          exact this m (by omega)
        have p2 : (32 : Int) ^ wn ≤ 1073741824 := by
          have : ∀ j : Nat, j ≤ 6 → (32 : Int) ^ j ≤ 1073741824 := by decide
          exact this wn hw.1.1.2
        rw [if_c (iJ_eq ⟨by omega, by omega⟩ ⟨by omega, by omega⟩)]
        by_cases c2 : cdf (fun i => tp (fr + i)) m = cdf wf wn
        · rw [if_pos c2]
          obtain ⟨u1, u2⟩ := cdf_u m wn (fun i hi => hlet i (by omega)) (fun i hi => (hw.2.1 i hi).2) c2
          exact ⟨_, rfl, ⟨fun _ => ⟨by omega, fun i hi => u2 i (by omega)⟩, fun _ => rfl⟩, (by show s 10 = nI (to - fr); rw [h10, p]), hot⟩
        · rw [if_neg c2]
          refine ⟨_, rfl, ⟨fun z => (by cases z), fun z => absurd ?_ c2⟩, (by show s 10 = nI (to - fr); rw [h10, p]), hot⟩
          have hmw : m = wn := by omega
          rw [hmw]
          have : ∀ k, k ≤ wn → cdf (fun i => tp (fr + i)) k = cdf wf k := by
            intro k
            induction k with
            | zero => intro _; rfl
            | succ k ih => intro hk; rw [cdf, cdf, ih (by omega), z.2 k (by omega)]
          exact this wn (Nat.le_refl _)
    · left
      have hgo := hr.2.1 (fr + m) (by omega) (by omega)
      have hμ : ∀ s' : Nat → Int32, s' 10 = nI (m + 1) → to - fr - (s' 10).toNatClampNeg < to - fr - m := fun s' hs => by rw [hs, qI_n (by omega)]; omega
      have hn10 : (nI m).toNatClampNeg = m := qI_n (by omega)
      rw [if_pos (decide_eq_true hgo), if_c (show ((6 : Int32) ≤ nI m) = (6 ≤ m) from qI_le (a := 6) (by omega) (by omega)), qI_1]
      by_cases c : 6 ≤ m
      · rw [if_pos c]
        refine ⟨_, rfl, ⟨m + 1, by omega, (show upd s 10 (nI (m + 1)) 10 = nI (m + 1) from upd_at), fun i hi => (upd_ne hi).trans (hot i hi), fun z => by omega⟩, ?_⟩
        rw [hn10]
        exact hμ (upd s 10 (nI (m + 1))) upd_at
      · rw [if_neg c, zck_t (qI_z (by omega) (by omega)), qI_n (by omega), hq (fr + m) (by omega)]
        refine ⟨_, rfl, ⟨m + 1, by omega, (show upd s 10 (nI (m + 1)) 10 = nI (m + 1) from upd_at), fun i hi => (upd_ne hi).trans (hot i hi), fun z => ?_⟩, ?_⟩
        · dsimp only
          rw [hx (by omega), e64, show (32 : Int64) = iJ 32 by decide +kernel, show (96 : Int64) = iJ 96 by decide +kernel, iJ_mul, iJ_add, iJ_sub, cdf]
        · rw [hn10]
          exact hμ (upd s 10 (nI (m + 1))) upd_at) n (0, upd M 10 0) ⟨0, by omega, (show upd M 10 0 10 = nI 0 from upd_at), fun i hi => upd_ne hi, fun _ => rfl⟩ (by
      show to - fr - (upd M 10 0 10).toNatClampNeg < n
      omega)
  exact ⟨r.1, r.2, e1, e2⟩
theorem c_seesLoop {tp : Nat → Int32} {wn : Nat} {wf : Nat → Int32} {W : Int64} (hw : wSp wn wf W) {F : Nat → Int32} {fr : Nat} (h2 : F 2 = nI fr) (hfr : fr + wn ≤ 800) {n : Nat} (hn : 250000 ≤ n) : ∃ b, zloop (n_sees_28 wn wf n F tp) n 0 = some b ∧ (b = true ↔ ∀ i, i < wn → tp (fr + i) = wf i) := by
  obtain ⟨⟨hwn, hsh⟩, hwf, _⟩ := hw
  obtain ⟨r, e1, e2⟩ := zloop_inv (f := n_sees_28 wn wf n F tp) (R := fun s => ∃ i : Nat, i ≤ wn ∧ s = nI i ∧ ∀ j, j < i → tp (fr + j) = wf j) (S := fun r => r = true ↔ ∀ i, i < wn → tp (fr + i) = wf i) (fun s => wn - s.toNatClampNeg) (by
    rintro s ⟨i, hi, rfl, hall⟩
    unfold n_sees_28
    rw [hsh, if_c (qI_le (a := wn) (b := i) (by omega) (by omega))]
    by_cases p : wn ≤ i
    · right; rw [if_pos p]; exact ⟨_, rfl, ⟨fun _ j hj => hall j (by omega), fun _ => rfl⟩⟩
    · have hz : (zin (nI i) wn && decide (¬ nI i < 0) && decide (nI i < Int32.ofNat wn)) = true := by
        rw [qI_z (by omega) (by omega)]
        have e1 : ¬ nI i < 0 := by
          rw [nI_iI]; show ¬ iI (i : Int) < iI 0; rw [iI_lt ⟨by omega, by omega⟩ ⟨by omega, by omega⟩]; omega
        have e2 : nI i < Int32.ofNat wn := by
          show nI i < nI wn
          rw [nI_iI, nI_iI, iI_lt ⟨by omega, by omega⟩ ⟨by omega, by omega⟩]; omega
        rw [decide_eq_true e1, decide_eq_true e2]; rfl
      rw [if_neg p, h2, show nI fr + nI i = nI (fr + i) by rw [nI_iI, nI_iI, nI_iI, iI_add]; rfl, zck_t (qI_z (by omega) (by omega)), zck_t hz, qI_n (by omega), qI_n (by omega), (hwf i (by omega)).1, qI_1]
      by_cases q : tp (fr + i) = wf i
      · left
        rw [if_pos q]
        refine ⟨_, rfl, ⟨i + 1, by omega, rfl, fun j hj => ?_⟩, by rw [qI_n (by omega)]; omega⟩
        by_cases t : j = i
        · rw [t]; exact q
        · exact hall j (by omega)
      · right; rw [if_neg q]; exact ⟨_, rfl, ⟨fun z => (by cases z), fun z => absurd (z i (by omega)) q⟩⟩) n 0 ⟨0, by omega, rfl, fun j hj => by omega⟩ (by omega)
  exact ⟨r, e1, e2⟩
theorem SS_word {tp tq : Nat → Int32} (hq : ∀ i, i < 800 → tq i = tp i) {L : Nat} (hL : L ≤ 800) {wn : Nat} {wf : Nat → Int32} {W : Int64} (hw : wSp wn wf W) {F M : Nat → Int32} (h : SS tp L F M) {n : Nat} (hn : 250000 ≤ n) : ∃ b M', n_sees wn wf n F tp = some b ∧ misWord n M tq W = some (b, M') ∧ SS tp L F M' ∧ KP M M' ∧ (b = true → FI tp L F M' ∧ F 1 = 2 ∧ ∃ fr to, F 2 = nI fr ∧ F 6 = nI to ∧ fr ≤ to ∧ to ≤ L ∧ M' 4 = nI fr ∧ M' 10 = nI (to - fr)) := by
  obtain ⟨q, M1, e1, eqL, e4, e5, e6, e7⟩ := SS_next hq hL h hn
  unfold misWord
  rw [e1, Option.bind_some]
  dsimp only
  rw [m_fine, Option.bind_some, show upd M1 10 0 6 = M1 6 from rfl, show upd M1 10 0 5 = M1 5 from rfl]
  have kp1 : ∀ M', (∀ i, i ≠ 10 → M' i = M1 i) → KP M M' := fun M' hM i i4 i5 i6 i7 i10 i11 => (hM i i10).trans (e5 i i4)
  have ss1 : ∀ M', (∀ i, i ≠ 10 → M' i = M1 i) → SS tp L F M' := fun M' hM => by
    rcases e6 with g | g
    · obtain ⟨h1, h2, a, fr, to, h3, h4, h5, h6, e0, h7, h8⟩ := g
      exact Or.inl ⟨h1, ⟨(hM 3 (by omega)).trans h2.1, (hM 6 (by omega)).trans h2.2.1, (hM 7 (by omega)).trans h2.2.2⟩, a, fr, to, ⟨h3.1, h3.2.1, (hM 4 (by omega)).trans h3.2.2⟩, h4, h5, by rw [hM 5 (by omega)]; exact h6, e0, (hM 5 (by omega)).trans h7, h8⟩
    · obtain ⟨h1, h2, a, h3, h4⟩ := g
      exact Or.inr ⟨h1, ⟨(hM 3 (by omega)).trans h2.1, (hM 6 (by omega)).trans h2.2.1, (hM 7 (by omega)).trans h2.2.2⟩, a, h3, (hM 4 (by omega)).trans h4⟩
  have hu : ∀ i, i ≠ 10 → upd M1 10 0 i = M1 i := fun i hi => upd_ne hi
  rcases SS_fine h with ⟨f0, f1⟩ | ⟨f0, f1⟩
  · obtain ⟨g1, g2, g3, to, g4, ⟨g5, g6⟩, g7⟩ := e7 f1
    rw [if_pos (decide_eq_true ((e5 6 (by omega)).trans f0)), (m_letter hq hL (show upd M1 10 0 3 = nI L from g2.2.1.1) (by omega)).1, Option.bind_some, if_c (show (nI q = M1 5) = (M 5 = nI q) by rw [e5 5 (by omega)]; exact propext ⟨fun z => z.symm, fun z => z.symm⟩)]
    unfold n_sees
    by_cases p : q < L ∧ so (tp q) = 2
    · rw [if_pos (decide_eq_true p)]
      rcases g7 with ⟨a, _⟩ | ⟨a1, a2, a3, a4⟩ | ⟨_, a, _⟩
      · omega
      · have hrun : rnn tp L 2 q to := by
          rw [p.2] at a3
          refine ⟨by have := a3.1; omega, fun i i0 i1 => ?_, a3.2.2⟩
          by_cases t : i = q
          · rw [t]; exact p
          · exact a3.2.1 i (by omega) i1
        have hn3 : ¬ (so (tp q) = 3 ∧ 7 < to - q) := fun z => by rw [p.2] at z; exact absurd z.1 (by decide)
        by_cases lk : M 5 = nI q
        · rw [if_pos lk]
          have hk0 : F 1 = 0 := by
            rcases a4 with ⟨_, b⟩ | ⟨b, _⟩
            · exact b
            · exact absurd (Or.inl lk) b
          rw [if_neg (by rw [hk0]; decide)]
          exact ⟨false, _, rfl, rfl, ss1 _ hu, kp1 _ hu, fun z => (by cases z)⟩
        · rw [if_neg lk]
          have hk2 : F 1 = 2 := by
            rcases a4 with ⟨b, _⟩ | ⟨_, b⟩
            · rcases b with b | b
              · exact absurd b lk
              · exact absurd b hn3
            · rw [b, p.2]
          obtain ⟨b, M', w1, w2, w3, w4⟩ := m_wordLoop hq hL hw (show M1 3 = nI L from g2.2.1.1) hrun g6 hn
          have hlen : F 6 - F 2 = nI (to - q) := by rw [g1, g4, qI_sb g5]
          rw [if_pos hk2, hlen, hw.1.2, if_c (qI_eq (a := to - q) (b := wn) (by omega) (by have := hw.1.1.2; omega)), w1]
          have hres : ∀ b', b' = b → ∃ b_1 M'_1, (some b' : Option Bool) = some b_1 ∧ (some (b, M') : Option (Bool × (Nat → Int32))) = some (b_1, M'_1) ∧ SS tp L F M'_1 ∧ KP M M'_1 ∧ (b_1 = true → FI tp L F M'_1 ∧ F 1 = 2 ∧ ∃ fr to, F 2 = nI fr ∧ F 6 = nI to ∧ fr ≤ to ∧ to ≤ L ∧ M'_1 4 = nI fr ∧ M'_1 10 = nI (to - fr)) := fun b' hb' => by
            subst hb'
            refine ⟨b', M', rfl, rfl, ss1 _ w4, kp1 _ w4, fun _ => ⟨?_, hk2, q, to, g1, g4, g5, g6, (w4 4 (by omega)).trans e4, w3⟩⟩
            rcases ss1 _ w4 with z | z
            · exact z
            · exact absurd ((w4 6 (by omega)).trans ((e5 6 (by omega)).trans f0)) (by rw [z.2.1.2.1]; exact z.1.1)
          by_cases c : to - q = wn
          · obtain ⟨b2, c1, c2⟩ := c_seesLoop (tp := tp) hw g1 (by omega) hn
            rw [if_pos c, c1]
            apply hres
            have hiff : b2 = true ↔ b = true := by rw [c2, w2]; exact ⟨fun z => ⟨c, z⟩, fun z => z.2⟩
            cases b2 <;> cases b <;> simp_all
          · rw [if_neg c]
            apply hres
            cases b
            · rfl
            · exact absurd (w2.mp rfl).1 c
      · exact absurd (Or.inl p.2) a
    · rw [if_neg (dneg p)]
      have hk2 : ¬ F 1 = 2 := fun z => by
        rcases g7 with ⟨_, _, a⟩ | ⟨a1, a2, a3, a4⟩ | ⟨a1, a2, _, a3⟩
        · rw [a] at z; exact absurd z (by decide)
        · rcases a4 with ⟨_, b⟩ | ⟨_, b⟩
          · rw [b] at z; exact absurd z (by decide)
          · rw [b] at z; exact p ⟨a1, z⟩
        · rw [a3] at z; exact p ⟨a1, z⟩
      rw [if_neg hk2]
      exact ⟨false, _, rfl, rfl, ss1 _ hu, kp1 _ hu, fun z => (by cases z)⟩
  · rw [if_neg (dneg (by rw [e5 6 (by omega)]; exact f0))]
    unfold n_sees
    rw [if_neg (by rw [f1.1.2.1]; decide)]
    exact ⟨false, _, rfl, rfl, ss1 _ hu, kp1 _ hu, fun z => (by cases z)⟩
/-- after a token is taken, both stand before the next -/
theorem FI_adv {tp : Nat → Int32} {L : Nat} (hL : L ≤ 800) {F M M' : Nat → Int32} (h : FI tp L F M) (h3 : M' 3 = M 3 ∧ M' 6 = M 6 ∧ M' 7 = M 7) (h4 : M' 4 = F 6) (h5 : (F 1 = 2 ∨ F 1 = 3) ∧ M' 5 = F 6 ∨ F 1 = 4 ∧ M' 5 = M 5) {n : Nat} (hn : 250000 ≤ n) : ∃ F', n_advance n F tp = some F' ∧ FI tp L F' M' := by
  obtain ⟨g1, g2, a, fr, to, ⟨k2, k6, k4⟩, g7, ⟨g8, g9, g10⟩, g11, e0, g12, g13, g14⟩ := h
  obtain ⟨F', fr', to', e1, e2, e3, e4, e5, e6⟩ := c_advance g1.1 hL g1.2.1 k6 g10 hn
  have hfl := rnn_le g7 g8
  have hfl' := rnn_le e4 g10
  refine ⟨F', e1, ⟨e2.1, e2.2.1, e2.2.2.trans g1.2.2⟩, ⟨h3.1.trans g2.1, h3.2.1.trans g2.2.1, h3.2.2.trans g2.2.2⟩, to, fr', to', ⟨e3.1, e3.2, h4.trans k6⟩, e4, ⟨g10, e5⟩, ?_⟩
  rcases h5 with ⟨h5, h5'⟩ | ⟨h5, h5'⟩
  · have hc : ((F 1 = 2 ∨ F 1 = 3) ∧ fr' = to) = (M' 5 = nI fr') := by
      rw [h5', k6, qI_eq (by omega) (by omega)]
      exact propext ⟨fun z => z.2.symm, fun z => ⟨h5, z.symm⟩⟩
    rw [← hc]
    exact ⟨e6, (to : Int), by rw [h5', k6, nI_iI], by omega, by omega⟩
  · have hto : fr < to := by
      rcases g11 with ⟨_, _, z⟩ | ⟨_, _, z, _⟩ | ⟨_, _, z, _⟩
      · rw [h5] at z; exact absurd z (by decide)
      · have := z.1; omega
      · omega
    have hc : ((F 1 = 2 ∨ F 1 = 3) ∧ fr' = to) = (M' 5 = nI fr') := by
      rw [h5', g12, nI_iI, iI_eq ⟨by omega, by omega⟩ ⟨by omega, by omega⟩]
      have := e4.1
      have := g7.1
      refine propext ⟨fun z => ?_, fun z => by omega⟩
      rcases z.1 with y | y <;> (rw [h5] at y; exact absurd y (by decide))
    rw [← hc]
    have := g7.1
    exact ⟨e6, e0, h5'.trans g12, g13, by omega⟩
theorem SS_takes {tp tq : Nat → Int32} (hq : ∀ i, i < 800 → tq i = tp i) {L : Nat} (hL : L ≤ 800) {wn : Nat} {wf : Nat → Int32} {W : Int64} (hw : wSp wn wf W) {F M : Nat → Int32} (h : SS tp L F M) {n : Nat} (hn : 250000 ≤ n) : ∃ b M', n_sees wn wf n F tp = some b ∧ mtakes n M tq W = some (b, M') ∧ KP M M' ∧ (b = false → SS tp L F M') ∧ (b = true → ∃ F', n_advance n F tp = some F' ∧ FI tp L F' M') := by
  obtain ⟨b, M1, e1, e2, e3, e4, e5⟩ := SS_word hq hL hw h hn
  unfold mtakes
  rw [e2, Option.bind_some]
  dsimp only
  cases b
  · rw [if_neg (by decide)]
    exact ⟨false, M1, e1, rfl, e4, fun _ => e3, fun z => (by cases z)⟩
  · obtain ⟨f1, f2, fr, to, f3, f4, f5, f6, f7, f8⟩ := e5 rfl
    have hs : M1 4 + M1 10 = F 6 := by rw [f7, f8, f4, nI_iI, nI_iI, nI_iI, iI_add]; congr 1; omega
    rw [if_pos rfl, hs]
    refine ⟨true, _, e1, rfl, fun i i4 i5 i6 i7 i10 i11 => (upd_ne i5).trans ((upd_ne i4).trans (e4 i i4 i5 i6 i7 i10 i11)), fun z => (by cases z), fun _ => ?_⟩
    exact FI_adv (M' := upd (upd M1 4 (F 6)) 5 (upd M1 4 (F 6) 4)) hL f1 ⟨rfl, rfl, rfl⟩ rfl (Or.inl ⟨Or.inl f2, rfl⟩) hn
