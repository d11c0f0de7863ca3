/-! ===== design: row ===== -/
theorem zloop_sim3 {σ ρ τ κ : Type} {f : σ → Option (σ ⊕ ρ)} {g : τ → Option (τ ⊕ κ)} {R : σ → τ → Prop} {S : ρ → κ → Prop} (μ : σ → Nat) (hs : ∀ s t, R s t → (∃ s' t', f s = some (.inl s') ∧ g t = some (.inl t') ∧ R s' t' ∧ μ s' < μ s) ∨ ∃ r q, f s = some (.inr r) ∧ (∀ m, 5 ≤ m → zloop g m t = some q) ∧ S r q) : ∀ (n m : Nat) (s : σ) (t : τ), R s t → μ s < n → μ s + 5 ≤ m → ∃ r q, zloop f n s = some r ∧ zloop g m t = some q ∧ S r q := by
  intro n
  induction n with
  | zero => intro m s t _ h; omega
  | succ n ih =>
    intro m s t hR h1 h2
    rcases hs s t hR with ⟨s', t', a1, a2, a3, a4⟩ | ⟨r, q, a1, a2, a3⟩
    · obtain ⟨m', rfl⟩ : ∃ m', m = m' + 1 := ⟨m - 1, by omega⟩
      obtain ⟨r, q, b1, b2, b3⟩ := ih m' s' t' a3 (by omega) (by omega)
      exact ⟨r, q, by rw [zloop, a1]; exact b1, by rw [zloop, a2]; exact b2, b3⟩
    · exact ⟨r, q, by rw [zloop, a1], a2 m (by omega), a3⟩
/-- the class has still to say what the reference said -/
def PE (L : Nat) (F M : Nat → Int32) : Prop := (F 3 = 0 ∧ F 0 = nI L ∧ F 1 = 0) ∧ (M 3 = nI L ∧ M 6 = 1 ∧ M 7 = F 2) ∧ ∃ a : Nat, a ≤ L ∧ M 4 = nI a
def PSP (tp : Nat → Int32) (L : Nat) (M0 w0 : Nat → Int32) (T : Nat) (r : (Nat → Int32) × vLaw × (Option vArr) × vTrue × (Nat → Int32)) (m : (Nat → Int32) × (Nat → Int32)) : Prop := (SS tp L r.2.2.2.2 m.1 ∨ PE L r.2.2.2.2 m.1) ∧ KQ M0 m.1 ∧ wfr w0 m.2 ∧ W56 m.2 ∧ moB r.2.2.1 ∧ (FI tp L r.2.2.2.2 m.1 → CT r.1 r.2.1 r.2.2.1 r.2.2.2.1 m.2 T ∧ r.1 1 = nI T ∧ m.1 13 = nI T)
theorem PSP_semi {tp tq : Nat → Int32} (hq : ∀ i, i < 800 → tq i = tp i) {L : Nat} (hL : L ≤ 800) {M0 w0 : Nat → Int32} {T : Nat} {R : Nat → Int32} {lv : vLaw} {mo : Option vArr} {ty : vTrue} {F M w : Nat → Int32} (h : PSP tp L M0 w0 T (R, lv, mo, ty, F) (M, w)) {n : Nat} (hn : 250000 ≤ n) : ∃ r m, r_readStatement_294 n R lv mo ty F tp = some r ∧ mstatement_172 n M tq w = some m ∧ PS tp L M0 w0 T r m := by
  obtain ⟨h1, h2, h3, h4, h5, h6⟩ := h
  rcases h1 with h1 | h1
  · exact PS_semi hq hL ⟨h1, h2, h3, h4, h5, h6⟩ hn
  · dsimp only at h1 h2 h3 h4 h5 h6
    have f6 : ¬ M 6 = 0 := by rw [h1.2.1.2.1]; decide
    have hbd : BD L (upd (upd (upd F 3 1) 4 (F 2)) 1 0) M := ⟨⟨show (1 : Int32) ≠ 0 by decide, rfl, h1.1.2.1⟩, ⟨h1.2.1.1, h1.2.1.2.1, h1.2.1.2.2⟩, h1.2.2⟩
    unfold r_readStatement_294 mstatement_172 mstatement_208 n_takeIf n_fail
    rw [if_neg (show ¬ F 1 = 4 by rw [h1.1.2.2]; decide), if_pos rfl, if_pos h1.1.1, Option.bind_some, Option.bind_some, m_fine, Option.bind_some, if_neg (dneg f6), Option.bind_some, if_neg (dneg f6)]
    exact ⟨_, _, rfl, rfl, Or.inr hbd, h2, h3, h4, h5, fun z => (not_both z hbd).elim⟩
/-- does a number come? -/
theorem SS_seesN {tp tq : Nat → Int32} (hq : ∀ i, i < 800 → tq i = tp i) {L : Nat} (hL : L ≤ 800) {F M : Nat → Int32} (h : FI tp L F M) {n : Nat} (hn : 250000 ≤ n) : ∃ b M', mseesNumber n M tq = some (b, M') ∧ FI tp L F M' ∧ KP M M' ∧ (F 1 = 3 → b = true) ∧ (b = true → F 1 ≠ 3 → F 1 = 0 ∧ ∀ lo hi : Int, b32 lo → b32 hi → ∃ v' M2, mreads n M' tq (iI lo) (iI hi) = some (v', M2) ∧ PE L F M2 ∧ KP M' M2) := by
  obtain ⟨q, M1, e1, eqL, e4, e5, e6, e7⟩ := SS_next hq hL (Or.inl h) hn
  obtain ⟨g1, g2, g3, to, g4, ⟨g5, g6⟩, g7⟩ := e7 h
  unfold mseesNumber
  rw [e1, Option.bind_some]
  dsimp only
  rw [(m_letter hq hL g2.2.1.1 (by omega)).2, Option.bind_some, if_c (show (nI q = M1 5) = (M 5 = nI q) by rw [e5 5 (by omega)]; exact propext ⟨fun z => z.symm, fun z => z.symm⟩)]
  have kp : KP M M1 := fun i i4 _ _ _ _ _ => e5 i i4
  by_cases p : q < L ∧ so (tp q) = 3
  · rw [if_pos (decide_eq_true p)]
    by_cases lk : M 5 = nI q
    · rw [if_pos lk]
      refine ⟨false, M1, rfl, g2, kp, fun z => ?_, fun z => (by cases z)⟩
      rcases g7 with ⟨a, _⟩ | ⟨a1, a2, a3, a4⟩ | ⟨_, a, _⟩
      · omega
      · rcases a4 with ⟨_, b⟩ | ⟨b, _⟩
        · rw [b] at z; exact absurd z (by decide)
        · exact absurd (Or.inl lk) b
      · exact absurd (Or.inr p.2) a
    · rw [if_neg lk]
      refine ⟨true, M1, rfl, g2, kp, fun _ => rfl, fun _ hk => ?_⟩
      have hk0 : F 1 = 0 := by
        rcases g7 with ⟨a, _⟩ | ⟨a1, a2, a3, a4⟩ | ⟨_, a, _⟩
        · omega
        · rcases a4 with ⟨_, b⟩ | ⟨_, b⟩
          · exact b
          · rw [p.2] at b; exact absurd b hk
        · exact absurd (Or.inr p.2) a
      refine ⟨hk0, fun lo hi hlo hhi => ?_⟩
      obtain ⟨v, v', F', M', a1, a2, a3, a4, a5, a6, a7⟩ := SS_number hq hL (Or.inl g2 : SS tp L F M1) hlo hhi hn
      have hf : n_takeNumber n F tp (iI lo) (iI hi) = some (0, upd (upd (upd F 3 1) 4 (F 2)) 1 0) := by
        unfold n_takeNumber n_fail
        rw [if_neg hk, if_pos h.1.2.1, Option.bind_some]
      rw [hf] at a1
      have hF := (Prod.mk.inj (Option.some.inj a1)).2
      have hbd : BD L F' M' := by
        rcases a3 with z | z
        · exfalso
          have := z.1.2.1
          rw [← hF] at this
          exact absurd this (by show ¬ (1 : Int32) = 0; decide)
        · exact z
      refine ⟨v', M', a2, ⟨⟨h.1.2.1, h.1.1, hk0⟩, ⟨hbd.2.1.1, ?_, ?_⟩, hbd.2.2⟩, a4⟩
      · rw [hbd.2.1.2.1, ← hF]; rfl
      · rw [hbd.2.1.2.2, ← hF]; rfl
  · rw [if_neg (dneg p)]
    refine ⟨false, M1, rfl, g2, kp, fun z => ?_, fun z => (by cases z)⟩
    exfalso
    rcases g7 with ⟨_, _, a⟩ | ⟨a1, a2, a3, a4⟩ | ⟨a1, a2, _, a3⟩
    · rw [a] at z; exact absurd z (by decide)
    · rcases a4 with ⟨_, b⟩ | ⟨_, b⟩
      · rw [b] at z; exact absurd z (by decide)
      · rw [b] at z; exact p ⟨a1, z⟩
    · rw [a3] at z; exact p ⟨a1, z⟩
theorem c_sums {N : Nat} (hN : N ≤ 400) (ar : Nat → Int32) (lv : vLaw) (F tp : Nat → Int32) {n : Nat} (hn : 250000 ≤ n) : ∃ f : Nat → Int32, r_readRow_73 n lv F tp ar (nI N) (N + 1) = some (.inr (.inr (.inr ((N + 1, f), nI N))), F) ∧ f 0 = ar 0 ∧ ∀ i, i < N → f (i + 1) = ar (i + 1) + f i := by
  unfold r_readRow_73
  obtain ⟨r, e1, f, e2, e3, e4⟩ := zloop_inv (f := r_readRow_76 n lv F tp (nI N) (N + 1)) (R := fun s => ∃ i : Nat, (1 ≤ i ∧ i ≤ N + 1) ∧ s.1 = nI i ∧ s.2 0 = ar 0 ∧ (∀ j, j + 1 < i → s.2 (j + 1) = ar (j + 1) + s.2 j) ∧ ∀ j, i ≤ j → s.2 j = ar j) (S := fun r => ∃ f : Nat → Int32, r = (.inr (.inr (.inr ((N + 1, f), nI N))), F) ∧ f 0 = ar 0 ∧ ∀ i, i < N → f (i + 1) = ar (i + 1) + f i) (fun s => N + 1 - s.1.toNatClampNeg) (by
    rintro ⟨s1, s2⟩ ⟨i, hi, hs, h0, hsum, hrest⟩
    dsimp only at hs h0 hsum hrest
    subst hs
    unfold r_readRow_76 k_newRow
    dsimp only
    rw [if_c (show (nI N < nI i) = (N < i) by rw [nI_iI, nI_iI, iI_lt ⟨by omega, by omega⟩ ⟨by omega, by omega⟩]; exact propext ⟨fun z => by omega, fun z => by omega⟩)]
    by_cases p : N < i
    · right
      rw [if_pos p, Option.bind_some, show nI (N + 1) - 1 = nI N from qI_sb (a := N + 1) (b := 1) (by omega)]
      exact ⟨_, rfl, s2, rfl, h0, fun j hj => hsum j (by omega)⟩
    · left
      rw [if_neg p, show nI i - 1 = nI (i - 1) from qI_sb (a := i) (b := 1) hi.1, zck_t (qI_z (by omega) (by omega)), zck_t (qI_z (by omega) (by omega)), zck_t (qI_z (by omega) (by omega)), qI_n (by omega), qI_n (by omega), qI_1]
      refine ⟨_, rfl, ⟨i + 1, ⟨by omega, by omega⟩, rfl, (upd_ne (by omega)).trans h0, fun j hj => ?_, fun j hj => (upd_ne (by omega)).trans (hrest j (by omega))⟩, by dsimp only; rw [qI_n (by omega)]; omega⟩
      show upd s2 i (s2 i + s2 (i - 1)) (j + 1) = ar (j + 1) + upd s2 i (s2 i + s2 (i - 1)) j
      by_cases t : j + 1 = i
      · rw [t, upd_at, upd_ne (by omega), hrest i (Nat.le_refl _), show i - 1 = j by omega]
      · rw [upd_ne t, upd_ne (by omega)]; exact hsum j (by omega)) n (1, ar) ⟨1, ⟨by omega, by omega⟩, rfl, rfl, fun j hj => by omega, fun j hj => rfl⟩ (by omega)
  exact ⟨f, by rw [e1, e2], e3, e4⟩
/-- at the head of the row's loop -/
def RWR (tp : Nat → Int32) (L N : Nat) (M0 w0 : Nat → Int32) (c : Int32 × Int32 × (Nat → Int32) × (Nat → Int32)) (r : Int32 × (Nat → Int32) × (Nat → Int32)) : Prop := ∃ (nx : Int32) (i : Nat) (last : Int32) (F ar M w : Nat → Int32), i ≤ N + 1 ∧ c = (nx, nI i, F, ar) ∧ r = (last, M, w) ∧ SS tp L F M ∧ KP M0 M ∧ (∀ j, j < 2692 ∨ 3094 ≤ j → w j = w0 j) ∧ (M 6 = 0 → ∃ x : Int, nx = iI x ∧ last = iI (x - 1) ∧ (i : Int) ≤ x ∧ x ≤ N ∧ ar 0 = 0 ∧ ∀ j, j ≤ N → w (2692 + j) = ar j ∧ (ar j = 0 ∨ ar j = 1))
theorem R_end {tp tq : Nat → Int32} {L N : Nat} (hN : N ≤ 400) {M0 w0 : Nat → Int32} {n : Nat} (M w : Nat → Int32) (x : Int32) : mrowRead_79 n M tq w x = some (M, if M 6 = 0 then upd (upd w 2655 3) 2660 x else w) := by
  unfold mrowRead_79
  rw [show (3 : Int32) = nI 3 from rfl, m_lays (k := 3) (by omega), Option.bind_some, show (8 : Int32) = nI 8 from rfl, m_lays (k := 8) (by omega), Option.bind_some]
  by_cases p : M 6 = 0
  · simp only [if_pos p]
  · simp only [if_neg p]
theorem R_step {tp tq : Nat → Int32} (hq : ∀ i, i < 800 → tq i = tp i) {L : Nat} (hL : L ≤ 800) {N : Nat} (hN : 1 ≤ N ∧ N ≤ 400) {M0 w0 : Nat → Int32} (lv : vLaw) {n : Nat} (hn : 250000 ≤ n) (c : Int32 × Int32 × (Nat → Int32) × (Nat → Int32)) (r : Int32 × (Nat → Int32) × (Nat → Int32)) (h : RWR tp L N M0 w0 c r) : (∃ c' r', r_readRow_23 n lv tp (nI N) (N + 1) c = some (.inl c') ∧ mrowRead_19 n tq (nI N) r = some (.inl r') ∧ RWR tp L N M0 w0 c' r' ∧ N + 2 - c'.2.1.toNatClampNeg < N + 2 - c.2.1.toNatClampNeg) ∨ ∃ (x : vLaw × (Nat → Int32)) (y : (Nat → Int32) × (Nat → Int32)), r_readRow_23 n lv tp (nI N) (N + 1) c = some (.inr x) ∧ (∀ m, 5 ≤ m → zloop (mrowRead_19 n tq (nI N)) m r = some y) ∧ ∃ (ar f F M w : Nat → Int32), x = (.inr (.inr (.inr ((N + 1, f), nI N))), F) ∧ (f 0 = ar 0 ∧ ∀ i, i < N → f (i + 1) = ar (i + 1) + f i) ∧ y = (M, if M 6 = 0 then upd (upd w 2655 3) 2660 (nI N) else w) ∧ (SS tp L F M ∨ PE L F M) ∧ KP M0 M ∧ (∀ j, j < 2692 ∨ 3094 ≤ j → w j = w0 j) ∧ (M 6 = 0 → ar 0 = 0 ∧ ∀ j, j ≤ N → w (2692 + j) = ar j ∧ (ar j = 0 ∨ ar j = 1)) := by
  obtain ⟨nx, i, last, F, ar, M, w, hi, rfl, rfl, hss, hkp, hw, hfine⟩ := h
  obtain ⟨f, s1, s2, s3⟩ := c_sums hN.2 ar lv F tp hn
  have h19b : ∀ (y : Int32) (M w : Nat → Int32), ¬ M 6 = 0 → mrowRead_19 n tq (nI N) (y, M, w) = some (.inr (M, if M 6 = 0 then upd (upd w 2655 3) 2660 (nI N) else w)) := fun y M w h6 => by
    unfold mrowRead_19
    dsimp only
    rw [m_fine, Option.bind_some, if_neg (dneg h6), R_end (tp := tp) (L := L) hN.2 (M0 := M0) (w0 := w0)]; rfl
  have hone : ∀ (t : Int32 × (Nat → Int32) × (Nat → Int32)) q, mrowRead_19 n tq (nI N) t = some (.inr q) → ∀ m, 1 ≤ m → zloop (mrowRead_19 n tq (nI N)) m t = some q := fun t q ht m hm => by
    obtain ⟨k, rfl⟩ : ∃ k, m = k + 1 := ⟨m - 1, by omega⟩
    rw [zloop, ht]
  rcases SS_fine hss with ⟨f0, f1⟩ | ⟨f0, f1⟩
  · obtain ⟨x, x1, x2, x3, x4, x5, x6⟩ := hfine f0
    have hiN : ¬ N < i := by omega
    obtain ⟨b, M1, n1, n2, n3, n4, n5⟩ := SS_seesN hq hL f1 hn
    have h23 : r_readRow_23 n lv tp (nI N) (N + 1) (nx, nI i, F, ar) = if F 1 = 3 then (n_takeNumber n F tp nx (nI N - 1)).bind (fun v3 => (if (nI N) < ((v3.1 + 1)) then (r_readRow_67 n lv v3.2 tp ar (nI N) (v3.1 + 1) (nI i) (N + 1)) else zck (zin ((v3.1 + 1)) (N + 1)) ((r_readRow_67 n lv v3.2 tp (upd ar ((v3.1 + 1)).toNatClampNeg 1) (nI N) (v3.1 + 1) (nI i) (N + 1))))) else some (.inr (.inr (.inr (.inr ((N + 1, f), nI N))), F)) := by
      unfold r_readRow_23
      dsimp only
      rw [if_c (show (nI N < nI i) = (N < i) by rw [nI_iI, nI_iI, iI_lt ⟨by omega, by omega⟩ ⟨by omega, by omega⟩]; exact propext ⟨fun z => by omega, fun z => by omega⟩), if_neg hiN, s1]; rfl
    have h19 : mrowRead_19 n tq (nI N) (last, M, w) = if b = true then (mreads n M1 tq 0 (nI N - 1)).bind (fun v5 => (misFine v5.2).bind (fun v6 => (if v6 = true then (if last < (v5.1) then (mrowRead_63 n v5.2 tq w (nI N) v5.1) else (mfail v5.2 2 (v5.2 11)).bind (fun v7 => (mrowRead_63 n v7 tq w (nI N) v5.1))) else (mrowRead_63 n v5.2 tq w (nI N) v5.1)))) else some (.inr (M1, if M1 6 = 0 then upd (upd w 2655 3) 2660 (nI N) else w)) := by
      unfold mrowRead_19
      dsimp only
      rw [m_fine, Option.bind_some, if_pos (decide_eq_true f0), n1, Option.bind_some]
      dsimp only
      rw [R_end (tp := tp) (L := L) hN.2 (M0 := M0) (w0 := w0)]; rfl
    have hNm : nI N - 1 = iI ((N : Int) - 1) := by rw [nI_iI, show (1 : Int32) = iI 1 from rfl, iI_sub]
    have h63 : ∀ (M w : Nat → Int32) (y : Int32) (V : Int), y = iI V → 0 ≤ V → V < N → mrowRead_63 n M tq w (nI N) y = some (.inl (y, M, if M 6 = 0 then upd w (2692 + (V.toNat + 1)) 1 else w)) := fun M w y V hy h0 hV => by
      unfold mrowRead_63
      rw [hy, show ((40 : Int32) + iI V) + 1 = nI (40 + (V.toNat + 1)) by
        rw [show (40 : Int32) = iI 40 from rfl, show (1 : Int32) = iI 1 from rfl, iI_add, iI_add, nI_iI]; congr 1; omega, m_lays (by omega), Option.bind_some, show 2652 + (40 + (V.toNat + 1)) = 2692 + (V.toNat + 1) by omega]
    have h63b : ∀ (M w : Nat → Int32) (y : Int32), ¬ M 6 = 0 → mrowRead_63 n M tq w (nI N) y = some (.inl (y, M, w)) := fun M w y h6 => by
      unfold mrowRead_63 mlays
      rw [m_fine, Option.bind_some, if_neg (dneg h6), Option.bind_some]
    rw [h23]
    by_cases k3 : F 1 = 3
    · left
      have hb := n4 k3
      subst hb
      rw [if_pos k3, h19, if_pos rfl, hNm, x1]
      obtain ⟨v, v', F2, M2, d1, d2, d3, d4, d5, d6, d7⟩ := SS_number hq hL (Or.inl n2 : SS tp L F M1) (lo := 0) (hi := (N : Int) - 1) ⟨by omega, by omega⟩ ⟨by omega, by omega⟩ hn
      replace d1 : n_takeNumber n F tp 0 (iI ((N : Int) - 1)) = some (v, F2) := d1
      replace d2 : mreads n M1 tq 0 (iI ((N : Int) - 1)) = some (v', M2) := d2
      obtain ⟨r1, r2⟩ := row_num hL n2 (lo := x) (hi := (N : Int) - 1) ⟨by omega, by omega⟩ ⟨by omega, by omega⟩ hn d1 d3
      have h11 : M2 11 = F 2 := d5 n2
      have kp2 : KP M0 M2 := (hkp.t n3).t d4
      rw [d2, Option.bind_some]
      dsimp only
      rw [m_fine, Option.bind_some]
      have hμ : ∀ z : Int32 × Int32 × (Nat → Int32) × (Nat → Int32), z.2.1 = nI (i + 1) → N + 2 - z.2.1.toNatClampNeg < N + 2 - (nI i).toNatClampNeg := fun z hz => by rw [hz, qI_n (by omega), qI_n (by omega)]; omega
      -- a failing step
      have hbad : ∀ (Fb Mb : Nat → Int32) (y : Int32), BD L Fb Mb → KP M0 Mb → ∃ c', (if (nI N) < ((0 : Int32) + 1) then (r_readRow_67 n lv Fb tp ar (nI N) (0 + 1) (nI i) (N + 1)) else zck (zin ((0 : Int32) + 1) (N + 1)) ((r_readRow_67 n lv Fb tp (upd ar ((0 : Int32) + 1).toNatClampNeg 1) (nI N) (0 + 1) (nI i) (N + 1)))) = some (.inl c') ∧ RWR tp L N M0 w0 c' (y, Mb, w) ∧ c'.2.1 = nI (i + 1) := fun Fb Mb y hbd hk => by
        unfold r_readRow_67
        rw [if_neg (show ¬ nI N < (0 : Int32) + 1 by
          rw [nI_iI]; show ¬ iI (N : Int) < iI 1; rw [iI_lt ⟨by omega, by omega⟩ ⟨by omega, by omega⟩]; omega), zck_t (show zin ((0 : Int32) + 1) (N + 1) = true from qI_z (a := 1) (by omega) (by omega)), qI_1]
        exact ⟨_, rfl, ⟨_, i + 1, y, Fb, _, Mb, w, by omega, rfl, rfl, Or.inr hbd, hk, hw, fun z => absurd z (by rw [hbd.2.1.2.1]; exact hbd.1.1)⟩, rfl⟩
      rcases SS_fine d3 with ⟨e0, e1⟩ | ⟨e0, e1⟩
      · obtain ⟨V, y1, y2, y3⟩ := r2 e1
        obtain ⟨z1, z2, _⟩ := d6 e1
        subst z2
        rw [if_pos (decide_eq_true e0), y1, x2, if_c (show (iI (x - 1) < iI V) = (x - 1 < V) from iI_lt ⟨by omega, by omega⟩ ⟨by omega, by omega⟩)]
        rcases y3 with ⟨y3, y4⟩ | ⟨y3, F3, y4, y5⟩
        · rw [if_pos (by omega), y4, Option.bind_some, y1, h63 M2 w (iI V) V rfl y2.1 (by omega), if_pos e0]
          dsimp only
          unfold r_readRow_67
          rw [show (iI V + 1 : Int32) = iI (V + 1) from iI_add _ 1, if_neg (show ¬ nI N < iI (V + 1) by rw [nI_iI, iI_lt ⟨by omega, by omega⟩ ⟨by omega, by omega⟩]; omega), zck_t (iI_zin (by omega) (by omega) (by omega)), iI_nat (by omega) (by omega), qI_1]
          refine ⟨_, _, rfl, rfl, ⟨iI (V + 1), i + 1, iI V, F2, _, M2, _, by omega, rfl, rfl, Or.inl e1, kp2, fun j hj => (upd_ne (by omega)).trans (hw j hj), fun _ => ⟨V + 1, rfl, by congr 1; omega, by omega, by omega, (upd_ne (by omega)).trans x5, fun j hj => ?_⟩⟩, hμ _ rfl⟩
          by_cases t : j = (V + 1).toNat
          · rw [t, show 2692 + (V.toNat + 1) = 2692 + (V + 1).toNat by omega, upd_at, upd_at]; exact ⟨rfl, Or.inr rfl⟩
          · rw [upd_ne t, upd_ne (by omega)]; exact x6 j hj
        · have hM : mfail M2 2 (M2 11) = some (upd (upd M2 6 2) 7 (M2 11)) := by unfold mfail; rw [if_pos e0]
          have hF : F3 = upd (upd (upd F 3 2) 4 (F 2)) 1 0 := by
            unfold n_fail at y4
            rw [if_pos f1.1.2.1] at y4
            exact (Option.some.inj y4).symm
          have hbd : BD L F3 (upd (upd M2 6 2) 7 (M2 11)) := by
            rw [hF]
            obtain ⟨_, z2, a, _, _, ⟨_, _, z3⟩, _, ⟨z4, _⟩, _⟩ := e1
            exact ⟨⟨show (2 : Int32) ≠ 0 by decide, rfl, f1.1.1⟩, ⟨z2.1, rfl, h11⟩, a, z4, z3⟩
          rw [if_neg (by omega), y5, Option.bind_some, hM, Option.bind_some, h63b _ _ _ (by show ¬ (2 : Int32) = 0; decide)]
          obtain ⟨c', c1, c2, c3⟩ := hbad F3 _ (iI V) hbd (fun i i4 i5 i6 i7 i10 i11 => (upd_ne i7).trans ((upd_ne i6).trans (kp2 i i4 i5 i6 i7 i10 i11)))
          exact ⟨c', _, c1, rfl, c2, hμ c' c3⟩
      · have hv0 := d7 e1
        rw [if_neg (dneg e0), r1 e1, Option.bind_some, hv0, h63b _ _ _ e0]
        obtain ⟨c', c1, c2, c3⟩ := hbad F2 M2 v' e1 kp2
        exact ⟨c', _, c1, rfl, c2, hμ c' c3⟩
    · right
      rw [if_neg k3]
      cases b
      · refine ⟨_, _, rfl, fun m hm => hone _ _ (by rw [h19, if_neg (by decide)]) m (by omega), ar, f, F, M1, w, rfl, ⟨s2, s3⟩, rfl, Or.inl (Or.inl n2), hkp.t n3, hw, fun _ => ⟨x5, x6⟩⟩
      · obtain ⟨k0, k1⟩ := n5 rfl k3
        obtain ⟨v', M2, k2, k4, k5⟩ := k1 0 ((N : Int) - 1) ⟨by omega, by omega⟩ ⟨by omega, by omega⟩
        replace k2 : mreads n M1 tq 0 (iI ((N : Int) - 1)) = some (v', M2) := k2
        have f6 : ¬ M2 6 = 0 := by rw [k4.2.1.2.1]; decide
        have hst : mrowRead_19 n tq (nI N) (last, M, w) = some (.inl (v', M2, w)) := by
          rw [h19, if_pos rfl, hNm, k2, Option.bind_some]
          dsimp only
          rw [m_fine, Option.bind_some, if_neg (dneg f6), h63b _ _ _ f6]
        refine ⟨_, (M2, if M2 6 = 0 then upd (upd w 2655 3) 2660 (nI N) else w), rfl, fun m hm => ?_, ar, f, F, M2, w, rfl, ⟨s2, s3⟩, rfl, Or.inr k4, (hkp.t n3).t k5, hw, fun z => absurd z f6⟩
        rw [zloop_peel (by omega) hst]
        exact hone _ _ (h19b v' M2 w f6) (m - 1) (by omega)
  · right
    refine ⟨(.inr (.inr (.inr ((N + 1, f), nI N))), F), _, ?_, fun m hm => hone _ _ (h19b last M w f0) m (by omega), ar, f, F, M, w, rfl, ⟨s2, s3⟩, rfl, Or.inl hss, hkp, hw, fun z => absurd z f0⟩
    unfold r_readRow_23
    dsimp only
    rw [s1, if_neg (show ¬ F 1 = 3 by rw [f1.1.2.1]; decide)]
    by_cases p : nI N < nI i
    · rw [if_pos p]; rfl
    · rw [if_neg p]; rfl
theorem st_row {tp tq : Nat → Int32} (hq : ∀ i, i < 800 → tq i = tp i) {L : Nat} (hL : L ≤ 800) {F M M0 w w0 R : Nat → Int32} {lv : vLaw} {mo : Option vArr} {ty : vTrue} {T : Nat} (hT : T < 128) (hs : SS tp L F M) (h13 : M 13 = nI (T ||| 2 ^ 2)) (hfr : FI tp L F M → T.testBit 2 = false) (hkq : KQ M0 M) (hwf : wfr w0 w) (h56 : W56 w) (hmb : moB mo) (hct : CT R lv mo ty w T) {n : Nat} (hn : 250000 ≤ n) : ∃ lv' F' v M1 m, r_readRow n lv F tp = some (lv', F') ∧ mreads n M tq 1 400 = some (v, M1) ∧ zloop (mrowRead_19 n tq v) n (-1, M1, w) = some m ∧ PSP tp L M0 w0 (T ||| 2 ^ 2) (upd R 1 (nI (T ||| 2 ^ 2)), lv', mo, ty, F') m := by
  obtain ⟨v, v', F1, M1, a1, a2, a3, a4, a5, a6, a7⟩ := SS_number hq hL hs (lo := 1) (hi := 400) ⟨by omega, by omega⟩ ⟨by omega, by omega⟩ hn
  replace a1 : n_takeNumber n F tp 1 400 = some (v, F1) := a1
  replace a2 : mreads n M tq 1 400 = some (v', M1) := a2
  have hend : ∀ (N : Nat) (ar f F' M' w' : Nat → Int32), (M' 6 = 0 → 1 ≤ N ∧ N ≤ 400) → (f 0 = ar 0 ∧ ∀ i, i < N → f (i + 1) = ar (i + 1) + f i) → (SS tp L F' M' ∨ PE L F' M') → KP M M' → (∀ j, j < 2692 ∨ 3094 ≤ j → w' j = w j) → (M' 6 = 0 → ar 0 = 0 ∧ ∀ j, j ≤ N → w' (2692 + j) = ar j ∧ (ar j = 0 ∨ ar j = 1)) → PSP tp L M0 w0 (T ||| 2 ^ 2) (upd R 1 (nI (T ||| 2 ^ 2)), .inr (.inr (.inr ((N + 1, f), nI N))), mo, ty, F') (M', if M' 6 = 0 then upd (upd w' 2655 3) 2660 (nI N) else w') := fun N ar f F' M' w' hN hf hss hkp hw' hfi => by
    have hwo : ∀ i, i ≠ 2655 → i ≠ 2660 → ¬ (2692 ≤ i ∧ i < 3094) → (if M' 6 = 0 then upd (upd w' 2655 3) 2660 (nI N) else w') i = w i := fun i h1 h2 h3 => by
      split
      · exact (upd_ne h2).trans ((upd_ne h1).trans (hw' i (by omega)))
      · exact hw' i (by omega)
    refine ⟨hss, hkq.k hkp, fun i hi => (hwo i (by omega) (by omega) (by omega)).trans (hwf i hi), ?_, hmb, fun z => ?_⟩
    · obtain ⟨m, m1, m2⟩ := h56
      exact ⟨m, m1, (hwo _ (by omega) (by omega) (by omega)).trans m2⟩
    · dsimp only at z ⊢
      have z6 : M' 6 = 0 := z.2.1.2.1
      obtain ⟨g1, g2⟩ := hfi z6
      have hN' := hN z6
      obtain ⟨⟨c1, c2, c3, c4, c5⟩, c6, c7, c8⟩ := hct
      rw [if_pos z6] at hwo ⊢
      have hNt : (nI N).toInt = (N : Int) := by rw [nI_iI, iI_to ⟨by omega, by omega⟩]
      have hNn : (nI N).toInt.toNat = N := by rw [hNt]; omega
      have hfb : ∀ i, i ≤ N → 0 ≤ (f i).toInt ∧ (f i).toInt ≤ i := by
        intro i
        induction i with
        | zero => intro _; rw [hf.1, g1]; decide
        | succ i ih =>
          intro hi
          have h1 := ih (by omega)
          rw [hf.2 i (by omega)]
          rcases (g2 (i + 1) hi).2 with q | q
          · rw [q, Int32.zero_add]; omega
          · rw [q, ← iI_of (f i), show (1 : Int32) = iI 1 from rfl, iI_add, iI_to ⟨by omega, by omega⟩]; omega
      refine ⟨⟨⟨(hwo _ (by omega) (by omega) (by omega)).trans c1, ⟨(hwo _ (by omega) (by omega) (by omega)).trans c2.1, c2.2⟩, ⟨(hwo _ (by omega) (by omega) (by omega)).trans c3.1, c3.2⟩, ⟨(hwo _ (by omega) (by omega) (by omega)).trans c4.1, c4.2⟩, (hwo _ (by omega) (by omega) (by omega)).trans c5.1, c5.2⟩, MOr_c rfl (fun i hi => hwo _ (by omega) (by omega) (by omega)) c6, ⟨fun q => ?_, ⟨?_, ?_, ?_, fun i hi => ?_⟩, ?_⟩, TYr_c (fun i hi => hwo _ (by omega) (by omega) (by omega)) c8⟩, rfl, (hkp 13 (by omega) (by omega) (by omega) (by omega) (by omega) (by omega)).trans h13⟩
      · rw [tb2' T hT] at q; cases q
      · exact (upd_ne (by omega)).trans upd_at
      · exact upd_at
      · exact ((upd_ne (by omega)).trans (upd_ne (by omega))).trans ((g2 0 (by omega)).1.trans g1)
      · have hi' : i < (nI N).toInt.toNat := hi
        rw [hNn] at hi'
        show upd (upd w' 2655 3) 2660 (nI N) (2692 + (i + 1)) = f (i + 1) - f i
        rw [upd_ne (by omega), upd_ne (by omega), (g2 (i + 1) (by omega)).1, hf.2 i hi', Int32.add_sub_cancel]
      · show (1 ≤ (nI N).toInt ∧ (nI N).toInt ≤ 400) ∧ N + 1 = (nI N).toInt.toNat + 1 ∧ f 0 = 0 ∧ ∀ i, i < (nI N).toInt.toNat → (f (i + 1)).toInt = (f i).toInt ∨ (f (i + 1)).toInt = (f i).toInt + 1
        rw [hNn, hNt]
        refine ⟨⟨by omega, by omega⟩, rfl, hf.1.trans g1, fun i hi => ?_⟩
        have h1 := hfb i (by omega)
        rw [hf.2 i hi]
        rcases (g2 (i + 1) (by omega)).2 with q | q
        · left; rw [q, Int32.zero_add]
        · right
          have : (1 : Int32) + f i = iI (1 + (f i).toInt) := by rw [← iI_add, iI_of]; rfl
          rw [q, this, iI_to ⟨by omega, by omega⟩]; omega
  rcases SS_fine a3 with ⟨e0, e1⟩ | ⟨e0, e1⟩
  · obtain ⟨z1, z2, x, z3, z4, z5⟩ := a6 e1
    subst z2
    obtain ⟨N, hNx⟩ : ∃ N : Nat, x = N := ⟨x.toNat, by omega⟩
    have hvN : v = nI N := by rw [z3, hNx, nI_iI]
    subst hvN
    have hcls : r_readRow n lv F tp = zloop (r_readRow_23 n lv tp (nI N) (N + 1)) n (0, 0, F1, fun _ => 0) := by
      unfold r_readRow
      rw [a1, Option.bind_some]
      dsimp only
      rw [qI_1, zck_t (qI_z (by omega) (by omega)), qI_n (by omega)]
    have hbit := hfr z1
    have hz := (hct.2.2.1.1 hbit).2
    obtain ⟨xx, yy, s1, s2, ar, f, F', M', w', rfl, s3, rfl, s4, s5, s6, s7⟩ := zloop_sim3 (f := r_readRow_23 n lv tp (nI N) (N + 1)) (g := mrowRead_19 n tq (nI N)) (R := RWR tp L N M w) (S := fun (x : vLaw × (Nat → Int32)) (y : (Nat → Int32) × (Nat → Int32)) => ∃ (ar f F M1 w1 : Nat → Int32), x = (.inr (.inr (.inr ((N + 1, f), nI N))), F) ∧ (f 0 = ar 0 ∧ ∀ i, i < N → f (i + 1) = ar (i + 1) + f i) ∧ y = (M1, if M1 6 = 0 then upd (upd w1 2655 3) 2660 (nI N) else w1) ∧ (SS tp L F M1 ∨ PE L F M1) ∧ KP M M1 ∧ (∀ j, j < 2692 ∨ 3094 ≤ j → w1 j = w j) ∧ (M1 6 = 0 → ar 0 = 0 ∧ ∀ j, j ≤ N → w1 (2692 + j) = ar j ∧ (ar j = 0 ∨ ar j = 1))) (fun c => N + 2 - c.2.1.toNatClampNeg) (fun c r hR => R_step hq hL ⟨by omega, by omega⟩ lv hn c r hR) n n (0, 0, F1, fun _ => 0) (-1, M1, w) ⟨0, 0, -1, F1, _, M1, w, by omega, rfl, rfl, a3, a4, fun j hj => rfl, fun _ => ⟨0, rfl, by decide +kernel, by omega, by omega, rfl, fun j hj => ⟨hz j (by omega), Or.inl rfl⟩⟩⟩ (by omega) (by omega)
    refine ⟨_, _, _, _, _, hcls.trans s1, a2, s2, hend N ar f F' M' w' (fun _ => ⟨by omega, by omega⟩) s3 s4 s5 s6 s7⟩
  · have hv0 := a7 e1
    obtain ⟨f, s1, s2, s3⟩ := c_sums (N := 0) (by omega) (fun _ => 0) lv F1 tp hn
    have hcls : r_readRow n lv F tp = some (.inr (.inr (.inr ((0 + 1, f), nI 0))), F1) := by
      unfold r_readRow
      rw [a1, Option.bind_some, hv0]
      dsimp only
      rw [zck_t (by decide +kernel), show ((0 : Int32) + 1).toNatClampNeg = 0 + 1 by decide +kernel]
      obtain ⟨r, z1, z2⟩ := zloop_inv (f := r_readRow_23 n lv tp 0 (0 + 1)) (R := fun c => c = (0, 0, F1, fun _ => 0)) (S := fun r => r = (.inr (.inr (.inr ((0 + 1, f), nI 0))), F1)) (fun _ => 0) (by
        rintro c rfl
        right
        refine ⟨_, ?_, rfl⟩
        unfold r_readRow_23
        dsimp only
        rw [if_neg (by decide), if_neg (show ¬ F1 1 = 3 by rw [e1.1.2.1]; decide)]
        have : r_readRow_73 n lv F1 tp (fun _ => 0) 0 (0 + 1) = _ := s1
        rw [this]; rfl) n _ rfl (by omega)
      rw [z1, z2]
    have hlp : zloop (mrowRead_19 n tq v') n (-1, M1, w) = some (M1, if M1 6 = 0 then upd (upd w 2655 3) 2660 (nI 0) else w) := by
      obtain ⟨r, z1, z2⟩ := zloop_inv (f := mrowRead_19 n tq v') (R := fun c => c = (-1, M1, w)) (S := fun r => r = (M1, if M1 6 = 0 then upd (upd w 2655 3) 2660 (nI 0) else w)) (fun _ => 0) (by
        rintro c rfl
        right
        refine ⟨_, ?_, rfl⟩
        unfold mrowRead_19
        dsimp only
        rw [m_fine, Option.bind_some, if_neg (dneg e0), R_end (tp := tp) (L := L) (N := 0) (by omega) (M0 := M0) (w0 := w0), if_neg e0, if_neg e0]; rfl) n _ rfl (by omega)
      rw [z1, z2]
    exact ⟨_, _, _, _, _, hcls, a2, hlp, hend 0 (fun _ => 0) f F1 M1 w (fun z => absurd z e0) ⟨s2, s3⟩ (Or.inl (Or.inr e1)) a4 (fun _ _ => rfl) (fun z => absurd z e0)⟩
