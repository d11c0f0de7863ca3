/-! ===== design: statement after statement ===== -/
theorem zloop_sim4 {σ ρ τ κ : Type} {f : σ → Option (σ ⊕ ρ)} {g : τ → Option (τ ⊕ κ)} {R : σ → τ → Prop} {S : ρ → Option κ → Prop} (μ : σ → Nat) (hs : ∀ s t, R s t → (∃ s' t', f s = some (.inl s') ∧ g t = some (.inl t') ∧ R s' t' ∧ μ s' < μ s) ∨ ∃ r o, f s = some (.inr r) ∧ g t = o.map (fun z => .inr z) ∧ S r o) : ∀ (n m : Nat) (s : σ) (t : τ), R s t → μ s < n → μ s < m → ∃ r o, zloop f n s = some r ∧ zloop g m t = o ∧ S r o := by
  intro n
  induction n with
  | zero => intro m s t _ h; omega
  | succ n ih =>
    intro m s t hR h1 h2
    obtain ⟨m', rfl⟩ : ∃ m', m = m' + 1 := ⟨m - 1, by omega⟩
    rcases hs s t hR with ⟨s', t', a1, a2, a3, a4⟩ | ⟨r, o, a1, a2, a3⟩
    · obtain ⟨r, q, b1, b2, b3⟩ := ih m' s' t' a3 (by omega) (by omega)
      exact ⟨r, q, by rw [zloop, a1]; exact b1, by rw [zloop, a2]; exact b2, b3⟩
    · refine ⟨r, o, by rw [zloop, a1], ?_, a3⟩
      rw [zloop, a2]
      cases o with
      | none => rfl
      | some z => rfl
def pcn (T : Nat) : Nat := T % 2 + T / 2 % 2 + T / 4 % 2 + T / 8 % 2 + T / 16 % 2 + T / 32 % 2 + T / 64 % 2
theorem pcn_s : ∀ T, T < 128 → ∀ k, k < 7 → T.testBit k = false → (T ||| 2 ^ k) < 128 ∧ pcn (T ||| 2 ^ k) = pcn T + 1 := by decide +kernel
theorem pcn_le (T : Nat) : pcn T ≤ 7 := by unfold pcn; omega
def DLR (tp : Nat → Int32) (L : Nat) (M0 w0 : Nat → Int32) (c : Int32 × (Nat → Int32) × (vLaw) × (Option vArr) × (vTrue) × (Nat → Int32)) (r : (Nat → Int32) × (Nat → Int32)) : Prop := ∃ (i T : Nat) (R : Nat → Int32) (lv : vLaw) (mo : Option vArr) (ty : vTrue) (F M w : Nat → Int32), i ≤ 8 ∧ c = (nI i, R, lv, mo, ty, F) ∧ r = (M, w) ∧ SS tp L F M ∧ KQ M0 M ∧ wfr w0 w ∧ W56 w ∧ moB mo ∧ (FI tp L F M → CT R lv mo ty w T ∧ R 1 = nI T ∧ M 13 = nI T ∧ T < 128 ∧ pcn T = i)
def DEN (n : Nat) (tq M0 w0 : Nat → Int32) (x1 : Int32) (x : (Option vDes) × (Nat → Int32) × (vLaw) × (Option vArr) × (vTrue) × (Nat → Int32)) (o : Option (Int32 × (Nat → Int32) × (Nat → Int32))) : Prop := ∃ M w M' w', o = mdesign_53 n M tq w x1 ∧ misAllRead n M w = some (M', w') ∧ (x.2.2.2.2.2 3 = M' 6 ∧ x.2.2.2.2.2 4 = M' 7) ∧ KQ M0 M' ∧ wfr w0 w' ∧ ((M' 6 ≠ 0 ∧ x.1 = none) ∨ (M' 6 = 0 ∧ ∃ d, x.1 = some d ∧ vOk d ∧ DR d w' 2652))
theorem TK_5 {tp : Nat → Int32} {L fr to : Nat} {kd : Int32} {lk : Prop} (h : TK tp L fr to kd lk) : (kd = 5) = (L ≤ fr) := by
  have hso : so (tp fr) ≠ 5 := by
    have := (so_e (tp fr)).2.2.2.2.2
    rcases this with q | q | q | q | q <;> rw [q] <;> decide
  rcases h with ⟨a, _, b⟩ | ⟨a, _, _, b⟩ | ⟨a, _, _, b⟩
  · exact propext ⟨fun _ => a, fun _ => b⟩
  · refine propext ⟨fun z => ?_, fun z => by omega⟩
    rcases b with ⟨_, b⟩ | ⟨_, b⟩
    · rw [b] at z; exact absurd z (by decide)
    · rw [b] at z; exact absurd z hso
  · refine propext ⟨fun z => ?_, fun z => by omega⟩
    rw [b] at z; exact absurd z hso
theorem D_step {tp tq : Nat → Int32} (hq : ∀ i, i < 800 → tq i = tp i) {L : Nat} (hL : L ≤ 800) {M0 w0 : Nat → Int32} {x1 : Int32} {n : Nat} (hn : 250000 ≤ n) (c : Int32 × (Nat → Int32) × (vLaw) × (Option vArr) × (vTrue) × (Nat → Int32)) (r : (Nat → Int32) × (Nat → Int32)) (h : DLR tp L M0 w0 c r) : (∃ c' r', r_readDesign_9 n tp c = some (.inl c') ∧ mdesign_28 n tq x1 r = some (.inl r') ∧ DLR tp L M0 w0 c' r' ∧ 8 - c'.1.toNatClampNeg < 8 - c.1.toNatClampNeg) ∨ ∃ x o, r_readDesign_9 n tp c = some (.inr x) ∧ mdesign_28 n tq x1 r = o.map (fun z => .inr z) ∧ DEN n tq M0 w0 x1 x o := by
  obtain ⟨i, T, R, lv, mo, ty, F, M, w, hi, rfl, rfl, hss, hkq, hwf, h56, hmb, hfi⟩ := h
  have h7 : ((7 : Int32) < nI i) = (7 < i) := by
    rw [nI_iI]; show (iI 7 < iI (i : Int)) = _
    rw [iI_lt ⟨by omega, by omega⟩ ⟨by omega, by omega⟩]; exact propext ⟨fun z => by omega, fun z => by omega⟩
  unfold r_readDesign_9 mdesign_28
  dsimp only
  rw [if_c h7, m_fine, Option.bind_some]
  rcases SS_fine hss with ⟨f0, f1⟩ | ⟨f0, f1⟩
  · obtain ⟨g1, g2, g3, g4, g5⟩ := hfi f1
    have := pcn_le T
    obtain ⟨q, M1, e1, e2, e3, e4, e5, e6⟩ := SS_next hq hL (Or.inl f1 : SS tp L F M) hn
    obtain ⟨u1, u2, u3, to, u4, u5, u6⟩ := e6 f1
    have k5 := TK_5 u6
    have kp : KP M M1 := fun i i4 _ _ _ _ _ => e4 i i4
    rw [if_neg (show ¬ 7 < i by omega), if_pos f1.1.2.1, if_pos (decide_eq_true f0), e1, Option.bind_some]
    dsimp only
    rw [if_c k5, if_c (show (M1 3 ≤ nI q) = (L ≤ q) by rw [e4 3 (by omega), f1.2.1.1, qI_le (by omega) (by omega)])]
    by_cases p : L ≤ q
    · right
      rw [if_pos p, if_pos p]
      obtain ⟨x, M', w', a1, a2, a3⟩ := E_end (T := T) (Or.inl u2 : SS tp L F M1) (hkq.k kp) hwf h56 hmb (fun _ => g1) hn
      rw [a1]
      exact ⟨x, _, rfl, rfl, M1, w, M', w', rfl, a2, a3⟩
    · left
      rw [if_neg p, if_neg p]
      obtain ⟨r, m, T', a1, a2, a3, a4⟩ := st_any hq hL g4 u2 g2 ((e4 13 (by omega)).trans g3) (hkq.k kp) hwf h56 hmb g1 hn
      rw [a1, a2, Option.bind_some, Option.bind_some, qI_1]
      refine ⟨_, _, rfl, rfl, ⟨i + 1, T', r.1, r.2.1, r.2.2.1, r.2.2.2.1, r.2.2.2.2, m.1, m.2, by omega, rfl, rfl, a3.1, a3.2.1, a3.2.2.1, a3.2.2.2.1, a3.2.2.2.2.1, fun z => ?_⟩, ?_⟩
      · obtain ⟨b1, b2, b3⟩ := a3.2.2.2.2.2 z
        obtain ⟨k, d1, d2, d3⟩ := a4 z
        have := pcn_s T g4 k d1 d2
        rw [← d3] at this
        exact ⟨b1, b2, b3, this.1, by omega⟩
      · dsimp only; rw [qI_n (by omega), qI_n (by omega)]; omega
  · right
    obtain ⟨x, M', w', a1, a2, a3⟩ := E_end (T := T) (lv := lv) (ty := ty) (R := R) (Or.inr f1 : SS tp L F M) hkq hwf h56 hmb (fun z => (not_both z f1).elim) hn
    rw [if_neg f1.1.1, ite_self, if_neg (dneg f0), a1]
    exact ⟨x, _, rfl, rfl, M, w, M', w', rfl, a2, a3⟩
