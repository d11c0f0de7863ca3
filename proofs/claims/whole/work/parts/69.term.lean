/-! ===== calls: term ===== -/
theorem zloop_simx {σ ρ τ κ : Type} {f : σ → Option (σ ⊕ ρ)} {g : τ → Option (τ ⊕ κ)} {R : Nat → σ → τ → Prop} {S : ρ → κ → Prop} (N : Nat) (hN : ∀ i s t, R i s t → i ≤ N) (hs : ∀ i s t, R i s t → (∃ s' t', f s = some (.inl s') ∧ g t = some (.inl t') ∧ R (i + 1) s' t') ∨ ∃ r q, f s = some (.inr r) ∧ g t = some (.inr q) ∧ S r q) : ∀ (n i : Nat) (s : σ) (t : τ), R i s t → N < n + i → ∃ r q, zloop f n s = some r ∧ zloop g n t = some q ∧ S r q := by
  intro n
  induction n with
  | zero => intro i s t hR h; have := hN i s t hR; omega
  | succ n ih =>
    intro i s t hR h
    rcases hs i s t hR with ⟨s', t', h1, h2, h3⟩ | ⟨r, q, h1, h2, h3⟩
    · obtain ⟨r, q, h5, h6, h7⟩ := ih (i + 1) s' t' h3 (by omega)
      exact ⟨r, q, by rw [zloop, h1]; exact h5, by rw [zloop, h2]; exact h6, h7⟩
    · exact ⟨r, q, by rw [zloop, h1], by rw [zloop, h2], h3⟩
theorem c_isShare {p q : Int} (hp : b32 p) (hq : b32 q) : k_isShare (iI p) (iI q) = some (decide ((1 ≤ q ∧ q ≤ 1000000) ∧ 0 ≤ p ∧ p ≤ q)) := by
  unfold k_isShare
  rw [if_c (show (iI q < (1 : Int32)) = (q < 1) from iI_lt (b := 1) hq ⟨by omega, by omega⟩), if_c (show ((1000000 : Int32) < iI q) = (1000000 < q) from iI_lt (a := 1000000) ⟨by omega, by omega⟩ hq), if_c (show (iI p < (0 : Int32)) = (p < 0) from iI_lt (b := 0) hp ⟨by omega, by omega⟩), if_c (iI_lt hq hp)]
  by_cases a1 : q < 1
  · rw [if_pos a1, decide_eq_false (by omega)]
  rw [if_neg a1]
  by_cases a2 : 1000000 < q
  · rw [if_pos a2, decide_eq_false (by omega)]
  rw [if_neg a2]
  by_cases a3 : p < 0
  · rw [if_pos a3, decide_eq_false (by omega)]
  rw [if_neg a3]
  by_cases a4 : q < p
  · rw [if_pos a4, decide_eq_false (by omega)]
  · rw [if_neg a4, decide_eq_true (by omega)]
theorem m_isFraction {p q : Int} (hp : b32 p) (hq : b32 q) : misFraction (iI p) (iI q) = some (decide ((1 ≤ q ∧ q ≤ 1000000) ∧ 0 ≤ p ∧ p ≤ q)) := by
  unfold misFraction
  rw [iI_J hp, iI_J hq, show (1 : Int64) = iJ 1 by decide +kernel, show (0 : Int64) = iJ 0 by decide +kernel, show (1000000 : Int64) = iJ 1000000 by decide +kernel, m_isIn (b32_64 hq) ⟨by omega, by omega⟩ ⟨by omega, by omega⟩, Option.bind_some, m_isIn (b32_64 hp) ⟨by omega, by omega⟩ (b32_64 hq), Option.bind_some]
  by_cases a1 : 1 ≤ q ∧ q ≤ 1000000
  · rw [if_pos (decide_eq_true a1)]
    by_cases a2 : 0 ≤ p ∧ p ≤ q
    · rw [if_pos (decide_eq_true a2), decide_eq_true ⟨a1, a2⟩]
    · rw [if_neg (dneg a2), decide_eq_false (fun z => a2 z.2)]
  · rw [if_neg (dneg a1), decide_eq_false (fun z => a1 z.1)]
