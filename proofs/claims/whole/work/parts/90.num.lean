/-! ===== design: numbers, ends ===== -/
def nv (f : Nat → Int32) : Nat → Int
  | 0 => 0
  | m + 1 => 10 * nv f m + (f m).toInt - 48
theorem nv_bd {f : Nat → Int32} : ∀ m, m ≤ 7 → (∀ i, i < m → 48 ≤ (f i).toInt ∧ (f i).toInt ≤ 57) → 0 ≤ nv f m ∧ nv f m ≤ 10 ^ m - 1
  | 0, _, _ => by rw [nv]; decide
  | m + 1, hm, h => by
    have h1 := nv_bd m (by omega) (fun i hi => h i (by omega))
    have h2 := h m (by omega)
    rw [nv, Int.pow_succ]; omega
theorem nv_b {f : Nat → Int32} {m : Nat} (hm : m ≤ 7) (h : ∀ i, i < m → 48 ≤ (f i).toInt ∧ (f i).toInt ≤ 57) : 0 ≤ nv f m ∧ nv f m ≤ 9999999 := by
  have h1 := nv_bd m hm h
  have : ∀ j : Nat, j ≤ 7 → (10 : Int) ^ j ≤ 10000000 := by decide
  have := this m hm
  omega
def mcont (n : Nat) (F tq : Nat → Int32) (lo hi : Int32) (q m : Nat) : Option (Int32 × (Nat → Int32)) := if F 6 = 0 then (if m = 0 ∨ 7 < m ∨ nI q = F 5 then mreads_57 n F tq lo hi (nI q) (nI m) else mreads_61 n F tq lo hi (nI q) (nI m)) else mreads_61 n F tq lo hi (nI q) (nI m)
theorem m_count {tp tq : Nat → Int32} (hq : ∀ i, i < 800 → tq i = tp i) {L : Nat} (hL : L ≤ 800) {M : Nat → Int32} (h3 : M 3 = nI L) {q : Nat} (hqL : q ≤ L) {lo hi : Int32} {n : Nat} (hn : 250000 ≤ n) {S : Int32 × (Nat → Int32) → Prop} (hc : ∀ m, q + m ≤ L → rnn tp L 3 q (q + m) → ∃ r, mcont n M tq lo hi q m = some r ∧ S r) : ∃ r, zloop (mreads_13 n M tq lo hi (nI q)) n 0 = some r ∧ S r := by
  obtain ⟨r, e1, e2⟩ := zloop_inv (f := mreads_13 n M tq lo hi (nI q)) (R := fun s => ∃ m : Nat, s = nI m ∧ q + m ≤ L ∧ ∀ i, q ≤ i → i < q + m → i < L ∧ so (tp i) = 3) (S := S) (fun s => L - q - s.toNatClampNeg) (by
    rintro s ⟨m, rfl, hm, hall⟩
    unfold mreads_13
    rw [show nI q + nI m = nI (q + m) by rw [nI_iI, nI_iI, nI_iI, iI_add]; rfl, (m_letter hq hL h3 (by omega)).2, Option.bind_some]
    by_cases p : q + m < L ∧ so (tp (q + m)) = 3
    · left
      rw [if_pos (decide_eq_true p), qI_1]
      refine ⟨_, rfl, ⟨m + 1, rfl, by omega, fun i i0 i1 => ?_⟩, by rw [qI_n (by omega), qI_n (by omega)]; omega⟩
      by_cases t : i = q + m
      · rw [t]; exact p
      · exact hall i i0 (by omega)
    · right
      obtain ⟨r, c1, c2⟩ := hc m hm ⟨by omega, hall, p⟩
      refine ⟨r, ?_, c2⟩
      rw [if_neg (dneg p), m_fine, Option.bind_some, if_c (show (nI m = (0 : Int32)) = (m = 0) from qI_eq (b := 0) (by omega) (by omega)), if_c (show ((7 : Int32) < nI m) = (7 < m) by
        rw [nI_iI]; show (iI 7 < iI (m : Int)) = _; rw [iI_lt ⟨by omega, by omega⟩ ⟨by omega, by omega⟩]; exact propext ⟨fun z => by omega, fun z => by omega⟩)]
      unfold mcont at c1
      by_cases f : M 6 = 0
      · rw [if_pos f] at c1
        rw [if_pos (decide_eq_true f)]
        by_cases x1 : m = 0
        · rw [if_pos (Or.inl x1)] at c1
          rw [if_pos x1, c1]; rfl
        · rw [if_neg x1]
          by_cases x2 : 7 < m
          · rw [if_pos (Or.inr (Or.inl x2))] at c1
            rw [if_pos x2, c1]; rfl
          · rw [if_neg x2]
            by_cases x3 : nI q = M 5
            · rw [if_pos (Or.inr (Or.inr x3))] at c1
              rw [if_pos x3, c1]; rfl
            · rw [if_neg (fun z => by rcases z with z | z | z; exact x1 z; exact x2 z; exact x3 z)] at c1
              rw [if_neg x3, c1]; rfl
      · rw [if_neg f] at c1
        rw [if_neg (dneg f), c1]; rfl) n 0 ⟨0, rfl, by omega, fun i i0 i1 => by omega⟩ (by omega)
  exact ⟨r, e1, e2⟩
theorem SS_unlike {tp tq : Nat → Int32} (hq : ∀ i, i < 800 → tq i = tp i) {L : Nat} (hL : L ≤ 800) {F M : Nat → Int32} (h : SS tp L F M) {n : Nat} (hn : 250000 ≤ n) : ∃ F' M', n_fail F 1 (F 2) = some F' ∧ munlike n M tq = some M' ∧ BD L F' M' ∧ KP M M' ∧ M' 11 = M 11 := by
  obtain ⟨q, M1, e1, eqL, e4, e5, e6, e7⟩ := SS_next hq hL h hn
  have hfi : FI tp L F M1 → F 2 = nI q := fun z => by
    rcases SS_fine h with ⟨_, f1⟩ | ⟨f0, f1⟩
    · exact (e7 f1).1
    · exact absurd z.2.1.2.1 (by rw [e5 6 (by omega)]; exact f0)
  obtain ⟨F', M', g1, g2, g3, g4, g5⟩ := SS_fail hL e6 (k := 1) (p := F 2) (p' := nI q) (by decide) hfi
  unfold munlike
  rw [e1, Option.bind_some]
  dsimp only
  rw [g2, Option.bind_some]
  exact ⟨F', M', g1, rfl, g3, fun i i4 i5 i6 i7 i10 i11 => (g4 i i4 i5 i6 i7 i10 i11).trans (e5 i i4), g5.trans (e5 11 (by omega))⟩
/-- the state of the reference with its number's place -/
theorem SS_11 {tp : Nat → Int32} {L : Nat} {F M : Nat → Int32} (h : SS tp L F M) (x : Int32) : SS tp L F (upd M 11 x) := by
  rcases h with h | h
  · exact Or.inl h
  · exact Or.inr h
theorem SS_number {tp tq : Nat → Int32} (hq : ∀ i, i < 800 → tq i = tp i) {L : Nat} (hL : L ≤ 800) {F M : Nat → Int32} (h : SS tp L F M) {lo hi : Int} (hlo : b32 lo) (hhi : b32 hi) {n : Nat} (hn : 250000 ≤ n) : ∃ v v' F' M', n_takeNumber n F tp (iI lo) (iI hi) = some (v, F') ∧ mreads n M tq (iI lo) (iI hi) = some (v', M') ∧ SS tp L F' M' ∧ KP M M' ∧ (FI tp L F M → M' 11 = F 2) ∧ (FI tp L F' M' → FI tp L F M ∧ v = v' ∧ ∃ x : Int, v = iI x ∧ lo ≤ x ∧ x ≤ hi) ∧ (BD L F' M' → v = 0) := by
  obtain ⟨q, M1, e1, eqL, e4, e5, e6, e7⟩ := SS_next hq hL h hn
  unfold mreads
  rw [e1, Option.bind_some]
  dsimp only
  have ss11 := SS_11 e6 (nI q)
  have k11 : KP M (upd M1 11 (nI q)) := fun i i4 i5 i6 i7 i10 i11 => (upd_ne i11).trans (e5 i i4)
  have h3 : upd M1 11 (nI q) 3 = nI L := by
    rcases e6 with z | z
    · exact z.2.1.1
    · exact z.2.1.1
  rcases SS_fine h with ⟨f0, f1⟩ | ⟨f0, f1⟩
  · obtain ⟨g1, g2, g3, to, g4, ⟨g5, g6⟩, g7⟩ := e7 f1
    have h60 : upd M1 11 (nI q) 6 = 0 := (e5 6 (by omega)).trans f0
    have h50 : upd M1 11 (nI q) 5 = M 5 := e5 5 (by omega)
    have ffi : FI tp L F (upd M1 11 (nI q)) := by
      rcases ss11 with z | z
      · exact z
      · exact absurd h60 (by rw [z.2.1.2.1]; exact z.1.1)
    by_cases k3 : F 1 = 3
    · -- a number
      obtain ⟨a1, a2, a3, a4⟩ : q < L ∧ so (tp q) = 3 ∧ rnn tp L 3 (q + 1) to ∧ ¬ M 5 = nI q ∧ to - q ≤ 7 := by
        rcases g7 with ⟨_, _, z⟩ | ⟨b1, b2, b3, b4⟩ | ⟨b1, b2, _, b3⟩
        · rw [z] at k3; exact absurd k3 (by decide)
        · rcases b4 with ⟨_, z⟩ | ⟨z, z2⟩
          · rw [z] at k3; exact absurd k3 (by decide)
          · rw [z2] at k3
            rw [k3] at b3
            exact ⟨b1, k3, b3, fun y => z (Or.inl y), by
              rcases Nat.lt_or_ge 7 (to - q) with y | y
              · exact absurd (Or.inr ⟨k3, y⟩) z
              · exact y⟩
        · rw [b3] at k3; exact absurd (Or.inr k3) b2
      have hrun : rnn tp L 3 q to := by
        refine ⟨g5, fun i i0 i1 => ?_, a3.2.2⟩
        by_cases t : i = q
        · rw [t]; exact ⟨a1, a2⟩
        · exact a3.2.1 i (by omega) i1
      have hdig : ∀ i, i < to - q → 48 ≤ (tp (q + i)).toInt ∧ (tp (q + i)).toInt ≤ 57 := fun i hi => by
        have := (hrun.2.1 (q + i) (by omega) (by omega)).2
        rw [(so_e (tp (q + i))).2.2.2.1] at this
        exact this
      have hvb := nv_b (f := fun i => tp (q + i)) a4.2 hdig
      have hqt := a3.1
      generalize hv : nv (fun i => tp (q + i)) (to - q) = V at *
      -- the class's loop
      have hcl : ∃ v F', n_takeNumber n F tp (iI lo) (iI hi) = some (v, F') ∧ ((lo ≤ V ∧ V ≤ hi) ∧ v = iI V ∧ n_advance n F tp = some F' ∨ ¬ (lo ≤ V ∧ V ≤ hi) ∧ v = 0 ∧ n_fail F 2 (F 2) = some F') := by
        unfold n_takeNumber
        rw [if_pos k3]
        obtain ⟨F1, adv, _⟩ := FI_adv (M' := upd (upd M1 4 (F 6)) 5 (F 6)) hL g2 ⟨rfl, rfl, rfl⟩ rfl (Or.inl ⟨Or.inr k3, rfl⟩) hn
        obtain ⟨r, z1, z2⟩ := zloop_inv (f := n_takeNumber_27 n F tp (iI lo) (iI hi)) (R := fun s => ∃ m : Nat, m ≤ to - q ∧ s = (iI (nv (fun i => tp (q + i)) m), nI (q + m))) (S := fun r => ((lo ≤ V ∧ V ≤ hi) ∧ r.1 = iI V ∧ n_advance n F tp = some r.2 ∨ ¬ (lo ≤ V ∧ V ≤ hi) ∧ r.1 = 0 ∧ n_fail F 2 (F 2) = some r.2)) (fun s => to - s.2.toNatClampNeg) (by
          rintro s ⟨m, hm, rfl⟩
          unfold n_takeNumber_27 n_takeNumber_68
          dsimp only
          rw [if_c (show (F 6 ≤ nI (q + m)) = (to ≤ q + m) by rw [g4, qI_le (by omega) (by omega)])]
          by_cases p : to ≤ q + m
          · right
            have : m = to - q := by omega
            subst this
            rw [hv, if_pos p, if_c (iI_lt ⟨by omega, by omega⟩ hlo), if_c (iI_le ⟨by omega, by omega⟩ hhi)]
            have hf : ∃ F2, n_fail F 2 (F 2) = some F2 := by
              unfold n_fail
              rw [if_pos f1.1.2.1]; exact ⟨_, rfl⟩
            obtain ⟨F2, hf⟩ := hf
            by_cases c1 : V < lo
            · rw [if_pos c1, hf]
              exact ⟨_, rfl, Or.inr ⟨by omega, rfl, rfl⟩⟩
            · rw [if_neg c1]
              by_cases c2 : V ≤ hi
              · rw [if_pos c2, adv]
                exact ⟨_, rfl, Or.inl ⟨⟨by omega, c2⟩, rfl, rfl⟩⟩
              · rw [if_neg c2, hf]
                exact ⟨_, rfl, Or.inr ⟨by omega, rfl, rfl⟩⟩
          · left
            have hmb := nv_b (f := fun i => tp (q + i)) (m := m) (by omega) (fun i hi => hdig i (by omega))
            rw [if_neg p, zck_t (qI_z (by omega) (by omega)), qI_n (by omega), qI_1]
            refine ⟨_, rfl, ⟨m + 1, by omega, ?_⟩, by dsimp only; rw [qI_n (by omega)]; omega⟩
            rw [nv]
            congr 1
            rw [show (10 : Int32) = iI 10 by decide +kernel, show (48 : Int32) = iI 48 by decide +kernel, ← iI_of (tp (q + m)), iI_to (i_b32 _), iI_mul, iI_add, iI_sub]
            congr 1; omega) n (0, nI q) ⟨0, by omega, rfl⟩ (by dsimp only; rw [qI_n (by omega)]; omega)
        exact ⟨r.1, r.2, by rw [g1]; exact z1, z2⟩
      -- the reference's
      obtain ⟨r, z1, z2⟩ := m_count hq hL h3 eqL (lo := iI lo) (hi := iI hi) hn (S := fun r => r.1 = iI V ∧ ((lo ≤ V ∧ V ≤ hi) ∧ r.2 = upd (upd (upd M1 11 (nI q)) 4 (F 6)) 5 (F 6) ∨ ¬ (lo ≤ V ∧ V ≤ hi) ∧ mfail (upd (upd (upd M1 11 (nI q)) 4 (F 6)) 5 (F 6)) 2 (F 2) = some r.2)) (fun m hm hr => by
        have hmt : q + m = to := rnn_u hr hrun
        unfold mcont mreads_61
        rw [if_pos h60, if_neg (fun z => by
          rcases z with z | z | z
          · omega
          · omega
          · rw [h50] at z; exact a4.1 z.symm), m_fine, decide_eq_true h60, Option.bind_some, if_pos rfl]
        obtain ⟨r, y1, y2⟩ := zloop_inv (f := mreads_76 n (upd M1 11 (nI q)) tq (iI lo) (iI hi) (nI q) (nI m)) (R := fun s => ∃ j : Nat, j ≤ m ∧ s = (iI (nv (fun i => tp (q + i)) j), nI j)) (S := fun r => r.1 = iI V ∧ ((lo ≤ V ∧ V ≤ hi) ∧ r.2 = upd (upd (upd M1 11 (nI q)) 4 (F 6)) 5 (F 6) ∨ ¬ (lo ≤ V ∧ V ≤ hi) ∧ mfail (upd (upd (upd M1 11 (nI q)) 4 (F 6)) 5 (F 6)) 2 (F 2) = some r.2)) (fun s => m - s.2.toNatClampNeg) (by
          rintro s ⟨j, hj, rfl⟩
          unfold mreads_76
          dsimp only
          have hqm : nI q + nI m = F 6 := by rw [g4, ← hmt, nI_iI, nI_iI, nI_iI, iI_add]; rfl
          rw [if_c (qI_le (a := m) (b := j) (by omega) (by omega)), hqm]
          by_cases p : m ≤ j
          · right
            have hjm : j = to - q := by omega
            subst hjm
            rw [hv, if_pos p, iI_J ⟨by omega, by omega⟩, iI_J hlo, iI_J hhi, m_isIn ⟨by omega, by omega⟩ (b32_64 hlo) (b32_64 hhi), Option.bind_some]
            by_cases c : lo ≤ V ∧ V ≤ hi
            · rw [if_pos (decide_eq_true c)]
              exact ⟨_, rfl, rfl, Or.inl ⟨c, rfl⟩⟩
            · have hf : ∃ M2, mfail (upd (upd (upd M1 11 (nI q)) 4 (F 6)) 5 (F 6)) 2 (F 2) = some M2 := by
                unfold mfail
                rw [if_pos (show (upd (upd (upd M1 11 (nI q)) 4 (F 6)) 5 (F 6)) 6 = 0 from h60)]; exact ⟨_, rfl⟩
              obtain ⟨M2, hf⟩ := hf
              rw [if_neg (dneg c), ← g1]
              show ∃ r, (mfail (upd (upd (upd M1 11 (F 2)) 4 (F 6)) 5 (F 6)) 2 (F 2)).bind _ = _ ∧ _
              rw [← g1] at hf
              rw [hf]
              exact ⟨_, rfl, rfl, Or.inr ⟨c, rfl⟩⟩
          · left
            rw [if_neg p, show nI q + nI j = nI (q + j) by rw [nI_iI, nI_iI, nI_iI, iI_add]; rfl, zck_t (qI_z (by omega) (by omega)), qI_n (by omega), hq (q + j) (by omega), qI_1]
            refine ⟨_, rfl, ⟨j + 1, by omega, ?_⟩, by dsimp only; rw [qI_n (by omega), qI_n (by omega)]; omega⟩
            rw [nv]
            congr 1
            rw [show (10 : Int32) = iI 10 by decide +kernel, show (48 : Int32) = iI 48 by decide +kernel, ← iI_of (tp (q + j)), iI_to (i_b32 _), iI_mul, iI_add, iI_sub]) n (0, 0) ⟨0, by omega, rfl⟩ (by show m - (0 : Int32).toNatClampNeg < n; omega)
        exact ⟨r, y1, y2⟩)
      obtain ⟨v, F', c1, c2⟩ := hcl
      obtain ⟨rv, rM⟩ := r
      obtain ⟨y1, y2⟩ := z2
      dsimp only at y1 y2
      rw [c1, z1]
      rcases c2 with ⟨d1, d2, d3⟩ | ⟨d1, d2, d3⟩
      · rcases y2 with ⟨_, y2⟩ | ⟨y2, _⟩
        · obtain ⟨F1, adv, hfi⟩ := FI_adv (M' := upd (upd (upd M1 11 (nI q)) 4 (F 6)) 5 (F 6)) hL g2 ⟨rfl, rfl, rfl⟩ rfl (Or.inl ⟨Or.inr k3, rfl⟩) hn
          rw [adv] at d3
          have hF := Option.some.inj d3
          subst hF
          rw [← y2] at hfi
          refine ⟨v, rv, F1, rM, rfl, rfl, Or.inl hfi, ?_, fun _ => ?_, fun _ => ⟨f1, by rw [d2, y1], V, d2, d1.1, d1.2⟩, fun z => (not_both hfi z).elim⟩
          · rw [y2]; exact fun i i4 i5 i6 i7 i10 i11 => (upd_ne i5).trans ((upd_ne i4).trans (k11 i i4 i5 i6 i7 i10 i11))
          · rw [y2, g1]; rfl
        · exact absurd d1 y2
      · rcases y2 with ⟨y2, _⟩ | ⟨_, y2⟩
        · exact absurd y2 d1
        · have hfi4 : FI tp L F (upd (upd (upd M1 11 (nI q)) 4 (F 6)) 5 (F 6)) ∨ True := Or.inr trivial
          unfold n_fail at d3
          unfold mfail at y2
          rw [if_pos f1.1.2.1] at d3
          rw [if_pos (show (upd (upd (upd M1 11 (nI q)) 4 (F 6)) 5 (F 6)) 6 = 0 from h60)] at y2
          have hF := Option.some.inj d3
          have hM := Option.some.inj y2
          subst hF; subst hM
          have hbd : BD L (upd (upd (upd F 3 2) 4 (F 2)) 1 0) (upd (upd (upd (upd (upd M1 11 (nI q)) 4 (F 6)) 5 (F 6)) 6 2) 7 (F 2)) := ⟨⟨show (2 : Int32) ≠ 0 by decide, rfl, f1.1.1⟩, ⟨h3, rfl, rfl⟩, to, g6, g4⟩
          refine ⟨v, rv, _, _, rfl, rfl, Or.inr hbd, fun i i4 i5 i6 i7 i10 i11 => (upd_ne i7).trans ((upd_ne i6).trans ((upd_ne i5).trans ((upd_ne i4).trans (k11 i i4 i5 i6 i7 i10 i11)))), fun _ => by rw [g1]; rfl, fun z => (not_both z hbd).elim, fun _ => d2⟩
    · -- no number
      obtain ⟨F', M', u1, u2, u3, u4, u5⟩ := SS_unlike hq hL ss11 hn
      obtain ⟨r, z1, z2⟩ := m_count hq hL h3 eqL (lo := iI lo) (hi := iI hi) hn (S := fun r => r = (iI lo, M')) (fun m hm hr => by
        unfold mcont mreads_57 mreads_61
        have hcond : m = 0 ∨ 7 < m ∨ nI q = upd M1 11 (nI q) 5 := by
          rcases g7 with ⟨b1, b2, z⟩ | ⟨b1, b2, b3, b4⟩ | ⟨b1, b2, b3, z⟩
          · left; omega
          · by_cases c : so (tp q) = 3
            · rw [c] at b3 b4
              have hrun : rnn tp L 3 q to := by
                refine ⟨g5, fun i i0 i1 => ?_, b3.2.2⟩
                by_cases t : i = q
                · rw [t]; exact ⟨b1, c⟩
                · exact b3.2.1 i (by omega) i1
              have := rnn_u hr hrun
              rcases b4 with ⟨z, _⟩ | ⟨_, z⟩
              · rcases z with z | z
                · right; right; rw [h50]; exact z.symm
                · right; left; omega
              · exact absurd z k3
            · left
              rcases Nat.eq_zero_or_pos m with z | z
              · exact z
              · exact absurd (hr.2.1 q (Nat.le_refl _) (by omega)).2 c
          · left
            rcases Nat.eq_zero_or_pos m with y | y
            · exact y
            · exact absurd (Or.inr (hr.2.1 q (Nat.le_refl _) (by omega)).2) b2
        rw [if_pos h60, if_pos hcond, u2, Option.bind_some, m_fine, decide_eq_false (by rw [u3.2.1.2.1]; exact u3.1.1), Option.bind_some, if_neg (by decide)]
        exact ⟨_, rfl, rfl⟩)
      unfold n_takeNumber
      rw [if_neg k3, u1, Option.bind_some, z1, z2]
      refine ⟨0, iI lo, F', M', rfl, rfl, Or.inr u3, k11.t u4, fun _ => by rw [u5, g1]; rfl, fun z => (not_both z u3).elim, fun _ => rfl⟩
  · have h60 : ¬ upd M1 11 (nI q) 6 = 0 := by
      show ¬ M1 6 = 0
      rw [e5 6 (by omega)]; exact f0
    obtain ⟨r, z1, z2⟩ := m_count hq hL h3 eqL (lo := iI lo) (hi := iI hi) hn (S := fun r => r = (iI lo, upd M1 11 (nI q))) (fun m hm hr => by
      unfold mcont mreads_61
      rw [if_neg h60, m_fine, decide_eq_false h60, Option.bind_some, if_neg (by decide)]
      exact ⟨_, rfl, rfl⟩)
    unfold n_takeNumber n_fail
    rw [if_neg (by rw [f1.1.2.1]; decide), if_neg f1.1.1, Option.bind_some, z1, z2]
    have hbd : BD L (upd F 1 0) (upd M1 11 (nI q)) := by
      rcases ss11 with z | z
      · exact absurd z.2.1.2.1 h60
      · exact ⟨⟨z.1.1, rfl, z.1.2.2⟩, z.2.1, z.2.2⟩
    exact ⟨0, iI lo, _, _, rfl, rfl, Or.inr hbd, k11, fun z => (not_both z f1).elim, fun z => (not_both z hbd).elim, fun _ => rfl⟩
