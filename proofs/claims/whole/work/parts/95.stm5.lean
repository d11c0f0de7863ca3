/-! ===== design: every ===== -/
theorem c_num {tp : Nat → Int32} {L : Nat} (hL : L ≤ 800) {F M : Nat → Int32} (h : FI tp L F M) {n : Nat} (hn : 250000 ≤ n) : ∃ V : Int, (0 ≤ V ∧ V ≤ 9999999) ∧ ∀ lo hi : Int, b32 lo → b32 hi → (F 1 = 3 → (lo ≤ V ∧ V ≤ hi) ∧ n_takeNumber n F tp (iI lo) (iI hi) = (n_advance n F tp).bind (fun F' => some (iI V, F')) ∨ ¬ (lo ≤ V ∧ V ≤ hi) ∧ n_takeNumber n F tp (iI lo) (iI hi) = (n_fail F 2 (F 2)).bind (fun F' => some (0, F'))) ∧ (¬ F 1 = 3 → n_takeNumber n F tp (iI lo) (iI hi) = (n_fail F 1 (F 2)).bind (fun F' => some (0, F'))) := by
  obtain ⟨h1, h2, a, q, to, ⟨g1, g4, g40⟩, h6, ⟨h7, g5, g6⟩, g7, _⟩ := h
  by_cases k3 : F 1 = 3
  · obtain ⟨a1, a2, a3, a4⟩ : q < L ∧ so (tp q) = 3 ∧ rnn tp L 3 (q + 1) to ∧ to - q ≤ 7 := by
      rcases g7 with ⟨_, _, z⟩ | ⟨b1, b2, b3, b4⟩ | ⟨b1, b2, _, b3⟩
      · rw [z] at k3; exact absurd k3 (by decide)
      · rcases b4 with ⟨_, z⟩ | ⟨z, z2⟩
        · rw [z] at k3; exact absurd k3 (by decide)
        · rw [z2] at k3
          rw [k3] at b3
          exact ⟨b1, k3, b3, by
            rcases Nat.lt_or_ge 7 (to - q) with y | y
            · exact absurd (Or.inr ⟨k3, y⟩) z
            · exact y⟩
      · rw [b3] at k3; exact absurd (Or.inr k3) b2
    have hdig : ∀ i, i < to - q → 48 ≤ (tp (q + i)).toInt ∧ (tp (q + i)).toInt ≤ 57 := fun i hi => by
      have : so (tp (q + i)) = 3 := by
        rcases Nat.eq_zero_or_pos i with z | z
        · rw [z]; exact a2
        · exact (a3.2.1 (q + i) (by omega) (by omega)).2
      rw [(so_e (tp (q + i))).2.2.2.1] at this
      exact this
    have hvb := nv_b (f := fun i => tp (q + i)) a4 hdig
    have hqt := a3.1
    refine ⟨nv (fun i => tp (q + i)) (to - q), hvb, fun lo hi hlo hhi => ⟨fun _ => ?_, fun z => absurd k3 z⟩⟩
    generalize hv : nv (fun i => tp (q + i)) (to - q) = V at *
    unfold n_takeNumber
    rw [if_pos k3]
    obtain ⟨F1, _, _, adv, _⟩ := c_advance (tp := tp) h1.1 hL h1.2.1 g4 g6 hn
    have hf : ∃ F2, n_fail F 2 (F 2) = some F2 := by
      unfold n_fail
      rw [if_pos h1.2.1]; exact ⟨_, rfl⟩
    obtain ⟨F2, hf⟩ := hf
    rw [adv, hf, Option.bind_some, Option.bind_some]
    obtain ⟨r, z1, z2⟩ := zloop_inv (f := n_takeNumber_27 n F tp (iI lo) (iI hi)) (R := fun s => ∃ m : Nat, m ≤ to - q ∧ s = (iI (nv (fun i => tp (q + i)) m), nI (q + m))) (S := fun r => ((lo ≤ V ∧ V ≤ hi) ∧ r = (iI V, F1) ∨ ¬ (lo ≤ V ∧ V ≤ hi) ∧ r = (0, F2))) (fun s => to - s.2.toNatClampNeg) (by
      rintro s ⟨m, hm, rfl⟩
      unfold n_takeNumber_27 n_takeNumber_68
      dsimp only
      rw [if_c (show (F 6 ≤ nI (q + m)) = (to ≤ q + m) by rw [g4, qI_le (by omega) (by omega)])]
      by_cases p : to ≤ q + m
      · right
        have : m = to - q := by omega
        subst this
        rw [hv, if_pos p, if_c (iI_lt ⟨by omega, by omega⟩ hlo), if_c (iI_le ⟨by omega, by omega⟩ hhi)]
        by_cases c1 : V < lo
        · rw [if_pos c1, hf]
          exact ⟨_, rfl, Or.inr ⟨by omega, rfl⟩⟩
        · rw [if_neg c1]
          by_cases c2 : V ≤ hi
          · rw [if_pos c2, adv]
            exact ⟨_, rfl, Or.inl ⟨⟨by omega, c2⟩, rfl⟩⟩
          · rw [if_neg c2, hf]
            exact ⟨_, rfl, Or.inr ⟨by omega, rfl⟩⟩
      · left
        rw [if_neg p, zck_t (qI_z (by omega) (by omega)), qI_n (by omega), qI_1]
        refine ⟨_, rfl, ⟨m + 1, by omega, ?_⟩, by dsimp only; rw [qI_n (by omega)]; omega⟩
        rw [nv]
        congr 1
        rw [show (10 : Int32) = iI 10 by decide +kernel, show (48 : Int32) = iI 48 by decide +kernel, ← iI_of (tp (q + m)), iI_to (i_b32 _), iI_mul, iI_add, iI_sub]
        congr 1; omega) n (0, nI q) ⟨0, by omega, rfl⟩ (by dsimp only; rw [qI_n (by omega)]; omega)
    rw [g1, z1]
    rcases z2 with ⟨y1, y2⟩ | ⟨y1, y2⟩
    · exact Or.inl ⟨y1, by rw [y2]⟩
    · exact Or.inr ⟨y1, by rw [y2]⟩
  · refine ⟨0, ⟨by omega, by omega⟩, fun lo hi _ _ => ⟨fun z => absurd z k3, fun _ => ?_⟩⟩
    unfold n_takeNumber
    rw [if_neg k3]
/-- the same token, asked with another least -/
theorem lad_num {tp : Nat → Int32} {L : Nat} (hL : L ≤ 800) {F M F' M' : Nat → Int32} {v : Int32} (h : FI tp L F M) {lo hi : Int} (hlo : 2 ≤ lo ∧ lo ≤ 10000) (hhi : 1 ≤ hi ∧ hi ≤ 10000) {n : Nat} (hn : 250000 ≤ n) (h1 : n_takeNumber n F tp 1 (iI hi) = some (v, F')) (hss : SS tp L F' M') : (BD L F' M' → n_takeNumber n F tp (iI lo) (iI hi) = some (v, F')) ∧ (FI tp L F' M' → ∃ V : Int, v = iI V ∧ (1 ≤ V ∧ V ≤ hi) ∧ ((lo ≤ V ∧ n_takeNumber n F tp (iI lo) (iI hi) = some (v, F')) ∨ (V < lo ∧ ∃ F2, n_fail F 2 (F 2) = some F2 ∧ n_takeNumber n F tp (iI lo) (iI hi) = some (0, F2)))) := by
  obtain ⟨V, hV, hall⟩ := c_num hL h hn
  obtain ⟨a1, a2⟩ := hall 1 hi ⟨by omega, by omega⟩ ⟨by omega, by omega⟩
  obtain ⟨b1, b2⟩ := hall lo hi ⟨by omega, by omega⟩ ⟨by omega, by omega⟩
  replace a1 : F 1 = 3 → (1 ≤ V ∧ V ≤ hi) ∧ n_takeNumber n F tp 1 (iI hi) = (n_advance n F tp).bind (fun F' => some (iI V, F')) ∨ ¬ (1 ≤ V ∧ V ≤ hi) ∧ n_takeNumber n F tp 1 (iI hi) = (n_fail F 2 (F 2)).bind (fun F' => some (0, F')) := a1
  replace a2 : ¬ F 1 = 3 → n_takeNumber n F tp 1 (iI hi) = (n_fail F 1 (F 2)).bind (fun F' => some (0, F')) := a2
  have hf2 : n_fail F 2 (F 2) = some (upd (upd (upd F 3 2) 4 (F 2)) 1 0) := by unfold n_fail; rw [if_pos h.1.2.1]
  have hf1 : n_fail F 1 (F 2) = some (upd (upd (upd F 3 1) 4 (F 2)) 1 0) := by unfold n_fail; rw [if_pos h.1.2.1]
  by_cases k3 : F 1 = 3
  · rcases a1 k3 with ⟨c, e⟩ | ⟨c, e⟩
    · rw [h1] at e
      cases hadv : n_advance n F tp with
      | none => rw [hadv] at e; cases e
      | some Fa =>
        rw [hadv, Option.bind_some] at e
        have e' := Prod.mk.inj (Option.some.inj e)
        have hFI : F' 3 = 0 := by
          obtain ⟨g1, g2, a, fr, to, ⟨k2, k6, k4⟩, g7, ⟨g8, g9, g10⟩, _⟩ := h
          obtain ⟨Fb, _, _, adv, f0, _⟩ := c_advance (tp := tp) g1.1 hL g1.2.1 k6 g10 hn
          rw [hadv] at adv
          rw [e'.2, Option.some.inj adv]; exact f0.2.1
        refine ⟨fun z => absurd hFI z.1.1, fun _ => ⟨V, e'.1, c, ?_⟩⟩
        rcases b1 k3 with ⟨d, e2⟩ | ⟨d, e2⟩
        · left
          refine ⟨d.1, ?_⟩
          rw [e2, hadv, Option.bind_some, e'.1, e'.2]
        · right
          refine ⟨by omega, _, hf2, ?_⟩
          rw [e2, hf2, Option.bind_some]
    · rw [h1, hf2, Option.bind_some] at e
      have e' := Prod.mk.inj (Option.some.inj e)
      have hb : ¬ F' 3 = 0 := by rw [e'.2]; show ¬ (2 : Int32) = 0; decide
      refine ⟨fun _ => ?_, fun z => absurd z.1.2.1 hb⟩
      rcases b1 k3 with ⟨d, _⟩ | ⟨_, e2⟩
      · omega
      · rw [e2, hf2, Option.bind_some, e'.1, e'.2]
  · have e := a2 k3
    rw [h1, hf1, Option.bind_some] at e
    have e' := Prod.mk.inj (Option.some.inj e)
    have hb : ¬ F' 3 = 0 := by rw [e'.2]; show ¬ (1 : Int32) = 0; decide
    exact ⟨fun _ => by rw [b2 k3, hf1, Option.bind_some, e'.1, e'.2], fun z => absurd z.1.2.1 hb⟩
/-- the same token, asked with another least, from nought on -/
theorem row_num {tp : Nat → Int32} {L : Nat} (hL : L ≤ 800) {F M F' M' : Nat → Int32} {v : Int32} (h : FI tp L F M) {lo hi : Int} (hlo : 0 ≤ lo ∧ lo ≤ 10000) (hhi : 0 ≤ hi ∧ hi ≤ 10000) {n : Nat} (hn : 250000 ≤ n) (h1 : n_takeNumber n F tp 0 (iI hi) = some (v, F')) (hss : SS tp L F' M') : (BD L F' M' → n_takeNumber n F tp (iI lo) (iI hi) = some (v, F')) ∧ (FI tp L F' M' → ∃ V : Int, v = iI V ∧ (0 ≤ V ∧ V ≤ hi) ∧ ((lo ≤ V ∧ n_takeNumber n F tp (iI lo) (iI hi) = some (v, F')) ∨ (V < lo ∧ ∃ F2, n_fail F 2 (F 2) = some F2 ∧ n_takeNumber n F tp (iI lo) (iI hi) = some (0, F2)))) := by
  obtain ⟨V, hV, hall⟩ := c_num hL h hn
  obtain ⟨a1, a2⟩ := hall 0 hi ⟨by omega, by omega⟩ ⟨by omega, by omega⟩
  obtain ⟨b1, b2⟩ := hall lo hi ⟨by omega, by omega⟩ ⟨by omega, by omega⟩
  replace a1 : F 1 = 3 → (0 ≤ V ∧ V ≤ hi) ∧ n_takeNumber n F tp 0 (iI hi) = (n_advance n F tp).bind (fun F' => some (iI V, F')) ∨ ¬ (0 ≤ V ∧ V ≤ hi) ∧ n_takeNumber n F tp 0 (iI hi) = (n_fail F 2 (F 2)).bind (fun F' => some (0, F')) := a1
  replace a2 : ¬ F 1 = 3 → n_takeNumber n F tp 0 (iI hi) = (n_fail F 1 (F 2)).bind (fun F' => some (0, F')) := a2
  have hf2 : n_fail F 2 (F 2) = some (upd (upd (upd F 3 2) 4 (F 2)) 1 0) := by unfold n_fail; rw [if_pos h.1.2.1]
  have hf1 : n_fail F 1 (F 2) = some (upd (upd (upd F 3 1) 4 (F 2)) 1 0) := by unfold n_fail; rw [if_pos h.1.2.1]
  by_cases k3 : F 1 = 3
  · rcases a1 k3 with ⟨c, e⟩ | ⟨c, e⟩
    · rw [h1] at e
      cases hadv : n_advance n F tp with
      | none => rw [hadv] at e; cases e
      | some Fa =>
        rw [hadv, Option.bind_some] at e
        have e' := Prod.mk.inj (Option.some.inj e)
        have hFI : F' 3 = 0 := by
          obtain ⟨g1, g2, a, fr, to, ⟨k2, k6, k4⟩, g7, ⟨g8, g9, g10⟩, _⟩ := h
          obtain ⟨Fb, _, _, adv, f0, _⟩ := c_advance (tp := tp) g1.1 hL g1.2.1 k6 g10 hn
          rw [hadv] at adv
          rw [e'.2, Option.some.inj adv]; exact f0.2.1
        refine ⟨fun z => absurd hFI z.1.1, fun _ => ⟨V, e'.1, c, ?_⟩⟩
        rcases b1 k3 with ⟨d, e2⟩ | ⟨d, e2⟩
        · left
          refine ⟨d.1, ?_⟩
          rw [e2, hadv, Option.bind_some, e'.1, e'.2]
        · right
          refine ⟨by omega, _, hf2, ?_⟩
          rw [e2, hf2, Option.bind_some]
    · rw [h1, hf2, Option.bind_some] at e
      have e' := Prod.mk.inj (Option.some.inj e)
      have hb : ¬ F' 3 = 0 := by rw [e'.2]; show ¬ (2 : Int32) = 0; decide
      refine ⟨fun _ => ?_, fun z => absurd z.1.2.1 hb⟩
      rcases b1 k3 with ⟨d, _⟩ | ⟨_, e2⟩
      · omega
      · rw [e2, hf2, Option.bind_some, e'.1, e'.2]
  · have e := a2 k3
    rw [h1, hf1, Option.bind_some] at e
    have e' := Prod.mk.inj (Option.some.inj e)
    have hb : ¬ F' 3 = 0 := by rw [e'.2]; show ¬ (1 : Int32) = 0; decide
    exact ⟨fun _ => by rw [b2 k3, hf1, Option.bind_some, e'.1, e'.2], fun z => absurd z.1.2.1 hb⟩
theorem c_first {N l : Nat} (hN : N ≤ 15) (hl : l ≤ 20) (ar : Nat → Int32) {n : Nat} (hn : 250000 ≤ n) : ∃ f : Nat → Int32, k_firstOf n (N, ar) (nI l) = some (if l ≤ N then l else N, f) ∧ ∀ i, i < (if l ≤ N then l else N) → f i = ar i := by
  have hm : j_minI (nI l) (nI N) = some (nI (if l ≤ N then l else N)) := by
    unfold j_minI
    rw [if_c (show (nI N < nI l) = (N < l) by rw [nI_iI, nI_iI, iI_lt ⟨by omega, by omega⟩ ⟨by omega, by omega⟩]; exact propext ⟨fun z => by omega, fun z => by omega⟩)]
    by_cases p : N < l
    · rw [if_pos p, if_neg (by omega)]
    · rw [if_neg p, if_pos (by omega)]
  unfold k_firstOf
  rw [hm, Option.bind_some]
  have hmN : (if l ≤ N then l else N) ≤ N := by split <;> omega
  generalize (if l ≤ N then l else N) = m at *
  rw [zck_t (qI_z (by omega) (by omega)), qI_n (by omega)]
  obtain ⟨r, e1, e2⟩ := zloop_inv (f := k_firstOf_11 (N, ar) m) (R := fun s => ∃ i : Nat, i ≤ m ∧ s.1 = nI i ∧ ∀ j, j < i → s.2 j = ar j) (S := fun r => ∀ j, j < m → r j = ar j) (fun s => m - s.1.toNatClampNeg) (by
    rintro ⟨s1, s2⟩ ⟨i, hi, hs, hall⟩
    dsimp only at hs hall
    subst hs
    unfold k_firstOf_11
    dsimp only
    rw [if_c (qI_le (a := m) (b := i) (by omega) (by omega))]
    by_cases p : m ≤ i
    · right; rw [if_pos p]; exact ⟨_, rfl, fun j hj => hall j (by omega)⟩
    · left
      rw [if_neg p, zck_t (qI_z (by omega) (by omega)), zck_t (qI_z (by omega) (by omega)), qI_n (by omega), qI_1]
      refine ⟨_, rfl, ⟨i + 1, by omega, rfl, fun j hj => ?_⟩, by dsimp only; rw [qI_n (by omega)]; omega⟩
      show upd s2 i (ar i) j = ar j
      by_cases t : j = i
      · rw [t, upd_at]
      · rw [upd_ne t]; exact hall j (by omega)) n (0, fun _ => 0) ⟨0, by omega, rfl, fun j hj => by omega⟩ (by omega)
  rw [e1]
  exact ⟨r, rfl, e2⟩
def seeL (n l : Nat) (F tp : Nat → Int32) : Option Bool := if l % 2 = 1 then n_sees 3 (fun j => L_not.getD j 0) n F tp else n_sees 3 (fun j => L_but.getD j 0) n F tp
theorem SS_takesL {tp tq : Nat → Int32} (hq : ∀ i, i < 800 → tq i = tp i) {L : Nat} (hL : L ≤ 800) (l : Nat) {F M : Nat → Int32} (h : SS tp L F M) {n : Nat} (hn : 250000 ≤ n) : ∃ b M', seeL n l F tp = some b ∧ mtakes n M tq (if l % 2 = 1 then 14836 else 2740) = some (b, M') ∧ KP M M' ∧ (b = false → SS tp L F M') ∧ (b = true → ∃ F', n_advance n F tp = some F' ∧ FI tp L F' M') := by
  unfold seeL
  by_cases p : l % 2 = 1
  · rw [if_pos p, if_pos p]; exact SS_takes hq hL ws_not h hn
  · rw [if_neg p, if_neg p]; exact SS_takes hq hL ws_but h hn
theorem l21 {n l : Nat} (lv : vLaw) (tp F ar : Nat → Int32) (hl : 1 ≤ l ∧ l ≤ 6) : r_readLadder_21 n lv tp 6 (nI l, F, ar) = (seeL n l F tp).bind (fun v12 => (if v12 = true then (n_advance n F tp).bind (fun v14 => (n_takeNumber n v14 tp (ar (l - 1) + 1) 9999).bind (fun v15 => (k_isMultiple v15.1 (ar (l - 1))).bind (fun v16 => (if v16 = true then (r_readLadder_107 n lv v15.2 tp ar (nI l) (v14 2) v15.1 6) else (n_fail v15.2 2 (v14 2)).bind (fun v17 => (r_readLadder_107 n lv v17 tp ar (nI l) (v14 2) v15.1 6)))))) else ((r_readLadder_136 n lv F tp ar (nI l) 6).map (fun z => .inr z)))) := by
  have hp : nI l - nI l / 2 * 2 = iI ((l % 2 : Nat) : Int) := by rw [nI_iI]; exact par2 l (by omega)
  have hs1 : nI l - 1 = nI (l - 1) := qI_sb (a := l) (b := 1) hl.1
  have hz : zin (nI (l - 1)) 6 = true := qI_z (by omega) (by omega)
  have hnn : (nI (l - 1)).toNatClampNeg = l - 1 := qI_n (by omega)
  unfold r_readLadder_21 seeL
  dsimp only
  rw [if_neg (show ¬ (6 : Int32) < nI l by
    rw [nI_iI]; show ¬ iI 6 < iI (l : Int); rw [iI_lt ⟨by omega, by omega⟩ ⟨by omega, by omega⟩]; omega), zck_t (by decide), hp, if_c (show (iI ((l % 2 : Nat) : Int) = (1 : Int32)) = (l % 2 = 1) by
    show (iI ((l % 2 : Nat) : Int) = iI 1) = _
    rw [iI_eq ⟨by omega, by omega⟩ ⟨by omega, by omega⟩]; exact propext ⟨fun z => by omega, fun z => by omega⟩)]
  simp only [hs1, zck_t hz, hnn]
  by_cases p : l % 2 = 1
  · rw [if_pos p, if_pos p]
  · rw [if_neg p, if_neg p]
theorem e102 {n l : Nat} (M tq w : Nat → Int32) (x : Int32) (hl : l ≤ 100) : meveryRead_102 n M tq w (nI l) x = (mtakes n M tq (if (l + 1) % 2 = 1 then 14836 else 2740)).bind (fun v1 => some (.inl (nI (l + 1), x, zb v1.1, v1.2, w))) := by
  unfold meveryRead_102 meveryRead_125
  have hp : nI (l + 1) - nI (l + 1) / 2 * 2 = iI (((l + 1) % 2 : Nat) : Int) := by rw [nI_iI]; exact par2 (l + 1) (by omega)
  rw [qI_1, hp, if_c (show (iI (((l + 1) % 2 : Nat) : Int) = (1 : Int32)) = ((l + 1) % 2 = 1) by
    show (iI (((l + 1) % 2 : Nat) : Int) = iI 1) = _
    rw [iI_eq ⟨by omega, by omega⟩ ⟨by omega, by omega⟩]; exact propext ⟨fun z => by omega, fun z => by omega⟩)]
  by_cases p : (l + 1) % 2 = 1
  · rw [if_pos p, if_pos p]
  · rw [if_neg p, if_neg p]
def LDF (ar w : Nat → Int32) (l : Nat) (last : Int32) : Prop := l ≤ 6 ∧ (∀ i, i < l → w (2670 + i) = ar i ∧ 1 ≤ (ar i).toInt ∧ (ar i).toInt ≤ 9999) ∧ (∀ i, i + 1 < l → (ar (i + 1)).toInt % (ar i).toInt = 0) ∧ last = ar (l - 1)
/-- both at the head of the ladder's loop -/
def LDR (tp : Nat → Int32) (L n : Nat) (M0 w0 : Nat → Int32) (c : Int32 × (Nat → Int32) × (Nat → Int32)) (r : Int32 × Int32 × Int32 × (Nat → Int32) × (Nat → Int32)) : Prop := ∃ (l : Nat) (b : Bool) (last : Int32) (F ar M w : Nat → Int32), (1 ≤ l ∧ l ≤ 7) ∧ c = (nI l, F, ar) ∧ r = (nI l, last, zb b, M, w) ∧ KP M0 M ∧ (∀ i, i < 2670 ∨ 2676 ≤ i → w i = w0 i) ∧ seeL n l F tp = some b ∧ (b = false → SS tp L F M) ∧ (b = true → ∃ F', n_advance n F tp = some F' ∧ FI tp L F' M) ∧ (M 6 = 0 → LDF ar w l last)
theorem LDR_go {tp tq : Nat → Int32} (hq : ∀ i, i < 800 → tq i = tp i) {L : Nat} (hL : L ≤ 800) {M0 w0 : Nat → Int32} {l : Nat} (hl : 1 ≤ l ∧ l + 1 ≤ 7) {F M ar w : Nat → Int32} {x : Int32} (h : SS tp L F M) (hkp : KP M0 M) (hw : ∀ i, i < 2670 ∨ 2676 ≤ i → w i = w0 i) (hf : M 6 = 0 → LDF ar w (l + 1) x) {n : Nat} (hn : 250000 ≤ n) : ∃ r, meveryRead_102 n M tq w (nI l) x = some (.inl r) ∧ LDR tp L n M0 w0 (nI (l + 1), F, ar) r := by
  obtain ⟨b, M', t1, t2, t3, t4, t5⟩ := SS_takesL hq hL (l + 1) h hn
  rw [e102 _ _ _ _ (by omega), t2, Option.bind_some]
  refine ⟨_, rfl, l + 1, b, x, F, ar, M', w, ⟨by omega, hl.2⟩, rfl, rfl, hkp.t t3, hw, t1, t4, t5, fun z => hf ?_⟩
  rcases SS_fine h with ⟨f0, _⟩ | ⟨f0, f1⟩
  · exact f0
  · cases b
    · rcases t4 rfl with y | y
      · exact absurd y.1.2.1 f1.1.1
      · exact absurd z (by rw [y.2.1.2.1]; exact y.1.1)
    · obtain ⟨F', a1, a2⟩ := t5 rfl
      rw [c_bad f1] at a1
      have := Option.some.inj a1
      subst this
      exact absurd a2.1.2.1 f1.1.1
