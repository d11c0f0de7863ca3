/-! ===== design: what is at fault stays so ===== -/
theorem zloop_out {σ ρ : Type} {f : σ → Option (σ ⊕ ρ)} {P : ρ → Prop} (h : ∀ s r, f s = some (.inr r) → P r) : ∀ (n : Nat) (s : σ) (r : ρ), zloop f n s = some r → P r := by
  intro n
  induction n with
  | zero => intro s r e; cases e
  | succ n ih =>
    intro s r e
    rw [zloop] at e
    rcases q : f s with _ | ⟨s' | r'⟩
    · rw [q] at e; cases e
    · rw [q] at e; exact ih s' r e
    · rw [q] at e
      cases e
      exact h s r q
def BC (F : Nat → Int32) : Prop := F 3 ≠ 0 ∧ F 1 = 0
theorem BC_u {F : Nat → Int32} (h : BC F) : upd F 1 0 = F := by
  funext i
  by_cases t : i = 1
  · rw [t, upd_at, h.2]
  · exact upd_ne t
theorem BC_fail {F : Nat → Int32} (h : BC F) (a b : Int32) : n_fail F a b = some F := by unfold n_fail; rw [if_neg h.1, BC_u h]
theorem BC_num {F : Nat → Int32} (h : BC F) (tp : Nat → Int32) (n : Nat) (a b : Int32) : n_takeNumber n F tp a b = some (0, F) := by
  unfold n_takeNumber
  rw [if_neg (by rw [h.2]; decide), BC_fail h, Option.bind_some]
theorem BC_sees {F : Nat → Int32} (h : BC F) (tp : Nat → Int32) (n wn : Nat) (wf : Nat → Int32) : n_sees wn wf n F tp = some false := by
  unfold n_sees
  rw [if_neg (by rw [h.2]; decide)]
theorem BC_adv {F : Nat → Int32} (h : BC F) (tp : Nat → Int32) (n : Nat) : n_advance n F tp = some F := by unfold n_advance; rw [if_neg h.1]
theorem BC_takeIf {F : Nat → Int32} (h : BC F) (tp : Nat → Int32) (n : Nat) (x : Int32) : n_takeIf n F tp x = some F := by
  unfold n_takeIf
  rw [BC_fail h, BC_adv h, Option.bind_some, ite_self]
theorem BC_share {F : Nat → Int32} (h : BC F) {tp : Nat → Int32} {n : Nat} {R : Nat → Int32} {a b : Int32} {x} (e : r_readShare n R F tp a b = some x) : x.2 = F := by
  unfold r_readShare at e
  simp only [BC_num h, BC_sees h, BC_takeIf h, BC_fail h, Option.bind_some] at e
  split at e
  · cases e; rfl
  · cases e; rfl
theorem BC_shift {F : Nat → Int32} (h : BC F) {tp : Nat → Int32} {n : Nat} {R : Nat → Int32} {x} (e : r_readShift n R F tp = some x) : x.2 = F := by
  unfold r_readShift at e
  rw [BC_sees h, Option.bind_some, if_neg (by decide)] at e
  cases e; rfl
theorem BC_week {F : Nat → Int32} (h : BC F) {tp : Nat → Int32} {n : Nat} {R : Nat → Int32} {x} (e : r_readWeek n R F tp = some x) : x.2 = F := by
  unfold r_readWeek at e
  simp only [BC_num h, BC_sees h, BC_takeIf h, Option.bind_some] at e
  cases e; rfl
theorem zloop_fin {σ ρ : Type} {f : σ → Option (σ ⊕ ρ)} {n : Nat} {s : σ} {x : ρ} {o : Option ρ} (h : zloop f n s = some x) (hf : f s = o.map (fun z => .inr z)) : o = some x := by
  cases n with
  | zero => cases h
  | succ n =>
    rw [zloop, hf] at h
    cases o with
    | none => cases h
    | some y => exact h
theorem BC_ladder {F : Nat → Int32} (h : BC F) {tp : Nat → Int32} {n : Nat} {lv : vLaw} {x} (e : r_readLadder n lv F tp = some x) : x.2 = F := by
  unfold r_readLadder at e
  rw [zck_t (by decide +kernel), BC_num h, Option.bind_some, zck_t (by decide +kernel)] at e
  have e2 := zloop_fin e (o := r_readLadder_136 n lv F tp (upd (fun _ => 0) (0 : Int32).toNatClampNeg 0) 1 (6 : Int32).toNatClampNeg) (by
    unfold r_readLadder_21
    dsimp only
    rw [if_neg (by decide), zck_t (by decide +kernel)]
    simp only [BC_sees h, Option.bind_some, if_neg (show ¬ (false = true) by decide), ite_self])
  unfold r_readLadder_136 at e2
  obtain ⟨a, a1, a2⟩ := Option.bind_eq_some_iff.mp e2
  obtain ⟨b, b1, b2⟩ := Option.bind_eq_some_iff.mp a2
  cases b2; rfl
theorem BC_row73 {F : Nat → Int32} {tp : Nat → Int32} {n : Nat} {lv : vLaw} {ar : Nat → Int32} {y : Int32} {N : Nat} {x} (e : r_readRow_73 n lv F tp ar y N = some x) : x.2 = F := by
  unfold r_readRow_73 at e
  refine zloop_out (P := fun x : vLaw × (Nat → Int32) => x.2 = F) (fun s r es => ?_) _ _ _ e
  unfold r_readRow_76 at es
  split at es
  · obtain ⟨a, a1, a2⟩ := Option.bind_eq_some_iff.mp es
    cases a2; rfl
  · unfold zck at es
    split at es
    · split at es
      · cases es
      · cases es
    · cases es
theorem BC_row {F : Nat → Int32} (h : BC F) {tp : Nat → Int32} {n : Nat} {lv : vLaw} {x} (e : r_readRow n lv F tp = some x) : x.2 = F := by
  unfold r_readRow at e
  rw [BC_num h, Option.bind_some] at e
  dsimp only at e
  rw [zck_t (by decide +kernel)] at e
  have e2 := zloop_fin e (o := r_readRow_73 n lv F tp (fun _ => 0) 0 ((0 : Int32) + 1).toNatClampNeg) (by
    unfold r_readRow_23
    dsimp only
    rw [if_neg (show ¬ (0 : Int32) < 0 by decide), if_neg (show ¬ F 1 = 3 by rw [h.2]; decide)])
  exact BC_row73 e2
theorem BC_months {F : Nat → Int32} (h : BC F) {tp : Nat → Int32} {n : Nat} {R : Nat → Int32} {mo : Option vArr} {x} (e : r_readMonths n R mo F tp = some x) : x.2.2 = F := by
  unfold r_readMonths at e
  rw [zck_t (by decide +kernel), BC_num h, Option.bind_some, zck_t (by decide +kernel)] at e
  have e2 := zloop_fin e (o := r_readMonths_88 n R mo F tp (upd (fun _ => 0) (0 : Int32).toNatClampNeg 0) 1 (15 : Int32).toNatClampNeg) (by
    unfold r_readMonths_21
    dsimp only
    rw [if_neg (show ¬ F 1 = 3 by rw [h.2]; decide), ite_self])
  unfold r_readMonths_88 at e2
  obtain ⟨a, a1, a2⟩ := Option.bind_eq_some_iff.mp e2
  rw [zO_s, BC_sees h, Option.bind_some, if_neg (by decide)] at a2
  cases a2; rfl
theorem BC_294 {F : Nat → Int32} (h : BC F) {tp : Nat → Int32} {n : Nat} {R : Nat → Int32} {lv : vLaw} {mo : Option vArr} {ty : vTrue} {x} (e : r_readStatement_294 n R lv mo ty F tp = some x) : x.2.2.2.2 = F := by
  unfold r_readStatement_294 at e
  simp only [BC_takeIf h, Option.bind_some, ite_self] at e
  cases e; rfl
