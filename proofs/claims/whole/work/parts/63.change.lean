/-! ===== a change, on both sides ===== -/
theorem va_at' {α : Type} {f : Nat → Option α} {i : Nat} {x : Option α} : va_up f i x i = x := by simp [va_up]
theorem va_ne {α : Type} {f : Nat → Option α} {i j : Nat} {x : Option α} (h : j ≠ i) : va_up f i x j = f j := by simp [va_up, h]
theorem c_change {A : Nat → Int32} {dv : Nat → Option vDes} {cs : Nat → Int32} {cv : Nat → Option vDes} {c e s : Nat} (hs : s < 6) (hc : c ≤ 12) (he : e < 12) (h7 : A 7 = nI e) (h8 : A 8 = nI c) (o : Option vDes) : ∃ A', w_change A dv cs cv (iI (s : Int)) o = some (A', va_up dv s o, upd cs e (iI (s : Int)), va_up cv e (dv s)) ∧ A' 7 = nI ((e + 1) % 12) ∧ A' 8 = nI (c - (if c = 12 then 1 else 0) + 1) ∧ ∀ i, i ≠ 7 → i ≠ 8 → A' i = A i := by
  have em : (A 7 + 1 - (A 7 + 1) / 12 * 12 : Int32) = nI ((e + 1) % 12) := by
    rw [h7, nI_iI, nI_iI, show (iI (e : Int) + 1 : Int32) = iI ((e + 1 : Nat) : Int) from iI_add _ 1, show (12 : Int32) = iI 12 by decide +kernel, iI_mod ⟨by omega, by omega⟩ (by omega) ⟨by omega, by omega⟩, tmod_pos (by omega), if_pos (by omega)]
    congr 1
  have ej : j_minI ((upd A 7 (nI ((e + 1) % 12))) 8 + 1) 12 = some (nI (c - (if c = 12 then 1 else 0) + 1)) := by
    unfold j_minI
    rw [upd_ne (by omega), h8, nI_iI, show (iI (c : Int) + 1 : Int32) = iI ((c : Int) + 1) from iI_add _ 1, if_c (show ((12 : Int32) < iI ((c : Int) + 1)) = (12 < (c : Int) + 1) from iI_lt (a := 12) ⟨by omega, by omega⟩ ⟨by omega, by omega⟩)]
    by_cases q : c = 12
    · subst q; rw [if_pos (by omega)]; rfl
    · rw [if_neg (by omega), if_neg q, nI_iI]; congr 2
  have z7 : zin (A 7) 12 = true := by rw [h7, nI_iI]; exact iI_zin (by omega) (by omega) (by omega)
  have z6 : zin (iI (s : Int)) 6 = true := iI_zin (by omega) (by omega) (by omega)
  have n7 : (A 7).toNatClampNeg = e := by rw [h7, nI_iI, iI_nat (by omega) (by omega)]; omega
  have n6 : (iI (s : Int)).toNatClampNeg = s := by rw [iI_nat (by omega) (by omega)]; omega
  have d12 : decide (¬ (12 : Int32) = 0) = true := by decide
  refine ⟨upd (upd A 7 (nI ((e + 1) % 12))) 8 (nI (c - (if c = 12 then 1 else 0) + 1)), ?_, ?_, upd_at, fun i h1 h2 => by rw [upd_ne h2, upd_ne h1]⟩
  · unfold w_change
    simp only [zck_t z7, zck_t z6, zck_t d12, em, ej, n7, n6, Option.bind_some]
    cases o <;> cases dv s <;> rfl
  · rw [upd_ne (by omega), upd_at]
theorem Inv.chg {A A' tp : Nat → Int32} {dv : Nat → Option vDes} {cs : Nat → Int32} {cv : Nat → Option vDes} {jv : Option vJoint} {bo : Option (Nat → Int32)} {hg lw : Option (Nat → Int64)} {sb : vSB} {F F' : Nat → Int32} {G : Nat → Int64} {tq w w' oc : Nat → Int32} {c e s ε : Nat} {S : Nat → Nat → Option vDes} {o : Option vDes} (h : Inv A tp dv cs cv jv bo hg lw sb F G tq w oc) (hs : s < 6) (hc : c ≤ 12) (he : e < 12) (hU : UR c e S dv cs cv w) (hε : ε = if c = 12 then 1 else 0)
    (a7 : A' 7 = nI ((e + 1) % 12)) (a8 : A' 8 = nI (c - ε + 1)) (aA : ∀ i, i ≠ 7 → i ≠ 8 → A' i = A i) (f14 : F' 14 = nI (c - ε + 1)) (fF : ∀ i, i ≠ 14 → i ≠ 0 → F' i = F i)
    (w1 : ∀ i, i < 3978 → ¬ (442 * s ≤ i ∧ i < 442 * s + 442) → ¬ (2652 ≤ i ∧ i < 3094) → w' i = w i) (w2 : ∀ k, k < 2652 → w' (3978 + 2652 * (c - ε) + k) = w k) (w3 : ∀ j, j < c - ε → ∀ k, k < 2652 → w' (3978 + 2652 * j + k) = w (3978 + 2652 * (j + ε) + k)) (hB : BR o w' (442 * s)) : Inv A' tp (va_up dv s o) (upd cs e (iI (s : Int))) (va_up cv e (dv s)) jv bo hg lw sb F' G tq w' oc := by
  obtain ⟨⟨t, t1, t2, t3, t4⟩, ⟨f1, f2⟩, d1, -, j1, b1, ⟨b2, b3⟩, b4⟩ := h
  obtain ⟨u1, u2⟩ := hU
  have hε2 : (c = 12 ∧ ε = 1) ∨ (c ≤ 11 ∧ ε = 0) := by
    by_cases q : c = 12
    · left; exact ⟨q, by rw [hε, if_pos q]⟩
    · right; exact ⟨by omega, by rw [hε, if_neg q]⟩
  obtain ⟨S2, p1, p2⟩ : ∃ S2 : Nat → Nat → Option vDes, (∀ j, j ≤ c - ε → S2 j = S (j + ε)) ∧ S2 (c - ε + 1) = va_up dv s o := ⟨fun j => if j ≤ c - ε then S (j + ε) else va_up dv s o, fun j hj => if_pos hj, if_neg (by omega)⟩
  refine ⟨⟨t, t1, (aA 1 (by omega) (by omega)).trans t2, (fF 2 (by omega) (by omega)).trans t3, t4⟩, ⟨(aA 2 (by omega) (by omega)).trans (f1.trans (fF 8 (by omega) (by omega)).symm), (aA 3 (by omega) (by omega)).trans (f2.trans (fF 9 (by omega) (by omega)).symm)⟩, fun s' hs' => ?_, ⟨c - ε + 1, (e + 1) % 12, S2, ⟨by omega, by omega⟩, ⟨a8, f14, a7⟩, fun s' hs' => by rw [p2], fun j hj => ?_⟩, JR_congr (fF 20 (by omega) (by omega)) (fun i h1 h2 => w1 i h2 (by omega) (by omega)) j1, b1, ⟨b2, (fF 16 (by omega) (by omega)).trans b3⟩, b4⟩
  · by_cases q : s' = s
    · subst q; rw [va_at']; exact hB
    · rw [va_ne q]
      exact BR_congr (fun k hk => w1 _ (by omega) (by omega) (by omega)) (d1 s' hs')
  · by_cases q : j = c - ε
    · subst q
      have hp : ((e + 1) % 12 + 12 - (c - ε + 1) + (c - ε)) % 12 = e := by omega
      rw [hp]
      refine ⟨⟨s, hs, by rw [upd_at, nI_iI], ?_, fun s' h1 h2 => ?_⟩, fun s' h1 => ?_⟩
      · rw [va_at', p1 _ (Nat.le_refl _), show c - ε + ε = c by omega, u1 s hs]
      · rw [p1 _ (Nat.le_refl _), p2, show c - ε + ε = c by omega, u1 s' h1, va_ne h2]
      · rw [p1 _ (Nat.le_refl _), show c - ε + ε = c by omega, u1 s' h1]
        refine BR_congr (fun k hk => ?_) (d1 s' h1)
        rw [Nat.add_assoc]; exact w2 _ (by omega)
    · obtain ⟨⟨q0, v1, v2, v3, v4⟩, v5⟩ := u2 (j + ε) (by omega)
      have hp : ((e + 1) % 12 + 12 - (c - ε + 1) + j) % 12 = (e + 12 - c + (j + ε)) % 12 := by omega
      have hne : (e + 12 - c + (j + ε)) % 12 ≠ e := by omega
      rw [hp, upd_ne hne, va_ne hne]
      refine ⟨⟨q0, v1, v2, ?_, fun s' h1 h2 => ?_⟩, fun s' h1 => ?_⟩
      · rw [p1 _ (by omega)]; exact v3
      · rw [p1 j (by omega), p1 (j + 1) (by omega), show j + 1 + ε = j + ε + 1 by omega]; exact v4 s' h1 h2
      · rw [p1 j (by omega)]
        refine BR_congr (fun k hk => ?_) (v5 s' h1)
        rw [Nat.add_assoc, Nat.add_assoc (3978 + 2652 * (j + ε))]; exact w3 j (by omega) _ (by omega)
