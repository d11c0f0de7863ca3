/-! ===== calls: design; the two scanners ===== -/
def so (c : Int32) : Int32 := (k_sortOf c).getD 0
theorem so_e (c : Int32) : k_sortOf c = some (so c) ∧ ((so c = 1) = (c = 32 ∨ c = 10)) ∧ ((so c = 2) = (97 ≤ c.toInt ∧ c.toInt ≤ 122)) ∧ ((so c = 3) = (48 ≤ c.toInt ∧ c.toInt ≤ 57)) ∧ ((so c = 4) = (c = 59)) ∧ (so c = 0 ∨ so c = 1 ∨ so c = 2 ∨ so c = 3 ∨ so c = 4) := by
  obtain ⟨x, hx, rfl⟩ := ex32 c
  have e32 : (iI x = (32 : Int32)) = (x = 32) := iI_eq (b := 32) hx ⟨by omega, by omega⟩
  have e10 : (iI x = (10 : Int32)) = (x = 10) := iI_eq (b := 10) hx ⟨by omega, by omega⟩
  have e59 : (iI x = (59 : Int32)) = (x = 59) := iI_eq (b := 59) hx ⟨by omega, by omega⟩
  have l97 : (iI x < (97 : Int32)) = (x < 97) := iI_lt (b := 97) hx ⟨by omega, by omega⟩
  have l48 : (iI x < (48 : Int32)) = (x < 48) := iI_lt (b := 48) hx ⟨by omega, by omega⟩
  have g122 : ((122 : Int32) < iI x) = (122 < x) := iI_lt (a := 122) ⟨by omega, by omega⟩ hx
  have g57 : ((57 : Int32) < iI x) = (57 < x) := iI_lt (a := 57) ⟨by omega, by omega⟩ hx
  have hk : k_sortOf (iI x) = some (if 97 ≤ x ∧ x ≤ 122 then 2 else if 48 ≤ x ∧ x ≤ 57 then 3 else if x = 32 ∨ x = 10 then 1 else if x = 59 then 4 else 0) := by
    unfold k_sortOf k_sortOf_14 k_sortOf_28
    simp only [e32, e10, e59, l97, l48, g122, g57]
    by_cases c1 : x < 97
    · rw [if_pos c1, if_neg (show ¬ (97 ≤ x ∧ x ≤ 122) by omega)]
      by_cases c2 : x < 48
      · rw [if_pos c2, if_neg (show ¬ (48 ≤ x ∧ x ≤ 57) by omega)]
        by_cases c3 : x = 32
        · rw [if_pos c3, if_pos (Or.inl c3)]
        · rw [if_neg c3]
          by_cases c4 : x = 10
          · rw [if_pos c4, if_pos (Or.inr c4)]
          · rw [if_neg c4, if_neg (show ¬ (x = 32 ∨ x = 10) by omega)]
            by_cases c5 : x = 59
            · rw [if_pos c5, if_pos c5]
            · rw [if_neg c5, if_neg c5]
      · rw [if_neg c2]
        by_cases c3 : 57 < x
        · rw [if_pos c3, if_neg (show ¬ (48 ≤ x ∧ x ≤ 57) by omega), if_neg (show ¬ x = 32 by omega), if_neg (show ¬ x = 10 by omega), if_neg (show ¬ (x = 32 ∨ x = 10) by omega)]
          by_cases c5 : x = 59
          · rw [if_pos c5, if_pos c5]
          · rw [if_neg c5, if_neg c5]
        · rw [if_neg c3, if_pos (by omega)]
    · rw [if_neg c1]
      by_cases c2 : 122 < x
      · rw [if_pos c2, if_neg (show ¬ (97 ≤ x ∧ x ≤ 122) by omega), if_neg (show ¬ x < 48 by omega), if_pos (show 57 < x by omega), if_neg (show ¬ x = 32 by omega), if_neg (show ¬ x = 10 by omega), if_neg (show ¬ x = 59 by omega), if_neg (show ¬ (48 ≤ x ∧ x ≤ 57) by omega), if_neg (show ¬ (x = 32 ∨ x = 10) by omega), if_neg (show ¬ x = 59 by omega)]
      · rw [if_neg c2, if_pos (by omega)]
  have hso : so (iI x) = if 97 ≤ x ∧ x ≤ 122 then 2 else if 48 ≤ x ∧ x ≤ 57 then 3 else if x = 32 ∨ x = 10 then 1 else if x = 59 then 4 else 0 := by unfold so; rw [hk]; rfl
  rw [hk, hso, iI_to hx, e32, e10, e59]
  refine ⟨rfl, ?_, ?_, ?_, ?_, ?_⟩
  all_goals
    by_cases c1 : 97 ≤ x ∧ x ≤ 122
    · rw [if_pos c1]
      first
        | exact Or.inr (Or.inr (Or.inl rfl))
        | exact propext ⟨fun z => absurd z (by decide), fun z => by omega⟩
        | exact propext ⟨fun _ => by omega, fun _ => rfl⟩
    · rw [if_neg c1]
      by_cases c2 : 48 ≤ x ∧ x ≤ 57
      · rw [if_pos c2]
        first
          | exact Or.inr (Or.inr (Or.inr (Or.inl rfl)))
          | exact propext ⟨fun z => absurd z (by decide), fun z => by omega⟩
          | exact propext ⟨fun _ => by omega, fun _ => rfl⟩
      · rw [if_neg c2]
        by_cases c3 : x = 32 ∨ x = 10
        · rw [if_pos c3]
          first
            | exact Or.inr (Or.inl rfl)
            | exact propext ⟨fun z => absurd z (by decide), fun z => by omega⟩
            | exact propext ⟨fun _ => c3, fun _ => rfl⟩
        · rw [if_neg c3]
          by_cases c4 : x = 59
          · rw [if_pos c4]
            first
              | exact Or.inr (Or.inr (Or.inr (Or.inr rfl)))
              | exact propext ⟨fun z => absurd z (by decide), fun z => by omega⟩
              | exact propext ⟨fun _ => c4, fun _ => rfl⟩
          · rw [if_neg c4]
            first
              | exact Or.inl rfl
              | exact propext ⟨fun z => absurd z (by decide), fun z => by omega⟩
/-- a run of octets of one sort -/
def rnn (tp : Nat → Int32) (L : Nat) (k : Int32) (p q : Nat) : Prop := p ≤ q ∧ (∀ i, p ≤ i → i < q → i < L ∧ so (tp i) = k) ∧ ¬ (q < L ∧ so (tp q) = k)
theorem rnn_u {tp : Nat → Int32} {L : Nat} {k : Int32} {p q r : Nat} (h : rnn tp L k p q) (h' : rnn tp L k p r) : q = r := by
  rcases Nat.lt_trichotomy q r with z | z | z
  · exact absurd (h'.2.1 q h.1 z) h.2.2
  · exact z
  · exact absurd (h.2.1 r h'.1 z) h'.2.2
theorem rnn_le {tp : Nat → Int32} {L : Nat} {k : Int32} {p q : Nat} (h : rnn tp L k p q) (hp : p ≤ L) : q ≤ L := by
  rcases Nat.lt_or_ge L q with z | z
  · have := (h.2.1 L hp z).1; omega
  · exact z
def TK (tp : Nat → Int32) (L fr to : Nat) (kd : Int32) (lk : Prop) : Prop :=
  (L ≤ fr ∧ to = fr ∧ kd = 5) ∨
  (fr < L ∧ (so (tp fr) = 2 ∨ so (tp fr) = 3) ∧ rnn tp L (so (tp fr)) (fr + 1) to ∧ ((lk ∨ (so (tp fr) = 3 ∧ 7 < to - fr)) ∧ kd = 0 ∨ ¬ (lk ∨ (so (tp fr) = 3 ∧ 7 < to - fr)) ∧ kd = so (tp fr))) ∨
  (fr < L ∧ ¬ (so (tp fr) = 2 ∨ so (tp fr) = 3) ∧ to = fr + 1 ∧ kd = so (tp fr))
theorem qI_le {a b : Nat} (ha : a ≤ 2000000000) (hb : b ≤ 2000000000) : (nI a ≤ nI b) = (a ≤ b) := by
  rw [nI_iI, nI_iI, iI_le ⟨by omega, by omega⟩ ⟨by omega, by omega⟩]; exact propext ⟨fun h => by omega, fun h => by omega⟩
theorem qI_eq {a b : Nat} (ha : a ≤ 2000000000) (hb : b ≤ 2000000000) : (nI a = nI b) = (a = b) := by
  rw [nI_iI, nI_iI, iI_eq ⟨by omega, by omega⟩ ⟨by omega, by omega⟩]; exact propext ⟨fun h => by omega, fun h => by omega⟩
theorem qI_1 (a : Nat) : (nI a + 1 : Int32) = nI (a + 1) := by rw [nI_iI, nI_iI]; exact iI_add _ 1
theorem qI_sb {a b : Nat} (h : b ≤ a) : nI a - nI b = nI (a - b) := by rw [nI_iI, nI_iI, nI_iI, iI_sub]; congr 1; omega
theorem qI_z {a N : Nat} (h : a < N) (hN : N ≤ 2147483647) : zin (nI a) N = true := by rw [nI_iI]; exact iI_zin (by omega) (by omega) hN
theorem qI_n {a : Nat} (h : a ≤ 2147483647) : (nI a).toNatClampNeg = a := by rw [nI_iI, iI_nat (by omega) (by omega), Int.toNat_natCast]
theorem a232 {F tp : Nat → Int32} {fr to : Nat} (h2 : F 2 = nI fr) (h6 : F 6 = nI to) (hle : fr ≤ to) (hto : to ≤ 801) (n : Nat) : ∃ F', n_advance_232 n F tp = some F' ∧ ((F 1 = 3 ∧ 7 < to - fr) ∧ F' 1 = 0 ∨ ¬ (F 1 = 3 ∧ 7 < to - fr) ∧ F' 1 = F 1) ∧ ∀ i, i ≠ 1 → F' i = F i := by
  unfold n_advance_232
  by_cases p : F 1 = 3
  · rw [if_pos p, h2, h6, qI_sb hle, if_c (show (nI (to - fr) ≤ (7 : Int32)) = (to - fr ≤ 7) from qI_le (b := 7) (by omega) (by omega))]
    by_cases q : to - fr ≤ 7
    · rw [if_pos q]; exact ⟨F, rfl, Or.inr ⟨fun z => by omega, rfl⟩, fun _ _ => rfl⟩
    · rw [if_neg q]; exact ⟨_, rfl, Or.inl ⟨⟨p, by omega⟩, upd_at⟩, fun i hi => upd_ne hi⟩
  · rw [if_neg p]; exact ⟨F, rfl, Or.inr ⟨fun z => p z.1, rfl⟩, fun _ _ => rfl⟩
theorem a174 {F tp : Nat → Int32} {L fr t : Nat} (h0 : F 0 = nI L) (hL : L ≤ 800) (h2 : F 2 = nI fr) (hft : fr ≤ t) (ht : t ≤ L) (lk rn : Bool) {n : Nat} (hn : 250000 ≤ n) : ∃ F' to, n_advance_174 n F tp (zb lk) (zb rn) (nI t) = some F' ∧ F' 6 = nI to ∧ (rn = true ∧ rnn tp L (F 1) t to ∨ rn = false ∧ to = t) ∧ (((rn = true ∧ lk = true) ∨ (F 1 = 3 ∧ 7 < to - fr)) ∧ F' 1 = 0 ∨ ¬ ((rn = true ∧ lk = true) ∨ (F 1 = 3 ∧ 7 < to - fr)) ∧ F' 1 = F 1) ∧ ∀ i, i ≠ 1 → i ≠ 6 → F' i = F i := by
  unfold n_advance_174
  have h224 : ∀ (G : Nat → Int32) (to : Nat), G 2 = nI fr → G 6 = nI to → fr ≤ to → to ≤ 801 → ∃ F', n_advance_224 n G tp (zb lk) (zb rn) = some F' ∧ (((rn = true ∧ lk = true) ∨ (G 1 = 3 ∧ 7 < to - fr)) ∧ F' 1 = 0 ∨ ¬ ((rn = true ∧ lk = true) ∨ (G 1 = 3 ∧ 7 < to - fr)) ∧ F' 1 = G 1) ∧ ∀ i, i ≠ 1 → F' i = G i := fun G to g2 g6 hle hto => by
    unfold n_advance_224
    obtain ⟨F', e1, e2, e3⟩ := a232 (tp := tp) g2 g6 hle hto n
    rw [if_c (zb0 _), if_c (zb0 _), e1]
    cases rn
    · rw [if_pos rfl]
      refine ⟨F', rfl, ?_, e3⟩
      rcases e2 with ⟨a, b⟩ | ⟨a, b⟩
      · exact Or.inl ⟨Or.inr a, b⟩
      · exact Or.inr ⟨fun z => by rcases z with ⟨z, _⟩ | z; cases z; exact a z, b⟩
    · rw [if_neg (by decide)]
      cases lk
      · rw [if_pos rfl]
        refine ⟨F', rfl, ?_, e3⟩
        rcases e2 with ⟨a, b⟩ | ⟨a, b⟩
        · exact Or.inl ⟨Or.inr a, b⟩
        · exact Or.inr ⟨fun z => by rcases z with ⟨_, z⟩ | z; cases z; exact a z, b⟩
      · rw [if_neg (by decide)]
        exact ⟨_, rfl, Or.inl ⟨Or.inl ⟨rfl, rfl⟩, upd_at⟩, fun i hi => upd_ne hi⟩
  obtain ⟨r, e1, to, e2⟩ := zloop_inv (f := n_advance_177 n tp (zb lk) (zb rn)) (R := fun s => ∃ q : Nat, s = upd F 6 (nI q) ∧ t ≤ q ∧ q ≤ L ∧ (rn = true ∧ (∀ i, t ≤ i → i < q → i < L ∧ so (tp i) = F 1) ∨ rn = false ∧ q = t)) (S := fun F' => ∃ to, F' 6 = nI to ∧ (rn = true ∧ rnn tp L (F 1) t to ∨ rn = false ∧ to = t) ∧ (((rn = true ∧ lk = true) ∨ (F 1 = 3 ∧ 7 < to - fr)) ∧ F' 1 = 0 ∨ ¬ ((rn = true ∧ lk = true) ∨ (F 1 = 3 ∧ 7 < to - fr)) ∧ F' 1 = F 1) ∧ ∀ i, i ≠ 1 → i ≠ 6 → F' i = F i) (fun s => L - (s 6).toNatClampNeg) (by
    rintro s ⟨q, rfl, hq, hqL, hph⟩
    unfold n_advance_177
    have g6 : upd F 6 (nI q) 6 = nI q := upd_at
    have g0 : upd F 6 (nI q) 0 = nI L := (upd_ne (by omega)).trans h0
    have g1 : upd F 6 (nI q) 1 = F 1 := upd_ne (by omega)
    obtain ⟨F', f1, f2, f3⟩ := h224 (upd F 6 (nI q)) q ((upd_ne (by omega)).trans h2) g6 (by omega) (by omega)
    rw [g1] at f2
    have hfin : (rn = true ∧ rnn tp L (F 1) t q ∨ rn = false ∧ q = t) → ∃ r, (some (.inr F') : Option ((Nat → Int32) ⊕ (Nat → Int32))) = some (.inr r) ∧ ∃ to, r 6 = nI to ∧ (rn = true ∧ rnn tp L (F 1) t to ∨ rn = false ∧ to = t) ∧ (((rn = true ∧ lk = true) ∨ (F 1 = 3 ∧ 7 < to - fr)) ∧ r 1 = 0 ∨ ¬ ((rn = true ∧ lk = true) ∨ (F 1 = 3 ∧ 7 < to - fr)) ∧ r 1 = F 1) ∧ ∀ i, i ≠ 1 → i ≠ 6 → r i = F i := fun hh =>
      ⟨_, rfl, q, (f3 6 (by omega)).trans g6, hh, f2, fun i i1 i6 => (f3 i i1).trans (upd_ne i6)⟩
    rw [f1, if_c (zb0 _), if_c (show (upd F 6 (nI q) 0 ≤ upd F 6 (nI q) 6) = (L ≤ q) by rw [g0, g6, qI_le (by omega) (by omega)])]
    cases hrn : rn
    · right
      rw [if_pos rfl]
      rw [hrn] at hfin hph
      rcases hph with ⟨z, _⟩ | ⟨_, z⟩
      · cases z
      · have := hfin (Or.inr ⟨rfl, z⟩)
        exact this
    · rw [if_neg (by decide)]
      rw [hrn] at hfin hph
      rcases hph with ⟨_, z⟩ | ⟨z, _⟩
      · by_cases p : L ≤ q
        · right
          rw [if_pos p]
          exact hfin (Or.inl ⟨rfl, hq, z, fun y => by omega⟩)
        · rw [if_neg p, g6, zck_t (qI_z (by omega) (by omega)), qI_n (by omega), (so_e (tp q)).1, Option.bind_some, g1]
          by_cases p2 : so (tp q) = F 1
          · left
            rw [if_pos p2, qI_1]
            refine ⟨_, rfl, ⟨q + 1, ?_, by omega, by omega, Or.inl ⟨rfl, fun i i0 i1 => ?_⟩⟩, ?_⟩
            · funext i
              unfold upd
              by_cases t : i = 6
              · rw [if_pos t, if_pos t]
              · rw [if_neg t, if_neg t, if_neg t]
            · by_cases t : i = q
              · rw [t]; exact ⟨by omega, p2⟩
              · exact z i i0 (by omega)
            · rw [upd_at, qI_n (by omega)]; omega
          · right
            rw [if_neg p2]
            exact hfin (Or.inl ⟨rfl, hq, z, fun y => p2 y.2⟩)
      · cases z) n (upd F 6 (nI t)) ⟨t, rfl, Nat.le_refl _, ht, by cases rn; exact Or.inr ⟨rfl, rfl⟩; exact Or.inl ⟨rfl, fun i i0 i1 => by omega⟩⟩ (by rw [upd_at, qI_n (by omega)]; omega)
  exact ⟨r, to, e1, e2⟩
theorem c_advance {F tp : Nat → Int32} {L e : Nat} (h0 : F 0 = nI L) (hL : L ≤ 800) (h3 : F 3 = 0) (h6 : F 6 = nI e) (he : e ≤ L) {n : Nat} (hn : 250000 ≤ n) : ∃ F' fr to, n_advance n F tp = some F' ∧ (F' 0 = nI L ∧ F' 3 = 0 ∧ F' 4 = F 4) ∧ (F' 2 = nI fr ∧ F' 6 = nI to) ∧ rnn tp L 1 e fr ∧ (fr ≤ to ∧ to ≤ L) ∧ TK tp L fr to (F' 1) ((F 1 = 2 ∨ F 1 = 3) ∧ fr = e) := by
  have h127 : ∀ (q : Nat) (lk : Bool) (t1 : Int32), q ≤ L → (t1 = 5 ∨ q < L) → ∃ F' to, n_advance_127 n (upd F 2 (nI q)) tp (zb lk) t1 = some F' ∧ F' 6 = nI to ∧ ((t1 = 2 ∨ t1 = 3) ∧ rnn tp L t1 (q + 1) to ∨ ¬ (t1 = 2 ∨ t1 = 3) ∧ to = (if t1 = 5 then q else q + 1)) ∧ ((((t1 = 2 ∨ t1 = 3) ∧ lk = true) ∨ (t1 = 3 ∧ 7 < to - q)) ∧ F' 1 = 0 ∨ ¬ (((t1 = 2 ∨ t1 = 3) ∧ lk = true) ∨ (t1 = 3 ∧ 7 < to - q)) ∧ F' 1 = t1) ∧ F' 2 = nI q ∧ ∀ i, i ≠ 1 → i ≠ 6 → i ≠ 2 → F' i = F i := fun q lk t1 hq ht1 => by
    have g0 : upd (upd F 2 (nI q)) 1 t1 0 = nI L := h0
    have g1 : upd (upd F 2 (nI q)) 1 t1 1 = t1 := upd_at
    have g2 : upd (upd F 2 (nI q)) 1 t1 2 = nI q := rfl
    have hf : ∀ i, i ≠ 1 → i ≠ 2 → upd (upd F 2 (nI q)) 1 t1 i = F i := fun i i1 i2 => (upd_ne i1).trans (upd_ne i2)
    have hrn : ∀ rn : Bool, n_advance_151 n (upd (upd F 2 (nI q)) 1 t1) tp (zb lk) (zb rn) = n_advance_174 n (upd (upd F 2 (nI q)) 1 t1) tp (zb lk) (zb rn) (nI (if t1 = 5 then q else q + 1)) := fun rn => by
      unfold n_advance_151
      rw [g1, g2]
      by_cases p : t1 = 5
      · rw [if_pos p, if_pos p]
      · rw [if_neg p, if_neg p, qI_1]
    have htl : q ≤ (if t1 = 5 then q else q + 1) ∧ (if t1 = 5 then q else q + 1) ≤ L := by
      by_cases p : t1 = 5
      · rw [if_pos p]; omega
      · rw [if_neg p]; rcases ht1 with z | z
        · exact absurd z p
        · omega
    unfold n_advance_127 n_advance_146
    rw [g1]
    by_cases p : t1 = 2 ∨ t1 = 3
    · have hr := hrn true
      rw [show (zb true : Int32) = 1 from rfl] at hr
      obtain ⟨F', to, e1, e2, e3, e4, e5⟩ := a174 (tp := tp) g0 hL g2 htl.1 htl.2 lk true hn
      rw [g1] at e3 e4
      have hn5 : ¬ t1 = 5 := by rcases p with p | p <;> rw [p] <;> decide
      rw [if_neg hn5] at e1 e3
      have hgo : (if t1 = 2 then n_advance_151 n (upd (upd F 2 (nI q)) 1 t1) tp (zb lk) 1 else if t1 = 3 then n_advance_151 n (upd (upd F 2 (nI q)) 1 t1) tp (zb lk) 1 else n_advance_151 n (upd (upd F 2 (nI q)) 1 t1) tp (zb lk) 0) = some F' := by
        rw [hr, if_neg hn5]
        rw [show (zb true : Int32) = 1 from rfl] at e1
        rcases p with p | p
        · rw [if_pos p]; exact e1
        · rw [if_neg (by rw [p]; decide), if_pos p]; exact e1
      refine ⟨F', to, hgo, e2, Or.inl ⟨p, ?_⟩, ?_, ?_, fun i i1 i6 i2 => (e5 i i1 i6).trans (hf i i1 i2)⟩
      · rcases e3 with ⟨_, z⟩ | ⟨z, _⟩
        · exact z
        · cases z
      · rcases e4 with ⟨a, b⟩ | ⟨a, b⟩
        · exact Or.inl ⟨by rcases a with ⟨_, a⟩ | a; exact Or.inl ⟨p, a⟩; exact Or.inr a, b⟩
        · exact Or.inr ⟨fun z => a (by rcases z with ⟨_, z⟩ | z; exact Or.inl ⟨rfl, z⟩; exact Or.inr z), b⟩
      · exact (e5 2 (by omega) (by omega)).trans g2
    · have hr := hrn false
      rw [show (zb false : Int32) = 0 from rfl] at hr
      obtain ⟨F', to, e1, e2, e3, e4, e5⟩ := a174 (tp := tp) g0 hL g2 htl.1 htl.2 lk false hn
      rw [g1] at e3 e4
      rw [show (zb false : Int32) = 0 from rfl] at e1
      have hto : to = (if t1 = 5 then q else q + 1) := by
        rcases e3 with ⟨z, _⟩ | ⟨_, z⟩
        · cases z
        · exact z
      refine ⟨F', to, by rw [if_neg (fun z => p (Or.inl z)), if_neg (fun z => p (Or.inr z)), hr]; exact e1, e2, Or.inr ⟨p, hto⟩, ?_, (e5 2 (by omega) (by omega)).trans g2, fun i i1 i6 i2 => (e5 i i1 i6).trans (hf i i1 i2)⟩
      rcases e4 with ⟨a, b⟩ | ⟨a, b⟩
      · rcases a with ⟨a, _⟩ | a
        · cases a
        · exact absurd (Or.inr a.1) p
      · exact Or.inr ⟨fun z => by rcases z with ⟨z, _⟩ | z; exact p z; exact p (Or.inr z.1), b⟩
  have h98 : ∀ (q : Nat) (lk : Bool), q ≤ L → ¬ (q < L ∧ so (tp q) = 1) → ∃ F' to, n_advance_98 n (upd F 2 (nI q)) tp (zb lk) = some F' ∧ F' 6 = nI to ∧ (q ≤ to ∧ to ≤ L) ∧ TK tp L q to (F' 1) (lk = true) ∧ F' 2 = nI q ∧ ∀ i, i ≠ 1 → i ≠ 6 → i ≠ 2 → F' i = F i := fun q lk hq hb => by
    unfold n_advance_98
    rw [show upd F 2 (nI q) 0 = nI L from h0, show upd F 2 (nI q) 2 = nI q from rfl, if_c (qI_le (a := L) (b := q) (by omega) (by omega))]
    by_cases p : L ≤ q
    · obtain ⟨F', to, e1, e2, e3, e4, e5, e6⟩ := h127 q lk 5 hq (Or.inl rfl)
      have hto : to = q := by
        rcases e3 with ⟨z, _⟩ | ⟨_, z⟩
        · rcases z with z | z <;> exact absurd z (by decide)
        · rw [if_pos rfl] at z; exact z
      rw [if_pos p, e1]
      refine ⟨F', to, rfl, e2, ⟨by omega, by omega⟩, Or.inl ⟨p, hto, ?_⟩, e5, e6⟩
      rcases e4 with ⟨a, _⟩ | ⟨_, b⟩
      · rcases a with ⟨z | z, _⟩ | ⟨z, _⟩ <;> exact absurd z (by decide)
      · exact b
    · obtain ⟨F', to, e1, e2, e3, e4, e5, e6⟩ := h127 q lk (so (tp q)) hq (Or.inr (by omega))
      have hne5 : ¬ so (tp q) = 5 := by
        rcases (so_e (tp q)).2.2.2.2.2 with z | z | z | z | z <;> rw [z] <;> decide
      rw [if_neg p, zck_t (qI_z (by omega) (by omega)), qI_n (by omega), (so_e (tp q)).1, Option.bind_some, e1]
      rcases e3 with ⟨z, hr⟩ | ⟨z, hto⟩
      · have hle := rnn_le hr (by omega)
        refine ⟨F', to, rfl, e2, ⟨by have := hr.1; omega, hle⟩, Or.inr (Or.inl ⟨by omega, z, hr, ?_⟩), e5, e6⟩
        rcases e4 with ⟨a, b⟩ | ⟨a, b⟩
        · exact Or.inl ⟨by rcases a with ⟨_, a⟩ | a; exact Or.inl a; exact Or.inr a, b⟩
        · exact Or.inr ⟨fun y => a (by rcases y with y | y; exact Or.inl ⟨z, y⟩; exact Or.inr y), b⟩
      · rw [if_neg hne5] at hto
        refine ⟨F', to, rfl, e2, ⟨by omega, by omega⟩, Or.inr (Or.inr ⟨by omega, z, hto, ?_⟩), e5, e6⟩
        rcases e4 with ⟨a, b⟩ | ⟨a, b⟩
        · rcases a with ⟨y, _⟩ | ⟨y, _⟩
          · exact absurd y z
          · exact absurd (Or.inr y) z
        · exact b
  have h29 : ∀ b : Bool, ∃ F' fr to, n_advance_29 n F tp (zb b) = some F' ∧ (F' 0 = nI L ∧ F' 3 = 0 ∧ F' 4 = F 4) ∧ (F' 2 = nI fr ∧ F' 6 = nI to) ∧ rnn tp L 1 e fr ∧ (fr ≤ to ∧ to ≤ L) ∧ TK tp L fr to (F' 1) (b = true ∧ fr = e) := fun b => by
    have h78 : ∀ q, e ≤ q → q ≤ L → ¬ (q < L ∧ so (tp q) = 1) → ∃ F' to, n_advance_78 n (upd F 2 (nI q)) tp (zb b) = some F' ∧ F' 6 = nI to ∧ (q ≤ to ∧ to ≤ L) ∧ TK tp L q to (F' 1) (b = true ∧ q = e) ∧ F' 2 = nI q ∧ ∀ i, i ≠ 1 → i ≠ 6 → i ≠ 2 → F' i = F i := fun q hq1 hq hb => by
      unfold n_advance_78 n_advance_97
      rw [if_c (zb0 _), if_c (show (upd F 2 (nI q) 2 = upd F 2 (nI q) 6) = (q = e) by
        show (nI q = F 6) = _
        rw [h6, qI_eq (by omega) (by omega)])]
      cases b
      · obtain ⟨F', to, e1, e2, e3, e4, e5⟩ := h98 q false hq hb
        rw [if_pos rfl]
        refine ⟨F', to, e1, e2, e3, ?_, e5⟩
        have hc : (false = true) = (false = true ∧ q = e) := propext ⟨fun z => (by cases z), fun z => z.1⟩
        rw [← hc]; exact e4
      · rw [if_neg (by decide)]
        by_cases t : q = e
        · obtain ⟨F', to, e1, e2, e3, e4, e5⟩ := h98 q true hq hb
          rw [if_pos t]
          refine ⟨F', to, e1, e2, e3, ?_, e5⟩
          have hc : (true = true) = (true = true ∧ q = e) := propext ⟨fun z => ⟨rfl, t⟩, fun z => rfl⟩
          rw [← hc]; exact e4
        · obtain ⟨F', to, e1, e2, e3, e4, e5⟩ := h98 q false hq hb
          rw [if_neg t]
          refine ⟨F', to, e1, e2, e3, ?_, e5⟩
          have hc : (false = true) = (true = true ∧ q = e) := propext ⟨fun z => (by cases z), fun z => absurd z.2 t⟩
          rw [← hc]; exact e4
    unfold n_advance_29
    rw [h6]
    obtain ⟨r, e1, fr, to, e2⟩ := zloop_inv (f := n_advance_38 n tp (zb b)) (R := fun s => ∃ q : Nat, s = upd F 2 (nI q) ∧ e ≤ q ∧ q ≤ L ∧ ∀ i, e ≤ i → i < q → i < L ∧ so (tp i) = 1) (S := fun F' => ∃ fr to, (F' 0 = nI L ∧ F' 3 = 0 ∧ F' 4 = F 4) ∧ (F' 2 = nI fr ∧ F' 6 = nI to) ∧ rnn tp L 1 e fr ∧ (fr ≤ to ∧ to ≤ L) ∧ TK tp L fr to (F' 1) (b = true ∧ fr = e)) (fun s => L - (s 2).toNatClampNeg) (by
      rintro s ⟨q, rfl, hq, hqL, hall⟩
      unfold n_advance_38
      rw [show upd F 2 (nI q) 0 = nI L from h0, show upd F 2 (nI q) 2 = nI q from rfl, if_c (qI_le (a := L) (b := q) (by omega) (by omega))]
      have hfin : ¬ (q < L ∧ so (tp q) = 1) → ∃ r, (n_advance_78 n (upd F 2 (nI q)) tp (zb b)).map (fun z => (Sum.inr z : (Nat → Int32) ⊕ (Nat → Int32))) = some (.inr r) ∧ ∃ fr to, (r 0 = nI L ∧ r 3 = 0 ∧ r 4 = F 4) ∧ (r 2 = nI fr ∧ r 6 = nI to) ∧ rnn tp L 1 e fr ∧ (fr ≤ to ∧ to ≤ L) ∧ TK tp L fr to (r 1) (b = true ∧ fr = e) := fun hb => by
        obtain ⟨F', to, e1, e2, e3, e4, e5, e6⟩ := h78 q hq hqL hb
        rw [e1]
        exact ⟨_, rfl, q, to, ⟨(e6 0 (by omega) (by omega) (by omega)).trans h0, (e6 3 (by omega) (by omega) (by omega)).trans h3, e6 4 (by omega) (by omega) (by omega)⟩, ⟨e5, e2⟩, ⟨hq, hall, hb⟩, e3, e4⟩
      by_cases p : L ≤ q
      · right; rw [if_pos p]; exact hfin (fun z => by omega)
      · rw [if_neg p, zck_t (qI_z (by omega) (by omega)), qI_n (by omega), (so_e (tp q)).1, Option.bind_some]
        by_cases p2 : so (tp q) = 1
        · left
          rw [if_pos p2, qI_1]
          refine ⟨_, rfl, ⟨q + 1, ?_, by omega, by omega, fun i i0 i1 => ?_⟩, ?_⟩
          · funext i
            unfold upd
            by_cases t : i = 2
            · rw [if_pos t, if_pos t]
            · rw [if_neg t, if_neg t, if_neg t]
          · by_cases t : i = q
            · rw [t]; exact ⟨by omega, p2⟩
            · exact hall i i0 (by omega)
          · rw [upd_at, qI_n (by omega)]; omega
        · right; rw [if_neg p2]; exact hfin (fun z => p2 z.2)) n (upd F 2 (nI e)) ⟨e, rfl, Nat.le_refl _, he, fun i i0 i1 => by omega⟩ (by rw [upd_at, qI_n (by omega)]; omega)
    exact ⟨r, fr, to, e1, e2⟩
  unfold n_advance n_advance_24
  rw [if_pos h3]
  by_cases p : F 1 = 2 ∨ F 1 = 3
  · obtain ⟨F', fr, to, e1, e2, e3, e4, e5, e6⟩ := h29 true
    refine ⟨F', fr, to, ?_, e2, e3, e4, e5, ?_⟩
    · rw [show (zb true : Int32) = 1 from rfl] at e1
      rcases p with p | p
      · rw [if_pos p]; exact e1
      · rw [if_neg (by rw [p]; decide), if_pos p]; exact e1
    · have hc : (true = true ∧ fr = e) = ((F 1 = 2 ∨ F 1 = 3) ∧ fr = e) := propext ⟨fun z => ⟨p, z.2⟩, fun z => ⟨rfl, z.2⟩⟩
      rw [← hc]; exact e6
  · obtain ⟨F', fr, to, e1, e2, e3, e4, e5, e6⟩ := h29 false
    refine ⟨F', fr, to, ?_, e2, e3, e4, e5, ?_⟩
    · rw [if_neg (fun z => p (Or.inl z)), if_neg (fun z => p (Or.inr z))]; exact e1
    · have hc : (false = true ∧ fr = e) = ((F 1 = 2 ∨ F 1 = 3) ∧ fr = e) := propext ⟨fun z => (by cases z.1), fun z => absurd z.1 p⟩
      rw [← hc]; exact e6
