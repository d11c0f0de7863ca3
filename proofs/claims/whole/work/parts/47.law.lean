/-! ===== the law: its loop, its start ===== -/
def HCs (Inv : TInv) : Prop := HC_feed Inv ∧ HC_end Inv ∧ HC_design Inv ∧ HC_fault Inv ∧ HC_has Inv ∧ HC_count Inv ∧ HC_month Inv ∧ HC_mean Inv ∧ HC_copy Inv ∧ HC_drop Inv ∧ HC_shift Inv ∧ HC_truth Inv ∧ HC_undo Inv ∧ HC_write Inv ∧ HC_octet Inv ∧ HC_leap Inv ∧ HC_leaps Inv ∧ HC_start Inv ∧ HC_number Inv ∧ HC_date Inv ∧ HC_dated Inv ∧ HC_later Inv ∧ HC_taken Inv ∧ HC_drift Inv ∧ HC_extreme Inv ∧ HC_passes Inv ∧ HC_keeps Inv ∧ HC_dawns Inv ∧ HC_steady Inv ∧ HC_gap Inv ∧ HC_even Inv ∧ HC_weeks Inv ∧ HC_falls Inv ∧ HC_nth Inv ∧ HC_next Inv ∧ HC_pattern Inv ∧ HC_busiest Inv ∧ HC_moons Inv ∧ HC_age Inv ∧ HC_meets Inv ∧ HC_join Inv ∧ HC_joined Inv ∧ HC_often Inv ∧ HC_span Inv ∧ HC_like Inv ∧ HC_within Inv ∧ HC_asRow Inv ∧ HC_apart Inv ∧ HC_best Inv ∧ HC_term Inv ∧ HC_convergent Inv ∧ HC_suggests Inv
theorem nI_stop {L i : Nat} (hL : L ≤ 4096) (hi : i ≤ L) (h : ¬ nI L - 8 < nI i) : i + 8 ≤ L := by
  have h1 := nI_toInt (n := L) (by omega)
  have h2 := nI_toInt (n := i) (by omega)
  rw [Int32.lt_iff_toInt_lt, Int32.toInt_sub, h1, h2] at h
  have h3 : (8 : Int32).toInt = 8 := by decide
  rw [h3, Int.bmod_eq_of_le (by omega) (by omega)] at h
  omega
theorem z_tn {x : Int32} (c : Int32) (h0 : 0 ≤ x.toInt) (h : x.toInt.toNat = c.toInt.toNat) (hc : 0 ≤ c.toInt) : x = c := Int32.toInt_inj.mp (by omega)
theorem sw_all : ∀ j : Nat, j < 52 → (j = 0 ∨ j = 1 ∨ j = 2 ∨ j = 3 ∨ j = 4 ∨ j = 5 ∨ j = 6 ∨ j = 7 ∨ j = 8 ∨ j = 9 ∨ j = 10 ∨ j = 11 ∨ j = 12 ∨ j = 13 ∨ j = 14 ∨ j = 15 ∨ j = 16 ∨ j = 17 ∨ j = 18 ∨ j = 19 ∨ j = 20 ∨ j = 21 ∨ j = 22 ∨ j = 23 ∨ j = 24 ∨ j = 25 ∨ j = 26 ∨ j = 27 ∨ j = 28 ∨ j = 29 ∨ j = 30 ∨ j = 31 ∨ j = 32 ∨ j = 33 ∨ j = 34 ∨ j = 35 ∨ j = 36 ∨ j = 37 ∨ j = 38 ∨ j = 39 ∨ j = 40 ∨ j = 41 ∨ j = 42 ∨ j = 43 ∨ j = 44 ∨ j = 45 ∨ j = 46 ∨ j = 47 ∨ j = 48 ∨ j = 49 ∨ j = 50 ∨ j = 51) := by intro j hj; omega
theorem sw_dec : decode code 33 = .ok (.tableswitch 2776 0 51 #[223, 286, 309, 332, 355, 388, 411, 470, 530, 563, 586, 619, 672, 685, 708, 731, 764, 807, 841, 885, 959, 1013, 1077, 1173, 1217, 1297, 1330, 1353, 1406, 1470, 1503, 1526, 1549, 1624, 1716, 1760, 1804, 1880, 1944, 2028, 2116, 2223, 2287, 2330, 2406, 2439, 2493, 2516, 2580, 2634, 2678, 2732], 223) := by decide +kernel
section LL
variable {s0 : State} {D : va_G} {cB cI cJ cD : ClassId} {al l1 l2 l3 l4 l5 am a1 a2 a3 b L : Nat} {xs : Nat → Int32} {y : MethodName} {Q : Option Value → zHp → zHp → Nat → Prop} {Inv : TInv}
set_option maxHeartbeats 4000000 in
set_option maxRecDepth 100000 in
theorem law_sw (hy : y.cls = "LeapDesignerLaw") (hs : iScr s0 b L xs) (hL : L ≤ 4096) (hcs : HCs Inv) {i k : Nat} (hk : i + 8 ≤ L) {A tp : Nat → Int32} {dv : Nat → Option vDes} {cs : Nat → Int32} {cv : Nat → Option vDes} {jv : Option vJoint} {bo : Option (Nat → Int32)} {hg lw : Option (Nat → Int64)} {sb : vSB} {F : Nat → Int32} {G : Nat → Int64} {tq w oc : Nat → Int32} {hi hm : zHp} {nx : Nat} {x : Int32} (hI : Inv A tp dv cs cv jv bo hg lw sb F G tq w oc) (hG : gW cB cI cJ cD al l1 l2 l3 l4 l5 am a1 a2 a3 A tp dv cs cv jv bo hg lw sb F G tq w oc hi hm) (cont : ∀ (A' tp' : Nat → Int32) (dv' : Nat → Option vDes) (cs' : Nat → Int32) (cv' : Nat → Option vDes) (jv' : Option vJoint) (bo' : Option (Nat → Int32)) (hg' lw' : Option (Nat → Int64)) (sb' : vSB) (F' : Nat → Int32) (G' : Nat → Int64) (tq' w' oc' : Nat → Int32) (hi' hm' : zHp) (nx' : Nat), Inv A' tp' dv' cs' cv' jv' bo' hg' lw' sb' F' G' tq' w' oc' → gW cB cI cJ cD al l1 l2 l3 l4 l5 am a1 a2 a3 A' tp' dv' cs' cv' jv' bo' hg' lw' sb' F' G' tq' w' oc' hi' hm' → zV s0 D (zty cB cI cJ cD) y code 4 (some .boolean) 15 584 (1100 * k + sbPhi sb'.2.1) (13000 * k + sbPhi sb'.2.1) 2809 [(0, .ref b), (1, .ref al), (2, .ref am), (3, .int (nI i))] [] hi' hm' nx' Q) : zV s0 D (zty cB cI cJ cD) y code 4 (some .boolean) 15 584 (1100 * (k + 1) + sbPhi sb.2.1) (13000 * (k + 1) + sbPhi sb.2.1) 33 [(0, .ref b), (1, .ref al), (2, .ref am), (3, .int (nI i))] [.int x] hi hm nx Q := by
  obtain ⟨h_feed, h_end, h_design, h_fault, h_has, h_count, h_month, h_mean, h_copy, h_drop, h_shift, h_truth, h_undo, h_write, h_octet, h_leap, h_leaps, h_start, h_number, h_date, h_dated, h_later, h_taken, h_drift, h_extreme, h_passes, h_keeps, h_dawns, h_steady, h_gap, h_even, h_weeks, h_falls, h_nth, h_next, h_pattern, h_busiest, h_moons, h_age, h_meets, h_join, h_joined, h_often, h_span, h_like, h_within, h_asRow, h_apart, h_best, h_term, h_convergent, h_suggests⟩ := hcs
  by_cases q : x.toInt < 0 ∨ 51 < x.toInt
  · exact zV_tout (tgt := 2809) q sw_dec (by decide) (zV_less (by omega) (by omega) (cont _ _ _ _ _ _ _ _ _ _ _ _ _ _ _ _ _ _ hI hG))
  · have q0 : 0 ≤ x.toInt := by omega
    rcases sw_all x.toInt.toNat (by omega) with e | e | e | e | e | e | e | e | e | e | e | e | e | e | e | e | e | e | e | e | e | e | e | e | e | e | e | e | e | e | e | e | e | e | e | e | e | e | e | e | e | e | e | e | e | e | e | e | e | e | e | e
    · exact zV_tin (tgt := 256) (off := 223) 0 (z_tn 0 q0 e (by decide)) sw_dec (by decide) (by decide) (by rfl) (by decide) (lc_feed hy hs hL hk h_feed hI hG cont)
    · exact zV_tin (tgt := 319) (off := 286) 1 (z_tn 1 q0 e (by decide)) sw_dec (by decide) (by decide) (by rfl) (by decide) (lc_end hy hs hL hk h_end hI hG cont)
    · exact zV_tin (tgt := 342) (off := 309) 2 (z_tn 2 q0 e (by decide)) sw_dec (by decide) (by decide) (by rfl) (by decide) (lc_design hy hs hL hk h_design hI hG cont)
    · exact zV_tin (tgt := 365) (off := 332) 3 (z_tn 3 q0 e (by decide)) sw_dec (by decide) (by decide) (by rfl) (by decide) (lc_fault hy hs hL hk h_fault hI hG cont)
    · exact zV_tin (tgt := 388) (off := 355) 4 (z_tn 4 q0 e (by decide)) sw_dec (by decide) (by decide) (by rfl) (by decide) (lc_has hy hs hL hk h_has hI hG cont)
    · exact zV_tin (tgt := 421) (off := 388) 5 (z_tn 5 q0 e (by decide)) sw_dec (by decide) (by decide) (by rfl) (by decide) (lc_count hy hs hL hk h_count hI hG cont)
    · exact zV_tin (tgt := 444) (off := 411) 6 (z_tn 6 q0 e (by decide)) sw_dec (by decide) (by decide) (by rfl) (by decide) (lc_month hy hs hL hk h_month hI hG cont)
    · exact zV_tin (tgt := 503) (off := 470) 7 (z_tn 7 q0 e (by decide)) sw_dec (by decide) (by decide) (by rfl) (by decide) (lc_mean hy hs hL hk h_mean hI hG cont)
    · exact zV_tin (tgt := 563) (off := 530) 8 (z_tn 8 q0 e (by decide)) sw_dec (by decide) (by decide) (by rfl) (by decide) (lc_copy hy hs hL hk h_copy hI hG cont)
    · exact zV_tin (tgt := 596) (off := 563) 9 (z_tn 9 q0 e (by decide)) sw_dec (by decide) (by decide) (by rfl) (by decide) (lc_drop hy hs hL hk h_drop hI hG cont)
    · exact zV_tin (tgt := 619) (off := 586) 10 (z_tn 10 q0 e (by decide)) sw_dec (by decide) (by decide) (by rfl) (by decide) (lc_shift hy hs hL hk h_shift hI hG cont)
    · exact zV_tin (tgt := 652) (off := 619) 11 (z_tn 11 q0 e (by decide)) sw_dec (by decide) (by decide) (by rfl) (by decide) (lc_truth hy hs hL hk h_truth hI hG cont)
    · exact zV_tin (tgt := 705) (off := 672) 12 (z_tn 12 q0 e (by decide)) sw_dec (by decide) (by decide) (by rfl) (by decide) (lc_undo hy hs hL hk h_undo hI hG cont)
    · exact zV_tin (tgt := 718) (off := 685) 13 (z_tn 13 q0 e (by decide)) sw_dec (by decide) (by decide) (by rfl) (by decide) (lc_write hy hs hL hk h_write hI hG cont)
    · exact zV_tin (tgt := 741) (off := 708) 14 (z_tn 14 q0 e (by decide)) sw_dec (by decide) (by decide) (by rfl) (by decide) (lc_octet hy hs hL hk h_octet hI hG cont)
    · exact zV_tin (tgt := 764) (off := 731) 15 (z_tn 15 q0 e (by decide)) sw_dec (by decide) (by decide) (by rfl) (by decide) (lc_leap hy hs hL hk h_leap hI hG cont)
    · exact zV_tin (tgt := 797) (off := 764) 16 (z_tn 16 q0 e (by decide)) sw_dec (by decide) (by decide) (by rfl) (by decide) (lc_leaps hy hs hL hk h_leaps hI hG cont)
    · exact zV_tin (tgt := 840) (off := 807) 17 (z_tn 17 q0 e (by decide)) sw_dec (by decide) (by decide) (by rfl) (by decide) (lc_start hy hs hL hk h_start hI hG cont)
    · exact zV_tin (tgt := 874) (off := 841) 18 (z_tn 18 q0 e (by decide)) sw_dec (by decide) (by decide) (by rfl) (by decide) (lc_number hy hs hL hk h_number hI hG cont)
    · exact zV_tin (tgt := 918) (off := 885) 19 (z_tn 19 q0 e (by decide)) sw_dec (by decide) (by decide) (by rfl) (by decide) (lc_date hy hs hL hk h_date hI hG cont)
    · exact zV_tin (tgt := 992) (off := 959) 20 (z_tn 20 q0 e (by decide)) sw_dec (by decide) (by decide) (by rfl) (by decide) (lc_dated hy hs hL hk h_dated hI hG cont)
    · exact zV_tin (tgt := 1046) (off := 1013) 21 (z_tn 21 q0 e (by decide)) sw_dec (by decide) (by decide) (by rfl) (by decide) (lc_later hy hs hL hk h_later hI hG cont)
    · exact zV_tin (tgt := 1110) (off := 1077) 22 (z_tn 22 q0 e (by decide)) sw_dec (by decide) (by decide) (by rfl) (by decide) (lc_taken hy hs hL hk h_taken hI hG cont)
    · exact zV_tin (tgt := 1206) (off := 1173) 23 (z_tn 23 q0 e (by decide)) sw_dec (by decide) (by decide) (by rfl) (by decide) (lc_drift hy hs hL hk h_drift hI hG cont)
    · exact zV_tin (tgt := 1250) (off := 1217) 24 (z_tn 24 q0 e (by decide)) sw_dec (by decide) (by decide) (by rfl) (by decide) (lc_extreme hy hs hL hk h_extreme hI hG cont)
    · exact zV_tin (tgt := 1330) (off := 1297) 25 (z_tn 25 q0 e (by decide)) sw_dec (by decide) (by decide) (by rfl) (by decide) (lc_passes hy hs hL hk h_passes hI hG cont)
    · exact zV_tin (tgt := 1363) (off := 1330) 26 (z_tn 26 q0 e (by decide)) sw_dec (by decide) (by decide) (by rfl) (by decide) (lc_keeps hy hs hL hk h_keeps hI hG cont)
    · exact zV_tin (tgt := 1386) (off := 1353) 27 (z_tn 27 q0 e (by decide)) sw_dec (by decide) (by decide) (by rfl) (by decide) (lc_dawns hy hs hL hk h_dawns hI hG cont)
    · exact zV_tin (tgt := 1439) (off := 1406) 28 (z_tn 28 q0 e (by decide)) sw_dec (by decide) (by decide) (by rfl) (by decide) (lc_steady hy hs hL hk h_steady hI hG cont)
    · exact zV_tin (tgt := 1503) (off := 1470) 29 (z_tn 29 q0 e (by decide)) sw_dec (by decide) (by decide) (by rfl) (by decide) (lc_gap hy hs hL hk h_gap hI hG cont)
    · exact zV_tin (tgt := 1536) (off := 1503) 30 (z_tn 30 q0 e (by decide)) sw_dec (by decide) (by decide) (by rfl) (by decide) (lc_even hy hs hL hk h_even hI hG cont)
    · exact zV_tin (tgt := 1559) (off := 1526) 31 (z_tn 31 q0 e (by decide)) sw_dec (by decide) (by decide) (by rfl) (by decide) (lc_weeks hy hs hL hk h_weeks hI hG cont)
    · exact zV_tin (tgt := 1582) (off := 1549) 32 (z_tn 32 q0 e (by decide)) sw_dec (by decide) (by decide) (by rfl) (by decide) (lc_falls hy hs hL hk h_falls hI hG cont)
    · exact zV_tin (tgt := 1657) (off := 1624) 33 (z_tn 33 q0 e (by decide)) sw_dec (by decide) (by decide) (by rfl) (by decide) (lc_nth hy hs hL hk h_nth hI hG cont)
    · exact zV_tin (tgt := 1749) (off := 1716) 34 (z_tn 34 q0 e (by decide)) sw_dec (by decide) (by decide) (by rfl) (by decide) (lc_next hy hs hL hk h_next hI hG cont)
    · exact zV_tin (tgt := 1793) (off := 1760) 35 (z_tn 35 q0 e (by decide)) sw_dec (by decide) (by decide) (by rfl) (by decide) (lc_pattern hy hs hL hk h_pattern hI hG cont)
    · exact zV_tin (tgt := 1837) (off := 1804) 36 (z_tn 36 q0 e (by decide)) sw_dec (by decide) (by decide) (by rfl) (by decide) (lc_busiest hy hs hL hk h_busiest hI hG cont)
    · exact zV_tin (tgt := 1913) (off := 1880) 37 (z_tn 37 q0 e (by decide)) sw_dec (by decide) (by decide) (by rfl) (by decide) (lc_moons hy hs hL hk h_moons hI hG cont)
    · exact zV_tin (tgt := 1977) (off := 1944) 38 (z_tn 38 q0 e (by decide)) sw_dec (by decide) (by decide) (by rfl) (by decide) (lc_age hy hs hL hk h_age hI hG cont)
    · exact zV_tin (tgt := 2061) (off := 2028) 39 (z_tn 39 q0 e (by decide)) sw_dec (by decide) (by decide) (by rfl) (by decide) (lc_meets hy hs hL hk h_meets hI hG cont)
    · exact zV_tin (tgt := 2149) (off := 2116) 40 (z_tn 40 q0 e (by decide)) sw_dec (by decide) (by decide) (by rfl) (by decide) (lc_join hy hs hL hk h_join hI hG cont)
    · exact zV_tin (tgt := 2256) (off := 2223) 41 (z_tn 41 q0 e (by decide)) sw_dec (by decide) (by decide) (by rfl) (by decide) (lc_joined hy hs hL hk h_joined hI hG cont)
    · exact zV_tin (tgt := 2320) (off := 2287) 42 (z_tn 42 q0 e (by decide)) sw_dec (by decide) (by decide) (by rfl) (by decide) (lc_often hy hs hL hk h_often hI hG cont)
    · exact zV_tin (tgt := 2363) (off := 2330) 43 (z_tn 43 q0 e (by decide)) sw_dec (by decide) (by decide) (by rfl) (by decide) (lc_span hy hs hL hk h_span hI hG cont)
    · exact zV_tin (tgt := 2439) (off := 2406) 44 (z_tn 44 q0 e (by decide)) sw_dec (by decide) (by decide) (by rfl) (by decide) (lc_like hy hs hL hk h_like hI hG cont)
    · exact zV_tin (tgt := 2472) (off := 2439) 45 (z_tn 45 q0 e (by decide)) sw_dec (by decide) (by decide) (by rfl) (by decide) (lc_within hy hs hL hk h_within hI hG cont)
    · exact zV_tin (tgt := 2526) (off := 2493) 46 (z_tn 46 q0 e (by decide)) sw_dec (by decide) (by decide) (by rfl) (by decide) (lc_asRow hy hs hL hk h_asRow hI hG cont)
    · exact zV_tin (tgt := 2549) (off := 2516) 47 (z_tn 47 q0 e (by decide)) sw_dec (by decide) (by decide) (by rfl) (by decide) (lc_apart hy hs hL hk h_apart hI hG cont)
    · exact zV_tin (tgt := 2613) (off := 2580) 48 (z_tn 48 q0 e (by decide)) sw_dec (by decide) (by decide) (by rfl) (by decide) (lc_best hy hs hL hk h_best hI hG cont)
    · exact zV_tin (tgt := 2667) (off := 2634) 49 (z_tn 49 q0 e (by decide)) sw_dec (by decide) (by decide) (by rfl) (by decide) (lc_term hy hs hL hk h_term hI hG cont)
    · exact zV_tin (tgt := 2711) (off := 2678) 50 (z_tn 50 q0 e (by decide)) sw_dec (by decide) (by decide) (by rfl) (by decide) (lc_convergent hy hs hL hk h_convergent hI hG cont)
    · exact zV_tin (tgt := 2765) (off := 2732) 51 (z_tn 51 q0 e (by decide)) sw_dec (by decide) (by decide) (by rfl) (by decide) (lc_suggests hy hs hL hk h_suggests hI hG cont)
set_option maxRecDepth 100000 in
theorem law_18 (hy : y.cls = "LeapDesignerLaw") (hs : iScr s0 b L xs) (hL : L ≤ 4096) (hcs : HCs Inv) (hQ : ∀ hi' hm' nx', Q (some (.int 1)) hi' hm' nx') : ∀ (k i : Nat), i + 8 * k ≤ L → L < i + 8 * (k + 1) → ∀ (A tp : Nat → Int32) (dv : Nat → Option vDes) (cs : Nat → Int32) (cv : Nat → Option vDes) (jv : Option vJoint) (bo : Option (Nat → Int32)) (hg lw : Option (Nat → Int64)) (sb : vSB) (F : Nat → Int32) (G : Nat → Int64) (tq w oc : Nat → Int32) (hi hm : zHp) (nx : Nat), Inv A tp dv cs cv jv bo hg lw sb F G tq w oc → gW cB cI cJ cD al l1 l2 l3 l4 l5 am a1 a2 a3 A tp dv cs cv jv bo hg lw sb F G tq w oc hi hm → zV s0 D (zty cB cI cJ cD) y code 4 (some .boolean) 15 584 (1100 * k + sbPhi sb.2.1) (13000 * k + sbPhi sb.2.1) 18 [(0, .ref b), (1, .ref al), (2, .ref am), (3, .int (nI i))] [] hi hm nx Q := by
  intro k
  induction k with
  | zero =>
    intro i h1 h2 A tp dv cs cv jv bo hg lw sb F G tq w oc hi hm nx hI hG
    refine zV_blk (pc' := 20) (lo' := [(0, .ref b), (1, .ref al), (2, .ref am), (3, .int (nI i))]) (st' := [.ref b, .int (nI i)]) [.iload_n 3, .aload_n 0] (by decide +kernel) rfl ?_
    refine zV_slen hs (by decide +kernel) ?_
    refine zV_blk (pc' := 24) (lo' := [(0, .ref b), (1, .ref al), (2, .ref am), (3, .int (nI i))]) (st' := [.int (nI L - 8), .int (nI i)]) [.bipush 8, .isub] (by decide +kernel) rfl ?_
    refine zV_icmp_gt (tgt := 2815) (off := 2791) (by decide +kernel) (by decide) (fun _ => ?_) (fun q => ?_)
    · refine zV_blk (pc' := 2816) (lo' := [(0, .ref b), (1, .ref al), (2, .ref am), (3, .int (nI i))]) (st' := [.int 1]) [.iconst 1] (by decide +kernel) rfl ?_
      exact zV_bret (b := true) rfl (by decide +kernel) (hQ _ _ _)
    · exact absurd (nI_stop hL (by omega) q) (by omega)
  | succ k ih =>
    intro i h1 h2 A tp dv cs cv jv bo hg lw sb F G tq w oc hi hm nx hI hG
    refine zV_blk (pc' := 20) (lo' := [(0, .ref b), (1, .ref al), (2, .ref am), (3, .int (nI i))]) (st' := [.ref b, .int (nI i)]) [.iload_n 3, .aload_n 0] (by decide +kernel) rfl ?_
    refine zV_slen hs (by decide +kernel) ?_
    refine zV_blk (pc' := 24) (lo' := [(0, .ref b), (1, .ref al), (2, .ref am), (3, .int (nI i))]) (st' := [.int (nI L - 8), .int (nI i)]) [.bipush 8, .isub] (by decide +kernel) rfl ?_
    refine zV_icmp_gt (tgt := 2815) (off := 2791) (by decide +kernel) (by decide) (fun _ => ?_) (fun q => ?_)
    · refine zV_blk (pc' := 2816) (lo' := [(0, .ref b), (1, .ref al), (2, .ref am), (3, .int (nI i))]) (st' := [.int 1]) [.iconst 1] (by decide +kernel) rfl ?_
      exact zV_bret (b := true) rfl (by decide +kernel) (hQ _ _ _)
    · refine zV_blk (pc' := 29) (lo' := [(0, .ref b), (1, .ref al), (2, .ref am), (3, .int (nI i))]) (st' := [.int (nI i), .ref b]) [.aload_n 0, .iload_n 3] (by decide +kernel) rfl ?_
      refine zV_sld (j := i) hs rfl (by omega) hL (by decide +kernel) ?_
      refine zV_blk (pc' := 33) (lo' := [(0, .ref b), (1, .ref al), (2, .ref am), (3, .int (nI i))]) (st' := [.int (xs i &&& 63)]) [.bipush 63, .iand] (by decide +kernel) rfl ?_
      refine law_sw hy hs hL hcs (by omega) hI hG (fun A' tp' dv' cs' cv' jv' bo' hg' lw' sb' F' G' tq' w' oc' hi' hm' nx' hI' hG' => ?_)
      refine zV_blk (pc' := 2812) (lo' := [(3, .int (nI i + 8)), (0, .ref b), (1, .ref al), (2, .ref am)]) (st' := []) [.iinc 3 8] (by decide +kernel) rfl ?_
      refine zV_pick (lo2 := [(0, .ref b), (1, .ref al), (2, .ref am), (3, .int (nI i + 8))]) [1, 2, 3, 0] rfl ?_
      refine zV_goto (tgt := 18) (off := -2794) (by decide +kernel) (by decide) ?_
      refine zV_eq (lo2 := [(0, .ref b), (1, .ref al), (2, .ref am), (3, .int (nI (i + 8)))]) rfl (by rw [← nI_add i 8]; rfl) rfl rfl ?_
      exact ih (i + 8) (by omega) (by omega) _ _ _ _ _ _ _ _ _ _ _ _ _ _ _ _ _ _ hI' hG'

theorem law_0 (hy : y.cls = "LeapDesignerLaw") (hs : iScr s0 b L xs) (hL : L ≤ 4096) (hBI : cB ≠ cI) (hcs : HCs Inv) (h0 : Inv (upd (fun _ => 0) 3 (-1)) (fun _ => 0) (fun _ => none) (fun _ => 0) (fun _ => none) none none none none (0, 16, 0, fun _ => 0) (upd (fun _ => 0) 9 (-1)) (fun _ => 0) (fun _ => 0) (fun _ => 0) (fun _ => 0)) (hQ : ∀ hi' hm' nx', Q (some (.int 1)) hi' hm' nx') (nx : Nat) : zV s0 D (zty cB cI cJ cD) y code 4 (some .boolean) 15 584 600000 7302250 0 [(0, .ref b)] [] (fun _ => none) (fun _ => none) nx Q := by
  refine zV_less (mc' := 599999 + 1) (ms' := 7302236 + 14) (Nat.le_of_ble_eq_true rfl) (Nat.le_of_ble_eq_true rfl) ?_
  refine zV_newX (ci := 11) (N := 14) (idx := 7) (fs := [.null, .int 0, .int 0, .int 0, .null, .null, .null, .int 0, .int 0, .null, .null, .null, .null, .null]) tyX11 rfl z_in11 tyX11_ok (by rw [hy]; exact (zT_mem 113 (by decide +kernel) rfl)) (zT_mem 114 (by decide +kernel) rfl) (zT_mem 89 (by decide +kernel) rfl) (by decide +kernel) (by decide +kernel) (fun n1 n2 => ?_)
  obtain ⟨al, hel⟩ : ∃ z : Nat, z = nx := ⟨_, rfl⟩
  rw [← hel]
  obtain ⟨nx1, henx⟩ : ∃ z : Nat, z = al + 1 := ⟨_, rfl⟩
  rw [← henx]; clear henx hel n1 n2
  refine zV_blk (pc' := 4) (lo' := [(0, .ref b)]) (st' := [.ref al, .ref al]) [.dup] (by decide +kernel) rfl ?_
  refine zV_callI (idx := 9) (As := []) (rest := [.ref al]) (cw_init s0 D (fun _ => False) cB cI cJ cD al (Q := fun v hi' hm' nx' => v = none ∧ hi' = (fun _ => none) ∧ ∃ l1 l2 l3 l4 l5 : Nat, lW (fun _ => False) cB cI cJ cD al l1 l2 l3 l4 l5 (upd (fun _ => 0) 3 (-1)) (fun _ => 0) (fun _ => none) (fun _ => 0) (fun _ => none) none none none none (0, 16, 0, fun _ => 0) (fun _ => none) hm') hBI (fun q => q) (fun _ q => q.elim) zUe (fun hm' nx' l1 l2 l3 l4 l5 g _ => ⟨rfl, rfl, l1, l2, l3, l4, l5, g⟩)) oX11_init rfl (by rw [hy]; exact (zT_mem 115 (by decide +kernel) rfl)) (zT_mem 116 (by decide +kernel) rfl) rfl rfl (Nat.le_of_ble_eq_true rfl) ⟨by decide, by decide⟩ ⟨by decide, by decide⟩ (by decide +kernel) ?_
  rintro v hi1 hm1 nx2 ⟨rfl, rfl, l1, l2, l3, l4, l5, gW1⟩
  refine zV_blk (pc' := 8) (lo' := [(1, .ref al), (0, .ref b)]) (st' := []) [.astore_n 1] (by decide +kernel) rfl ?_
  refine zV_less (mc' := 599992 + 1) (ms' := 7301360 + 26) (Nat.le_of_ble_eq_true rfl) (Nat.le_of_ble_eq_true rfl) ?_
  refine zV_newX (ci := 12) (N := 26) (idx := 10) (fs := [.int 0, .null, .int 0, .int 0, .int 0, .int 0, .int 0, .int 0, .int 0, .int 0, .int 0, .int 0, .null, .int 0, .int 0, .null, .int 0, .int 0, .int 0, .int 0, .int 0, .long 0, .long 0, .long 0, .long 0, .long 0]) tyX12 rfl z_in12 tyX12_ok (by rw [hy]; exact (zT_mem 1433 (by decide +kernel) rfl)) (zT_mem 1434 (by decide +kernel) rfl) (zT_mem 94 (by decide +kernel) rfl) (by decide +kernel) (by decide +kernel) (fun n1 n2 => ?_)
  obtain ⟨am, hel⟩ : ∃ z : Nat, z = nx2 := ⟨_, rfl⟩
  rw [← hel] at n2 ⊢
  obtain ⟨nx3, henx⟩ : ∃ z : Nat, z = am + 1 := ⟨_, rfl⟩
  rw [← henx]; clear henx hel n1
  refine zV_blk (pc' := 12) (lo' := [(1, .ref al), (0, .ref b)]) (st' := [.ref am, .ref am]) [.dup] (by decide +kernel) rfl ?_
  refine zV_callI (idx := 12) (As := []) (rest := [.ref am]) (cm_init s0 D cB cI cJ cD am (Q := fun v hi' hm' nx' => v = none ∧ hi' = (fun _ => none) ∧ ∃ a1 a2 a3 : Nat, gW cB cI cJ cD al l1 l2 l3 l4 l5 am a1 a2 a3 (upd (fun _ => 0) 3 (-1)) (fun _ => 0) (fun _ => none) (fun _ => 0) (fun _ => none) none none none none (0, 16, 0, fun _ => 0) (upd (fun _ => 0) 9 (-1)) (fun _ => 0) (fun _ => 0) (fun _ => 0) (fun _ => 0) (fun _ => none) hm') zUe (fun hm' nx' a1 a2 a3 g1 g2 k1 k2 k3 => ⟨rfl, rfl, a1, a2, a3, gW1.move (fun q e hq _ => ?_) (fun q hq => ?_), g1⟩)) oX12_init rfl (by rw [hy]; exact (zT_mem 1435 (by decide +kernel) rfl)) (zT_mem 1436 (by decide +kernel) rfl) rfl rfl (Nat.le_of_ble_eq_true rfl) ⟨by decide, by decide⟩ ⟨by decide, by decide⟩ (by decide +kernel) ?_
  · have hne : q ≠ am := fun z => by rw [z, n2] at hq; cases hq
    have hup : va_up hm1 am (some (.inr (12, [.int 0, .null, .int 0, .int 0, .int 0, .int 0, .int 0, .int 0, .int 0, .int 0, .int 0, .int 0, .null, .int 0, .int 0, .null, .int 0, .int 0, .int 0, .int 0, .int 0, .long 0, .long 0, .long 0, .long 0, .long 0]))) q = some e := by rw [va_up, if_neg hne]; exact hq
    refine ⟨(g2 q (by rw [hup]; simp) hne).trans hup, ?_⟩
    rintro (z | z | z | z)
    · exact hne z
    · rw [z, k1] at hup; cases hup
    · rw [z, k2] at hup; cases hup
    · rw [z, k3] at hup; cases hup
  · obtain ⟨e1, e2, e3, e4⟩ := g1
    rcases hq with rfl | rfl | rfl | rfl
    · rw [e1]; simp
    · rw [e2]; simp
    · rw [e3]; simp
    · rw [e4]; simp
  · rintro v hi1 hm2 nx4 ⟨rfl, rfl, a1, a2, a3, gg⟩
    refine zV_blk (pc' := 18) (lo' := [(3, .int 0), (2, .ref am), (1, .ref al), (0, .ref b)]) (st' := []) [.astore_n 2, .iconst 0, .istore_n 3] (by decide +kernel) rfl ?_
    refine zV_pick (lo2 := [(0, .ref b), (1, .ref al), (2, .ref am), (3, .int 0)]) [3, 2, 1, 0] rfl ?_
    refine zV_eq (lo2 := [(0, .ref b), (1, .ref al), (2, .ref am), (3, .int (nI 0))]) rfl (by rw [nI_0]) rfl rfl ?_
    have e0 : sbPhi 16 = 9572 := by decide
    exact zV_less (by show 1100 * (L / 8) + sbPhi 16 ≤ _; rw [e0]; omega) (by show 13000 * (L / 8) + sbPhi 16 ≤ _; rw [e0]; omega) (law_18 hy hs hL hcs hQ (L / 8) 0 (by omega) (by omega) _ _ _ _ _ _ _ _ _ _ _ _ _ _ _ _ _ _ h0 gg)
end LL
theorem zG_open {s : State} {b : Nat} (hts : ∀ w ∈ lw_tbl, w.before #[Value.ref b] s = true) (hgv : (Jvm.Cond.and given_1 narrow_1).before #[Value.ref b] s = true) : ∃ (D : va_G) (cB cI cJ cD : ClassId), cB ≠ cI ∧ zG D (zty cB cI cJ cD) s := by
  have hz : ∀ w ∈ zT, w.before #[Value.ref b] s = true := fun w hw => hts w (List.mem_filter.mp hw).1
  obtain ⟨c0, i0, hk0⟩ := u_known (C := RX0) (T := TX0) (N := 3) (n := 3) hz z_in0 (hz (.instantiable RX0 3) (zT_mem 524 (by decide +kernel) rfl))
  obtain ⟨c1, i1, hk1⟩ := u_known (C := RX1) (T := TX1) (N := 3) (n := 3) hz z_in1 (hz (.instantiable RX1 3) (zT_mem 427 (by decide +kernel) rfl))
  obtain ⟨c2, i2, hk2⟩ := u_known (C := RX2) (T := TX2) (N := 2) (n := 2) hz z_in2 (hz (.instantiable RX2 2) (zT_mem 699 (by decide +kernel) rfl))
  obtain ⟨c3, i3, hk3⟩ := u_known (C := RX3) (T := TX3) (N := 6) (n := 6) hz z_in3 (hz (.instantiable RX3 6) (zT_mem 526 (by decide +kernel) rfl))
  obtain ⟨c4, i4, hk4⟩ := u_known (C := RX4) (T := TX4) (N := 4) (n := 4) hz z_in4 (hz (.instantiable RX4 4) (zT_mem 1300 (by decide +kernel) rfl))
  obtain ⟨c5, i5, hk5⟩ := u_known (C := RX5) (T := TX5) (N := 1) (n := 1) hz z_in5 (hz (.instantiable RX5 1) (zT_mem 462 (by decide +kernel) rfl))
  obtain ⟨c6, i6, hk6⟩ := u_known (C := RX6) (T := TX6) (N := 0) (n := 0) hz z_in6 (hz (.instantiable RX6 0) (zT_mem 262 (by decide +kernel) rfl))
  obtain ⟨c7, i7, hk7⟩ := u_known (C := RX7) (T := TX7) (N := 12) (n := 12) hz z_in7 (hz (.instantiable RX7 12) (zT_mem 256 (by decide +kernel) rfl))
  obtain ⟨c8, i8, hk8⟩ := u_known (C := RX8) (T := TX8) (N := 2) (n := 2) hz z_in8 (hz (.instantiable RX8 2) (zT_mem 481 (by decide +kernel) rfl))
  obtain ⟨c9, i9, hk9⟩ := u_known (C := RX9) (T := TX9) (N := 7) (n := 7) hz z_in9 (hz (.instantiable RX9 7) (zT_mem 219 (by decide +kernel) rfl))
  obtain ⟨c10, i10, hk10⟩ := u_known (C := RX10) (T := TX10) (N := 5) (n := 5) hz z_in10 (hz (.instantiable RX10 5) (zT_mem 269 (by decide +kernel) rfl))
  obtain ⟨c11, i11, hk11⟩ := u_known (C := RX11) (T := TX11) (N := 14) (n := 14) hz z_in11 (hz (.instantiable RX11 14) (zT_mem 114 (by decide +kernel) rfl))
  obtain ⟨c12, i12, hk12⟩ := u_known (C := RX12) (T := TX12) (N := 26) (n := 26) hz z_in12 (hz (.instantiable RX12 26) (zT_mem 1434 (by decide +kernel) rfl))
  obtain ⟨c13, i13, hk13⟩ := u_known (C := RJ4) (T := TJ4) (N := 4) (n := 4) hz z_inJ4 (hz (.instantiable RJ4 4) (zT_mem 124 (by decide +kernel) rfl))
  obtain ⟨cB, kB, pB, hB1, hB2, hB3⟩ := Cond.arrayClass_spec (hts (.arrayClass .byte) (List.mem_of_getElem? (i := 154) (by decide +kernel)))
  obtain ⟨cI, kI, pI, hI1, hI2, hI3⟩ := Cond.arrayClass_spec (hts (.arrayClass .int) (List.mem_of_getElem? (i := 155) (by decide +kernel)))
  obtain ⟨cJ, kJ, pJ, hJ1, hJ2, hJ3⟩ := Cond.arrayClass_spec (hts (.arrayClass .long) (List.mem_of_getElem? (i := 1184) (by decide +kernel)))
  obtain ⟨pD, cD, kD, hD1, hD2, hD3, hD4, hD5⟩ := Cond.arrayOver_spec (hts (.arrayOver (.object RX0)) (List.mem_of_getElem? (i := 122) (by decide +kernel)))
  refine ⟨(fun k => match k with | 0 => c0 | 1 => c1 | 2 => c2 | 3 => c3 | 4 => c4 | 5 => c5 | 6 => c6 | 7 => c7 | 8 => c8 | 9 => c9 | 10 => c10 | 11 => c11 | 12 => c12 | _ => c13, fun k => match k with | 0 => i0 | 1 => i1 | 2 => i2 | 3 => i3 | 4 => i4 | 5 => i5 | 6 => i6 | 7 => i7 | 8 => i8 | 9 => i9 | 10 => i10 | 11 => i11 | 12 => i12 | _ => i13), cB, cI, cJ, cD, ?_, b, hts, hgv, ?_, ?_⟩
  · rintro rfl
    rw [hB2] at hI2
    cases hI2
    rw [hB3] at hI3
    cases hI3
  · intro k q hq
    match k, hq with
    | 0, hq => cases hq; exact hk0
    | 1, hq => cases hq; exact hk1
    | 2, hq => cases hq; exact hk2
    | 3, hq => cases hq; exact hk3
    | 4, hq => cases hq; exact hk4
    | 5, hq => cases hq; exact hk5
    | 6, hq => cases hq; exact hk6
    | 7, hq => cases hq; exact hk7
    | 8, hq => cases hq; exact hk8
    | 9, hq => cases hq; exact hk9
    | 10, hq => cases hq; exact hk10
    | 11, hq => cases hq; exact hk11
    | 12, hq => cases hq; exact hk12
    | 13, hq => cases hq; exact hk13
    | k + 14, hq => simp [zcl] at hq
  · intro k q hq
    match k, hq with
    | 0, hq => cases hq; exact ⟨fun n z => ⟨fun k h => (by cases h), kB, hB2, pB, hB3⟩, hB1⟩
    | 1, hq => cases hq; exact ⟨fun n z => ⟨fun k h => (by cases h), kI, hI2, pI, hI3⟩, hI1⟩
    | 2, hq => cases hq; exact ⟨fun n z => ⟨fun k h => (by cases h), kJ, hJ2, pJ, hJ3⟩, hJ1⟩
    | 3, hq => cases hq; exact ⟨fun n z => ⟨fun k h => (by cases h), kD, hD3, pD, hD4⟩, kD, pD, hD3, hD4, hD1, hD5⟩
    | k + 4, hq => simp [zty] at hq
theorem whole_open {Inv : TInv} (hcs : HCs Inv) (h0 : Inv (upd (fun _ => 0) 3 (-1)) (fun _ => 0) (fun _ => none) (fun _ => 0) (fun _ => none) none none none none (0, 16, 0, fun _ => 0) (upd (fun _ => 0) 9 (-1)) (fun _ => 0) (fun _ => 0) (fun _ => 0) (fun _ => 0)) {p : Program} {e : Env} {s : State} {m : MethodId} {below : List Frame} {meth : Method} {c : Code} (l : Launch) {b L : Nat} {xs : Nat → Int32} (hL : L ≤ 4096) (hx : p.tables.exec = Jvm.exec) (hb : c.code = code) (hr : meth.sig.returnType = ret) (hml : c.maxLocals = 4) (hown : s.vm.findClass "LeapDesignerLaw" = some m.cls) (hts : ∀ w ∈ lw_tbl, w.before #[Value.ref b] s = true) (hX : va_X b L xs s s.heap) (hbl : b < s.heap.size) (hlocks : meth.locks = false) (hgv : (Jvm.Cond.and given_1 narrow_1).before #[Value.ref b] s = true) : W p l e room_1 s m #[Value.ref b] below meth c s.heap [] 0 0 (fun t => ∃ o, t.status = .running ∧ Ended t below o ∧ o = .returned (some (.int 1)) ∧ Framed s o t [] 600000 7302250) (entryFrame m ([Value.ref b] : List Value).toArray 4) := by
  obtain ⟨D, cB, cI, cJ, cD, hBI, hG⟩ := zG_open hts hgv
  have hs : iScr s b L xs := by
    obtain ⟨scr, h1, h2, h3, h4, h5⟩ := hX
    exact ⟨scr, h1, h2, h3, by omega, by rw [h4], h5, by unfold zA; omega⟩
  have hl := lv_entry ([.ref b]) (n := 4) (Nat.le_of_ble_eq_true rfl)
  rw [lg_entry_eq]
  generalize (lg_sl ([.ref b]) ++ List.replicate (4 - (lg_sl ([.ref b])).length) Slot.unset).toArray = ls at hl ⊢
  have hl : lv_has ls 4 [(0, .ref b)] := hl
  have hw : z_W s D (fun _ => none) (fun _ => none) s.heap.size s.heap := ⟨rfl, Nat.le_refl _, fun _ _ => rfl, fun _ _ q => (by cases q), fun _ _ q => (by cases q), fun _ _ q => (by cases q)⟩
  have K := law_0 (s0 := s) (D := D) (cB := cB) (cI := cI) (cJ := cJ) (cD := cD) (b := b) (L := L) (xs := xs) (y := ⟨"LeapDesignerLaw", meth.name, ""⟩) (Q := fun v _ _ _ => v = some (.int 1)) rfl hs hL hBI hcs h0 (fun _ _ _ => rfl) s.heap.size l p e room_1 s m #[Value.ref b] below meth c s.heap [] 0 0 ls hG ⟨hx, hb, hr, hml, hown, rfl, hlocks, State.WarmedH.refl s, ⟨by decide, by decide⟩, ⟨by decide, by decide⟩, hw, va_S.rf, Nat.le_refl _, hl⟩
  intro T hT X
  obtain ⟨t, a, o, b1, b2, ⟨⟨v, hi', hm', nx', c1, c2, c3⟩, c4⟩, L', b4, b5⟩ := K T hT X
  refine ⟨t, a, o, b1, b2, by rw [c1, c2], ?_⟩
  obtain ⟨d1, d2, d3⟩ := b4
  exact ⟨d1, d2, d3.weaken (fun y hy hlt => absurd hlt (Nat.not_lt.mpr (b5 y hy))) (Nat.le_refl _) (Nat.le_refl _)⟩
