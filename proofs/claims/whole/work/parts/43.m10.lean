def mhas_165 (n : Nat) (F : Nat → Int32) (w : Nat → Int32) (x2 : Int32) (x3 : Int32) : Option (Int32 × (Nat → Int32)) := zck (zin ((x3 + 3)) 35802) ((if ((w ((x3 + 3) : Int32).toNatClampNeg) : Int32) = (1 : Int32) then zck (zin ((((x3 + 9) + x2) - 9)) 35802) (some ((w ((((x3 + 9) + x2) - 9) : Int32).toNatClampNeg), F)) else some ((-1), F)))
set_option maxHeartbeats 4000000 in
set_option maxRecDepth 100000 in
theorem cmhas_165 (s0 : State) (D : va_G) (cB cI cJ cD : ClassId) (am a1 a2 a3 : Nat) (F : Nat → Int32) (G : Nat → Int64) (tp w oc : Nat → Int32) (n : Nat) (x2 : Int32) (x3 : Int32) {hi hm : zHp} {nx : Nat} {Q : Option Value → zHp → zHp → Nat → Prop} {hm0 : zHp} {x : Int32 × (Nat → Int32)} (hW : mW cB cI am a1 a2 a3 F G tp w oc hm) (hFr : mFr am a1 a2 a3 hm0 hm) (h : mhas_165 n F w x2 x3 = some x) (hQ : ∀ r : Int32 × (Nat → Int32), x = r → ∀ hm', mW cB cI am a1 a2 a3 r.2 G tp w oc hm' → mFr am a1 a2 a3 hm0 hm' → Q (some (.int r.1)) hi hm' nx) : zV s0 D (zty cB cI cJ cD) yX12_has cX12_has 4 (some .int) 4 95 0 0 165 [(0, .ref am), (2, .int x2), (3, .int x3)] [] hi hm nx Q := by
  unfold mhas_165 at h
  refine zV_blk (pc' := 166) (lo' := [(0, .ref am), (2, .int x2), (3, .int x3)]) (st' := [.ref am]) [.aload_n 0] (by decide +kernel) rfl ?_
  refine m_get (idx := 18) (k := 12) (v := .ref a2) hW m_in12 (by decide) (zT_mem 1452 (by decide +kernel) rfl) rfl (by decide +kernel) ?_
  refine zV_blk (pc' := 172) (lo' := [(0, .ref am), (2, .int x2), (3, .int x3)]) (st' := [.int (x3 + 3), .ref a2]) [.iload_n 3, .iconst 3, .iadd] (by decide +kernel) rfl ?_
  obtain ⟨hz, h⟩ := zck_some h
  refine m_wld hW hz (by decide +kernel) ?_
  refine zV_blk (pc' := 174) (lo' := [(0, .ref am), (2, .int x2), (3, .int x3)]) (st' := [.int 1, .int (w ((x3 + 3) : Int32).toNatClampNeg)]) [.iconst 1] (by decide +kernel) rfl ?_
  refine zV_icmp_ne (tgt := 194) (off := 20) (by decide +kernel) (by decide) (fun q => ?_) (fun q => ?_)
  · replace h := zif_neg q h
    clear q
    refine zV_blk (pc' := 195) (lo' := [(0, .ref am), (2, .int x2), (3, .int x3)]) (st' := [.int (-1)]) [.iconst (-1)] (by decide +kernel) rfl ?_
    obtain rfl := Option.some.inj h
    exact zV_iret rfl (by decide +kernel) (hQ _ rfl hm hW hFr)
  · replace h := zif_pos q h
    clear q
    refine zV_blk (pc' := 178) (lo' := [(0, .ref am), (2, .int x2), (3, .int x3)]) (st' := [.ref am]) [.aload_n 0] (by decide +kernel) rfl ?_
    refine m_get (idx := 18) (k := 12) (v := .ref a2) hW m_in12 (by decide) (zT_mem 1452 (by decide +kernel) rfl) rfl (by decide +kernel) ?_
    refine zV_blk (pc' := 190) (lo' := [(0, .ref am), (2, .int x2), (3, .int x3)]) (st' := [.int (((x3 + 9) + x2) - 9), .ref a2]) [.iload_n 3, .bipush 9, .iadd, .iload_n 2, .iadd, .bipush 9, .isub] (by decide +kernel) rfl ?_
    obtain ⟨hz, h⟩ := zck_some h
    refine m_wld hW hz (by decide +kernel) ?_
    refine zV_goto (tgt := 195) (off := 4) (by decide +kernel) (by decide) ?_
    obtain rfl := Option.some.inj h
    exact zV_iret rfl (by decide +kernel) (hQ _ rfl hm hW hFr)
def mhas (n : Nat) (F : Nat → Int32) (w : Nat → Int32) (x1 : Int32) (x2 : Int32) : Option (Int32 × (Nat → Int32)) := (misThere w x1).bind (fun v1 => (if v1 = true then (mbank x1).bind (fun v2 => (if (x2 : Int32) = 0 then zck (zin ((v2 + 1)) 35802) (some ((w ((v2 + 1) : Int32).toNatClampNeg), (upd F 0 0))) else (if (x2 : Int32) = 1 then zck (zin ((v2 + 2)) 35802) (some ((w ((v2 + 2) : Int32).toNatClampNeg), (upd F 0 0))) else (if (x2 : Int32) = 2 then zck (zin ((v2 + 3)) 35802) (some ((w ((v2 + 3) : Int32).toNatClampNeg), (upd F 0 0))) else (if (x2 : Int32) = 3 then zck (zin ((v2 + 4)) 35802) (some ((w ((v2 + 4) : Int32).toNatClampNeg), (upd F 0 0))) else (if (x2 : Int32) = 4 then zck (zin ((v2 + 5)) 35802) (some ((w ((v2 + 5) : Int32).toNatClampNeg), (upd F 0 0))) else (if (x2 : Int32) = 5 then zck (zin ((v2 + 6)) 35802) (some ((w ((v2 + 6) : Int32).toNatClampNeg), (upd F 0 0))) else (if (x2 : Int32) = 6 then zck (zin ((v2 + 7)) 35802) (some ((w ((v2 + 7) : Int32).toNatClampNeg), (upd F 0 0))) else (if (x2 : Int32) = 7 then zck (zin ((v2 + 8)) 35802) (some ((w ((v2 + 8) : Int32).toNatClampNeg), (upd F 0 0))) else (if (x2 : Int32) = 8 then (mleapsInCycle n w v2).bind (fun v12 => some (v12, (upd F 0 0))) else (if (x2 : Int32) = 9 then (mhas_165 n (upd F 0 0) w x2 v2) else (if (x2 : Int32) = 10 then (mhas_165 n (upd F 0 0) w x2 v2) else (if (x2 : Int32) = 11 then (mhas_165 n (upd F 0 0) w x2 v2) else some ((-1), (upd F 0 0))))))))))))))) else some ((-1), (upd F 0 0))))
theorem oX12_has : zO yX12_has cX12_has 4 (some .int) 2 := ⟨zT_mem 1685 (by decide +kernel) rfl, zT_mem 94 (by decide +kernel) rfl, by decide +kernel, by decide +kernel, by decide +kernel⟩
set_option maxHeartbeats 4000000 in
set_option maxRecDepth 100000 in
theorem cmhas (s0 : State) (D : va_G) (cB cI cJ cD : ClassId) (am a1 a2 a3 : Nat) (F : Nat → Int32) (G : Nat → Int64) (tp w oc : Nat → Int32) (n : Nat) (x1 : Int32) (x2 : Int32) (x : Int32 × (Nat → Int32)) (h : mhas n F w x1 x2 = some x) : mC s0 D cB cI cJ cD am a1 a2 a3 yX12_has cX12_has 4 (some .int) 4 95 [.int x1, .int x2] F G tp w oc (some (.int x.1)) x.2 G tp w oc := by
  intro hi hm nx Q hW hQ0
  have hQ : ∀ r : Int32 × (Nat → Int32), x = r → ∀ hm', mW cB cI am a1 a2 a3 r.2 G tp w oc hm' → mFr am a1 a2 a3 hm hm' → Q (some (.int r.1)) hi hm' nx := fun r hr => by subst hr; exact hQ0
  have hFr : mFr am a1 a2 a3 hm hm := mFr.rf
  clear hQ0
  refine zM_of (by decide +kernel) (Nat.le_of_ble_eq_true rfl) ?_
  unfold mhas at h
  refine zV_eq (lo2 := [(0, .ref am), (1, .int x1), (2, .int x2)]) rfl rfl rfl rfl ?_
  refine zV_blk (pc' := 2) (lo' := [(0, .ref am), (1, .int x1), (2, .int x2)]) (st' := [.int 0, .ref am]) [.aload_n 0, .iconst 0] (by decide +kernel) rfl ?_
  refine m_put (idx := 25) (k := 0) (v := .int 0) (F' := (upd F 0 0)) (G' := G) hW m_in12 (by decide) (zT_mem 1440 (by decide +kernel) rfl) rfl rfl rfl rfl (by decide +kernel) (fun hm hW hFr2 => ?_)
  replace hFr := hFr.tr hFr2; clear hFr2
  refine zV_blk (pc' := 7) (lo' := [(0, .ref am), (1, .int x1), (2, .int x2)]) (st' := [.int x1, .ref am]) [.aload_n 0, .iload_n 1] (by decide +kernel) rfl ?_
  obtain ⟨v1, hv1, h⟩ := zbind h
  refine m_cR (idx := 273) (rest := []) hW (cmisThere s0 D cB cI cJ cD am a1 a2 a3 (upd F 0 0) G tp w oc x1 v1 hv1) oX12_isThere rfl (zT_mem 1686 (by decide +kernel) rfl) (zT_mem 1688 (by decide +kernel) rfl) (zT_mem 49 (by decide +kernel) rfl) rfl rfl (Nat.le_of_ble_eq_true rfl) ⟨by decide, by decide⟩ (by decide +kernel) ?_
  refine zV_eq (st2 := [.int (zb v1)]) rfl rfl rfl rfl ?_
  refine zV_bif_ne (tgt := 15) (off := 5) (by decide +kernel) (by decide) (fun q => ?_) (fun q => ?_)
  · replace h := zif_pos q h
    clear q
    refine zV_blk (pc' := 16) (lo' := [(0, .ref am), (1, .int x1), (2, .int x2)]) (st' := [.int x1]) [.iload_n 1] (by decide +kernel) rfl ?_
    obtain ⟨v2, hv2, h⟩ := zbind h
    refine zV_sC (idx := 118) (rest := []) (cmbank s0 D cB cI cJ cD x1 v2 hv2) oX12_bank (zT_mem 1671 (by decide +kernel) rfl) (zT_mem 1672 (by decide +kernel) rfl) rfl rfl (Nat.le_of_ble_eq_true rfl) ⟨by decide, by decide⟩ (by decide +kernel) ?_
    refine zV_eq (st2 := [.int v2]) rfl rfl rfl rfl ?_
    refine zV_blk (pc' := 21) (lo' := [(3, .int v2), (0, .ref am), (1, .int x1), (2, .int x2)]) (st' := [.int x2]) [.istore_n 3, .iload_n 2] (by decide +kernel) rfl ?_
    by_cases q3 : (x2 : Int32) = 0
    · replace h := zif_pos q3 h
      refine zV_tin (tgt := 84) (off := 63) (dflt := 175) (l1 := 0) (h1 := 11) (offs := #[63, 72, 81, 90, 99, 108, 118, 128, 138, 144, 144, 144]) (len := 63) 0 q3 (by decide +kernel) (by decide +kernel) (by decide +kernel) (by decide +kernel) (by decide) ?_
      refine zV_blk (pc' := 85) (lo' := [(3, .int v2), (0, .ref am), (1, .int x1), (2, .int x2)]) (st' := [.ref am]) [.aload_n 0] (by decide +kernel) rfl ?_
      refine m_get (idx := 18) (k := 12) (v := .ref a2) hW m_in12 (by decide) (zT_mem 1452 (by decide +kernel) rfl) rfl (by decide +kernel) ?_
      refine zV_blk (pc' := 91) (lo' := [(3, .int v2), (0, .ref am), (1, .int x1), (2, .int x2)]) (st' := [.int (v2 + 1), .ref a2]) [.iload_n 3, .iconst 1, .iadd] (by decide +kernel) rfl ?_
      obtain ⟨hz, h⟩ := zck_some h
      refine m_wld hW hz (by decide +kernel) ?_
      obtain rfl := Option.some.inj h
      exact zV_iret rfl (by decide +kernel) (hQ _ rfl hm hW hFr)
    · replace h := zif_neg q3 h
      by_cases q4 : (x2 : Int32) = 1
      · replace h := zif_pos q4 h
        refine zV_tin (tgt := 93) (off := 72) (dflt := 175) (l1 := 0) (h1 := 11) (offs := #[63, 72, 81, 90, 99, 108, 118, 128, 138, 144, 144, 144]) (len := 63) 1 q4 (by decide +kernel) (by decide +kernel) (by decide +kernel) (by decide +kernel) (by decide) ?_
        refine zV_blk (pc' := 94) (lo' := [(3, .int v2), (0, .ref am), (1, .int x1), (2, .int x2)]) (st' := [.ref am]) [.aload_n 0] (by decide +kernel) rfl ?_
        refine m_get (idx := 18) (k := 12) (v := .ref a2) hW m_in12 (by decide) (zT_mem 1452 (by decide +kernel) rfl) rfl (by decide +kernel) ?_
        refine zV_blk (pc' := 100) (lo' := [(3, .int v2), (0, .ref am), (1, .int x1), (2, .int x2)]) (st' := [.int (v2 + 2), .ref a2]) [.iload_n 3, .iconst 2, .iadd] (by decide +kernel) rfl ?_
        obtain ⟨hz, h⟩ := zck_some h
        refine m_wld hW hz (by decide +kernel) ?_
        obtain rfl := Option.some.inj h
        exact zV_iret rfl (by decide +kernel) (hQ _ rfl hm hW hFr)
      · replace h := zif_neg q4 h
        by_cases q5 : (x2 : Int32) = 2
        · replace h := zif_pos q5 h
          refine zV_tin (tgt := 102) (off := 81) (dflt := 175) (l1 := 0) (h1 := 11) (offs := #[63, 72, 81, 90, 99, 108, 118, 128, 138, 144, 144, 144]) (len := 63) 2 q5 (by decide +kernel) (by decide +kernel) (by decide +kernel) (by decide +kernel) (by decide) ?_
          refine zV_blk (pc' := 103) (lo' := [(3, .int v2), (0, .ref am), (1, .int x1), (2, .int x2)]) (st' := [.ref am]) [.aload_n 0] (by decide +kernel) rfl ?_
          refine m_get (idx := 18) (k := 12) (v := .ref a2) hW m_in12 (by decide) (zT_mem 1452 (by decide +kernel) rfl) rfl (by decide +kernel) ?_
          refine zV_blk (pc' := 109) (lo' := [(3, .int v2), (0, .ref am), (1, .int x1), (2, .int x2)]) (st' := [.int (v2 + 3), .ref a2]) [.iload_n 3, .iconst 3, .iadd] (by decide +kernel) rfl ?_
          obtain ⟨hz, h⟩ := zck_some h
          refine m_wld hW hz (by decide +kernel) ?_
          obtain rfl := Option.some.inj h
          exact zV_iret rfl (by decide +kernel) (hQ _ rfl hm hW hFr)
        · replace h := zif_neg q5 h
          by_cases q6 : (x2 : Int32) = 3
          · replace h := zif_pos q6 h
            refine zV_tin (tgt := 111) (off := 90) (dflt := 175) (l1 := 0) (h1 := 11) (offs := #[63, 72, 81, 90, 99, 108, 118, 128, 138, 144, 144, 144]) (len := 63) 3 q6 (by decide +kernel) (by decide +kernel) (by decide +kernel) (by decide +kernel) (by decide) ?_
            refine zV_blk (pc' := 112) (lo' := [(3, .int v2), (0, .ref am), (1, .int x1), (2, .int x2)]) (st' := [.ref am]) [.aload_n 0] (by decide +kernel) rfl ?_
            refine m_get (idx := 18) (k := 12) (v := .ref a2) hW m_in12 (by decide) (zT_mem 1452 (by decide +kernel) rfl) rfl (by decide +kernel) ?_
            refine zV_blk (pc' := 118) (lo' := [(3, .int v2), (0, .ref am), (1, .int x1), (2, .int x2)]) (st' := [.int (v2 + 4), .ref a2]) [.iload_n 3, .iconst 4, .iadd] (by decide +kernel) rfl ?_
            obtain ⟨hz, h⟩ := zck_some h
            refine m_wld hW hz (by decide +kernel) ?_
            obtain rfl := Option.some.inj h
            exact zV_iret rfl (by decide +kernel) (hQ _ rfl hm hW hFr)
          · replace h := zif_neg q6 h
            by_cases q7 : (x2 : Int32) = 4
            · replace h := zif_pos q7 h
              refine zV_tin (tgt := 120) (off := 99) (dflt := 175) (l1 := 0) (h1 := 11) (offs := #[63, 72, 81, 90, 99, 108, 118, 128, 138, 144, 144, 144]) (len := 63) 4 q7 (by decide +kernel) (by decide +kernel) (by decide +kernel) (by decide +kernel) (by decide) ?_
              refine zV_blk (pc' := 121) (lo' := [(3, .int v2), (0, .ref am), (1, .int x1), (2, .int x2)]) (st' := [.ref am]) [.aload_n 0] (by decide +kernel) rfl ?_
              refine m_get (idx := 18) (k := 12) (v := .ref a2) hW m_in12 (by decide) (zT_mem 1452 (by decide +kernel) rfl) rfl (by decide +kernel) ?_
              refine zV_blk (pc' := 127) (lo' := [(3, .int v2), (0, .ref am), (1, .int x1), (2, .int x2)]) (st' := [.int (v2 + 5), .ref a2]) [.iload_n 3, .iconst 5, .iadd] (by decide +kernel) rfl ?_
              obtain ⟨hz, h⟩ := zck_some h
              refine m_wld hW hz (by decide +kernel) ?_
              obtain rfl := Option.some.inj h
              exact zV_iret rfl (by decide +kernel) (hQ _ rfl hm hW hFr)
            · replace h := zif_neg q7 h
              by_cases q8 : (x2 : Int32) = 5
              · replace h := zif_pos q8 h
                refine zV_tin (tgt := 129) (off := 108) (dflt := 175) (l1 := 0) (h1 := 11) (offs := #[63, 72, 81, 90, 99, 108, 118, 128, 138, 144, 144, 144]) (len := 63) 5 q8 (by decide +kernel) (by decide +kernel) (by decide +kernel) (by decide +kernel) (by decide) ?_
                refine zV_blk (pc' := 130) (lo' := [(3, .int v2), (0, .ref am), (1, .int x1), (2, .int x2)]) (st' := [.ref am]) [.aload_n 0] (by decide +kernel) rfl ?_
                refine m_get (idx := 18) (k := 12) (v := .ref a2) hW m_in12 (by decide) (zT_mem 1452 (by decide +kernel) rfl) rfl (by decide +kernel) ?_
                refine zV_blk (pc' := 137) (lo' := [(3, .int v2), (0, .ref am), (1, .int x1), (2, .int x2)]) (st' := [.int (v2 + 6), .ref a2]) [.iload_n 3, .bipush 6, .iadd] (by decide +kernel) rfl ?_
                obtain ⟨hz, h⟩ := zck_some h
                refine m_wld hW hz (by decide +kernel) ?_
                obtain rfl := Option.some.inj h
                exact zV_iret rfl (by decide +kernel) (hQ _ rfl hm hW hFr)
              · replace h := zif_neg q8 h
                by_cases q9 : (x2 : Int32) = 6
                · replace h := zif_pos q9 h
                  refine zV_tin (tgt := 139) (off := 118) (dflt := 175) (l1 := 0) (h1 := 11) (offs := #[63, 72, 81, 90, 99, 108, 118, 128, 138, 144, 144, 144]) (len := 63) 6 q9 (by decide +kernel) (by decide +kernel) (by decide +kernel) (by decide +kernel) (by decide) ?_
                  refine zV_blk (pc' := 140) (lo' := [(3, .int v2), (0, .ref am), (1, .int x1), (2, .int x2)]) (st' := [.ref am]) [.aload_n 0] (by decide +kernel) rfl ?_
                  refine m_get (idx := 18) (k := 12) (v := .ref a2) hW m_in12 (by decide) (zT_mem 1452 (by decide +kernel) rfl) rfl (by decide +kernel) ?_
                  refine zV_blk (pc' := 147) (lo' := [(3, .int v2), (0, .ref am), (1, .int x1), (2, .int x2)]) (st' := [.int (v2 + 7), .ref a2]) [.iload_n 3, .bipush 7, .iadd] (by decide +kernel) rfl ?_
                  obtain ⟨hz, h⟩ := zck_some h
                  refine m_wld hW hz (by decide +kernel) ?_
                  obtain rfl := Option.some.inj h
                  exact zV_iret rfl (by decide +kernel) (hQ _ rfl hm hW hFr)
                · replace h := zif_neg q9 h
                  by_cases q10 : (x2 : Int32) = 7
                  · replace h := zif_pos q10 h
                    refine zV_tin (tgt := 149) (off := 128) (dflt := 175) (l1 := 0) (h1 := 11) (offs := #[63, 72, 81, 90, 99, 108, 118, 128, 138, 144, 144, 144]) (len := 63) 7 q10 (by decide +kernel) (by decide +kernel) (by decide +kernel) (by decide +kernel) (by decide) ?_
                    refine zV_blk (pc' := 150) (lo' := [(3, .int v2), (0, .ref am), (1, .int x1), (2, .int x2)]) (st' := [.ref am]) [.aload_n 0] (by decide +kernel) rfl ?_
                    refine m_get (idx := 18) (k := 12) (v := .ref a2) hW m_in12 (by decide) (zT_mem 1452 (by decide +kernel) rfl) rfl (by decide +kernel) ?_
                    refine zV_blk (pc' := 157) (lo' := [(3, .int v2), (0, .ref am), (1, .int x1), (2, .int x2)]) (st' := [.int (v2 + 8), .ref a2]) [.iload_n 3, .bipush 8, .iadd] (by decide +kernel) rfl ?_
                    obtain ⟨hz, h⟩ := zck_some h
                    refine m_wld hW hz (by decide +kernel) ?_
                    obtain rfl := Option.some.inj h
                    exact zV_iret rfl (by decide +kernel) (hQ _ rfl hm hW hFr)
                  · replace h := zif_neg q10 h
                    by_cases q11 : (x2 : Int32) = 8
                    · replace h := zif_pos q11 h
                      refine zV_tin (tgt := 159) (off := 138) (dflt := 175) (l1 := 0) (h1 := 11) (offs := #[63, 72, 81, 90, 99, 108, 118, 128, 138, 144, 144, 144]) (len := 63) 8 q11 (by decide +kernel) (by decide +kernel) (by decide +kernel) (by decide +kernel) (by decide) ?_
                      refine zV_blk (pc' := 161) (lo' := [(3, .int v2), (0, .ref am), (1, .int x1), (2, .int x2)]) (st' := [.int v2, .ref am]) [.aload_n 0, .iload_n 3] (by decide +kernel) rfl ?_
                      obtain ⟨v12, hv12, h⟩ := zbind h
                      refine m_cR (idx := 276) (rest := []) hW (cmleapsInCycle s0 D cB cI cJ cD am a1 a2 a3 (upd F 0 0) G tp w oc n v2 v12 hv12) oX12_leapsInCycle rfl (zT_mem 1690 (by decide +kernel) rfl) (zT_mem 1692 (by decide +kernel) rfl) (zT_mem 50 (by decide +kernel) rfl) rfl rfl (Nat.le_of_ble_eq_true rfl) ⟨by decide, by decide⟩ (by decide +kernel) ?_
                      refine zV_eq (st2 := [.int v12]) rfl rfl rfl rfl ?_
                      obtain rfl := Option.some.inj h
                      exact zV_iret rfl (by decide +kernel) (hQ _ rfl hm hW hFr)
                    · replace h := zif_neg q11 h
                      by_cases q13 : (x2 : Int32) = 9
                      · replace h := zif_pos q13 h
                        refine zV_tin (tgt := 165) (off := 144) (dflt := 175) (l1 := 0) (h1 := 11) (offs := #[63, 72, 81, 90, 99, 108, 118, 128, 138, 144, 144, 144]) (len := 63) 9 q13 (by decide +kernel) (by decide +kernel) (by decide +kernel) (by decide +kernel) (by decide) ?_
                        refine zV_pick (lo2 := [(0, .ref am), (2, .int x2), (3, .int v2)]) [1, 3, 0] rfl ?_
                        exact cmhas_165 s0 D cB cI cJ cD am a1 a2 a3 (upd F 0 0) G tp w oc n x2 v2 hW hFr h hQ
                      · replace h := zif_neg q13 h
                        by_cases q14 : (x2 : Int32) = 10
                        · replace h := zif_pos q14 h
                          refine zV_tin (tgt := 165) (off := 144) (dflt := 175) (l1 := 0) (h1 := 11) (offs := #[63, 72, 81, 90, 99, 108, 118, 128, 138, 144, 144, 144]) (len := 63) 10 q14 (by decide +kernel) (by decide +kernel) (by decide +kernel) (by decide +kernel) (by decide) ?_
                          refine zV_pick (lo2 := [(0, .ref am), (2, .int x2), (3, .int v2)]) [1, 3, 0] rfl ?_
                          exact cmhas_165 s0 D cB cI cJ cD am a1 a2 a3 (upd F 0 0) G tp w oc n x2 v2 hW hFr h hQ
                        · replace h := zif_neg q14 h
                          by_cases q15 : (x2 : Int32) = 11
                          · replace h := zif_pos q15 h
                            refine zV_tin (tgt := 165) (off := 144) (dflt := 175) (l1 := 0) (h1 := 11) (offs := #[63, 72, 81, 90, 99, 108, 118, 128, 138, 144, 144, 144]) (len := 63) 11 q15 (by decide +kernel) (by decide +kernel) (by decide +kernel) (by decide +kernel) (by decide) ?_
                            refine zV_pick (lo2 := [(0, .ref am), (2, .int x2), (3, .int v2)]) [1, 3, 0] rfl ?_
                            exact cmhas_165 s0 D cB cI cJ cD am a1 a2 a3 (upd F 0 0) G tp w oc n x2 v2 hW hFr h hQ
                          · replace h := zif_neg q15 h
                            refine zV_tout (tgt := 196) (dflt := 175) (l1 := 0) (h1 := 11) (offs := #[63, 72, 81, 90, 99, 108, 118, 128, 138, 144, 144, 144]) (len := 63) (by have nq3 := zne 0 0 (by decide +kernel) q3; have nq4 := zne 1 1 (by decide +kernel) q4; have nq5 := zne 2 2 (by decide +kernel) q5; have nq6 := zne 3 3 (by decide +kernel) q6; have nq7 := zne 4 4 (by decide +kernel) q7; have nq8 := zne 5 5 (by decide +kernel) q8; have nq9 := zne 6 6 (by decide +kernel) q9; have nq10 := zne 7 7 (by decide +kernel) q10; have nq11 := zne 8 8 (by decide +kernel) q11; have nq13 := zne 9 9 (by decide +kernel) q13; have nq14 := zne 10 10 (by decide +kernel) q14; have nq15 := zne 11 11 (by decide +kernel) q15; omega) (by decide +kernel) (by decide) ?_
                            refine zV_blk (pc' := 197) (lo' := [(3, .int v2), (0, .ref am), (1, .int x1), (2, .int x2)]) (st' := [.int (-1)]) [.iconst (-1)] (by decide +kernel) rfl ?_
                            obtain rfl := Option.some.inj h
                            exact zV_iret rfl (by decide +kernel) (hQ _ rfl hm hW hFr)
  · replace h := zif_neg q h
    clear q
    refine zV_blk (pc' := 14) (lo' := [(0, .ref am), (1, .int x1), (2, .int x2)]) (st' := [.int (-1)]) [.iconst (-1)] (by decide +kernel) rfl ?_
    obtain rfl := Option.some.inj h
    exact zV_iret rfl (by decide +kernel) (hQ _ rfl hm hW hFr)

def mhowMany_4 (n : Nat) (w : Nat → Int32) (s : Int32 × Int32) : Option ((Int32 × Int32) ⊕ (Int32)) := (if (6 : Int32) ≤ (s.2 : Int32) then some (.inr s.1) else (mbank s.2).bind (fun v1 => zck (zin ((v1 + 0)) 35802) (some (.inl ((s.1 + (w ((v1 + 0) : Int32).toNatClampNeg)), (s.2 + 1))))))
set_option maxHeartbeats 4000000 in
set_option maxRecDepth 100000 in
theorem cmhowMany_4 (s0 : State) (D : va_G) (cB cI cJ cD : ClassId) (am a1 a2 a3 : Nat) (F : Nat → Int32) (G : Nat → Int64) (tp : Nat → Int32) (w : Nat → Int32) (oc : Nat → Int32) (n : Nat) (s : Int32 × Int32) (x : (Int32 × Int32) ⊕ (Int32)) {hi hm : zHp} {nx : Nat} {Q : Option Value → zHp → zHp → Nat → Prop} (hW : mW cB cI am a1 a2 a3 F G tp w oc hm) (h : mhowMany_4 n w s = some x) (hL4 : ∀ s : Int32 × Int32, x = (.inl s) → zV s0 D (zty cB cI cJ cD) yX12_howMany cX12_howMany 3 (some .int) 1 20 0 0 4 [(0, .ref am), (1, .int s.1), (2, .int s.2)] [] hi hm nx Q) (hQ : ∀ r : Int32, x = (.inr r) → Q (some (.int r)) hi hm nx) : zV s0 D (zty cB cI cJ cD) yX12_howMany cX12_howMany 3 (some .int) 1 20 0 0 4 [(0, .ref am), (1, .int s.1), (2, .int s.2)] [] hi hm nx Q := by
  unfold mhowMany_4 at h
  refine zV_blk (pc' := 7) (lo' := [(0, .ref am), (1, .int s.1), (2, .int s.2)]) (st' := [.int 6, .int s.2]) [.iload_n 2, .bipush 6] (by decide +kernel) rfl ?_
  refine zV_icmp_ge (tgt := 30) (off := 23) (by decide +kernel) (by decide) (fun q => ?_) (fun q => ?_)
  · replace h := zif_pos q h
    clear q
    refine zV_blk (pc' := 31) (lo' := [(0, .ref am), (1, .int s.1), (2, .int s.2)]) (st' := [.int s.1]) [.iload_n 1] (by decide +kernel) rfl ?_
    obtain rfl := Option.some.inj h
    exact zV_iret rfl (by decide +kernel) (hQ _ rfl)
  · replace h := zif_neg q h
    clear q
    refine zV_blk (pc' := 12) (lo' := [(0, .ref am), (1, .int s.1), (2, .int s.2)]) (st' := [.ref am, .int s.1]) [.iload_n 1, .aload_n 0] (by decide +kernel) rfl ?_
    refine m_get (idx := 18) (k := 12) (v := .ref a2) hW m_in12 (by decide) (zT_mem 1452 (by decide +kernel) rfl) rfl (by decide +kernel) ?_
    refine zV_blk (pc' := 16) (lo' := [(0, .ref am), (1, .int s.1), (2, .int s.2)]) (st' := [.int s.2, .ref a2, .int s.1]) [.iload_n 2] (by decide +kernel) rfl ?_
    obtain ⟨v1, hv1, h⟩ := zbind h
    refine zV_sC (idx := 118) (rest := [.ref a2, .int s.1]) (cmbank s0 D cB cI cJ cD s.2 v1 hv1) oX12_bank (zT_mem 1671 (by decide +kernel) rfl) (zT_mem 1672 (by decide +kernel) rfl) rfl rfl (Nat.le_of_ble_eq_true rfl) ⟨by decide, by decide⟩ (by decide +kernel) ?_
    refine zV_eq (st2 := [.int v1, .ref a2, .int s.1]) rfl rfl rfl rfl ?_
    refine zV_blk (pc' := 21) (lo' := [(0, .ref am), (1, .int s.1), (2, .int s.2)]) (st' := [.int (v1 + 0), .ref a2, .int s.1]) [.iconst 0, .iadd] (by decide +kernel) rfl ?_
    obtain ⟨hz, h⟩ := zck_some h
    refine m_wld hW hz (by decide +kernel) ?_
    refine zV_blk (pc' := 27) (lo' := [(2, .int (s.2 + 1)), (1, .int (s.1 + (w ((v1 + 0) : Int32).toNatClampNeg))), (0, .ref am)]) (st' := []) [.iadd, .istore_n 1, .iinc 2 1] (by decide +kernel) rfl ?_
    refine zV_goto (tgt := 4) (off := -23) (by decide +kernel) (by decide) ?_
    obtain rfl := Option.some.inj h
    refine zV_pick (lo2 := [(0, .ref am), (1, .int (s.1 + (w ((v1 + 0) : Int32).toNatClampNeg))), (2, .int (s.2 + 1))]) [2, 1, 0] rfl ?_
    exact hL4 _ rfl
theorem cmhowMany_4L (s0 : State) (D : va_G) (cB cI cJ cD : ClassId) (am a1 a2 a3 : Nat) (F : Nat → Int32) (G : Nat → Int64) (tp : Nat → Int32) (w : Nat → Int32) (oc : Nat → Int32) (n : Nat) : ∀ (k : Nat) (s : Int32 × Int32) {hi hm : zHp} {nx : Nat} {Q : Option Value → zHp → zHp → Nat → Prop} (_ : mW cB cI am a1 a2 a3 F G tp w oc hm) {x : Int32} (_ : zloop (mhowMany_4 n w) k s = some x) (hQ : ∀ r : Int32, x = r → Q (some (.int r)) hi hm nx), zV s0 D (zty cB cI cJ cD) yX12_howMany cX12_howMany 3 (some .int) 1 20 0 0 4 [(0, .ref am), (1, .int s.1), (2, .int s.2)] [] hi hm nx Q
  | 0, s, _, _, _, _, hW, _, h, _ => by cases h
  | k + 1, s, hi, hm, nx, Q, hW, x, h, hQ => by
    obtain ⟨z, hz, h1, h2⟩ := zloop_succ h
    exact cmhowMany_4 s0 D cB cI cJ cD am a1 a2 a3 F G tp w oc n  s z hW hz (fun s' hs => cmhowMany_4L s0 D cB cI cJ cD am a1 a2 a3 F G tp w oc n  k s' hW (h1 s' hs) hQ) (fun r hr => hQ r (h2 _ hr).symm)
def mhowMany (n : Nat) (w : Nat → Int32) : Option (Int32) := (zloop (mhowMany_4 n w) n (0, 0))
theorem oX12_howMany : zO yX12_howMany cX12_howMany 3 (some .int) 0 := ⟨zT_mem 1711 (by decide +kernel) rfl, zT_mem 94 (by decide +kernel) rfl, by decide +kernel, by decide +kernel, by decide +kernel⟩
set_option maxHeartbeats 4000000 in
set_option maxRecDepth 100000 in
theorem cmhowMany (s0 : State) (D : va_G) (cB cI cJ cD : ClassId) (am a1 a2 a3 : Nat) (F : Nat → Int32) (G : Nat → Int64) (tp w oc : Nat → Int32) (n : Nat) (x : Int32) (h : mhowMany n w = some x) : mR s0 D cB cI cJ cD am a1 a2 a3 yX12_howMany cX12_howMany 3 (some .int) 1 20 [] F G tp w oc (some (.int x)) := by
  intro hi hm nx Q hW hQ0
  have hQ : ∀ r : Int32, x = r → Q (some (.int r)) hi hm nx := fun r hr => by subst hr; exact hQ0
  refine zM_of (by decide +kernel) (Nat.le_of_ble_eq_true rfl) ?_
  unfold mhowMany at h
  refine zV_eq (lo2 := [(0, .ref am)]) rfl rfl rfl rfl ?_
  refine zV_blk (pc' := 4) (lo' := [(2, .int 0), (1, .int 0), (0, .ref am)]) (st' := []) [.iconst 0, .istore_n 1, .iconst 0, .istore_n 2] (by decide +kernel) rfl ?_
  refine zV_pick (lo2 := [(0, .ref am), (1, .int 0), (2, .int 0)]) [2, 1, 0] rfl ?_
  exact cmhowMany_4L s0 D cB cI cJ cD am a1 a2 a3 F G tp w oc n  n (0, 0) hW h hQ

def mcount (n : Nat) (F : Nat → Int32) (w : Nat → Int32) (x1 : Int32) : Option (Int32 × (Nat → Int32)) := (if (x1 : Int32) = (0 : Int32) then (mhowMany n w).bind (fun v1 => some (v1, (upd F 0 0))) else (if (x1 : Int32) = (1 : Int32) then some (((upd F 0 0) 14), (upd F 0 0)) else some ((-1), (upd F 0 0))))
theorem oX12_count : zO yX12_count cX12_count 2 (some .int) 1 := ⟨zT_mem 1707 (by decide +kernel) rfl, zT_mem 94 (by decide +kernel) rfl, by decide +kernel, by decide +kernel, by decide +kernel⟩
set_option maxHeartbeats 4000000 in
set_option maxRecDepth 100000 in
theorem cmcount (s0 : State) (D : va_G) (cB cI cJ cD : ClassId) (am a1 a2 a3 : Nat) (F : Nat → Int32) (G : Nat → Int64) (tp w oc : Nat → Int32) (n : Nat) (x1 : Int32) (x : Int32 × (Nat → Int32)) (h : mcount n F w x1 = some x) : mC s0 D cB cI cJ cD am a1 a2 a3 yX12_count cX12_count 2 (some .int) 2 42 [.int x1] F G tp w oc (some (.int x.1)) x.2 G tp w oc := by
  intro hi hm nx Q hW hQ0
  have hQ : ∀ r : Int32 × (Nat → Int32), x = r → ∀ hm', mW cB cI am a1 a2 a3 r.2 G tp w oc hm' → mFr am a1 a2 a3 hm hm' → Q (some (.int r.1)) hi hm' nx := fun r hr => by subst hr; exact hQ0
  have hFr : mFr am a1 a2 a3 hm hm := mFr.rf
  clear hQ0
  refine zM_of (by decide +kernel) (Nat.le_of_ble_eq_true rfl) ?_
  unfold mcount at h
  refine zV_eq (lo2 := [(0, .ref am), (1, .int x1)]) rfl rfl rfl rfl ?_
  refine zV_blk (pc' := 2) (lo' := [(0, .ref am), (1, .int x1)]) (st' := [.int 0, .ref am]) [.aload_n 0, .iconst 0] (by decide +kernel) rfl ?_
  refine m_put (idx := 25) (k := 0) (v := .int 0) (F' := (upd F 0 0)) (G' := G) hW m_in12 (by decide) (zT_mem 1440 (by decide +kernel) rfl) rfl rfl rfl rfl (by decide +kernel) (fun hm hW hFr2 => ?_)
  replace hFr := hFr.tr hFr2; clear hFr2
  refine zV_blk (pc' := 6) (lo' := [(0, .ref am), (1, .int x1)]) (st' := [.int x1]) [.iload_n 1] (by decide +kernel) rfl ?_
  refine zV_if_ne (tgt := 16) (off := 10) (by decide +kernel) (by decide) (fun q => ?_) (fun q => ?_)
  · replace h := zif_neg q h
    clear q
    refine zV_blk (pc' := 18) (lo' := [(0, .ref am), (1, .int x1)]) (st' := [.int 1, .int x1]) [.iload_n 1, .iconst 1] (by decide +kernel) rfl ?_
    refine zV_icmp_ne (tgt := 28) (off := 10) (by decide +kernel) (by decide) (fun q => ?_) (fun q => ?_)
    · replace h := zif_neg q h
      clear q
      refine zV_blk (pc' := 29) (lo' := [(0, .ref am), (1, .int x1)]) (st' := [.int (-1)]) [.iconst (-1)] (by decide +kernel) rfl ?_
      obtain rfl := Option.some.inj h
      exact zV_iret rfl (by decide +kernel) (hQ _ rfl hm hW hFr)
    · replace h := zif_pos q h
      clear q
      refine zV_blk (pc' := 22) (lo' := [(0, .ref am), (1, .int x1)]) (st' := [.ref am]) [.aload_n 0] (by decide +kernel) rfl ?_
      refine m_get (idx := 205) (k := 14) (v := .int ((upd F 0 0) 14)) hW m_in12 (by decide) (zT_mem 1454 (by decide +kernel) rfl) rfl (by decide +kernel) ?_
      refine zV_goto (tgt := 29) (off := 4) (by decide +kernel) (by decide) ?_
      obtain rfl := Option.some.inj h
      exact zV_iret rfl (by decide +kernel) (hQ _ rfl hm hW hFr)
  · replace h := zif_pos q h
    clear q
    refine zV_blk (pc' := 10) (lo' := [(0, .ref am), (1, .int x1)]) (st' := [.ref am]) [.aload_n 0] (by decide +kernel) rfl ?_
    obtain ⟨v1, hv1, h⟩ := zbind h
    refine m_cR (idx := 279) (rest := []) hW (cmhowMany s0 D cB cI cJ cD am a1 a2 a3 (upd F 0 0) G tp w oc n  v1 hv1) oX12_howMany rfl (zT_mem 1708 (by decide +kernel) rfl) (zT_mem 1710 (by decide +kernel) rfl) (zT_mem 52 (by decide +kernel) rfl) rfl rfl (Nat.le_of_ble_eq_true rfl) ⟨by decide, by decide⟩ (by decide +kernel) ?_
    refine zV_eq (st2 := [.int v1]) rfl rfl rfl rfl ?_
    refine zV_goto (tgt := 29) (off := 16) (by decide +kernel) (by decide) ?_
    obtain rfl := Option.some.inj h
    exact zV_iret rfl (by decide +kernel) (hQ _ rfl hm hW hFr)

def mmonth (F : Nat → Int32) (w : Nat → Int32) (x1 : Int32) (x2 : Int32) (x3 : Int32) : Option (Int32 × (Nat → Int32)) := (misThere w x1).bind (fun v1 => (if v1 = true then (mbank x1).bind (fun v2 => (misMonth w v2 x2).bind (fun v3 => (if v3 = true then (mbank x1).bind (fun v4 => (mmonthDays w v4 x2 x3).bind (fun v5 => some (v5, (upd F 0 0)))) else some ((-1), (upd F 0 0))))) else some ((-1), (upd F 0 0))))
theorem oX12_month : zO yX12_month cX12_month 4 (some .int) 3 := ⟨zT_mem 1715 (by decide +kernel) rfl, zT_mem 94 (by decide +kernel) rfl, by decide +kernel, by decide +kernel, by decide +kernel⟩
set_option maxHeartbeats 4000000 in
set_option maxRecDepth 100000 in
theorem cmmonth (s0 : State) (D : va_G) (cB cI cJ cD : ClassId) (am a1 a2 a3 : Nat) (F : Nat → Int32) (G : Nat → Int64) (tp w oc : Nat → Int32) (x1 : Int32) (x2 : Int32) (x3 : Int32) (x : Int32 × (Nat → Int32)) (h : mmonth F w x1 x2 x3 = some x) : mC s0 D cB cI cJ cD am a1 a2 a3 yX12_month cX12_month 4 (some .int) 2 47 [.int x1, .int x2, .int x3] F G tp w oc (some (.int x.1)) x.2 G tp w oc := by
  intro hi hm nx Q hW hQ0
  have hQ : ∀ r : Int32 × (Nat → Int32), x = r → ∀ hm', mW cB cI am a1 a2 a3 r.2 G tp w oc hm' → mFr am a1 a2 a3 hm hm' → Q (some (.int r.1)) hi hm' nx := fun r hr => by subst hr; exact hQ0
  have hFr : mFr am a1 a2 a3 hm hm := mFr.rf
  clear hQ0
  refine zM_of (by decide +kernel) (Nat.le_of_ble_eq_true rfl) ?_
  unfold mmonth at h
  refine zV_eq (lo2 := [(0, .ref am), (1, .int x1), (2, .int x2), (3, .int x3)]) rfl rfl rfl rfl ?_
  refine zV_blk (pc' := 2) (lo' := [(0, .ref am), (1, .int x1), (2, .int x2), (3, .int x3)]) (st' := [.int 0, .ref am]) [.aload_n 0, .iconst 0] (by decide +kernel) rfl ?_
  refine m_put (idx := 25) (k := 0) (v := .int 0) (F' := (upd F 0 0)) (G' := G) hW m_in12 (by decide) (zT_mem 1440 (by decide +kernel) rfl) rfl rfl rfl rfl (by decide +kernel) (fun hm hW hFr2 => ?_)
  replace hFr := hFr.tr hFr2; clear hFr2
  refine zV_blk (pc' := 7) (lo' := [(0, .ref am), (1, .int x1), (2, .int x2), (3, .int x3)]) (st' := [.int x1, .ref am]) [.aload_n 0, .iload_n 1] (by decide +kernel) rfl ?_
  obtain ⟨v1, hv1, h⟩ := zbind h
  refine m_cR (idx := 273) (rest := []) hW (cmisThere s0 D cB cI cJ cD am a1 a2 a3 (upd F 0 0) G tp w oc x1 v1 hv1) oX12_isThere rfl (zT_mem 1686 (by decide +kernel) rfl) (zT_mem 1688 (by decide +kernel) rfl) (zT_mem 49 (by decide +kernel) rfl) rfl rfl (Nat.le_of_ble_eq_true rfl) ⟨by decide, by decide⟩ (by decide +kernel) ?_
  refine zV_eq (st2 := [.int (zb v1)]) rfl rfl rfl rfl ?_
  refine zV_bif_eq (tgt := 38) (off := 28) (by decide +kernel) (by decide) (fun q => ?_) (fun q => ?_)
  · replace h := zif_neg q h
    clear q
    refine zV_blk (pc' := 39) (lo' := [(0, .ref am), (1, .int x1), (2, .int x2), (3, .int x3)]) (st' := [.int (-1)]) [.iconst (-1)] (by decide +kernel) rfl ?_
    obtain rfl := Option.some.inj h
    exact zV_iret rfl (by decide +kernel) (hQ _ rfl hm hW hFr)
  · replace h := zif_pos q h
    clear q
    refine zV_blk (pc' := 15) (lo' := [(0, .ref am), (1, .int x1), (2, .int x2), (3, .int x3)]) (st' := [.int x1, .ref am]) [.aload_n 0, .iload_n 1] (by decide +kernel) rfl ?_
    obtain ⟨v2, hv2, h⟩ := zbind h
    refine zV_sC (idx := 118) (rest := [.ref am]) (cmbank s0 D cB cI cJ cD x1 v2 hv2) oX12_bank (zT_mem 1671 (by decide +kernel) rfl) (zT_mem 1672 (by decide +kernel) rfl) rfl rfl (Nat.le_of_ble_eq_true rfl) ⟨by decide, by decide⟩ (by decide +kernel) ?_
    refine zV_eq (st2 := [.int v2, .ref am]) rfl rfl rfl rfl ?_
    refine zV_blk (pc' := 19) (lo' := [(0, .ref am), (1, .int x1), (2, .int x2), (3, .int x3)]) (st' := [.int x2, .int v2, .ref am]) [.iload_n 2] (by decide +kernel) rfl ?_
    obtain ⟨v3, hv3, h⟩ := zbind h
    refine m_cR (idx := 258) (rest := []) hW (cmisMonth s0 D cB cI cJ cD am a1 a2 a3 (upd F 0 0) G tp w oc v2 x2 v3 hv3) oX12_isMonth rfl (zT_mem 1716 (by decide +kernel) rfl) (zT_mem 1718 (by decide +kernel) rfl) (zT_mem 53 (by decide +kernel) rfl) rfl rfl (Nat.le_of_ble_eq_true rfl) ⟨by decide, by decide⟩ (by decide +kernel) ?_
    refine zV_eq (st2 := [.int (zb v3)]) rfl rfl rfl rfl ?_
    refine zV_bif_eq (tgt := 38) (off := 16) (by decide +kernel) (by decide) (fun q => ?_) (fun q => ?_)
    · replace h := zif_neg q h
      clear q
      refine zV_blk (pc' := 39) (lo' := [(0, .ref am), (1, .int x1), (2, .int x2), (3, .int x3)]) (st' := [.int (-1)]) [.iconst (-1)] (by decide +kernel) rfl ?_
      obtain rfl := Option.some.inj h
      exact zV_iret rfl (by decide +kernel) (hQ _ rfl hm hW hFr)
    · replace h := zif_pos q h
      clear q
      refine zV_blk (pc' := 27) (lo' := [(0, .ref am), (1, .int x1), (2, .int x2), (3, .int x3)]) (st' := [.int x1, .ref am]) [.aload_n 0, .iload_n 1] (by decide +kernel) rfl ?_
      obtain ⟨v4, hv4, h⟩ := zbind h
      refine zV_sC (idx := 118) (rest := [.ref am]) (cmbank s0 D cB cI cJ cD x1 v4 hv4) oX12_bank (zT_mem 1671 (by decide +kernel) rfl) (zT_mem 1672 (by decide +kernel) rfl) rfl rfl (Nat.le_of_ble_eq_true rfl) ⟨by decide, by decide⟩ (by decide +kernel) ?_
      refine zV_eq (st2 := [.int v4, .ref am]) rfl rfl rfl rfl ?_
      refine zV_blk (pc' := 32) (lo' := [(0, .ref am), (1, .int x1), (2, .int x2), (3, .int x3)]) (st' := [.int x3, .int x2, .int v4, .ref am]) [.iload_n 2, .iload_n 3] (by decide +kernel) rfl ?_
      obtain ⟨v5, hv5, h⟩ := zbind h
      refine m_cR (idx := 251) (rest := []) hW (cmmonthDays s0 D cB cI cJ cD am a1 a2 a3 (upd F 0 0) G tp w oc v4 x2 x3 v5 hv5) oX12_monthDays rfl (zT_mem 1720 (by decide +kernel) rfl) (zT_mem 1722 (by decide +kernel) rfl) (zT_mem 54 (by decide +kernel) rfl) rfl rfl (Nat.le_of_ble_eq_true rfl) ⟨by decide, by decide⟩ (by decide +kernel) ?_
      refine zV_eq (st2 := [.int v5]) rfl rfl rfl rfl ?_
      refine zV_goto (tgt := 39) (off := 4) (by decide +kernel) (by decide) ?_
      obtain rfl := Option.some.inj h
      exact zV_iret rfl (by decide +kernel) (hQ _ rfl hm hW hFr)

def mtrueAbove (w : Nat → Int32) (x1 : Int32) : Option (Int64) := zck (zin ((x1 + 12)) 35802) (zck (zin ((x1 + 14)) 35802) (zck (zin ((x1 + 13)) 35802) (some ((((w ((x1 + 12) : Int32).toNatClampNeg) : Int32).toInt64 * ((w ((x1 + 14) : Int32).toNatClampNeg) : Int32).toInt64) + ((w ((x1 + 13) : Int32).toNatClampNeg) : Int32).toInt64))))
theorem oX12_trueAbove : zO yX12_trueAbove cX12_trueAbove 2 (some .long) 1 := ⟨zT_mem 1732 (by decide +kernel) rfl, zT_mem 94 (by decide +kernel) rfl, by decide +kernel, by decide +kernel, by decide +kernel⟩
set_option maxHeartbeats 4000000 in
set_option maxRecDepth 100000 in
theorem cmtrueAbove (s0 : State) (D : va_G) (cB cI cJ cD : ClassId) (am a1 a2 a3 : Nat) (F : Nat → Int32) (G : Nat → Int64) (tp w oc : Nat → Int32) (x1 : Int32) (x : Int64) (h : mtrueAbove w x1 = some x) : mR s0 D cB cI cJ cD am a1 a2 a3 yX12_trueAbove cX12_trueAbove 2 (some .long) 0 0 [.int x1] F G tp w oc (some (.long x)) := by
  intro hi hm nx Q hW hQ0
  have hQ : ∀ r : Int64, x = r → Q (some (.long r)) hi hm nx := fun r hr => by subst hr; exact hQ0
  refine zM_of (by decide +kernel) (Nat.le_of_ble_eq_true rfl) ?_
  unfold mtrueAbove at h
  refine zV_eq (lo2 := [(0, .ref am), (1, .int x1)]) rfl rfl rfl rfl ?_
  refine zV_blk (pc' := 1) (lo' := [(0, .ref am), (1, .int x1)]) (st' := [.ref am]) [.aload_n 0] (by decide +kernel) rfl ?_
  refine m_get (idx := 18) (k := 12) (v := .ref a2) hW m_in12 (by decide) (zT_mem 1452 (by decide +kernel) rfl) rfl (by decide +kernel) ?_
  refine zV_blk (pc' := 8) (lo' := [(0, .ref am), (1, .int x1)]) (st' := [.int (x1 + 12), .ref a2]) [.iload_n 1, .bipush 12, .iadd] (by decide +kernel) rfl ?_
  obtain ⟨hz, h⟩ := zck_some h
  refine m_wld hW hz (by decide +kernel) ?_
  refine zV_blk (pc' := 11) (lo' := [(0, .ref am), (1, .int x1)]) (st' := [.ref am, .long ((w ((x1 + 12) : Int32).toNatClampNeg) : Int32).toInt64]) [.i2l, .aload_n 0] (by decide +kernel) rfl ?_
  refine m_get (idx := 18) (k := 12) (v := .ref a2) hW m_in12 (by decide) (zT_mem 1452 (by decide +kernel) rfl) rfl (by decide +kernel) ?_
  refine zV_blk (pc' := 18) (lo' := [(0, .ref am), (1, .int x1)]) (st' := [.int (x1 + 14), .ref a2, .long ((w ((x1 + 12) : Int32).toNatClampNeg) : Int32).toInt64]) [.iload_n 1, .bipush 14, .iadd] (by decide +kernel) rfl ?_
  obtain ⟨hz, h⟩ := zck_some h
  refine m_wld hW hz (by decide +kernel) ?_
  refine zV_blk (pc' := 22) (lo' := [(0, .ref am), (1, .int x1)]) (st' := [.ref am, .long (((w ((x1 + 12) : Int32).toNatClampNeg) : Int32).toInt64 * ((w ((x1 + 14) : Int32).toNatClampNeg) : Int32).toInt64)]) [.i2l, .lmul, .aload_n 0] (by decide +kernel) rfl ?_
  refine m_get (idx := 18) (k := 12) (v := .ref a2) hW m_in12 (by decide) (zT_mem 1452 (by decide +kernel) rfl) rfl (by decide +kernel) ?_
  refine zV_blk (pc' := 29) (lo' := [(0, .ref am), (1, .int x1)]) (st' := [.int (x1 + 13), .ref a2, .long (((w ((x1 + 12) : Int32).toNatClampNeg) : Int32).toInt64 * ((w ((x1 + 14) : Int32).toNatClampNeg) : Int32).toInt64)]) [.iload_n 1, .bipush 13, .iadd] (by decide +kernel) rfl ?_
  obtain ⟨hz, h⟩ := zck_some h
  refine m_wld hW hz (by decide +kernel) ?_
  refine zV_blk (pc' := 32) (lo' := [(0, .ref am), (1, .int x1)]) (st' := [.long ((((w ((x1 + 12) : Int32).toNatClampNeg) : Int32).toInt64 * ((w ((x1 + 14) : Int32).toNatClampNeg) : Int32).toInt64) + ((w ((x1 + 13) : Int32).toNatClampNeg) : Int32).toInt64)]) [.i2l, .ladd] (by decide +kernel) rfl ?_
  obtain rfl := Option.some.inj h
  exact zV_lret rfl (by decide +kernel) (hQ _ rfl)

def mmean (n : Nat) (F : Nat → Int32) (w : Nat → Int32) (x1 : Int32) (x2 : Int32) (x3 : Int32) : Option (Int64 × (Nat → Int32)) := (misThere w x1).bind (fun v1 => (if v1 = true then (mbank x1).bind (fun v2 => (if (x2 : Int32) = (0 : Int32) then zck (zin ((v2 + 8)) 35802) ((mstartOf n w v2 ((w ((v2 + 8) : Int32).toNatClampNeg) : Int32).toInt64).bind (fun v3 => zck (zin ((v2 + 8)) 35802) ((mpartOf n v3 ((w ((v2 + 8) : Int32).toNatClampNeg) : Int32).toInt64 x3).bind (fun v4 => some (v4, (upd F 0 0)))))) else (mtrueAbove w v2).bind (fun v5 => zck (zin ((v2 + 14)) 35802) ((mpartOf n v5 ((w ((v2 + 14) : Int32).toNatClampNeg) : Int32).toInt64 x3).bind (fun v6 => some (v6, (upd F 0 0))))))) else some ((-1000000000000000), (upd F 0 0))))
theorem oX12_mean : zO yX12_mean cX12_mean 5 (some .long) 3 := ⟨zT_mem 1727 (by decide +kernel) rfl, zT_mem 94 (by decide +kernel) rfl, by decide +kernel, by decide +kernel, by decide +kernel⟩
set_option maxHeartbeats 4000000 in
set_option maxRecDepth 100000 in
theorem cmmean (s0 : State) (D : va_G) (cB cI cJ cD : ClassId) (am a1 a2 a3 : Nat) (F : Nat → Int32) (G : Nat → Int64) (tp w oc : Nat → Int32) (n : Nat) (x1 : Int32) (x2 : Int32) (x3 : Int32) (x : Int64 × (Nat → Int32)) (h : mmean n F w x1 x2 x3 = some x) : mC s0 D cB cI cJ cD am a1 a2 a3 yX12_mean cX12_mean 5 (some .long) 4 97 [.int x1, .int x2, .int x3] F G tp w oc (some (.long x.1)) x.2 G tp w oc := by
  intro hi hm nx Q hW hQ0
  have hQ : ∀ r : Int64 × (Nat → Int32), x = r → ∀ hm', mW cB cI am a1 a2 a3 r.2 G tp w oc hm' → mFr am a1 a2 a3 hm hm' → Q (some (.long r.1)) hi hm' nx := fun r hr => by subst hr; exact hQ0
  have hFr : mFr am a1 a2 a3 hm hm := mFr.rf
  clear hQ0
  refine zM_of (by decide +kernel) (Nat.le_of_ble_eq_true rfl) ?_
  unfold mmean at h
  refine zV_eq (lo2 := [(0, .ref am), (1, .int x1), (2, .int x2), (3, .int x3)]) rfl rfl rfl rfl ?_
  refine zV_blk (pc' := 2) (lo' := [(0, .ref am), (1, .int x1), (2, .int x2), (3, .int x3)]) (st' := [.int 0, .ref am]) [.aload_n 0, .iconst 0] (by decide +kernel) rfl ?_
  refine m_put (idx := 25) (k := 0) (v := .int 0) (F' := (upd F 0 0)) (G' := G) hW m_in12 (by decide) (zT_mem 1440 (by decide +kernel) rfl) rfl rfl rfl rfl (by decide +kernel) (fun hm hW hFr2 => ?_)
  replace hFr := hFr.tr hFr2; clear hFr2
  refine zV_blk (pc' := 7) (lo' := [(0, .ref am), (1, .int x1), (2, .int x2), (3, .int x3)]) (st' := [.int x1, .ref am]) [.aload_n 0, .iload_n 1] (by decide +kernel) rfl ?_
  obtain ⟨v1, hv1, h⟩ := zbind h
  refine m_cR (idx := 273) (rest := []) hW (cmisThere s0 D cB cI cJ cD am a1 a2 a3 (upd F 0 0) G tp w oc x1 v1 hv1) oX12_isThere rfl (zT_mem 1686 (by decide +kernel) rfl) (zT_mem 1688 (by decide +kernel) rfl) (zT_mem 49 (by decide +kernel) rfl) rfl rfl (Nat.le_of_ble_eq_true rfl) ⟨by decide, by decide⟩ (by decide +kernel) ?_
  refine zV_eq (st2 := [.int (zb v1)]) rfl rfl rfl rfl ?_
  refine zV_bif_ne (tgt := 17) (off := 7) (by decide +kernel) (by decide) (fun q => ?_) (fun q => ?_)
  · replace h := zif_pos q h
    clear q
    refine zV_blk (pc' := 18) (lo' := [(0, .ref am), (1, .int x1), (2, .int x2), (3, .int x3)]) (st' := [.int x1]) [.iload_n 1] (by decide +kernel) rfl ?_
    obtain ⟨v2, hv2, h⟩ := zbind h
    refine zV_sC (idx := 118) (rest := []) (cmbank s0 D cB cI cJ cD x1 v2 hv2) oX12_bank (zT_mem 1671 (by decide +kernel) rfl) (zT_mem 1672 (by decide +kernel) rfl) rfl rfl (Nat.le_of_ble_eq_true rfl) ⟨by decide, by decide⟩ (by decide +kernel) ?_
    refine zV_eq (st2 := [.int v2]) rfl rfl rfl rfl ?_
    refine zV_blk (pc' := 24) (lo' := [(4, .int v2), (0, .ref am), (1, .int x1), (2, .int x2), (3, .int x3)]) (st' := [.int x2]) [.istore 4, .iload_n 2] (by decide +kernel) rfl ?_
    refine zV_if_eq (tgt := 51) (off := 27) (by decide +kernel) (by decide) (fun q => ?_) (fun q => ?_)
    · replace h := zif_pos q h
      clear q
      refine zV_blk (pc' := 55) (lo' := [(4, .int v2), (0, .ref am), (1, .int x1), (2, .int x2), (3, .int x3)]) (st' := [.ref am, .int v2, .ref am]) [.aload_n 0, .iload 4, .aload_n 0] (by decide +kernel) rfl ?_
      refine m_get (idx := 18) (k := 12) (v := .ref a2) hW m_in12 (by decide) (zT_mem 1452 (by decide +kernel) rfl) rfl (by decide +kernel) ?_
      refine zV_blk (pc' := 63) (lo' := [(4, .int v2), (0, .ref am), (1, .int x1), (2, .int x2), (3, .int x3)]) (st' := [.int (v2 + 8), .ref a2, .int v2, .ref am]) [.iload 4, .bipush 8, .iadd] (by decide +kernel) rfl ?_
      obtain ⟨hz, h⟩ := zck_some h
      refine m_wld hW hz (by decide +kernel) ?_
      refine zV_blk (pc' := 65) (lo' := [(4, .int v2), (0, .ref am), (1, .int x1), (2, .int x2), (3, .int x3)]) (st' := [.long ((w ((v2 + 8) : Int32).toNatClampNeg) : Int32).toInt64, .int v2, .ref am]) [.i2l] (by decide +kernel) rfl ?_
      obtain ⟨v3, hv3, h⟩ := zbind h
      refine m_cR (idx := 244) (rest := []) hW (cmstartOf s0 D cB cI cJ cD am a1 a2 a3 (upd F 0 0) G tp w oc n v2 ((w ((v2 + 8) : Int32).toNatClampNeg) : Int32).toInt64 v3 hv3) oX12_startOf rfl (zT_mem 1742 (by decide +kernel) rfl) (zT_mem 1744 (by decide +kernel) rfl) (zT_mem 56 (by decide +kernel) rfl) rfl rfl (Nat.le_of_ble_eq_true rfl) ⟨by decide, by decide⟩ (by decide +kernel) ?_
      refine zV_eq (st2 := [.long v3]) rfl rfl rfl rfl ?_
      refine zV_blk (pc' := 69) (lo' := [(4, .int v2), (0, .ref am), (1, .int x1), (2, .int x2), (3, .int x3)]) (st' := [.ref am, .long v3]) [.aload_n 0] (by decide +kernel) rfl ?_
      refine m_get (idx := 18) (k := 12) (v := .ref a2) hW m_in12 (by decide) (zT_mem 1452 (by decide +kernel) rfl) rfl (by decide +kernel) ?_
      refine zV_blk (pc' := 77) (lo' := [(4, .int v2), (0, .ref am), (1, .int x1), (2, .int x2), (3, .int x3)]) (st' := [.int (v2 + 8), .ref a2, .long v3]) [.iload 4, .bipush 8, .iadd] (by decide +kernel) rfl ?_
      obtain ⟨hz, h⟩ := zck_some h
      refine m_wld hW hz (by decide +kernel) ?_
      refine zV_blk (pc' := 80) (lo' := [(4, .int v2), (0, .ref am), (1, .int x1), (2, .int x2), (3, .int x3)]) (st' := [.int x3, .long ((w ((v2 + 8) : Int32).toNatClampNeg) : Int32).toInt64, .long v3]) [.i2l, .iload_n 3] (by decide +kernel) rfl ?_
      obtain ⟨v4, hv4, h⟩ := zbind h
      refine zV_sC (idx := 286) (rest := []) (cmpartOf s0 D cB cI cJ cD n v3 ((w ((v2 + 8) : Int32).toNatClampNeg) : Int32).toInt64 x3 v4 hv4) oX12_partOf (zT_mem 1733 (by decide +kernel) rfl) (zT_mem 1734 (by decide +kernel) rfl) rfl rfl (Nat.le_of_ble_eq_true rfl) ⟨by decide, by decide⟩ (by decide +kernel) ?_
      refine zV_eq (st2 := [.long v4]) rfl rfl rfl rfl ?_
      obtain rfl := Option.some.inj h
      exact zV_lret rfl (by decide +kernel) (hQ _ rfl hm hW hFr)
    · replace h := zif_neg q h
      clear q
      refine zV_blk (pc' := 30) (lo' := [(4, .int v2), (0, .ref am), (1, .int x1), (2, .int x2), (3, .int x3)]) (st' := [.int v2, .ref am]) [.aload_n 0, .iload 4] (by decide +kernel) rfl ?_
      obtain ⟨v5, hv5, h⟩ := zbind h
      refine m_cR (idx := 282) (rest := []) hW (cmtrueAbove s0 D cB cI cJ cD am a1 a2 a3 (upd F 0 0) G tp w oc v2 v5 hv5) oX12_trueAbove rfl (zT_mem 1729 (by decide +kernel) rfl) (zT_mem 1731 (by decide +kernel) rfl) (zT_mem 55 (by decide +kernel) rfl) rfl rfl (Nat.le_of_ble_eq_true rfl) ⟨by decide, by decide⟩ (by decide +kernel) ?_
      refine zV_eq (st2 := [.long v5]) rfl rfl rfl rfl ?_
      refine zV_blk (pc' := 34) (lo' := [(4, .int v2), (0, .ref am), (1, .int x1), (2, .int x2), (3, .int x3)]) (st' := [.ref am, .long v5]) [.aload_n 0] (by decide +kernel) rfl ?_
      refine m_get (idx := 18) (k := 12) (v := .ref a2) hW m_in12 (by decide) (zT_mem 1452 (by decide +kernel) rfl) rfl (by decide +kernel) ?_
      refine zV_blk (pc' := 42) (lo' := [(4, .int v2), (0, .ref am), (1, .int x1), (2, .int x2), (3, .int x3)]) (st' := [.int (v2 + 14), .ref a2, .long v5]) [.iload 4, .bipush 14, .iadd] (by decide +kernel) rfl ?_
      obtain ⟨hz, h⟩ := zck_some h
      refine m_wld hW hz (by decide +kernel) ?_
      refine zV_blk (pc' := 45) (lo' := [(4, .int v2), (0, .ref am), (1, .int x1), (2, .int x2), (3, .int x3)]) (st' := [.int x3, .long ((w ((v2 + 14) : Int32).toNatClampNeg) : Int32).toInt64, .long v5]) [.i2l, .iload_n 3] (by decide +kernel) rfl ?_
      obtain ⟨v6, hv6, h⟩ := zbind h
      refine zV_sC (idx := 286) (rest := []) (cmpartOf s0 D cB cI cJ cD n v5 ((w ((v2 + 14) : Int32).toNatClampNeg) : Int32).toInt64 x3 v6 hv6) oX12_partOf (zT_mem 1733 (by decide +kernel) rfl) (zT_mem 1734 (by decide +kernel) rfl) rfl rfl (Nat.le_of_ble_eq_true rfl) ⟨by decide, by decide⟩ (by decide +kernel) ?_
      refine zV_eq (st2 := [.long v6]) rfl rfl rfl rfl ?_
      refine zV_goto (tgt := 83) (off := 35) (by decide +kernel) (by decide) ?_
      obtain rfl := Option.some.inj h
      exact zV_lret rfl (by decide +kernel) (hQ _ rfl hm hW hFr)
  · replace h := zif_neg q h
    clear q
    refine zV_ldc2 (idx := 40) (v := (-1000000000000000)) (zT_mem 1728 (by decide +kernel) rfl) (by decide +kernel) ?_
    obtain rfl := Option.some.inj h
    exact zV_lret rfl (by decide +kernel) (hQ _ rfl hm hW hFr)

def mcopy (n : Nat) (F : Nat → Int32) (w : Nat → Int32) (x1 : Int32) (x2 : Int32) : Option (Int32 × (Nat → Int32) × (Nat → Int32)) := (misIn (x1 : Int32).toInt64 0 5).bind (fun v1 => (if v1 = true then (misThere w x2).bind (fun v2 => (if v2 = true then (if (x1 : Int32) = (x2 : Int32) then some ((-2), (upd F 0 0), w) else (mchangesNow n (upd F 0 0) w).bind (fun v3 => (mbank x1).bind (fun v4 => (mbank x2).bind (fun v5 => (mcopies n v3.2 v4 v5).bind (fun v6 => some (1, v3.1, v6)))))) else some ((-2), (upd F 0 0), w))) else some ((-2), (upd F 0 0), w)))
theorem oX12_copy : zO yX12_copy cX12_copy 3 (some .int) 2 := ⟨zT_mem 1749 (by decide +kernel) rfl, zT_mem 94 (by decide +kernel) rfl, by decide +kernel, by decide +kernel, by decide +kernel⟩
set_option maxHeartbeats 4000000 in
set_option maxRecDepth 100000 in
theorem cmcopy (s0 : State) (D : va_G) (cB cI cJ cD : ClassId) (am a1 a2 a3 : Nat) (F : Nat → Int32) (G : Nat → Int64) (tp w oc : Nat → Int32) (n : Nat) (x1 : Int32) (x2 : Int32) (x : Int32 × (Nat → Int32) × (Nat → Int32)) (h : mcopy n F w x1 x2 = some x) : mC s0 D cB cI cJ cD am a1 a2 a3 yX12_copy cX12_copy 3 (some .int) 2 46 [.int x1, .int x2] F G tp w oc (some (.int x.1)) x.2.1 G tp x.2.2 oc := by
  intro hi hm nx Q hW hQ0
  have hQ : ∀ r : Int32 × (Nat → Int32) × (Nat → Int32), x = r → ∀ hm', mW cB cI am a1 a2 a3 r.2.1 G tp r.2.2 oc hm' → mFr am a1 a2 a3 hm hm' → Q (some (.int r.1)) hi hm' nx := fun r hr => by subst hr; exact hQ0
  have hFr : mFr am a1 a2 a3 hm hm := mFr.rf
  clear hQ0
  refine zM_of (by decide +kernel) (Nat.le_of_ble_eq_true rfl) ?_
  unfold mcopy at h
  refine zV_eq (lo2 := [(0, .ref am), (1, .int x1), (2, .int x2)]) rfl rfl rfl rfl ?_
  refine zV_blk (pc' := 2) (lo' := [(0, .ref am), (1, .int x1), (2, .int x2)]) (st' := [.int 0, .ref am]) [.aload_n 0, .iconst 0] (by decide +kernel) rfl ?_
  refine m_put (idx := 25) (k := 0) (v := .int 0) (F' := (upd F 0 0)) (G' := G) hW m_in12 (by decide) (zT_mem 1440 (by decide +kernel) rfl) rfl rfl rfl rfl (by decide +kernel) (fun hm hW hFr2 => ?_)
  replace hFr := hFr.tr hFr2; clear hFr2
  refine zV_blk (pc' := 8) (lo' := [(0, .ref am), (1, .int x1), (2, .int x2)]) (st' := [.long 0, .long (x1 : Int32).toInt64]) [.iload_n 1, .i2l, .lconst 0] (by decide +kernel) rfl ?_
  refine zV_ldc2 (idx := 116) (v := 5) (zT_mem 1538 (by decide +kernel) rfl) (by decide +kernel) ?_
  obtain ⟨v1, hv1, h⟩ := zbind h
  refine zV_sC (idx := 36) (rest := []) (cmisIn s0 D cB cI cJ cD (x1 : Int32).toInt64 0 5 v1 hv1) oX12_isIn (zT_mem 1531 (by decide +kernel) rfl) (zT_mem 1532 (by decide +kernel) rfl) rfl rfl (Nat.le_of_ble_eq_true rfl) ⟨by decide, by decide⟩ (by decide +kernel) ?_
  refine zV_eq (st2 := [.int (zb v1)]) rfl rfl rfl rfl ?_
  refine zV_bif_eq (tgt := 30) (off := 16) (by decide +kernel) (by decide) (fun q => ?_) (fun q => ?_)
  · replace h := zif_neg q h
    clear q
    refine zV_blk (pc' := 32) (lo' := [(0, .ref am), (1, .int x1), (2, .int x2)]) (st' := [.int (-2)]) [.bipush (-2)] (by decide +kernel) rfl ?_
    obtain rfl := Option.some.inj h
    exact zV_iret rfl (by decide +kernel) (hQ _ rfl hm hW hFr)
  · replace h := zif_pos q h
    clear q
    refine zV_blk (pc' := 19) (lo' := [(0, .ref am), (1, .int x1), (2, .int x2)]) (st' := [.int x2, .ref am]) [.aload_n 0, .iload_n 2] (by decide +kernel) rfl ?_
    obtain ⟨v2, hv2, h⟩ := zbind h
    refine m_cR (idx := 273) (rest := []) hW (cmisThere s0 D cB cI cJ cD am a1 a2 a3 (upd F 0 0) G tp w oc x2 v2 hv2) oX12_isThere rfl (zT_mem 1686 (by decide +kernel) rfl) (zT_mem 1688 (by decide +kernel) rfl) (zT_mem 49 (by decide +kernel) rfl) rfl rfl (Nat.le_of_ble_eq_true rfl) ⟨by decide, by decide⟩ (by decide +kernel) ?_
    refine zV_eq (st2 := [.int (zb v2)]) rfl rfl rfl rfl ?_
    refine zV_bif_eq (tgt := 30) (off := 8) (by decide +kernel) (by decide) (fun q => ?_) (fun q => ?_)
    · replace h := zif_neg q h
      clear q
      refine zV_blk (pc' := 32) (lo' := [(0, .ref am), (1, .int x1), (2, .int x2)]) (st' := [.int (-2)]) [.bipush (-2)] (by decide +kernel) rfl ?_
      obtain rfl := Option.some.inj h
      exact zV_iret rfl (by decide +kernel) (hQ _ rfl hm hW hFr)
    · replace h := zif_pos q h
      clear q
      refine zV_blk (pc' := 27) (lo' := [(0, .ref am), (1, .int x1), (2, .int x2)]) (st' := [.int x2, .int x1]) [.iload_n 1, .iload_n 2] (by decide +kernel) rfl ?_
      refine zV_icmp_ne (tgt := 33) (off := 6) (by decide +kernel) (by decide) (fun q => ?_) (fun q => ?_)
      · replace h := zif_neg q h
        clear q
        refine zV_blk (pc' := 34) (lo' := [(0, .ref am), (1, .int x1), (2, .int x2)]) (st' := [.ref am]) [.aload_n 0] (by decide +kernel) rfl ?_
        obtain ⟨v3, hv3, h⟩ := zbind h
        refine m_cC (idx := 223) (rest := []) hW (cmchangesNow s0 D cB cI cJ cD am a1 a2 a3 (upd F 0 0) G tp w oc n  v3 hv3) oX12_changesNow rfl (zT_mem 1667 (by decide +kernel) rfl) (zT_mem 1669 (by decide +kernel) rfl) (zT_mem 47 (by decide +kernel) rfl) rfl rfl (Nat.le_of_ble_eq_true rfl) ⟨by decide, by decide⟩ (by decide +kernel) (fun hm hW hFr2 => ?_)
        replace hFr := hFr.tr hFr2; clear hFr2
        refine zV_eq (st2 := []) rfl rfl rfl rfl ?_
        refine zV_blk (pc' := 39) (lo' := [(0, .ref am), (1, .int x1), (2, .int x2)]) (st' := [.int x1, .ref am]) [.aload_n 0, .iload_n 1] (by decide +kernel) rfl ?_
        obtain ⟨v4, hv4, h⟩ := zbind h
        refine zV_sC (idx := 118) (rest := [.ref am]) (cmbank s0 D cB cI cJ cD x1 v4 hv4) oX12_bank (zT_mem 1671 (by decide +kernel) rfl) (zT_mem 1672 (by decide +kernel) rfl) rfl rfl (Nat.le_of_ble_eq_true rfl) ⟨by decide, by decide⟩ (by decide +kernel) ?_
        refine zV_eq (st2 := [.int v4, .ref am]) rfl rfl rfl rfl ?_
        refine zV_blk (pc' := 43) (lo' := [(0, .ref am), (1, .int x1), (2, .int x2)]) (st' := [.int x2, .int v4, .ref am]) [.iload_n 2] (by decide +kernel) rfl ?_
        obtain ⟨v5, hv5, h⟩ := zbind h
        refine zV_sC (idx := 118) (rest := [.int v4, .ref am]) (cmbank s0 D cB cI cJ cD x2 v5 hv5) oX12_bank (zT_mem 1671 (by decide +kernel) rfl) (zT_mem 1672 (by decide +kernel) rfl) rfl rfl (Nat.le_of_ble_eq_true rfl) ⟨by decide, by decide⟩ (by decide +kernel) ?_
        refine zV_eq (st2 := [.int v5, .int v4, .ref am]) rfl rfl rfl rfl ?_
        obtain ⟨v6, hv6, h⟩ := zbind h
        refine m_cC (idx := 226) (rest := []) hW (cmcopies s0 D cB cI cJ cD am a1 a2 a3 v3.1 G tp v3.2 oc n v4 v5 v6 hv6) oX12_copies rfl (zT_mem 1674 (by decide +kernel) rfl) (zT_mem 1676 (by decide +kernel) rfl) (zT_mem 48 (by decide +kernel) rfl) rfl rfl (Nat.le_of_ble_eq_true rfl) ⟨by decide, by decide⟩ (by decide +kernel) (fun hm hW hFr2 => ?_)
        replace hFr := hFr.tr hFr2; clear hFr2
        refine zV_eq (st2 := []) rfl rfl rfl rfl ?_
        refine zV_blk (pc' := 50) (lo' := [(0, .ref am), (1, .int x1), (2, .int x2)]) (st' := [.int 1]) [.iconst 1] (by decide +kernel) rfl ?_
        obtain rfl := Option.some.inj h
        exact zV_iret rfl (by decide +kernel) (hQ _ rfl hm hW hFr)
      · replace h := zif_pos q h
        clear q
        refine zV_blk (pc' := 32) (lo' := [(0, .ref am), (1, .int x1), (2, .int x2)]) (st' := [.int (-2)]) [.bipush (-2)] (by decide +kernel) rfl ?_
        obtain rfl := Option.some.inj h
        exact zV_iret rfl (by decide +kernel) (hQ _ rfl hm hW hFr)

