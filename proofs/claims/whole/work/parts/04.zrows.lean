/-! ===== the other rows: branches, division, constants, ends ===== -/
section ZB
variable {s0 : State} {D : va_G} {tys : List (ClassId × FieldType)} {y : MethodName} {cc : ByteArray} {nL : Nat} {ret : Option FieldType} {rF rL mc ms pc : Nat} {lo : List (Nat × Value)} {st : List Value} {hi hm : zHp} {nx : Nat} {Q : Option Value → zHp → zHp → Nat → Prop}
theorem zV_if_eq {x : Int32} {off : Int} {tgt : Nat} (hd : decode cc pc = .ok (.ifCond .eq off, 3)) (ht : (pc : Int) + off = (tgt : Int)) (kt : x = 0 → zV s0 D tys y cc nL ret rF rL mc ms tgt lo st hi hm nx Q) (kf : ¬ x = 0 → zV s0 D tys y cc nL ret rF rL mc ms (pc + 3) lo st hi hm nx Q) : zV s0 D tys y cc nL ret rF rL mc ms pc lo (.int x :: st) hi hm nx Q := by
  intro l p e R s m args below meth c H locs cells slots ls G F
  have F2 := F
  obtain ⟨f1, f2, f3, f4, f5, f6, f7, f8, f9, f10, f11, f12, f13, f14⟩ := F2
  exact lv_if_eq f1 f2 hd ht (fun q => (kt q l p e R s m args below meth c H locs cells slots ls G F)) (fun q => (kf q l p e R s m args below meth c H locs cells slots ls G F))
theorem zV_if_ne {x : Int32} {off : Int} {tgt : Nat} (hd : decode cc pc = .ok (.ifCond .ne off, 3)) (ht : (pc : Int) + off = (tgt : Int)) (kt : ¬ x = 0 → zV s0 D tys y cc nL ret rF rL mc ms tgt lo st hi hm nx Q) (kf : x = 0 → zV s0 D tys y cc nL ret rF rL mc ms (pc + 3) lo st hi hm nx Q) : zV s0 D tys y cc nL ret rF rL mc ms pc lo (.int x :: st) hi hm nx Q := by
  intro l p e R s m args below meth c H locs cells slots ls G F
  have F2 := F
  obtain ⟨f1, f2, f3, f4, f5, f6, f7, f8, f9, f10, f11, f12, f13, f14⟩ := F2
  exact lv_if_ne f1 f2 hd ht (fun q => (kt q l p e R s m args below meth c H locs cells slots ls G F)) (fun q => (kf q l p e R s m args below meth c H locs cells slots ls G F))
theorem zV_if_lt {x : Int32} {off : Int} {tgt : Nat} (hd : decode cc pc = .ok (.ifCond .lt off, 3)) (ht : (pc : Int) + off = (tgt : Int)) (kt : x < 0 → zV s0 D tys y cc nL ret rF rL mc ms tgt lo st hi hm nx Q) (kf : ¬ x < 0 → zV s0 D tys y cc nL ret rF rL mc ms (pc + 3) lo st hi hm nx Q) : zV s0 D tys y cc nL ret rF rL mc ms pc lo (.int x :: st) hi hm nx Q := by
  intro l p e R s m args below meth c H locs cells slots ls G F
  have F2 := F
  obtain ⟨f1, f2, f3, f4, f5, f6, f7, f8, f9, f10, f11, f12, f13, f14⟩ := F2
  exact lv_if_lt f1 f2 hd ht (fun q => (kt q l p e R s m args below meth c H locs cells slots ls G F)) (fun q => (kf q l p e R s m args below meth c H locs cells slots ls G F))
theorem zV_if_ge {x : Int32} {off : Int} {tgt : Nat} (hd : decode cc pc = .ok (.ifCond .ge off, 3)) (ht : (pc : Int) + off = (tgt : Int)) (kt : 0 ≤ x → zV s0 D tys y cc nL ret rF rL mc ms tgt lo st hi hm nx Q) (kf : ¬ 0 ≤ x → zV s0 D tys y cc nL ret rF rL mc ms (pc + 3) lo st hi hm nx Q) : zV s0 D tys y cc nL ret rF rL mc ms pc lo (.int x :: st) hi hm nx Q := by
  intro l p e R s m args below meth c H locs cells slots ls G F
  have F2 := F
  obtain ⟨f1, f2, f3, f4, f5, f6, f7, f8, f9, f10, f11, f12, f13, f14⟩ := F2
  exact lv_if_ge f1 f2 hd ht (fun q => (kt q l p e R s m args below meth c H locs cells slots ls G F)) (fun q => (kf q l p e R s m args below meth c H locs cells slots ls G F))
theorem zV_if_gt {x : Int32} {off : Int} {tgt : Nat} (hd : decode cc pc = .ok (.ifCond .gt off, 3)) (ht : (pc : Int) + off = (tgt : Int)) (kt : 0 < x → zV s0 D tys y cc nL ret rF rL mc ms tgt lo st hi hm nx Q) (kf : ¬ 0 < x → zV s0 D tys y cc nL ret rF rL mc ms (pc + 3) lo st hi hm nx Q) : zV s0 D tys y cc nL ret rF rL mc ms pc lo (.int x :: st) hi hm nx Q := by
  intro l p e R s m args below meth c H locs cells slots ls G F
  have F2 := F
  obtain ⟨f1, f2, f3, f4, f5, f6, f7, f8, f9, f10, f11, f12, f13, f14⟩ := F2
  exact lv_if_gt f1 f2 hd ht (fun q => (kt q l p e R s m args below meth c H locs cells slots ls G F)) (fun q => (kf q l p e R s m args below meth c H locs cells slots ls G F))
theorem zV_if_le {x : Int32} {off : Int} {tgt : Nat} (hd : decode cc pc = .ok (.ifCond .le off, 3)) (ht : (pc : Int) + off = (tgt : Int)) (kt : x ≤ 0 → zV s0 D tys y cc nL ret rF rL mc ms tgt lo st hi hm nx Q) (kf : ¬ x ≤ 0 → zV s0 D tys y cc nL ret rF rL mc ms (pc + 3) lo st hi hm nx Q) : zV s0 D tys y cc nL ret rF rL mc ms pc lo (.int x :: st) hi hm nx Q := by
  intro l p e R s m args below meth c H locs cells slots ls G F
  have F2 := F
  obtain ⟨f1, f2, f3, f4, f5, f6, f7, f8, f9, f10, f11, f12, f13, f14⟩ := F2
  exact lv_if_le f1 f2 hd ht (fun q => (kt q l p e R s m args below meth c H locs cells slots ls G F)) (fun q => (kf q l p e R s m args below meth c H locs cells slots ls G F))
theorem zV_icmp_eq {x z : Int32} {off : Int} {tgt : Nat} (hd : decode cc pc = .ok (.if_icmp .eq off, 3)) (ht : (pc : Int) + off = (tgt : Int)) (kt : x = z → zV s0 D tys y cc nL ret rF rL mc ms tgt lo st hi hm nx Q) (kf : ¬ x = z → zV s0 D tys y cc nL ret rF rL mc ms (pc + 3) lo st hi hm nx Q) : zV s0 D tys y cc nL ret rF rL mc ms pc lo (.int z :: .int x :: st) hi hm nx Q := by
  intro l p e R s m args below meth c H locs cells slots ls G F
  have F2 := F
  obtain ⟨f1, f2, f3, f4, f5, f6, f7, f8, f9, f10, f11, f12, f13, f14⟩ := F2
  exact lv_icmp_eq f1 f2 hd ht (fun q => (kt q l p e R s m args below meth c H locs cells slots ls G F)) (fun q => (kf q l p e R s m args below meth c H locs cells slots ls G F))
theorem zV_icmp_ne {x z : Int32} {off : Int} {tgt : Nat} (hd : decode cc pc = .ok (.if_icmp .ne off, 3)) (ht : (pc : Int) + off = (tgt : Int)) (kt : ¬ x = z → zV s0 D tys y cc nL ret rF rL mc ms tgt lo st hi hm nx Q) (kf : x = z → zV s0 D tys y cc nL ret rF rL mc ms (pc + 3) lo st hi hm nx Q) : zV s0 D tys y cc nL ret rF rL mc ms pc lo (.int z :: .int x :: st) hi hm nx Q := by
  intro l p e R s m args below meth c H locs cells slots ls G F
  have F2 := F
  obtain ⟨f1, f2, f3, f4, f5, f6, f7, f8, f9, f10, f11, f12, f13, f14⟩ := F2
  exact lv_icmp_ne f1 f2 hd ht (fun q => (kt q l p e R s m args below meth c H locs cells slots ls G F)) (fun q => (kf q l p e R s m args below meth c H locs cells slots ls G F))
theorem zV_icmp_lt {x z : Int32} {off : Int} {tgt : Nat} (hd : decode cc pc = .ok (.if_icmp .lt off, 3)) (ht : (pc : Int) + off = (tgt : Int)) (kt : x < z → zV s0 D tys y cc nL ret rF rL mc ms tgt lo st hi hm nx Q) (kf : ¬ x < z → zV s0 D tys y cc nL ret rF rL mc ms (pc + 3) lo st hi hm nx Q) : zV s0 D tys y cc nL ret rF rL mc ms pc lo (.int z :: .int x :: st) hi hm nx Q := by
  intro l p e R s m args below meth c H locs cells slots ls G F
  have F2 := F
  obtain ⟨f1, f2, f3, f4, f5, f6, f7, f8, f9, f10, f11, f12, f13, f14⟩ := F2
  exact lv_icmp_lt f1 f2 hd ht (fun q => (kt q l p e R s m args below meth c H locs cells slots ls G F)) (fun q => (kf q l p e R s m args below meth c H locs cells slots ls G F))
theorem zV_icmp_ge {x z : Int32} {off : Int} {tgt : Nat} (hd : decode cc pc = .ok (.if_icmp .ge off, 3)) (ht : (pc : Int) + off = (tgt : Int)) (kt : z ≤ x → zV s0 D tys y cc nL ret rF rL mc ms tgt lo st hi hm nx Q) (kf : ¬ z ≤ x → zV s0 D tys y cc nL ret rF rL mc ms (pc + 3) lo st hi hm nx Q) : zV s0 D tys y cc nL ret rF rL mc ms pc lo (.int z :: .int x :: st) hi hm nx Q := by
  intro l p e R s m args below meth c H locs cells slots ls G F
  have F2 := F
  obtain ⟨f1, f2, f3, f4, f5, f6, f7, f8, f9, f10, f11, f12, f13, f14⟩ := F2
  exact lv_icmp_ge f1 f2 hd ht (fun q => (kt q l p e R s m args below meth c H locs cells slots ls G F)) (fun q => (kf q l p e R s m args below meth c H locs cells slots ls G F))
theorem zV_icmp_gt {x z : Int32} {off : Int} {tgt : Nat} (hd : decode cc pc = .ok (.if_icmp .gt off, 3)) (ht : (pc : Int) + off = (tgt : Int)) (kt : z < x → zV s0 D tys y cc nL ret rF rL mc ms tgt lo st hi hm nx Q) (kf : ¬ z < x → zV s0 D tys y cc nL ret rF rL mc ms (pc + 3) lo st hi hm nx Q) : zV s0 D tys y cc nL ret rF rL mc ms pc lo (.int z :: .int x :: st) hi hm nx Q := by
  intro l p e R s m args below meth c H locs cells slots ls G F
  have F2 := F
  obtain ⟨f1, f2, f3, f4, f5, f6, f7, f8, f9, f10, f11, f12, f13, f14⟩ := F2
  exact lv_icmp_gt f1 f2 hd ht (fun q => (kt q l p e R s m args below meth c H locs cells slots ls G F)) (fun q => (kf q l p e R s m args below meth c H locs cells slots ls G F))
theorem zV_icmp_le {x z : Int32} {off : Int} {tgt : Nat} (hd : decode cc pc = .ok (.if_icmp .le off, 3)) (ht : (pc : Int) + off = (tgt : Int)) (kt : x ≤ z → zV s0 D tys y cc nL ret rF rL mc ms tgt lo st hi hm nx Q) (kf : ¬ x ≤ z → zV s0 D tys y cc nL ret rF rL mc ms (pc + 3) lo st hi hm nx Q) : zV s0 D tys y cc nL ret rF rL mc ms pc lo (.int z :: .int x :: st) hi hm nx Q := by
  intro l p e R s m args below meth c H locs cells slots ls G F
  have F2 := F
  obtain ⟨f1, f2, f3, f4, f5, f6, f7, f8, f9, f10, f11, f12, f13, f14⟩ := F2
  exact lv_icmp_le f1 f2 hd ht (fun q => (kt q l p e R s m args below meth c H locs cells slots ls G F)) (fun q => (kf q l p e R s m args below meth c H locs cells slots ls G F))
theorem zV_lcmp_eq {x z : Int64} {off : Int} {tgt : Nat} (hd : decode cc pc = .ok (.ifCond .eq off, 3)) (ht : (pc : Int) + off = (tgt : Int)) (kt : x = z → zV s0 D tys y cc nL ret rF rL mc ms tgt lo st hi hm nx Q) (kf : ¬ x = z → zV s0 D tys y cc nL ret rF rL mc ms (pc + 3) lo st hi hm nx Q) : zV s0 D tys y cc nL ret rF rL mc ms pc lo (.int (lg_cmp x z) :: st) hi hm nx Q := zV_if_eq hd ht (fun q => kt ((lg_cmp_eq x z).mp q)) (fun q => kf (fun w => q ((lg_cmp_eq x z).mpr w)))
theorem zV_lcmp_ne {x z : Int64} {off : Int} {tgt : Nat} (hd : decode cc pc = .ok (.ifCond .ne off, 3)) (ht : (pc : Int) + off = (tgt : Int)) (kt : ¬ x = z → zV s0 D tys y cc nL ret rF rL mc ms tgt lo st hi hm nx Q) (kf : x = z → zV s0 D tys y cc nL ret rF rL mc ms (pc + 3) lo st hi hm nx Q) : zV s0 D tys y cc nL ret rF rL mc ms pc lo (.int (lg_cmp x z) :: st) hi hm nx Q := zV_if_ne hd ht (fun q => kt (fun w => q ((lg_cmp_eq x z).mpr w))) (fun q => kf ((lg_cmp_eq x z).mp q))
theorem zV_lcmp_lt {x z : Int64} {off : Int} {tgt : Nat} (hd : decode cc pc = .ok (.ifCond .lt off, 3)) (ht : (pc : Int) + off = (tgt : Int)) (kt : x < z → zV s0 D tys y cc nL ret rF rL mc ms tgt lo st hi hm nx Q) (kf : ¬ x < z → zV s0 D tys y cc nL ret rF rL mc ms (pc + 3) lo st hi hm nx Q) : zV s0 D tys y cc nL ret rF rL mc ms pc lo (.int (lg_cmp x z) :: st) hi hm nx Q := zV_if_lt hd ht (fun q => kt ((lg_cmp_lt x z).mp q)) (fun q => kf (fun w => q ((lg_cmp_lt x z).mpr w)))
theorem zV_lcmp_ge {x z : Int64} {off : Int} {tgt : Nat} (hd : decode cc pc = .ok (.ifCond .ge off, 3)) (ht : (pc : Int) + off = (tgt : Int)) (kt : z ≤ x → zV s0 D tys y cc nL ret rF rL mc ms tgt lo st hi hm nx Q) (kf : ¬ z ≤ x → zV s0 D tys y cc nL ret rF rL mc ms (pc + 3) lo st hi hm nx Q) : zV s0 D tys y cc nL ret rF rL mc ms pc lo (.int (lg_cmp x z) :: st) hi hm nx Q := zV_if_ge hd ht (fun q => kt ((lg_cmp_ge x z).mp q)) (fun q => kf (fun w => q ((lg_cmp_ge x z).mpr w)))
theorem zV_lcmp_gt {x z : Int64} {off : Int} {tgt : Nat} (hd : decode cc pc = .ok (.ifCond .gt off, 3)) (ht : (pc : Int) + off = (tgt : Int)) (kt : z < x → zV s0 D tys y cc nL ret rF rL mc ms tgt lo st hi hm nx Q) (kf : ¬ z < x → zV s0 D tys y cc nL ret rF rL mc ms (pc + 3) lo st hi hm nx Q) : zV s0 D tys y cc nL ret rF rL mc ms pc lo (.int (lg_cmp x z) :: st) hi hm nx Q := zV_if_gt hd ht (fun q => kt ((lg_cmp_gt x z).mp q)) (fun q => kf (fun w => q ((lg_cmp_gt x z).mpr w)))
theorem zV_lcmp_le {x z : Int64} {off : Int} {tgt : Nat} (hd : decode cc pc = .ok (.ifCond .le off, 3)) (ht : (pc : Int) + off = (tgt : Int)) (kt : x ≤ z → zV s0 D tys y cc nL ret rF rL mc ms tgt lo st hi hm nx Q) (kf : ¬ x ≤ z → zV s0 D tys y cc nL ret rF rL mc ms (pc + 3) lo st hi hm nx Q) : zV s0 D tys y cc nL ret rF rL mc ms pc lo (.int (lg_cmp x z) :: st) hi hm nx Q := zV_if_le hd ht (fun q => kt ((lg_cmp_le x z).mp q)) (fun q => kf (fun w => q ((lg_cmp_le x z).mpr w)))
theorem zV_goto {off : Int} {tgt : Nat} (hd : decode cc pc = .ok (.goto off, 3)) (ht : (pc : Int) + off = (tgt : Int)) (k : zV s0 D tys y cc nL ret rF rL mc ms tgt lo st hi hm nx Q) : zV s0 D tys y cc nL ret rF rL mc ms pc lo st hi hm nx Q := by
  intro l p e R s m args below meth c H locs cells slots ls G F
  have F2 := F
  obtain ⟨f1, f2, f3, f4, f5, f6, f7, f8, f9, f10, f11, f12, f13, f14⟩ := F2
  exact lv_goto f1 f2 hd ht (k l p e R s m args below meth c H locs cells slots ls G F)
theorem zV_idiv {x z : Int32} (hd : decode cc pc = .ok (.idiv, 1)) (hz : ¬ z = 0) (k : zV s0 D tys y cc nL ret rF rL mc ms (pc + 1) lo (.int (x / z) :: st) hi hm nx Q) : zV s0 D tys y cc nL ret rF rL mc ms pc lo (.int z :: .int x :: st) hi hm nx Q := by
  intro l p e R s m args below meth c H locs cells slots ls G F
  have F2 := F
  obtain ⟨f1, f2, f3, f4, f5, f6, f7, f8, f9, f10, f11, f12, f13, f14⟩ := F2
  exact lv_idiv f1 f2 hd hz (k l p e R s m args below meth c H locs cells slots ls G F)
theorem zV_irem {x z : Int32} (hd : decode cc pc = .ok (.irem, 1)) (hz : ¬ z = 0) (k : zV s0 D tys y cc nL ret rF rL mc ms (pc + 1) lo (.int (x - x / z * z) :: st) hi hm nx Q) : zV s0 D tys y cc nL ret rF rL mc ms pc lo (.int z :: .int x :: st) hi hm nx Q := by
  intro l p e R s m args below meth c H locs cells slots ls G F
  have F2 := F
  obtain ⟨f1, f2, f3, f4, f5, f6, f7, f8, f9, f10, f11, f12, f13, f14⟩ := F2
  exact lv_irem f1 f2 hd hz (k l p e R s m args below meth c H locs cells slots ls G F)
theorem zV_ldiv {x z : Int64} (hd : decode cc pc = .ok (.ldiv, 1)) (hz : ¬ z = 0) (k : zV s0 D tys y cc nL ret rF rL mc ms (pc + 1) lo (.long (x / z) :: st) hi hm nx Q) : zV s0 D tys y cc nL ret rF rL mc ms pc lo (.long z :: .long x :: st) hi hm nx Q := by
  intro l p e R s m args below meth c H locs cells slots ls G F
  have F2 := F
  obtain ⟨f1, f2, f3, f4, f5, f6, f7, f8, f9, f10, f11, f12, f13, f14⟩ := F2
  exact lv_ldiv f1 f2 hd hz (k l p e R s m args below meth c H locs cells slots ls G F)
theorem zV_lrem {x z : Int64} (hd : decode cc pc = .ok (.lrem, 1)) (hz : ¬ z = 0) (k : zV s0 D tys y cc nL ret rF rL mc ms (pc + 1) lo (.long (x - x / z * z) :: st) hi hm nx Q) : zV s0 D tys y cc nL ret rF rL mc ms pc lo (.long z :: .long x :: st) hi hm nx Q := by
  intro l p e R s m args below meth c H locs cells slots ls G F
  have F2 := F
  obtain ⟨f1, f2, f3, f4, f5, f6, f7, f8, f9, f10, f11, f12, f13, f14⟩ := F2
  exact lv_lrem f1 f2 hd hz (k l p e R s m args below meth c H locs cells slots ls G F)
theorem zV_ifnull {r : Option Nat} {off : Int} {tgt : Nat} (hd : decode cc pc = .ok (.ifnull off, 3)) (ht : (pc : Int) + off = (tgt : Int)) (kt : r = none → zV s0 D tys y cc nL ret rF rL mc ms tgt lo st hi hm nx Q) (kf : ∀ a, r = some a → zV s0 D tys y cc nL ret rF rL mc ms (pc + 3) lo st hi hm nx Q) : zV s0 D tys y cc nL ret rF rL mc ms pc lo (va_rf r :: st) hi hm nx Q := by
  intro l p e R s m args below meth c H locs cells slots ls G F
  have F2 := F
  obtain ⟨f1, f2, f3, f4, f5, f6, f7, f8, f9, f10, f11, f12, f13, f14⟩ := F2
  cases r with
  | none => exact lv_ifnullN f1 f2 hd ht (kt rfl l p e R s m args below meth c H locs cells slots ls G F)
  | some a => exact lv_ifnull f1 f2 hd (kf a rfl l p e R s m args below meth c H locs cells slots ls G F)
theorem zV_ifnonnull {r : Option Nat} {off : Int} {tgt : Nat} (hd : decode cc pc = .ok (.ifnonnull off, 3)) (ht : (pc : Int) + off = (tgt : Int)) (kt : ∀ a, r = some a → zV s0 D tys y cc nL ret rF rL mc ms tgt lo st hi hm nx Q) (kf : r = none → zV s0 D tys y cc nL ret rF rL mc ms (pc + 3) lo st hi hm nx Q) : zV s0 D tys y cc nL ret rF rL mc ms pc lo (va_rf r :: st) hi hm nx Q := by
  intro l p e R s m args below meth c H locs cells slots ls G F
  have F2 := F
  obtain ⟨f1, f2, f3, f4, f5, f6, f7, f8, f9, f10, f11, f12, f13, f14⟩ := F2
  cases r with
  | none => exact lv_ifnonnullN f1 f2 hd (kf rfl l p e R s m args below meth c H locs cells slots ls G F)
  | some a => exact lv_ifnonnull f1 f2 hd ht (kt a rfl l p e R s m args below meth c H locs cells slots ls G F)
theorem zV_ldc {idx : Nat} {v : Int32} (hw : Cond.constant y.cls idx v ∈ zT) (hd : decode cc pc = .ok (.ldc idx, 2)) (k : zV s0 D tys y cc nL ret rF rL mc ms (pc + 2) lo (.int v :: st) hi hm nx Q) : zV s0 D tys y cc nL ret rF rL mc ms pc lo st hi hm nx Q := by
  intro l p e R s m args below meth c H locs cells slots ls G F
  have F2 := F
  obtain ⟨f1, f2, f3, f4, f5, f6, f7, f8, f9, f10, f11, f12, f13, f14⟩ := F2
  exact lv_ldc f1 f2 f5 (zG_w G f8 args _ hw) hd (k l p e R s m args below meth c H locs cells slots ls G F)
theorem zV_ldcw {idx : Nat} {v : Int32} (hw : Cond.constant y.cls idx v ∈ zT) (hd : decode cc pc = .ok (.ldc_w idx, 3)) (k : zV s0 D tys y cc nL ret rF rL mc ms (pc + 3) lo (.int v :: st) hi hm nx Q) : zV s0 D tys y cc nL ret rF rL mc ms pc lo st hi hm nx Q := by
  intro l p e R s m args below meth c H locs cells slots ls G F
  have F2 := F
  obtain ⟨f1, f2, f3, f4, f5, f6, f7, f8, f9, f10, f11, f12, f13, f14⟩ := F2
  exact lv_ldcw f1 f2 f5 (zG_w G f8 args _ hw) hd (k l p e R s m args below meth c H locs cells slots ls G F)
theorem zV_ldc2 {idx : Nat} {v : Int64} (hw : Cond.constantLong y.cls idx v ∈ zT) (hd : decode cc pc = .ok (.ldc2_w idx, 3)) (k : zV s0 D tys y cc nL ret rF rL mc ms (pc + 3) lo (.long v :: st) hi hm nx Q) : zV s0 D tys y cc nL ret rF rL mc ms pc lo st hi hm nx Q := by
  intro l p e R s m args below meth c H locs cells slots ls G F
  have F2 := F
  obtain ⟨f1, f2, f3, f4, f5, f6, f7, f8, f9, f10, f11, f12, f13, f14⟩ := F2
  exact lv_ldc2 f1 f2 f5 (zG_w G f8 args _ hw) hd (k l p e R s m args below meth c H locs cells slots ls G F)
theorem zV_iret {v : Int32} (hr : ret = some .int) (hd : decode cc pc = .ok (.ireturn, 1)) (hq : Q (some (.int v)) hi hm nx) : zV s0 D tys y cc nL ret rF rL mc ms pc lo [.int v] hi hm nx Q := by
  intro l p e R s m args below meth c H locs cells slots ls G F
  have F2 := F
  obtain ⟨f1, f2, f3, f4, f5, f6, f7, f8, f9, f10, f11, f12, f13, f14⟩ := F2
  refine W.widen (k := R.cells) (n := R.slots) (by omega) (by omega) ?_
  exact W.iret f1 f2 (f3.trans hr) (fun t ht hW => ⟨⟨_, hi, hm, nx, rfl, hq, by rw [ht]; exact f11⟩, f12.F ht⟩) f12.2.2 hd f7
theorem zV_zret {v : Int32} (hr : ret = some .boolean) (hv : v &&& 1 = v) (hd : decode cc pc = .ok (.ireturn, 1)) (hq : Q (some (.int v)) hi hm nx) : zV s0 D tys y cc nL ret rF rL mc ms pc lo [.int v] hi hm nx Q := by
  intro l p e R s m args below meth c H locs cells slots ls G F
  have F2 := F
  obtain ⟨f1, f2, f3, f4, f5, f6, f7, f8, f9, f10, f11, f12, f13, f14⟩ := F2
  refine W.widen (k := R.cells) (n := R.slots) (by omega) (by omega) ?_
  exact W.zret f1 f2 (f3.trans hr) (by simp only [narrow, hv]) (fun t ht hW => ⟨⟨_, hi, hm, nx, rfl, hq, by rw [ht]; exact f11⟩, f12.F ht⟩) f12.2.2 hd f7
theorem zV_lret {v : Int64} (hr : ret = some .long) (hd : decode cc pc = .ok (.lreturn, 1)) (hq : Q (some (.long v)) hi hm nx) : zV s0 D tys y cc nL ret rF rL mc ms pc lo [.long v] hi hm nx Q := by
  intro l p e R s m args below meth c H locs cells slots ls G F
  have F2 := F
  obtain ⟨f1, f2, f3, f4, f5, f6, f7, f8, f9, f10, f11, f12, f13, f14⟩ := F2
  refine W.widen (k := R.cells) (n := R.slots) (by omega) (by omega) ?_
  exact W.lret f1 f2 (f3.trans hr) (fun t ht hW => ⟨⟨_, hi, hm, nx, rfl, hq, by rw [ht]; exact f11⟩, f12.F ht⟩) f12.2.2 hd f7
theorem zV_vret (hr : ret = none) (hd : decode cc pc = .ok (.return_, 1)) (hq : Q none hi hm nx) : zV s0 D tys y cc nL ret rF rL mc ms pc lo [] hi hm nx Q := by
  intro l p e R s m args below meth c H locs cells slots ls G F
  have F2 := F
  obtain ⟨f1, f2, f3, f4, f5, f6, f7, f8, f9, f10, f11, f12, f13, f14⟩ := F2
  refine W.widen (k := R.cells) (n := R.slots) (by omega) (by omega) ?_
  exact W.vret f1 f2 (f3.trans hr) (fun t ht hW => ⟨⟨_, hi, hm, nx, rfl, hq, by rw [ht]; exact f11⟩, f12.F ht⟩) f12.2.2 hd f7
theorem zV_aret {v : Value} {rt : FieldType} (hr : ret = some rt) (hrt : (∃ n, rt = .object n) ∨ ∃ t, rt = .array t) (hv : v = .null ∨ ∃ a, v = .ref a) (hd : decode cc pc = .ok (.areturn, 1)) (hq : Q (some v) hi hm nx) : zV s0 D tys y cc nL ret rF rL mc ms pc lo [v] hi hm nx Q := by
  intro l p e R s m args below meth c H locs cells slots ls G F
  have F2 := F
  obtain ⟨f1, f2, f3, f4, f5, f6, f7, f8, f9, f10, f11, f12, f13, f14⟩ := F2
  refine W.widen (k := R.cells) (n := R.slots) (by omega) (by omega) ?_
  exact W.aret f1 f2 (f3.trans hr) hrt hv (fun t ht hW => ⟨⟨_, hi, hm, nx, rfl, hq, by rw [ht]; exact f11⟩, f12.F ht⟩) f12.2.2 hd f7
end ZB
