/-! ===== the literals of the class, a row for each ===== -/
def zFl : List Cond := flatC (Jvm.Cond.and given_1 narrow_1)
theorem zFl_at (i : Nat) {w : Cond} (h : zFl[i]? = some w) : w ∈ flatC (Jvm.Cond.and given_1 narrow_1) := List.mem_of_getElem? h
def L_year : List Int32 := [121, 101, 97, 114]
set_option maxRecDepth 100000 in
theorem zl_RX7_95 {s0 : State} {D : va_G} {tys : List (ClassId × FieldType)} {y : MethodName} {cc : ByteArray} {nL : Nat} {ret : Option FieldType} {rF rL mc ms pc : Nat} {lo : List (Nat × Value)} {st : List Value} {hi hm : zHp} {nx : Nat} {Q : Option Value → zHp → zHp → Nat → Prop} (hy : y.cls = "LeapDesigner$Reader") (hd : decode cc pc = .ok (.ldc 95, 2)) (kk : ∀ a, iStr s0 a 4 (fun j => L_year.getD j 0) → zV s0 D tys y cc nL ret rF rL mc ms (pc + 2) lo (.ref a :: st) hi hm nx Q) : zV s0 D tys y cc nL ret rF rL mc ms pc lo st hi hm nx Q := by
  refine zV_ldcS (idx := 95) (tx := "year") 4 L_year (by decide) (by rw [hy]; exact List.mem_of_getElem? (i := 349) (by decide +kernel)) (by rw [hy]; exact zFl_at 233 (by decide +kernel)) (by rw [hy]; exact zFl_at 234 (by decide +kernel)) (by rw [hy]; exact zFl_at 235 (by decide +kernel)) (by rw [hy]; exact zFl_at 236 (by decide +kernel)) (fun j hj => ?_) hd kk
  rcases (show j = 0 ∨ j = 1 ∨ j = 2 ∨ j = 3 by omega) with rfl | rfl | rfl | rfl
  · rw [hy]; exact zFl_at 237 (by decide +kernel)
  · rw [hy]; exact zFl_at 238 (by decide +kernel)
  · rw [hy]; exact zFl_at 239 (by decide +kernel)
  · rw [hy]; exact zFl_at 240 (by decide +kernel)
def L_extra : List Int32 := [101, 120, 116, 114, 97]
set_option maxRecDepth 100000 in
theorem zl_RX7_104 {s0 : State} {D : va_G} {tys : List (ClassId × FieldType)} {y : MethodName} {cc : ByteArray} {nL : Nat} {ret : Option FieldType} {rF rL mc ms pc : Nat} {lo : List (Nat × Value)} {st : List Value} {hi hm : zHp} {nx : Nat} {Q : Option Value → zHp → zHp → Nat → Prop} (hy : y.cls = "LeapDesigner$Reader") (hd : decode cc pc = .ok (.ldc 104, 2)) (kk : ∀ a, iStr s0 a 5 (fun j => L_extra.getD j 0) → zV s0 D tys y cc nL ret rF rL mc ms (pc + 2) lo (.ref a :: st) hi hm nx Q) : zV s0 D tys y cc nL ret rF rL mc ms pc lo st hi hm nx Q := by
  refine zV_ldcS (idx := 104) (tx := "extra") 5 L_extra (by decide) (by rw [hy]; exact List.mem_of_getElem? (i := 415) (by decide +kernel)) (by rw [hy]; exact zFl_at 241 (by decide +kernel)) (by rw [hy]; exact zFl_at 242 (by decide +kernel)) (by rw [hy]; exact zFl_at 243 (by decide +kernel)) (by rw [hy]; exact zFl_at 244 (by decide +kernel)) (fun j hj => ?_) hd kk
  rcases (show j = 0 ∨ j = 1 ∨ j = 2 ∨ j = 3 ∨ j = 4 by omega) with rfl | rfl | rfl | rfl | rfl
  · rw [hy]; exact zFl_at 245 (by decide +kernel)
  · rw [hy]; exact zFl_at 246 (by decide +kernel)
  · rw [hy]; exact zFl_at 247 (by decide +kernel)
  · rw [hy]; exact zFl_at 248 (by decide +kernel)
  · rw [hy]; exact zFl_at 249 (by decide +kernel)
def L_even : List Int32 := [101, 118, 101, 110]
set_option maxRecDepth 100000 in
theorem zl_RX7_105 {s0 : State} {D : va_G} {tys : List (ClassId × FieldType)} {y : MethodName} {cc : ByteArray} {nL : Nat} {ret : Option FieldType} {rF rL mc ms pc : Nat} {lo : List (Nat × Value)} {st : List Value} {hi hm : zHp} {nx : Nat} {Q : Option Value → zHp → zHp → Nat → Prop} (hy : y.cls = "LeapDesigner$Reader") (hd : decode cc pc = .ok (.ldc 105, 2)) (kk : ∀ a, iStr s0 a 4 (fun j => L_even.getD j 0) → zV s0 D tys y cc nL ret rF rL mc ms (pc + 2) lo (.ref a :: st) hi hm nx Q) : zV s0 D tys y cc nL ret rF rL mc ms pc lo st hi hm nx Q := by
  refine zV_ldcS (idx := 105) (tx := "even") 4 L_even (by decide) (by rw [hy]; exact List.mem_of_getElem? (i := 416) (by decide +kernel)) (by rw [hy]; exact zFl_at 250 (by decide +kernel)) (by rw [hy]; exact zFl_at 251 (by decide +kernel)) (by rw [hy]; exact zFl_at 252 (by decide +kernel)) (by rw [hy]; exact zFl_at 253 (by decide +kernel)) (fun j hj => ?_) hd kk
  rcases (show j = 0 ∨ j = 1 ∨ j = 2 ∨ j = 3 by omega) with rfl | rfl | rfl | rfl
  · rw [hy]; exact zFl_at 254 (by decide +kernel)
  · rw [hy]; exact zFl_at 255 (by decide +kernel)
  · rw [hy]; exact zFl_at 256 (by decide +kernel)
  · rw [hy]; exact zFl_at 257 (by decide +kernel)
def L_of : List Int32 := [111, 102]
set_option maxRecDepth 100000 in
theorem zl_RX7_162 {s0 : State} {D : va_G} {tys : List (ClassId × FieldType)} {y : MethodName} {cc : ByteArray} {nL : Nat} {ret : Option FieldType} {rF rL mc ms pc : Nat} {lo : List (Nat × Value)} {st : List Value} {hi hm : zHp} {nx : Nat} {Q : Option Value → zHp → zHp → Nat → Prop} (hy : y.cls = "LeapDesigner$Reader") (hd : decode cc pc = .ok (.ldc 162, 2)) (kk : ∀ a, iStr s0 a 2 (fun j => L_of.getD j 0) → zV s0 D tys y cc nL ret rF rL mc ms (pc + 2) lo (.ref a :: st) hi hm nx Q) : zV s0 D tys y cc nL ret rF rL mc ms pc lo st hi hm nx Q := by
  refine zV_ldcS (idx := 162) (tx := "of") 2 L_of (by decide) (by rw [hy]; exact List.mem_of_getElem? (i := 421) (by decide +kernel)) (by rw [hy]; exact zFl_at 258 (by decide +kernel)) (by rw [hy]; exact zFl_at 259 (by decide +kernel)) (by rw [hy]; exact zFl_at 260 (by decide +kernel)) (by rw [hy]; exact zFl_at 261 (by decide +kernel)) (fun j hj => ?_) hd kk
  rcases (show j = 0 ∨ j = 1 by omega) with rfl | rfl
  · rw [hy]; exact zFl_at 262 (by decide +kernel)
  · rw [hy]; exact zFl_at 263 (by decide +kernel)
def L_shift : List Int32 := [115, 104, 105, 102, 116]
set_option maxRecDepth 100000 in
theorem zl_RX7_164 {s0 : State} {D : va_G} {tys : List (ClassId × FieldType)} {y : MethodName} {cc : ByteArray} {nL : Nat} {ret : Option FieldType} {rF rL mc ms pc : Nat} {lo : List (Nat × Value)} {st : List Value} {hi hm : zHp} {nx : Nat} {Q : Option Value → zHp → zHp → Nat → Prop} (hy : y.cls = "LeapDesigner$Reader") (hd : decode cc pc = .ok (.ldc 164, 2)) (kk : ∀ a, iStr s0 a 5 (fun j => L_shift.getD j 0) → zV s0 D tys y cc nL ret rF rL mc ms (pc + 2) lo (.ref a :: st) hi hm nx Q) : zV s0 D tys y cc nL ret rF rL mc ms pc lo st hi hm nx Q := by
  refine zV_ldcS (idx := 164) (tx := "shift") 5 L_shift (by decide) (by rw [hy]; exact List.mem_of_getElem? (i := 432) (by decide +kernel)) (by rw [hy]; exact zFl_at 264 (by decide +kernel)) (by rw [hy]; exact zFl_at 265 (by decide +kernel)) (by rw [hy]; exact zFl_at 266 (by decide +kernel)) (by rw [hy]; exact zFl_at 267 (by decide +kernel)) (fun j hj => ?_) hd kk
  rcases (show j = 0 ∨ j = 1 ∨ j = 2 ∨ j = 3 ∨ j = 4 by omega) with rfl | rfl | rfl | rfl | rfl
  · rw [hy]; exact zFl_at 268 (by decide +kernel)
  · rw [hy]; exact zFl_at 269 (by decide +kernel)
  · rw [hy]; exact zFl_at 270 (by decide +kernel)
  · rw [hy]; exact zFl_at 271 (by decide +kernel)
  · rw [hy]; exact zFl_at 272 (by decide +kernel)
def L_every : List Int32 := [101, 118, 101, 114, 121]
set_option maxRecDepth 100000 in
theorem zl_RX7_118 {s0 : State} {D : va_G} {tys : List (ClassId × FieldType)} {y : MethodName} {cc : ByteArray} {nL : Nat} {ret : Option FieldType} {rF rL mc ms pc : Nat} {lo : List (Nat × Value)} {st : List Value} {hi hm : zHp} {nx : Nat} {Q : Option Value → zHp → zHp → Nat → Prop} (hy : y.cls = "LeapDesigner$Reader") (hd : decode cc pc = .ok (.ldc 118, 2)) (kk : ∀ a, iStr s0 a 5 (fun j => L_every.getD j 0) → zV s0 D tys y cc nL ret rF rL mc ms (pc + 2) lo (.ref a :: st) hi hm nx Q) : zV s0 D tys y cc nL ret rF rL mc ms pc lo st hi hm nx Q := by
  refine zV_ldcS (idx := 118) (tx := "every") 5 L_every (by decide) (by rw [hy]; exact List.mem_of_getElem? (i := 451) (by decide +kernel)) (by rw [hy]; exact zFl_at 273 (by decide +kernel)) (by rw [hy]; exact zFl_at 274 (by decide +kernel)) (by rw [hy]; exact zFl_at 275 (by decide +kernel)) (by rw [hy]; exact zFl_at 276 (by decide +kernel)) (fun j hj => ?_) hd kk
  rcases (show j = 0 ∨ j = 1 ∨ j = 2 ∨ j = 3 ∨ j = 4 by omega) with rfl | rfl | rfl | rfl | rfl
  · rw [hy]; exact zFl_at 277 (by decide +kernel)
  · rw [hy]; exact zFl_at 278 (by decide +kernel)
  · rw [hy]; exact zFl_at 279 (by decide +kernel)
  · rw [hy]; exact zFl_at 280 (by decide +kernel)
  · rw [hy]; exact zFl_at 281 (by decide +kernel)
def L_not : List Int32 := [110, 111, 116]
set_option maxRecDepth 100000 in
theorem zl_RX7_166 {s0 : State} {D : va_G} {tys : List (ClassId × FieldType)} {y : MethodName} {cc : ByteArray} {nL : Nat} {ret : Option FieldType} {rF rL mc ms pc : Nat} {lo : List (Nat × Value)} {st : List Value} {hi hm : zHp} {nx : Nat} {Q : Option Value → zHp → zHp → Nat → Prop} (hy : y.cls = "LeapDesigner$Reader") (hd : decode cc pc = .ok (.ldc 166, 2)) (kk : ∀ a, iStr s0 a 3 (fun j => L_not.getD j 0) → zV s0 D tys y cc nL ret rF rL mc ms (pc + 2) lo (.ref a :: st) hi hm nx Q) : zV s0 D tys y cc nL ret rF rL mc ms pc lo st hi hm nx Q := by
  refine zV_ldcS (idx := 166) (tx := "not") 3 L_not (by decide) (by rw [hy]; exact List.mem_of_getElem? (i := 456) (by decide +kernel)) (by rw [hy]; exact zFl_at 282 (by decide +kernel)) (by rw [hy]; exact zFl_at 283 (by decide +kernel)) (by rw [hy]; exact zFl_at 284 (by decide +kernel)) (by rw [hy]; exact zFl_at 285 (by decide +kernel)) (fun j hj => ?_) hd kk
  rcases (show j = 0 ∨ j = 1 ∨ j = 2 by omega) with rfl | rfl | rfl
  · rw [hy]; exact zFl_at 286 (by decide +kernel)
  · rw [hy]; exact zFl_at 287 (by decide +kernel)
  · rw [hy]; exact zFl_at 288 (by decide +kernel)
def L_but : List Int32 := [98, 117, 116]
set_option maxRecDepth 100000 in
theorem zl_RX7_168 {s0 : State} {D : va_G} {tys : List (ClassId × FieldType)} {y : MethodName} {cc : ByteArray} {nL : Nat} {ret : Option FieldType} {rF rL mc ms pc : Nat} {lo : List (Nat × Value)} {st : List Value} {hi hm : zHp} {nx : Nat} {Q : Option Value → zHp → zHp → Nat → Prop} (hy : y.cls = "LeapDesigner$Reader") (hd : decode cc pc = .ok (.ldc 168, 2)) (kk : ∀ a, iStr s0 a 3 (fun j => L_but.getD j 0) → zV s0 D tys y cc nL ret rF rL mc ms (pc + 2) lo (.ref a :: st) hi hm nx Q) : zV s0 D tys y cc nL ret rF rL mc ms pc lo st hi hm nx Q := by
  refine zV_ldcS (idx := 168) (tx := "but") 3 L_but (by decide) (by rw [hy]; exact List.mem_of_getElem? (i := 457) (by decide +kernel)) (by rw [hy]; exact zFl_at 289 (by decide +kernel)) (by rw [hy]; exact zFl_at 290 (by decide +kernel)) (by rw [hy]; exact zFl_at 291 (by decide +kernel)) (by rw [hy]; exact zFl_at 292 (by decide +kernel)) (fun j hj => ?_) hd kk
  rcases (show j = 0 ∨ j = 1 ∨ j = 2 by omega) with rfl | rfl | rfl
  · rw [hy]; exact zFl_at 293 (by decide +kernel)
  · rw [hy]; exact zFl_at 294 (by decide +kernel)
  · rw [hy]; exact zFl_at 295 (by decide +kernel)
def L_row : List Int32 := [114, 111, 119]
set_option maxRecDepth 100000 in
theorem zl_RX7_123 {s0 : State} {D : va_G} {tys : List (ClassId × FieldType)} {y : MethodName} {cc : ByteArray} {nL : Nat} {ret : Option FieldType} {rF rL mc ms pc : Nat} {lo : List (Nat × Value)} {st : List Value} {hi hm : zHp} {nx : Nat} {Q : Option Value → zHp → zHp → Nat → Prop} (hy : y.cls = "LeapDesigner$Reader") (hd : decode cc pc = .ok (.ldc 123, 2)) (kk : ∀ a, iStr s0 a 3 (fun j => L_row.getD j 0) → zV s0 D tys y cc nL ret rF rL mc ms (pc + 2) lo (.ref a :: st) hi hm nx Q) : zV s0 D tys y cc nL ret rF rL mc ms pc lo st hi hm nx Q := by
  refine zV_ldcS (idx := 123) (tx := "row") 3 L_row (by decide) (by rw [hy]; exact List.mem_of_getElem? (i := 475) (by decide +kernel)) (by rw [hy]; exact zFl_at 296 (by decide +kernel)) (by rw [hy]; exact zFl_at 297 (by decide +kernel)) (by rw [hy]; exact zFl_at 298 (by decide +kernel)) (by rw [hy]; exact zFl_at 299 (by decide +kernel)) (fun j hj => ?_) hd kk
  rcases (show j = 0 ∨ j = 1 ∨ j = 2 by omega) with rfl | rfl | rfl
  · rw [hy]; exact zFl_at 300 (by decide +kernel)
  · rw [hy]; exact zFl_at 301 (by decide +kernel)
  · rw [hy]; exact zFl_at 302 (by decide +kernel)
def L_months : List Int32 := [109, 111, 110, 116, 104, 115]
set_option maxRecDepth 100000 in
theorem zl_RX7_128 {s0 : State} {D : va_G} {tys : List (ClassId × FieldType)} {y : MethodName} {cc : ByteArray} {nL : Nat} {ret : Option FieldType} {rF rL mc ms pc : Nat} {lo : List (Nat × Value)} {st : List Value} {hi hm : zHp} {nx : Nat} {Q : Option Value → zHp → zHp → Nat → Prop} (hy : y.cls = "LeapDesigner$Reader") (hd : decode cc pc = .ok (.ldc 128, 2)) (kk : ∀ a, iStr s0 a 6 (fun j => L_months.getD j 0) → zV s0 D tys y cc nL ret rF rL mc ms (pc + 2) lo (.ref a :: st) hi hm nx Q) : zV s0 D tys y cc nL ret rF rL mc ms pc lo st hi hm nx Q := by
  refine zV_ldcS (idx := 128) (tx := "months") 6 L_months (by decide) (by rw [hy]; exact List.mem_of_getElem? (i := 493) (by decide +kernel)) (by rw [hy]; exact zFl_at 303 (by decide +kernel)) (by rw [hy]; exact zFl_at 304 (by decide +kernel)) (by rw [hy]; exact zFl_at 305 (by decide +kernel)) (by rw [hy]; exact zFl_at 306 (by decide +kernel)) (fun j hj => ?_) hd kk
  rcases (show j = 0 ∨ j = 1 ∨ j = 2 ∨ j = 3 ∨ j = 4 ∨ j = 5 by omega) with rfl | rfl | rfl | rfl | rfl | rfl
  · rw [hy]; exact zFl_at 307 (by decide +kernel)
  · rw [hy]; exact zFl_at 308 (by decide +kernel)
  · rw [hy]; exact zFl_at 309 (by decide +kernel)
  · rw [hy]; exact zFl_at 310 (by decide +kernel)
  · rw [hy]; exact zFl_at 311 (by decide +kernel)
  · rw [hy]; exact zFl_at 312 (by decide +kernel)
def L_leap : List Int32 := [108, 101, 97, 112]
set_option maxRecDepth 100000 in
theorem zl_RX7_191 {s0 : State} {D : va_G} {tys : List (ClassId × FieldType)} {y : MethodName} {cc : ByteArray} {nL : Nat} {ret : Option FieldType} {rF rL mc ms pc : Nat} {lo : List (Nat × Value)} {st : List Value} {hi hm : zHp} {nx : Nat} {Q : Option Value → zHp → zHp → Nat → Prop} (hy : y.cls = "LeapDesigner$Reader") (hd : decode cc pc = .ok (.ldc 191, 2)) (kk : ∀ a, iStr s0 a 4 (fun j => L_leap.getD j 0) → zV s0 D tys y cc nL ret rF rL mc ms (pc + 2) lo (.ref a :: st) hi hm nx Q) : zV s0 D tys y cc nL ret rF rL mc ms pc lo st hi hm nx Q := by
  refine zV_ldcS (idx := 191) (tx := "leap") 4 L_leap (by decide) (by rw [hy]; exact List.mem_of_getElem? (i := 498) (by decide +kernel)) (by rw [hy]; exact zFl_at 313 (by decide +kernel)) (by rw [hy]; exact zFl_at 314 (by decide +kernel)) (by rw [hy]; exact zFl_at 315 (by decide +kernel)) (by rw [hy]; exact zFl_at 316 (by decide +kernel)) (fun j hj => ?_) hd kk
  rcases (show j = 0 ∨ j = 1 ∨ j = 2 ∨ j = 3 by omega) with rfl | rfl | rfl | rfl
  · rw [hy]; exact zFl_at 317 (by decide +kernel)
  · rw [hy]; exact zFl_at 318 (by decide +kernel)
  · rw [hy]; exact zFl_at 319 (by decide +kernel)
  · rw [hy]; exact zFl_at 320 (by decide +kernel)
def L_week : List Int32 := [119, 101, 101, 107]
set_option maxRecDepth 100000 in
theorem zl_RX7_132 {s0 : State} {D : va_G} {tys : List (ClassId × FieldType)} {y : MethodName} {cc : ByteArray} {nL : Nat} {ret : Option FieldType} {rF rL mc ms pc : Nat} {lo : List (Nat × Value)} {st : List Value} {hi hm : zHp} {nx : Nat} {Q : Option Value → zHp → zHp → Nat → Prop} (hy : y.cls = "LeapDesigner$Reader") (hd : decode cc pc = .ok (.ldc 132, 2)) (kk : ∀ a, iStr s0 a 4 (fun j => L_week.getD j 0) → zV s0 D tys y cc nL ret rF rL mc ms (pc + 2) lo (.ref a :: st) hi hm nx Q) : zV s0 D tys y cc nL ret rF rL mc ms pc lo st hi hm nx Q := by
  refine zV_ldcS (idx := 132) (tx := "week") 4 L_week (by decide) (by rw [hy]; exact List.mem_of_getElem? (i := 499) (by decide +kernel)) (by rw [hy]; exact zFl_at 321 (by decide +kernel)) (by rw [hy]; exact zFl_at 322 (by decide +kernel)) (by rw [hy]; exact zFl_at 323 (by decide +kernel)) (by rw [hy]; exact zFl_at 324 (by decide +kernel)) (fun j hj => ?_) hd kk
  rcases (show j = 0 ∨ j = 1 ∨ j = 2 ∨ j = 3 by omega) with rfl | rfl | rfl | rfl
  · rw [hy]; exact zFl_at 325 (by decide +kernel)
  · rw [hy]; exact zFl_at 326 (by decide +kernel)
  · rw [hy]; exact zFl_at 327 (by decide +kernel)
  · rw [hy]; exact zFl_at 328 (by decide +kernel)
def L_at : List Int32 := [97, 116]
set_option maxRecDepth 100000 in
theorem zl_RX7_193 {s0 : State} {D : va_G} {tys : List (ClassId × FieldType)} {y : MethodName} {cc : ByteArray} {nL : Nat} {ret : Option FieldType} {rF rL mc ms pc : Nat} {lo : List (Nat × Value)} {st : List Value} {hi hm : zHp} {nx : Nat} {Q : Option Value → zHp → zHp → Nat → Prop} (hy : y.cls = "LeapDesigner$Reader") (hd : decode cc pc = .ok (.ldc 193, 2)) (kk : ∀ a, iStr s0 a 2 (fun j => L_at.getD j 0) → zV s0 D tys y cc nL ret rF rL mc ms (pc + 2) lo (.ref a :: st) hi hm nx Q) : zV s0 D tys y cc nL ret rF rL mc ms pc lo st hi hm nx Q := by
  refine zV_ldcS (idx := 193) (tx := "at") 2 L_at (by decide) (by rw [hy]; exact List.mem_of_getElem? (i := 504) (by decide +kernel)) (by rw [hy]; exact zFl_at 329 (by decide +kernel)) (by rw [hy]; exact zFl_at 330 (by decide +kernel)) (by rw [hy]; exact zFl_at 331 (by decide +kernel)) (by rw [hy]; exact zFl_at 332 (by decide +kernel)) (fun j hj => ?_) hd kk
  rcases (show j = 0 ∨ j = 1 by omega) with rfl | rfl
  · rw [hy]; exact zFl_at 333 (by decide +kernel)
  · rw [hy]; exact zFl_at 334 (by decide +kernel)
def L_true : List Int32 := [116, 114, 117, 101]
set_option maxRecDepth 100000 in
theorem zl_RX7_136 {s0 : State} {D : va_G} {tys : List (ClassId × FieldType)} {y : MethodName} {cc : ByteArray} {nL : Nat} {ret : Option FieldType} {rF rL mc ms pc : Nat} {lo : List (Nat × Value)} {st : List Value} {hi hm : zHp} {nx : Nat} {Q : Option Value → zHp → zHp → Nat → Prop} (hy : y.cls = "LeapDesigner$Reader") (hd : decode cc pc = .ok (.ldc 136, 2)) (kk : ∀ a, iStr s0 a 4 (fun j => L_true.getD j 0) → zV s0 D tys y cc nL ret rF rL mc ms (pc + 2) lo (.ref a :: st) hi hm nx Q) : zV s0 D tys y cc nL ret rF rL mc ms pc lo st hi hm nx Q := by
  refine zV_ldcS (idx := 136) (tx := "true") 4 L_true (by decide) (by rw [hy]; exact List.mem_of_getElem? (i := 505) (by decide +kernel)) (by rw [hy]; exact zFl_at 335 (by decide +kernel)) (by rw [hy]; exact zFl_at 336 (by decide +kernel)) (by rw [hy]; exact zFl_at 337 (by decide +kernel)) (by rw [hy]; exact zFl_at 338 (by decide +kernel)) (fun j hj => ?_) hd kk
  rcases (show j = 0 ∨ j = 1 ∨ j = 2 ∨ j = 3 by omega) with rfl | rfl | rfl | rfl
  · rw [hy]; exact zFl_at 339 (by decide +kernel)
  · rw [hy]; exact zFl_at 340 (by decide +kernel)
  · rw [hy]; exact zFl_at 341 (by decide +kernel)
  · rw [hy]; exact zFl_at 342 (by decide +kernel)
def L_and : List Int32 := [97, 110, 100]
set_option maxRecDepth 100000 in
theorem zl_RX7_138 {s0 : State} {D : va_G} {tys : List (ClassId × FieldType)} {y : MethodName} {cc : ByteArray} {nL : Nat} {ret : Option FieldType} {rF rL mc ms pc : Nat} {lo : List (Nat × Value)} {st : List Value} {hi hm : zHp} {nx : Nat} {Q : Option Value → zHp → zHp → Nat → Prop} (hy : y.cls = "LeapDesigner$Reader") (hd : decode cc pc = .ok (.ldc 138, 2)) (kk : ∀ a, iStr s0 a 3 (fun j => L_and.getD j 0) → zV s0 D tys y cc nL ret rF rL mc ms (pc + 2) lo (.ref a :: st) hi hm nx Q) : zV s0 D tys y cc nL ret rF rL mc ms pc lo st hi hm nx Q := by
  refine zV_ldcS (idx := 138) (tx := "and") 3 L_and (by decide) (by rw [hy]; exact List.mem_of_getElem? (i := 506) (by decide +kernel)) (by rw [hy]; exact zFl_at 343 (by decide +kernel)) (by rw [hy]; exact zFl_at 344 (by decide +kernel)) (by rw [hy]; exact zFl_at 345 (by decide +kernel)) (by rw [hy]; exact zFl_at 346 (by decide +kernel)) (fun j hj => ?_) hd kk
  rcases (show j = 0 ∨ j = 1 ∨ j = 2 by omega) with rfl | rfl | rfl
  · rw [hy]; exact zFl_at 347 (by decide +kernel)
  · rw [hy]; exact zFl_at 348 (by decide +kernel)
  · rw [hy]; exact zFl_at 349 (by decide +kernel)
def L_begins : List Int32 := [98, 101, 103, 105, 110, 115]
set_option maxRecDepth 100000 in
theorem zl_RX7_153 {s0 : State} {D : va_G} {tys : List (ClassId × FieldType)} {y : MethodName} {cc : ByteArray} {nL : Nat} {ret : Option FieldType} {rF rL mc ms pc : Nat} {lo : List (Nat × Value)} {st : List Value} {hi hm : zHp} {nx : Nat} {Q : Option Value → zHp → zHp → Nat → Prop} (hy : y.cls = "LeapDesigner$Reader") (hd : decode cc pc = .ok (.ldc 153, 2)) (kk : ∀ a, iStr s0 a 6 (fun j => L_begins.getD j 0) → zV s0 D tys y cc nL ret rF rL mc ms (pc + 2) lo (.ref a :: st) hi hm nx Q) : zV s0 D tys y cc nL ret rF rL mc ms pc lo st hi hm nx Q := by
  refine zV_ldcS (idx := 153) (tx := "begins") 6 L_begins (by decide) (by rw [hy]; exact List.mem_of_getElem? (i := 514) (by decide +kernel)) (by rw [hy]; exact zFl_at 350 (by decide +kernel)) (by rw [hy]; exact zFl_at 351 (by decide +kernel)) (by rw [hy]; exact zFl_at 352 (by decide +kernel)) (by rw [hy]; exact zFl_at 353 (by decide +kernel)) (fun j hj => ?_) hd kk
  rcases (show j = 0 ∨ j = 1 ∨ j = 2 ∨ j = 3 ∨ j = 4 ∨ j = 5 by omega) with rfl | rfl | rfl | rfl | rfl | rfl
  · rw [hy]; exact zFl_at 354 (by decide +kernel)
  · rw [hy]; exact zFl_at 355 (by decide +kernel)
  · rw [hy]; exact zFl_at 356 (by decide +kernel)
  · rw [hy]; exact zFl_at 357 (by decide +kernel)
  · rw [hy]; exact zFl_at 358 (by decide +kernel)
  · rw [hy]; exact zFl_at 359 (by decide +kernel)
def L_year_ : List Int32 := [121, 101, 97, 114, 32]
set_option maxRecDepth 100000 in
theorem zl_RX3_47 {s0 : State} {D : va_G} {tys : List (ClassId × FieldType)} {y : MethodName} {cc : ByteArray} {nL : Nat} {ret : Option FieldType} {rF rL mc ms pc : Nat} {lo : List (Nat × Value)} {st : List Value} {hi hm : zHp} {nx : Nat} {Q : Option Value → zHp → zHp → Nat → Prop} (hy : y.cls = "LeapDesigner$Frame") (hd : decode cc pc = .ok (.ldc 47, 2)) (kk : ∀ a, iStr s0 a 5 (fun j => L_year_.getD j 0) → zV s0 D tys y cc nL ret rF rL mc ms (pc + 2) lo (.ref a :: st) hi hm nx Q) : zV s0 D tys y cc nL ret rF rL mc ms pc lo st hi hm nx Q := by
  refine zV_ldcS (idx := 47) (tx := "year ") 5 L_year_ (by decide) (by rw [hy]; exact List.mem_of_getElem? (i := 830) (by decide +kernel)) (by rw [hy]; exact zFl_at 360 (by decide +kernel)) (by rw [hy]; exact zFl_at 361 (by decide +kernel)) (by rw [hy]; exact zFl_at 362 (by decide +kernel)) (by rw [hy]; exact zFl_at 363 (by decide +kernel)) (fun j hj => ?_) hd kk
  rcases (show j = 0 ∨ j = 1 ∨ j = 2 ∨ j = 3 ∨ j = 4 by omega) with rfl | rfl | rfl | rfl | rfl
  · rw [hy]; exact zFl_at 364 (by decide +kernel)
  · rw [hy]; exact zFl_at 365 (by decide +kernel)
  · rw [hy]; exact zFl_at 366 (by decide +kernel)
  · rw [hy]; exact zFl_at 367 (by decide +kernel)
  · rw [hy]; exact zFl_at 368 (by decide +kernel)
def L_Sextra_ : List Int32 := [59, 101, 120, 116, 114, 97, 32]
set_option maxRecDepth 100000 in
theorem zl_RX3_58 {s0 : State} {D : va_G} {tys : List (ClassId × FieldType)} {y : MethodName} {cc : ByteArray} {nL : Nat} {ret : Option FieldType} {rF rL mc ms pc : Nat} {lo : List (Nat × Value)} {st : List Value} {hi hm : zHp} {nx : Nat} {Q : Option Value → zHp → zHp → Nat → Prop} (hy : y.cls = "LeapDesigner$Frame") (hd : decode cc pc = .ok (.ldc 58, 2)) (kk : ∀ a, iStr s0 a 7 (fun j => L_Sextra_.getD j 0) → zV s0 D tys y cc nL ret rF rL mc ms (pc + 2) lo (.ref a :: st) hi hm nx Q) : zV s0 D tys y cc nL ret rF rL mc ms pc lo st hi hm nx Q := by
  refine zV_ldcS (idx := 58) (tx := ";extra ") 7 L_Sextra_ (by decide) (by rw [hy]; exact List.mem_of_getElem? (i := 917) (by decide +kernel)) (by rw [hy]; exact zFl_at 369 (by decide +kernel)) (by rw [hy]; exact zFl_at 370 (by decide +kernel)) (by rw [hy]; exact zFl_at 371 (by decide +kernel)) (by rw [hy]; exact zFl_at 372 (by decide +kernel)) (fun j hj => ?_) hd kk
  rcases (show j = 0 ∨ j = 1 ∨ j = 2 ∨ j = 3 ∨ j = 4 ∨ j = 5 ∨ j = 6 by omega) with rfl | rfl | rfl | rfl | rfl | rfl | rfl
  · rw [hy]; exact zFl_at 373 (by decide +kernel)
  · rw [hy]; exact zFl_at 374 (by decide +kernel)
  · rw [hy]; exact zFl_at 375 (by decide +kernel)
  · rw [hy]; exact zFl_at 376 (by decide +kernel)
  · rw [hy]; exact zFl_at 377 (by decide +kernel)
  · rw [hy]; exact zFl_at 378 (by decide +kernel)
  · rw [hy]; exact zFl_at 379 (by decide +kernel)
def L_even_ : List Int32 := [101, 118, 101, 110, 32]
set_option maxRecDepth 100000 in
theorem zl_RX1_31 {s0 : State} {D : va_G} {tys : List (ClassId × FieldType)} {y : MethodName} {cc : ByteArray} {nL : Nat} {ret : Option FieldType} {rF rL mc ms pc : Nat} {lo : List (Nat × Value)} {st : List Value} {hi hm : zHp} {nx : Nat} {Q : Option Value → zHp → zHp → Nat → Prop} (hy : y.cls = "LeapDesigner$EvenLaw") (hd : decode cc pc = .ok (.ldc 31, 2)) (kk : ∀ a, iStr s0 a 5 (fun j => L_even_.getD j 0) → zV s0 D tys y cc nL ret rF rL mc ms (pc + 2) lo (.ref a :: st) hi hm nx Q) : zV s0 D tys y cc nL ret rF rL mc ms pc lo st hi hm nx Q := by
  refine zV_ldcS (idx := 31) (tx := "even ") 5 L_even_ (by decide) (by rw [hy]; exact List.mem_of_getElem? (i := 938) (by decide +kernel)) (by rw [hy]; exact zFl_at 380 (by decide +kernel)) (by rw [hy]; exact zFl_at 381 (by decide +kernel)) (by rw [hy]; exact zFl_at 382 (by decide +kernel)) (by rw [hy]; exact zFl_at 383 (by decide +kernel)) (fun j hj => ?_) hd kk
  rcases (show j = 0 ∨ j = 1 ∨ j = 2 ∨ j = 3 ∨ j = 4 by omega) with rfl | rfl | rfl | rfl | rfl
  · rw [hy]; exact zFl_at 384 (by decide +kernel)
  · rw [hy]; exact zFl_at 385 (by decide +kernel)
  · rw [hy]; exact zFl_at 386 (by decide +kernel)
  · rw [hy]; exact zFl_at 387 (by decide +kernel)
  · rw [hy]; exact zFl_at 388 (by decide +kernel)
def L__of_ : List Int32 := [32, 111, 102, 32]
set_option maxRecDepth 100000 in
theorem zl_RX1_42 {s0 : State} {D : va_G} {tys : List (ClassId × FieldType)} {y : MethodName} {cc : ByteArray} {nL : Nat} {ret : Option FieldType} {rF rL mc ms pc : Nat} {lo : List (Nat × Value)} {st : List Value} {hi hm : zHp} {nx : Nat} {Q : Option Value → zHp → zHp → Nat → Prop} (hy : y.cls = "LeapDesigner$EvenLaw") (hd : decode cc pc = .ok (.ldc 42, 2)) (kk : ∀ a, iStr s0 a 4 (fun j => L__of_.getD j 0) → zV s0 D tys y cc nL ret rF rL mc ms (pc + 2) lo (.ref a :: st) hi hm nx Q) : zV s0 D tys y cc nL ret rF rL mc ms pc lo st hi hm nx Q := by
  refine zV_ldcS (idx := 42) (tx := " of ") 4 L__of_ (by decide) (by rw [hy]; exact List.mem_of_getElem? (i := 941) (by decide +kernel)) (by rw [hy]; exact zFl_at 389 (by decide +kernel)) (by rw [hy]; exact zFl_at 390 (by decide +kernel)) (by rw [hy]; exact zFl_at 391 (by decide +kernel)) (by rw [hy]; exact zFl_at 392 (by decide +kernel)) (fun j hj => ?_) hd kk
  rcases (show j = 0 ∨ j = 1 ∨ j = 2 ∨ j = 3 by omega) with rfl | rfl | rfl | rfl
  · rw [hy]; exact zFl_at 393 (by decide +kernel)
  · rw [hy]; exact zFl_at 394 (by decide +kernel)
  · rw [hy]; exact zFl_at 395 (by decide +kernel)
  · rw [hy]; exact zFl_at 396 (by decide +kernel)
def L__shift_ : List Int32 := [32, 115, 104, 105, 102, 116, 32]
set_option maxRecDepth 100000 in
theorem zl_RX1_44 {s0 : State} {D : va_G} {tys : List (ClassId × FieldType)} {y : MethodName} {cc : ByteArray} {nL : Nat} {ret : Option FieldType} {rF rL mc ms pc : Nat} {lo : List (Nat × Value)} {st : List Value} {hi hm : zHp} {nx : Nat} {Q : Option Value → zHp → zHp → Nat → Prop} (hy : y.cls = "LeapDesigner$EvenLaw") (hd : decode cc pc = .ok (.ldc 44, 2)) (kk : ∀ a, iStr s0 a 7 (fun j => L__shift_.getD j 0) → zV s0 D tys y cc nL ret rF rL mc ms (pc + 2) lo (.ref a :: st) hi hm nx Q) : zV s0 D tys y cc nL ret rF rL mc ms pc lo st hi hm nx Q := by
  refine zV_ldcS (idx := 44) (tx := " shift ") 7 L__shift_ (by decide) (by rw [hy]; exact List.mem_of_getElem? (i := 942) (by decide +kernel)) (by rw [hy]; exact zFl_at 397 (by decide +kernel)) (by rw [hy]; exact zFl_at 398 (by decide +kernel)) (by rw [hy]; exact zFl_at 399 (by decide +kernel)) (by rw [hy]; exact zFl_at 400 (by decide +kernel)) (fun j hj => ?_) hd kk
  rcases (show j = 0 ∨ j = 1 ∨ j = 2 ∨ j = 3 ∨ j = 4 ∨ j = 5 ∨ j = 6 by omega) with rfl | rfl | rfl | rfl | rfl | rfl | rfl
  · rw [hy]; exact zFl_at 401 (by decide +kernel)
  · rw [hy]; exact zFl_at 402 (by decide +kernel)
  · rw [hy]; exact zFl_at 403 (by decide +kernel)
  · rw [hy]; exact zFl_at 404 (by decide +kernel)
  · rw [hy]; exact zFl_at 405 (by decide +kernel)
  · rw [hy]; exact zFl_at 406 (by decide +kernel)
  · rw [hy]; exact zFl_at 407 (by decide +kernel)
def L_every_ : List Int32 := [101, 118, 101, 114, 121, 32]
set_option maxRecDepth 100000 in
theorem zl_RX5_19 {s0 : State} {D : va_G} {tys : List (ClassId × FieldType)} {y : MethodName} {cc : ByteArray} {nL : Nat} {ret : Option FieldType} {rF rL mc ms pc : Nat} {lo : List (Nat × Value)} {st : List Value} {hi hm : zHp} {nx : Nat} {Q : Option Value → zHp → zHp → Nat → Prop} (hy : y.cls = "LeapDesigner$LadderLaw") (hd : decode cc pc = .ok (.ldc 19, 2)) (kk : ∀ a, iStr s0 a 6 (fun j => L_every_.getD j 0) → zV s0 D tys y cc nL ret rF rL mc ms (pc + 2) lo (.ref a :: st) hi hm nx Q) : zV s0 D tys y cc nL ret rF rL mc ms pc lo st hi hm nx Q := by
  refine zV_ldcS (idx := 19) (tx := "every ") 6 L_every_ (by decide) (by rw [hy]; exact List.mem_of_getElem? (i := 947) (by decide +kernel)) (by rw [hy]; exact zFl_at 408 (by decide +kernel)) (by rw [hy]; exact zFl_at 409 (by decide +kernel)) (by rw [hy]; exact zFl_at 410 (by decide +kernel)) (by rw [hy]; exact zFl_at 411 (by decide +kernel)) (fun j hj => ?_) hd kk
  rcases (show j = 0 ∨ j = 1 ∨ j = 2 ∨ j = 3 ∨ j = 4 ∨ j = 5 by omega) with rfl | rfl | rfl | rfl | rfl | rfl
  · rw [hy]; exact zFl_at 412 (by decide +kernel)
  · rw [hy]; exact zFl_at 413 (by decide +kernel)
  · rw [hy]; exact zFl_at 414 (by decide +kernel)
  · rw [hy]; exact zFl_at 415 (by decide +kernel)
  · rw [hy]; exact zFl_at 416 (by decide +kernel)
  · rw [hy]; exact zFl_at 417 (by decide +kernel)
def L__not_ : List Int32 := [32, 110, 111, 116, 32]
set_option maxRecDepth 100000 in
theorem zl_RX5_27 {s0 : State} {D : va_G} {tys : List (ClassId × FieldType)} {y : MethodName} {cc : ByteArray} {nL : Nat} {ret : Option FieldType} {rF rL mc ms pc : Nat} {lo : List (Nat × Value)} {st : List Value} {hi hm : zHp} {nx : Nat} {Q : Option Value → zHp → zHp → Nat → Prop} (hy : y.cls = "LeapDesigner$LadderLaw") (hd : decode cc pc = .ok (.ldc 27, 2)) (kk : ∀ a, iStr s0 a 5 (fun j => L__not_.getD j 0) → zV s0 D tys y cc nL ret rF rL mc ms (pc + 2) lo (.ref a :: st) hi hm nx Q) : zV s0 D tys y cc nL ret rF rL mc ms pc lo st hi hm nx Q := by
  refine zV_ldcS (idx := 27) (tx := " not ") 5 L__not_ (by decide) (by rw [hy]; exact List.mem_of_getElem? (i := 949) (by decide +kernel)) (by rw [hy]; exact zFl_at 418 (by decide +kernel)) (by rw [hy]; exact zFl_at 419 (by decide +kernel)) (by rw [hy]; exact zFl_at 420 (by decide +kernel)) (by rw [hy]; exact zFl_at 421 (by decide +kernel)) (fun j hj => ?_) hd kk
  rcases (show j = 0 ∨ j = 1 ∨ j = 2 ∨ j = 3 ∨ j = 4 by omega) with rfl | rfl | rfl | rfl | rfl
  · rw [hy]; exact zFl_at 422 (by decide +kernel)
  · rw [hy]; exact zFl_at 423 (by decide +kernel)
  · rw [hy]; exact zFl_at 424 (by decide +kernel)
  · rw [hy]; exact zFl_at 425 (by decide +kernel)
  · rw [hy]; exact zFl_at 426 (by decide +kernel)
def L__but_ : List Int32 := [32, 98, 117, 116, 32]
set_option maxRecDepth 100000 in
theorem zl_RX5_29 {s0 : State} {D : va_G} {tys : List (ClassId × FieldType)} {y : MethodName} {cc : ByteArray} {nL : Nat} {ret : Option FieldType} {rF rL mc ms pc : Nat} {lo : List (Nat × Value)} {st : List Value} {hi hm : zHp} {nx : Nat} {Q : Option Value → zHp → zHp → Nat → Prop} (hy : y.cls = "LeapDesigner$LadderLaw") (hd : decode cc pc = .ok (.ldc 29, 2)) (kk : ∀ a, iStr s0 a 5 (fun j => L__but_.getD j 0) → zV s0 D tys y cc nL ret rF rL mc ms (pc + 2) lo (.ref a :: st) hi hm nx Q) : zV s0 D tys y cc nL ret rF rL mc ms pc lo st hi hm nx Q := by
  refine zV_ldcS (idx := 29) (tx := " but ") 5 L__but_ (by decide) (by rw [hy]; exact List.mem_of_getElem? (i := 950) (by decide +kernel)) (by rw [hy]; exact zFl_at 427 (by decide +kernel)) (by rw [hy]; exact zFl_at 428 (by decide +kernel)) (by rw [hy]; exact zFl_at 429 (by decide +kernel)) (by rw [hy]; exact zFl_at 430 (by decide +kernel)) (fun j hj => ?_) hd kk
  rcases (show j = 0 ∨ j = 1 ∨ j = 2 ∨ j = 3 ∨ j = 4 by omega) with rfl | rfl | rfl | rfl | rfl
  · rw [hy]; exact zFl_at 431 (by decide +kernel)
  · rw [hy]; exact zFl_at 432 (by decide +kernel)
  · rw [hy]; exact zFl_at 433 (by decide +kernel)
  · rw [hy]; exact zFl_at 434 (by decide +kernel)
  · rw [hy]; exact zFl_at 435 (by decide +kernel)
def L_row_ : List Int32 := [114, 111, 119, 32]
set_option maxRecDepth 100000 in
theorem zl_RX8_26 {s0 : State} {D : va_G} {tys : List (ClassId × FieldType)} {y : MethodName} {cc : ByteArray} {nL : Nat} {ret : Option FieldType} {rF rL mc ms pc : Nat} {lo : List (Nat × Value)} {st : List Value} {hi hm : zHp} {nx : Nat} {Q : Option Value → zHp → zHp → Nat → Prop} (hy : y.cls = "LeapDesigner$RowLaw") (hd : decode cc pc = .ok (.ldc 26, 2)) (kk : ∀ a, iStr s0 a 4 (fun j => L_row_.getD j 0) → zV s0 D tys y cc nL ret rF rL mc ms (pc + 2) lo (.ref a :: st) hi hm nx Q) : zV s0 D tys y cc nL ret rF rL mc ms pc lo st hi hm nx Q := by
  refine zV_ldcS (idx := 26) (tx := "row ") 4 L_row_ (by decide) (by rw [hy]; exact List.mem_of_getElem? (i := 956) (by decide +kernel)) (by rw [hy]; exact zFl_at 436 (by decide +kernel)) (by rw [hy]; exact zFl_at 437 (by decide +kernel)) (by rw [hy]; exact zFl_at 438 (by decide +kernel)) (by rw [hy]; exact zFl_at 439 (by decide +kernel)) (fun j hj => ?_) hd kk
  rcases (show j = 0 ∨ j = 1 ∨ j = 2 ∨ j = 3 by omega) with rfl | rfl | rfl | rfl
  · rw [hy]; exact zFl_at 440 (by decide +kernel)
  · rw [hy]; exact zFl_at 441 (by decide +kernel)
  · rw [hy]; exact zFl_at 442 (by decide +kernel)
  · rw [hy]; exact zFl_at 443 (by decide +kernel)
set_option maxRecDepth 100000 in
theorem zl_RX3_63 {s0 : State} {D : va_G} {tys : List (ClassId × FieldType)} {y : MethodName} {cc : ByteArray} {nL : Nat} {ret : Option FieldType} {rF rL mc ms pc : Nat} {lo : List (Nat × Value)} {st : List Value} {hi hm : zHp} {nx : Nat} {Q : Option Value → zHp → zHp → Nat → Prop} (hy : y.cls = "LeapDesigner$Frame") (hd : decode cc pc = .ok (.ldc 63, 2)) (kk : ∀ a, iStr s0 a 6 (fun j => L_months.getD j 0) → zV s0 D tys y cc nL ret rF rL mc ms (pc + 2) lo (.ref a :: st) hi hm nx Q) : zV s0 D tys y cc nL ret rF rL mc ms pc lo st hi hm nx Q := by
  refine zV_ldcS (idx := 63) (tx := "months") 6 L_months (by decide) (by rw [hy]; exact List.mem_of_getElem? (i := 969) (by decide +kernel)) (by rw [hy]; exact zFl_at 444 (by decide +kernel)) (by rw [hy]; exact zFl_at 445 (by decide +kernel)) (by rw [hy]; exact zFl_at 446 (by decide +kernel)) (by rw [hy]; exact zFl_at 447 (by decide +kernel)) (fun j hj => ?_) hd kk
  rcases (show j = 0 ∨ j = 1 ∨ j = 2 ∨ j = 3 ∨ j = 4 ∨ j = 5 by omega) with rfl | rfl | rfl | rfl | rfl | rfl
  · rw [hy]; exact zFl_at 448 (by decide +kernel)
  · rw [hy]; exact zFl_at 449 (by decide +kernel)
  · rw [hy]; exact zFl_at 450 (by decide +kernel)
  · rw [hy]; exact zFl_at 451 (by decide +kernel)
  · rw [hy]; exact zFl_at 452 (by decide +kernel)
  · rw [hy]; exact zFl_at 453 (by decide +kernel)
def L__leap_ : List Int32 := [32, 108, 101, 97, 112, 32]
set_option maxRecDepth 100000 in
theorem zl_RX3_64 {s0 : State} {D : va_G} {tys : List (ClassId × FieldType)} {y : MethodName} {cc : ByteArray} {nL : Nat} {ret : Option FieldType} {rF rL mc ms pc : Nat} {lo : List (Nat × Value)} {st : List Value} {hi hm : zHp} {nx : Nat} {Q : Option Value → zHp → zHp → Nat → Prop} (hy : y.cls = "LeapDesigner$Frame") (hd : decode cc pc = .ok (.ldc 64, 2)) (kk : ∀ a, iStr s0 a 6 (fun j => L__leap_.getD j 0) → zV s0 D tys y cc nL ret rF rL mc ms (pc + 2) lo (.ref a :: st) hi hm nx Q) : zV s0 D tys y cc nL ret rF rL mc ms pc lo st hi hm nx Q := by
  refine zV_ldcS (idx := 64) (tx := " leap ") 6 L__leap_ (by decide) (by rw [hy]; exact List.mem_of_getElem? (i := 970) (by decide +kernel)) (by rw [hy]; exact zFl_at 455 (by decide +kernel)) (by rw [hy]; exact zFl_at 456 (by decide +kernel)) (by rw [hy]; exact zFl_at 457 (by decide +kernel)) (by rw [hy]; exact zFl_at 458 (by decide +kernel)) (fun j hj => ?_) hd kk
  rcases (show j = 0 ∨ j = 1 ∨ j = 2 ∨ j = 3 ∨ j = 4 ∨ j = 5 by omega) with rfl | rfl | rfl | rfl | rfl | rfl
  · rw [hy]; exact zFl_at 459 (by decide +kernel)
  · rw [hy]; exact zFl_at 460 (by decide +kernel)
  · rw [hy]; exact zFl_at 461 (by decide +kernel)
  · rw [hy]; exact zFl_at 462 (by decide +kernel)
  · rw [hy]; exact zFl_at 463 (by decide +kernel)
  · rw [hy]; exact zFl_at 464 (by decide +kernel)
def L_Sweek_ : List Int32 := [59, 119, 101, 101, 107, 32]
set_option maxRecDepth 100000 in
theorem zl_RX3_66 {s0 : State} {D : va_G} {tys : List (ClassId × FieldType)} {y : MethodName} {cc : ByteArray} {nL : Nat} {ret : Option FieldType} {rF rL mc ms pc : Nat} {lo : List (Nat × Value)} {st : List Value} {hi hm : zHp} {nx : Nat} {Q : Option Value → zHp → zHp → Nat → Prop} (hy : y.cls = "LeapDesigner$Frame") (hd : decode cc pc = .ok (.ldc 66, 2)) (kk : ∀ a, iStr s0 a 6 (fun j => L_Sweek_.getD j 0) → zV s0 D tys y cc nL ret rF rL mc ms (pc + 2) lo (.ref a :: st) hi hm nx Q) : zV s0 D tys y cc nL ret rF rL mc ms pc lo st hi hm nx Q := by
  refine zV_ldcS (idx := 66) (tx := ";week ") 6 L_Sweek_ (by decide) (by rw [hy]; exact List.mem_of_getElem? (i := 971) (by decide +kernel)) (by rw [hy]; exact zFl_at 465 (by decide +kernel)) (by rw [hy]; exact zFl_at 466 (by decide +kernel)) (by rw [hy]; exact zFl_at 467 (by decide +kernel)) (by rw [hy]; exact zFl_at 468 (by decide +kernel)) (fun j hj => ?_) hd kk
  rcases (show j = 0 ∨ j = 1 ∨ j = 2 ∨ j = 3 ∨ j = 4 ∨ j = 5 by omega) with rfl | rfl | rfl | rfl | rfl | rfl
  · rw [hy]; exact zFl_at 469 (by decide +kernel)
  · rw [hy]; exact zFl_at 470 (by decide +kernel)
  · rw [hy]; exact zFl_at 471 (by decide +kernel)
  · rw [hy]; exact zFl_at 472 (by decide +kernel)
  · rw [hy]; exact zFl_at 473 (by decide +kernel)
  · rw [hy]; exact zFl_at 474 (by decide +kernel)
def L__at_ : List Int32 := [32, 97, 116, 32]
set_option maxRecDepth 100000 in
theorem zl_RX3_68 {s0 : State} {D : va_G} {tys : List (ClassId × FieldType)} {y : MethodName} {cc : ByteArray} {nL : Nat} {ret : Option FieldType} {rF rL mc ms pc : Nat} {lo : List (Nat × Value)} {st : List Value} {hi hm : zHp} {nx : Nat} {Q : Option Value → zHp → zHp → Nat → Prop} (hy : y.cls = "LeapDesigner$Frame") (hd : decode cc pc = .ok (.ldc 68, 2)) (kk : ∀ a, iStr s0 a 4 (fun j => L__at_.getD j 0) → zV s0 D tys y cc nL ret rF rL mc ms (pc + 2) lo (.ref a :: st) hi hm nx Q) : zV s0 D tys y cc nL ret rF rL mc ms pc lo st hi hm nx Q := by
  refine zV_ldcS (idx := 68) (tx := " at ") 4 L__at_ (by decide) (by rw [hy]; exact List.mem_of_getElem? (i := 972) (by decide +kernel)) (by rw [hy]; exact zFl_at 475 (by decide +kernel)) (by rw [hy]; exact zFl_at 476 (by decide +kernel)) (by rw [hy]; exact zFl_at 477 (by decide +kernel)) (by rw [hy]; exact zFl_at 478 (by decide +kernel)) (fun j hj => ?_) hd kk
  rcases (show j = 0 ∨ j = 1 ∨ j = 2 ∨ j = 3 by omega) with rfl | rfl | rfl | rfl
  · rw [hy]; exact zFl_at 479 (by decide +kernel)
  · rw [hy]; exact zFl_at 480 (by decide +kernel)
  · rw [hy]; exact zFl_at 481 (by decide +kernel)
  · rw [hy]; exact zFl_at 482 (by decide +kernel)
def L_true_ : List Int32 := [116, 114, 117, 101, 32]
set_option maxRecDepth 100000 in
theorem zl_RX10_40 {s0 : State} {D : va_G} {tys : List (ClassId × FieldType)} {y : MethodName} {cc : ByteArray} {nL : Nat} {ret : Option FieldType} {rF rL mc ms pc : Nat} {lo : List (Nat × Value)} {st : List Value} {hi hm : zHp} {nx : Nat} {Q : Option Value → zHp → zHp → Nat → Prop} (hy : y.cls = "LeapDesigner$TrueYear") (hd : decode cc pc = .ok (.ldc 40, 2)) (kk : ∀ a, iStr s0 a 5 (fun j => L_true_.getD j 0) → zV s0 D tys y cc nL ret rF rL mc ms (pc + 2) lo (.ref a :: st) hi hm nx Q) : zV s0 D tys y cc nL ret rF rL mc ms pc lo st hi hm nx Q := by
  refine zV_ldcS (idx := 40) (tx := "true ") 5 L_true_ (by decide) (by rw [hy]; exact List.mem_of_getElem? (i := 977) (by decide +kernel)) (by rw [hy]; exact zFl_at 483 (by decide +kernel)) (by rw [hy]; exact zFl_at 484 (by decide +kernel)) (by rw [hy]; exact zFl_at 485 (by decide +kernel)) (by rw [hy]; exact zFl_at 486 (by decide +kernel)) (fun j hj => ?_) hd kk
  rcases (show j = 0 ∨ j = 1 ∨ j = 2 ∨ j = 3 ∨ j = 4 by omega) with rfl | rfl | rfl | rfl | rfl
  · rw [hy]; exact zFl_at 487 (by decide +kernel)
  · rw [hy]; exact zFl_at 488 (by decide +kernel)
  · rw [hy]; exact zFl_at 489 (by decide +kernel)
  · rw [hy]; exact zFl_at 490 (by decide +kernel)
  · rw [hy]; exact zFl_at 491 (by decide +kernel)
def L__and_ : List Int32 := [32, 97, 110, 100, 32]
set_option maxRecDepth 100000 in
theorem zl_RX10_51 {s0 : State} {D : va_G} {tys : List (ClassId × FieldType)} {y : MethodName} {cc : ByteArray} {nL : Nat} {ret : Option FieldType} {rF rL mc ms pc : Nat} {lo : List (Nat × Value)} {st : List Value} {hi hm : zHp} {nx : Nat} {Q : Option Value → zHp → zHp → Nat → Prop} (hy : y.cls = "LeapDesigner$TrueYear") (hd : decode cc pc = .ok (.ldc 51, 2)) (kk : ∀ a, iStr s0 a 5 (fun j => L__and_.getD j 0) → zV s0 D tys y cc nL ret rF rL mc ms (pc + 2) lo (.ref a :: st) hi hm nx Q) : zV s0 D tys y cc nL ret rF rL mc ms pc lo st hi hm nx Q := by
  refine zV_ldcS (idx := 51) (tx := " and ") 5 L__and_ (by decide) (by rw [hy]; exact List.mem_of_getElem? (i := 980) (by decide +kernel)) (by rw [hy]; exact zFl_at 492 (by decide +kernel)) (by rw [hy]; exact zFl_at 493 (by decide +kernel)) (by rw [hy]; exact zFl_at 494 (by decide +kernel)) (by rw [hy]; exact zFl_at 495 (by decide +kernel)) (fun j hj => ?_) hd kk
  rcases (show j = 0 ∨ j = 1 ∨ j = 2 ∨ j = 3 ∨ j = 4 by omega) with rfl | rfl | rfl | rfl | rfl
  · rw [hy]; exact zFl_at 496 (by decide +kernel)
  · rw [hy]; exact zFl_at 497 (by decide +kernel)
  · rw [hy]; exact zFl_at 498 (by decide +kernel)
  · rw [hy]; exact zFl_at 499 (by decide +kernel)
  · rw [hy]; exact zFl_at 500 (by decide +kernel)
set_option maxRecDepth 100000 in
theorem zl_RX10_53 {s0 : State} {D : va_G} {tys : List (ClassId × FieldType)} {y : MethodName} {cc : ByteArray} {nL : Nat} {ret : Option FieldType} {rF rL mc ms pc : Nat} {lo : List (Nat × Value)} {st : List Value} {hi hm : zHp} {nx : Nat} {Q : Option Value → zHp → zHp → Nat → Prop} (hy : y.cls = "LeapDesigner$TrueYear") (hd : decode cc pc = .ok (.ldc 53, 2)) (kk : ∀ a, iStr s0 a 4 (fun j => L__of_.getD j 0) → zV s0 D tys y cc nL ret rF rL mc ms (pc + 2) lo (.ref a :: st) hi hm nx Q) : zV s0 D tys y cc nL ret rF rL mc ms pc lo st hi hm nx Q := by
  refine zV_ldcS (idx := 53) (tx := " of ") 4 L__of_ (by decide) (by rw [hy]; exact List.mem_of_getElem? (i := 981) (by decide +kernel)) (by rw [hy]; exact zFl_at 501 (by decide +kernel)) (by rw [hy]; exact zFl_at 502 (by decide +kernel)) (by rw [hy]; exact zFl_at 503 (by decide +kernel)) (by rw [hy]; exact zFl_at 504 (by decide +kernel)) (fun j hj => ?_) hd kk
  rcases (show j = 0 ∨ j = 1 ∨ j = 2 ∨ j = 3 by omega) with rfl | rfl | rfl | rfl
  · rw [hy]; exact zFl_at 505 (by decide +kernel)
  · rw [hy]; exact zFl_at 506 (by decide +kernel)
  · rw [hy]; exact zFl_at 507 (by decide +kernel)
  · rw [hy]; exact zFl_at 508 (by decide +kernel)
def L_Sbegins_ : List Int32 := [59, 98, 101, 103, 105, 110, 115, 32]
set_option maxRecDepth 100000 in
theorem zl_RX10_55 {s0 : State} {D : va_G} {tys : List (ClassId × FieldType)} {y : MethodName} {cc : ByteArray} {nL : Nat} {ret : Option FieldType} {rF rL mc ms pc : Nat} {lo : List (Nat × Value)} {st : List Value} {hi hm : zHp} {nx : Nat} {Q : Option Value → zHp → zHp → Nat → Prop} (hy : y.cls = "LeapDesigner$TrueYear") (hd : decode cc pc = .ok (.ldc 55, 2)) (kk : ∀ a, iStr s0 a 8 (fun j => L_Sbegins_.getD j 0) → zV s0 D tys y cc nL ret rF rL mc ms (pc + 2) lo (.ref a :: st) hi hm nx Q) : zV s0 D tys y cc nL ret rF rL mc ms pc lo st hi hm nx Q := by
  refine zV_ldcS (idx := 55) (tx := ";begins ") 8 L_Sbegins_ (by decide) (by rw [hy]; exact List.mem_of_getElem? (i := 982) (by decide +kernel)) (by rw [hy]; exact zFl_at 510 (by decide +kernel)) (by rw [hy]; exact zFl_at 511 (by decide +kernel)) (by rw [hy]; exact zFl_at 512 (by decide +kernel)) (by rw [hy]; exact zFl_at 513 (by decide +kernel)) (fun j hj => ?_) hd kk
  rcases (show j = 0 ∨ j = 1 ∨ j = 2 ∨ j = 3 ∨ j = 4 ∨ j = 5 ∨ j = 6 ∨ j = 7 by omega) with rfl | rfl | rfl | rfl | rfl | rfl | rfl | rfl
  · rw [hy]; exact zFl_at 514 (by decide +kernel)
  · rw [hy]; exact zFl_at 515 (by decide +kernel)
  · rw [hy]; exact zFl_at 516 (by decide +kernel)
  · rw [hy]; exact zFl_at 517 (by decide +kernel)
  · rw [hy]; exact zFl_at 518 (by decide +kernel)
  · rw [hy]; exact zFl_at 519 (by decide +kernel)
  · rw [hy]; exact zFl_at 520 (by decide +kernel)
  · rw [hy]; exact zFl_at 521 (by decide +kernel)
