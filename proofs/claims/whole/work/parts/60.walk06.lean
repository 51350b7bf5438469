set_option maxRecDepth 100000 in
set_option maxHeartbeats 4000000 in
theorem p_X8_work_b285 {Γ : GA} {E : EV} (C : Cx Γ E RX8 cX8_work 14 3 (some .int)) (M : Mx Γ E) (x5 : Int32) (x6 : Int32) (S : St) : G Γ E (QI Γ E) 14 285 [(5, .int x5), (6, .int x6)] [] S (f_X8_work_b285 x5 x6 S) := by
  rw [f_X8_work_b285]
  refine g_iload (pc := 285) C dX8_work_285 0 rfl ?_
  refine g_iconst (pc := 287) C (v := (-1)) dX8_work_287 (by decide) ?_
  refine g_icmp_ne (pc := 288) C 295 dX8_work_288 (by decide) ?_ ?_
  · refine g_iconst (pc := 291) C (v := (-1)) dX8_work_291 (by decide) ?_
    refine g_goto (pc := 292) C 297 dX8_work_292 (by decide) ?_
    exact g_iret C M dX8_work_297
  · refine g_iload (pc := 295) C dX8_work_295 1 rfl ?_
    exact g_iret C M dX8_work_297
set_option maxRecDepth 100000 in
set_option maxHeartbeats 4000000 in
theorem p_X8_work_l319 {Γ : GA} {E : EV} (C : Cx Γ E RX8 cX8_work 14 3 (some .int)) (M : Mx Γ E) : ∀ (n : Nat) (x4 : Int32) (x5 : Int32) (x8 : Int32) (S : St), G Γ E (QI Γ E) 14 319 [(4, .int x4), (5, .int x5), (8, .int x8)] [] S (f_X8_work_l319 n x4 x5 x8 S) := by
  intro n
  induction n with
  | zero => intro x4 x5 x8 S; exact g_none
  | succ n ih =>
    intro x4 x5 x8 S
    rw [f_X8_work_l319]
    refine g_iload (pc := 319) C dX8_work_319 2 rfl ?_
    refine g_iload (pc := 321) C dX8_work_321 0 rfl ?_
    refine g_icmp_le (pc := 323) C 339 dX8_work_323 (by decide) ?_ ?_
    · refine g_iload (pc := 339) C dX8_work_339 1 rfl ?_
      refine g_bipush (pc := 341) C (v := 7) dX8_work_341 (by decide) ?_
      refine g_irem (pc := 343) C dX8_work_343 ?_
      exact g_iret C M dX8_work_344
    · refine g_iload (pc := 326) C dX8_work_326 1 rfl ?_
      refine g_bipush (pc := 328) C (v := 7) dX8_work_328 (by decide) ?_
      refine g_idiv (pc := 330) C dX8_work_330 ?_
      refine g_istore (pc := 331) C dX8_work_331 (by decide) (fun x => [(5, .int x), (4, .int x4), (8, .int x8)]) (fun _ => rfl) (fun x5_12 => ?_)
      refine g_iinc (pc := 333) C (v := (-1)) dX8_work_333 2 rfl (by decide) (by decide) (fun x => [(8, .int x), (5, .int x5_12), (4, .int x4)]) (fun _ => rfl) (fun x8_13 => ?_)
      refine g_goto (pc := 336) C 319 dX8_work_336 (by decide) ?_
      exact g_sub [2, 1, 0] rfl (ih x4 x5_12 x8_13 S)
set_option maxRecDepth 100000 in
set_option maxHeartbeats 4000000 in
theorem p_X8_work_b268 {Γ : GA} {E : EV} (C : Cx Γ E RX8 cX8_work 14 3 (some .int)) (M : Mx Γ E) (k95 : Int32 → Int32 → Int32 → Int32 → Int32 → Int32 → Int32 → Int32 → St → Option (Int32 × St)) (hk95 : ∀ (x1 : Int32) (x2 : Int32) (x3 : Int32) (x4 : Int32) (x5 : Int32) (x6 : Int32) (x7 : Int32) (x8 : Int32) (S : St), G Γ E (QI Γ E) 14 95 [(0, .ref (gX Γ 55)), (1, .int x1), (2, .int x2), (3, .int x3), (4, .int x4), (5, .int x5), (6, .int x6), (7, .int x7), (8, .int x8)] [] S (k95 x1 x2 x3 x4 x5 x6 x7 x8 S)) (x1 : Int32) (x2 : Int32) (x3 : Int32) (x4 : Int32) (x5 : Int32) (x6 : Int32) (x7 : Int32) (x8 : Int32) (S : St) : G Γ E (QI Γ E) 14 268 [(0, .ref (gX Γ 55)), (1, .int x1), (2, .int x2), (3, .int x3), (4, .int x4), (5, .int x5), (6, .int x6), (7, .int x7), (8, .int x8)] [] S (f_X8_work_b268 k95 x1 x2 x3 x4 x5 x6 x7 x8 S) := by
  rw [f_X8_work_b268]
  refine g_iinc (pc := 268) C (v := 1) dX8_work_268 8 rfl (by decide) (by decide) (fun x => [(8, .int x), (0, .ref (gX Γ 55)), (1, .int x1), (2, .int x2), (3, .int x3), (4, .int x4), (5, .int x5), (6, .int x6), (7, .int x7)]) (fun _ => rfl) (fun x8_17 => ?_)
  refine g_goto (pc := 271) C 95 dX8_work_271 (by decide) ?_
  exact g_sub [1, 2, 3, 4, 5, 6, 7, 8, 0] rfl (hk95 x1 x2 x3 x4 x5 x6 x7 x8_17 S)
set_option maxRecDepth 100000 in
set_option maxHeartbeats 4000000 in
theorem p_X8_work_b266 {Γ : GA} {E : EV} (C : Cx Γ E RX8 cX8_work 14 3 (some .int)) (M : Mx Γ E) (k95 : Int32 → Int32 → Int32 → Int32 → Int32 → Int32 → Int32 → Int32 → St → Option (Int32 × St)) (hk95 : ∀ (x1 : Int32) (x2 : Int32) (x3 : Int32) (x4 : Int32) (x5 : Int32) (x6 : Int32) (x7 : Int32) (x8 : Int32) (S : St), G Γ E (QI Γ E) 14 95 [(0, .ref (gX Γ 55)), (1, .int x1), (2, .int x2), (3, .int x3), (4, .int x4), (5, .int x5), (6, .int x6), (7, .int x7), (8, .int x8)] [] S (k95 x1 x2 x3 x4 x5 x6 x7 x8 S)) (x1 : Int32) (x2 : Int32) (x3 : Int32) (x4 : Int32) (x5 : Int32) (x7 : Int32) (x8 : Int32) (s0 : Int32) (S : St) : G Γ E (QI Γ E) 14 266 [(0, .ref (gX Γ 55)), (1, .int x1), (2, .int x2), (3, .int x3), (4, .int x4), (5, .int x5), (7, .int x7), (8, .int x8)] [.int s0] S (f_X8_work_b266 k95 x1 x2 x3 x4 x5 x7 x8 s0 S) := by
  rw [f_X8_work_b266]
  refine g_istore0 (pc := 266) C dX8_work_266 (by decide) (lv' := [(6, .int s0), (0, .ref (gX Γ 55)), (1, .int x1), (2, .int x2), (3, .int x3), (4, .int x4), (5, .int x5), (7, .int x7), (8, .int x8)]) rfl ?_
  exact g_sub [1, 2, 3, 4, 5, 6, 0, 7, 8] rfl (p_X8_work_b268 C M k95 hk95 x1 x2 x3 x4 x5 s0 x7 x8 S)
set_option maxRecDepth 100000 in
set_option maxHeartbeats 4000000 in
theorem p_X8_work_b250 {Γ : GA} {E : EV} (C : Cx Γ E RX8 cX8_work 14 3 (some .int)) (M : Mx Γ E) (k95 : Int32 → Int32 → Int32 → Int32 → Int32 → Int32 → Int32 → Int32 → St → Option (Int32 × St)) (hk95 : ∀ (x1 : Int32) (x2 : Int32) (x3 : Int32) (x4 : Int32) (x5 : Int32) (x6 : Int32) (x7 : Int32) (x8 : Int32) (S : St), G Γ E (QI Γ E) 14 95 [(0, .ref (gX Γ 55)), (1, .int x1), (2, .int x2), (3, .int x3), (4, .int x4), (5, .int x5), (6, .int x6), (7, .int x7), (8, .int x8)] [] S (k95 x1 x2 x3 x4 x5 x6 x7 x8 S)) (x1 : Int32) (x2 : Int32) (x3 : Int32) (x4 : Int32) (x6 : Int32) (x7 : Int32) (x8 : Int32) (x12 : Int32) (s0 : Int32) (S : St) : G Γ E (QI Γ E) 14 250 [(0, .ref (gX Γ 55)), (1, .int x1), (2, .int x2), (3, .int x3), (4, .int x4), (6, .int x6), (7, .int x7), (8, .int x8), (12, .int x12)] [.int s0] S (f_X8_work_b250 k95 x1 x2 x3 x4 x6 x7 x8 x12 s0 S) := by
  rw [f_X8_work_b250]
  refine g_istore0 (pc := 250) C dX8_work_250 (by decide) (lv' := [(5, .int s0), (0, .ref (gX Γ 55)), (1, .int x1), (2, .int x2), (3, .int x3), (4, .int x4), (6, .int x6), (7, .int x7), (8, .int x8), (12, .int x12)]) rfl ?_
  refine g_iload (pc := 252) C dX8_work_252 9 rfl ?_
  refine g_if_eq (pc := 254) C 264 dX8_work_254 (by decide) ?_ ?_
  · refine g_iload (pc := 264) C dX8_work_264 6 rfl ?_
    exact g_sub [1, 2, 3, 4, 5, 0, 7, 8] rfl (p_X8_work_b266 C M k95 hk95 x1 x2 x3 x4 s0 x7 x8 x6 S)
  · refine g_aload_n (pc := 257) C dX8_work_257 1 rfl rfl ?_
    refine g_getI (pc := 258) C lk_X8_162 fi_55_24 dX8_work_258 ?_
    refine g_goto (pc := 261) C 266 dX8_work_261 (by decide) ?_
    exact g_sub [1, 2, 3, 4, 5, 0, 7, 8] rfl (p_X8_work_b266 C M k95 hk95 x1 x2 x3 x4 s0 x7 x8 (S 55 24) S)
set_option maxRecDepth 100000 in
set_option maxHeartbeats 4000000 in
theorem p_X8_work_b236 {Γ : GA} {E : EV} (C : Cx Γ E RX8 cX8_work 14 3 (some .int)) (M : Mx Γ E) (k95 : Int32 → Int32 → Int32 → Int32 → Int32 → Int32 → Int32 → Int32 → St → Option (Int32 × St)) (hk95 : ∀ (x1 : Int32) (x2 : Int32) (x3 : Int32) (x4 : Int32) (x5 : Int32) (x6 : Int32) (x7 : Int32) (x8 : Int32) (S : St), G Γ E (QI Γ E) 14 95 [(0, .ref (gX Γ 55)), (1, .int x1), (2, .int x2), (3, .int x3), (4, .int x4), (5, .int x5), (6, .int x6), (7, .int x7), (8, .int x8)] [] S (k95 x1 x2 x3 x4 x5 x6 x7 x8 S)) (x1 : Int32) (x2 : Int32) (x3 : Int32) (x4 : Int32) (x5 : Int32) (x6 : Int32) (x7 : Int32) (x8 : Int32) (s0 : Int32) (S : St) : G Γ E (QI Γ E) 14 236 [(0, .ref (gX Γ 55)), (1, .int x1), (2, .int x2), (3, .int x3), (4, .int x4), (5, .int x5), (6, .int x6), (7, .int x7), (8, .int x8)] [.int s0] S (f_X8_work_b236 k95 x1 x2 x3 x4 x5 x6 x7 x8 s0 S) := by
  rw [f_X8_work_b236]
  refine g_istore0 (pc := 236) C dX8_work_236 (by decide) (lv' := [(12, .int s0), (0, .ref (gX Γ 55)), (1, .int x1), (2, .int x2), (3, .int x3), (4, .int x4), (5, .int x5), (6, .int x6), (7, .int x7), (8, .int x8)]) rfl ?_
  refine g_iload (pc := 238) C dX8_work_238 0 rfl ?_
  refine g_if_eq (pc := 240) C 248 dX8_work_240 (by decide) ?_ ?_
  · refine g_iload (pc := 248) C dX8_work_248 6 rfl ?_
    exact g_sub [1, 2, 3, 4, 5, 7, 8, 9, 0] rfl (p_X8_work_b250 C M k95 hk95 x1 x2 x3 x4 x6 x7 x8 s0 x5 S)
  · refine g_iload (pc := 243) C dX8_work_243 9 rfl ?_
    refine g_goto (pc := 245) C 250 dX8_work_245 (by decide) ?_
    exact g_sub [1, 2, 3, 4, 5, 7, 8, 9, 0] rfl (p_X8_work_b250 C M k95 hk95 x1 x2 x3 x4 x6 x7 x8 s0 x8 S)
set_option maxRecDepth 100000 in
set_option maxHeartbeats 4000000 in
theorem p_X8_work_b231 {Γ : GA} {E : EV} (C : Cx Γ E RX8 cX8_work 14 3 (some .int)) (M : Mx Γ E) (k95 : Int32 → Int32 → Int32 → Int32 → Int32 → Int32 → Int32 → Int32 → St → Option (Int32 × St)) (hk95 : ∀ (x1 : Int32) (x2 : Int32) (x3 : Int32) (x4 : Int32) (x5 : Int32) (x6 : Int32) (x7 : Int32) (x8 : Int32) (S : St), G Γ E (QI Γ E) 14 95 [(0, .ref (gX Γ 55)), (1, .int x1), (2, .int x2), (3, .int x3), (4, .int x4), (5, .int x5), (6, .int x6), (7, .int x7), (8, .int x8)] [] S (k95 x1 x2 x3 x4 x5 x6 x7 x8 S)) (x1 : Int32) (x2 : Int32) (x3 : Int32) (x4 : Int32) (x5 : Int32) (x6 : Int32) (x7 : Int32) (x8 : Int32) (S : St) : G Γ E (QI Γ E) 14 231 [(0, .ref (gX Γ 55)), (1, .int x1), (2, .int x2), (3, .int x3), (4, .int x4), (5, .int x5), (6, .int x6), (7, .int x7), (8, .int x8)] [] S (f_X8_work_b231 k95 x1 x2 x3 x4 x5 x6 x7 x8 S) := by
  rw [f_X8_work_b231]
  refine g_iconst (pc := 231) C (v := 1) dX8_work_231 (by decide) ?_
  refine g_goto (pc := 232) C 236 dX8_work_232 (by decide) ?_
  exact g_sub [0, 1, 2, 3, 4, 5, 6, 7, 8] rfl (p_X8_work_b236 C M k95 hk95 x1 x2 x3 x4 x5 x6 x7 x8 1 S)
set_option maxRecDepth 100000 in
set_option maxHeartbeats 4000000 in
theorem p_X8_work_b235 {Γ : GA} {E : EV} (C : Cx Γ E RX8 cX8_work 14 3 (some .int)) (M : Mx Γ E) (k95 : Int32 → Int32 → Int32 → Int32 → Int32 → Int32 → Int32 → Int32 → St → Option (Int32 × St)) (hk95 : ∀ (x1 : Int32) (x2 : Int32) (x3 : Int32) (x4 : Int32) (x5 : Int32) (x6 : Int32) (x7 : Int32) (x8 : Int32) (S : St), G Γ E (QI Γ E) 14 95 [(0, .ref (gX Γ 55)), (1, .int x1), (2, .int x2), (3, .int x3), (4, .int x4), (5, .int x5), (6, .int x6), (7, .int x7), (8, .int x8)] [] S (k95 x1 x2 x3 x4 x5 x6 x7 x8 S)) (x1 : Int32) (x2 : Int32) (x3 : Int32) (x4 : Int32) (x5 : Int32) (x6 : Int32) (x7 : Int32) (x8 : Int32) (S : St) : G Γ E (QI Γ E) 14 235 [(0, .ref (gX Γ 55)), (1, .int x1), (2, .int x2), (3, .int x3), (4, .int x4), (5, .int x5), (6, .int x6), (7, .int x7), (8, .int x8)] [] S (f_X8_work_b235 k95 x1 x2 x3 x4 x5 x6 x7 x8 S) := by
  rw [f_X8_work_b235]
  refine g_iconst (pc := 235) C (v := 0) dX8_work_235 (by decide) ?_
  exact g_sub [0, 1, 2, 3, 4, 5, 6, 7, 8] rfl (p_X8_work_b236 C M k95 hk95 x1 x2 x3 x4 x5 x6 x7 x8 0 S)
set_option maxRecDepth 100000 in
set_option maxHeartbeats 4000000 in
theorem p_X8_work_b173 {Γ : GA} {E : EV} (C : Cx Γ E RX8 cX8_work 14 3 (some .int)) (M : Mx Γ E) (k95 : Int32 → Int32 → Int32 → Int32 → Int32 → Int32 → Int32 → Int32 → St → Option (Int32 × St)) (hk95 : ∀ (x1 : Int32) (x2 : Int32) (x3 : Int32) (x4 : Int32) (x5 : Int32) (x6 : Int32) (x7 : Int32) (x8 : Int32) (S : St), G Γ E (QI Γ E) 14 95 [(0, .ref (gX Γ 55)), (1, .int x1), (2, .int x2), (3, .int x3), (4, .int x4), (5, .int x5), (6, .int x6), (7, .int x7), (8, .int x8)] [] S (k95 x1 x2 x3 x4 x5 x6 x7 x8 S)) (k125 : Int32 → Int32 → Int32 → Int32 → Int32 → Int32 → Int32 → Int32 → Int32 → Int32 → Int32 → Int32 → St → Option (Int32 × St)) (hk125 : ∀ (x1 : Int32) (x2 : Int32) (x3 : Int32) (x4 : Int32) (x5 : Int32) (x6 : Int32) (x7 : Int32) (x8 : Int32) (x9 : Int32) (x10 : Int32) (x11 : Int32) (x12 : Int32) (S : St), G Γ E (QI Γ E) 14 125 [(0, .ref (gX Γ 55)), (1, .int x1), (2, .int x2), (3, .int x3), (4, .int x4), (5, .int x5), (6, .int x6), (7, .int x7), (8, .int x8), (9, .int x9), (10, .int x10), (11, .int x11), (12, .int x12)] [] S (k125 x1 x2 x3 x4 x5 x6 x7 x8 x9 x10 x11 x12 S)) (x1 : Int32) (x2 : Int32) (x3 : Int32) (x4 : Int32) (x5 : Int32) (x6 : Int32) (x7 : Int32) (x8 : Int32) (x9 : Int32) (x10 : Int32) (x12 : Int32) (x13 : Int32) (s0 : Int32) (S : St) : G Γ E (QI Γ E) 14 173 [(0, .ref (gX Γ 55)), (1, .int x1), (2, .int x2), (3, .int x3), (4, .int x4), (5, .int x5), (6, .int x6), (7, .int x7), (8, .int x8), (9, .int x9), (10, .int x10), (12, .int x12), (13, .int x13)] [.int s0] S (f_X8_work_b173 k95 k125 x1 x2 x3 x4 x5 x6 x7 x8 x9 x10 x12 x13 s0 S) := by
  rw [f_X8_work_b173]
  refine g_istore0 (pc := 173) C dX8_work_173 (by decide) (lv' := [(11, .int s0), (0, .ref (gX Γ 55)), (1, .int x1), (2, .int x2), (3, .int x3), (4, .int x4), (5, .int x5), (6, .int x6), (7, .int x7), (8, .int x8), (9, .int x9), (10, .int x10), (12, .int x12), (13, .int x13)]) rfl ?_
  refine g_aload_n (pc := 175) C dX8_work_175 1 rfl rfl ?_
  refine g_getR (pc := 176) C lk_X8_40 fr_55_20 dX8_work_176 ?_
  refine g_iload (pc := 179) C dX8_work_179 12 rfl ?_
  refine g_dup2 (pc := 181) C dX8_work_181 rfl rfl ?_
  refine g_iald (pc := 182) C ai_66 dX8_work_182 ?_
  refine g_iload (pc := 183) C dX8_work_183 13 rfl ?_
  refine g_isub (pc := 185) C dX8_work_185 ?_
  refine g_iast (pc := 186) C ai_66 dX8_work_186 (fun S_23 => ?_)
  refine g_iinc (pc := 187) C (v := (-1)) dX8_work_187 12 rfl (by decide) (by decide) (fun x => [(12, .int x), (11, .int s0), (0, .ref (gX Γ 55)), (1, .int x1), (2, .int x2), (3, .int x3), (4, .int x4), (5, .int x5), (6, .int x6), (7, .int x7), (8, .int x8), (9, .int x9), (10, .int x10), (13, .int x13)]) (fun _ => rfl) (fun x12_24 => ?_)
  refine g_goto (pc := 190) C 125 dX8_work_190 (by decide) ?_
  exact g_sub [2, 3, 4, 5, 6, 7, 8, 9, 10, 11, 12, 1, 0] rfl (hk125 x1 x2 x3 x4 x5 x6 x7 x8 x9 x10 s0 x12_24 S_23)
set_option maxRecDepth 100000 in
set_option maxHeartbeats 4000000 in
theorem p_X8_work_b172 {Γ : GA} {E : EV} (C : Cx Γ E RX8 cX8_work 14 3 (some .int)) (M : Mx Γ E) (k95 : Int32 → Int32 → Int32 → Int32 → Int32 → Int32 → Int32 → Int32 → St → Option (Int32 × St)) (hk95 : ∀ (x1 : Int32) (x2 : Int32) (x3 : Int32) (x4 : Int32) (x5 : Int32) (x6 : Int32) (x7 : Int32) (x8 : Int32) (S : St), G Γ E (QI Γ E) 14 95 [(0, .ref (gX Γ 55)), (1, .int x1), (2, .int x2), (3, .int x3), (4, .int x4), (5, .int x5), (6, .int x6), (7, .int x7), (8, .int x8)] [] S (k95 x1 x2 x3 x4 x5 x6 x7 x8 S)) (k125 : Int32 → Int32 → Int32 → Int32 → Int32 → Int32 → Int32 → Int32 → Int32 → Int32 → Int32 → Int32 → St → Option (Int32 × St)) (hk125 : ∀ (x1 : Int32) (x2 : Int32) (x3 : Int32) (x4 : Int32) (x5 : Int32) (x6 : Int32) (x7 : Int32) (x8 : Int32) (x9 : Int32) (x10 : Int32) (x11 : Int32) (x12 : Int32) (S : St), G Γ E (QI Γ E) 14 125 [(0, .ref (gX Γ 55)), (1, .int x1), (2, .int x2), (3, .int x3), (4, .int x4), (5, .int x5), (6, .int x6), (7, .int x7), (8, .int x8), (9, .int x9), (10, .int x10), (11, .int x11), (12, .int x12)] [] S (k125 x1 x2 x3 x4 x5 x6 x7 x8 x9 x10 x11 x12 S)) (x1 : Int32) (x2 : Int32) (x3 : Int32) (x4 : Int32) (x5 : Int32) (x6 : Int32) (x7 : Int32) (x8 : Int32) (x9 : Int32) (x10 : Int32) (x12 : Int32) (x13 : Int32) (S : St) : G Γ E (QI Γ E) 14 172 [(0, .ref (gX Γ 55)), (1, .int x1), (2, .int x2), (3, .int x3), (4, .int x4), (5, .int x5), (6, .int x6), (7, .int x7), (8, .int x8), (9, .int x9), (10, .int x10), (12, .int x12), (13, .int x13)] [] S (f_X8_work_b172 k95 k125 x1 x2 x3 x4 x5 x6 x7 x8 x9 x10 x12 x13 S) := by
  rw [f_X8_work_b172]
  refine g_iconst (pc := 172) C (v := 0) dX8_work_172 (by decide) ?_
  exact g_sub [0, 1, 2, 3, 4, 5, 6, 7, 8, 9, 10, 11, 12] rfl (p_X8_work_b173 C M k95 hk95 k125 hk125 x1 x2 x3 x4 x5 x6 x7 x8 x9 x10 x12 x13 0 S)
set_option maxRecDepth 100000 in
set_option maxHeartbeats 4000000 in
theorem p_X8_work_l125 {Γ : GA} {E : EV} (C : Cx Γ E RX8 cX8_work 14 3 (some .int)) (M : Mx Γ E) (k95 : Int32 → Int32 → Int32 → Int32 → Int32 → Int32 → Int32 → Int32 → St → Option (Int32 × St)) (hk95 : ∀ (x1 : Int32) (x2 : Int32) (x3 : Int32) (x4 : Int32) (x5 : Int32) (x6 : Int32) (x7 : Int32) (x8 : Int32) (S : St), G Γ E (QI Γ E) 14 95 [(0, .ref (gX Γ 55)), (1, .int x1), (2, .int x2), (3, .int x3), (4, .int x4), (5, .int x5), (6, .int x6), (7, .int x7), (8, .int x8)] [] S (k95 x1 x2 x3 x4 x5 x6 x7 x8 S)) : ∀ (n : Nat) (x1 : Int32) (x2 : Int32) (x3 : Int32) (x4 : Int32) (x5 : Int32) (x6 : Int32) (x7 : Int32) (x8 : Int32) (x9 : Int32) (x10 : Int32) (x11 : Int32) (x12 : Int32) (S : St), G Γ E (QI Γ E) 14 125 [(0, .ref (gX Γ 55)), (1, .int x1), (2, .int x2), (3, .int x3), (4, .int x4), (5, .int x5), (6, .int x6), (7, .int x7), (8, .int x8), (9, .int x9), (10, .int x10), (11, .int x11), (12, .int x12)] [] S (f_X8_work_l125 k95 n x1 x2 x3 x4 x5 x6 x7 x8 x9 x10 x11 x12 S) := by
  intro n
  induction n with
  | zero => intro x1 x2 x3 x4 x5 x6 x7 x8 x9 x10 x11 x12 S; exact g_none
  | succ n ih =>
    intro x1 x2 x3 x4 x5 x6 x7 x8 x9 x10 x11 x12 S
    rw [f_X8_work_l125]
    refine g_iload (pc := 125) C dX8_work_125 12 rfl ?_
    refine g_if_lt (pc := 127) C 193 dX8_work_127 (by decide) ?_ ?_
    · refine g_iload (pc := 193) C dX8_work_193 11 rfl ?_
      refine g_if_eq (pc := 195) C 268 dX8_work_195 (by decide) ?_ ?_
      · exact g_sub [0, 1, 2, 3, 4, 5, 6, 7, 8] rfl (p_X8_work_b268 C M k95 hk95 x1 x2 x3 x4 x5 x6 x7 x8 S)
      · refine g_iload (pc := 198) C dX8_work_198 10 rfl ?_
        refine g_iload_n (pc := 200) C dX8_work_200 3 rfl rfl ?_
        refine g_icmp_gt (pc := 201) C 268 dX8_work_201 (by decide) ?_ ?_
        · exact g_sub [0, 1, 2, 3, 4, 5, 6, 7, 8] rfl (p_X8_work_b268 C M k95 hk95 x1 x2 x3 x4 x5 x6 x7 x8 S)
        · refine g_aload_n (pc := 204) C dX8_work_204 0 rfl rfl ?_
          refine g_iload_n (pc := 205) C dX8_work_205 2 rfl rfl ?_
          refine g_callVV (pc := 206) (As := [.int x2]) (st := []) C lv_X8_195 fo_55 rfl (ct_X8_go x2 S) (by decide) rfl rfl (Nat.le_of_ble_eq_true rfl) dX8_work_206 (fun r_19 S_18 => ?_)
          refine g_aload_n (pc := 209) C dX8_work_209 0 rfl rfl ?_
          refine g_getI (pc := 210) C lk_X8_165 fi_55_22 dX8_work_210 ?_
          refine g_if_ne (pc := 213) C 235 dX8_work_213 (by decide) ?_ ?_
          · refine g_iload (pc := 216) C dX8_work_216 5 rfl ?_
            refine g_iconst (pc := 218) C (v := (-1)) dX8_work_218 (by decide) ?_
            refine g_icmp_eq (pc := 219) C 231 dX8_work_219 (by decide) ?_ ?_
            · exact g_sub [0, 1, 2, 3, 4, 5, 6, 7, 8] rfl (p_X8_work_b231 C M k95 hk95 x1 x2 x3 x4 x5 x6 x7 x8 S_18)
            · refine g_aload_n (pc := 222) C dX8_work_222 0 rfl rfl ?_
              refine g_getI (pc := 223) C lk_X8_162 fi_55_24 dX8_work_223 ?_
              refine g_iload (pc := 226) C dX8_work_226 6 rfl ?_
              refine g_icmp_ge (pc := 228) C 235 dX8_work_228 (by decide) ?_ ?_
              · exact g_sub [0, 1, 2, 3, 4, 5, 6, 7, 8] rfl (p_X8_work_b235 C M k95 hk95 x1 x2 x3 x4 x5 x6 x7 x8 S_18)
              · exact g_sub [0, 1, 2, 3, 4, 5, 6, 7, 8] rfl (p_X8_work_b231 C M k95 hk95 x1 x2 x3 x4 x5 x6 x7 x8 S_18)
          · exact g_sub [0, 1, 2, 3, 4, 5, 6, 7, 8] rfl (p_X8_work_b235 C M k95 hk95 x1 x2 x3 x4 x5 x6 x7 x8 S_18)
    · refine g_iload (pc := 130) C dX8_work_130 9 rfl ?_
      refine g_bipush (pc := 132) C (v := 7) dX8_work_132 (by decide) ?_
      refine g_irem (pc := 134) C dX8_work_134 ?_
      refine g_istore (pc := 135) C dX8_work_135 (by decide) (fun x => [(13, .int x), (0, .ref (gX Γ 55)), (1, .int x1), (2, .int x2), (3, .int x3), (4, .int x4), (5, .int x5), (6, .int x6), (7, .int x7), (8, .int x8), (9, .int x9), (10, .int x10), (11, .int x11), (12, .int x12)]) (fun _ => rfl) (fun x13_20 => ?_)
      refine g_iload (pc := 137) C dX8_work_137 10 rfl ?_
      refine g_bipush (pc := 139) C (v := 7) dX8_work_139 (by decide) ?_
      refine g_idiv (pc := 141) C dX8_work_141 ?_
      refine g_istore (pc := 142) C dX8_work_142 (by decide) (fun x => [(9, .int x), (13, .int x13_20), (0, .ref (gX Γ 55)), (1, .int x1), (2, .int x2), (3, .int x3), (4, .int x4), (5, .int x5), (6, .int x6), (7, .int x7), (8, .int x8), (10, .int x10), (11, .int x11), (12, .int x12)]) (fun _ => rfl) (fun x9_21 => ?_)
      refine g_iload (pc := 144) C dX8_work_144 11 rfl ?_
      refine g_iload (pc := 146) C dX8_work_146 1 rfl ?_
      refine g_iadd (pc := 148) C dX8_work_148 ?_
      refine g_istore (pc := 149) C dX8_work_149 (by decide) (fun x => [(10, .int x), (9, .int x9_21), (13, .int x13_20), (0, .ref (gX Γ 55)), (1, .int x1), (2, .int x2), (3, .int x3), (4, .int x4), (5, .int x5), (6, .int x6), (7, .int x7), (8, .int x8), (11, .int x11), (12, .int x12)]) (fun _ => rfl) (fun x10_22 => ?_)
      refine g_iload (pc := 151) C dX8_work_151 12 rfl ?_
      refine g_if_eq (pc := 153) C 172 dX8_work_153 (by decide) ?_ ?_
      · exact g_sub [3, 4, 5, 6, 7, 8, 9, 10, 11, 1, 0, 13, 2] rfl (p_X8_work_b172 C M k95 hk95 (f_X8_work_l125 k95 n) ih x1 x2 x3 x4 x5 x6 x7 x8 x9_21 x10_22 x12 x13_20 S)
      · refine g_iload (pc := 156) C dX8_work_156 2 rfl ?_
        refine g_aload_n (pc := 158) C dX8_work_158 3 rfl rfl ?_
        refine g_getR (pc := 159) C lk_X8_40 fr_55_20 dX8_work_159 ?_
        refine g_iload (pc := 162) C dX8_work_162 13 rfl ?_
        refine g_iald (pc := 164) C ai_66 dX8_work_164 ?_
        refine g_icmp_gt (pc := 165) C 172 dX8_work_165 (by decide) ?_ ?_
        · exact g_sub [3, 4, 5, 6, 7, 8, 9, 10, 11, 1, 0, 13, 2] rfl (p_X8_work_b172 C M k95 hk95 (f_X8_work_l125 k95 n) ih x1 x2 x3 x4 x5 x6 x7 x8 x9_21 x10_22 x12 x13_20 S)
        · refine g_iconst (pc := 168) C (v := 1) dX8_work_168 (by decide) ?_
          refine g_goto (pc := 169) C 173 dX8_work_169 (by decide) ?_
          exact g_sub [3, 4, 5, 6, 7, 8, 9, 10, 11, 1, 0, 13, 2] rfl (p_X8_work_b173 C M k95 hk95 (f_X8_work_l125 k95 n) ih x1 x2 x3 x4 x5 x6 x7 x8 x9_21 x10_22 x12 x13_20 1 S)
set_option maxRecDepth 100000 in
set_option maxHeartbeats 4000000 in
theorem p_X8_work_l95 {Γ : GA} {E : EV} (C : Cx Γ E RX8 cX8_work 14 3 (some .int)) (M : Mx Γ E) : ∀ (n : Nat) (x1 : Int32) (x2 : Int32) (x3 : Int32) (x4 : Int32) (x5 : Int32) (x6 : Int32) (x7 : Int32) (x8 : Int32) (S : St), G Γ E (QI Γ E) 14 95 [(0, .ref (gX Γ 55)), (1, .int x1), (2, .int x2), (3, .int x3), (4, .int x4), (5, .int x5), (6, .int x6), (7, .int x7), (8, .int x8)] [] S (f_X8_work_l95 n x1 x2 x3 x4 x5 x6 x7 x8 S) := by
  intro n
  induction n with
  | zero => intro x1 x2 x3 x4 x5 x6 x7 x8 S; exact g_none
  | succ n ih =>
    intro x1 x2 x3 x4 x5 x6 x7 x8 S
    rw [f_X8_work_l95]
    refine g_iload (pc := 95) C dX8_work_95 8 rfl ?_
    refine g_iload (pc := 97) C dX8_work_97 7 rfl ?_
    refine g_icmp_ge (pc := 99) C 274 dX8_work_99 (by decide) ?_ ?_
    · refine g_iload (pc := 274) C dX8_work_274 5 rfl ?_
      refine g_iconst (pc := 276) C (v := (-1)) dX8_work_276 (by decide) ?_
      refine g_icmp_eq (pc := 277) C 285 dX8_work_277 (by decide) ?_ ?_
      · exact g_sub [5, 6] rfl (p_X8_work_b285 C M x5 x6 S)
      · refine g_iload (pc := 280) C dX8_work_280 4 rfl ?_
        refine g_if_ne (pc := 282) C 298 dX8_work_282 (by decide) ?_ ?_
        · exact g_sub [5, 6] rfl (p_X8_work_b285 C M x5 x6 S)
        · refine g_iload (pc := 298) C dX8_work_298 4 rfl ?_
          refine g_aload_n (pc := 300) C dX8_work_300 0 rfl rfl ?_
          refine g_getR (pc := 301) C lk_X8_31 fr_55_14 dX8_work_301 ?_
          refine g_iload_n (pc := 304) C dX8_work_304 1 rfl rfl ?_
          refine g_iald (pc := 305) C ai_63 dX8_work_305 ?_
          refine g_icmp_le (pc := 306) C 311 dX8_work_306 (by decide) ?_ ?_
          · refine g_aload_n (pc := 311) C dX8_work_311 0 rfl rfl ?_
            refine g_getR (pc := 312) C lk_X8_31 fr_55_14 dX8_work_312 ?_
            refine g_iload_n (pc := 315) C dX8_work_315 1 rfl rfl ?_
            refine g_iald (pc := 316) C ai_63 dX8_work_316 ?_
            refine g_istore (pc := 317) C dX8_work_317 (by decide) (fun x => [(8, .int x), (0, .ref (gX Γ 55)), (1, .int x1), (2, .int x2), (3, .int x3), (4, .int x4), (5, .int x5), (6, .int x6), (7, .int x7)]) (fun _ => rfl) (fun x8_11 => ?_)
            exact g_sub [5, 6, 0] rfl (p_X8_work_l319 C M FU x4 x5 x8_11 S)
          · refine g_iconst (pc := 309) C (v := (-1)) dX8_work_309 (by decide) ?_
            exact g_iret C M dX8_work_310
    · refine g_aload_n (pc := 102) C dX8_work_102 0 rfl rfl ?_
      refine g_iload_n (pc := 103) C dX8_work_103 1 rfl rfl ?_
      refine g_callVV (pc := 104) (As := [.int x1]) (st := []) C lv_X8_191 fo_55 rfl (ct_X8_take x1 S) (by decide) rfl rfl (Nat.le_of_ble_eq_true rfl) dX8_work_104 (fun r_15 S_14 => ?_)
      refine g_iload (pc := 107) C dX8_work_107 8 rfl ?_
      refine g_istore0 (pc := 109) C dX8_work_109 (by decide) (lv' := [(9, .int x8), (0, .ref (gX Γ 55)), (1, .int x1), (2, .int x2), (3, .int x3), (4, .int x4), (5, .int x5), (6, .int x6), (7, .int x7), (8, .int x8)]) rfl ?_
      refine g_iconst (pc := 111) C (v := 0) dX8_work_111 (by decide) ?_
      refine g_istore0 (pc := 112) C dX8_work_112 (by decide) (lv' := [(10, .int 0), (9, .int x8), (0, .ref (gX Γ 55)), (1, .int x1), (2, .int x2), (3, .int x3), (4, .int x4), (5, .int x5), (6, .int x6), (7, .int x7), (8, .int x8)]) rfl ?_
      refine g_iconst (pc := 114) C (v := 1) dX8_work_114 (by decide) ?_
      refine g_istore0 (pc := 115) C dX8_work_115 (by decide) (lv' := [(11, .int 1), (10, .int 0), (9, .int x8), (0, .ref (gX Γ 55)), (1, .int x1), (2, .int x2), (3, .int x3), (4, .int x4), (5, .int x5), (6, .int x6), (7, .int x7), (8, .int x8)]) rfl ?_
      refine g_aload_n (pc := 117) C dX8_work_117 3 rfl rfl ?_
      refine g_getI (pc := 118) C lk_X8_149 fi_55_18 dX8_work_118 ?_
      refine g_iconst (pc := 121) C (v := 1) dX8_work_121 (by decide) ?_
      refine g_isub (pc := 122) C dX8_work_122 ?_
      refine g_istore (pc := 123) C dX8_work_123 (by decide) (fun x => [(12, .int x), (11, .int 1), (10, .int 0), (9, .int x8), (0, .ref (gX Γ 55)), (1, .int x1), (2, .int x2), (3, .int x3), (4, .int x4), (5, .int x5), (6, .int x6), (7, .int x7), (8, .int x8)]) (fun _ => rfl) (fun x12_16 => ?_)
      exact g_sub [4, 5, 6, 7, 8, 9, 10, 11, 12, 3, 2, 1, 0] rfl (p_X8_work_l125 C M (f_X8_work_l95 n) ih FU x1 x2 x3 x4 x5 x6 x7 x8 x8 0 1 x12_16 S_14)
set_option maxRecDepth 100000 in
set_option maxHeartbeats 4000000 in
theorem p_X8_work_l68 {Γ : GA} {E : EV} (C : Cx Γ E RX8 cX8_work 14 3 (some .int)) (M : Mx Γ E) : ∀ (n : Nat) (x1 : Int32) (x2 : Int32) (x3 : Int32) (x4 : Int32) (x5 : Int32) (x6 : Int32) (x7 : Int32) (x8 : Int32) (S : St), G Γ E (QI Γ E) 14 68 [(0, .ref (gX Γ 55)), (1, .int x1), (2, .int x2), (3, .int x3), (4, .int x4), (5, .int x5), (6, .int x6), (7, .int x7), (8, .int x8)] [] S (f_X8_work_l68 n x1 x2 x3 x4 x5 x6 x7 x8 S) := by
  intro n
  induction n with
  | zero => intro x1 x2 x3 x4 x5 x6 x7 x8 S; exact g_none
  | succ n ih =>
    intro x1 x2 x3 x4 x5 x6 x7 x8 S
    rw [f_X8_work_l68]
    refine g_iload (pc := 68) C dX8_work_68 8 rfl ?_
    refine g_aload_n (pc := 70) C dX8_work_70 0 rfl rfl ?_
    refine g_getR (pc := 71) C lk_X8_31 fr_55_14 dX8_work_71 ?_
    refine g_iload_n (pc := 74) C dX8_work_74 1 rfl rfl ?_
    refine g_iald (pc := 75) C ai_63 dX8_work_75 ?_
    refine g_icmp_ge (pc := 76) C 92 dX8_work_76 (by decide) ?_ ?_
    · refine g_iconst (pc := 92) C (v := 0) dX8_work_92 (by decide) ?_
      refine g_istore0 (pc := 93) C dX8_work_93 (by decide) (lv' := [(8, .int 0), (0, .ref (gX Γ 55)), (1, .int x1), (2, .int x2), (3, .int x3), (4, .int x4), (5, .int x5), (6, .int x6), (7, .int x7)]) rfl ?_
      exact g_sub [1, 2, 3, 4, 5, 6, 7, 8, 0] rfl (p_X8_work_l95 C M FU x1 x2 x3 x4 x5 x6 x7 0 S)
    · refine g_iload (pc := 79) C dX8_work_79 7 rfl ?_
      refine g_bipush (pc := 81) C (v := 7) dX8_work_81 (by decide) ?_
      refine g_imul (pc := 83) C dX8_work_83 ?_
      refine g_istore (pc := 84) C dX8_work_84 (by decide) (fun x => [(7, .int x), (0, .ref (gX Γ 55)), (1, .int x1), (2, .int x2), (3, .int x3), (4, .int x4), (5, .int x5), (6, .int x6), (8, .int x8)]) (fun _ => rfl) (fun x7_25 => ?_)
      refine g_iinc (pc := 86) C (v := 1) dX8_work_86 8 rfl (by decide) (by decide) (fun x => [(8, .int x), (7, .int x7_25), (0, .ref (gX Γ 55)), (1, .int x1), (2, .int x2), (3, .int x3), (4, .int x4), (5, .int x5), (6, .int x6)]) (fun _ => rfl) (fun x8_26 => ?_)
      refine g_goto (pc := 89) C 68 dX8_work_89 (by decide) ?_
      exact g_sub [2, 3, 4, 5, 6, 7, 8, 1, 0] rfl (ih x1 x2 x3 x4 x5 x6 x7_25 x8_26 S)
set_option maxRecDepth 100000 in
set_option maxHeartbeats 4000000 in
theorem p_X8_work {Γ : GA} {E : EV} (C : Cx Γ E RX8 cX8_work 14 3 (some .int)) (M : Mx Γ E) (x1 : Int32) (x2 : Int32) (x3 : Int32) (x4 : Int32) (S : St) : G Γ E (QI Γ E) 14 0 [(0, .ref (gX Γ 55)), (1, .int x1), (2, .int x2), (3, .int x3), (4, .int x4)] [] S (f_X8_work x1 x2 x3 x4 S) := by
  rw [f_X8_work]
  refine g_aload_n (pc := 0) C dX8_work_0 0 rfl rfl ?_
  refine g_iload_n (pc := 1) C dX8_work_1 1 rfl rfl ?_
  refine g_callVI (pc := 2) (As := [.int x1]) (st := []) C lv_X8_132 fo_55 rfl (ct_X8_isCart x1 S) (by decide) rfl rfl (Nat.le_of_ble_eq_true rfl) dX8_work_2 (fun r_2 S_1 => ?_)
  refine g_if_ne (pc := 5) C 11 dX8_work_5 (by decide) ?_ ?_
  · refine g_bipush (pc := 8) C (v := (-101)) dX8_work_8 (by decide) ?_
    exact g_iret C M dX8_work_10
  · refine g_aload_n (pc := 11) C dX8_work_11 0 rfl rfl ?_
    refine g_callVI (pc := 12) (As := []) (st := []) C lv_X8_182 fo_55 rfl (ct_X8_lacks S_1) (by decide) rfl rfl (Nat.le_of_ble_eq_true rfl) dX8_work_12 (fun r_4 S_3 => ?_)
    refine g_if_eq (pc := 15) C 21 dX8_work_15 (by decide) ?_ ?_
    · refine g_iload_n (pc := 21) C dX8_work_21 2 rfl rfl ?_
      refine g_callSI (pc := 22) (As := [.int x2]) (st := []) C ls_X8_186 (ct_X8_isSwing x2 S_3) (by decide) rfl rfl (Nat.le_of_ble_eq_true rfl) dX8_work_22 (fun r_6 S_5 => ?_)
      refine g_if_eq (pc := 25) C 53 dX8_work_25 (by decide) ?_ ?_
      · refine g_bipush (pc := 53) C (v := (-102)) dX8_work_53 (by decide) ?_
        exact g_iret C M dX8_work_55
      · refine g_iload_n (pc := 28) C dX8_work_28 3 rfl rfl ?_
        refine g_i2l (pc := 29) C dX8_work_29 ?_
        refine g_lconst (pc := 30) C (v := 0) dX8_work_30 (by decide) ?_
        refine g_ldc2 (pc := 31) C kc_X8_206 dX8_work_31 ?_
        refine g_callSI (pc := 34) (As := [.long ((x3 : Int32).toInt64), .long 0, .long 6]) (st := []) C ls_X8_89 (ct_X8_in ((x3 : Int32).toInt64) 0 6 S_5) (by decide) rfl rfl (Nat.le_of_ble_eq_true rfl) dX8_work_34 (fun r_8 S_7 => ?_)
        refine g_if_eq (pc := 37) C 53 dX8_work_37 (by decide) ?_ ?_
        · refine g_bipush (pc := 53) C (v := (-102)) dX8_work_53 (by decide) ?_
          exact g_iret C M dX8_work_55
        · refine g_iload (pc := 40) C dX8_work_40 4 rfl ?_
          refine g_i2l (pc := 42) C dX8_work_42 ?_
          refine g_lconst (pc := 43) C (v := 0) dX8_work_43 (by decide) ?_
          refine g_ldc2 (pc := 44) C kc_X8_138 dX8_work_44 ?_
          refine g_callSI (pc := 47) (As := [.long ((x4 : Int32).toInt64), .long 0, .long 5]) (st := []) C ls_X8_89 (ct_X8_in ((x4 : Int32).toInt64) 0 5 S_7) (by decide) rfl rfl (Nat.le_of_ble_eq_true rfl) dX8_work_47 (fun r_10 S_9 => ?_)
          refine g_if_ne (pc := 50) C 56 dX8_work_50 (by decide) ?_ ?_
          · refine g_bipush (pc := 53) C (v := (-102)) dX8_work_53 (by decide) ?_
            exact g_iret C M dX8_work_55
          · refine g_iconst (pc := 56) C (v := (-1)) dX8_work_56 (by decide) ?_
            refine g_istore0 (pc := 57) C dX8_work_57 (by decide) (lv' := [(5, .int (-1)), (0, .ref (gX Γ 55)), (1, .int x1), (2, .int x2), (3, .int x3), (4, .int x4)]) rfl ?_
            refine g_iconst (pc := 59) C (v := 0) dX8_work_59 (by decide) ?_
            refine g_istore0 (pc := 60) C dX8_work_60 (by decide) (lv' := [(6, .int 0), (5, .int (-1)), (0, .ref (gX Γ 55)), (1, .int x1), (2, .int x2), (3, .int x3), (4, .int x4)]) rfl ?_
            refine g_iconst (pc := 62) C (v := 1) dX8_work_62 (by decide) ?_
            refine g_istore0 (pc := 63) C dX8_work_63 (by decide) (lv' := [(7, .int 1), (6, .int 0), (5, .int (-1)), (0, .ref (gX Γ 55)), (1, .int x1), (2, .int x2), (3, .int x3), (4, .int x4)]) rfl ?_
            refine g_iconst (pc := 65) C (v := 0) dX8_work_65 (by decide) ?_
            refine g_istore0 (pc := 66) C dX8_work_66 (by decide) (lv' := [(8, .int 0), (7, .int 1), (6, .int 0), (5, .int (-1)), (0, .ref (gX Γ 55)), (1, .int x1), (2, .int x2), (3, .int x3), (4, .int x4)]) rfl ?_
            exact g_sub [4, 5, 6, 7, 8, 3, 2, 1, 0] rfl (p_X8_work_l68 C M FU x1 x2 x3 x4 (-1) 0 1 0 S_9)
    · refine g_bipush (pc := 18) C (v := (-103)) dX8_work_18 (by decide) ?_
      exact g_iret C M dX8_work_20
theorem ct_X8_work {Γ : GA} (x1 : Int32) (x2 : Int32) (x3 : Int32) (x4 : Int32) (S : St) : CtI Γ yX8_work cX8_work 14 (some .int) 3 [.ref (gX Γ 55), .int x1, .int x2, .int x3, .int x4] S (f_X8_work x1 x2 x3 x4 S) :=
  ctI_of (by decide) (Nat.le_of_ble_eq_true rfl) (fun _ C M => p_X8_work C M x1 x2 x3 x4 S)
set_option maxRecDepth 100000 in
set_option maxHeartbeats 4000000 in
theorem p_X8_timeBy {Γ : GA} {E : EV} (C : Cx Γ E RX8 cX8_timeBy 4 3 (some .int)) (M : Mx Γ E) (x1 : Int32) (x2 : Int32) (x3 : Int32) (S : St) : G Γ E (QI Γ E) 4 0 [(0, .ref (gX Γ 55)), (1, .int x1), (2, .int x2), (3, .int x3)] [] S (f_X8_timeBy x1 x2 x3 S) := by
  rw [f_X8_timeBy]
  refine g_aload_n (pc := 0) C dX8_timeBy_0 0 rfl rfl ?_
  refine g_iload_n (pc := 1) C dX8_timeBy_1 1 rfl rfl ?_
  refine g_callVV (pc := 2) (As := [.int x1]) (st := []) C lv_X8_191 fo_55 rfl (ct_X8_take x1 S) (by decide) rfl rfl (Nat.le_of_ble_eq_true rfl) dX8_timeBy_2 (fun r_2 S_1 => ?_)
  refine g_aload_n (pc := 5) C dX8_timeBy_5 0 rfl rfl ?_
  refine g_iload_n (pc := 6) C dX8_timeBy_6 3 rfl rfl ?_
  refine g_putI (pc := 7) C lp_X8_146 fi_55_17 dX8_timeBy_7 (fun S_3 => ?_)
  refine g_aload_n (pc := 10) C dX8_timeBy_10 0 rfl rfl ?_
  refine g_iload_n (pc := 11) C dX8_timeBy_11 2 rfl rfl ?_
  refine g_callVV (pc := 12) (As := [.int x2]) (st := []) C lv_X8_195 fo_55 rfl (ct_X8_go x2 S_3) (by decide) rfl rfl (Nat.le_of_ble_eq_true rfl) dX8_timeBy_12 (fun r_5 S_4 => ?_)
  refine g_aload_n (pc := 15) C dX8_timeBy_15 0 rfl rfl ?_
  refine g_getI (pc := 16) C lk_X8_165 fi_55_22 dX8_timeBy_16 ?_
  refine g_if_ne (pc := 19) C 29 dX8_timeBy_19 (by decide) ?_ ?_
  · refine g_aload_n (pc := 22) C dX8_timeBy_22 0 rfl rfl ?_
    refine g_getI (pc := 23) C lk_X8_162 fi_55_24 dX8_timeBy_23 ?_
    refine g_goto (pc := 26) C 30 dX8_timeBy_26 (by decide) ?_
    exact g_iret C M dX8_timeBy_30
  · refine g_iconst (pc := 29) C (v := (-1)) dX8_timeBy_29 (by decide) ?_
    exact g_iret C M dX8_timeBy_30
theorem ct_X8_timeBy {Γ : GA} (x1 : Int32) (x2 : Int32) (x3 : Int32) (S : St) : CtI Γ yX8_timeBy cX8_timeBy 4 (some .int) 3 [.ref (gX Γ 55), .int x1, .int x2, .int x3] S (f_X8_timeBy x1 x2 x3 S) :=
  ctI_of (by decide) (Nat.le_of_ble_eq_true rfl) (fun _ C M => p_X8_timeBy C M x1 x2 x3 S)
set_option maxRecDepth 100000 in
set_option maxHeartbeats 4000000 in
theorem p_X8_weighed {Γ : GA} {E : EV} (C : Cx Γ E RX8 cX8_weighed 4 4 (some .int)) (M : Mx Γ E) (x1 : Int32) (x2 : Int32) (x3 : Int32) (S : St) : G Γ E (QI Γ E) 4 0 [(0, .ref (gX Γ 55)), (1, .int x1), (2, .int x2), (3, .int x3)] [] S (f_X8_weighed x1 x2 x3 S) := by
  rw [f_X8_weighed]
  refine g_aload_n (pc := 0) C dX8_weighed_0 0 rfl rfl ?_
  refine g_iload_n (pc := 1) C dX8_weighed_1 1 rfl rfl ?_
  refine g_callVI (pc := 2) (As := [.int x1]) (st := []) C lv_X8_132 fo_55 rfl (ct_X8_isCart x1 S) (by decide) rfl rfl (Nat.le_of_ble_eq_true rfl) dX8_weighed_2 (fun r_2 S_1 => ?_)
  refine g_if_ne (pc := 5) C 11 dX8_weighed_5 (by decide) ?_ ?_
  · refine g_bipush (pc := 8) C (v := (-101)) dX8_weighed_8 (by decide) ?_
    exact g_iret C M dX8_weighed_10
  · refine g_aload_n (pc := 11) C dX8_weighed_11 0 rfl rfl ?_
    refine g_callVI (pc := 12) (As := []) (st := []) C lv_X8_182 fo_55 rfl (ct_X8_lacks S_1) (by decide) rfl rfl (Nat.le_of_ble_eq_true rfl) dX8_weighed_12 (fun r_4 S_3 => ?_)
    refine g_if_eq (pc := 15) C 21 dX8_weighed_15 (by decide) ?_ ?_
    · refine g_iload_n (pc := 21) C dX8_weighed_21 2 rfl rfl ?_
      refine g_callSI (pc := 22) (As := [.int x2]) (st := []) C ls_X8_186 (ct_X8_isSwing x2 S_3) (by decide) rfl rfl (Nat.le_of_ble_eq_true rfl) dX8_weighed_22 (fun r_6 S_5 => ?_)
      refine g_if_eq (pc := 25) C 52 dX8_weighed_25 (by decide) ?_ ?_
      · refine g_bipush (pc := 52) C (v := (-102)) dX8_weighed_52 (by decide) ?_
        exact g_iret C M dX8_weighed_54
      · refine g_iload_n (pc := 28) C dX8_weighed_28 3 rfl rfl ?_
        refine g_i2l (pc := 29) C dX8_weighed_29 ?_
        refine g_ldc2 (pc := 30) C kc_X8_140 dX8_weighed_30 ?_
        refine g_ldc2 (pc := 33) C kc_X8_142 dX8_weighed_33 ?_
        refine g_callSI (pc := 36) (As := [.long ((x3 : Int32).toInt64), .long 10, .long 99]) (st := []) C ls_X8_89 (ct_X8_in ((x3 : Int32).toInt64) 10 99 S_5) (by decide) rfl rfl (Nat.le_of_ble_eq_true rfl) dX8_weighed_36 (fun r_8 S_7 => ?_)
        refine g_if_eq (pc := 39) C 52 dX8_weighed_39 (by decide) ?_ ?_
        · refine g_bipush (pc := 52) C (v := (-102)) dX8_weighed_52 (by decide) ?_
          exact g_iret C M dX8_weighed_54
        · refine g_aload_n (pc := 42) C dX8_weighed_42 0 rfl rfl ?_
          refine g_iload_n (pc := 43) C dX8_weighed_43 1 rfl rfl ?_
          refine g_iload_n (pc := 44) C dX8_weighed_44 2 rfl rfl ?_
          refine g_iload_n (pc := 45) C dX8_weighed_45 3 rfl rfl ?_
          refine g_callVI (pc := 46) (As := [.int x1, .int x2, .int x3]) (st := []) C lv_X8_208 fo_55 rfl (ct_X8_timeBy x1 x2 x3 S_7) (by decide) rfl rfl (Nat.le_of_ble_eq_true rfl) dX8_weighed_46 (fun r_10 S_9 => ?_)
          refine g_goto (pc := 49) C 54 dX8_weighed_49 (by decide) ?_
          exact g_iret C M dX8_weighed_54
    · refine g_bipush (pc := 18) C (v := (-103)) dX8_weighed_18 (by decide) ?_
      exact g_iret C M dX8_weighed_20
theorem ct_X8_weighed {Γ : GA} (x1 : Int32) (x2 : Int32) (x3 : Int32) (S : St) : CtI Γ yX8_weighed cX8_weighed 4 (some .int) 4 [.ref (gX Γ 55), .int x1, .int x2, .int x3] S (f_X8_weighed x1 x2 x3 S) :=
  ctI_of (by decide) (Nat.le_of_ble_eq_true rfl) (fun _ C M => p_X8_weighed C M x1 x2 x3 S)
set_option maxRecDepth 100000 in
set_option maxHeartbeats 4000000 in
theorem p_X8_close_b239 {Γ : GA} {E : EV} (C : Cx Γ E RX8 cX8_close 11 4 (some .int)) (M : Mx Γ E) (x3 : Int32) (S : St) : G Γ E (QI Γ E) 11 239 [(3, .int x3)] [] S (f_X8_close_b239 x3 S) := by
  rw [f_X8_close_b239]
  refine g_iload_n (pc := 239) C dX8_close_239 0 rfl rfl ?_
  refine g_goto (pc := 240) C 245 dX8_close_240 (by decide) ?_
  exact g_iret C M dX8_close_245
set_option maxRecDepth 100000 in
set_option maxHeartbeats 4000000 in
theorem p_X8_close_b222 {Γ : GA} {E : EV} (C : Cx Γ E RX8 cX8_close 11 4 (some .int)) (M : Mx Γ E) (k46 : Int32 → Int32 → Int32 → Int32 → Int32 → St → Option (Int32 × St)) (hk46 : ∀ (x1 : Int32) (x2 : Int32) (x3 : Int32) (x4 : Int32) (x5 : Int32) (S : St), G Γ E (QI Γ E) 11 46 [(0, .ref (gX Γ 55)), (1, .int x1), (2, .int x2), (3, .int x3), (4, .int x4), (5, .int x5)] [] S (k46 x1 x2 x3 x4 x5 S)) (x1 : Int32) (x2 : Int32) (x3 : Int32) (x5 : Int32) (s0 : Int32) (S : St) : G Γ E (QI Γ E) 11 222 [(0, .ref (gX Γ 55)), (1, .int x1), (2, .int x2), (3, .int x3), (5, .int x5)] [.int s0] S (f_X8_close_b222 k46 x1 x2 x3 x5 s0 S) := by
  rw [f_X8_close_b222]
  refine g_istore0 (pc := 222) C dX8_close_222 (by decide) (lv' := [(4, .int s0), (0, .ref (gX Γ 55)), (1, .int x1), (2, .int x2), (3, .int x3), (5, .int x5)]) rfl ?_
  refine g_iinc (pc := 224) C (v := 1) dX8_close_224 5 rfl (by decide) (by decide) (fun x => [(5, .int x), (4, .int s0), (0, .ref (gX Γ 55)), (1, .int x1), (2, .int x2), (3, .int x3)]) (fun _ => rfl) (fun x5_7 => ?_)
  refine g_goto (pc := 227) C 46 dX8_close_227 (by decide) ?_
  exact g_sub [2, 3, 4, 5, 1, 0] rfl (hk46 x1 x2 x3 s0 x5_7 S)
set_option maxRecDepth 100000 in
set_option maxHeartbeats 4000000 in
theorem p_X8_close_b206 {Γ : GA} {E : EV} (C : Cx Γ E RX8 cX8_close 11 4 (some .int)) (M : Mx Γ E) (k46 : Int32 → Int32 → Int32 → Int32 → Int32 → St → Option (Int32 × St)) (hk46 : ∀ (x1 : Int32) (x2 : Int32) (x3 : Int32) (x4 : Int32) (x5 : Int32) (S : St), G Γ E (QI Γ E) 11 46 [(0, .ref (gX Γ 55)), (1, .int x1), (2, .int x2), (3, .int x3), (4, .int x4), (5, .int x5)] [] S (k46 x1 x2 x3 x4 x5 S)) (x1 : Int32) (x2 : Int32) (x4 : Int32) (x5 : Int32) (x6 : Int32) (x7 : Int32) (x9 : Int32) (s0 : Int32) (S : St) : G Γ E (QI Γ E) 11 206 [(0, .ref (gX Γ 55)), (1, .int x1), (2, .int x2), (4, .int x4), (5, .int x5), (6, .int x6), (7, .int x7), (9, .int x9)] [.int s0] S (f_X8_close_b206 k46 x1 x2 x4 x5 x6 x7 x9 s0 S) := by
  rw [f_X8_close_b206]
  refine g_istore_n0 (pc := 206) C dX8_close_206 rfl (by decide) (lv' := [(3, .int s0), (0, .ref (gX Γ 55)), (1, .int x1), (2, .int x2), (4, .int x4), (5, .int x5), (6, .int x6), (7, .int x7), (9, .int x9)]) rfl ?_
  refine g_iload (pc := 207) C dX8_close_207 8 rfl ?_
  refine g_if_eq (pc := 209) C 220 dX8_close_209 (by decide) ?_ ?_
  · refine g_iload (pc := 220) C dX8_close_220 4 rfl ?_
    exact g_sub [1, 2, 3, 0, 5] rfl (p_X8_close_b222 C M k46 hk46 x1 x2 s0 x5 x4 S)
  · refine g_iload (pc := 212) C dX8_close_212 7 rfl ?_
    refine g_iload (pc := 214) C dX8_close_214 6 rfl ?_
    refine g_isub (pc := 216) C dX8_close_216 ?_
    refine g_goto (pc := 217) C 222 dX8_close_217 (by decide) ?_
    exact g_sub [1, 2, 3, 0, 5] rfl (p_X8_close_b222 C M k46 hk46 x1 x2 s0 x5 (x7 - x6) S)
set_option maxRecDepth 100000 in
set_option maxHeartbeats 4000000 in
theorem p_X8_close_b193 {Γ : GA} {E : EV} (C : Cx Γ E RX8 cX8_close 11 4 (some .int)) (M : Mx Γ E) (k46 : Int32 → Int32 → Int32 → Int32 → Int32 → St → Option (Int32 × St)) (hk46 : ∀ (x1 : Int32) (x2 : Int32) (x3 : Int32) (x4 : Int32) (x5 : Int32) (S : St), G Γ E (QI Γ E) 11 46 [(0, .ref (gX Γ 55)), (1, .int x1), (2, .int x2), (3, .int x3), (4, .int x4), (5, .int x5)] [] S (k46 x1 x2 x3 x4 x5 S)) (x1 : Int32) (x2 : Int32) (x3 : Int32) (x4 : Int32) (x5 : Int32) (x6 : Int32) (x7 : Int32) (s0 : Int32) (S : St) : G Γ E (QI Γ E) 11 193 [(0, .ref (gX Γ 55)), (1, .int x1), (2, .int x2), (3, .int x3), (4, .int x4), (5, .int x5), (6, .int x6), (7, .int x7)] [.int s0] S (f_X8_close_b193 k46 x1 x2 x3 x4 x5 x6 x7 s0 S) := by
  rw [f_X8_close_b193]
  refine g_istore0 (pc := 193) C dX8_close_193 (by decide) (lv' := [(9, .int s0), (0, .ref (gX Γ 55)), (1, .int x1), (2, .int x2), (3, .int x3), (4, .int x4), (5, .int x5), (6, .int x6), (7, .int x7)]) rfl ?_
  refine g_iload (pc := 195) C dX8_close_195 0 rfl ?_
  refine g_if_eq (pc := 197) C 205 dX8_close_197 (by decide) ?_ ?_
  · refine g_iload_n (pc := 205) C dX8_close_205 4 rfl rfl ?_
    exact g_sub [1, 2, 3, 5, 6, 7, 8, 0] rfl (p_X8_close_b206 C M k46 hk46 x1 x2 x4 x5 x6 x7 s0 x3 S)
  · refine g_iload (pc := 200) C dX8_close_200 6 rfl ?_
    refine g_goto (pc := 202) C 206 dX8_close_202 (by decide) ?_
    exact g_sub [1, 2, 3, 5, 6, 7, 8, 0] rfl (p_X8_close_b206 C M k46 hk46 x1 x2 x4 x5 x6 x7 s0 x5 S)
set_option maxRecDepth 100000 in
set_option maxHeartbeats 4000000 in
theorem p_X8_close_b192 {Γ : GA} {E : EV} (C : Cx Γ E RX8 cX8_close 11 4 (some .int)) (M : Mx Γ E) (k46 : Int32 → Int32 → Int32 → Int32 → Int32 → St → Option (Int32 × St)) (hk46 : ∀ (x1 : Int32) (x2 : Int32) (x3 : Int32) (x4 : Int32) (x5 : Int32) (S : St), G Γ E (QI Γ E) 11 46 [(0, .ref (gX Γ 55)), (1, .int x1), (2, .int x2), (3, .int x3), (4, .int x4), (5, .int x5)] [] S (k46 x1 x2 x3 x4 x5 S)) (x1 : Int32) (x2 : Int32) (x3 : Int32) (x4 : Int32) (x5 : Int32) (x6 : Int32) (x7 : Int32) (S : St) : G Γ E (QI Γ E) 11 192 [(0, .ref (gX Γ 55)), (1, .int x1), (2, .int x2), (3, .int x3), (4, .int x4), (5, .int x5), (6, .int x6), (7, .int x7)] [] S (f_X8_close_b192 k46 x1 x2 x3 x4 x5 x6 x7 S) := by
  rw [f_X8_close_b192]
  refine g_iconst (pc := 192) C (v := 0) dX8_close_192 (by decide) ?_
  exact g_sub [0, 1, 2, 3, 4, 5, 6, 7] rfl (p_X8_close_b193 C M k46 hk46 x1 x2 x3 x4 x5 x6 x7 0 S)
set_option maxRecDepth 100000 in
set_option maxHeartbeats 4000000 in
theorem p_X8_close_b188 {Γ : GA} {E : EV} (C : Cx Γ E RX8 cX8_close 11 4 (some .int)) (M : Mx Γ E) (k46 : Int32 → Int32 → Int32 → Int32 → Int32 → St → Option (Int32 × St)) (hk46 : ∀ (x1 : Int32) (x2 : Int32) (x3 : Int32) (x4 : Int32) (x5 : Int32) (S : St), G Γ E (QI Γ E) 11 46 [(0, .ref (gX Γ 55)), (1, .int x1), (2, .int x2), (3, .int x3), (4, .int x4), (5, .int x5)] [] S (k46 x1 x2 x3 x4 x5 S)) (x1 : Int32) (x2 : Int32) (x3 : Int32) (x4 : Int32) (x5 : Int32) (x6 : Int32) (x7 : Int32) (S : St) : G Γ E (QI Γ E) 11 188 [(0, .ref (gX Γ 55)), (1, .int x1), (2, .int x2), (3, .int x3), (4, .int x4), (5, .int x5), (6, .int x6), (7, .int x7)] [] S (f_X8_close_b188 k46 x1 x2 x3 x4 x5 x6 x7 S) := by
  rw [f_X8_close_b188]
  refine g_iconst (pc := 188) C (v := 1) dX8_close_188 (by decide) ?_
  refine g_goto (pc := 189) C 193 dX8_close_189 (by decide) ?_
  exact g_sub [0, 1, 2, 3, 4, 5, 6, 7] rfl (p_X8_close_b193 C M k46 hk46 x1 x2 x3 x4 x5 x6 x7 1 S)
set_option maxRecDepth 100000 in
set_option maxHeartbeats 4000000 in
theorem p_X8_close_b168 {Γ : GA} {E : EV} (C : Cx Γ E RX8 cX8_close 11 4 (some .int)) (M : Mx Γ E) (k46 : Int32 → Int32 → Int32 → Int32 → Int32 → St → Option (Int32 × St)) (hk46 : ∀ (x1 : Int32) (x2 : Int32) (x3 : Int32) (x4 : Int32) (x5 : Int32) (S : St), G Γ E (QI Γ E) 11 46 [(0, .ref (gX Γ 55)), (1, .int x1), (2, .int x2), (3, .int x3), (4, .int x4), (5, .int x5)] [] S (k46 x1 x2 x3 x4 x5 S)) (x1 : Int32) (x2 : Int32) (x3 : Int32) (x4 : Int32) (x5 : Int32) (x6 : Int32) (x7 : Int32) (x8 : Int32) (S : St) : G Γ E (QI Γ E) 11 168 [(0, .ref (gX Γ 55)), (1, .int x1), (2, .int x2), (3, .int x3), (4, .int x4), (5, .int x5), (6, .int x6), (7, .int x7), (8, .int x8)] [] S (f_X8_close_b168 k46 x1 x2 x3 x4 x5 x6 x7 x8 S) := by
  rw [f_X8_close_b168]
  refine g_iload (pc := 168) C dX8_close_168 8 rfl ?_
  refine g_if_eq (pc := 170) C 192 dX8_close_170 (by decide) ?_ ?_
  · exact g_sub [0, 1, 2, 3, 4, 5, 6, 7] rfl (p_X8_close_b192 C M k46 hk46 x1 x2 x3 x4 x5 x6 x7 S)
  · refine g_iload_n (pc := 173) C dX8_close_173 3 rfl rfl ?_
    refine g_iconst (pc := 174) C (v := (-1)) dX8_close_174 (by decide) ?_
    refine g_icmp_eq (pc := 175) C 188 dX8_close_175 (by decide) ?_ ?_
    · exact g_sub [0, 1, 2, 3, 4, 5, 6, 7] rfl (p_X8_close_b188 C M k46 hk46 x1 x2 x3 x4 x5 x6 x7 S)
    · refine g_iload (pc := 178) C dX8_close_178 7 rfl ?_
      refine g_iload (pc := 180) C dX8_close_180 6 rfl ?_
      refine g_isub (pc := 182) C dX8_close_182 ?_
      refine g_iload (pc := 183) C dX8_close_183 4 rfl ?_
      refine g_icmp_gt (pc := 185) C 192 dX8_close_185 (by decide) ?_ ?_
      · exact g_sub [0, 1, 2, 3, 4, 5, 6, 7] rfl (p_X8_close_b192 C M k46 hk46 x1 x2 x3 x4 x5 x6 x7 S)
      · exact g_sub [0, 1, 2, 3, 4, 5, 6, 7] rfl (p_X8_close_b188 C M k46 hk46 x1 x2 x3 x4 x5 x6 x7 S)
set_option maxRecDepth 100000 in
set_option maxHeartbeats 4000000 in
theorem p_X8_close_b160 {Γ : GA} {E : EV} (C : Cx Γ E RX8 cX8_close 11 4 (some .int)) (M : Mx Γ E) (k46 : Int32 → Int32 → Int32 → Int32 → Int32 → St → Option (Int32 × St)) (hk46 : ∀ (x1 : Int32) (x2 : Int32) (x3 : Int32) (x4 : Int32) (x5 : Int32) (S : St), G Γ E (QI Γ E) 11 46 [(0, .ref (gX Γ 55)), (1, .int x1), (2, .int x2), (3, .int x3), (4, .int x4), (5, .int x5)] [] S (k46 x1 x2 x3 x4 x5 S)) (k65 : Int32 → Int32 → Int32 → Int32 → Int32 → Int32 → Int32 → Int32 → Int32 → St → Option (Int32 × St)) (hk65 : ∀ (x1 : Int32) (x2 : Int32) (x3 : Int32) (x4 : Int32) (x5 : Int32) (x6 : Int32) (x7 : Int32) (x8 : Int32) (x9 : Int32) (S : St), G Γ E (QI Γ E) 11 65 [(0, .ref (gX Γ 55)), (1, .int x1), (2, .int x2), (3, .int x3), (4, .int x4), (5, .int x5), (6, .int x6), (7, .int x7), (8, .int x8), (9, .int x9)] [] S (k65 x1 x2 x3 x4 x5 x6 x7 x8 x9 S)) (x1 : Int32) (x2 : Int32) (x3 : Int32) (x4 : Int32) (x5 : Int32) (x6 : Int32) (x8 : Int32) (x9 : Int32) (s0 : Int32) (S : St) : G Γ E (QI Γ E) 11 160 [(0, .ref (gX Γ 55)), (1, .int x1), (2, .int x2), (3, .int x3), (4, .int x4), (5, .int x5), (6, .int x6), (8, .int x8), (9, .int x9)] [.int s0] S (f_X8_close_b160 k46 k65 x1 x2 x3 x4 x5 x6 x8 x9 s0 S) := by
  rw [f_X8_close_b160]
  refine g_istore0 (pc := 160) C dX8_close_160 (by decide) (lv' := [(7, .int s0), (0, .ref (gX Γ 55)), (1, .int x1), (2, .int x2), (3, .int x3), (4, .int x4), (5, .int x5), (6, .int x6), (8, .int x8), (9, .int x9)]) rfl ?_
  refine g_iinc (pc := 162) C (v := 1) dX8_close_162 9 rfl (by decide) (by decide) (fun x => [(9, .int x), (7, .int s0), (0, .ref (gX Γ 55)), (1, .int x1), (2, .int x2), (3, .int x3), (4, .int x4), (5, .int x5), (6, .int x6), (8, .int x8)]) (fun _ => rfl) (fun x9_10 => ?_)
  refine g_goto (pc := 165) C 65 dX8_close_165 (by decide) ?_
  exact g_sub [2, 3, 4, 5, 6, 7, 8, 1, 9, 0] rfl (hk65 x1 x2 x3 x4 x5 x6 s0 x8 x9_10 S)
set_option maxRecDepth 100000 in
set_option maxHeartbeats 4000000 in
theorem p_X8_close_b144 {Γ : GA} {E : EV} (C : Cx Γ E RX8 cX8_close 11 4 (some .int)) (M : Mx Γ E) (k46 : Int32 → Int32 → Int32 → Int32 → Int32 → St → Option (Int32 × St)) (hk46 : ∀ (x1 : Int32) (x2 : Int32) (x3 : Int32) (x4 : Int32) (x5 : Int32) (S : St), G Γ E (QI Γ E) 11 46 [(0, .ref (gX Γ 55)), (1, .int x1), (2, .int x2), (3, .int x3), (4, .int x4), (5, .int x5)] [] S (k46 x1 x2 x3 x4 x5 S)) (k65 : Int32 → Int32 → Int32 → Int32 → Int32 → Int32 → Int32 → Int32 → Int32 → St → Option (Int32 × St)) (hk65 : ∀ (x1 : Int32) (x2 : Int32) (x3 : Int32) (x4 : Int32) (x5 : Int32) (x6 : Int32) (x7 : Int32) (x8 : Int32) (x9 : Int32) (S : St), G Γ E (QI Γ E) 11 65 [(0, .ref (gX Γ 55)), (1, .int x1), (2, .int x2), (3, .int x3), (4, .int x4), (5, .int x5), (6, .int x6), (7, .int x7), (8, .int x8), (9, .int x9)] [] S (k65 x1 x2 x3 x4 x5 x6 x7 x8 x9 S)) (x1 : Int32) (x2 : Int32) (x3 : Int32) (x4 : Int32) (x5 : Int32) (x7 : Int32) (x8 : Int32) (x9 : Int32) (x10 : Int32) (s0 : Int32) (S : St) : G Γ E (QI Γ E) 11 144 [(0, .ref (gX Γ 55)), (1, .int x1), (2, .int x2), (3, .int x3), (4, .int x4), (5, .int x5), (7, .int x7), (8, .int x8), (9, .int x9), (10, .int x10)] [.int s0] S (f_X8_close_b144 k46 k65 x1 x2 x3 x4 x5 x7 x8 x9 x10 s0 S) := by
  rw [f_X8_close_b144]
  refine g_istore0 (pc := 144) C dX8_close_144 (by decide) (lv' := [(6, .int s0), (0, .ref (gX Γ 55)), (1, .int x1), (2, .int x2), (3, .int x3), (4, .int x4), (5, .int x5), (7, .int x7), (8, .int x8), (9, .int x9), (10, .int x10)]) rfl ?_
  refine g_iload (pc := 146) C dX8_close_146 10 rfl ?_
  refine g_iload (pc := 148) C dX8_close_148 7 rfl ?_
  refine g_icmp_le (pc := 150) C 158 dX8_close_150 (by decide) ?_ ?_
  · refine g_iload (pc := 158) C dX8_close_158 7 rfl ?_
    exact g_sub [1, 2, 3, 4, 5, 6, 0, 8, 9] rfl (p_X8_close_b160 C M k46 hk46 k65 hk65 x1 x2 x3 x4 x5 s0 x8 x9 x7 S)
  · refine g_iload (pc := 153) C dX8_close_153 10 rfl ?_
    refine g_goto (pc := 155) C 160 dX8_close_155 (by decide) ?_
    exact g_sub [1, 2, 3, 4, 5, 6, 0, 8, 9] rfl (p_X8_close_b160 C M k46 hk46 k65 hk65 x1 x2 x3 x4 x5 s0 x8 x9 x10 S)
set_option maxRecDepth 100000 in
set_option maxHeartbeats 4000000 in
theorem p_X8_close_b137 {Γ : GA} {E : EV} (C : Cx Γ E RX8 cX8_close 11 4 (some .int)) (M : Mx Γ E) (k46 : Int32 → Int32 → Int32 → Int32 → Int32 → St → Option (Int32 × St)) (hk46 : ∀ (x1 : Int32) (x2 : Int32) (x3 : Int32) (x4 : Int32) (x5 : Int32) (S : St), G Γ E (QI Γ E) 11 46 [(0, .ref (gX Γ 55)), (1, .int x1), (2, .int x2), (3, .int x3), (4, .int x4), (5, .int x5)] [] S (k46 x1 x2 x3 x4 x5 S)) (k65 : Int32 → Int32 → Int32 → Int32 → Int32 → Int32 → Int32 → Int32 → Int32 → St → Option (Int32 × St)) (hk65 : ∀ (x1 : Int32) (x2 : Int32) (x3 : Int32) (x4 : Int32) (x5 : Int32) (x6 : Int32) (x7 : Int32) (x8 : Int32) (x9 : Int32) (S : St), G Γ E (QI Γ E) 11 65 [(0, .ref (gX Γ 55)), (1, .int x1), (2, .int x2), (3, .int x3), (4, .int x4), (5, .int x5), (6, .int x6), (7, .int x7), (8, .int x8), (9, .int x9)] [] S (k65 x1 x2 x3 x4 x5 x6 x7 x8 x9 S)) (x1 : Int32) (x2 : Int32) (x3 : Int32) (x4 : Int32) (x5 : Int32) (x7 : Int32) (x8 : Int32) (x9 : Int32) (x10 : Int32) (S : St) : G Γ E (QI Γ E) 11 137 [(0, .ref (gX Γ 55)), (1, .int x1), (2, .int x2), (3, .int x3), (4, .int x4), (5, .int x5), (7, .int x7), (8, .int x8), (9, .int x9), (10, .int x10)] [] S (f_X8_close_b137 k46 k65 x1 x2 x3 x4 x5 x7 x8 x9 x10 S) := by
  rw [f_X8_close_b137]
  refine g_iload (pc := 137) C dX8_close_137 9 rfl ?_
  refine g_goto (pc := 139) C 144 dX8_close_139 (by decide) ?_
  exact g_sub [0, 1, 2, 3, 4, 5, 6, 7, 8, 9] rfl (p_X8_close_b144 C M k46 hk46 k65 hk65 x1 x2 x3 x4 x5 x7 x8 x9 x10 x10 S)
set_option maxRecDepth 100000 in
set_option maxHeartbeats 4000000 in
theorem p_X8_close_b123 {Γ : GA} {E : EV} (C : Cx Γ E RX8 cX8_close 11 4 (some .int)) (M : Mx Γ E) (k46 : Int32 → Int32 → Int32 → Int32 → Int32 → St → Option (Int32 × St)) (hk46 : ∀ (x1 : Int32) (x2 : Int32) (x3 : Int32) (x4 : Int32) (x5 : Int32) (S : St), G Γ E (QI Γ E) 11 46 [(0, .ref (gX Γ 55)), (1, .int x1), (2, .int x2), (3, .int x3), (4, .int x4), (5, .int x5)] [] S (k46 x1 x2 x3 x4 x5 S)) (k65 : Int32 → Int32 → Int32 → Int32 → Int32 → Int32 → Int32 → Int32 → Int32 → St → Option (Int32 × St)) (hk65 : ∀ (x1 : Int32) (x2 : Int32) (x3 : Int32) (x4 : Int32) (x5 : Int32) (x6 : Int32) (x7 : Int32) (x8 : Int32) (x9 : Int32) (S : St), G Γ E (QI Γ E) 11 65 [(0, .ref (gX Γ 55)), (1, .int x1), (2, .int x2), (3, .int x3), (4, .int x4), (5, .int x5), (6, .int x6), (7, .int x7), (8, .int x8), (9, .int x9)] [] S (k65 x1 x2 x3 x4 x5 x6 x7 x8 x9 S)) (x1 : Int32) (x2 : Int32) (x3 : Int32) (x4 : Int32) (x5 : Int32) (x6 : Int32) (x7 : Int32) (x9 : Int32) (x10 : Int32) (s0 : Int32) (S : St) : G Γ E (QI Γ E) 11 123 [(0, .ref (gX Γ 55)), (1, .int x1), (2, .int x2), (3, .int x3), (4, .int x4), (5, .int x5), (6, .int x6), (7, .int x7), (9, .int x9), (10, .int x10)] [.int s0] S (f_X8_close_b123 k46 k65 x1 x2 x3 x4 x5 x6 x7 x9 x10 s0 S) := by
  rw [f_X8_close_b123]
  refine g_istore0 (pc := 123) C dX8_close_123 (by decide) (lv' := [(8, .int s0), (0, .ref (gX Γ 55)), (1, .int x1), (2, .int x2), (3, .int x3), (4, .int x4), (5, .int x5), (6, .int x6), (7, .int x7), (9, .int x9), (10, .int x10)]) rfl ?_
  refine g_iload (pc := 125) C dX8_close_125 9 rfl ?_
  refine g_if_eq (pc := 127) C 137 dX8_close_127 (by decide) ?_ ?_
  · exact g_sub [1, 2, 3, 4, 5, 6, 8, 0, 9, 10] rfl (p_X8_close_b137 C M k46 hk46 k65 hk65 x1 x2 x3 x4 x5 x7 s0 x9 x10 S)
  · refine g_iload (pc := 130) C dX8_close_130 10 rfl ?_
    refine g_iload (pc := 132) C dX8_close_132 7 rfl ?_
    refine g_icmp_ge (pc := 134) C 142 dX8_close_134 (by decide) ?_ ?_
    · refine g_iload (pc := 142) C dX8_close_142 7 rfl ?_
      exact g_sub [1, 2, 3, 4, 5, 6, 8, 0, 9, 10] rfl (p_X8_close_b144 C M k46 hk46 k65 hk65 x1 x2 x3 x4 x5 x7 s0 x9 x10 x6 S)
    · exact g_sub [1, 2, 3, 4, 5, 6, 8, 0, 9, 10] rfl (p_X8_close_b137 C M k46 hk46 k65 hk65 x1 x2 x3 x4 x5 x7 s0 x9 x10 S)
set_option maxRecDepth 100000 in
set_option maxHeartbeats 4000000 in
theorem p_X8_close_b107 {Γ : GA} {E : EV} (C : Cx Γ E RX8 cX8_close 11 4 (some .int)) (M : Mx Γ E) (k46 : Int32 → Int32 → Int32 → Int32 → Int32 → St → Option (Int32 × St)) (hk46 : ∀ (x1 : Int32) (x2 : Int32) (x3 : Int32) (x4 : Int32) (x5 : Int32) (S : St), G Γ E (QI Γ E) 11 46 [(0, .ref (gX Γ 55)), (1, .int x1), (2, .int x2), (3, .int x3), (4, .int x4), (5, .int x5)] [] S (k46 x1 x2 x3 x4 x5 S)) (k65 : Int32 → Int32 → Int32 → Int32 → Int32 → Int32 → Int32 → Int32 → Int32 → St → Option (Int32 × St)) (hk65 : ∀ (x1 : Int32) (x2 : Int32) (x3 : Int32) (x4 : Int32) (x5 : Int32) (x6 : Int32) (x7 : Int32) (x8 : Int32) (x9 : Int32) (S : St), G Γ E (QI Γ E) 11 65 [(0, .ref (gX Γ 55)), (1, .int x1), (2, .int x2), (3, .int x3), (4, .int x4), (5, .int x5), (6, .int x6), (7, .int x7), (8, .int x8), (9, .int x9)] [] S (k65 x1 x2 x3 x4 x5 x6 x7 x8 x9 S)) (x1 : Int32) (x2 : Int32) (x3 : Int32) (x4 : Int32) (x5 : Int32) (x6 : Int32) (x7 : Int32) (x9 : Int32) (s0 : Int32) (s1 : Int32) (s2 : Int32) (S : St) : G Γ E (QI Γ E) 11 107 [(0, .ref (gX Γ 55)), (1, .int x1), (2, .int x2), (3, .int x3), (4, .int x4), (5, .int x5), (6, .int x6), (7, .int x7), (9, .int x9)] [.int s0, .int s1, .int s2, .ref (gX Γ 55)] S (f_X8_close_b107 k46 k65 x1 x2 x3 x4 x5 x6 x7 x9 s0 s1 s2 S) := by
  rw [f_X8_close_b107]
  refine g_callVI (pc := 107) (As := [.int s2, .int s1, .int s0]) (st := []) C lv_X8_208 fo_55 rfl (ct_X8_timeBy s2 s1 s0 S) (by decide) rfl rfl (Nat.le_of_ble_eq_true rfl) dX8_close_107 (fun r_9 S_8 => ?_)
  refine g_istore0 (pc := 110) C dX8_close_110 (by decide) (lv' := [(10, .int r_9), (0, .ref (gX Γ 55)), (1, .int x1), (2, .int x2), (3, .int x3), (4, .int x4), (5, .int x5), (6, .int x6), (7, .int x7), (9, .int x9)]) rfl ?_
  refine g_iload (pc := 112) C dX8_close_112 0 rfl ?_
  refine g_iconst (pc := 114) C (v := (-1)) dX8_close_114 (by decide) ?_
  refine g_icmp_eq (pc := 115) C 122 dX8_close_115 (by decide) ?_ ?_
  · refine g_iconst (pc := 122) C (v := 0) dX8_close_122 (by decide) ?_
    exact g_sub [1, 2, 3, 4, 5, 6, 7, 8, 9, 0] rfl (p_X8_close_b123 C M k46 hk46 k65 hk65 x1 x2 x3 x4 x5 x6 x7 x9 r_9 0 S_8)
  · refine g_iconst (pc := 118) C (v := 1) dX8_close_118 (by decide) ?_
    refine g_goto (pc := 119) C 123 dX8_close_119 (by decide) ?_
    exact g_sub [1, 2, 3, 4, 5, 6, 7, 8, 9, 0] rfl (p_X8_close_b123 C M k46 hk46 k65 hk65 x1 x2 x3 x4 x5 x6 x7 x9 r_9 1 S_8)
set_option maxRecDepth 100000 in
set_option maxHeartbeats 4000000 in
theorem p_X8_close_l65 {Γ : GA} {E : EV} (C : Cx Γ E RX8 cX8_close 11 4 (some .int)) (M : Mx Γ E) (k46 : Int32 → Int32 → Int32 → Int32 → Int32 → St → Option (Int32 × St)) (hk46 : ∀ (x1 : Int32) (x2 : Int32) (x3 : Int32) (x4 : Int32) (x5 : Int32) (S : St), G Γ E (QI Γ E) 11 46 [(0, .ref (gX Γ 55)), (1, .int x1), (2, .int x2), (3, .int x3), (4, .int x4), (5, .int x5)] [] S (k46 x1 x2 x3 x4 x5 S)) : ∀ (n : Nat) (x1 : Int32) (x2 : Int32) (x3 : Int32) (x4 : Int32) (x5 : Int32) (x6 : Int32) (x7 : Int32) (x8 : Int32) (x9 : Int32) (S : St), G Γ E (QI Γ E) 11 65 [(0, .ref (gX Γ 55)), (1, .int x1), (2, .int x2), (3, .int x3), (4, .int x4), (5, .int x5), (6, .int x6), (7, .int x7), (8, .int x8), (9, .int x9)] [] S (f_X8_close_l65 k46 n x1 x2 x3 x4 x5 x6 x7 x8 x9 S) := by
  intro n
  induction n with
  | zero => intro x1 x2 x3 x4 x5 x6 x7 x8 x9 S; exact g_none
  | succ n ih =>
    intro x1 x2 x3 x4 x5 x6 x7 x8 x9 S
    rw [f_X8_close_l65]
    refine g_iload (pc := 65) C dX8_close_65 9 rfl ?_
    refine g_aload_n (pc := 67) C dX8_close_67 0 rfl rfl ?_
    refine g_getI (pc := 68) C lk_X8_122 fi_55_12 dX8_close_68 ?_
    refine g_icmp_ge (pc := 71) C 168 dX8_close_71 (by decide) ?_ ?_
    · exact g_sub [0, 1, 2, 3, 4, 5, 6, 7, 8] rfl (p_X8_close_b168 C M k46 hk46 x1 x2 x3 x4 x5 x6 x7 x8 S)
    · refine g_iload (pc := 74) C dX8_close_74 8 rfl ?_
      refine g_if_eq (pc := 76) C 168 dX8_close_76 (by decide) ?_ ?_
      · exact g_sub [0, 1, 2, 3, 4, 5, 6, 7, 8] rfl (p_X8_close_b168 C M k46 hk46 x1 x2 x3 x4 x5 x6 x7 x8 S)
      · refine g_aload_n (pc := 79) C dX8_close_79 0 rfl rfl ?_
        refine g_iload (pc := 80) C dX8_close_80 9 rfl ?_
        refine g_iload_n (pc := 82) C dX8_close_82 1 rfl rfl ?_
        refine g_aload_n (pc := 83) C dX8_close_83 0 rfl rfl ?_
        refine g_getR (pc := 84) C lk_X8_28 fr_55_13 dX8_close_84 ?_
        refine g_iload (pc := 87) C dX8_close_87 9 rfl ?_
        refine g_iald (pc := 89) C ai_62 dX8_close_89 ?_
        refine g_iload (pc := 90) C dX8_close_90 5 rfl ?_
        refine g_icmp_le (pc := 92) C 100 dX8_close_92 (by decide) ?_ ?_
        · refine g_aload_n (pc := 100) C dX8_close_100 0 rfl rfl ?_
          refine g_getR (pc := 101) C lk_X8_28 fr_55_13 dX8_close_101 ?_
          refine g_iload (pc := 104) C dX8_close_104 9 rfl ?_
          refine g_iald (pc := 106) C ai_62 dX8_close_106 ?_
          exact g_sub [0, 1, 2, 3, 4, 5, 6, 7, 9] rfl (p_X8_close_b107 C M k46 hk46 (f_X8_close_l65 k46 n) ih x1 x2 x3 x4 x5 x6 x7 x9 (S 62 (x9 : Int32).toNatClampNeg) x1 x9 S)
        · refine g_iload (pc := 95) C dX8_close_95 5 rfl ?_
          refine g_goto (pc := 97) C 107 dX8_close_97 (by decide) ?_
          exact g_sub [0, 1, 2, 3, 4, 5, 6, 7, 9] rfl (p_X8_close_b107 C M k46 hk46 (f_X8_close_l65 k46 n) ih x1 x2 x3 x4 x5 x6 x7 x9 x5 x1 x9 S)
set_option maxRecDepth 100000 in
set_option maxHeartbeats 4000000 in
theorem p_X8_close_l46 {Γ : GA} {E : EV} (C : Cx Γ E RX8 cX8_close 11 4 (some .int)) (M : Mx Γ E) : ∀ (n : Nat) (x1 : Int32) (x2 : Int32) (x3 : Int32) (x4 : Int32) (x5 : Int32) (S : St), G Γ E (QI Γ E) 11 46 [(0, .ref (gX Γ 55)), (1, .int x1), (2, .int x2), (3, .int x3), (4, .int x4), (5, .int x5)] [] S (f_X8_close_l46 n x1 x2 x3 x4 x5 S) := by
  intro n
  induction n with
  | zero => intro x1 x2 x3 x4 x5 S; exact g_none
  | succ n ih =>
    intro x1 x2 x3 x4 x5 S
    rw [f_X8_close_l46]
    refine g_iload (pc := 46) C dX8_close_46 5 rfl ?_
    refine g_bipush (pc := 48) C (v := 100) dX8_close_48 (by decide) ?_
    refine g_icmp_ge (pc := 50) C 230 dX8_close_50 (by decide) ?_ ?_
    · refine g_iload_n (pc := 230) C dX8_close_230 3 rfl rfl ?_
      refine g_iconst (pc := 231) C (v := (-1)) dX8_close_231 (by decide) ?_
      refine g_icmp_eq (pc := 232) C 239 dX8_close_232 (by decide) ?_ ?_
      · exact g_sub [3] rfl (p_X8_close_b239 C M x3 S)
      · refine g_iload_n (pc := 235) C dX8_close_235 2 rfl rfl ?_
        refine g_if_ne (pc := 236) C 243 dX8_close_236 (by decide) ?_ ?_
        · exact g_sub [3] rfl (p_X8_close_b239 C M x3 S)
        · refine g_iload (pc := 243) C dX8_close_243 4 rfl ?_
          exact g_iret C M dX8_close_245
    · refine g_iconst (pc := 53) C (v := (-1)) dX8_close_53 (by decide) ?_
      refine g_istore0 (pc := 54) C dX8_close_54 (by decide) (lv' := [(6, .int (-1)), (0, .ref (gX Γ 55)), (1, .int x1), (2, .int x2), (3, .int x3), (4, .int x4), (5, .int x5)]) rfl ?_
      refine g_iconst (pc := 56) C (v := (-1)) dX8_close_56 (by decide) ?_
      refine g_istore0 (pc := 57) C dX8_close_57 (by decide) (lv' := [(7, .int (-1)), (6, .int (-1)), (0, .ref (gX Γ 55)), (1, .int x1), (2, .int x2), (3, .int x3), (4, .int x4), (5, .int x5)]) rfl ?_
      refine g_iconst (pc := 59) C (v := 1) dX8_close_59 (by decide) ?_
      refine g_istore0 (pc := 60) C dX8_close_60 (by decide) (lv' := [(8, .int 1), (7, .int (-1)), (6, .int (-1)), (0, .ref (gX Γ 55)), (1, .int x1), (2, .int x2), (3, .int x3), (4, .int x4), (5, .int x5)]) rfl ?_
      refine g_iconst (pc := 62) C (v := 0) dX8_close_62 (by decide) ?_
      refine g_istore0 (pc := 63) C dX8_close_63 (by decide) (lv' := [(9, .int 0), (8, .int 1), (7, .int (-1)), (6, .int (-1)), (0, .ref (gX Γ 55)), (1, .int x1), (2, .int x2), (3, .int x3), (4, .int x4), (5, .int x5)]) rfl ?_
      exact g_sub [4, 5, 6, 7, 8, 9, 3, 2, 1, 0] rfl (p_X8_close_l65 C M (f_X8_close_l46 n) ih FU x1 x2 x3 x4 x5 (-1) (-1) 1 0 S)
set_option maxRecDepth 100000 in
set_option maxHeartbeats 4000000 in
theorem p_X8_close {Γ : GA} {E : EV} (C : Cx Γ E RX8 cX8_close 11 4 (some .int)) (M : Mx Γ E) (x1 : Int32) (x2 : Int32) (S : St) : G Γ E (QI Γ E) 11 0 [(0, .ref (gX Γ 55)), (1, .int x1), (2, .int x2)] [] S (f_X8_close x1 x2 S) := by
  rw [f_X8_close]
  refine g_aload_n (pc := 0) C dX8_close_0 0 rfl rfl ?_
  refine g_callVI (pc := 1) (As := []) (st := []) C lv_X8_182 fo_55 rfl (ct_X8_lacks S) (by decide) rfl rfl (Nat.le_of_ble_eq_true rfl) dX8_close_1 (fun r_2 S_1 => ?_)
  refine g_if_ne (pc := 4) C 14 dX8_close_4 (by decide) ?_ ?_
  · refine g_aload_n (pc := 7) C dX8_close_7 0 rfl rfl ?_
    refine g_getI (pc := 8) C lk_X8_122 fi_55_12 dX8_close_8 ?_
    refine g_if_ne (pc := 11) C 17 dX8_close_11 (by decide) ?_ ?_
    · refine g_bipush (pc := 14) C (v := (-103)) dX8_close_14 (by decide) ?_
      exact g_iret C M dX8_close_16
    · refine g_iload_n (pc := 17) C dX8_close_17 1 rfl rfl ?_
      refine g_callSI (pc := 18) (As := [.int x1]) (st := []) C ls_X8_186 (ct_X8_isSwing x1 S_1) (by decide) rfl rfl (Nat.le_of_ble_eq_true rfl) dX8_close_18 (fun r_4 S_3 => ?_)
      refine g_if_eq (pc := 21) C 34 dX8_close_21 (by decide) ?_ ?_
      · refine g_bipush (pc := 34) C (v := (-102)) dX8_close_34 (by decide) ?_
        exact g_iret C M dX8_close_36
      · refine g_iload_n (pc := 24) C dX8_close_24 2 rfl rfl ?_
        refine g_i2l (pc := 25) C dX8_close_25 ?_
        refine g_lconst (pc := 26) C (v := 0) dX8_close_26 (by decide) ?_
        refine g_lconst (pc := 27) C (v := 1) dX8_close_27 (by decide) ?_
        refine g_callSI (pc := 28) (As := [.long ((x2 : Int32).toInt64), .long 0, .long 1]) (st := []) C ls_X8_89 (ct_X8_in ((x2 : Int32).toInt64) 0 1 S_3) (by decide) rfl rfl (Nat.le_of_ble_eq_true rfl) dX8_close_28 (fun r_6 S_5 => ?_)
        refine g_if_ne (pc := 31) C 37 dX8_close_31 (by decide) ?_ ?_
        · refine g_bipush (pc := 34) C (v := (-102)) dX8_close_34 (by decide) ?_
          exact g_iret C M dX8_close_36
        · refine g_iconst (pc := 37) C (v := (-1)) dX8_close_37 (by decide) ?_
          refine g_istore_n0 (pc := 38) C dX8_close_38 rfl (by decide) (lv' := [(3, .int (-1)), (0, .ref (gX Γ 55)), (1, .int x1), (2, .int x2)]) rfl ?_
          refine g_iconst (pc := 39) C (v := 0) dX8_close_39 (by decide) ?_
          refine g_istore0 (pc := 40) C dX8_close_40 (by decide) (lv' := [(4, .int 0), (3, .int (-1)), (0, .ref (gX Γ 55)), (1, .int x1), (2, .int x2)]) rfl ?_
          refine g_bipush (pc := 42) C (v := 10) dX8_close_42 (by decide) ?_
          refine g_istore0 (pc := 44) C dX8_close_44 (by decide) (lv' := [(5, .int 10), (4, .int 0), (3, .int (-1)), (0, .ref (gX Γ 55)), (1, .int x1), (2, .int x2)]) rfl ?_
          exact g_sub [3, 4, 5, 2, 1, 0] rfl (p_X8_close_l46 C M FU x1 x2 (-1) 0 10 S_5)
  · refine g_bipush (pc := 14) C (v := (-103)) dX8_close_14 (by decide) ?_
    exact g_iret C M dX8_close_16
theorem ct_X8_close {Γ : GA} (x1 : Int32) (x2 : Int32) (S : St) : CtI Γ yX8_close cX8_close 11 (some .int) 4 [.ref (gX Γ 55), .int x1, .int x2] S (f_X8_close x1 x2 S) :=
  ctI_of (by decide) (Nat.le_of_ble_eq_true rfl) (fun _ C M => p_X8_close C M x1 x2 S)
set_option maxRecDepth 100000 in
set_option maxHeartbeats 4000000 in
theorem p_X8_farthestBy_l56 {Γ : GA} {E : EV} (C : Cx Γ E RX8 cX8_farthestBy 8 1 (some .int)) (M : Mx Γ E) (k41 : Int32 → Int32 → St → Option (Int32 × St)) (hk41 : ∀ (x4 : Int32) (x5 : Int32) (S : St), G Γ E (QI Γ E) 8 41 [(0, .ref (gX Γ 55)), (4, .int x4), (5, .int x5)] [] S (k41 x4 x5 S)) : ∀ (n : Nat) (x4 : Int32) (x5 : Int32) (x6 : Int32) (x7 : Int32) (S : St), G Γ E (QI Γ E) 8 56 [(0, .ref (gX Γ 55)), (4, .int x4), (5, .int x5), (6, .int x6), (7, .int x7)] [] S (f_X8_farthestBy_l56 k41 n x4 x5 x6 x7 S) := by
  intro n
  induction n with
  | zero => intro x4 x5 x6 x7 S; exact g_none
  | succ n ih =>
    intro x4 x5 x6 x7 S
    rw [f_X8_farthestBy_l56]
    refine g_iload (pc := 56) C dX8_farthestBy_56 4 rfl ?_
    refine g_aload_n (pc := 58) C dX8_farthestBy_58 0 rfl rfl ?_
    refine g_getI (pc := 59) C lk_X8_149 fi_55_18 dX8_farthestBy_59 ?_
    refine g_icmp_ge (pc := 62) C 87 dX8_farthestBy_62 (by decide) ?_ ?_
    · refine g_iload (pc := 87) C dX8_farthestBy_87 1 rfl ?_
      refine g_if_gt (pc := 89) C 95 dX8_farthestBy_89 (by decide) ?_ ?_
      · refine g_iinc (pc := 95) C (v := 1) dX8_farthestBy_95 2 rfl (by decide) (by decide) (fun x => [(5, .int x), (0, .ref (gX Γ 55)), (4, .int x4), (6, .int x6), (7, .int x7)]) (fun _ => rfl) (fun x5_6 => ?_)
        refine g_goto (pc := 98) C 41 dX8_farthestBy_98 (by decide) ?_
        exact g_sub [1, 2, 0] rfl (hk41 x4 x5_6 S)
      · refine g_iload (pc := 92) C dX8_farthestBy_92 2 rfl ?_
        exact g_iret C M dX8_farthestBy_94
    · refine g_iload (pc := 65) C dX8_farthestBy_65 1 rfl ?_
      refine g_aload_n (pc := 67) C dX8_farthestBy_67 0 rfl rfl ?_
      refine g_iload (pc := 68) C dX8_farthestBy_68 4 rfl ?_
      refine g_iload (pc := 70) C dX8_farthestBy_70 3 rfl ?_
      refine g_iconst (pc := 72) C (v := 0) dX8_farthestBy_72 (by decide) ?_
      refine g_iconst (pc := 73) C (v := 0) dX8_farthestBy_73 (by decide) ?_
      refine g_iconst (pc := 74) C (v := 0) dX8_farthestBy_74 (by decide) ?_
      refine g_callVI (pc := 75) (As := [.int x7, .int x6, .int 0, .int 0, .int 0]) (st := [.int x4]) C lv_X8_155 fo_55 rfl (ct_X8_takes x7 x6 0 0 0 S) (by decide) rfl rfl (Nat.le_of_ble_eq_true rfl) dX8_farthestBy_75 (fun r_8 S_7 => ?_)
      refine g_isub (pc := 78) C dX8_farthestBy_78 ?_
      refine g_istore (pc := 79) C dX8_farthestBy_79 (by decide) (fun x => [(4, .int x), (0, .ref (gX Γ 55)), (5, .int x5), (6, .int x6), (7, .int x7)]) (fun _ => rfl) (fun x4_9 => ?_)
      refine g_iinc (pc := 81) C (v := 1) dX8_farthestBy_81 4 rfl (by decide) (by decide) (fun x => [(7, .int x), (4, .int x4_9), (0, .ref (gX Γ 55)), (5, .int x5), (6, .int x6)]) (fun _ => rfl) (fun x7_10 => ?_)
      refine g_goto (pc := 84) C 56 dX8_farthestBy_84 (by decide) ?_
      exact g_sub [2, 1, 3, 4, 0] rfl (ih x4_9 x5 x6 x7_10 S_7)
set_option maxRecDepth 100000 in
set_option maxHeartbeats 4000000 in
theorem p_X8_farthestBy_l41 {Γ : GA} {E : EV} (C : Cx Γ E RX8 cX8_farthestBy 8 1 (some .int)) (M : Mx Γ E) : ∀ (n : Nat) (x4 : Int32) (x5 : Int32) (S : St), G Γ E (QI Γ E) 8 41 [(0, .ref (gX Γ 55)), (4, .int x4), (5, .int x5)] [] S (f_X8_farthestBy_l41 n x4 x5 S) := by
  intro n
  induction n with
  | zero => intro x4 x5 S; exact g_none
  | succ n ih =>
    intro x4 x5 S
    rw [f_X8_farthestBy_l41]
    refine g_iload (pc := 41) C dX8_farthestBy_41 2 rfl ?_
    refine g_sipush (pc := 43) C (v := 999) dX8_farthestBy_43 (by decide) ?_
    refine g_icmp_ge (pc := 46) C 101 dX8_farthestBy_46 (by decide) ?_ ?_
    · refine g_sipush (pc := 101) C (v := 999) dX8_farthestBy_101 (by decide) ?_
      exact g_iret C M dX8_farthestBy_104
    · refine g_iload (pc := 49) C dX8_farthestBy_49 1 rfl ?_
      refine g_istore0 (pc := 51) C dX8_farthestBy_51 (by decide) (lv' := [(6, .int x4), (0, .ref (gX Γ 55)), (4, .int x4), (5, .int x5)]) rfl ?_
      refine g_iconst (pc := 53) C (v := 0) dX8_farthestBy_53 (by decide) ?_
      refine g_istore0 (pc := 54) C dX8_farthestBy_54 (by decide) (lv' := [(7, .int 0), (6, .int x4), (0, .ref (gX Γ 55)), (4, .int x4), (5, .int x5)]) rfl ?_
      exact g_sub [2, 3, 4, 1, 0] rfl (p_X8_farthestBy_l56 C M (f_X8_farthestBy_l41 n) ih FU x4 x5 x4 0 S)
set_option maxRecDepth 100000 in
set_option maxHeartbeats 4000000 in
theorem p_X8_farthestBy {Γ : GA} {E : EV} (C : Cx Γ E RX8 cX8_farthestBy 8 1 (some .int)) (M : Mx Γ E) (x1 : Int32) (x2 : Int32) (x3 : Int32) (S : St) : G Γ E (QI Γ E) 8 0 [(0, .ref (gX Γ 55)), (1, .int x1), (2, .int x2), (3, .int x3)] [] S (f_X8_farthestBy x1 x2 x3 S) := by
  rw [f_X8_farthestBy]
  refine g_aload_n (pc := 0) C dX8_farthestBy_0 0 rfl rfl ?_
  refine g_iload_n (pc := 1) C dX8_farthestBy_1 1 rfl rfl ?_
  refine g_callVV (pc := 2) (As := [.int x1]) (st := []) C lv_X8_191 fo_55 rfl (ct_X8_take x1 S) (by decide) rfl rfl (Nat.le_of_ble_eq_true rfl) dX8_farthestBy_2 (fun r_2 S_1 => ?_)
  refine g_aload_n (pc := 5) C dX8_farthestBy_5 0 rfl rfl ?_
  refine g_getR (pc := 6) C lk_X8_37 fr_55_19 dX8_farthestBy_6 ?_
  refine g_aload_n (pc := 9) C dX8_farthestBy_9 0 rfl rfl ?_
  refine g_getI (pc := 10) C lk_X8_149 fi_55_18 dX8_farthestBy_10 ?_
  refine g_iconst (pc := 13) C (v := 1) dX8_farthestBy_13 (by decide) ?_
  refine g_iast (pc := 14) C ai_65 dX8_farthestBy_14 (fun S_3 => ?_)
  refine g_aload_n (pc := 15) C dX8_farthestBy_15 0 rfl rfl ?_
  refine g_getR (pc := 16) C lk_X8_40 fr_55_20 dX8_farthestBy_16 ?_
  refine g_aload_n (pc := 19) C dX8_farthestBy_19 0 rfl rfl ?_
  refine g_getI (pc := 20) C lk_X8_149 fi_55_18 dX8_farthestBy_20 ?_
  refine g_iload_n (pc := 23) C dX8_farthestBy_23 3 rfl rfl ?_
  refine g_iast (pc := 24) C ai_66 dX8_farthestBy_24 (fun S_4 => ?_)
  refine g_aload_n (pc := 25) C dX8_farthestBy_25 0 rfl rfl ?_
  refine g_dup (pc := 26) C dX8_farthestBy_26 rfl ?_
  refine g_getI (pc := 27) C lk_X8_149 fi_55_18 dX8_farthestBy_27 ?_
  refine g_iconst (pc := 30) C (v := 1) dX8_farthestBy_30 (by decide) ?_
  refine g_iadd (pc := 31) C dX8_farthestBy_31 ?_
  refine g_putI (pc := 32) C lp_X8_149 fi_55_18 dX8_farthestBy_32 (fun S_5 => ?_)
  refine g_iload_n (pc := 35) C dX8_farthestBy_35 2 rfl rfl ?_
  refine g_istore0 (pc := 36) C dX8_farthestBy_36 (by decide) (lv' := [(4, .int x2), (0, .ref (gX Γ 55)), (1, .int x1), (2, .int x2), (3, .int x3)]) rfl ?_
  refine g_iconst (pc := 38) C (v := 0) dX8_farthestBy_38 (by decide) ?_
  refine g_istore0 (pc := 39) C dX8_farthestBy_39 (by decide) (lv' := [(5, .int 0), (4, .int x2), (0, .ref (gX Γ 55)), (1, .int x1), (2, .int x2), (3, .int x3)]) rfl ?_
  exact g_sub [2, 1, 0] rfl (p_X8_farthestBy_l41 C M FU x2 0 S_5)
theorem ct_X8_farthestBy {Γ : GA} (x1 : Int32) (x2 : Int32) (x3 : Int32) (S : St) : CtI Γ yX8_farthestBy cX8_farthestBy 8 (some .int) 1 [.ref (gX Γ 55), .int x1, .int x2, .int x3] S (f_X8_farthestBy x1 x2 x3 S) :=
  ctI_of (by decide) (Nat.le_of_ble_eq_true rfl) (fun _ C M => p_X8_farthestBy C M x1 x2 x3 S)
set_option maxRecDepth 100000 in
set_option maxHeartbeats 4000000 in
theorem p_X8_farthest {Γ : GA} {E : EV} (C : Cx Γ E RX8 cX8_farthest 3 2 (some .int)) (M : Mx Γ E) (x1 : Int32) (x2 : Int32) (S : St) : G Γ E (QI Γ E) 3 0 [(0, .ref (gX Γ 55)), (1, .int x1), (2, .int x2)] [] S (f_X8_farthest x1 x2 S) := by
  rw [f_X8_farthest]
  refine g_aload_n (pc := 0) C dX8_farthest_0 0 rfl rfl ?_
  refine g_iload_n (pc := 1) C dX8_farthest_1 1 rfl rfl ?_
  refine g_callVI (pc := 2) (As := [.int x1]) (st := []) C lv_X8_132 fo_55 rfl (ct_X8_isCart x1 S) (by decide) rfl rfl (Nat.le_of_ble_eq_true rfl) dX8_farthest_2 (fun r_2 S_1 => ?_)
  refine g_if_ne (pc := 5) C 11 dX8_farthest_5 (by decide) ?_ ?_
  · refine g_bipush (pc := 8) C (v := (-101)) dX8_farthest_8 (by decide) ?_
    exact g_iret C M dX8_farthest_10
  · refine g_iload_n (pc := 11) C dX8_farthest_11 2 rfl rfl ?_
    refine g_callSI (pc := 12) (As := [.int x2]) (st := []) C ls_X8_186 (ct_X8_isSwing x2 S_1) (by decide) rfl rfl (Nat.le_of_ble_eq_true rfl) dX8_farthest_12 (fun r_4 S_3 => ?_)
    refine g_if_eq (pc := 15) C 28 dX8_farthest_15 (by decide) ?_ ?_
    · refine g_bipush (pc := 28) C (v := (-102)) dX8_farthest_28 (by decide) ?_
      exact g_iret C M dX8_farthest_30
    · refine g_aload_n (pc := 18) C dX8_farthest_18 0 rfl rfl ?_
      refine g_iload_n (pc := 19) C dX8_farthest_19 1 rfl rfl ?_
      refine g_iload_n (pc := 20) C dX8_farthest_20 2 rfl rfl ?_
      refine g_iconst (pc := 21) C (v := 0) dX8_farthest_21 (by decide) ?_
      refine g_callVI (pc := 22) (As := [.int x1, .int x2, .int 0]) (st := []) C lv_X8_212 fo_55 rfl (ct_X8_farthestBy x1 x2 0 S_3) (by decide) rfl rfl (Nat.le_of_ble_eq_true rfl) dX8_farthest_22 (fun r_6 S_5 => ?_)
      refine g_goto (pc := 25) C 30 dX8_farthest_25 (by decide) ?_
      exact g_iret C M dX8_farthest_30
theorem ct_X8_farthest {Γ : GA} (x1 : Int32) (x2 : Int32) (S : St) : CtI Γ yX8_farthest cX8_farthest 3 (some .int) 2 [.ref (gX Γ 55), .int x1, .int x2] S (f_X8_farthest x1 x2 S) :=
  ctI_of (by decide) (Nat.le_of_ble_eq_true rfl) (fun _ C M => p_X8_farthest C M x1 x2 S)
set_option maxRecDepth 100000 in
set_option maxHeartbeats 4000000 in
theorem p_X8_coast {Γ : GA} {E : EV} (C : Cx Γ E RX8 cX8_coast 4 2 (some .int)) (M : Mx Γ E) (x1 : Int32) (x2 : Int32) (x3 : Int32) (S : St) : G Γ E (QI Γ E) 4 0 [(0, .ref (gX Γ 55)), (1, .int x1), (2, .int x2), (3, .int x3)] [] S (f_X8_coast x1 x2 x3 S) := by
  rw [f_X8_coast]
  refine g_aload_n (pc := 0) C dX8_coast_0 0 rfl rfl ?_
  refine g_iload_n (pc := 1) C dX8_coast_1 1 rfl rfl ?_
  refine g_callVI (pc := 2) (As := [.int x1]) (st := []) C lv_X8_132 fo_55 rfl (ct_X8_isCart x1 S) (by decide) rfl rfl (Nat.le_of_ble_eq_true rfl) dX8_coast_2 (fun r_2 S_1 => ?_)
  refine g_if_ne (pc := 5) C 11 dX8_coast_5 (by decide) ?_ ?_
  · refine g_bipush (pc := 8) C (v := (-101)) dX8_coast_8 (by decide) ?_
    exact g_iret C M dX8_coast_10
  · refine g_iload_n (pc := 11) C dX8_coast_11 2 rfl rfl ?_
    refine g_callSI (pc := 12) (As := [.int x2]) (st := []) C ls_X8_186 (ct_X8_isSwing x2 S_1) (by decide) rfl rfl (Nat.le_of_ble_eq_true rfl) dX8_coast_12 (fun r_4 S_3 => ?_)
    refine g_if_eq (pc := 15) C 30 dX8_coast_15 (by decide) ?_ ?_
    · refine g_bipush (pc := 30) C (v := (-102)) dX8_coast_30 (by decide) ?_
      exact g_iret C M dX8_coast_32
    · refine g_iload_n (pc := 18) C dX8_coast_18 3 rfl rfl ?_
      refine g_i2l (pc := 19) C dX8_coast_19 ?_
      refine g_lconst (pc := 20) C (v := 0) dX8_coast_20 (by decide) ?_
      refine g_ldc2 (pc := 21) C kc_X8_142 dX8_coast_21 ?_
      refine g_callSI (pc := 24) (As := [.long ((x3 : Int32).toInt64), .long 0, .long 99]) (st := []) C ls_X8_89 (ct_X8_in ((x3 : Int32).toInt64) 0 99 S_3) (by decide) rfl rfl (Nat.le_of_ble_eq_true rfl) dX8_coast_24 (fun r_6 S_5 => ?_)
      refine g_if_ne (pc := 27) C 33 dX8_coast_27 (by decide) ?_ ?_
      · refine g_bipush (pc := 30) C (v := (-102)) dX8_coast_30 (by decide) ?_
        exact g_iret C M dX8_coast_32
      · refine g_aload_n (pc := 33) C dX8_coast_33 0 rfl rfl ?_
        refine g_getI (pc := 34) C lk_X8_215 fi_55_29 dX8_coast_34 ?_
        refine g_bipush (pc := 37) C (v := 8) dX8_coast_37 (by decide) ?_
        refine g_icmp_ne (pc := 39) C 45 dX8_coast_39 (by decide) ?_ ?_
        · refine g_bipush (pc := 42) C (v := (-104)) dX8_coast_42 (by decide) ?_
          exact g_iret C M dX8_coast_44
        · refine g_aload_n (pc := 45) C dX8_coast_45 0 rfl rfl ?_
          refine g_getR (pc := 46) C lk_X8_52 fr_55_30 dX8_coast_46 ?_
          refine g_iconst (pc := 49) C (v := 3) dX8_coast_49 (by decide) ?_
          refine g_aload_n (pc := 50) C dX8_coast_50 0 rfl rfl ?_
          refine g_getI (pc := 51) C lk_X8_215 fi_55_29 dX8_coast_51 ?_
          refine g_imul (pc := 54) C dX8_coast_54 ?_
          refine g_iload_n (pc := 55) C dX8_coast_55 1 rfl rfl ?_
          refine g_iast (pc := 56) C ai_70 dX8_coast_56 (fun S_7 => ?_)
          refine g_aload_n (pc := 57) C dX8_coast_57 0 rfl rfl ?_
          refine g_getR (pc := 58) C lk_X8_52 fr_55_30 dX8_coast_58 ?_
          refine g_iconst (pc := 61) C (v := 3) dX8_coast_61 (by decide) ?_
          refine g_aload_n (pc := 62) C dX8_coast_62 0 rfl rfl ?_
          refine g_getI (pc := 63) C lk_X8_215 fi_55_29 dX8_coast_63 ?_
          refine g_imul (pc := 66) C dX8_coast_66 ?_
          refine g_iconst (pc := 67) C (v := 1) dX8_coast_67 (by decide) ?_
          refine g_iadd (pc := 68) C dX8_coast_68 ?_
          refine g_iload_n (pc := 69) C dX8_coast_69 2 rfl rfl ?_
          refine g_iast (pc := 70) C ai_70 dX8_coast_70 (fun S_8 => ?_)
          refine g_aload_n (pc := 71) C dX8_coast_71 0 rfl rfl ?_
          refine g_getR (pc := 72) C lk_X8_52 fr_55_30 dX8_coast_72 ?_
          refine g_iconst (pc := 75) C (v := 3) dX8_coast_75 (by decide) ?_
          refine g_aload_n (pc := 76) C dX8_coast_76 0 rfl rfl ?_
          refine g_getI (pc := 77) C lk_X8_215 fi_55_29 dX8_coast_77 ?_
          refine g_imul (pc := 80) C dX8_coast_80 ?_
          refine g_iconst (pc := 81) C (v := 2) dX8_coast_81 (by decide) ?_
          refine g_iadd (pc := 82) C dX8_coast_82 ?_
          refine g_iload_n (pc := 83) C dX8_coast_83 3 rfl rfl ?_
          refine g_iast (pc := 84) C ai_70 dX8_coast_84 (fun S_9 => ?_)
          refine g_aload_n (pc := 85) C dX8_coast_85 0 rfl rfl ?_
          refine g_dup (pc := 86) C dX8_coast_86 rfl ?_
          refine g_getI (pc := 87) C lk_X8_215 fi_55_29 dX8_coast_87 ?_
          refine g_iconst (pc := 90) C (v := 1) dX8_coast_90 (by decide) ?_
          refine g_iadd (pc := 91) C dX8_coast_91 ?_
          refine g_putI (pc := 92) C lp_X8_215 fi_55_29 dX8_coast_92 (fun S_10 => ?_)
          refine g_aload_n (pc := 95) C dX8_coast_95 0 rfl rfl ?_
          refine g_getI (pc := 96) C lk_X8_215 fi_55_29 dX8_coast_96 ?_
          exact g_iret C M dX8_coast_99
theorem ct_X8_coast {Γ : GA} (x1 : Int32) (x2 : Int32) (x3 : Int32) (S : St) : CtI Γ yX8_coast cX8_coast 4 (some .int) 2 [.ref (gX Γ 55), .int x1, .int x2, .int x3] S (f_X8_coast x1 x2 x3 S) :=
  ctI_of (by decide) (Nat.le_of_ble_eq_true rfl) (fun _ C M => p_X8_coast C M x1 x2 x3 S)
set_option maxRecDepth 100000 in
set_option maxHeartbeats 4000000 in
theorem p_X8_rubsNow_b91 {Γ : GA} {E : EV} (C : Cx Γ E RX8 cX8_rubsNow 5 2 (some .int)) (M : Mx Γ E) (k4 : Int32 → Int32 → St → Option (Int32 × St)) (hk4 : ∀ (x1 : Int32) (x2 : Int32) (S : St), G Γ E (QI Γ E) 5 4 [(0, .ref (gX Γ 55)), (1, .int x1), (2, .int x2)] [] S (k4 x1 x2 S)) (x2 : Int32) (s0 : Int32) (s1 : Int32) (S : St) : G Γ E (QI Γ E) 5 91 [(0, .ref (gX Γ 55)), (2, .int x2)] [.int s0, .int s1] S (f_X8_rubsNow_b91 k4 x2 s0 s1 S) := by
  rw [f_X8_rubsNow_b91]
  refine g_ior (pc := 91) C dX8_rubsNow_91 ?_
  refine g_istore_n (pc := 92) C dX8_rubsNow_92 rfl (by decide) (fun x => [(1, .int x), (0, .ref (gX Γ 55)), (2, .int x2)]) (fun _ => rfl) (fun x1_1 => ?_)
  refine g_iinc (pc := 93) C (v := 1) dX8_rubsNow_93 2 rfl (by decide) (by decide) (fun x => [(2, .int x), (1, .int x1_1), (0, .ref (gX Γ 55))]) (fun _ => rfl) (fun x2_2 => ?_)
  refine g_goto (pc := 96) C 4 dX8_rubsNow_96 (by decide) ?_
  exact g_sub [2, 1, 0] rfl (hk4 x1_1 x2_2 S)
set_option maxRecDepth 100000 in
set_option maxHeartbeats 4000000 in
theorem p_X8_rubsNow_b72 {Γ : GA} {E : EV} (C : Cx Γ E RX8 cX8_rubsNow 5 2 (some .int)) (M : Mx Γ E) (k4 : Int32 → Int32 → St → Option (Int32 × St)) (hk4 : ∀ (x1 : Int32) (x2 : Int32) (S : St), G Γ E (QI Γ E) 5 4 [(0, .ref (gX Γ 55)), (1, .int x1), (2, .int x2)] [] S (k4 x1 x2 S)) (k15 : Int32 → Int32 → Int32 → Int32 → St → Option (Int32 × St)) (hk15 : ∀ (x1 : Int32) (x2 : Int32) (x3 : Int32) (x4 : Int32) (S : St), G Γ E (QI Γ E) 5 15 [(0, .ref (gX Γ 55)), (1, .int x1), (2, .int x2), (3, .int x3), (4, .int x4)] [] S (k15 x1 x2 x3 x4 S)) (x1 : Int32) (x2 : Int32) (x4 : Int32) (s0 : Int32) (S : St) : G Γ E (QI Γ E) 5 72 [(0, .ref (gX Γ 55)), (1, .int x1), (2, .int x2), (4, .int x4)] [.int s0] S (f_X8_rubsNow_b72 k4 k15 x1 x2 x4 s0 S) := by
  rw [f_X8_rubsNow_b72]
  refine g_istore_n0 (pc := 72) C dX8_rubsNow_72 rfl (by decide) (lv' := [(3, .int s0), (0, .ref (gX Γ 55)), (1, .int x1), (2, .int x2), (4, .int x4)]) rfl ?_
  refine g_iinc (pc := 73) C (v := 1) dX8_rubsNow_73 4 rfl (by decide) (by decide) (fun x => [(4, .int x), (3, .int s0), (0, .ref (gX Γ 55)), (1, .int x1), (2, .int x2)]) (fun _ => rfl) (fun x4_3 => ?_)
  refine g_goto (pc := 76) C 15 dX8_rubsNow_76 (by decide) ?_
  exact g_sub [2, 3, 4, 1, 0] rfl (hk15 x1 x2 s0 x4_3 S)
set_option maxRecDepth 100000 in
set_option maxHeartbeats 4000000 in
theorem p_X8_rubsNow_b71 {Γ : GA} {E : EV} (C : Cx Γ E RX8 cX8_rubsNow 5 2 (some .int)) (M : Mx Γ E) (k4 : Int32 → Int32 → St → Option (Int32 × St)) (hk4 : ∀ (x1 : Int32) (x2 : Int32) (S : St), G Γ E (QI Γ E) 5 4 [(0, .ref (gX Γ 55)), (1, .int x1), (2, .int x2)] [] S (k4 x1 x2 S)) (k15 : Int32 → Int32 → Int32 → Int32 → St → Option (Int32 × St)) (hk15 : ∀ (x1 : Int32) (x2 : Int32) (x3 : Int32) (x4 : Int32) (S : St), G Γ E (QI Γ E) 5 15 [(0, .ref (gX Γ 55)), (1, .int x1), (2, .int x2), (3, .int x3), (4, .int x4)] [] S (k15 x1 x2 x3 x4 S)) (x1 : Int32) (x2 : Int32) (x4 : Int32) (S : St) : G Γ E (QI Γ E) 5 71 [(0, .ref (gX Γ 55)), (1, .int x1), (2, .int x2), (4, .int x4)] [] S (f_X8_rubsNow_b71 k4 k15 x1 x2 x4 S) := by
  rw [f_X8_rubsNow_b71]
  refine g_iconst (pc := 71) C (v := 0) dX8_rubsNow_71 (by decide) ?_
  exact g_sub [0, 1, 2, 3] rfl (p_X8_rubsNow_b72 C M k4 hk4 k15 hk15 x1 x2 x4 0 S)
set_option maxRecDepth 100000 in
set_option maxHeartbeats 4000000 in
theorem p_X8_rubsNow_l15 {Γ : GA} {E : EV} (C : Cx Γ E RX8 cX8_rubsNow 5 2 (some .int)) (M : Mx Γ E) (k4 : Int32 → Int32 → St → Option (Int32 × St)) (hk4 : ∀ (x1 : Int32) (x2 : Int32) (S : St), G Γ E (QI Γ E) 5 4 [(0, .ref (gX Γ 55)), (1, .int x1), (2, .int x2)] [] S (k4 x1 x2 S)) : ∀ (n : Nat) (x1 : Int32) (x2 : Int32) (x3 : Int32) (x4 : Int32) (S : St), G Γ E (QI Γ E) 5 15 [(0, .ref (gX Γ 55)), (1, .int x1), (2, .int x2), (3, .int x3), (4, .int x4)] [] S (f_X8_rubsNow_l15 k4 n x1 x2 x3 x4 S) := by
  intro n
  induction n with
  | zero => intro x1 x2 x3 x4 S; exact g_none
  | succ n ih =>
    intro x1 x2 x3 x4 S
    rw [f_X8_rubsNow_l15]
    refine g_iload (pc := 15) C dX8_rubsNow_15 4 rfl ?_
    refine g_aload_n (pc := 17) C dX8_rubsNow_17 0 rfl rfl ?_
    refine g_getI (pc := 18) C lk_X8_215 fi_55_29 dX8_rubsNow_18 ?_
    refine g_icmp_ge (pc := 21) C 79 dX8_rubsNow_21 (by decide) ?_ ?_
    · refine g_iload_n (pc := 79) C dX8_rubsNow_79 1 rfl rfl ?_
      refine g_iload_n (pc := 80) C dX8_rubsNow_80 3 rfl rfl ?_
      refine g_if_eq (pc := 81) C 90 dX8_rubsNow_81 (by decide) ?_ ?_
      · refine g_iconst (pc := 90) C (v := 0) dX8_rubsNow_90 (by decide) ?_
        exact g_sub [0, 2] rfl (p_X8_rubsNow_b91 C M k4 hk4 x2 0 x1 S)
      · refine g_iconst (pc := 84) C (v := 1) dX8_rubsNow_84 (by decide) ?_
        refine g_iload_n (pc := 85) C dX8_rubsNow_85 2 rfl rfl ?_
        refine g_ishl (pc := 86) C dX8_rubsNow_86 ?_
        refine g_goto (pc := 87) C 91 dX8_rubsNow_87 (by decide) ?_
        exact g_sub [0, 2] rfl (p_X8_rubsNow_b91 C M k4 hk4 x2 (1 <<< (x2 &&& 31)) x1 S)
    · refine g_iload_n (pc := 24) C dX8_rubsNow_24 3 rfl rfl ?_
      refine g_if_eq (pc := 25) C 71 dX8_rubsNow_25 (by decide) ?_ ?_
      · exact g_sub [0, 1, 2, 4] rfl (p_X8_rubsNow_b71 C M k4 hk4 (f_X8_rubsNow_l15 k4 n) ih x1 x2 x4 S)
      · refine g_aload_n (pc := 28) C dX8_rubsNow_28 0 rfl rfl ?_
        refine g_aload_n (pc := 29) C dX8_rubsNow_29 0 rfl rfl ?_
        refine g_getR (pc := 30) C lk_X8_52 fr_55_30 dX8_rubsNow_30 ?_
        refine g_iconst (pc := 33) C (v := 3) dX8_rubsNow_33 (by decide) ?_
        refine g_iload (pc := 34) C dX8_rubsNow_34 4 rfl ?_
        refine g_imul (pc := 36) C dX8_rubsNow_36 ?_
        refine g_iald (pc := 37) C ai_70 dX8_rubsNow_37 ?_
        refine g_aload_n (pc := 38) C dX8_rubsNow_38 0 rfl rfl ?_
        refine g_getR (pc := 39) C lk_X8_52 fr_55_30 dX8_rubsNow_39 ?_
        refine g_iconst (pc := 42) C (v := 3) dX8_rubsNow_42 (by decide) ?_
        refine g_iload (pc := 43) C dX8_rubsNow_43 4 rfl ?_
        refine g_imul (pc := 45) C dX8_rubsNow_45 ?_
        refine g_iconst (pc := 46) C (v := 1) dX8_rubsNow_46 (by decide) ?_
        refine g_iadd (pc := 47) C dX8_rubsNow_47 ?_
        refine g_iald (pc := 48) C ai_70 dX8_rubsNow_48 ?_
        refine g_iload_n (pc := 49) C dX8_rubsNow_49 2 rfl rfl ?_
        refine g_callVI (pc := 50) (As := [.int (S 70 ((3 * x4) : Int32).toNatClampNeg), .int (S 70 (((3 * x4) + 1) : Int32).toNatClampNeg), .int x2]) (st := []) C lv_X8_212 fo_55 rfl (ct_X8_farthestBy (S 70 ((3 * x4) : Int32).toNatClampNeg) (S 70 (((3 * x4) + 1) : Int32).toNatClampNeg) x2 S) (by decide) rfl rfl (Nat.le_of_ble_eq_true rfl) dX8_rubsNow_50 (fun r_5 S_4 => ?_)
        refine g_aload_n (pc := 53) C dX8_rubsNow_53 0 rfl rfl ?_
        refine g_getR (pc := 54) C lk_X8_52 fr_55_30 dX8_rubsNow_54 ?_
        refine g_iconst (pc := 57) C (v := 3) dX8_rubsNow_57 (by decide) ?_
        refine g_iload (pc := 58) C dX8_rubsNow_58 4 rfl ?_
        refine g_imul (pc := 60) C dX8_rubsNow_60 ?_
        refine g_iconst (pc := 61) C (v := 2) dX8_rubsNow_61 (by decide) ?_
        refine g_iadd (pc := 62) C dX8_rubsNow_62 ?_
        refine g_iald (pc := 63) C ai_70 dX8_rubsNow_63 ?_
        refine g_icmp_ne (pc := 64) C 71 dX8_rubsNow_64 (by decide) ?_ ?_
        · refine g_iconst (pc := 67) C (v := 1) dX8_rubsNow_67 (by decide) ?_
          refine g_goto (pc := 68) C 72 dX8_rubsNow_68 (by decide) ?_
          exact g_sub [0, 1, 2, 4] rfl (p_X8_rubsNow_b72 C M k4 hk4 (f_X8_rubsNow_l15 k4 n) ih x1 x2 x4 1 S_4)
        · exact g_sub [0, 1, 2, 4] rfl (p_X8_rubsNow_b71 C M k4 hk4 (f_X8_rubsNow_l15 k4 n) ih x1 x2 x4 S_4)
set_option maxRecDepth 100000 in
set_option maxHeartbeats 4000000 in
theorem p_X8_rubsNow_l4 {Γ : GA} {E : EV} (C : Cx Γ E RX8 cX8_rubsNow 5 2 (some .int)) (M : Mx Γ E) : ∀ (n : Nat) (x1 : Int32) (x2 : Int32) (S : St), G Γ E (QI Γ E) 5 4 [(0, .ref (gX Γ 55)), (1, .int x1), (2, .int x2)] [] S (f_X8_rubsNow_l4 n x1 x2 S) := by
  intro n
  induction n with
  | zero => intro x1 x2 S; exact g_none
  | succ n ih =>
    intro x1 x2 S
    rw [f_X8_rubsNow_l4]
    refine g_iload_n (pc := 4) C dX8_rubsNow_4 2 rfl rfl ?_
    refine g_bipush (pc := 5) C (v := 10) dX8_rubsNow_5 (by decide) ?_
    refine g_icmp_ge (pc := 7) C 99 dX8_rubsNow_7 (by decide) ?_ ?_
    · refine g_iload_n (pc := 99) C dX8_rubsNow_99 1 rfl rfl ?_
      exact g_iret C M dX8_rubsNow_100
    · refine g_iconst (pc := 10) C (v := 1) dX8_rubsNow_10 (by decide) ?_
      refine g_istore_n0 (pc := 11) C dX8_rubsNow_11 rfl (by decide) (lv' := [(3, .int 1), (0, .ref (gX Γ 55)), (1, .int x1), (2, .int x2)]) rfl ?_
      refine g_iconst (pc := 12) C (v := 0) dX8_rubsNow_12 (by decide) ?_
      refine g_istore0 (pc := 13) C dX8_rubsNow_13 (by decide) (lv' := [(4, .int 0), (3, .int 1), (0, .ref (gX Γ 55)), (1, .int x1), (2, .int x2)]) rfl ?_
      exact g_sub [2, 3, 4, 1, 0] rfl (p_X8_rubsNow_l15 C M (f_X8_rubsNow_l4 n) ih FU x1 x2 1 0 S)
set_option maxRecDepth 100000 in
set_option maxHeartbeats 4000000 in
theorem p_X8_rubsNow {Γ : GA} {E : EV} (C : Cx Γ E RX8 cX8_rubsNow 5 2 (some .int)) (M : Mx Γ E) (S : St) : G Γ E (QI Γ E) 5 0 [(0, .ref (gX Γ 55))] [] S (f_X8_rubsNow S) := by
  rw [f_X8_rubsNow]
  refine g_iconst (pc := 0) C (v := 0) dX8_rubsNow_0 (by decide) ?_
  refine g_istore_n0 (pc := 1) C dX8_rubsNow_1 rfl (by decide) (lv' := [(1, .int 0), (0, .ref (gX Γ 55))]) rfl ?_
  refine g_iconst (pc := 2) C (v := 0) dX8_rubsNow_2 (by decide) ?_
  refine g_istore_n0 (pc := 3) C dX8_rubsNow_3 rfl (by decide) (lv' := [(2, .int 0), (1, .int 0), (0, .ref (gX Γ 55))]) rfl ?_
  exact g_sub [2, 1, 0] rfl (p_X8_rubsNow_l4 C M FU 0 0 S)
theorem ct_X8_rubsNow {Γ : GA} (S : St) : CtI Γ yX8_rubsNow cX8_rubsNow 5 (some .int) 2 [.ref (gX Γ 55)] S (f_X8_rubsNow S) :=
  ctI_of (by decide) (Nat.le_of_ble_eq_true rfl) (fun _ C M => p_X8_rubsNow C M  S)
set_option maxRecDepth 100000 in
set_option maxHeartbeats 4000000 in
theorem p_X8_rubs {Γ : GA} {E : EV} (C : Cx Γ E RX8 cX8_rubs 1 3 (some .int)) (M : Mx Γ E) (S : St) : G Γ E (QI Γ E) 1 0 [(0, .ref (gX Γ 55))] [] S (f_X8_rubs S) := by
  rw [f_X8_rubs]
  refine g_aload_n (pc := 0) C dX8_rubs_0 0 rfl rfl ?_
  refine g_callVI (pc := 1) (As := []) (st := []) C lv_X8_218 fo_55 rfl (ct_X8_rubsNow S) (by decide) rfl rfl (Nat.le_of_ble_eq_true rfl) dX8_rubs_1 (fun r_2 S_1 => ?_)
  exact g_iret C M dX8_rubs_4
theorem ct_X8_rubs {Γ : GA} (S : St) : CtI Γ yX8_rubs cX8_rubs 1 (some .int) 3 [.ref (gX Γ 55)] S (f_X8_rubs S) :=
  ctI_of (by decide) (Nat.le_of_ble_eq_true rfl) (fun _ C M => p_X8_rubs C M  S)
set_option maxRecDepth 100000 in
set_option maxHeartbeats 4000000 in
theorem p_X8_isSlip {Γ : GA} {E : EV} (C : Cx Γ E RX8 cX8_isSlip 1 1 (some .boolean)) (M : Mx Γ E) (x0 : Int32) (S : St) : G Γ E (QI Γ E) 1 0 [(0, .int x0)] [] S (f_X8_isSlip x0 S) := by
  rw [f_X8_isSlip]
  refine g_iload_n (pc := 0) C dX8_isSlip_0 0 rfl rfl ?_
  refine g_i2l (pc := 1) C dX8_isSlip_1 ?_
  refine g_lconst (pc := 2) C (v := 1) dX8_isSlip_2 (by decide) ?_
  refine g_ldc2 (pc := 3) C kc_X8_142 dX8_isSlip_3 ?_
  refine g_callSI (pc := 6) (As := [.long ((x0 : Int32).toInt64), .long 1, .long 99]) (st := []) C ls_X8_89 (ct_X8_in ((x0 : Int32).toInt64) 1 99 S) (by decide) rfl rfl (Nat.le_of_ble_eq_true rfl) dX8_isSlip_6 (fun r_2 S_1 => ?_)
  exact g_zret C M dX8_isSlip_9
theorem ct_X8_isSlip {Γ : GA} (x0 : Int32) (S : St) : CtI Γ yX8_isSlip cX8_isSlip 1 (some .boolean) 1 [.int x0] S (f_X8_isSlip x0 S) :=
  ctI_of (by decide) (Nat.le_of_ble_eq_true rfl) (fun _ C M => p_X8_isSlip C M x0 S)
set_option maxRecDepth 100000 in
set_option maxHeartbeats 4000000 in
theorem p_X8_downTime {Γ : GA} {E : EV} (C : Cx Γ E RX8 cX8_downTime 3 4 (some .int)) (M : Mx Γ E) (x1 : Int32) (x2 : Int32) (S : St) : G Γ E (QI Γ E) 3 0 [(0, .ref (gX Γ 55)), (1, .int x1), (2, .int x2)] [] S (f_X8_downTime x1 x2 S) := by
  rw [f_X8_downTime]
  refine g_aload_n (pc := 0) C dX8_downTime_0 0 rfl rfl ?_
  refine g_iload_n (pc := 1) C dX8_downTime_1 1 rfl rfl ?_
  refine g_iload_n (pc := 2) C dX8_downTime_2 2 rfl rfl ?_
  refine g_aload_n (pc := 3) C dX8_downTime_3 0 rfl rfl ?_
  refine g_getR (pc := 4) C lk_X8_28 fr_55_13 dX8_downTime_4 ?_
  refine g_iload_n (pc := 7) C dX8_downTime_7 1 rfl rfl ?_
  refine g_iald (pc := 8) C ai_62 dX8_downTime_8 ?_
  refine g_callVI (pc := 9) (As := [.int x1, .int x2, .int (S 62 (x1 : Int32).toNatClampNeg)]) (st := []) C lv_X8_208 fo_55 rfl (ct_X8_timeBy x1 x2 (S 62 (x1 : Int32).toNatClampNeg) S) (by decide) rfl rfl (Nat.le_of_ble_eq_true rfl) dX8_downTime_9 (fun r_2 S_1 => ?_)
  exact g_iret C M dX8_downTime_12
theorem ct_X8_downTime {Γ : GA} (x1 : Int32) (x2 : Int32) (S : St) : CtI Γ yX8_downTime cX8_downTime 3 (some .int) 4 [.ref (gX Γ 55), .int x1, .int x2] S (f_X8_downTime x1 x2 S) :=
  ctI_of (by decide) (Nat.le_of_ble_eq_true rfl) (fun _ C M => p_X8_downTime C M x1 x2 S)
set_option maxRecDepth 100000 in
set_option maxHeartbeats 4000000 in
theorem p_X8_chanceOf_b28 {Γ : GA} {E : EV} (C : Cx Γ E RX8 cX8_chanceOf 8 5 (some .int)) (M : Mx Γ E) (x5 : Int32) (x6 : Int32) (S : St) : G Γ E (QI Γ E) 8 28 [(5, .int x5), (6, .int x6)] [] S (f_X8_chanceOf_b28 x5 x6 S) := by
  rw [f_X8_chanceOf_b28]
  refine g_iload (pc := 28) C dX8_chanceOf_28 0 rfl ?_
  refine g_iload (pc := 30) C dX8_chanceOf_30 1 rfl ?_
  refine g_icmp_ne (pc := 32) C 39 dX8_chanceOf_32 (by decide) ?_ ?_
  · refine g_iconst (pc := 35) C (v := 5) dX8_chanceOf_35 (by decide) ?_
    refine g_goto (pc := 36) C 51 dX8_chanceOf_36 (by decide) ?_
    exact g_iret C M dX8_chanceOf_51
  · refine g_iload (pc := 39) C dX8_chanceOf_39 0 rfl ?_
    refine g_iconst (pc := 41) C (v := (-1)) dX8_chanceOf_41 (by decide) ?_
    refine g_icmp_ne (pc := 42) C 49 dX8_chanceOf_42 (by decide) ?_ ?_
    · refine g_iconst (pc := 45) C (v := 0) dX8_chanceOf_45 (by decide) ?_
      refine g_goto (pc := 46) C 51 dX8_chanceOf_46 (by decide) ?_
      exact g_iret C M dX8_chanceOf_51
    · refine g_bipush (pc := 49) C (v := 10) dX8_chanceOf_49 (by decide) ?_
      exact g_iret C M dX8_chanceOf_51
set_option maxRecDepth 100000 in
set_option maxHeartbeats 4000000 in
theorem p_X8_chanceOf_b92 {Γ : GA} {E : EV} (C : Cx Γ E RX8 cX8_chanceOf 8 5 (some .int)) (M : Mx Γ E) (x5 : Int32) (x6 : Int32) (s0 : Int32) (S : St) : G Γ E (QI Γ E) 8 92 [(5, .int x5), (6, .int x6)] [.int s0] S (f_X8_chanceOf_b92 x5 x6 s0 S) := by
  rw [f_X8_chanceOf_b92]
  refine g_istore0 (pc := 92) C dX8_chanceOf_92 (by decide) (lv' := [(7, .int s0), (5, .int x5), (6, .int x6)]) rfl ?_
  refine g_iload (pc := 94) C dX8_chanceOf_94 1 rfl ?_
  refine g_iload (pc := 96) C dX8_chanceOf_96 2 rfl ?_
  refine g_icmp_ge (pc := 98) C 108 dX8_chanceOf_98 (by decide) ?_ ?_
  · refine g_iconst (pc := 108) C (v := 5) dX8_chanceOf_108 (by decide) ?_
    refine g_iload (pc := 109) C dX8_chanceOf_109 0 rfl ?_
    refine g_isub (pc := 111) C dX8_chanceOf_111 ?_
    exact g_iret C M dX8_chanceOf_112
  · refine g_iconst (pc := 101) C (v := 5) dX8_chanceOf_101 (by decide) ?_
    refine g_iload (pc := 102) C dX8_chanceOf_102 0 rfl ?_
    refine g_iadd (pc := 104) C dX8_chanceOf_104 ?_
    refine g_goto (pc := 105) C 112 dX8_chanceOf_105 (by decide) ?_
    exact g_iret C M dX8_chanceOf_112
set_option maxRecDepth 100000 in
set_option maxHeartbeats 4000000 in
theorem p_X8_chanceOf_b72 {Γ : GA} {E : EV} (C : Cx Γ E RX8 cX8_chanceOf 8 5 (some .int)) (M : Mx Γ E) (x4 : Int32) (x5 : Int32) (x6 : Int32) (s0 : Int32) (S : St) : G Γ E (QI Γ E) 8 72 [(4, .int x4), (5, .int x5), (6, .int x6)] [.int s0] S (f_X8_chanceOf_b72 x4 x5 x6 s0 S) := by
  rw [f_X8_chanceOf_b72]
  refine g_bipush (pc := 72) C (v := 100) dX8_chanceOf_72 (by decide) ?_
  refine g_iload (pc := 74) C dX8_chanceOf_74 0 rfl ?_
  refine g_imul (pc := 76) C dX8_chanceOf_76 ?_
  refine g_idiv (pc := 77) C dX8_chanceOf_77 ?_
  refine g_istore (pc := 78) C dX8_chanceOf_78 (by decide) (fun x => [(7, .int x), (4, .int x4), (5, .int x5), (6, .int x6)]) (fun _ => rfl) (fun x7_5 => ?_)
  refine g_iload (pc := 80) C dX8_chanceOf_80 0 rfl ?_
  refine g_iconst (pc := 82) C (v := 5) dX8_chanceOf_82 (by decide) ?_
  refine g_icmp_le (pc := 83) C 90 dX8_chanceOf_83 (by decide) ?_ ?_
  · refine g_iload (pc := 90) C dX8_chanceOf_90 0 rfl ?_
    exact g_sub [2, 3] rfl (p_X8_chanceOf_b92 C M x5 x6 x7_5 S)
  · refine g_iconst (pc := 86) C (v := 5) dX8_chanceOf_86 (by decide) ?_
    refine g_goto (pc := 87) C 92 dX8_chanceOf_87 (by decide) ?_
    exact g_sub [2, 3] rfl (p_X8_chanceOf_b92 C M x5 x6 5 S)
set_option maxRecDepth 100000 in
set_option maxHeartbeats 4000000 in
theorem p_X8_chanceOf {Γ : GA} {E : EV} (C : Cx Γ E RX8 cX8_chanceOf 8 5 (some .int)) (M : Mx Γ E) (x1 : Int32) (x2 : Int32) (x3 : Int32) (x4 : Int32) (S : St) : G Γ E (QI Γ E) 8 0 [(0, .ref (gX Γ 55)), (1, .int x1), (2, .int x2), (3, .int x3), (4, .int x4)] [] S (f_X8_chanceOf x1 x2 x3 x4 S) := by
  rw [f_X8_chanceOf]
  refine g_aload_n (pc := 0) C dX8_chanceOf_0 0 rfl rfl ?_
  refine g_iload_n (pc := 1) C dX8_chanceOf_1 1 rfl rfl ?_
  refine g_iload_n (pc := 2) C dX8_chanceOf_2 3 rfl rfl ?_
  refine g_callVI (pc := 3) (As := [.int x1, .int x3]) (st := []) C lv_X8_222 fo_55 rfl (ct_X8_downTime x1 x3 S) (by decide) rfl rfl (Nat.le_of_ble_eq_true rfl) dX8_chanceOf_3 (fun r_2 S_1 => ?_)
  refine g_istore0 (pc := 6) C dX8_chanceOf_6 (by decide) (lv' := [(5, .int r_2), (0, .ref (gX Γ 55)), (1, .int x1), (2, .int x2), (3, .int x3), (4, .int x4)]) rfl ?_
  refine g_aload_n (pc := 8) C dX8_chanceOf_8 1 rfl rfl ?_
  refine g_iload_n (pc := 9) C dX8_chanceOf_9 3 rfl rfl ?_
  refine g_iload_n (pc := 10) C dX8_chanceOf_10 4 rfl rfl ?_
  refine g_callVI (pc := 11) (As := [.int x2, .int x3]) (st := []) C lv_X8_222 fo_55 rfl (ct_X8_downTime x2 x3 S_1) (by decide) rfl rfl (Nat.le_of_ble_eq_true rfl) dX8_chanceOf_11 (fun r_4 S_3 => ?_)
  refine g_istore0 (pc := 14) C dX8_chanceOf_14 (by decide) (lv' := [(6, .int r_4), (5, .int r_2), (0, .ref (gX Γ 55)), (1, .int x1), (2, .int x2), (3, .int x3), (4, .int x4)]) rfl ?_
  refine g_iload (pc := 16) C dX8_chanceOf_16 1 rfl ?_
  refine g_iconst (pc := 18) C (v := (-1)) dX8_chanceOf_18 (by decide) ?_
  refine g_icmp_eq (pc := 19) C 28 dX8_chanceOf_19 (by decide) ?_ ?_
  · exact g_sub [1, 0] rfl (p_X8_chanceOf_b28 C M r_2 r_4 S_3)
  · refine g_iload (pc := 22) C dX8_chanceOf_22 0 rfl ?_
    refine g_iconst (pc := 24) C (v := (-1)) dX8_chanceOf_24 (by decide) ?_
    refine g_icmp_ne (pc := 25) C 52 dX8_chanceOf_25 (by decide) ?_ ?_
    · exact g_sub [1, 0] rfl (p_X8_chanceOf_b28 C M r_2 r_4 S_3)
    · refine g_iload (pc := 52) C dX8_chanceOf_52 1 rfl ?_
      refine g_iload (pc := 54) C dX8_chanceOf_54 0 rfl ?_
      refine g_icmp_ge (pc := 56) C 67 dX8_chanceOf_56 (by decide) ?_ ?_
      · refine g_iload (pc := 67) C dX8_chanceOf_67 1 rfl ?_
        refine g_iload (pc := 69) C dX8_chanceOf_69 0 rfl ?_
        refine g_isub (pc := 71) C dX8_chanceOf_71 ?_
        exact g_sub [6, 1, 0] rfl (p_X8_chanceOf_b72 C M x4 r_2 r_4 (r_2 - r_4) S_3)
      · refine g_iload (pc := 59) C dX8_chanceOf_59 0 rfl ?_
        refine g_iload (pc := 61) C dX8_chanceOf_61 1 rfl ?_
        refine g_isub (pc := 63) C dX8_chanceOf_63 ?_
        refine g_goto (pc := 64) C 72 dX8_chanceOf_64 (by decide) ?_
        exact g_sub [6, 1, 0] rfl (p_X8_chanceOf_b72 C M x4 r_2 r_4 (r_4 - r_2) S_3)
theorem ct_X8_chanceOf {Γ : GA} (x1 : Int32) (x2 : Int32) (x3 : Int32) (x4 : Int32) (S : St) : CtI Γ yX8_chanceOf cX8_chanceOf 8 (some .int) 5 [.ref (gX Γ 55), .int x1, .int x2, .int x3, .int x4] S (f_X8_chanceOf x1 x2 x3 x4 S) :=
  ctI_of (by decide) (Nat.le_of_ble_eq_true rfl) (fun _ C M => p_X8_chanceOf C M x1 x2 x3 x4 S)
set_option maxRecDepth 100000 in
set_option maxHeartbeats 4000000 in
theorem p_X8_chance {Γ : GA} {E : EV} (C : Cx Γ E RX8 cX8_chance 5 6 (some .int)) (M : Mx Γ E) (x1 : Int32) (x2 : Int32) (x3 : Int32) (x4 : Int32) (S : St) : G Γ E (QI Γ E) 5 0 [(0, .ref (gX Γ 55)), (1, .int x1), (2, .int x2), (3, .int x3), (4, .int x4)] [] S (f_X8_chance x1 x2 x3 x4 S) := by
  rw [f_X8_chance]
  refine g_aload_n (pc := 0) C dX8_chance_0 0 rfl rfl ?_
  refine g_iload_n (pc := 1) C dX8_chance_1 1 rfl rfl ?_
  refine g_callVI (pc := 2) (As := [.int x1]) (st := []) C lv_X8_132 fo_55 rfl (ct_X8_isCart x1 S) (by decide) rfl rfl (Nat.le_of_ble_eq_true rfl) dX8_chance_2 (fun r_2 S_1 => ?_)
  refine g_if_eq (pc := 5) C 16 dX8_chance_5 (by decide) ?_ ?_
  · refine g_bipush (pc := 16) C (v := (-101)) dX8_chance_16 (by decide) ?_
    exact g_iret C M dX8_chance_18
  · refine g_aload_n (pc := 8) C dX8_chance_8 0 rfl rfl ?_
    refine g_iload_n (pc := 9) C dX8_chance_9 2 rfl rfl ?_
    refine g_callVI (pc := 10) (As := [.int x2]) (st := []) C lv_X8_132 fo_55 rfl (ct_X8_isCart x2 S_1) (by decide) rfl rfl (Nat.le_of_ble_eq_true rfl) dX8_chance_10 (fun r_4 S_3 => ?_)
    refine g_if_ne (pc := 13) C 19 dX8_chance_13 (by decide) ?_ ?_
    · refine g_bipush (pc := 16) C (v := (-101)) dX8_chance_16 (by decide) ?_
      exact g_iret C M dX8_chance_18
    · refine g_aload_n (pc := 19) C dX8_chance_19 0 rfl rfl ?_
      refine g_callVI (pc := 20) (As := []) (st := []) C lv_X8_182 fo_55 rfl (ct_X8_lacks S_3) (by decide) rfl rfl (Nat.le_of_ble_eq_true rfl) dX8_chance_20 (fun r_6 S_5 => ?_)
      refine g_if_eq (pc := 23) C 29 dX8_chance_23 (by decide) ?_ ?_
      · refine g_iload_n (pc := 29) C dX8_chance_29 3 rfl rfl ?_
        refine g_callSI (pc := 30) (As := [.int x3]) (st := []) C ls_X8_186 (ct_X8_isSwing x3 S_5) (by decide) rfl rfl (Nat.le_of_ble_eq_true rfl) dX8_chance_30 (fun r_8 S_7 => ?_)
        refine g_if_eq (pc := 33) C 56 dX8_chance_33 (by decide) ?_ ?_
        · refine g_bipush (pc := 56) C (v := (-102)) dX8_chance_56 (by decide) ?_
          exact g_iret C M dX8_chance_58
        · refine g_iload (pc := 36) C dX8_chance_36 4 rfl ?_
          refine g_callSI (pc := 38) (As := [.int x4]) (st := []) C ls_X8_225 (ct_X8_isSlip x4 S_7) (by decide) rfl rfl (Nat.le_of_ble_eq_true rfl) dX8_chance_38 (fun r_10 S_9 => ?_)
          refine g_if_eq (pc := 41) C 56 dX8_chance_41 (by decide) ?_ ?_
          · refine g_bipush (pc := 56) C (v := (-102)) dX8_chance_56 (by decide) ?_
            exact g_iret C M dX8_chance_58
          · refine g_aload_n (pc := 44) C dX8_chance_44 0 rfl rfl ?_
            refine g_iload_n (pc := 45) C dX8_chance_45 1 rfl rfl ?_
            refine g_iload_n (pc := 46) C dX8_chance_46 2 rfl rfl ?_
            refine g_iload_n (pc := 47) C dX8_chance_47 3 rfl rfl ?_
            refine g_iload (pc := 48) C dX8_chance_48 4 rfl ?_
            refine g_callVI (pc := 50) (As := [.int x1, .int x2, .int x3, .int x4]) (st := []) C lv_X8_228 fo_55 rfl (ct_X8_chanceOf x1 x2 x3 x4 S_9) (by decide) rfl rfl (Nat.le_of_ble_eq_true rfl) dX8_chance_50 (fun r_12 S_11 => ?_)
            refine g_goto (pc := 53) C 58 dX8_chance_53 (by decide) ?_
            exact g_iret C M dX8_chance_58
      · refine g_bipush (pc := 26) C (v := (-103)) dX8_chance_26 (by decide) ?_
        exact g_iret C M dX8_chance_28
theorem ct_X8_chance {Γ : GA} (x1 : Int32) (x2 : Int32) (x3 : Int32) (x4 : Int32) (S : St) : CtI Γ yX8_chance cX8_chance 5 (some .int) 6 [.ref (gX Γ 55), .int x1, .int x2, .int x3, .int x4] S (f_X8_chance x1 x2 x3 x4 S) :=
  ctI_of (by decide) (Nat.le_of_ble_eq_true rfl) (fun _ C M => p_X8_chance C M x1 x2 x3 x4 S)
set_option maxRecDepth 100000 in
set_option maxHeartbeats 4000000 in
theorem p_X8_areFour {Γ : GA} {E : EV} (C : Cx Γ E RX8 cX8_areFour 5 2 (some .boolean)) (M : Mx Γ E) (x1 : Int32) (x2 : Int32) (x3 : Int32) (x4 : Int32) (S : St) : G Γ E (QI Γ E) 5 0 [(0, .ref (gX Γ 55)), (1, .int x1), (2, .int x2), (3, .int x3), (4, .int x4)] [] S (f_X8_areFour x1 x2 x3 x4 S) := by
  rw [f_X8_areFour]
  refine g_aload_n (pc := 0) C dX8_areFour_0 0 rfl rfl ?_
  refine g_iload_n (pc := 1) C dX8_areFour_1 1 rfl rfl ?_
  refine g_callVI (pc := 2) (As := [.int x1]) (st := []) C lv_X8_132 fo_55 rfl (ct_X8_isCart x1 S) (by decide) rfl rfl (Nat.le_of_ble_eq_true rfl) dX8_areFour_2 (fun r_2 S_1 => ?_)
  refine g_if_eq (pc := 5) C 37 dX8_areFour_5 (by decide) ?_ ?_
  · refine g_iconst (pc := 37) C (v := 0) dX8_areFour_37 (by decide) ?_
    exact g_zret1 C M rfl dX8_areFour_38
  · refine g_aload_n (pc := 8) C dX8_areFour_8 0 rfl rfl ?_
    refine g_iload_n (pc := 9) C dX8_areFour_9 2 rfl rfl ?_
    refine g_callVI (pc := 10) (As := [.int x2]) (st := []) C lv_X8_132 fo_55 rfl (ct_X8_isCart x2 S_1) (by decide) rfl rfl (Nat.le_of_ble_eq_true rfl) dX8_areFour_10 (fun r_4 S_3 => ?_)
    refine g_if_eq (pc := 13) C 37 dX8_areFour_13 (by decide) ?_ ?_
    · refine g_iconst (pc := 37) C (v := 0) dX8_areFour_37 (by decide) ?_
      exact g_zret1 C M rfl dX8_areFour_38
    · refine g_aload_n (pc := 16) C dX8_areFour_16 0 rfl rfl ?_
      refine g_iload_n (pc := 17) C dX8_areFour_17 3 rfl rfl ?_
      refine g_callVI (pc := 18) (As := [.int x3]) (st := []) C lv_X8_132 fo_55 rfl (ct_X8_isCart x3 S_3) (by decide) rfl rfl (Nat.le_of_ble_eq_true rfl) dX8_areFour_18 (fun r_6 S_5 => ?_)
      refine g_if_eq (pc := 21) C 37 dX8_areFour_21 (by decide) ?_ ?_
      · refine g_iconst (pc := 37) C (v := 0) dX8_areFour_37 (by decide) ?_
        exact g_zret1 C M rfl dX8_areFour_38
      · refine g_aload_n (pc := 24) C dX8_areFour_24 0 rfl rfl ?_
        refine g_iload (pc := 25) C dX8_areFour_25 4 rfl ?_
        refine g_callVI (pc := 27) (As := [.int x4]) (st := []) C lv_X8_132 fo_55 rfl (ct_X8_isCart x4 S_5) (by decide) rfl rfl (Nat.le_of_ble_eq_true rfl) dX8_areFour_27 (fun r_8 S_7 => ?_)
        refine g_if_eq (pc := 30) C 37 dX8_areFour_30 (by decide) ?_ ?_
        · refine g_iconst (pc := 37) C (v := 0) dX8_areFour_37 (by decide) ?_
          exact g_zret1 C M rfl dX8_areFour_38
        · refine g_iconst (pc := 33) C (v := 1) dX8_areFour_33 (by decide) ?_
          refine g_goto (pc := 34) C 38 dX8_areFour_34 (by decide) ?_
          exact g_zret1 C M rfl dX8_areFour_38
theorem ct_X8_areFour {Γ : GA} (x1 : Int32) (x2 : Int32) (x3 : Int32) (x4 : Int32) (S : St) : CtI Γ yX8_areFour cX8_areFour 5 (some .boolean) 2 [.ref (gX Γ 55), .int x1, .int x2, .int x3, .int x4] S (f_X8_areFour x1 x2 x3 x4 S) :=
  ctI_of (by decide) (Nat.le_of_ble_eq_true rfl) (fun _ C M => p_X8_areFour C M x1 x2 x3 x4 S)
set_option maxRecDepth 100000 in
set_option maxHeartbeats 4000000 in
theorem p_X8_areUnlike {Γ : GA} {E : EV} (C : Cx Γ E RX8 cX8_areUnlike 4 0 (some .boolean)) (M : Mx Γ E) (x0 : Int32) (x1 : Int32) (x2 : Int32) (x3 : Int32) (S : St) : G Γ E (QI Γ E) 4 0 [(0, .int x0), (1, .int x1), (2, .int x2), (3, .int x3)] [] S (f_X8_areUnlike x0 x1 x2 x3 S) := by
  rw [f_X8_areUnlike]
  refine g_iload_n (pc := 0) C dX8_areUnlike_0 0 rfl rfl ?_
  refine g_iload_n (pc := 1) C dX8_areUnlike_1 1 rfl rfl ?_
  refine g_icmp_eq (pc := 2) C 34 dX8_areUnlike_2 (by decide) ?_ ?_
  · refine g_iconst (pc := 34) C (v := 0) dX8_areUnlike_34 (by decide) ?_
    exact g_zret1 C M rfl dX8_areUnlike_35
  · refine g_iload_n (pc := 5) C dX8_areUnlike_5 0 rfl rfl ?_
    refine g_iload_n (pc := 6) C dX8_areUnlike_6 2 rfl rfl ?_
    refine g_icmp_eq (pc := 7) C 34 dX8_areUnlike_7 (by decide) ?_ ?_
    · refine g_iconst (pc := 34) C (v := 0) dX8_areUnlike_34 (by decide) ?_
      exact g_zret1 C M rfl dX8_areUnlike_35
    · refine g_iload_n (pc := 10) C dX8_areUnlike_10 0 rfl rfl ?_
      refine g_iload_n (pc := 11) C dX8_areUnlike_11 3 rfl rfl ?_
      refine g_icmp_eq (pc := 12) C 34 dX8_areUnlike_12 (by decide) ?_ ?_
      · refine g_iconst (pc := 34) C (v := 0) dX8_areUnlike_34 (by decide) ?_
        exact g_zret1 C M rfl dX8_areUnlike_35
      · refine g_iload_n (pc := 15) C dX8_areUnlike_15 1 rfl rfl ?_
        refine g_iload_n (pc := 16) C dX8_areUnlike_16 2 rfl rfl ?_
        refine g_icmp_eq (pc := 17) C 34 dX8_areUnlike_17 (by decide) ?_ ?_
        · refine g_iconst (pc := 34) C (v := 0) dX8_areUnlike_34 (by decide) ?_
          exact g_zret1 C M rfl dX8_areUnlike_35
        · refine g_iload_n (pc := 20) C dX8_areUnlike_20 1 rfl rfl ?_
          refine g_iload_n (pc := 21) C dX8_areUnlike_21 3 rfl rfl ?_
          refine g_icmp_eq (pc := 22) C 34 dX8_areUnlike_22 (by decide) ?_ ?_
          · refine g_iconst (pc := 34) C (v := 0) dX8_areUnlike_34 (by decide) ?_
            exact g_zret1 C M rfl dX8_areUnlike_35
          · refine g_iload_n (pc := 25) C dX8_areUnlike_25 2 rfl rfl ?_
            refine g_iload_n (pc := 26) C dX8_areUnlike_26 3 rfl rfl ?_
            refine g_icmp_eq (pc := 27) C 34 dX8_areUnlike_27 (by decide) ?_ ?_
            · refine g_iconst (pc := 34) C (v := 0) dX8_areUnlike_34 (by decide) ?_
              exact g_zret1 C M rfl dX8_areUnlike_35
            · refine g_iconst (pc := 30) C (v := 1) dX8_areUnlike_30 (by decide) ?_
              refine g_goto (pc := 31) C 35 dX8_areUnlike_31 (by decide) ?_
              exact g_zret1 C M rfl dX8_areUnlike_35
theorem ct_X8_areUnlike {Γ : GA} (x0 : Int32) (x1 : Int32) (x2 : Int32) (x3 : Int32) (S : St) : CtI Γ yX8_areUnlike cX8_areUnlike 4 (some .boolean) 0 [.int x0, .int x1, .int x2, .int x3] S (f_X8_areUnlike x0 x1 x2 x3 S) :=
  ctI_of (by decide) (Nat.le_of_ble_eq_true rfl) (fun _ C M => p_X8_areUnlike C M x0 x1 x2 x3 S)
set_option maxRecDepth 100000 in
set_option maxHeartbeats 4000000 in
theorem p_X8_winsOf {Γ : GA} {E : EV} (C : Cx Γ E RX8 cX8_winsOf 8 6 (some .int)) (M : Mx Γ E) (x1 : Int32) (x2 : Int32) (x3 : Int32) (x4 : Int32) (x5 : Int32) (x6 : Int32) (S : St) : G Γ E (QI Γ E) 8 0 [(0, .ref (gX Γ 55)), (1, .int x1), (2, .int x2), (3, .int x3), (4, .int x4), (5, .int x5), (6, .int x6)] [] S (f_X8_winsOf x1 x2 x3 x4 x5 x6 S) := by
  rw [f_X8_winsOf]
  refine g_aload_n (pc := 0) C dX8_winsOf_0 0 rfl rfl ?_
  refine g_iload_n (pc := 1) C dX8_winsOf_1 3 rfl rfl ?_
  refine g_iload (pc := 2) C dX8_winsOf_2 4 rfl ?_
  refine g_iload (pc := 4) C dX8_winsOf_4 5 rfl ?_
  refine g_iload (pc := 6) C dX8_winsOf_6 6 rfl ?_
  refine g_callVI (pc := 8) (As := [.int x3, .int x4, .int x5, .int x6]) (st := []) C lv_X8_228 fo_55 rfl (ct_X8_chanceOf x3 x4 x5 x6 S) (by decide) rfl rfl (Nat.le_of_ble_eq_true rfl) dX8_winsOf_8 (fun r_2 S_1 => ?_)
  refine g_istore0 (pc := 11) C dX8_winsOf_11 (by decide) (lv' := [(7, .int r_2), (0, .ref (gX Γ 55)), (1, .int x1), (2, .int x2), (3, .int x3), (4, .int x4), (5, .int x5), (6, .int x6)]) rfl ?_
  refine g_aload_n (pc := 13) C dX8_winsOf_13 1 rfl rfl ?_
  refine g_iload_n (pc := 14) C dX8_winsOf_14 2 rfl rfl ?_
  refine g_iload_n (pc := 15) C dX8_winsOf_15 3 rfl rfl ?_
  refine g_iload (pc := 16) C dX8_winsOf_16 6 rfl ?_
  refine g_iload (pc := 18) C dX8_winsOf_18 7 rfl ?_
  refine g_callVI (pc := 20) (As := [.int x1, .int x2, .int x5, .int x6]) (st := []) C lv_X8_228 fo_55 rfl (ct_X8_chanceOf x1 x2 x5 x6 S_1) (by decide) rfl rfl (Nat.le_of_ble_eq_true rfl) dX8_winsOf_20 (fun r_4 S_3 => ?_)
  refine g_iload (pc := 23) C dX8_winsOf_23 0 rfl ?_
  refine g_aload_n (pc := 25) C dX8_winsOf_25 1 rfl rfl ?_
  refine g_iload_n (pc := 26) C dX8_winsOf_26 2 rfl rfl ?_
  refine g_iload_n (pc := 27) C dX8_winsOf_27 4 rfl rfl ?_
  refine g_iload (pc := 28) C dX8_winsOf_28 6 rfl ?_
  refine g_iload (pc := 30) C dX8_winsOf_30 7 rfl ?_
  refine g_callVI (pc := 32) (As := [.int x1, .int x3, .int x5, .int x6]) (st := [.int r_2, .int r_4]) C lv_X8_228 fo_55 rfl (ct_X8_chanceOf x1 x3 x5 x6 S_3) (by decide) rfl rfl (Nat.le_of_ble_eq_true rfl) dX8_winsOf_32 (fun r_6 S_5 => ?_)
  refine g_imul (pc := 35) C dX8_winsOf_35 ?_
  refine g_bipush (pc := 36) C (v := 10) dX8_winsOf_36 (by decide) ?_
  refine g_iload (pc := 38) C dX8_winsOf_38 0 rfl ?_
  refine g_isub (pc := 40) C dX8_winsOf_40 ?_
  refine g_aload_n (pc := 41) C dX8_winsOf_41 1 rfl rfl ?_
  refine g_iload_n (pc := 42) C dX8_winsOf_42 2 rfl rfl ?_
  refine g_iload (pc := 43) C dX8_winsOf_43 5 rfl ?_
  refine g_iload (pc := 45) C dX8_winsOf_45 6 rfl ?_
  refine g_iload (pc := 47) C dX8_winsOf_47 7 rfl ?_
  refine g_callVI (pc := 49) (As := [.int x1, .int x4, .int x5, .int x6]) (st := [.int (10 - r_2), .int (r_2 * r_6), .int r_4]) C lv_X8_228 fo_55 rfl (ct_X8_chanceOf x1 x4 x5 x6 S_5) (by decide) rfl rfl (Nat.le_of_ble_eq_true rfl) dX8_winsOf_49 (fun r_8 S_7 => ?_)
  refine g_imul (pc := 52) C dX8_winsOf_52 ?_
  refine g_iadd (pc := 53) C dX8_winsOf_53 ?_
  refine g_imul (pc := 54) C dX8_winsOf_54 ?_
  exact g_iret C M dX8_winsOf_55
theorem ct_X8_winsOf {Γ : GA} (x1 : Int32) (x2 : Int32) (x3 : Int32) (x4 : Int32) (x5 : Int32) (x6 : Int32) (S : St) : CtI Γ yX8_winsOf cX8_winsOf 8 (some .int) 6 [.ref (gX Γ 55), .int x1, .int x2, .int x3, .int x4, .int x5, .int x6] S (f_X8_winsOf x1 x2 x3 x4 x5 x6 S) :=
  ctI_of (by decide) (Nat.le_of_ble_eq_true rfl) (fun _ C M => p_X8_winsOf C M x1 x2 x3 x4 x5 x6 S)
set_option maxRecDepth 100000 in
set_option maxHeartbeats 4000000 in
theorem p_X8_common_l4 {Γ : GA} {E : EV} (C : Cx Γ E RX8 cX8_common 5 0 (some .int)) (M : Mx Γ E) : ∀ (n : Nat) (x2 : Int32) (x3 : Int32) (S : St), G Γ E (QI Γ E) 5 4 [(2, .int x2), (3, .int x3)] [] S (f_X8_common_l4 n x2 x3 S) := by
  intro n
  induction n with
  | zero => intro x2 x3 S; exact g_none
  | succ n ih =>
    intro x2 x3 S
    rw [f_X8_common_l4]
    refine g_iload_n (pc := 4) C dX8_common_4 0 rfl rfl ?_
    refine g_if_eq (pc := 5) C 21 dX8_common_5 (by decide) ?_ ?_
    · refine g_iload_n (pc := 21) C dX8_common_21 1 rfl rfl ?_
      exact g_iret C M dX8_common_22
    · refine g_iload_n (pc := 8) C dX8_common_8 1 rfl rfl ?_
      refine g_iload_n (pc := 9) C dX8_common_9 0 rfl rfl ?_
      refine g_irem (pc := 10) C dX8_common_10 ?_
      refine g_istore (pc := 11) C dX8_common_11 (by decide) (fun x => [(4, .int x), (2, .int x2), (3, .int x3)]) (fun _ => rfl) (fun x4_1 => ?_)
      refine g_iload_n (pc := 13) C dX8_common_13 1 rfl rfl ?_
      refine g_istore_n0 (pc := 14) C dX8_common_14 rfl (by decide) (lv' := [(3, .int x2), (4, .int x4_1), (2, .int x2)]) rfl ?_
      refine g_iload (pc := 15) C dX8_common_15 1 rfl ?_
      refine g_istore_n0 (pc := 17) C dX8_common_17 rfl (by decide) (lv' := [(2, .int x4_1), (3, .int x2), (4, .int x4_1)]) rfl ?_
      refine g_goto (pc := 18) C 4 dX8_common_18 (by decide) ?_
      exact g_sub [0, 1] rfl (ih x4_1 x2 S)
set_option maxRecDepth 100000 in
set_option maxHeartbeats 4000000 in
theorem p_X8_common {Γ : GA} {E : EV} (C : Cx Γ E RX8 cX8_common 5 0 (some .int)) (M : Mx Γ E) (x0 : Int32) (x1 : Int32) (S : St) : G Γ E (QI Γ E) 5 0 [(0, .int x0), (1, .int x1)] [] S (f_X8_common x0 x1 S) := by
  rw [f_X8_common]
  refine g_iload_n (pc := 0) C dX8_common_0 0 rfl rfl ?_
  refine g_istore_n0 (pc := 1) C dX8_common_1 rfl (by decide) (lv' := [(2, .int x0), (0, .int x0), (1, .int x1)]) rfl ?_
  refine g_iload_n (pc := 2) C dX8_common_2 2 rfl rfl ?_
  refine g_istore_n0 (pc := 3) C dX8_common_3 rfl (by decide) (lv' := [(3, .int x1), (2, .int x0), (0, .int x0), (1, .int x1)]) rfl ?_
  exact g_sub [1, 0] rfl (p_X8_common_l4 C M FU x0 x1 S)
theorem ct_X8_common {Γ : GA} (x0 : Int32) (x1 : Int32) (S : St) : CtI Γ yX8_common cX8_common 5 (some .int) 0 [.int x0, .int x1] S (f_X8_common x0 x1 S) :=
  ctI_of (by decide) (Nat.le_of_ble_eq_true rfl) (fun _ C M => p_X8_common C M x0 x1 S)
set_option maxRecDepth 100000 in
set_option maxHeartbeats 4000000 in
theorem p_X8_wins_b157 {Γ : GA} {E : EV} (C : Cx Γ E RX8 cX8_wins 11 7 (some .int)) (M : Mx Γ E) (x8 : Int32) (s0 : Int32) (S : St) : G Γ E (QI Γ E) 11 157 [(8, .int x8)] [.int s0] S (f_X8_wins_b157 x8 s0 S) := by
  rw [f_X8_wins_b157]
  refine g_istore0 (pc := 157) C dX8_wins_157 (by decide) (lv' := [(9, .int s0), (8, .int x8)]) rfl ?_
  refine g_iload (pc := 159) C dX8_wins_159 0 rfl ?_
  refine g_sipush (pc := 161) C (v := 1000) dX8_wins_161 (by decide) ?_
  refine g_callSI (pc := 164) (As := [.int s0, .int 1000]) (st := []) C ls_X8_243 (ct_X8_common s0 1000 S) (by decide) rfl rfl (Nat.le_of_ble_eq_true rfl) dX8_wins_164 (fun r_18 S_17 => ?_)
  refine g_istore0 (pc := 167) C dX8_wins_167 (by decide) (lv' := [(10, .int r_18), (9, .int s0), (8, .int x8)]) rfl ?_
  refine g_iload (pc := 169) C dX8_wins_169 2 rfl ?_
  refine g_if_ne (pc := 171) C 182 dX8_wins_171 (by decide) ?_ ?_
  · refine g_iload (pc := 174) C dX8_wins_174 1 rfl ?_
    refine g_iload (pc := 176) C dX8_wins_176 0 rfl ?_
    refine g_idiv (pc := 178) C dX8_wins_178 ?_
    refine g_goto (pc := 179) C 188 dX8_wins_179 (by decide) ?_
    exact g_iret C M dX8_wins_188
  · refine g_sipush (pc := 182) C (v := 1000) dX8_wins_182 (by decide) ?_
    refine g_iload (pc := 185) C dX8_wins_185 0 rfl ?_
    refine g_idiv (pc := 187) C dX8_wins_187 ?_
    exact g_iret C M dX8_wins_188
set_option maxRecDepth 100000 in
set_option maxHeartbeats 4000000 in
theorem p_X8_wins {Γ : GA} {E : EV} (C : Cx Γ E RX8 cX8_wins 11 7 (some .int)) (M : Mx Γ E) (x1 : Int32) (x2 : Int32) (x3 : Int32) (x4 : Int32) (x5 : Int32) (x6 : Int32) (x7 : Int32) (x8 : Int32) (S : St) : G Γ E (QI Γ E) 11 0 [(0, .ref (gX Γ 55)), (1, .int x1), (2, .int x2), (3, .int x3), (4, .int x4), (5, .int x5), (6, .int x6), (7, .int x7), (8, .int x8)] [] S (f_X8_wins x1 x2 x3 x4 x5 x6 x7 x8 S) := by
  rw [f_X8_wins]
  refine g_aload_n (pc := 0) C dX8_wins_0 0 rfl rfl ?_
  refine g_iload_n (pc := 1) C dX8_wins_1 1 rfl rfl ?_
  refine g_iload_n (pc := 2) C dX8_wins_2 2 rfl rfl ?_
  refine g_iload_n (pc := 3) C dX8_wins_3 3 rfl rfl ?_
  refine g_iload (pc := 4) C dX8_wins_4 4 rfl ?_
  refine g_callVI (pc := 6) (As := [.int x1, .int x2, .int x3, .int x4]) (st := []) C lv_X8_232 fo_55 rfl (ct_X8_areFour x1 x2 x3 x4 S) (by decide) rfl rfl (Nat.le_of_ble_eq_true rfl) dX8_wins_6 (fun r_2 S_1 => ?_)
  refine g_if_ne (pc := 9) C 15 dX8_wins_9 (by decide) ?_ ?_
  · refine g_bipush (pc := 12) C (v := (-101)) dX8_wins_12 (by decide) ?_
    exact g_iret C M dX8_wins_14
  · refine g_aload_n (pc := 15) C dX8_wins_15 0 rfl rfl ?_
    refine g_callVI (pc := 16) (As := []) (st := []) C lv_X8_182 fo_55 rfl (ct_X8_lacks S_1) (by decide) rfl rfl (Nat.le_of_ble_eq_true rfl) dX8_wins_16 (fun r_4 S_3 => ?_)
    refine g_if_ne (pc := 19) C 33 dX8_wins_19 (by decide) ?_ ?_
    · refine g_iload_n (pc := 22) C dX8_wins_22 1 rfl rfl ?_
      refine g_iload_n (pc := 23) C dX8_wins_23 2 rfl rfl ?_
      refine g_iload_n (pc := 24) C dX8_wins_24 3 rfl rfl ?_
      refine g_iload (pc := 25) C dX8_wins_25 4 rfl ?_
      refine g_callSI (pc := 27) (As := [.int x1, .int x2, .int x3, .int x4]) (st := []) C ls_X8_236 (ct_X8_areUnlike x1 x2 x3 x4 S_3) (by decide) rfl rfl (Nat.le_of_ble_eq_true rfl) dX8_wins_27 (fun r_6 S_5 => ?_)
      refine g_if_ne (pc := 30) C 36 dX8_wins_30 (by decide) ?_ ?_
      · refine g_bipush (pc := 33) C (v := (-103)) dX8_wins_33 (by decide) ?_
        exact g_iret C M dX8_wins_35
      · refine g_iload (pc := 36) C dX8_wins_36 5 rfl ?_
        refine g_callSI (pc := 38) (As := [.int x5]) (st := []) C ls_X8_186 (ct_X8_isSwing x5 S_5) (by decide) rfl rfl (Nat.le_of_ble_eq_true rfl) dX8_wins_38 (fun r_8 S_7 => ?_)
        refine g_if_eq (pc := 41) C 76 dX8_wins_41 (by decide) ?_ ?_
        · refine g_bipush (pc := 76) C (v := (-102)) dX8_wins_76 (by decide) ?_
          exact g_iret C M dX8_wins_78
        · refine g_iload (pc := 44) C dX8_wins_44 6 rfl ?_
          refine g_callSI (pc := 46) (As := [.int x6]) (st := []) C ls_X8_225 (ct_X8_isSlip x6 S_7) (by decide) rfl rfl (Nat.le_of_ble_eq_true rfl) dX8_wins_46 (fun r_10 S_9 => ?_)
          refine g_if_eq (pc := 49) C 76 dX8_wins_49 (by decide) ?_ ?_
          · refine g_bipush (pc := 76) C (v := (-102)) dX8_wins_76 (by decide) ?_
            exact g_iret C M dX8_wins_78
          · refine g_iload (pc := 52) C dX8_wins_52 7 rfl ?_
            refine g_i2l (pc := 54) C dX8_wins_54 ?_
            refine g_lconst (pc := 55) C (v := 0) dX8_wins_55 (by decide) ?_
            refine g_ldc2 (pc := 56) C kc_X8_189 dX8_wins_56 ?_
            refine g_callSI (pc := 59) (As := [.long ((x7 : Int32).toInt64), .long 0, .long 3]) (st := []) C ls_X8_89 (ct_X8_in ((x7 : Int32).toInt64) 0 3 S_9) (by decide) rfl rfl (Nat.le_of_ble_eq_true rfl) dX8_wins_59 (fun r_12 S_11 => ?_)
            refine g_if_eq (pc := 62) C 76 dX8_wins_62 (by decide) ?_ ?_
            · refine g_bipush (pc := 76) C (v := (-102)) dX8_wins_76 (by decide) ?_
              exact g_iret C M dX8_wins_78
            · refine g_iload (pc := 65) C dX8_wins_65 8 rfl ?_
              refine g_i2l (pc := 67) C dX8_wins_67 ?_
              refine g_lconst (pc := 68) C (v := 0) dX8_wins_68 (by decide) ?_
              refine g_lconst (pc := 69) C (v := 1) dX8_wins_69 (by decide) ?_
              refine g_callSI (pc := 70) (As := [.long ((x8 : Int32).toInt64), .long 0, .long 1]) (st := []) C ls_X8_89 (ct_X8_in ((x8 : Int32).toInt64) 0 1 S_11) (by decide) rfl rfl (Nat.le_of_ble_eq_true rfl) dX8_wins_70 (fun r_14 S_13 => ?_)
              refine g_if_ne (pc := 73) C 79 dX8_wins_73 (by decide) ?_ ?_
              · refine g_bipush (pc := 76) C (v := (-102)) dX8_wins_76 (by decide) ?_
                exact g_iret C M dX8_wins_78
              · refine g_iload (pc := 79) C dX8_wins_79 7 rfl ?_
                refine g_if_ne (pc := 81) C 100 dX8_wins_81 (by decide) ?_ ?_
                · refine g_aload_n (pc := 84) C dX8_wins_84 0 rfl rfl ?_
                  refine g_iload_n (pc := 85) C dX8_wins_85 1 rfl rfl ?_
                  refine g_iload_n (pc := 86) C dX8_wins_86 2 rfl rfl ?_
                  refine g_iload_n (pc := 87) C dX8_wins_87 3 rfl rfl ?_
                  refine g_iload (pc := 88) C dX8_wins_88 4 rfl ?_
                  refine g_iload (pc := 90) C dX8_wins_90 5 rfl ?_
                  refine g_iload (pc := 92) C dX8_wins_92 6 rfl ?_
                  refine g_callVI (pc := 94) (As := [.int x1, .int x2, .int x3, .int x4, .int x5, .int x6]) (st := []) C lv_X8_239 fo_55 rfl (ct_X8_winsOf x1 x2 x3 x4 x5 x6 S_13) (by decide) rfl rfl (Nat.le_of_ble_eq_true rfl) dX8_wins_94 (fun r_16 S_15 => ?_)
                  refine g_goto (pc := 97) C 157 dX8_wins_97 (by decide) ?_
                  exact g_sub [8] rfl (p_X8_wins_b157 C M x8 r_16 S_15)
                · refine g_iload (pc := 100) C dX8_wins_100 7 rfl ?_
                  refine g_iconst (pc := 102) C (v := 1) dX8_wins_102 (by decide) ?_
                  refine g_icmp_ne (pc := 103) C 122 dX8_wins_103 (by decide) ?_ ?_
                  · refine g_aload_n (pc := 106) C dX8_wins_106 0 rfl rfl ?_
                    refine g_iload_n (pc := 107) C dX8_wins_107 2 rfl rfl ?_
                    refine g_iload_n (pc := 108) C dX8_wins_108 1 rfl rfl ?_
                    refine g_iload_n (pc := 109) C dX8_wins_109 3 rfl rfl ?_
                    refine g_iload (pc := 110) C dX8_wins_110 4 rfl ?_
                    refine g_iload (pc := 112) C dX8_wins_112 5 rfl ?_
                    refine g_iload (pc := 114) C dX8_wins_114 6 rfl ?_
                    refine g_callVI (pc := 116) (As := [.int x2, .int x1, .int x3, .int x4, .int x5, .int x6]) (st := []) C lv_X8_239 fo_55 rfl (ct_X8_winsOf x2 x1 x3 x4 x5 x6 S_13) (by decide) rfl rfl (Nat.le_of_ble_eq_true rfl) dX8_wins_116 (fun r_20 S_19 => ?_)
                    refine g_goto (pc := 119) C 157 dX8_wins_119 (by decide) ?_
                    exact g_sub [8] rfl (p_X8_wins_b157 C M x8 r_20 S_19)
                  · refine g_iload (pc := 122) C dX8_wins_122 7 rfl ?_
                    refine g_iconst (pc := 124) C (v := 2) dX8_wins_124 (by decide) ?_
                    refine g_icmp_ne (pc := 125) C 144 dX8_wins_125 (by decide) ?_ ?_
                    · refine g_aload_n (pc := 128) C dX8_wins_128 0 rfl rfl ?_
                      refine g_iload_n (pc := 129) C dX8_wins_129 3 rfl rfl ?_
                      refine g_iload (pc := 130) C dX8_wins_130 4 rfl ?_
                      refine g_iload_n (pc := 132) C dX8_wins_132 1 rfl rfl ?_
                      refine g_iload_n (pc := 133) C dX8_wins_133 2 rfl rfl ?_
                      refine g_iload (pc := 134) C dX8_wins_134 5 rfl ?_
                      refine g_iload (pc := 136) C dX8_wins_136 6 rfl ?_
                      refine g_callVI (pc := 138) (As := [.int x3, .int x4, .int x1, .int x2, .int x5, .int x6]) (st := []) C lv_X8_239 fo_55 rfl (ct_X8_winsOf x3 x4 x1 x2 x5 x6 S_13) (by decide) rfl rfl (Nat.le_of_ble_eq_true rfl) dX8_wins_138 (fun r_22 S_21 => ?_)
                      refine g_goto (pc := 141) C 157 dX8_wins_141 (by decide) ?_
                      exact g_sub [8] rfl (p_X8_wins_b157 C M x8 r_22 S_21)
                    · refine g_aload_n (pc := 144) C dX8_wins_144 0 rfl rfl ?_
                      refine g_iload (pc := 145) C dX8_wins_145 4 rfl ?_
                      refine g_iload_n (pc := 147) C dX8_wins_147 3 rfl rfl ?_
                      refine g_iload_n (pc := 148) C dX8_wins_148 1 rfl rfl ?_
                      refine g_iload_n (pc := 149) C dX8_wins_149 2 rfl rfl ?_
                      refine g_iload (pc := 150) C dX8_wins_150 5 rfl ?_
                      refine g_iload (pc := 152) C dX8_wins_152 6 rfl ?_
                      refine g_callVI (pc := 154) (As := [.int x4, .int x3, .int x1, .int x2, .int x5, .int x6]) (st := []) C lv_X8_239 fo_55 rfl (ct_X8_winsOf x4 x3 x1 x2 x5 x6 S_13) (by decide) rfl rfl (Nat.le_of_ble_eq_true rfl) dX8_wins_154 (fun r_24 S_23 => ?_)
                      exact g_sub [8] rfl (p_X8_wins_b157 C M x8 r_24 S_23)
    · refine g_bipush (pc := 33) C (v := (-103)) dX8_wins_33 (by decide) ?_
      exact g_iret C M dX8_wins_35
theorem ct_X8_wins {Γ : GA} (x1 : Int32) (x2 : Int32) (x3 : Int32) (x4 : Int32) (x5 : Int32) (x6 : Int32) (x7 : Int32) (x8 : Int32) (S : St) : CtI Γ yX8_wins cX8_wins 11 (some .int) 7 [.ref (gX Γ 55), .int x1, .int x2, .int x3, .int x4, .int x5, .int x6, .int x7, .int x8] S (f_X8_wins x1 x2 x3 x4 x5 x6 x7 x8 S) :=
  ctI_of (by decide) (Nat.le_of_ble_eq_true rfl) (fun _ C M => p_X8_wins C M x1 x2 x3 x4 x5 x6 x7 x8 S)
set_option maxRecDepth 100000 in
set_option maxHeartbeats 4000000 in
theorem p_X8_quickest_b59 {Γ : GA} {E : EV} (C : Cx Γ E RX8 cX8_quickest 6 5 (some .int)) (M : Mx Γ E) (k4 : Int32 → Int32 → Int32 → St → Option (Int32 × St)) (hk4 : ∀ (x1 : Int32) (x2 : Int32) (x3 : Int32) (S : St), G Γ E (QI Γ E) 6 4 [(0, .ref (gX Γ 55)), (1, .int x1), (2, .int x2), (3, .int x3)] [] S (k4 x1 x2 x3 S)) (x1 : Int32) (x3 : Int32) (s0 : Int32) (S : St) : G Γ E (QI Γ E) 6 59 [(0, .ref (gX Γ 55)), (1, .int x1), (3, .int x3)] [.int s0] S (f_X8_quickest_b59 k4 x1 x3 s0 S) := by
  rw [f_X8_quickest_b59]
  refine g_istore_n0 (pc := 59) C dX8_quickest_59 rfl (by decide) (lv' := [(2, .int s0), (0, .ref (gX Γ 55)), (1, .int x1), (3, .int x3)]) rfl ?_
  refine g_iinc (pc := 60) C (v := 1) dX8_quickest_60 3 rfl (by decide) (by decide) (fun x => [(3, .int x), (2, .int s0), (0, .ref (gX Γ 55)), (1, .int x1)]) (fun _ => rfl) (fun x3_5 => ?_)
  refine g_goto (pc := 63) C 4 dX8_quickest_63 (by decide) ?_
  exact g_sub [2, 3, 1, 0] rfl (hk4 x1 s0 x3_5 S)
set_option maxRecDepth 100000 in
set_option maxHeartbeats 4000000 in
theorem p_X8_quickest_b58 {Γ : GA} {E : EV} (C : Cx Γ E RX8 cX8_quickest 6 5 (some .int)) (M : Mx Γ E) (k4 : Int32 → Int32 → Int32 → St → Option (Int32 × St)) (hk4 : ∀ (x1 : Int32) (x2 : Int32) (x3 : Int32) (S : St), G Γ E (QI Γ E) 6 4 [(0, .ref (gX Γ 55)), (1, .int x1), (2, .int x2), (3, .int x3)] [] S (k4 x1 x2 x3 S)) (x1 : Int32) (x2 : Int32) (x3 : Int32) (S : St) : G Γ E (QI Γ E) 6 58 [(0, .ref (gX Γ 55)), (1, .int x1), (2, .int x2), (3, .int x3)] [] S (f_X8_quickest_b58 k4 x1 x2 x3 S) := by
  rw [f_X8_quickest_b58]
  refine g_iload_n (pc := 58) C dX8_quickest_58 2 rfl rfl ?_
  exact g_sub [0, 1, 3] rfl (p_X8_quickest_b59 C M k4 hk4 x1 x3 x2 S)
set_option maxRecDepth 100000 in
set_option maxHeartbeats 4000000 in
theorem p_X8_quickest_b54 {Γ : GA} {E : EV} (C : Cx Γ E RX8 cX8_quickest 6 5 (some .int)) (M : Mx Γ E) (k4 : Int32 → Int32 → Int32 → St → Option (Int32 × St)) (hk4 : ∀ (x1 : Int32) (x2 : Int32) (x3 : Int32) (S : St), G Γ E (QI Γ E) 6 4 [(0, .ref (gX Γ 55)), (1, .int x1), (2, .int x2), (3, .int x3)] [] S (k4 x1 x2 x3 S)) (x1 : Int32) (x3 : Int32) (S : St) : G Γ E (QI Γ E) 6 54 [(0, .ref (gX Γ 55)), (1, .int x1), (3, .int x3)] [] S (f_X8_quickest_b54 k4 x1 x3 S) := by
  rw [f_X8_quickest_b54]
  refine g_iload_n (pc := 54) C dX8_quickest_54 2 rfl rfl ?_
  refine g_goto (pc := 55) C 59 dX8_quickest_55 (by decide) ?_
  exact g_sub [0, 1, 2] rfl (p_X8_quickest_b59 C M k4 hk4 x1 x3 x3 S)
set_option maxRecDepth 100000 in
set_option maxHeartbeats 4000000 in
theorem p_X8_quickest_l4 {Γ : GA} {E : EV} (C : Cx Γ E RX8 cX8_quickest 6 5 (some .int)) (M : Mx Γ E) : ∀ (n : Nat) (x1 : Int32) (x2 : Int32) (x3 : Int32) (S : St), G Γ E (QI Γ E) 6 4 [(0, .ref (gX Γ 55)), (1, .int x1), (2, .int x2), (3, .int x3)] [] S (f_X8_quickest_l4 n x1 x2 x3 S) := by
  intro n
  induction n with
  | zero => intro x1 x2 x3 S; exact g_none
  | succ n ih =>
    intro x1 x2 x3 S
    rw [f_X8_quickest_l4]
    refine g_iload_n (pc := 4) C dX8_quickest_4 3 rfl rfl ?_
    refine g_iconst (pc := 5) C (v := 4) dX8_quickest_5 (by decide) ?_
    refine g_icmp_ge (pc := 6) C 66 dX8_quickest_6 (by decide) ?_ ?_
    · refine g_iload_n (pc := 66) C dX8_quickest_66 2 rfl rfl ?_
      exact g_iret C M dX8_quickest_67
    · refine g_aload_n (pc := 9) C dX8_quickest_9 0 rfl rfl ?_
      refine g_aload_n (pc := 10) C dX8_quickest_10 0 rfl rfl ?_
      refine g_getR (pc := 11) C lk_X8_55 fr_55_31 dX8_quickest_11 ?_
      refine g_iload_n (pc := 14) C dX8_quickest_14 3 rfl rfl ?_
      refine g_iald (pc := 15) C ai_71 dX8_quickest_15 ?_
      refine g_iload_n (pc := 16) C dX8_quickest_16 1 rfl rfl ?_
      refine g_callVI (pc := 17) (As := [.int (S 71 (x3 : Int32).toNatClampNeg), .int x1]) (st := []) C lv_X8_222 fo_55 rfl (ct_X8_downTime (S 71 (x3 : Int32).toNatClampNeg) x1 S) (by decide) rfl rfl (Nat.le_of_ble_eq_true rfl) dX8_quickest_17 (fun r_2 S_1 => ?_)
      refine g_istore0 (pc := 20) C dX8_quickest_20 (by decide) (lv' := [(4, .int r_2), (0, .ref (gX Γ 55)), (1, .int x1), (2, .int x2), (3, .int x3)]) rfl ?_
      refine g_aload_n (pc := 22) C dX8_quickest_22 1 rfl rfl ?_
      refine g_aload_n (pc := 23) C dX8_quickest_23 1 rfl rfl ?_
      refine g_getR (pc := 24) C lk_X8_55 fr_55_31 dX8_quickest_24 ?_
      refine g_iload_n (pc := 27) C dX8_quickest_27 3 rfl rfl ?_
      refine g_iald (pc := 28) C ai_71 dX8_quickest_28 ?_
      refine g_iload_n (pc := 29) C dX8_quickest_29 2 rfl rfl ?_
      refine g_callVI (pc := 30) (As := [.int (S_1 71 (x2 : Int32).toNatClampNeg), .int x1]) (st := []) C lv_X8_222 fo_55 rfl (ct_X8_downTime (S_1 71 (x2 : Int32).toNatClampNeg) x1 S_1) (by decide) rfl rfl (Nat.le_of_ble_eq_true rfl) dX8_quickest_30 (fun r_4 S_3 => ?_)
      refine g_istore0 (pc := 33) C dX8_quickest_33 (by decide) (lv' := [(5, .int r_4), (4, .int r_2), (0, .ref (gX Γ 55)), (1, .int x1), (2, .int x2), (3, .int x3)]) rfl ?_
      refine g_iload (pc := 35) C dX8_quickest_35 1 rfl ?_
      refine g_iconst (pc := 37) C (v := (-1)) dX8_quickest_37 (by decide) ?_
      refine g_icmp_eq (pc := 38) C 58 dX8_quickest_38 (by decide) ?_ ?_
      · exact g_sub [2, 3, 4, 5] rfl (p_X8_quickest_b58 C M (f_X8_quickest_l4 n) ih x1 x2 x3 S_3)
      · refine g_iload (pc := 41) C dX8_quickest_41 0 rfl ?_
        refine g_iconst (pc := 43) C (v := (-1)) dX8_quickest_43 (by decide) ?_
        refine g_icmp_eq (pc := 44) C 54 dX8_quickest_44 (by decide) ?_ ?_
        · exact g_sub [2, 3, 5] rfl (p_X8_quickest_b54 C M (f_X8_quickest_l4 n) ih x1 x3 S_3)
        · refine g_iload (pc := 47) C dX8_quickest_47 1 rfl ?_
          refine g_iload (pc := 49) C dX8_quickest_49 0 rfl ?_
          refine g_icmp_ge (pc := 51) C 58 dX8_quickest_51 (by decide) ?_ ?_
          · exact g_sub [2, 3, 4, 5] rfl (p_X8_quickest_b58 C M (f_X8_quickest_l4 n) ih x1 x2 x3 S_3)
          · exact g_sub [2, 3, 5] rfl (p_X8_quickest_b54 C M (f_X8_quickest_l4 n) ih x1 x3 S_3)
set_option maxRecDepth 100000 in
set_option maxHeartbeats 4000000 in
theorem p_X8_quickest {Γ : GA} {E : EV} (C : Cx Γ E RX8 cX8_quickest 6 5 (some .int)) (M : Mx Γ E) (x1 : Int32) (S : St) : G Γ E (QI Γ E) 6 0 [(0, .ref (gX Γ 55)), (1, .int x1)] [] S (f_X8_quickest x1 S) := by
  rw [f_X8_quickest]
  refine g_iconst (pc := 0) C (v := 0) dX8_quickest_0 (by decide) ?_
  refine g_istore_n0 (pc := 1) C dX8_quickest_1 rfl (by decide) (lv' := [(2, .int 0), (0, .ref (gX Γ 55)), (1, .int x1)]) rfl ?_
  refine g_iconst (pc := 2) C (v := 1) dX8_quickest_2 (by decide) ?_
  refine g_istore_n0 (pc := 3) C dX8_quickest_3 rfl (by decide) (lv' := [(3, .int 1), (2, .int 0), (0, .ref (gX Γ 55)), (1, .int x1)]) rfl ?_
  exact g_sub [2, 3, 1, 0] rfl (p_X8_quickest_l4 C M FU x1 0 1 S)
theorem ct_X8_quickest {Γ : GA} (x1 : Int32) (S : St) : CtI Γ yX8_quickest cX8_quickest 6 (some .int) 5 [.ref (gX Γ 55), .int x1] S (f_X8_quickest x1 S) :=
  ctI_of (by decide) (Nat.le_of_ble_eq_true rfl) (fun _ C M => p_X8_quickest C M x1 S)
set_option maxRecDepth 100000 in
set_option maxHeartbeats 4000000 in
theorem p_X8_plan_b155 {Γ : GA} {E : EV} (C : Cx Γ E RX8 cX8_plan 15 7 (some .int)) (M : Mx Γ E) (k101 : Int32 → Int32 → Int32 → Int32 → Int32 → Int32 → St → Option (Int32 × St)) (hk101 : ∀ (x5 : Int32) (x6 : Int32) (x7 : Int32) (x8 : Int32) (x9 : Int32) (x10 : Int32) (S : St), G Γ E (QI Γ E) 15 101 [(0, .ref (gX Γ 55)), (5, .int x5), (6, .int x6), (7, .int x7), (8, .int x8), (9, .int x9), (10, .int x10)] [] S (k101 x5 x6 x7 x8 x9 x10 S)) (k141 : Int32 → Int32 → Int32 → Int32 → Int32 → Int32 → Int32 → Int32 → St → Option (Int32 × St)) (hk141 : ∀ (x5 : Int32) (x6 : Int32) (x7 : Int32) (x8 : Int32) (x9 : Int32) (x10 : Int32) (x11 : Int32) (x12 : Int32) (S : St), G Γ E (QI Γ E) 15 141 [(0, .ref (gX Γ 55)), (5, .int x5), (6, .int x6), (7, .int x7), (8, .int x8), (9, .int x9), (10, .int x10), (11, .int x11), (12, .int x12)] [] S (k141 x5 x6 x7 x8 x9 x10 x11 x12 S)) (x5 : Int32) (x6 : Int32) (x7 : Int32) (x8 : Int32) (x9 : Int32) (x10 : Int32) (x11 : Int32) (x12 : Int32) (S : St) : G Γ E (QI Γ E) 15 155 [(0, .ref (gX Γ 55)), (5, .int x5), (6, .int x6), (7, .int x7), (8, .int x8), (9, .int x9), (10, .int x10), (11, .int x11), (12, .int x12)] [] S (f_X8_plan_b155 k101 k141 x5 x6 x7 x8 x9 x10 x11 x12 S) := by
  rw [f_X8_plan_b155]
  refine g_iinc (pc := 155) C (v := 1) dX8_plan_155 8 rfl (by decide) (by decide) (fun x => [(12, .int x), (0, .ref (gX Γ 55)), (5, .int x5), (6, .int x6), (7, .int x7), (8, .int x8), (9, .int x9), (10, .int x10), (11, .int x11)]) (fun _ => rfl) (fun x12_17 => ?_)
  refine g_goto (pc := 158) C 141 dX8_plan_158 (by decide) ?_
  exact g_sub [1, 2, 3, 4, 5, 6, 7, 8, 0] rfl (hk141 x5 x6 x7 x8 x9 x10 x11 x12_17 S)
set_option maxRecDepth 100000 in
set_option maxHeartbeats 4000000 in
theorem p_X8_plan_b242 {Γ : GA} {E : EV} (C : Cx Γ E RX8 cX8_plan 15 7 (some .int)) (M : Mx Γ E) (k101 : Int32 → Int32 → Int32 → Int32 → Int32 → Int32 → St → Option (Int32 × St)) (hk101 : ∀ (x5 : Int32) (x6 : Int32) (x7 : Int32) (x8 : Int32) (x9 : Int32) (x10 : Int32) (S : St), G Γ E (QI Γ E) 15 101 [(0, .ref (gX Γ 55)), (5, .int x5), (6, .int x6), (7, .int x7), (8, .int x8), (9, .int x9), (10, .int x10)] [] S (k101 x5 x6 x7 x8 x9 x10 S)) (x5 : Int32) (x6 : Int32) (x7 : Int32) (x8 : Int32) (x10 : Int32) (s0 : Int32) (S : St) : G Γ E (QI Γ E) 15 242 [(0, .ref (gX Γ 55)), (5, .int x5), (6, .int x6), (7, .int x7), (8, .int x8), (10, .int x10)] [.int s0] S (f_X8_plan_b242 k101 x5 x6 x7 x8 x10 s0 S) := by
  rw [f_X8_plan_b242]
  refine g_istore0 (pc := 242) C dX8_plan_242 (by decide) (lv' := [(9, .int s0), (0, .ref (gX Γ 55)), (5, .int x5), (6, .int x6), (7, .int x7), (8, .int x8), (10, .int x10)]) rfl ?_
  refine g_iinc (pc := 244) C (v := 1) dX8_plan_244 6 rfl (by decide) (by decide) (fun x => [(10, .int x), (9, .int s0), (0, .ref (gX Γ 55)), (5, .int x5), (6, .int x6), (7, .int x7), (8, .int x8)]) (fun _ => rfl) (fun x10_21 => ?_)
  refine g_goto (pc := 247) C 101 dX8_plan_247 (by decide) ?_
  exact g_sub [2, 3, 4, 5, 6, 1, 0] rfl (hk101 x5 x6 x7 x8 s0 x10_21 S)
set_option maxRecDepth 100000 in
set_option maxHeartbeats 4000000 in
theorem p_X8_plan_b226 {Γ : GA} {E : EV} (C : Cx Γ E RX8 cX8_plan 15 7 (some .int)) (M : Mx Γ E) (k101 : Int32 → Int32 → Int32 → Int32 → Int32 → Int32 → St → Option (Int32 × St)) (hk101 : ∀ (x5 : Int32) (x6 : Int32) (x7 : Int32) (x8 : Int32) (x9 : Int32) (x10 : Int32) (S : St), G Γ E (QI Γ E) 15 101 [(0, .ref (gX Γ 55)), (5, .int x5), (6, .int x6), (7, .int x7), (8, .int x8), (9, .int x9), (10, .int x10)] [] S (k101 x5 x6 x7 x8 x9 x10 S)) (x5 : Int32) (x6 : Int32) (x7 : Int32) (x9 : Int32) (x10 : Int32) (x14 : Int32) (s0 : Int32) (S : St) : G Γ E (QI Γ E) 15 226 [(0, .ref (gX Γ 55)), (5, .int x5), (6, .int x6), (7, .int x7), (9, .int x9), (10, .int x10), (14, .int x14)] [.int s0] S (f_X8_plan_b226 k101 x5 x6 x7 x9 x10 x14 s0 S) := by
  rw [f_X8_plan_b226]
  refine g_istore0 (pc := 226) C dX8_plan_226 (by decide) (lv' := [(8, .int s0), (0, .ref (gX Γ 55)), (5, .int x5), (6, .int x6), (7, .int x7), (9, .int x9), (10, .int x10), (14, .int x14)]) rfl ?_
  refine g_iload (pc := 228) C dX8_plan_228 7 rfl ?_
  refine g_iload (pc := 230) C dX8_plan_230 5 rfl ?_
  refine g_icmp_le (pc := 232) C 240 dX8_plan_232 (by decide) ?_ ?_
  · refine g_iload (pc := 240) C dX8_plan_240 5 rfl ?_
    exact g_sub [1, 2, 3, 4, 0, 6] rfl (p_X8_plan_b242 C M k101 hk101 x5 x6 x7 s0 x10 x9 S)
  · refine g_iload (pc := 235) C dX8_plan_235 7 rfl ?_
    refine g_goto (pc := 237) C 242 dX8_plan_237 (by decide) ?_
    exact g_sub [1, 2, 3, 4, 0, 6] rfl (p_X8_plan_b242 C M k101 hk101 x5 x6 x7 s0 x10 x14 S)
set_option maxRecDepth 100000 in
set_option maxHeartbeats 4000000 in
theorem p_X8_plan_l141 {Γ : GA} {E : EV} (C : Cx Γ E RX8 cX8_plan 15 7 (some .int)) (M : Mx Γ E) (k101 : Int32 → Int32 → Int32 → Int32 → Int32 → Int32 → St → Option (Int32 × St)) (hk101 : ∀ (x5 : Int32) (x6 : Int32) (x7 : Int32) (x8 : Int32) (x9 : Int32) (x10 : Int32) (S : St), G Γ E (QI Γ E) 15 101 [(0, .ref (gX Γ 55)), (5, .int x5), (6, .int x6), (7, .int x7), (8, .int x8), (9, .int x9), (10, .int x10)] [] S (k101 x5 x6 x7 x8 x9 x10 S)) : ∀ (n : Nat) (x5 : Int32) (x6 : Int32) (x7 : Int32) (x8 : Int32) (x9 : Int32) (x10 : Int32) (x11 : Int32) (x12 : Int32) (S : St), G Γ E (QI Γ E) 15 141 [(0, .ref (gX Γ 55)), (5, .int x5), (6, .int x6), (7, .int x7), (8, .int x8), (9, .int x9), (10, .int x10), (11, .int x11), (12, .int x12)] [] S (f_X8_plan_l141 k101 n x5 x6 x7 x8 x9 x10 x11 x12 S) := by
  intro n
  induction n with
  | zero => intro x5 x6 x7 x8 x9 x10 x11 x12 S; exact g_none
  | succ n ih =>
    intro x5 x6 x7 x8 x9 x10 x11 x12 S
    rw [f_X8_plan_l141]
    refine g_iload (pc := 141) C dX8_plan_141 8 rfl ?_
    refine g_iload (pc := 143) C dX8_plan_143 3 rfl ?_
    refine g_icmp_eq (pc := 145) C 155 dX8_plan_145 (by decide) ?_ ?_
    · exact g_sub [0, 1, 2, 3, 4, 5, 6, 7, 8] rfl (p_X8_plan_b155 C M k101 hk101 (f_X8_plan_l141 k101 n) ih x5 x6 x7 x8 x9 x10 x11 x12 S)
    · refine g_iload (pc := 148) C dX8_plan_148 8 rfl ?_
      refine g_iload (pc := 150) C dX8_plan_150 7 rfl ?_
      refine g_icmp_ne (pc := 152) C 161 dX8_plan_152 (by decide) ?_ ?_
      · exact g_sub [0, 1, 2, 3, 4, 5, 6, 7, 8] rfl (p_X8_plan_b155 C M k101 hk101 (f_X8_plan_l141 k101 n) ih x5 x6 x7 x8 x9 x10 x11 x12 S)
      · refine g_bipush (pc := 161) C (v := 6) dX8_plan_161 (by decide) ?_
        refine g_iload (pc := 163) C dX8_plan_163 3 rfl ?_
        refine g_isub (pc := 165) C dX8_plan_165 ?_
        refine g_iload (pc := 166) C dX8_plan_166 7 rfl ?_
        refine g_isub (pc := 168) C dX8_plan_168 ?_
        refine g_iload (pc := 169) C dX8_plan_169 8 rfl ?_
        refine g_isub (pc := 171) C dX8_plan_171 ?_
        refine g_istore (pc := 172) C dX8_plan_172 (by decide) (fun x => [(13, .int x), (0, .ref (gX Γ 55)), (5, .int x5), (6, .int x6), (7, .int x7), (8, .int x8), (9, .int x9), (10, .int x10), (11, .int x11), (12, .int x12)]) (fun _ => rfl) (fun x13_18 => ?_)
        refine g_aload_n (pc := 174) C dX8_plan_174 1 rfl rfl ?_
        refine g_aload_n (pc := 175) C dX8_plan_175 1 rfl rfl ?_
        refine g_getR (pc := 176) C lk_X8_55 fr_55_31 dX8_plan_176 ?_
        refine g_iload (pc := 179) C dX8_plan_179 4 rfl ?_
        refine g_iald (pc := 181) C ai_71 dX8_plan_181 ?_
        refine g_aload_n (pc := 182) C dX8_plan_182 1 rfl rfl ?_
        refine g_getR (pc := 183) C lk_X8_55 fr_55_31 dX8_plan_183 ?_
        refine g_iload (pc := 186) C dX8_plan_186 8 rfl ?_
        refine g_iald (pc := 188) C ai_71 dX8_plan_188 ?_
        refine g_aload_n (pc := 189) C dX8_plan_189 1 rfl rfl ?_
        refine g_getR (pc := 190) C lk_X8_55 fr_55_31 dX8_plan_190 ?_
        refine g_iload (pc := 193) C dX8_plan_193 9 rfl ?_
        refine g_iald (pc := 195) C ai_71 dX8_plan_195 ?_
        refine g_aload_n (pc := 196) C dX8_plan_196 1 rfl rfl ?_
        refine g_getR (pc := 197) C lk_X8_55 fr_55_31 dX8_plan_197 ?_
        refine g_iload (pc := 200) C dX8_plan_200 0 rfl ?_
        refine g_iald (pc := 202) C ai_71 dX8_plan_202 ?_
        refine g_iload (pc := 203) C dX8_plan_203 2 rfl ?_
        refine g_iload (pc := 205) C dX8_plan_205 3 rfl ?_
        refine g_callVI (pc := 207) (As := [.int (S 71 (x7 : Int32).toNatClampNeg), .int (S 71 (x11 : Int32).toNatClampNeg), .int (S 71 (x12 : Int32).toNatClampNeg), .int (S 71 (x13_18 : Int32).toNatClampNeg), .int x5, .int x6]) (st := []) C lv_X8_239 fo_55 rfl (ct_X8_winsOf (S 71 (x7 : Int32).toNatClampNeg) (S 71 (x11 : Int32).toNatClampNeg) (S 71 (x12 : Int32).toNatClampNeg) (S 71 (x13_18 : Int32).toNatClampNeg) x5 x6 S) (by decide) rfl rfl (Nat.le_of_ble_eq_true rfl) dX8_plan_207 (fun r_20 S_19 => ?_)
        refine g_istore0 (pc := 210) C dX8_plan_210 (by decide) (lv' := [(14, .int r_20), (13, .int x13_18), (0, .ref (gX Γ 55)), (5, .int x5), (6, .int x6), (7, .int x7), (8, .int x8), (9, .int x9), (10, .int x10), (11, .int x11), (12, .int x12)]) rfl ?_
        refine g_iload (pc := 212) C dX8_plan_212 0 rfl ?_
        refine g_iload (pc := 214) C dX8_plan_214 7 rfl ?_
        refine g_icmp_le (pc := 216) C 224 dX8_plan_216 (by decide) ?_ ?_
        · refine g_iload (pc := 224) C dX8_plan_224 6 rfl ?_
          exact g_sub [2, 3, 4, 5, 7, 8, 0] rfl (p_X8_plan_b226 C M k101 hk101 x5 x6 x7 x9 x10 r_20 x8 S_19)
        · refine g_iload (pc := 219) C dX8_plan_219 8 rfl ?_
          refine g_goto (pc := 221) C 226 dX8_plan_221 (by decide) ?_
          exact g_sub [2, 3, 4, 5, 7, 8, 0] rfl (p_X8_plan_b226 C M k101 hk101 x5 x6 x7 x9 x10 r_20 x10 S_19)
set_option maxRecDepth 100000 in
set_option maxHeartbeats 4000000 in
theorem p_X8_plan_b136 {Γ : GA} {E : EV} (C : Cx Γ E RX8 cX8_plan 15 7 (some .int)) (M : Mx Γ E) (k101 : Int32 → Int32 → Int32 → Int32 → Int32 → Int32 → St → Option (Int32 × St)) (hk101 : ∀ (x5 : Int32) (x6 : Int32) (x7 : Int32) (x8 : Int32) (x9 : Int32) (x10 : Int32) (S : St), G Γ E (QI Γ E) 15 101 [(0, .ref (gX Γ 55)), (5, .int x5), (6, .int x6), (7, .int x7), (8, .int x8), (9, .int x9), (10, .int x10)] [] S (k101 x5 x6 x7 x8 x9 x10 S)) (x5 : Int32) (x6 : Int32) (x7 : Int32) (x8 : Int32) (x9 : Int32) (x10 : Int32) (s0 : Int32) (S : St) : G Γ E (QI Γ E) 15 136 [(0, .ref (gX Γ 55)), (5, .int x5), (6, .int x6), (7, .int x7), (8, .int x8), (9, .int x9), (10, .int x10)] [.int s0] S (f_X8_plan_b136 k101 x5 x6 x7 x8 x9 x10 s0 S) := by
  rw [f_X8_plan_b136]
  refine g_istore0 (pc := 136) C dX8_plan_136 (by decide) (lv' := [(11, .int s0), (0, .ref (gX Γ 55)), (5, .int x5), (6, .int x6), (7, .int x7), (8, .int x8), (9, .int x9), (10, .int x10)]) rfl ?_
  refine g_iconst (pc := 138) C (v := 0) dX8_plan_138 (by decide) ?_
  refine g_istore0 (pc := 139) C dX8_plan_139 (by decide) (lv' := [(12, .int 0), (11, .int s0), (0, .ref (gX Γ 55)), (5, .int x5), (6, .int x6), (7, .int x7), (8, .int x8), (9, .int x9), (10, .int x10)]) rfl ?_
  exact g_sub [2, 3, 4, 5, 6, 7, 8, 1, 0] rfl (p_X8_plan_l141 C M k101 hk101 FU x5 x6 x7 x8 x9 x10 s0 0 S)
set_option maxRecDepth 100000 in
set_option maxHeartbeats 4000000 in
theorem p_X8_plan_l101 {Γ : GA} {E : EV} (C : Cx Γ E RX8 cX8_plan 15 7 (some .int)) (M : Mx Γ E) : ∀ (n : Nat) (x5 : Int32) (x6 : Int32) (x7 : Int32) (x8 : Int32) (x9 : Int32) (x10 : Int32) (S : St), G Γ E (QI Γ E) 15 101 [(0, .ref (gX Γ 55)), (5, .int x5), (6, .int x6), (7, .int x7), (8, .int x8), (9, .int x9), (10, .int x10)] [] S (f_X8_plan_l101 n x5 x6 x7 x8 x9 x10 S) := by
  intro n
  induction n with
  | zero => intro x5 x6 x7 x8 x9 x10 S; exact g_none
  | succ n ih =>
    intro x5 x6 x7 x8 x9 x10 S
    rw [f_X8_plan_l101]
    refine g_iload (pc := 101) C dX8_plan_101 6 rfl ?_
    refine g_iconst (pc := 103) C (v := 3) dX8_plan_103 (by decide) ?_
    refine g_icmp_ge (pc := 104) C 250 dX8_plan_104 (by decide) ?_ ?_
    · refine g_iload (pc := 250) C dX8_plan_250 4 rfl ?_
      exact g_iret C M dX8_plan_252
    · refine g_iload (pc := 107) C dX8_plan_107 6 rfl ?_
      refine g_if_ne (pc := 109) C 119 dX8_plan_109 (by decide) ?_ ?_
      · refine g_iload (pc := 112) C dX8_plan_112 3 rfl ?_
        refine g_iconst (pc := 114) C (v := 1) dX8_plan_114 (by decide) ?_
        refine g_ixor (pc := 115) C dX8_plan_115 ?_
        refine g_goto (pc := 116) C 136 dX8_plan_116 (by decide) ?_
        exact g_sub [0, 1, 2, 3, 4, 5, 6] rfl (p_X8_plan_b136 C M (f_X8_plan_l101 n) ih x5 x6 x7 x8 x9 x10 (x7 ^^^ 1) S)
      · refine g_iload (pc := 119) C dX8_plan_119 6 rfl ?_
        refine g_iconst (pc := 121) C (v := 1) dX8_plan_121 (by decide) ?_
        refine g_icmp_ne (pc := 122) C 132 dX8_plan_122 (by decide) ?_ ?_
        · refine g_iload (pc := 125) C dX8_plan_125 3 rfl ?_
          refine g_iconst (pc := 127) C (v := 2) dX8_plan_127 (by decide) ?_
          refine g_ixor (pc := 128) C dX8_plan_128 ?_
          refine g_goto (pc := 129) C 136 dX8_plan_129 (by decide) ?_
          exact g_sub [0, 1, 2, 3, 4, 5, 6] rfl (p_X8_plan_b136 C M (f_X8_plan_l101 n) ih x5 x6 x7 x8 x9 x10 (x7 ^^^ 2) S)
        · refine g_iconst (pc := 132) C (v := 3) dX8_plan_132 (by decide) ?_
          refine g_iload (pc := 133) C dX8_plan_133 3 rfl ?_
          refine g_isub (pc := 135) C dX8_plan_135 ?_
          exact g_sub [0, 1, 2, 3, 4, 5, 6] rfl (p_X8_plan_b136 C M (f_X8_plan_l101 n) ih x5 x6 x7 x8 x9 x10 (3 - x7) S)
set_option maxRecDepth 100000 in
set_option maxHeartbeats 4000000 in
theorem p_X8_plan {Γ : GA} {E : EV} (C : Cx Γ E RX8 cX8_plan 15 7 (some .int)) (M : Mx Γ E) (x1 : Int32) (x2 : Int32) (x3 : Int32) (x4 : Int32) (x5 : Int32) (x6 : Int32) (S : St) : G Γ E (QI Γ E) 15 0 [(0, .ref (gX Γ 55)), (1, .int x1), (2, .int x2), (3, .int x3), (4, .int x4), (5, .int x5), (6, .int x6)] [] S (f_X8_plan x1 x2 x3 x4 x5 x6 S) := by
  rw [f_X8_plan]
  refine g_aload_n (pc := 0) C dX8_plan_0 0 rfl rfl ?_
  refine g_iload_n (pc := 1) C dX8_plan_1 1 rfl rfl ?_
  refine g_iload_n (pc := 2) C dX8_plan_2 2 rfl rfl ?_
  refine g_iload_n (pc := 3) C dX8_plan_3 3 rfl rfl ?_
  refine g_iload (pc := 4) C dX8_plan_4 4 rfl ?_
  refine g_callVI (pc := 6) (As := [.int x1, .int x2, .int x3, .int x4]) (st := []) C lv_X8_232 fo_55 rfl (ct_X8_areFour x1 x2 x3 x4 S) (by decide) rfl rfl (Nat.le_of_ble_eq_true rfl) dX8_plan_6 (fun r_2 S_1 => ?_)
  refine g_if_ne (pc := 9) C 15 dX8_plan_9 (by decide) ?_ ?_
  · refine g_bipush (pc := 12) C (v := (-101)) dX8_plan_12 (by decide) ?_
    exact g_iret C M dX8_plan_14
  · refine g_aload_n (pc := 15) C dX8_plan_15 0 rfl rfl ?_
    refine g_callVI (pc := 16) (As := []) (st := []) C lv_X8_182 fo_55 rfl (ct_X8_lacks S_1) (by decide) rfl rfl (Nat.le_of_ble_eq_true rfl) dX8_plan_16 (fun r_4 S_3 => ?_)
    refine g_if_ne (pc := 19) C 33 dX8_plan_19 (by decide) ?_ ?_
    · refine g_iload_n (pc := 22) C dX8_plan_22 1 rfl rfl ?_
      refine g_iload_n (pc := 23) C dX8_plan_23 2 rfl rfl ?_
      refine g_iload_n (pc := 24) C dX8_plan_24 3 rfl rfl ?_
      refine g_iload (pc := 25) C dX8_plan_25 4 rfl ?_
      refine g_callSI (pc := 27) (As := [.int x1, .int x2, .int x3, .int x4]) (st := []) C ls_X8_236 (ct_X8_areUnlike x1 x2 x3 x4 S_3) (by decide) rfl rfl (Nat.le_of_ble_eq_true rfl) dX8_plan_27 (fun r_6 S_5 => ?_)
      refine g_if_ne (pc := 30) C 36 dX8_plan_30 (by decide) ?_ ?_
      · refine g_bipush (pc := 33) C (v := (-103)) dX8_plan_33 (by decide) ?_
        exact g_iret C M dX8_plan_35
      · refine g_iload (pc := 36) C dX8_plan_36 5 rfl ?_
        refine g_callSI (pc := 38) (As := [.int x5]) (st := []) C ls_X8_186 (ct_X8_isSwing x5 S_5) (by decide) rfl rfl (Nat.le_of_ble_eq_true rfl) dX8_plan_38 (fun r_8 S_7 => ?_)
        refine g_if_eq (pc := 41) C 52 dX8_plan_41 (by decide) ?_ ?_
        · refine g_bipush (pc := 52) C (v := (-102)) dX8_plan_52 (by decide) ?_
          exact g_iret C M dX8_plan_54
        · refine g_iload (pc := 44) C dX8_plan_44 6 rfl ?_
          refine g_callSI (pc := 46) (As := [.int x6]) (st := []) C ls_X8_225 (ct_X8_isSlip x6 S_7) (by decide) rfl rfl (Nat.le_of_ble_eq_true rfl) dX8_plan_46 (fun r_10 S_9 => ?_)
          refine g_if_ne (pc := 49) C 55 dX8_plan_49 (by decide) ?_ ?_
          · refine g_bipush (pc := 52) C (v := (-102)) dX8_plan_52 (by decide) ?_
            exact g_iret C M dX8_plan_54
          · refine g_aload_n (pc := 55) C dX8_plan_55 0 rfl rfl ?_
            refine g_getR (pc := 56) C lk_X8_55 fr_55_31 dX8_plan_56 ?_
            refine g_iconst (pc := 59) C (v := 0) dX8_plan_59 (by decide) ?_
            refine g_iload_n (pc := 60) C dX8_plan_60 1 rfl rfl ?_
            refine g_iast (pc := 61) C ai_71 dX8_plan_61 (fun S_11 => ?_)
            refine g_aload_n (pc := 62) C dX8_plan_62 0 rfl rfl ?_
            refine g_getR (pc := 63) C lk_X8_55 fr_55_31 dX8_plan_63 ?_
            refine g_iconst (pc := 66) C (v := 1) dX8_plan_66 (by decide) ?_
            refine g_iload_n (pc := 67) C dX8_plan_67 2 rfl rfl ?_
            refine g_iast (pc := 68) C ai_71 dX8_plan_68 (fun S_12 => ?_)
            refine g_aload_n (pc := 69) C dX8_plan_69 0 rfl rfl ?_
            refine g_getR (pc := 70) C lk_X8_55 fr_55_31 dX8_plan_70 ?_
            refine g_iconst (pc := 73) C (v := 2) dX8_plan_73 (by decide) ?_
            refine g_iload_n (pc := 74) C dX8_plan_74 3 rfl rfl ?_
            refine g_iast (pc := 75) C ai_71 dX8_plan_75 (fun S_13 => ?_)
            refine g_aload_n (pc := 76) C dX8_plan_76 0 rfl rfl ?_
            refine g_getR (pc := 77) C lk_X8_55 fr_55_31 dX8_plan_77 ?_
            refine g_iconst (pc := 80) C (v := 3) dX8_plan_80 (by decide) ?_
            refine g_iload (pc := 81) C dX8_plan_81 4 rfl ?_
            refine g_iast (pc := 83) C ai_71 dX8_plan_83 (fun S_14 => ?_)
            refine g_aload_n (pc := 84) C dX8_plan_84 0 rfl rfl ?_
            refine g_iload (pc := 85) C dX8_plan_85 5 rfl ?_
            refine g_callVI (pc := 87) (As := [.int x5]) (st := []) C lv_X8_246 fo_55 rfl (ct_X8_quickest x5 S_14) (by decide) rfl rfl (Nat.le_of_ble_eq_true rfl) dX8_plan_87 (fun r_16 S_15 => ?_)
            refine g_istore0 (pc := 90) C dX8_plan_90 (by decide) (lv' := [(7, .int r_16), (0, .ref (gX Γ 55)), (1, .int x1), (2, .int x2), (3, .int x3), (4, .int x4), (5, .int x5), (6, .int x6)]) rfl ?_
            refine g_iconst (pc := 92) C (v := (-1)) dX8_plan_92 (by decide) ?_
            refine g_istore0 (pc := 93) C dX8_plan_93 (by decide) (lv' := [(8, .int (-1)), (7, .int r_16), (0, .ref (gX Γ 55)), (1, .int x1), (2, .int x2), (3, .int x3), (4, .int x4), (5, .int x5), (6, .int x6)]) rfl ?_
            refine g_iconst (pc := 95) C (v := (-1)) dX8_plan_95 (by decide) ?_
            refine g_istore0 (pc := 96) C dX8_plan_96 (by decide) (lv' := [(9, .int (-1)), (8, .int (-1)), (7, .int r_16), (0, .ref (gX Γ 55)), (1, .int x1), (2, .int x2), (3, .int x3), (4, .int x4), (5, .int x5), (6, .int x6)]) rfl ?_
            refine g_iconst (pc := 98) C (v := 0) dX8_plan_98 (by decide) ?_
            refine g_istore0 (pc := 99) C dX8_plan_99 (by decide) (lv' := [(10, .int 0), (9, .int (-1)), (8, .int (-1)), (7, .int r_16), (0, .ref (gX Γ 55)), (1, .int x1), (2, .int x2), (3, .int x3), (4, .int x4), (5, .int x5), (6, .int x6)]) rfl ?_
            exact g_sub [4, 9, 10, 3, 2, 1, 0] rfl (p_X8_plan_l101 C M FU x5 x6 r_16 (-1) (-1) 0 S_15)
    · refine g_bipush (pc := 33) C (v := (-103)) dX8_plan_33 (by decide) ?_
      exact g_iret C M dX8_plan_35
theorem ct_X8_plan {Γ : GA} (x1 : Int32) (x2 : Int32) (x3 : Int32) (x4 : Int32) (x5 : Int32) (x6 : Int32) (S : St) : CtI Γ yX8_plan cX8_plan 15 (some .int) 7 [.ref (gX Γ 55), .int x1, .int x2, .int x3, .int x4, .int x5, .int x6] S (f_X8_plan x1 x2 x3 x4 x5 x6 S) :=
  ctI_of (by decide) (Nat.le_of_ble_eq_true rfl) (fun _ C M => p_X8_plan C M x1 x2 x3 x4 x5 x6 S)
