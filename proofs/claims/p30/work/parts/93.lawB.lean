/-! THE LAW'S OWN BODY: one round of its loop. -/
section LBX
variable {p : Program} {l : Launch} {e : Env} {Rm : Room} {s : State} {m : MethodId} {args : Array Value} {below : List Frame} {meth : Method} {c : Code} {H : Heap} {locs : List Loc} {cells slots : Nat} {Q : State → Prop}
variable {cc : ByteArray} {pc : Nat} {ls : Array Slot} {rest : List Value} {g : Gam} {σ : Gst} {b : Bool} {Z : Zed} {nL : Nat} {ret : Option FieldType}
theorem lb_185 (hfl : l.stackTraces = false) (C0 : CX g p s m args meth c RL cL_law 15 (some .boolean)) {v bb a u kd x k n : Int32} {kp : Int64} {bs : Nat} (hl : lv_has ls 15 [(12, .int v), (11, .int bb), (10, .int a), (9, .int u), (8, .int kd), (7, .int x), (6, .int k), (3, .int n), (4, .long kp), (2, .ref (g.2.2.1 + 70)), (1, .ref (g.2.2.1 + 0)), (0, .ref bs)]) (hW : WA g σ true Z s.heap H locs) (hc1 : cells + 2 ≤ room_1.cells) (hc2 : slots + 65 ≤ room_1.slots) (hK : ∀ (r : Int32) (τ : Gst) (H : Heap) (locs : List Loc), SVC σ (r, τ) → WA g τ true Z s.heap H locs → W p l e room_1 s m args below meth c H locs (cells + 2) (slots + 65) Q (F0 m 453 ls [.int r])) : W p l e room_1 s m args below meth c H locs cells slots Q (F0 m 185 ls []) := by
  have hx := C0.1; have hb := C0.2.1; have hown := C0.2.2.2.2.1; have hts := C0.2.2.2.2.2.1
  have hO := hW.ok
  refine lv_aload_n hx hb dL_law_185 rfl (lv_at hl 10 rfl) ?_
  refine lv_iconst (v := 0) hx hb dL_law_186 (by decide) ?_
  refine lv_iload hx hb dL_law_187 (lv_at hl 2 rfl) ?_
  refine lv_iload hx hb dL_law_189 (lv_at hl 0 rfl) ?_
  refine lv_iload hx hb dL_law_191 (lv_at hl 5 rfl) ?_
  refine lv_bipush (v := 12) hx hb dL_law_193 (by decide) ?_
  refine lv_ishr hx hb dL_law_195 ?_
  refine lv_bipush (v := 8) hx hb dL_law_196 (by decide) ?_
  obtain ⟨v0, ev0⟩ : ∃ q : Int32, partF (x >>> (12 &&& 31)) 8 = q := ⟨_, rfl⟩
  refine al_cSi (rest := [.int v, .int a, .int 0, .ref (g.2.2.1 + 0)]) C0 hW (c_L_part (by decide) ev0) (ls_part hts ⟨Nat.le_of_ble_eq_true rfl, Nat.le_of_ble_eq_true rfl⟩) rfl hl.1 rfl (Nat.le_of_ble_eq_true rfl) ⟨by omega, by omega⟩ dL_law_198 (fun H locs hW => ?_)
  refine lv_iconst (v := 1) hx hb dL_law_201 (by decide) ?_
  refine lv_isub hx hb dL_law_202 ?_
  refine lv_iload hx hb dL_law_203 (lv_at hl 5 rfl) ?_
  refine lv_bipush (v := 15) hx hb dL_law_205 (by decide) ?_
  refine lv_ishr hx hb dL_law_207 ?_
  refine lv_bipush (v := 8) hx hb dL_law_208 (by decide) ?_
  obtain ⟨v1, ev1⟩ : ∃ q : Int32, partF (x >>> (15 &&& 31)) 8 = q := ⟨_, rfl⟩
  refine al_cSi (rest := [.int (v0 - 1), .int v, .int a, .int 0, .ref (g.2.2.1 + 0)]) C0 hW (c_L_part (by decide) ev1) (ls_part hts ⟨Nat.le_of_ble_eq_true rfl, Nat.le_of_ble_eq_true rfl⟩) rfl hl.1 rfl (Nat.le_of_ble_eq_true rfl) ⟨by omega, by omega⟩ dL_law_210 (fun H locs hW => ?_)
  refine lv_iconst (v := 1) hx hb dL_law_213 (by decide) ?_
  refine lv_isub hx hb dL_law_214 ?_
  refine lv_iload hx hb dL_law_215 (lv_at hl 5 rfl) ?_
  refine lv_bipush (v := 18) hx hb dL_law_217 (by decide) ?_
  refine lv_ishr hx hb dL_law_219 ?_
  refine lv_bipush (v := 102) hx hb dL_law_220 (by decide) ?_
  obtain ⟨v2, ev2⟩ : ∃ q : Int32, partF (x >>> (18 &&& 31)) 102 = q := ⟨_, rfl⟩
  refine al_cSi (rest := [.int (v1 - 1), .int (v0 - 1), .int v, .int a, .int 0, .ref (g.2.2.1 + 0)]) C0 hW (c_L_part (by decide) ev2) (ls_part hts ⟨Nat.le_of_ble_eq_true rfl, Nat.le_of_ble_eq_true rfl⟩) rfl hl.1 rfl (Nat.le_of_ble_eq_true rfl) ⟨by omega, by omega⟩ dL_law_222 (fun H locs hW => ?_)
  refine lv_iconst (v := 1) hx hb dL_law_225 (by decide) ?_
  refine lv_isub hx hb dL_law_226 ?_
  obtain ⟨v3, ev3⟩ : ∃ q : Int64, threeF (v0 - 1) (v1 - 1) (v2 - 1) = q := ⟨_, rfl⟩
  refine al_cSl (rest := [.int v, .int a, .int 0, .ref (g.2.2.1 + 0)]) C0 hW (c_L_three ev3) (ls_three hts ⟨Nat.le_of_ble_eq_true rfl, Nat.le_of_ble_eq_true rfl⟩) rfl hl.1 rfl (Nat.le_of_ble_eq_true rfl) ⟨by omega, by omega⟩ dL_law_227 (fun H locs hW => ?_)
  refine al_cSW (rest := []) C0 hW (c_L_call (r := (callF σ 0 a v v3).1) (τ := (callF σ 0 a v v3).2) hfl _ _ _ _ rfl) (ls_call hts ⟨Nat.le_of_ble_eq_true rfl, Nat.le_of_ble_eq_true rfl⟩) rfl hl.1 rfl (Nat.le_of_ble_eq_true rfl) ⟨by omega, by omega⟩ dL_law_230 (fun H locs hW => ?_)
  refine lv_goto (tgt := 453) hx hb dL_law_233 rfl ?_
  exact W.widen (by omega) (by omega) (hK (callF σ 0 a v v3).1 (callF σ 0 a v v3).2 H locs (cs_0 (a := a) (bb := v) (mo := v3) hO) hW)
theorem lb_243 (hfl : l.stackTraces = false) (C0 : CX g p s m args meth c RL cL_law 15 (some .boolean)) {v bb a u kd x k n : Int32} {kp : Int64} {bs : Nat} (hl : lv_has ls 15 [(12, .int v), (11, .int bb), (10, .int a), (9, .int u), (8, .int kd), (7, .int x), (6, .int k), (3, .int n), (4, .long kp), (2, .ref (g.2.2.1 + 70)), (1, .ref (g.2.2.1 + 0)), (0, .ref bs)]) (hW : WA g σ true Z s.heap H locs) (hc1 : cells + 2 ≤ room_1.cells) (hc2 : slots + 65 ≤ room_1.slots) (hK : ∀ (r : Int32) (τ : Gst) (H : Heap) (locs : List Loc), SVC σ (r, τ) → WA g τ true Z s.heap H locs → W p l e room_1 s m args below meth c H locs (cells + 2) (slots + 65) Q (F0 m 453 ls [.int r])) : W p l e room_1 s m args below meth c H locs cells slots Q (F0 m 243 ls []) := by
  have hx := C0.1; have hb := C0.2.1; have hown := C0.2.2.2.2.1; have hts := C0.2.2.2.2.2.1
  have hO := hW.ok
  refine lv_aload_n hx hb dL_law_243 rfl (lv_at hl 10 rfl) ?_
  refine lv_iconst (v := 1) hx hb dL_law_244 (by decide) ?_
  refine lv_iload hx hb dL_law_245 (lv_at hl 2 rfl) ?_
  refine lv_iload hx hb dL_law_247 (lv_at hl 1 rfl) ?_
  refine lv_iload hx hb dL_law_249 (lv_at hl 5 rfl) ?_
  refine lv_bipush (v := 12) hx hb dL_law_251 (by decide) ?_
  refine lv_ishr hx hb dL_law_253 ?_
  refine lv_iconst (v := 5) hx hb dL_law_254 (by decide) ?_
  obtain ⟨v0, ev0⟩ : ∃ q : Int32, partF (x >>> (12 &&& 31)) 5 = q := ⟨_, rfl⟩
  refine al_cSi (rest := [.int bb, .int a, .int 1, .ref (g.2.2.1 + 0)]) C0 hW (c_L_part (by decide) ev0) (ls_part hts ⟨Nat.le_of_ble_eq_true rfl, Nat.le_of_ble_eq_true rfl⟩) rfl hl.1 rfl (Nat.le_of_ble_eq_true rfl) ⟨by omega, by omega⟩ dL_law_255 (fun H locs hW => ?_)
  refine lv_iload hx hb dL_law_258 (lv_at hl 0 rfl) ?_
  refine lv_iconst (v := 0) hx hb dL_law_260 (by decide) ?_
  obtain ⟨v1, ev1⟩ : ∃ q : Int64, threeF v0 v 0 = q := ⟨_, rfl⟩
  refine al_cSl (rest := [.int bb, .int a, .int 1, .ref (g.2.2.1 + 0)]) C0 hW (c_L_three ev1) (ls_three hts ⟨Nat.le_of_ble_eq_true rfl, Nat.le_of_ble_eq_true rfl⟩) rfl hl.1 rfl (Nat.le_of_ble_eq_true rfl) ⟨by omega, by omega⟩ dL_law_261 (fun H locs hW => ?_)
  refine al_cSW (rest := []) C0 hW (c_L_call (r := (callF σ 1 a bb v1).1) (τ := (callF σ 1 a bb v1).2) hfl _ _ _ _ rfl) (ls_call hts ⟨Nat.le_of_ble_eq_true rfl, Nat.le_of_ble_eq_true rfl⟩) rfl hl.1 rfl (Nat.le_of_ble_eq_true rfl) ⟨by omega, by omega⟩ dL_law_264 (fun H locs hW => ?_)
  refine lv_goto (tgt := 453) hx hb dL_law_267 rfl ?_
  exact W.widen (by omega) (by omega) (hK (callF σ 1 a bb v1).1 (callF σ 1 a bb v1).2 H locs (cs_1 (a := a) (bb := bb) (mo := v1) hO) hW)
theorem lb_277 (hfl : l.stackTraces = false) (C0 : CX g p s m args meth c RL cL_law 15 (some .boolean)) {v bb a u kd x k n : Int32} {kp : Int64} {bs : Nat} (hl : lv_has ls 15 [(12, .int v), (11, .int bb), (10, .int a), (9, .int u), (8, .int kd), (7, .int x), (6, .int k), (3, .int n), (4, .long kp), (2, .ref (g.2.2.1 + 70)), (1, .ref (g.2.2.1 + 0)), (0, .ref bs)]) (hW : WA g σ true Z s.heap H locs) (hc1 : cells + 2 ≤ room_1.cells) (hc2 : slots + 65 ≤ room_1.slots) (hK : ∀ (r : Int32) (τ : Gst) (H : Heap) (locs : List Loc), SVC σ (r, τ) → WA g τ true Z s.heap H locs → W p l e room_1 s m args below meth c H locs (cells + 2) (slots + 65) Q (F0 m 453 ls [.int r])) : W p l e room_1 s m args below meth c H locs cells slots Q (F0 m 277 ls []) := by
  have hx := C0.1; have hb := C0.2.1; have hown := C0.2.2.2.2.1; have hts := C0.2.2.2.2.2.1
  have hO := hW.ok
  refine lv_aload_n hx hb dL_law_277 rfl (lv_at hl 10 rfl) ?_
  refine lv_iconst (v := 2) hx hb dL_law_278 (by decide) ?_
  refine lv_iload hx hb dL_law_279 (lv_at hl 2 rfl) ?_
  refine lv_iload hx hb dL_law_281 (lv_at hl 1 rfl) ?_
  refine lv_lconst (v := 0) hx hb dL_law_283 rfl ?_
  refine al_cSW (rest := []) C0 hW (c_L_call (r := (callF σ 2 a bb 0).1) (τ := (callF σ 2 a bb 0).2) hfl _ _ _ _ rfl) (ls_call hts ⟨Nat.le_of_ble_eq_true rfl, Nat.le_of_ble_eq_true rfl⟩) rfl hl.1 rfl (Nat.le_of_ble_eq_true rfl) ⟨by omega, by omega⟩ dL_law_284 (fun H locs hW => ?_)
  refine lv_goto (tgt := 453) hx hb dL_law_287 rfl ?_
  exact W.widen (by omega) (by omega) (hK (callF σ 2 a bb 0).1 (callF σ 2 a bb 0).2 H locs (cs_2 (a := a) (bb := bb) (mo := 0) hO) hW)
theorem lb_297 (hfl : l.stackTraces = false) (C0 : CX g p s m args meth c RL cL_law 15 (some .boolean)) {v bb a u kd x k n : Int32} {kp : Int64} {bs : Nat} (hl : lv_has ls 15 [(12, .int v), (11, .int bb), (10, .int a), (9, .int u), (8, .int kd), (7, .int x), (6, .int k), (3, .int n), (4, .long kp), (2, .ref (g.2.2.1 + 70)), (1, .ref (g.2.2.1 + 0)), (0, .ref bs)]) (hW : WA g σ true Z s.heap H locs) (hc1 : cells + 2 ≤ room_1.cells) (hc2 : slots + 65 ≤ room_1.slots) (hK : ∀ (r : Int32) (τ : Gst) (H : Heap) (locs : List Loc), SVC σ (r, τ) → WA g τ true Z s.heap H locs → W p l e room_1 s m args below meth c H locs (cells + 2) (slots + 65) Q (F0 m 453 ls [.int r])) : W p l e room_1 s m args below meth c H locs cells slots Q (F0 m 297 ls []) := by
  have hx := C0.1; have hb := C0.2.1; have hown := C0.2.2.2.2.1; have hts := C0.2.2.2.2.2.1
  have hO := hW.ok
  refine lv_aload_n hx hb dL_law_297 rfl (lv_at hl 10 rfl) ?_
  refine lv_iconst (v := 4) hx hb dL_law_298 (by decide) ?_
  refine lv_iload hx hb dL_law_299 (lv_at hl 5 rfl) ?_
  refine lv_bipush (v := 12) hx hb dL_law_301 (by decide) ?_
  refine lv_ishr hx hb dL_law_303 ?_
  refine lv_bipush (v := 7) hx hb dL_law_304 (by decide) ?_
  obtain ⟨v0, ev0⟩ : ∃ q : Int32, partF (x >>> (12 &&& 31)) 7 = q := ⟨_, rfl⟩
  refine al_cSi (rest := [.int 4, .ref (g.2.2.1 + 0)]) C0 hW (c_L_part (by decide) ev0) (ls_part hts ⟨Nat.le_of_ble_eq_true rfl, Nat.le_of_ble_eq_true rfl⟩) rfl hl.1 rfl (Nat.le_of_ble_eq_true rfl) ⟨by omega, by omega⟩ dL_law_306 (fun H locs hW => ?_)
  refine lv_iload hx hb dL_law_309 (lv_at hl 1 rfl) ?_
  refine lv_iload hx hb dL_law_311 (lv_at hl 5 rfl) ?_
  refine lv_bipush (v := 15) hx hb dL_law_313 (by decide) ?_
  refine lv_ishr hx hb dL_law_315 ?_
  refine lv_iconst (v := 3) hx hb dL_law_316 (by decide) ?_
  obtain ⟨v1, ev1⟩ : ∃ q : Int32, partF (x >>> (15 &&& 31)) 3 = q := ⟨_, rfl⟩
  refine al_cSi (rest := [.int bb, .int v0, .int 4, .ref (g.2.2.1 + 0)]) C0 hW (c_L_part (by decide) ev1) (ls_part hts ⟨Nat.le_of_ble_eq_true rfl, Nat.le_of_ble_eq_true rfl⟩) rfl hl.1 rfl (Nat.le_of_ble_eq_true rfl) ⟨by omega, by omega⟩ dL_law_317 (fun H locs hW => ?_)
  refine lv_iload hx hb dL_law_320 (lv_at hl 5 rfl) ?_
  refine lv_bipush (v := 17) hx hb dL_law_322 (by decide) ?_
  refine lv_ishr hx hb dL_law_324 ?_
  refine lv_iconst (v := 4) hx hb dL_law_325 (by decide) ?_
  obtain ⟨v2, ev2⟩ : ∃ q : Int32, partF (x >>> (17 &&& 31)) 4 = q := ⟨_, rfl⟩
  refine al_cSi (rest := [.int v1, .int bb, .int v0, .int 4, .ref (g.2.2.1 + 0)]) C0 hW (c_L_part (by decide) ev2) (ls_part hts ⟨Nat.le_of_ble_eq_true rfl, Nat.le_of_ble_eq_true rfl⟩) rfl hl.1 rfl (Nat.le_of_ble_eq_true rfl) ⟨by omega, by omega⟩ dL_law_326 (fun H locs hW => ?_)
  refine lv_iconst (v := 0) hx hb dL_law_329 (by decide) ?_
  obtain ⟨v3, ev3⟩ : ∃ q : Int64, threeF v1 v2 0 = q := ⟨_, rfl⟩
  refine al_cSl (rest := [.int bb, .int v0, .int 4, .ref (g.2.2.1 + 0)]) C0 hW (c_L_three ev3) (ls_three hts ⟨Nat.le_of_ble_eq_true rfl, Nat.le_of_ble_eq_true rfl⟩) rfl hl.1 rfl (Nat.le_of_ble_eq_true rfl) ⟨by omega, by omega⟩ dL_law_330 (fun H locs hW => ?_)
  refine al_cSW (rest := []) C0 hW (c_L_call (r := (callF σ 4 v0 bb v3).1) (τ := (callF σ 4 v0 bb v3).2) hfl _ _ _ _ rfl) (ls_call hts ⟨Nat.le_of_ble_eq_true rfl, Nat.le_of_ble_eq_true rfl⟩) rfl hl.1 rfl (Nat.le_of_ble_eq_true rfl) ⟨by omega, by omega⟩ dL_law_333 (fun H locs hW => ?_)
  refine lv_goto (tgt := 453) hx hb dL_law_336 rfl ?_
  exact W.widen (by omega) (by omega) (hK (callF σ 4 v0 bb v3).1 (callF σ 4 v0 bb v3).2 H locs (cs_4 (a := v0) (bb := bb) (mo := v3) hO) hW)
theorem lb_346 (hfl : l.stackTraces = false) (C0 : CX g p s m args meth c RL cL_law 15 (some .boolean)) {v bb a u kd x k n : Int32} {kp : Int64} {bs : Nat} (hl : lv_has ls 15 [(12, .int v), (11, .int bb), (10, .int a), (9, .int u), (8, .int kd), (7, .int x), (6, .int k), (3, .int n), (4, .long kp), (2, .ref (g.2.2.1 + 70)), (1, .ref (g.2.2.1 + 0)), (0, .ref bs)]) (hW : WA g σ true Z s.heap H locs) (hc1 : cells + 2 ≤ room_1.cells) (hc2 : slots + 65 ≤ room_1.slots) (hK : ∀ (r : Int32) (τ : Gst) (H : Heap) (locs : List Loc), SVC σ (r, τ) → WA g τ true Z s.heap H locs → W p l e room_1 s m args below meth c H locs (cells + 2) (slots + 65) Q (F0 m 453 ls [.int r])) : W p l e room_1 s m args below meth c H locs cells slots Q (F0 m 346 ls []) := by
  have hx := C0.1; have hb := C0.2.1; have hown := C0.2.2.2.2.1; have hts := C0.2.2.2.2.2.1
  have hO := hW.ok
  refine lv_aload_n hx hb dL_law_346 rfl (lv_at hl 10 rfl) ?_
  refine lv_iconst (v := 5) hx hb dL_law_347 (by decide) ?_
  refine lv_iload hx hb dL_law_348 (lv_at hl 2 rfl) ?_
  refine lv_iload hx hb dL_law_350 (lv_at hl 1 rfl) ?_
  refine lv_iconst (v := 2) hx hb dL_law_352 (by decide) ?_
  refine lv_isub hx hb dL_law_353 ?_
  refine lv_lconst (v := 0) hx hb dL_law_354 rfl ?_
  refine al_cSW (rest := []) C0 hW (c_L_call (r := (callF σ 5 a (bb - 2) 0).1) (τ := (callF σ 5 a (bb - 2) 0).2) hfl _ _ _ _ rfl) (ls_call hts ⟨Nat.le_of_ble_eq_true rfl, Nat.le_of_ble_eq_true rfl⟩) rfl hl.1 rfl (Nat.le_of_ble_eq_true rfl) ⟨by omega, by omega⟩ dL_law_355 (fun H locs hW => ?_)
  refine lv_goto (tgt := 453) hx hb dL_law_358 rfl ?_
  exact W.widen (by omega) (by omega) (hK (callF σ 5 a (bb - 2) 0).1 (callF σ 5 a (bb - 2) 0).2 H locs (cs_5 (a := a) (bb := (bb - 2)) (mo := 0) hO) hW)
theorem lb_368 (hfl : l.stackTraces = false) (C0 : CX g p s m args meth c RL cL_law 15 (some .boolean)) {v bb a u kd x k n : Int32} {kp : Int64} {bs : Nat} (hl : lv_has ls 15 [(12, .int v), (11, .int bb), (10, .int a), (9, .int u), (8, .int kd), (7, .int x), (6, .int k), (3, .int n), (4, .long kp), (2, .ref (g.2.2.1 + 70)), (1, .ref (g.2.2.1 + 0)), (0, .ref bs)]) (hW : WA g σ true Z s.heap H locs) (hc1 : cells + 2 ≤ room_1.cells) (hc2 : slots + 65 ≤ room_1.slots) (hK : ∀ (r : Int32) (τ : Gst) (H : Heap) (locs : List Loc), SVC σ (r, τ) → WA g τ true Z s.heap H locs → W p l e room_1 s m args below meth c H locs (cells + 2) (slots + 65) Q (F0 m 453 ls [.int r])) : W p l e room_1 s m args below meth c H locs cells slots Q (F0 m 368 ls []) := by
  have hx := C0.1; have hb := C0.2.1; have hown := C0.2.2.2.2.1; have hts := C0.2.2.2.2.2.1
  have hO := hW.ok
  refine lv_aload_n hx hb dL_law_368 rfl (lv_at hl 10 rfl) ?_
  refine lv_bipush (v := 6) hx hb dL_law_369 (by decide) ?_
  refine lv_iload hx hb dL_law_371 (lv_at hl 2 rfl) ?_
  refine lv_iload hx hb dL_law_373 (lv_at hl 1 rfl) ?_
  refine lv_lconst (v := 0) hx hb dL_law_375 rfl ?_
  refine al_cSW (rest := []) C0 hW (c_L_call (r := (callF σ 6 a bb 0).1) (τ := (callF σ 6 a bb 0).2) hfl _ _ _ _ rfl) (ls_call hts ⟨Nat.le_of_ble_eq_true rfl, Nat.le_of_ble_eq_true rfl⟩) rfl hl.1 rfl (Nat.le_of_ble_eq_true rfl) ⟨by omega, by omega⟩ dL_law_376 (fun H locs hW => ?_)
  refine lv_goto (tgt := 453) hx hb dL_law_379 rfl ?_
  exact W.widen (by omega) (by omega) (hK (callF σ 6 a bb 0).1 (callF σ 6 a bb 0).2 H locs (cs_6 (a := a) (bb := bb) (mo := 0) hO) hW)
theorem lb_389 (hfl : l.stackTraces = false) (C0 : CX g p s m args meth c RL cL_law 15 (some .boolean)) {v bb a u kd x k n : Int32} {kp : Int64} {bs : Nat} (hl : lv_has ls 15 [(12, .int v), (11, .int bb), (10, .int a), (9, .int u), (8, .int kd), (7, .int x), (6, .int k), (3, .int n), (4, .long kp), (2, .ref (g.2.2.1 + 70)), (1, .ref (g.2.2.1 + 0)), (0, .ref bs)]) (hW : WA g σ true Z s.heap H locs) (hc1 : cells + 2 ≤ room_1.cells) (hc2 : slots + 65 ≤ room_1.slots) (hK : ∀ (r : Int32) (τ : Gst) (H : Heap) (locs : List Loc), SVC σ (r, τ) → WA g τ true Z s.heap H locs → W p l e room_1 s m args below meth c H locs (cells + 2) (slots + 65) Q (F0 m 453 ls [.int r])) : W p l e room_1 s m args below meth c H locs cells slots Q (F0 m 389 ls []) := by
  have hx := C0.1; have hb := C0.2.1; have hown := C0.2.2.2.2.1; have hts := C0.2.2.2.2.2.1
  have hO := hW.ok
  refine lv_aload_n hx hb dL_law_389 rfl (lv_at hl 10 rfl) ?_
  refine lv_bipush (v := 7) hx hb dL_law_390 (by decide) ?_
  refine lv_iload hx hb dL_law_392 (lv_at hl 2 rfl) ?_
  refine lv_iload hx hb dL_law_394 (lv_at hl 1 rfl) ?_
  refine lv_iload hx hb dL_law_396 (lv_at hl 5 rfl) ?_
  refine lv_bipush (v := 12) hx hb dL_law_398 (by decide) ?_
  refine lv_ishr hx hb dL_law_400 ?_
  refine lv_iconst (v := 5) hx hb dL_law_401 (by decide) ?_
  obtain ⟨v0, ev0⟩ : ∃ q : Int32, partF (x >>> (12 &&& 31)) 5 = q := ⟨_, rfl⟩
  refine al_cSi (rest := [.int bb, .int a, .int 7, .ref (g.2.2.1 + 0)]) C0 hW (c_L_part (by decide) ev0) (ls_part hts ⟨Nat.le_of_ble_eq_true rfl, Nat.le_of_ble_eq_true rfl⟩) rfl hl.1 rfl (Nat.le_of_ble_eq_true rfl) ⟨by omega, by omega⟩ dL_law_402 (fun H locs hW => ?_)
  refine lv_iload hx hb dL_law_405 (lv_at hl 0 rfl) ?_
  refine lv_iconst (v := 0) hx hb dL_law_407 (by decide) ?_
  obtain ⟨v1, ev1⟩ : ∃ q : Int64, threeF v0 v 0 = q := ⟨_, rfl⟩
  refine al_cSl (rest := [.int bb, .int a, .int 7, .ref (g.2.2.1 + 0)]) C0 hW (c_L_three ev1) (ls_three hts ⟨Nat.le_of_ble_eq_true rfl, Nat.le_of_ble_eq_true rfl⟩) rfl hl.1 rfl (Nat.le_of_ble_eq_true rfl) ⟨by omega, by omega⟩ dL_law_408 (fun H locs hW => ?_)
  refine al_cSW (rest := []) C0 hW (c_L_call (r := (callF σ 7 a bb v1).1) (τ := (callF σ 7 a bb v1).2) hfl _ _ _ _ rfl) (ls_call hts ⟨Nat.le_of_ble_eq_true rfl, Nat.le_of_ble_eq_true rfl⟩) rfl hl.1 rfl (Nat.le_of_ble_eq_true rfl) ⟨by omega, by omega⟩ dL_law_411 (fun H locs hW => ?_)
  refine lv_goto (tgt := 453) hx hb dL_law_414 rfl ?_
  exact W.widen (by omega) (by omega) (hK (callF σ 7 a bb v1).1 (callF σ 7 a bb v1).2 H locs (cs_7 (a := a) (bb := bb) (mo := v1) hO) hW)
theorem lb_424 (hfl : l.stackTraces = false) (C0 : CX g p s m args meth c RL cL_law 15 (some .boolean)) {v bb a u kd x k n : Int32} {kp : Int64} {bs : Nat} (hl : lv_has ls 15 [(12, .int v), (11, .int bb), (10, .int a), (9, .int u), (8, .int kd), (7, .int x), (6, .int k), (3, .int n), (4, .long kp), (2, .ref (g.2.2.1 + 70)), (1, .ref (g.2.2.1 + 0)), (0, .ref bs)]) (hW : WA g σ true Z s.heap H locs) (hc1 : cells + 2 ≤ room_1.cells) (hc2 : slots + 65 ≤ room_1.slots) (hK : ∀ (r : Int32) (τ : Gst) (H : Heap) (locs : List Loc), SVC σ (r, τ) → WA g τ true Z s.heap H locs → W p l e room_1 s m args below meth c H locs (cells + 2) (slots + 65) Q (F0 m 453 ls [.int r])) : W p l e room_1 s m args below meth c H locs cells slots Q (F0 m 424 ls []) := by
  have hx := C0.1; have hb := C0.2.1; have hown := C0.2.2.2.2.1; have hts := C0.2.2.2.2.2.1
  have hO := hW.ok
  refine lv_aload_n hx hb dL_law_424 rfl (lv_at hl 10 rfl) ?_
  refine lv_bipush (v := 11) hx hb dL_law_425 (by decide) ?_
  refine lv_iload hx hb dL_law_427 (lv_at hl 5 rfl) ?_
  refine lv_iconst (v := 4) hx hb dL_law_429 (by decide) ?_
  refine lv_ishr hx hb dL_law_430 ?_
  refine lv_iconst (v := 2) hx hb dL_law_431 (by decide) ?_
  obtain ⟨v0, ev0⟩ : ∃ q : Int32, partF (x >>> (4 &&& 31)) 2 = q := ⟨_, rfl⟩
  refine al_cSi (rest := [.int 11, .ref (g.2.2.1 + 0)]) C0 hW (c_L_part (by decide) ev0) (ls_part hts ⟨Nat.le_of_ble_eq_true rfl, Nat.le_of_ble_eq_true rfl⟩) rfl hl.1 rfl (Nat.le_of_ble_eq_true rfl) ⟨by omega, by omega⟩ dL_law_432 (fun H locs hW => ?_)
  refine lv_iconst (v := 0) hx hb dL_law_435 (by decide) ?_
  refine lv_lconst (v := 0) hx hb dL_law_436 rfl ?_
  refine al_cSW (rest := []) C0 hW (c_L_call (r := (callF σ 11 v0 0 0).1) (τ := (callF σ 11 v0 0 0).2) hfl _ _ _ _ rfl) (ls_call hts ⟨Nat.le_of_ble_eq_true rfl, Nat.le_of_ble_eq_true rfl⟩) rfl hl.1 rfl (Nat.le_of_ble_eq_true rfl) ⟨by omega, by omega⟩ dL_law_437 (fun H locs hW => ?_)
  refine lv_goto (tgt := 453) hx hb dL_law_440 rfl ?_
  exact W.widen (by omega) (by omega) (hK (callF σ 11 v0 0 0).1 (callF σ 11 v0 0 0).2 H locs (cs_11 (a := v0) (bb := 0) (mo := 0) hO) hW)
theorem lb_443 (hfl : l.stackTraces = false) (C0 : CX g p s m args meth c RL cL_law 15 (some .boolean)) {v bb a u kd x k n : Int32} {kp : Int64} {bs : Nat} (hl : lv_has ls 15 [(12, .int v), (11, .int bb), (10, .int a), (9, .int u), (8, .int kd), (7, .int x), (6, .int k), (3, .int n), (4, .long kp), (2, .ref (g.2.2.1 + 70)), (1, .ref (g.2.2.1 + 0)), (0, .ref bs)]) (hW : WA g σ true Z s.heap H locs) (hc1 : cells + 2 ≤ room_1.cells) (hc2 : slots + 65 ≤ room_1.slots) (hK : ∀ (r : Int32) (τ : Gst) (H : Heap) (locs : List Loc), SVC σ (r, τ) → WA g τ true Z s.heap H locs → W p l e room_1 s m args below meth c H locs (cells + 2) (slots + 65) Q (F0 m 453 ls [.int r])) : W p l e room_1 s m args below meth c H locs cells slots Q (F0 m 443 ls []) := by
  have hx := C0.1; have hb := C0.2.1; have hown := C0.2.2.2.2.1; have hts := C0.2.2.2.2.2.1
  have hO := hW.ok
  refine lv_aload_n hx hb dL_law_443 rfl (lv_at hl 10 rfl) ?_
  refine lv_iconst (v := 5) hx hb dL_law_444 (by decide) ?_
  refine lv_iload hx hb dL_law_445 (lv_at hl 2 rfl) ?_
  refine lv_bipush (v := (-2)) hx hb dL_law_447 (by decide) ?_
  refine lv_lconst (v := 0) hx hb dL_law_449 rfl ?_
  refine al_cSW (rest := []) C0 hW (c_L_call (r := (callF σ 5 a ((-2)) 0).1) (τ := (callF σ 5 a ((-2)) 0).2) hfl _ _ _ _ rfl) (ls_call hts ⟨Nat.le_of_ble_eq_true rfl, Nat.le_of_ble_eq_true rfl⟩) rfl hl.1 rfl (Nat.le_of_ble_eq_true rfl) ⟨by omega, by omega⟩ dL_law_450 (fun H locs hW => ?_)
  exact W.widen (by omega) (by omega) (hK (callF σ 5 a ((-2)) 0).1 (callF σ 5 a ((-2)) 0).2 H locs (cs_5 (a := a) (bb := ((-2))) (mo := 0) hO) hW)
theorem lb_kind (hfl : l.stackTraces = false) (C0 : CX g p s m args meth c RL cL_law 15 (some .boolean)) {v bb a u kd x k n : Int32} {kp : Int64} {bs : Nat} (hl : lv_has ls 15 [(12, .int v), (11, .int bb), (10, .int a), (9, .int u), (8, .int kd), (7, .int x), (6, .int k), (3, .int n), (4, .long kp), (2, .ref (g.2.2.1 + 70)), (1, .ref (g.2.2.1 + 0)), (0, .ref bs)]) (hW : WA g σ true Z s.heap H locs) (hc1 : cells + 2 ≤ room_1.cells) (hc2 : slots + 65 ≤ room_1.slots) (hK : ∀ (r : Int32) (τ : Gst) (H : Heap) (locs : List Loc), SVC σ (r, τ) → WA g τ true Z s.heap H locs → W p l e room_1 s m args below meth c H locs (cells + 2) (slots + 65) Q (F0 m 453 ls [.int r])) : W p l e room_1 s m args below meth c H locs cells slots Q (F0 m 179 ls []) := by
  have hx := C0.1; have hb := C0.2.1; have hown := C0.2.2.2.2.1; have hts := C0.2.2.2.2.2.1
  refine lv_iload hx hb dL_law_179 (lv_at hl 4 rfl) ?_
  refine lv_iconst (v := 5) hx hb dL_law_181 (by decide) ?_
  refine lv_icmp_ge (tgt := 236) hx hb dL_law_182 rfl (fun _ => ?_) (fun _ => ?_)
  rotate_left
  · exact lb_185 hfl C0 hl hW hc1 hc2 hK
  refine lv_iload hx hb dL_law_236 (lv_at hl 4 rfl) ?_
  refine lv_bipush (v := 8) hx hb dL_law_238 (by decide) ?_
  refine lv_icmp_ge (tgt := 270) hx hb dL_law_240 rfl (fun _ => ?_) (fun _ => ?_)
  rotate_left
  · exact lb_243 hfl C0 hl hW hc1 hc2 hK
  refine lv_iload hx hb dL_law_270 (lv_at hl 4 rfl) ?_
  refine lv_bipush (v := 8) hx hb dL_law_272 (by decide) ?_
  refine lv_icmp_ne (tgt := 290) hx hb dL_law_274 rfl (fun _ => ?_) (fun _ => ?_)
  rotate_left
  · exact lb_277 hfl C0 hl hW hc1 hc2 hK
  refine lv_iload hx hb dL_law_290 (lv_at hl 4 rfl) ?_
  refine lv_bipush (v := 11) hx hb dL_law_292 (by decide) ?_
  refine lv_icmp_ge (tgt := 339) hx hb dL_law_294 rfl (fun _ => ?_) (fun _ => ?_)
  rotate_left
  · exact lb_297 hfl C0 hl hW hc1 hc2 hK
  refine lv_iload hx hb dL_law_339 (lv_at hl 4 rfl) ?_
  refine lv_bipush (v := 11) hx hb dL_law_341 (by decide) ?_
  refine lv_icmp_ne (tgt := 361) hx hb dL_law_343 rfl (fun _ => ?_) (fun _ => ?_)
  rotate_left
  · exact lb_346 hfl C0 hl hW hc1 hc2 hK
  refine lv_iload hx hb dL_law_361 (lv_at hl 4 rfl) ?_
  refine lv_bipush (v := 12) hx hb dL_law_363 (by decide) ?_
  refine lv_icmp_ne (tgt := 382) hx hb dL_law_365 rfl (fun _ => ?_) (fun _ => ?_)
  rotate_left
  · exact lb_368 hfl C0 hl hW hc1 hc2 hK
  refine lv_iload hx hb dL_law_382 (lv_at hl 4 rfl) ?_
  refine lv_bipush (v := 13) hx hb dL_law_384 (by decide) ?_
  refine lv_icmp_ne (tgt := 417) hx hb dL_law_386 rfl (fun _ => ?_) (fun _ => ?_)
  rotate_left
  · exact lb_389 hfl C0 hl hW hc1 hc2 hK
  refine lv_iload hx hb dL_law_417 (lv_at hl 4 rfl) ?_
  refine lv_bipush (v := 14) hx hb dL_law_419 (by decide) ?_
  refine lv_icmp_ne (tgt := 443) hx hb dL_law_421 rfl (fun _ => ?_) (fun _ => ?_)
  rotate_left
  · exact lb_424 hfl C0 hl hW hc1 hc2 hK
  exact lb_443 hfl C0 hl hW hc1 hc2 hK
theorem lb_head (hfl : l.stackTraces = false) (C0 : CX g p s m args meth c RL cL_law 15 (some .boolean)) {bs L : Nat} {xs : Nat → Int32} {kp : Int64} (hX : va_X bs L xs s s.heap) (hbs : bs < g.2.2.2) (hL : L ≤ 260) {k n : Nat} (hk : k < 28) (hn : n < 64) (hl : lv_has ls 15 [(6, .int (nI k)), (3, .int (nI n)), (4, .long kp), (2, .ref (g.2.2.1 + 70)), (1, .ref (g.2.2.1 + 0)), (0, .ref bs)]) (hW : WA g σ true Z s.heap H locs) (hc1 : cells + 0 ≤ room_1.cells) (hc2 : slots + 0 ≤ room_1.slots) (hK : ∀ (v bb a kd x : Int32) (H : Heap) (locs : List Loc) (ls : Array Slot), WA g σ true (vp_updL Z n (seenF σ)) s.heap H locs → lv_has ls 15 [(12, .int v), (11, .int bb), (10, .int a), (9, .int (cntV σ 6)), (8, .int kd), (7, .int x), (6, .int (nI k)), (3, .int (nI n)), (4, .long kp), (2, .ref (g.2.2.1 + 70)), (1, .ref (g.2.2.1 + 0)), (0, .ref bs)] → W p l e room_1 s m args below meth c H locs cells slots Q (F0 m 179 ls [])) : W p l e room_1 s m args below meth c H locs cells slots Q (F0 m 112 ls []) := by
  have hx := C0.1; have hb := C0.2.1; have hown := C0.2.2.2.2.1; have hts := C0.2.2.2.2.2.1
  refine lv_aload_n hx hb dL_law_112 rfl (lv_at hl 5 rfl) ?_
  refine lv_iload hx hb dL_law_113 (lv_at hl 0 rfl) ?_
  refine al_cSX (rest := []) C0 hW hX hbs (c_L_drawn hbs hL (by omega)) (ls_drawn hts ⟨Nat.le_of_ble_eq_true rfl, Nat.le_of_ble_eq_true rfl⟩) rfl hl.1 rfl (Nat.le_of_ble_eq_true rfl) ⟨by omega, by omega⟩ dL_law_115 (fun x H locs hW => ?_)
  refine lv_istore (lv' := [(7, .int x), (6, .int (nI k)), (3, .int (nI n)), (4, .long kp), (2, .ref (g.2.2.1 + 70)), (1, .ref (g.2.2.1 + 0)), (0, .ref bs)]) hx hb dL_law_118 hl (Nat.le_of_ble_eq_true rfl) rfl (fun ls hl => ?_)
  refine lv_iload hx hb dL_law_120 (lv_at hl 0 rfl) ?_
  refine lv_bipush (v := 16) hx hb dL_law_122 (by decide) ?_
  obtain ⟨v0, ev0⟩ : ∃ q : Int32, partF x 16 = q := ⟨_, rfl⟩
  refine al_cSi (rest := []) C0 hW (c_L_part (by decide) ev0) (ls_part hts ⟨Nat.le_of_ble_eq_true rfl, Nat.le_of_ble_eq_true rfl⟩) rfl hl.1 rfl (Nat.le_of_ble_eq_true rfl) ⟨by omega, by omega⟩ dL_law_124 (fun H locs hW => ?_)
  refine lv_istore (lv' := [(8, .int v0), (7, .int x), (6, .int (nI k)), (3, .int (nI n)), (4, .long kp), (2, .ref (g.2.2.1 + 70)), (1, .ref (g.2.2.1 + 0)), (0, .ref bs)]) hx hb dL_law_127 hl (Nat.le_of_ble_eq_true rfl) rfl (fun ls hl => ?_)
  refine lv_aload_n hx hb dL_law_129 rfl (lv_at hl 5 rfl) ?_
  refine lv_iload_n hx hb dL_law_130 rfl (lv_at hl 3 rfl) ?_
  refine lv_aload_n hx hb dL_law_131 rfl (lv_at hl 6 rfl) ?_
  refine al_cSl (rest := [.int (nI n), .ref (g.2.2.1 + 70)]) C0 hW (c_L_seen (r := seenF σ) rfl) (ls_seen hts ⟨Nat.le_of_ble_eq_true rfl, Nat.le_of_ble_eq_true rfl⟩) rfl hl.1 rfl (Nat.le_of_ble_eq_true rfl) ⟨by omega, by omega⟩ dL_law_132 (fun H locs hW => ?_)
  refine al_last C0 hW hn dL_law_135 (fun H locs hW => ?_)
  refine lv_aload_n hx hb dL_law_136 rfl (lv_at hl 6 rfl) ?_
  refine lv_bipush (v := 6) hx hb dL_law_137 (by decide) ?_
  refine ar_count (rest := []) C0 hl.1 hW (z_count σ (k := 6) (by decide)) ⟨Nat.le_of_ble_eq_true rfl, Nat.le_of_ble_eq_true rfl⟩ (Nat.le_of_ble_eq_true rfl) ⟨by omega, by omega⟩ dL_law_139 (fun H locs hW => ?_)
  refine lv_istore (lv' := [(9, .int (cntV σ 6)), (8, .int v0), (7, .int x), (6, .int (nI k)), (3, .int (nI n)), (4, .long kp), (2, .ref (g.2.2.1 + 70)), (1, .ref (g.2.2.1 + 0)), (0, .ref bs)]) hx hb dL_law_142 hl (Nat.le_of_ble_eq_true rfl) rfl (fun ls hl => ?_)
  refine lv_iload hx hb dL_law_144 (lv_at hl 2 rfl) ?_
  refine lv_iconst (v := 4) hx hb dL_law_146 (by decide) ?_
  refine lv_ishr hx hb dL_law_147 ?_
  refine lv_iconst (v := 3) hx hb dL_law_148 (by decide) ?_
  obtain ⟨v1, ev1⟩ : ∃ q : Int32, partF (x >>> (4 &&& 31)) 3 = q := ⟨_, rfl⟩
  refine al_cSi (rest := []) C0 hW (c_L_part (by decide) ev1) (ls_part hts ⟨Nat.le_of_ble_eq_true rfl, Nat.le_of_ble_eq_true rfl⟩) rfl hl.1 rfl (Nat.le_of_ble_eq_true rfl) ⟨by omega, by omega⟩ dL_law_149 (fun H locs hW => ?_)
  refine lv_istore (lv' := [(10, .int v1), (9, .int (cntV σ 6)), (8, .int v0), (7, .int x), (6, .int (nI k)), (3, .int (nI n)), (4, .long kp), (2, .ref (g.2.2.1 + 70)), (1, .ref (g.2.2.1 + 0)), (0, .ref bs)]) hx hb dL_law_152 hl (Nat.le_of_ble_eq_true rfl) rfl (fun ls hl => ?_)
  refine lv_iload hx hb dL_law_154 (lv_at hl 3 rfl) ?_
  refine lv_bipush (v := 6) hx hb dL_law_156 (by decide) ?_
  refine lv_ishr hx hb dL_law_158 ?_
  refine lv_iconst (v := 4) hx hb dL_law_159 (by decide) ?_
  obtain ⟨v2, ev2⟩ : ∃ q : Int32, partF (x >>> (6 &&& 31)) 4 = q := ⟨_, rfl⟩
  refine al_cSi (rest := []) C0 hW (c_L_part (by decide) ev2) (ls_part hts ⟨Nat.le_of_ble_eq_true rfl, Nat.le_of_ble_eq_true rfl⟩) rfl hl.1 rfl (Nat.le_of_ble_eq_true rfl) ⟨by omega, by omega⟩ dL_law_160 (fun H locs hW => ?_)
  refine lv_istore (lv' := [(11, .int v2), (10, .int v1), (9, .int (cntV σ 6)), (8, .int v0), (7, .int x), (6, .int (nI k)), (3, .int (nI n)), (4, .long kp), (2, .ref (g.2.2.1 + 70)), (1, .ref (g.2.2.1 + 0)), (0, .ref bs)]) hx hb dL_law_163 hl (Nat.le_of_ble_eq_true rfl) rfl (fun ls hl => ?_)
  refine lv_iload hx hb dL_law_165 (lv_at hl 4 rfl) ?_
  refine lv_bipush (v := 8) hx hb dL_law_167 (by decide) ?_
  refine lv_ishr hx hb dL_law_169 ?_
  refine lv_bipush (v := 10) hx hb dL_law_170 (by decide) ?_
  obtain ⟨v3, ev3⟩ : ∃ q : Int32, partF (x >>> (8 &&& 31)) 10 = q := ⟨_, rfl⟩
  refine al_cSi (rest := []) C0 hW (c_L_part (by decide) ev3) (ls_part hts ⟨Nat.le_of_ble_eq_true rfl, Nat.le_of_ble_eq_true rfl⟩) rfl hl.1 rfl (Nat.le_of_ble_eq_true rfl) ⟨by omega, by omega⟩ dL_law_172 (fun H locs hW => ?_)
  refine lv_iconst (v := 2) hx hb dL_law_175 (by decide) ?_
  refine lv_isub hx hb dL_law_176 ?_
  refine lv_istore (lv' := [(12, .int (v3 - 2)), (11, .int v2), (10, .int v1), (9, .int (cntV σ 6)), (8, .int v0), (7, .int x), (6, .int (nI k)), (3, .int (nI n)), (4, .long kp), (2, .ref (g.2.2.1 + 70)), (1, .ref (g.2.2.1 + 0)), (0, .ref bs)]) hx hb dL_law_177 hl (Nat.le_of_ble_eq_true rfl) rfl (fun ls hl => ?_)
  exact W.widen (by omega) (by omega) (hK _ _ _ _ _ H locs ls hW hl)
theorem lb_tail (hfl : l.stackTraces = false) (C0 : CX g p s m args meth c RL cL_law 15 (some .boolean)) {v bb a kd x r : Int32} {kp : Int64} {bs k n : Nat} {τ : Gst} (hn : n < 64) (hZ : Z n = seenF σ) (hl : lv_has ls 15 [(12, .int v), (11, .int bb), (10, .int a), (9, .int (cntV σ 6)), (8, .int kd), (7, .int x), (6, .int (nI k)), (3, .int (nI n)), (4, .long kp), (2, .ref (g.2.2.1 + 70)), (1, .ref (g.2.2.1 + 0)), (0, .ref bs)]) (hS : SVC σ (r, τ)) (hW : WA g τ true Z s.heap H locs) (hc1 : cells + 0 ≤ room_1.cells) (hc2 : slots + 0 ≤ room_1.slots) (hK : ∀ (n2 : Nat) (H : Heap) (locs : List Loc) (ls : Array Slot), (n2 = n ∧ τ = σ ∨ n2 = n + 1 ∧ ∃ N2, τ = (N2, svd σ.2.1 σ.1, σ.2.2)) → WA g τ true Z s.heap H locs → lv_has ls 15 [(6, .int (nI (k + 1))), (3, .int (nI n2)), (4, .long kp), (2, .ref (g.2.2.1 + 70)), (1, .ref (g.2.2.1 + 0)), (0, .ref bs)] → W p l e room_1 s m args below meth c H locs cells slots Q (F0 m 105 ls [])) : W p l e room_1 s m args below meth c H locs cells slots Q (F0 m 453 ls [.int r]) := by
  have hx := C0.1; have hb := C0.2.1; have hown := C0.2.2.2.2.1; have hts := C0.2.2.2.2.2.1
  refine lv_istore (lv' := [(13, .int r), (12, .int v), (11, .int bb), (10, .int a), (9, .int (cntV σ 6)), (8, .int kd), (7, .int x), (6, .int (nI k)), (3, .int (nI n)), (4, .long kp), (2, .ref (g.2.2.1 + 70)), (1, .ref (g.2.2.1 + 0)), (0, .ref bs)]) hx hb dL_law_453 hl (Nat.le_of_ble_eq_true rfl) rfl (fun ls hl => ?_)
  refine lv_iload hx hb dL_law_455 (lv_at hl 0 rfl) ?_
  refine lv_ldc (v := (-100011)) hx hb hown (hts _ wl119) dL_law_457 ?_
  rcases hS with ⟨h1, h2⟩ | ⟨h1, h2⟩
  · have h2 : τ = σ := h2
    subst h2
    have h1 : r ≤ -100011 := h1
    refine lv_icmp_gt (tgt := 466) hx hb dL_law_459 rfl (fun hh => absurd h1 (by rw [Int32.lt_iff_toInt_lt] at hh; rw [Int32.le_iff_toInt_le]; omega)) (fun _ => ?_)
    refine lv_iconst (v := 1) hx hb dL_law_462 (by decide) ?_
    refine lv_goto (tgt := 467) hx hb dL_law_463 rfl ?_
    refine lv_istore (lv' := [(14, .int 1), (13, .int r), (12, .int v), (11, .int bb), (10, .int a), (9, .int (cntV τ 6)), (8, .int kd), (7, .int x), (6, .int (nI k)), (3, .int (nI n)), (4, .long kp), (2, .ref (g.2.2.1 + 70)), (1, .ref (g.2.2.1 + 0)), (0, .ref bs)]) hx hb dL_law_467 hl (Nat.le_of_ble_eq_true rfl) rfl (fun ls hl => ?_)
    refine lv_iload hx hb dL_law_469 (lv_at hl 0 rfl) ?_
    refine lv_if_eq (tgt := 498) hx hb dL_law_471 rfl (fun hc => absurd hc (by decide)) (fun _ => ?_)
    refine lv_aload_n hx hb dL_law_474 rfl (lv_at hl 12 rfl) ?_
    refine lv_bipush (v := 6) hx hb dL_law_475 (by decide) ?_
    refine ar_count (rest := []) C0 hl.1 hW (z_count τ (k := 6) (by decide)) ⟨Nat.le_of_ble_eq_true rfl, Nat.le_of_ble_eq_true rfl⟩ (Nat.le_of_ble_eq_true rfl) ⟨by omega, by omega⟩ dL_law_477 (fun H locs hW => ?_)
    refine lv_iload hx hb dL_law_480 (lv_at hl 5 rfl) ?_
    refine lv_icmp_ne (tgt := 496) hx hb dL_law_482 rfl (fun hc => absurd rfl hc) (fun _ => ?_)
    refine lv_aload_n hx hb dL_law_485 rfl (lv_at hl 12 rfl) ?_
    refine al_cSl (rest := []) C0 hW (c_L_seen (r := seenF τ) rfl) (ls_seen hts ⟨Nat.le_of_ble_eq_true rfl, Nat.le_of_ble_eq_true rfl⟩) rfl hl.1 rfl (Nat.le_of_ble_eq_true rfl) ⟨by omega, by omega⟩ dL_law_486 (fun H locs hW => ?_)
    refine lv_aload_n hx hb dL_law_489 rfl (lv_at hl 11 rfl) ?_
    refine lv_iload_n hx hb dL_law_490 rfl (lv_at hl 9 rfl) ?_
    refine al_lald C0 hW hn dL_law_491 ?_
    refine W.lcmp hx hb dL_law_492 ?_
    rw [hZ, lg_cmp_rf]
    refine lv_if_eq (tgt := 498) hx hb dL_law_493 rfl (fun _ => ?_) (fun hc => absurd (by decide) hc)
    refine lv_iload_n hx hb dL_law_498 rfl (lv_at hl 9 rfl) ?_
    refine lv_iload hx hb dL_law_499 (lv_at hl 0 rfl) ?_
    refine lv_if_eq (tgt := 508) hx hb dL_law_501 rfl (fun hc => absurd hc (by decide)) (fun _ => ?_)
    refine lv_iconst (v := 0) hx hb dL_law_504 (by decide) ?_
    refine lv_goto (tgt := 509) hx hb dL_law_505 rfl ?_
    refine lv_iadd hx hb dL_law_509 ?_
    rw [nI_z]
    refine lv_istore_n (lv' := [(3, .int (nI n)), (14, .int 1), (13, .int r), (12, .int v), (11, .int bb), (10, .int a), (9, .int (cntV τ 6)), (8, .int kd), (7, .int x), (6, .int (nI k)), (4, .long kp), (2, .ref (g.2.2.1 + 70)), (1, .ref (g.2.2.1 + 0)), (0, .ref bs)]) hx hb dL_law_510 rfl hl (Nat.le_of_ble_eq_true rfl) rfl (fun ls hl => ?_)
    refine lv_iinc (k := 9) (v := nI (k + 1)) (lv' := [(6, .int (nI (k + 1))), (3, .int (nI n)), (14, .int 1), (13, .int r), (12, .int v), (11, .int bb), (10, .int a), (9, .int (cntV τ 6)), (8, .int kd), (7, .int x), (4, .long kp), (2, .ref (g.2.2.1 + 70)), (1, .ref (g.2.2.1 + 0)), (0, .ref bs)]) hx hb dL_law_511 hl rfl (by rw [show Int32.ofInt 1 = nI 1 by decide, nI_add]) (Nat.le_of_ble_eq_true rfl) rfl (fun ls hl => ?_)
    refine lv_goto (tgt := 105) hx hb dL_law_514 rfl ?_
    have hl := lv_sub hl [0, 1, 10, 11, 12, 13] rfl
    have hl : lv_has ls 15 [(6, .int (nI (k + 1))), (3, .int (nI n)), (4, .long kp), (2, .ref (g.2.2.1 + 70)), (1, .ref (g.2.2.1 + 0)), (0, .ref bs)] := hl
    exact W.widen (by omega) (by omega) (hK n H locs ls (Or.inl ⟨rfl, rfl⟩) hW hl)
  · obtain ⟨N2, h2⟩ := h2
    have h1 : ¬ r ≤ -100011 := h1
    refine lv_icmp_gt (tgt := 466) hx hb dL_law_459 rfl (fun _ => ?_) (fun hh => absurd (show r ≤ -100011 by rw [Int32.lt_iff_toInt_lt] at hh; rw [Int32.le_iff_toInt_le]; omega) h1)
    refine lv_iconst (v := 0) hx hb dL_law_466 (by decide) ?_
    refine lv_istore (lv' := [(14, .int 0), (13, .int r), (12, .int v), (11, .int bb), (10, .int a), (9, .int (cntV σ 6)), (8, .int kd), (7, .int x), (6, .int (nI k)), (3, .int (nI n)), (4, .long kp), (2, .ref (g.2.2.1 + 70)), (1, .ref (g.2.2.1 + 0)), (0, .ref bs)]) hx hb dL_law_467 hl (Nat.le_of_ble_eq_true rfl) rfl (fun ls hl => ?_)
    refine lv_iload hx hb dL_law_469 (lv_at hl 0 rfl) ?_
    refine lv_if_eq (tgt := 498) hx hb dL_law_471 rfl (fun _ => ?_) (fun hc => absurd (by decide) hc)
    refine lv_iload_n hx hb dL_law_498 rfl (lv_at hl 9 rfl) ?_
    refine lv_iload hx hb dL_law_499 (lv_at hl 0 rfl) ?_
    refine lv_if_eq (tgt := 508) hx hb dL_law_501 rfl (fun _ => ?_) (fun hc => absurd (by decide) hc)
    refine lv_iconst (v := 1) hx hb dL_law_508 (by decide) ?_
    refine lv_iadd hx hb dL_law_509 ?_
    rw [nI_1]
    refine lv_istore_n (lv' := [(3, .int (nI (n + 1))), (14, .int 0), (13, .int r), (12, .int v), (11, .int bb), (10, .int a), (9, .int (cntV σ 6)), (8, .int kd), (7, .int x), (6, .int (nI k)), (4, .long kp), (2, .ref (g.2.2.1 + 70)), (1, .ref (g.2.2.1 + 0)), (0, .ref bs)]) hx hb dL_law_510 rfl hl (Nat.le_of_ble_eq_true rfl) rfl (fun ls hl => ?_)
    refine lv_iinc (k := 9) (v := nI (k + 1)) (lv' := [(6, .int (nI (k + 1))), (3, .int (nI (n + 1))), (14, .int 0), (13, .int r), (12, .int v), (11, .int bb), (10, .int a), (9, .int (cntV σ 6)), (8, .int kd), (7, .int x), (4, .long kp), (2, .ref (g.2.2.1 + 70)), (1, .ref (g.2.2.1 + 0)), (0, .ref bs)]) hx hb dL_law_511 hl rfl (by rw [show Int32.ofInt 1 = nI 1 by decide, nI_add]) (Nat.le_of_ble_eq_true rfl) rfl (fun ls hl => ?_)
    refine lv_goto (tgt := 105) hx hb dL_law_514 rfl ?_
    have hl := lv_sub hl [0, 1, 10, 11, 12, 13] rfl
    have hl : lv_has ls 15 [(6, .int (nI (k + 1))), (3, .int (nI (n + 1))), (4, .long kp), (2, .ref (g.2.2.1 + 70)), (1, .ref (g.2.2.1 + 0)), (0, .ref bs)] := hl
    exact W.widen (by omega) (by omega) (hK (n + 1) H locs ls (Or.inr ⟨rfl, N2, h2⟩) hW hl)
end LBX
