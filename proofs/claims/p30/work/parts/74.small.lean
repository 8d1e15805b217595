/-! THE LAW'S small methods: three, far, wide, part, drawn. -/
section SML
theorem ls_call {Rm : Room} {s : State} {args : Array Value} (ht : ∀ w ∈ GT, w.before args s = true) (hR : rmL_call.frames + 1 ≤ Rm.frames ∧ 8 + (10 + 11) + rmL_call.locals ≤ Rm.locals) : vx_CSW Rm s args RL 121 yL_call cL_call 10 (some .int) [(47, 442, 443, 97), (47, 442, 448, 100), (47, 442, 453, 103)] (Cond.codeWith yL_call cL_call 10 (some .int) [(47, 442, 443, 97), (47, 442, 448, 100), (47, 442, 453, 103)] :: GT) rmL_call 2 65 5 := vx_cwSW 5 ht (goodS wl33 wl35 wl27 wl34) rfl rfl rfl ⟨by decide +kernel, by decide +kernel, by decide +kernel⟩ hR
def threeF (c d e : Int32) : Int64 := 1000000 * Int32.toInt64 (c + 500) + 1000 * Int32.toInt64 (d + 500) + Int32.toInt64 e + 500
def farF (k lo hi : Int32) : Int32 := if k = 0 then lo - 1 else if k = 1 then hi + 1 else if k = 2 then (-500) else 499
def wideF (k lo hi : Int32) : Int32 := if k = 0 then lo - 1 else if k = 1 then hi + 1 else if k = 2 then (-2147483648) else 2147483647
def partF (v n : Int32) : Int32 := (v &&& 2147483647) - (v &&& 2147483647) / n * n
abbrev rmL_three : Room := { frames := 0, cells := 0, slots := 0, locals := 0 }
theorem ls_three {Rm : Room} {s : State} {args : Array Value} (ht : ∀ w ∈ GT, w.before args s = true) (hR : rmL_three.frames + 1 ≤ Rm.frames ∧ 8 + (3 + 11) + rmL_three.locals ≤ Rm.locals) : CallB Rm s args RL 125 yL_three cL_three 3 (some .long) (Cond.code yL_three cL_three 3 (some .long) :: GT) rmL_three 0 0 3 ∧ (Cond.static yL_three).before args s = true := va_cwS 3 ht (goodS wl122 wl124 wl27 wl123) rfl rfl rfl ⟨by decide +kernel, by decide +kernel, by decide +kernel⟩ hR
theorem c_L_three {l : Launch} {g : Gam} {σ : Gst} {b : Bool} {Z : Zed} {c1 d1 e1 : Int32} {r : Int64} (hr : threeF c1 d1 e1 = r) : Met l yL_three (Cond.code yL_three cL_three 3 (some .long) :: GT) rmL_three (va_Pc [.int c1, .int d1, .int e1] (PA g σ b Z)) (QAl g r σ b Z) 0 0 (AA g) := by
  refine al_ofW (lv0 := [(0, .int c1), (1, .int d1), (2, .int e1)]) (by decide) (Nat.le_of_ble_eq_true rfl) rfl (fun p e s m args below meth c ls H locs C0 hl hW => ?_)
  have C0 : CX g p s m args meth c RL cL_three 3 (some .long) := C0
  have hx := C0.1; have hb := C0.2.1; have hown := C0.2.2.2.2.1; have hts := C0.2.2.2.2.2.1
  refine lv_ldc2 (v := 1000000) hx hb hown (hts _ wl176) dL_three_0 ?_
  refine lv_iload_n hx hb dL_three_3 rfl (lv_at hl 0 rfl) ?_
  refine lv_sipush (v := 500) hx hb dL_three_4 (by decide) ?_
  refine lv_iadd hx hb dL_three_7 ?_
  refine lv_i2l (v := Int32.toInt64 (c1 + 500)) hx hb dL_three_8 rfl ?_
  refine lv_lmul hx hb dL_three_9 ?_
  refine lv_ldc2 (v := 1000) hx hb hown (hts _ wl177) dL_three_10 ?_
  refine lv_iload_n hx hb dL_three_13 rfl (lv_at hl 1 rfl) ?_
  refine lv_sipush (v := 500) hx hb dL_three_14 (by decide) ?_
  refine lv_iadd hx hb dL_three_17 ?_
  refine lv_i2l (v := Int32.toInt64 (d1 + 500)) hx hb dL_three_18 rfl ?_
  refine lv_lmul hx hb dL_three_19 ?_
  refine lv_ladd hx hb dL_three_20 ?_
  refine lv_iload_n hx hb dL_three_21 rfl (lv_at hl 2 rfl) ?_
  refine lv_i2l (v := Int32.toInt64 e1) hx hb dL_three_22 rfl ?_
  refine lv_ladd hx hb dL_three_23 ?_
  refine lv_ldc2 (v := 500) hx hb hown (hts _ wl178) dL_three_24 ?_
  refine lv_ladd hx hb dL_three_27 ?_
  exact al_lret C0 hW (Nat.le_of_ble_eq_true rfl) (Nat.le_of_ble_eq_true rfl) hr dL_three_28
abbrev rmL_far : Room := { frames := 0, cells := 0, slots := 0, locals := 0 }
theorem ls_far {Rm : Room} {s : State} {args : Array Value} (ht : ∀ w ∈ GT, w.before args s = true) (hR : rmL_far.frames + 1 ≤ Rm.frames ∧ 8 + (3 + 11) + rmL_far.locals ≤ Rm.locals) : CallB Rm s args RL 118 yL_far cL_far 3 (some .int) (Cond.code yL_far cL_far 3 (some .int) :: GT) rmL_far 0 0 3 ∧ (Cond.static yL_far).before args s = true := va_cwS 3 ht (goodS wl138 wl140 wl27 wl139) rfl rfl rfl ⟨by decide +kernel, by decide +kernel, by decide +kernel⟩ hR
theorem c_L_far {l : Launch} {g : Gam} {σ : Gst} {b : Bool} {Z : Zed} {k lo hi : Int32} {r : Int32} (hr : farF k lo hi = r) : Met l yL_far (Cond.code yL_far cL_far 3 (some .int) :: GT) rmL_far (va_Pc [.int k, .int lo, .int hi] (PA g σ b Z)) (QAi g r σ b Z) 0 0 (AA g) := by
  refine al_ofW (lv0 := [(0, .int k), (1, .int lo), (2, .int hi)]) (by decide) (Nat.le_of_ble_eq_true rfl) rfl (fun p e s m args below meth c ls H locs C0 hl hW => ?_)
  have C0 : CX g p s m args meth c RL cL_far 3 (some .int) := C0
  have hx := C0.1; have hb := C0.2.1; have hown := C0.2.2.2.2.1; have hts := C0.2.2.2.2.2.1
  refine lv_iload_n hx hb dL_far_0 rfl (lv_at hl 0 rfl) ?_
  refine lv_if_ne (tgt := 10) hx hb dL_far_1 rfl (fun hc => ?_) (fun hc => ?_)
  rotate_left
  · have hc0 : k = 0 := hc
    refine lv_iload_n hx hb dL_far_4 rfl (lv_at hl 1 rfl) ?_
    refine lv_iconst (v := 1) hx hb dL_far_5 (by decide) ?_
    refine lv_isub hx hb dL_far_6 ?_
    refine lv_goto (tgt := 35) hx hb dL_far_7 rfl ?_
    rw [show farF k lo hi = lo - 1 by unfold farF; rw [if_pos hc0]] at hr
    exact al_iret C0 hW (Nat.le_of_ble_eq_true rfl) (Nat.le_of_ble_eq_true rfl) hr dL_far_35
  have hc0 : ¬ k = 0 := hc
  refine lv_iload_n hx hb dL_far_10 rfl (lv_at hl 0 rfl) ?_
  refine lv_iconst (v := 1) hx hb dL_far_11 (by decide) ?_
  refine lv_icmp_ne (tgt := 21) hx hb dL_far_12 rfl (fun hc => ?_) (fun hc => ?_)
  rotate_left
  · have hc1 : k = 1 := hc
    refine lv_iload_n hx hb dL_far_15 rfl (lv_at hl 2 rfl) ?_
    refine lv_iconst (v := 1) hx hb dL_far_16 (by decide) ?_
    refine lv_iadd hx hb dL_far_17 ?_
    refine lv_goto (tgt := 35) hx hb dL_far_18 rfl ?_
    rw [show farF k lo hi = hi + 1 by unfold farF; rw [if_neg hc0, if_pos hc1]] at hr
    exact al_iret C0 hW (Nat.le_of_ble_eq_true rfl) (Nat.le_of_ble_eq_true rfl) hr dL_far_35
  have hc1 : ¬ k = 1 := hc
  refine lv_iload_n hx hb dL_far_21 rfl (lv_at hl 0 rfl) ?_
  refine lv_iconst (v := 2) hx hb dL_far_22 (by decide) ?_
  refine lv_icmp_ne (tgt := 32) hx hb dL_far_23 rfl (fun hc => ?_) (fun hc => ?_)
  rotate_left
  · have hc2 : k = 2 := hc
    refine lv_sipush (v := (-500)) hx hb dL_far_26 (by decide) ?_
    refine lv_goto (tgt := 35) hx hb dL_far_29 rfl ?_
    rw [show farF k lo hi = (-500) by unfold farF; rw [if_neg hc0, if_neg hc1, if_pos hc2]] at hr
    exact al_iret C0 hW (Nat.le_of_ble_eq_true rfl) (Nat.le_of_ble_eq_true rfl) hr dL_far_35
  have hc2 : ¬ k = 2 := hc
  refine lv_sipush (v := 499) hx hb dL_far_32 (by decide) ?_
  rw [show farF k lo hi = 499 by unfold farF; rw [if_neg hc0, if_neg hc1, if_neg hc2]] at hr
  exact al_iret C0 hW (Nat.le_of_ble_eq_true rfl) (Nat.le_of_ble_eq_true rfl) hr dL_far_35
abbrev rmL_wide : Room := { frames := 0, cells := 0, slots := 0, locals := 0 }
theorem ls_wide {Rm : Room} {s : State} {args : Array Value} (ht : ∀ w ∈ GT, w.before args s = true) (hR : rmL_wide.frames + 1 ≤ Rm.frames ∧ 8 + (3 + 11) + rmL_wide.locals ≤ Rm.locals) : CallB Rm s args RL 113 yL_wide cL_wide 3 (some .int) (Cond.code yL_wide cL_wide 3 (some .int) :: GT) rmL_wide 0 0 3 ∧ (Cond.static yL_wide).before args s = true := va_cwS 3 ht (goodS wl134 wl136 wl27 wl135) rfl rfl rfl ⟨by decide +kernel, by decide +kernel, by decide +kernel⟩ hR
theorem c_L_wide {l : Launch} {g : Gam} {σ : Gst} {b : Bool} {Z : Zed} {k lo hi : Int32} {r : Int32} (hr : wideF k lo hi = r) : Met l yL_wide (Cond.code yL_wide cL_wide 3 (some .int) :: GT) rmL_wide (va_Pc [.int k, .int lo, .int hi] (PA g σ b Z)) (QAi g r σ b Z) 0 0 (AA g) := by
  refine al_ofW (lv0 := [(0, .int k), (1, .int lo), (2, .int hi)]) (by decide) (Nat.le_of_ble_eq_true rfl) rfl (fun p e s m args below meth c ls H locs C0 hl hW => ?_)
  have C0 : CX g p s m args meth c RL cL_wide 3 (some .int) := C0
  have hx := C0.1; have hb := C0.2.1; have hown := C0.2.2.2.2.1; have hts := C0.2.2.2.2.2.1
  refine lv_iload_n hx hb dL_wide_0 rfl (lv_at hl 0 rfl) ?_
  refine lv_if_ne (tgt := 10) hx hb dL_wide_1 rfl (fun hc => ?_) (fun hc => ?_)
  rotate_left
  · have hc0 : k = 0 := hc
    refine lv_iload_n hx hb dL_wide_4 rfl (lv_at hl 1 rfl) ?_
    refine lv_iconst (v := 1) hx hb dL_wide_5 (by decide) ?_
    refine lv_isub hx hb dL_wide_6 ?_
    refine lv_goto (tgt := 33) hx hb dL_wide_7 rfl ?_
    rw [show wideF k lo hi = lo - 1 by unfold wideF; rw [if_pos hc0]] at hr
    exact al_iret C0 hW (Nat.le_of_ble_eq_true rfl) (Nat.le_of_ble_eq_true rfl) hr dL_wide_33
  have hc0 : ¬ k = 0 := hc
  refine lv_iload_n hx hb dL_wide_10 rfl (lv_at hl 0 rfl) ?_
  refine lv_iconst (v := 1) hx hb dL_wide_11 (by decide) ?_
  refine lv_icmp_ne (tgt := 21) hx hb dL_wide_12 rfl (fun hc => ?_) (fun hc => ?_)
  rotate_left
  · have hc1 : k = 1 := hc
    refine lv_iload_n hx hb dL_wide_15 rfl (lv_at hl 2 rfl) ?_
    refine lv_iconst (v := 1) hx hb dL_wide_16 (by decide) ?_
    refine lv_iadd hx hb dL_wide_17 ?_
    refine lv_goto (tgt := 33) hx hb dL_wide_18 rfl ?_
    rw [show wideF k lo hi = hi + 1 by unfold wideF; rw [if_neg hc0, if_pos hc1]] at hr
    exact al_iret C0 hW (Nat.le_of_ble_eq_true rfl) (Nat.le_of_ble_eq_true rfl) hr dL_wide_33
  have hc1 : ¬ k = 1 := hc
  refine lv_iload_n hx hb dL_wide_21 rfl (lv_at hl 0 rfl) ?_
  refine lv_iconst (v := 2) hx hb dL_wide_22 (by decide) ?_
  refine lv_icmp_ne (tgt := 31) hx hb dL_wide_23 rfl (fun hc => ?_) (fun hc => ?_)
  rotate_left
  · have hc2 : k = 2 := hc
    refine lv_ldc (v := (-2147483648)) hx hb hown (hts _ wl137) dL_wide_26 ?_
    refine lv_goto (tgt := 33) hx hb dL_wide_28 rfl ?_
    rw [show wideF k lo hi = (-2147483648) by unfold wideF; rw [if_neg hc0, if_neg hc1, if_pos hc2]] at hr
    exact al_iret C0 hW (Nat.le_of_ble_eq_true rfl) (Nat.le_of_ble_eq_true rfl) hr dL_wide_33
  have hc2 : ¬ k = 2 := hc
  refine lv_ldc (v := 2147483647) hx hb hown (hts _ wl28) dL_wide_31 ?_
  rw [show wideF k lo hi = 2147483647 by unfold wideF; rw [if_neg hc0, if_neg hc1, if_neg hc2]] at hr
  exact al_iret C0 hW (Nat.le_of_ble_eq_true rfl) (Nat.le_of_ble_eq_true rfl) hr dL_wide_33
abbrev rmL_part : Room := { frames := 0, cells := 0, slots := 0, locals := 0 }
theorem ls_part {Rm : Room} {s : State} {args : Array Value} (ht : ∀ w ∈ GT, w.before args s = true) (hR : rmL_part.frames + 1 ≤ Rm.frames ∧ 8 + (2 + 11) + rmL_part.locals ≤ Rm.locals) : CallB Rm s args RL 313 yL_part cL_part 2 (some .int) (Cond.code yL_part cL_part 2 (some .int) :: GT) rmL_part 0 0 2 ∧ (Cond.static yL_part).before args s = true := va_cwS 2 ht (goodS wl24 wl26 wl27 wl25) rfl rfl rfl ⟨by decide +kernel, by decide +kernel, by decide +kernel⟩ hR
theorem c_L_part {l : Launch} {g : Gam} {σ : Gst} {b : Bool} {Z : Zed} {v n : Int32} (hn0 : ¬ n = 0) {r : Int32} (hr : partF v n = r) : Met l yL_part (Cond.code yL_part cL_part 2 (some .int) :: GT) rmL_part (va_Pc [.int v, .int n] (PA g σ b Z)) (QAi g r σ b Z) 0 0 (AA g) := by
  refine al_ofW (lv0 := [(0, .int v), (1, .int n)]) (by decide) (Nat.le_of_ble_eq_true rfl) rfl (fun p e s m args below meth c ls H locs C0 hl hW => ?_)
  have C0 : CX g p s m args meth c RL cL_part 2 (some .int) := C0
  have hx := C0.1; have hb := C0.2.1; have hown := C0.2.2.2.2.1; have hts := C0.2.2.2.2.2.1
  refine lv_iload_n hx hb dL_part_0 rfl (lv_at hl 0 rfl) ?_
  refine lv_ldc (v := 2147483647) hx hb hown (hts _ wl28) dL_part_1 ?_
  refine lv_iand hx hb dL_part_3 ?_
  refine lv_iload_n hx hb dL_part_4 rfl (lv_at hl 1 rfl) ?_
  refine lv_irem hx hb dL_part_5 hn0 ?_
  exact al_iret C0 hW (Nat.le_of_ble_eq_true rfl) (Nat.le_of_ble_eq_true rfl) hr dL_part_6
abbrev rmL_drawn : Room := { frames := 0, cells := 0, slots := 0, locals := 0 }
theorem ls_drawn {Rm : Room} {s : State} {args : Array Value} (ht : ∀ w ∈ GT, w.before args s = true) (hR : rmL_drawn.frames + 1 ≤ Rm.frames ∧ 8 + (2 + 11) + rmL_drawn.locals ≤ Rm.locals) : CallB Rm s args RL 309 yL_drawn cL_drawn 2 (some .int) (Cond.code yL_drawn cL_drawn 2 (some .int) :: GT) rmL_drawn 0 0 2 ∧ (Cond.static yL_drawn).before args s = true := va_cwS 2 ht (goodS wl29 wl31 wl27 wl30) rfl rfl rfl ⟨by decide +kernel, by decide +kernel, by decide +kernel⟩ hR
theorem vp_inN {j n : Nat} (h : j < n) (hn : n ≤ 2147483647) : vp_in (nI j) n := (rd_in (rd_e (I := fun _ _ => 0) (a := 0) j rfl h hn)).1
def PX (g : Gam) (σ : Gst) (b : Bool) (Z : Zed) (bs L : Nat) (xs : Nat → Int32) (U : State) : Prop := PA g σ b Z U ∧ va_X bs L xs U U.heap
def QAy (g : Gam) (σ : Gst) (b : Bool) (Z : Zed) : Array Value → State → Outcome → State → Prop := va_Qi (S := Unit) (fun _ _ => True) (fun _ t => HA g σ b Z t.heap) (AA g)
theorem PX_blind {g : Gam} {σ : Gst} {b : Bool} {Z : Zed} {bs L : Nat} {xs : Nat → Int32} {av : List Value} : FrameBlind (va_Pc av (PX g σ b Z bs L xs)) := fun a U gf mk h => ⟨h.1, ⟨h.2.1.1, KS.call gf mk a h.2.1.2⟩, va_X.moved (u := U) (U := U.calling gf mk a) (Vm.Alike.refl U.vm) h.2.2⟩
section
variable {p : Program} {l : Launch} {e : Env} {Rm : Room} {s : State} {m : MethodId} {args : Array Value} {below : List Frame} {meth : Method} {c : Code} {H : Heap} {locs : List Loc} {cells slots : Nat} {Q : State → Prop}
variable {cc : ByteArray} {pc : Nat} {ls : Array Slot} {rest : List Value} {g : Gam} {σ : Gst} {b : Bool} {Z : Zed} {own : String} {nL : Nat} {ret : Option FieldType} {bs L : Nat} {xs : Nat → Int32}
theorem al_cSX {mc ms : Nat} (C0 : CX g p s m args meth c own cc nL ret) (hW : WA g σ b Z s.heap H locs) (hX : va_X bs L xs s s.heap) (hbs : bs < g.2.2.2) {As : List Value} {y : MethodName} {bytes : ByteArray} {maxL n index : Nat} {rty : Option FieldType} {rm : Room} {σ2 : Gst}
    (hM : Met l y (Cond.code y bytes maxL rty :: GT) rm (va_Pc As (PX g σ b Z bs L xs)) (QAy g σ2 b Z) mc ms (AA g)) (cw : CallB Rm s args own index y bytes maxL rty (Cond.code y bytes maxL rty :: GT) rm mc ms n ∧ (Cond.static y).before args s = true)
    (hn : As.length = n) (hsize : ls.size = nL) {st0 : List Value} (hst : st0 = As.reverse ++ rest) (hr : (rest.map fun v => v.category).sum ≤ 8) (hf : cells + mc ≤ Rm.cells ∧ slots + ms ≤ Rm.slots) (hdg : decode cc pc = .ok (.invokestatic index, 3))
    (K : ∀ (r : Int32) (H1 : Heap) (locs1 : List Loc), WA g σ2 b Z s.heap H1 locs1 → W p l e Rm s m args below meth c H1 locs1 (cells + mc) (slots + ms) Q (F0 m (pc + 3) ls (.int r :: rest))) : W p l e Rm s m args below meth c H locs cells slots Q (F0 m pc ls st0) := by
  have hbl : bs < s.heap.size := by obtain ⟨scr, h1, -⟩ := hX; exact (Array.getElem?_eq_some_iff.mp h1).1
  refine va_calli (va_runS (g := F0 m pc ls st0) (rest := rest) (aw_fix C0) hM cw ⟨PX_blind, fun U hU hWm => ⟨rfl, ⟨by rw [hU]; exact hW.1, C0.2.2.2.2.2.2.1.at' hW.2 hU hWm⟩, (va_X.moved hWm.alike hX).kept (by rw [hU]; exact hW.2.2.1 bs hbl (Nat.not_le.mpr hbs))⟩⟩ rfl hn hsize hst (lv_room hr) hdg hf) hW.2 (fun q _ h => h) (fun q h => h) (fun r0 u t H1 locs1 ht _ hp hB _ _ hS => ?_)
  subst ht
  exact K r0 t.heap locs1 ⟨hB, hS⟩
theorem al_ofX {y : MethodName} {rty : Option FieldType} {maxL : Nat} {av : List Value} {rm : Room} {Qc : Array Value → State → Outcome → State → Prop} {mc ms : Nat} (hy : plainName y.cls = true) {lv0 : List (Nat × Value)} (hlen : (lg_sl av).length ≤ maxL) (hav : lv_args 0 av = lv0)
    (body : ∀ (p : Program) (e : Env) (s : State) (m : MethodId) (args : Array Value) (below : List Frame) (meth : Method) (c : Code) (ls : Array Slot) (H : Heap) (locs : List Loc), CX g p s m args meth c y.cls cc maxL rty → lv_has ls maxL lv0 → WA g σ b Z s.heap H locs → va_X bs L xs s s.heap →
      W p l e rm s m args below meth c H locs 0 0 (MQ below Qc args s mc ms (AA g)) (F0 m 0 ls [])) : Met l y (Cond.code y cc maxL rty :: GT) rm (va_Pc av (PX g σ b Z bs L xs)) Qc mc ms (AA g) := by
  refine Met.ofW (cc := cc) (maxL := maxL) (ret := rty) hy rfl ?_
  intro p e s m args below meth c s₁ B hml hv
  obtain ⟨rfl, ⟨hH, hKS⟩, hX⟩ := hv
  have hl := lv_entry av hlen
  rw [hav] at hl
  rw [lg_entry_eq]
  exact body p e s m _ below meth c _ _ _ ⟨B.exec, B.bytes, hml, B.returns, findClass_of_methodNamed B.named, fun w h => atoms_spec (ws := Cond.code y cc maxL rty :: GT) B.pre w (List.mem_cons_of_mem _ h), hKS, B.notSynchronized⟩ hl ⟨hH, va_S.rf⟩ hX
theorem al_irety {mc ms : Nat} (C0 : CX g p s m args meth c own cc nL (some .int)) (hW : WA g σ b Z s.heap H locs) (hmc : cells ≤ mc) (hms : slots ≤ ms) {x : Int32} (hdg : decode cc pc = .ok (.ireturn, 1)) : W p l e Rm s m args below meth c H locs cells slots (MQ below (QAy g σ b Z) args s mc ms (AA g)) (F0 m pc ls [.int x]) := by
  obtain ⟨hx, hb, -, hr, hown, hts, hK, hlk⟩ := C0
  exact W.widen hmc hms (W.iret (hlocks := hlk) hx hb hr (fun t ht _ => ⟨⟨x, (), rfl, trivial, (show HA g σ b Z t.heap by rw [ht]; exact hW.1)⟩, hW.2.F ht⟩) hW.2.2.2 hdg)
end
theorem c_L_drawn {l : Launch} {g : Gam} {σ : Gst} {b : Bool} {Z : Zed} {bs L k : Nat} {xs : Nat → Int32} (hbs : bs < g.2.2.2) (hL : L ≤ 260) (hk : k < 1000) : Met l yL_drawn (Cond.code yL_drawn cL_drawn 2 (some .int) :: GT) rmL_drawn (va_Pc [.ref bs, .int (nI k)] (PX g σ b Z bs L xs)) (QAy g σ b Z) 0 0 (AA g) := by
  refine al_ofX (lv0 := [(0, .ref bs), (1, .int (nI k))]) (by decide) (Nat.le_of_ble_eq_true rfl) rfl (fun p e s m args below meth c ls H locs C0 hl hW hX => ?_)
  have C0 : CX g p s m args meth c RL cL_drawn 2 (some .int) := C0
  have hx := C0.1; have hb := C0.2.1; have hown := C0.2.2.2.2.1; have hts := C0.2.2.2.2.2.1
  have hbl : bs < s.heap.size := by obtain ⟨scr, h1, -⟩ := hX; exact (Array.getElem?_eq_some_iff.mp h1).1
  have hA : ¬ AA g bs := Nat.not_le.mpr hbs
  refine lv_aload_n hx hb dL_drawn_0 rfl (lv_at hl 0 rfl) ?_
  refine va_slen hx hb hX hbl hA hW.2 dL_drawn_1 ?_
  refine lv_if_ne (tgt := 15) hx hb dL_drawn_2 rfl (fun hc => ?_) (fun hc => ?_)
  rotate_left
  · skip
    refine lv_sipush (v := 7919) hx hb dL_drawn_5 (by decide) ?_
    refine lv_iload_n hx hb dL_drawn_8 rfl (lv_at hl 1 rfl) ?_
    refine lv_imul hx hb dL_drawn_9 ?_
    refine lv_iconst (v := 3) hx hb dL_drawn_10 (by decide) ?_
    refine lv_iadd hx hb dL_drawn_11 ?_
    refine lv_goto (tgt := 39) hx hb dL_drawn_12 rfl ?_
    exact al_irety C0 hW (Nat.le_of_ble_eq_true rfl) (Nat.le_of_ble_eq_true rfl) dL_drawn_39
  have hc : ¬ nI L = 0 := hc
  have hL0 : 0 < L := Nat.pos_of_ne_zero (fun h => hc (by rw [h]; rfl))
  have hn0 : ¬ Int32.ofNat L = 0 := hc
  refine lv_aload_n hx hb dL_drawn_15 rfl (lv_at hl 0 rfl) ?_
  refine lv_iload_n hx hb dL_drawn_16 rfl (lv_at hl 1 rfl) ?_
  refine lv_aload_n hx hb dL_drawn_17 rfl (lv_at hl 0 rfl) ?_
  refine va_slen hx hb hX hbl hA hW.2 dL_drawn_18 ?_
  refine lv_irem hx hb dL_drawn_19 hn0 ?_
  rw [show nI k - nI k / Int32.ofNat L * Int32.ofNat L = nI (k % L) from pk_rem (by omega) hL0 (by omega)]
  refine va_sld hx hb hX hbl hA hW.2 (vp_inN (Nat.mod_lt k hL0) (by omega)) dL_drawn_20 ?_
  generalize xs (nI (k % L)).toNatClampNeg = y
  refine lv_iload_n hx hb dL_drawn_21 rfl (lv_at hl 1 rfl) ?_
  refine lv_bipush (v := 7) hx hb dL_drawn_22 (by decide) ?_
  refine lv_irem hx hb dL_drawn_24 (by decide) ?_
  refine lv_ishr hx hb dL_drawn_25 ?_
  refine lv_iload_n hx hb dL_drawn_26 rfl (lv_at hl 1 rfl) ?_
  refine lv_aload_n hx hb dL_drawn_27 rfl (lv_at hl 0 rfl) ?_
  refine va_slen hx hb hX hbl hA hW.2 dL_drawn_28 ?_
  refine lv_idiv hx hb dL_drawn_29 hn0 ?_
  refine lv_bipush (v := 31) hx hb dL_drawn_30 (by decide) ?_
  refine lv_imul hx hb dL_drawn_32 ?_
  refine lv_ixor hx hb dL_drawn_33 ?_
  refine lv_iload_n hx hb dL_drawn_34 rfl (lv_at hl 1 rfl) ?_
  refine lv_ldc (v := 2654435) hx hb hown (hts _ wl32) dL_drawn_35 ?_
  refine lv_imul hx hb dL_drawn_37 ?_
  refine lv_ixor hx hb dL_drawn_38 ?_
  exact al_irety C0 hW (Nat.le_of_ble_eq_true rfl) (Nat.le_of_ble_eq_true rfl) dL_drawn_39
end SML
