section CTN
theorem wc0 : Cond.methodLink RX3 3 Lib.objectInit ∈ GT := GT_mem (List.mem_append_right _ (List.mem_of_getElem? (i := 69) (by decide +kernel))) (by decide +kernel)
theorem wc1 : Cond.methodLink RX6 3 Lib.objectInit ∈ GT := GT_mem (List.mem_append_right _ (List.mem_of_getElem? (i := 32) (by decide +kernel))) (by decide +kernel)
theorem wc2 : Cond.classLink RX6 18 RX2 ∈ GT := GT_mem (List.mem_append_right _ (List.mem_of_getElem? (i := 33) (by decide +kernel))) (by decide +kernel)
theorem wc3 : Cond.methodLink RX1 1 Lib.objectInit ∈ GT := GT_mem (List.mem_append_right _ (List.mem_of_getElem? (i := 63) (by decide +kernel))) (by decide +kernel)
theorem wc4 : Cond.classLink RX1 7 RX3 ∈ GT := GT_mem (List.mem_append_right _ (List.mem_of_getElem? (i := 64) (by decide +kernel))) (by decide +kernel)
theorem wc5 : Cond.instantiable RX3 2 ∈ GT := GT_mem (List.mem_append_right _ (List.mem_of_getElem? (i := 65) (by decide +kernel))) (by decide +kernel)
theorem wc6 : Cond.code yX3_init cX3_init 1 none ∈ GT := GT_mem (List.mem_append_right _ (List.mem_of_getElem? (i := 68) (by decide +kernel))) (by decide +kernel)
theorem wc7 : Cond.instanceMethod yX3_init ∈ GT := GT_mem (List.mem_append_right _ (List.mem_of_getElem? (i := 67) (by decide +kernel))) (by decide +kernel)
theorem wc8 : Cond.methodLink RX0 3 Lib.objectInit ∈ GT := GT_mem (List.mem_append_right _ (List.mem_of_getElem? (i := 91) (by decide +kernel))) (by decide +kernel)
theorem wc9 : Cond.arrayClass .boolean ∈ GT := GT_mem (List.mem_append_right _ (List.mem_of_getElem? (i := 77) (by decide +kernel))) (by decide +kernel)
theorem wc10 : Cond.methodLink RX4 1 Lib.objectInit ∈ GT := GT_mem (List.mem_append_right _ (List.mem_of_getElem? (i := 107) (by decide +kernel))) (by decide +kernel)
theorem wc11 : Cond.classLink RX4 7 RX3 ∈ GT := GT_mem (List.mem_append_right _ (List.mem_of_getElem? (i := 108) (by decide +kernel))) (by decide +kernel)
theorem wc12 : Cond.methodLink RX5 3 Lib.objectInit ∈ GT := GT_mem (List.mem_append_right _ (List.mem_of_getElem? (i := 137) (by decide +kernel))) (by decide +kernel)
theorem wc13 : Cond.arrayClass .char ∈ GT := GT_mem (List.mem_append_right _ (List.mem_of_getElem? (i := 78) (by decide +kernel))) (by decide +kernel)
theorem wc14 : Cond.classLink RX5 15 RX3 ∈ GT := GT_mem (List.mem_append_right _ (List.mem_of_getElem? (i := 138) (by decide +kernel))) (by decide +kernel)
theorem wc15 : Cond.methodLink RX8 1 Lib.objectInit ∈ GT := GT_mem (List.mem_append_right _ (List.mem_of_getElem? (i := 24) (by decide +kernel))) (by decide +kernel)
theorem wc16 : Cond.classLink RX8 7 RX6 ∈ GT := GT_mem (List.mem_append_right _ (List.mem_of_getElem? (i := 27) (by decide +kernel))) (by decide +kernel)
theorem wc17 : Cond.instantiable RX6 5 ∈ GT := GT_mem (List.mem_append_right _ (List.mem_of_getElem? (i := 28) (by decide +kernel))) (by decide +kernel)
theorem wc18 : Cond.code yX6_init cX6_init 1 none ∈ GT := GT_mem (List.mem_append_right _ (List.mem_of_getElem? (i := 31) (by decide +kernel))) (by decide +kernel)
theorem wc19 : Cond.instanceMethod yX6_init ∈ GT := GT_mem (List.mem_append_right _ (List.mem_of_getElem? (i := 30) (by decide +kernel))) (by decide +kernel)
theorem wc20 : Cond.classLink RX8 42 RX1 ∈ GT := GT_mem (List.mem_append_right _ (List.mem_of_getElem? (i := 58) (by decide +kernel))) (by decide +kernel)
theorem wc21 : Cond.instantiable RX1 2 ∈ GT := GT_mem (List.mem_append_right _ (List.mem_of_getElem? (i := 59) (by decide +kernel))) (by decide +kernel)
theorem wc22 : Cond.code yX1_init cX1_init 1 none ∈ GT := GT_mem (List.mem_append_right _ (List.mem_of_getElem? (i := 62) (by decide +kernel))) (by decide +kernel)
theorem wc23 : Cond.instanceMethod yX1_init ∈ GT := GT_mem (List.mem_append_right _ (List.mem_of_getElem? (i := 61) (by decide +kernel))) (by decide +kernel)
theorem wc24 : Cond.classLink RX8 49 RX0 ∈ GT := GT_mem (List.mem_append_right _ (List.mem_of_getElem? (i := 86) (by decide +kernel))) (by decide +kernel)
theorem wc25 : Cond.instantiable RX0 3 ∈ GT := GT_mem (List.mem_append_right _ (List.mem_of_getElem? (i := 87) (by decide +kernel))) (by decide +kernel)
theorem wc26 : Cond.code yX0_init cX0_init 1 none ∈ GT := GT_mem (List.mem_append_right _ (List.mem_of_getElem? (i := 90) (by decide +kernel))) (by decide +kernel)
theorem wc27 : Cond.instanceMethod yX0_init ∈ GT := GT_mem (List.mem_append_right _ (List.mem_of_getElem? (i := 89) (by decide +kernel))) (by decide +kernel)
theorem wc28 : Cond.classLink RX8 56 RX4 ∈ GT := GT_mem (List.mem_append_right _ (List.mem_of_getElem? (i := 102) (by decide +kernel))) (by decide +kernel)
theorem wc29 : Cond.instantiable RX4 7 ∈ GT := GT_mem (List.mem_append_right _ (List.mem_of_getElem? (i := 103) (by decide +kernel))) (by decide +kernel)
theorem wc30 : Cond.code yX4_init cX4_init 1 none ∈ GT := GT_mem (List.mem_append_right _ (List.mem_of_getElem? (i := 106) (by decide +kernel))) (by decide +kernel)
theorem wc31 : Cond.instanceMethod yX4_init ∈ GT := GT_mem (List.mem_append_right _ (List.mem_of_getElem? (i := 105) (by decide +kernel))) (by decide +kernel)
theorem wc32 : Cond.classLink RX8 63 RX5 ∈ GT := GT_mem (List.mem_append_right _ (List.mem_of_getElem? (i := 132) (by decide +kernel))) (by decide +kernel)
theorem wc33 : Cond.instantiable RX5 4 ∈ GT := GT_mem (List.mem_append_right _ (List.mem_of_getElem? (i := 133) (by decide +kernel))) (by decide +kernel)
theorem wc34 : Cond.code yX5_init cX5_init 1 none ∈ GT := GT_mem (List.mem_append_right _ (List.mem_of_getElem? (i := 136) (by decide +kernel))) (by decide +kernel)
theorem wc35 : Cond.instanceMethod yX5_init ∈ GT := GT_mem (List.mem_append_right _ (List.mem_of_getElem? (i := 135) (by decide +kernel))) (by decide +kernel)
theorem vin_0_2 : vp_in 0 2 := by unfold vp_in; decide
theorem vin_0_6 : vp_in 0 6 := by unfold vp_in; decide
theorem vin_1_2 : vp_in 1 2 := by unfold vp_in; decide
theorem vin_1_6 : vp_in 1 6 := by unfold vp_in; decide
theorem vin_2_6 : vp_in 2 6 := by unfold vp_in; decide
theorem vin_3_6 : vp_in 3 6 := by unfold vp_in; decide
theorem vin_4_6 : vp_in 4 6 := by unfold vp_in; decide
theorem vin_5_6 : vp_in 5 6 := by unfold vp_in; decide
def eX3 (g : Gam) (E : Nat → va_E) (h : Nat) : Nat → va_E := va_up (va_up (va_up (E) (h + 1) (.inl (g.2.1 10, (64, .inl (fun _ => 0))))) h (.inr (3, ([.null, .int 0] : List Value).set 0 (.ref (g.2.2.1 + (h + 1)))))) h (.inr (3, ([.ref (g.2.2.1 + (h + 1)), .int 0] : List Value).set 1 (.int 0)))
abbrev rmX3_init : Room := { frames := 1, cells := 1, slots := 64, locals := 20 }
set_option maxHeartbeats 4000000 in
set_option maxRecDepth 100000 in
theorem c_X3_init {l : Launch} {g : Gam} {E : Nat → va_E} {h : Nat} (hE : E h = .inr (3, [.null, .int 0])) : Met l yX3_init (Cond.code yX3_init cX3_init 1 none :: GT) rmX3_init (va_Pc [.ref (g.2.2.1 + h)] (PE g E (h + 1))) (QE g (eX3 g E h) (h + 2)) 1 64 (AA g) := by
  refine ce_ofW (lv0 := [(0, .ref (g.2.2.1 + h))]) (by decide) (Nat.le_of_ble_eq_true rfl) rfl (fun p0 e s m args below meth c ls C0 hname hs0 hl hW => ?_)
  have C0 : CX g p0 s m args meth c RX3 cX3_init 1 none := C0
  have hx := C0.1; have hb := C0.2.1; have hown := C0.2.2.2.2.1; have hts := C0.2.2.2.2.2.1; have hKS := C0.2.2.2.2.2.2.1
  obtain ⟨H, hH⟩ : ∃ H, H = s.heap := ⟨_, rfl⟩
  obtain ⟨locs, hlc⟩ : ∃ q : List Loc, q = [] := ⟨_, rfl⟩
  rw [show W p0 l e rmX3_init s m args below meth c s.heap [] 0 0 (MQ below (QE g (eX3 g E h) (h + 2)) args s 1 64 (AA g)) (F0 m 0 ls []) = W p0 l e rmX3_init s m args below meth c H locs 0 0 (MQ below (QE g (eX3 g E h) (h + 2)) args s 1 64 (AA g)) (F0 m 0 ls []) by rw [hH, hlc]]
  have hW : WE g E (h + 1) s.heap H locs := by rw [hH, hlc]; exact hW
  refine lv_aload_n hx hb dX3_init_0 rfl (lv_at hl 0 rfl) ?_
  refine aw_objI (rest := []) C0 hl.1 wc0 wd24 wd25 (Nat.le_of_ble_eq_true rfl) (Nat.le_of_ble_eq_true rfl) dX3_init_1 ?_
  refine lv_aload_n hx hb dX3_init_4 rfl (lv_at hl 0 rfl) ?_
  refine lv_bipush (v := 64) hx hb dX3_init_5 (by decide) ?_
  refine ce_sz (n0 := h + 1) (n := h + 1) (k := h + 0) hs0 rfl hW rfl (fun hsz => ?_)
  refine ce_newA (n := h + 1) (atype := .int) (q := 10) (j := 1) (N := 64) (pay := (64, .inl (fun _ => 0))) C0 hW hsz rfl wd26 (by decide) (by decide) (Nat.le_of_ble_eq_true rfl) (fun _ h => h) (fun _ => rfl) (Nat.le_of_ble_eq_true rfl) (Nat.le_of_ble_eq_true rfl) dX3_init_7 (fun H hW => ?_)
  have hW : WE g _ (h + 2) s.heap H locs := hW
  refine ce_putF C0 hname hW (k := h) (ci := 3) (fs := [.null, .int 0]) (by omega) (by simp [va_up, hE] <;> omega) rfl inG3 tyX3 tyX3_ok nmX3 0 (by decide) wd14 rfl rfl rfl (ty := .array (.int)) rfl rfl rfl (Nat.le_of_ble_eq_true rfl) dX3_init_9 (fun H locs hW => ?_)
  refine lv_aload_n hx hb dX3_init_12 rfl (lv_at hl 0 rfl) ?_
  refine lv_iconst (v := 0) hx hb dX3_init_13 (by decide) ?_
  refine ce_put C0 hW (k := h) (ci := 3) (fs := [.ref (g.2.2.1 + (h + 1)), .int 0]) (by omega) (by simp [va_up, hE] <;> omega) rfl inG3 tyX3 tyX3_ok nmX3 1 (by decide) wd11 rfl rfl (ty := .int) rfl rfl rfl (Nat.le_of_ble_eq_true rfl) dX3_init_14 (fun H locs hW => ?_)
  refine ce_sz (n0 := h + 1) (n := h + 2) (k := h + 1) hs0 rfl hW rfl (fun hsz => ?_)
  exact ce_ret (E := eX3 g E h) (n := h + 2) C0 hW hsz (Nat.le_of_ble_eq_true rfl) (Nat.le_of_ble_eq_true rfl) dX3_init_17
def eX6 (g : Gam) (E : Nat → va_E) (h : Nat) : Nat → va_E := va_up (va_up (va_up (va_up (va_up (va_up (va_up (va_up (va_up (E) (h + 1) (.inl (g.2.1 10, (128, .inl (fun _ => 0))))) h (.inr (6, ([.null, .null, .null, .null, .int 0] : List Value).set 0 (.ref (g.2.2.1 + (h + 1)))))) (h + 2) (.inl (g.2.1 10, (2, .inl (fun _ => 0))))) h (.inr (6, ([.ref (g.2.2.1 + (h + 1)), .null, .null, .null, .int 0] : List Value).set 1 (.ref (g.2.2.1 + (h + 2)))))) (h + 3) (.inl (g.2.1 12, 6, .inr (.inr (.inr (.inr (fun _ => none))))))) h (.inr (6, ([.ref (g.2.2.1 + (h + 1)), .ref (g.2.2.1 + (h + 2)), .null, .null, .int 0] : List Value).set 2 (.ref (g.2.2.1 + (h + 3)))))) (h + 4) (.inl (g.2.1 12, 2, .inr (.inr (.inr (.inr (fun _ => none))))))) h (.inr (6, ([.ref (g.2.2.1 + (h + 1)), .ref (g.2.2.1 + (h + 2)), .ref (g.2.2.1 + (h + 3)), .null, .int 0] : List Value).set 3 (.ref (g.2.2.1 + (h + 4)))))) h (.inr (6, ([.ref (g.2.2.1 + (h + 1)), .ref (g.2.2.1 + (h + 2)), .ref (g.2.2.1 + (h + 3)), .ref (g.2.2.1 + (h + 4)), .int 0] : List Value).set 4 (.int 0)))
abbrev rmX6_init : Room := { frames := 1, cells := 4, slots := 138, locals := 20 }
set_option maxHeartbeats 4000000 in
set_option maxRecDepth 100000 in
theorem c_X6_init {l : Launch} {g : Gam} {E : Nat → va_E} {h : Nat} (hE : E h = .inr (6, [.null, .null, .null, .null, .int 0])) : Met l yX6_init (Cond.code yX6_init cX6_init 1 none :: GT) rmX6_init (va_Pc [.ref (g.2.2.1 + h)] (PE g E (h + 1))) (QE g (eX6 g E h) (h + 5)) 4 138 (AA g) := by
  refine ce_ofW (lv0 := [(0, .ref (g.2.2.1 + h))]) (by decide) (Nat.le_of_ble_eq_true rfl) rfl (fun p0 e s m args below meth c ls C0 hname hs0 hl hW => ?_)
  have C0 : CX g p0 s m args meth c RX6 cX6_init 1 none := C0
  have hx := C0.1; have hb := C0.2.1; have hown := C0.2.2.2.2.1; have hts := C0.2.2.2.2.2.1; have hKS := C0.2.2.2.2.2.2.1
  obtain ⟨H, hH⟩ : ∃ H, H = s.heap := ⟨_, rfl⟩
  obtain ⟨locs, hlc⟩ : ∃ q : List Loc, q = [] := ⟨_, rfl⟩
  rw [show W p0 l e rmX6_init s m args below meth c s.heap [] 0 0 (MQ below (QE g (eX6 g E h) (h + 5)) args s 4 138 (AA g)) (F0 m 0 ls []) = W p0 l e rmX6_init s m args below meth c H locs 0 0 (MQ below (QE g (eX6 g E h) (h + 5)) args s 4 138 (AA g)) (F0 m 0 ls []) by rw [hH, hlc]]
  have hW : WE g E (h + 1) s.heap H locs := by rw [hH, hlc]; exact hW
  refine lv_aload_n hx hb dX6_init_0 rfl (lv_at hl 0 rfl) ?_
  refine aw_objI (rest := []) C0 hl.1 wc1 wd24 wd25 (Nat.le_of_ble_eq_true rfl) (Nat.le_of_ble_eq_true rfl) dX6_init_1 ?_
  refine lv_aload_n hx hb dX6_init_4 rfl (lv_at hl 0 rfl) ?_
  refine lv_sipush (v := 128) hx hb dX6_init_5 (by decide) ?_
  refine ce_sz (n0 := h + 1) (n := h + 1) (k := h + 0) hs0 rfl hW rfl (fun hsz => ?_)
  refine ce_newA (n := h + 1) (atype := .int) (q := 10) (j := 1) (N := 128) (pay := (128, .inl (fun _ => 0))) C0 hW hsz rfl wd26 (by decide) (by decide) (Nat.le_of_ble_eq_true rfl) (fun _ h => h) (fun _ => rfl) (Nat.le_of_ble_eq_true rfl) (Nat.le_of_ble_eq_true rfl) dX6_init_8 (fun H hW => ?_)
  have hW : WE g _ (h + 2) s.heap H locs := hW
  refine ce_putF C0 hname hW (k := h) (ci := 6) (fs := [.null, .null, .null, .null, .int 0]) (by omega) (by simp [va_up, hE] <;> omega) rfl inG6 tyX6 tyX6_ok nmX6 0 (by decide) wd39 rfl rfl rfl (ty := .array (.int)) rfl rfl rfl (Nat.le_of_ble_eq_true rfl) dX6_init_10 (fun H locs hW => ?_)
  refine lv_aload_n hx hb dX6_init_13 rfl (lv_at hl 0 rfl) ?_
  refine lv_iconst (v := 2) hx hb dX6_init_14 (by decide) ?_
  refine ce_sz (n0 := h + 1) (n := h + 2) (k := h + 1) hs0 rfl hW rfl (fun hsz => ?_)
  refine ce_newA (n := h + 2) (atype := .int) (q := 10) (j := 1) (N := 2) (pay := (2, .inl (fun _ => 0))) C0 hW hsz rfl wd26 (by decide) (by decide) (Nat.le_of_ble_eq_true rfl) (fun _ h => h) (fun _ => rfl) (Nat.le_of_ble_eq_true rfl) (Nat.le_of_ble_eq_true rfl) dX6_init_15 (fun H hW => ?_)
  have hW : WE g _ (h + 3) s.heap H locs := hW
  refine ce_putF C0 hname hW (k := h) (ci := 6) (fs := [.ref (g.2.2.1 + (h + 1)), .null, .null, .null, .int 0]) (by omega) (by simp [va_up, hE] <;> omega) rfl inG6 tyX6 tyX6_ok nmX6 1 (by decide) wd41 rfl rfl rfl (ty := .array (.int)) rfl rfl rfl (Nat.le_of_ble_eq_true rfl) dX6_init_17 (fun H locs hW => ?_)
  refine lv_aload_n hx hb dX6_init_20 rfl (lv_at hl 0 rfl) ?_
  refine lv_bipush (v := 6) hx hb dX6_init_21 (by decide) ?_
  refine ce_sz (n0 := h + 1) (n := h + 3) (k := h + 2) hs0 rfl hW rfl (fun hsz => ?_)
  refine ce_newQ (n := h + 3) (q := 12) (j := 3) (N := 6) C0 hW hsz rfl wc2 (hKS.2.2.2.1 _ (List.mem_of_getElem? (i := 0) (by decide +kernel))) (by decide) (by decide) (Nat.le_of_ble_eq_true rfl) (Nat.le_of_ble_eq_true rfl) (Nat.le_of_ble_eq_true rfl) dX6_init_23 (fun H hW => ?_)
  have hW : WE g _ (h + 4) s.heap H locs := hW
  refine ce_putF C0 hname hW (k := h) (ci := 6) (fs := [.ref (g.2.2.1 + (h + 1)), .ref (g.2.2.1 + (h + 2)), .null, .null, .int 0]) (by omega) (by simp [va_up, hE] <;> omega) rfl inG6 tyX6 tyX6_ok nmX6 2 (by decide) wd43 rfl rfl rfl (ty := .array (.object "TruthFilters$Filter")) rfl rfl rfl (Nat.le_of_ble_eq_true rfl) dX6_init_26 (fun H locs hW => ?_)
  refine lv_aload_n hx hb dX6_init_29 rfl (lv_at hl 0 rfl) ?_
  refine lv_iconst (v := 2) hx hb dX6_init_30 (by decide) ?_
  refine ce_sz (n0 := h + 1) (n := h + 4) (k := h + 3) hs0 rfl hW rfl (fun hsz => ?_)
  refine ce_newQ (n := h + 4) (q := 12) (j := 3) (N := 2) C0 hW hsz rfl wc2 (hKS.2.2.2.1 _ (List.mem_of_getElem? (i := 0) (by decide +kernel))) (by decide) (by decide) (Nat.le_of_ble_eq_true rfl) (Nat.le_of_ble_eq_true rfl) (Nat.le_of_ble_eq_true rfl) dX6_init_31 (fun H hW => ?_)
  have hW : WE g _ (h + 5) s.heap H locs := hW
  refine ce_putF C0 hname hW (k := h) (ci := 6) (fs := [.ref (g.2.2.1 + (h + 1)), .ref (g.2.2.1 + (h + 2)), .ref (g.2.2.1 + (h + 3)), .null, .int 0]) (by omega) (by simp [va_up, hE] <;> omega) rfl inG6 tyX6 tyX6_ok nmX6 3 (by decide) wd42 rfl rfl rfl (ty := .array (.object "TruthFilters$Filter")) rfl rfl rfl (Nat.le_of_ble_eq_true rfl) dX6_init_34 (fun H locs hW => ?_)
  refine lv_aload_n hx hb dX6_init_37 rfl (lv_at hl 0 rfl) ?_
  refine lv_iconst (v := 0) hx hb dX6_init_38 (by decide) ?_
  refine ce_put C0 hW (k := h) (ci := 6) (fs := [.ref (g.2.2.1 + (h + 1)), .ref (g.2.2.1 + (h + 2)), .ref (g.2.2.1 + (h + 3)), .ref (g.2.2.1 + (h + 4)), .int 0]) (by omega) (by simp [va_up, hE] <;> omega) rfl inG6 tyX6 tyX6_ok nmX6 4 (by decide) wd44 rfl rfl (ty := .int) rfl rfl rfl (Nat.le_of_ble_eq_true rfl) dX6_init_39 (fun H locs hW => ?_)
  refine ce_sz (n0 := h + 1) (n := h + 5) (k := h + 4) hs0 rfl hW rfl (fun hsz => ?_)
  exact ce_ret (E := eX6 g E h) (n := h + 5) C0 hW hsz (Nat.le_of_ble_eq_true rfl) (Nat.le_of_ble_eq_true rfl) dX6_init_42
def eX1 (g : Gam) (E : Nat → va_E) (h : Nat) : Nat → va_E := va_up (eX3 g (va_up (va_up (eX3 g (va_up (E) (h + 1) (.inr (3, [.null, .int 0]))) (h + 1)) h (.inr (1, ([.null, .null] : List Value).set 0 (.ref (g.2.2.1 + (h + 1)))))) (h + 3) (.inr (3, [.null, .int 0]))) (h + 3)) h (.inr (1, ([.ref (g.2.2.1 + (h + 1)), .null] : List Value).set 1 (.ref (g.2.2.1 + (h + 3)))))
abbrev rmX1_init : Room := { frames := 2, cells := 4, slots := 132, locals := 40 }
set_option maxHeartbeats 4000000 in
set_option maxRecDepth 100000 in
theorem c_X1_init {l : Launch} {g : Gam} {E : Nat → va_E} {h : Nat} (hE : E h = .inr (1, [.null, .null])) : Met l yX1_init (Cond.code yX1_init cX1_init 1 none :: GT) rmX1_init (va_Pc [.ref (g.2.2.1 + h)] (PE g E (h + 1))) (QE g (eX1 g E h) (h + 5)) 4 132 (AA g) := by
  refine ce_ofW (lv0 := [(0, .ref (g.2.2.1 + h))]) (by decide) (Nat.le_of_ble_eq_true rfl) rfl (fun p0 e s m args below meth c ls C0 hname hs0 hl hW => ?_)
  have C0 : CX g p0 s m args meth c RX1 cX1_init 1 none := C0
  have hx := C0.1; have hb := C0.2.1; have hown := C0.2.2.2.2.1; have hts := C0.2.2.2.2.2.1; have hKS := C0.2.2.2.2.2.2.1
  obtain ⟨H, hH⟩ : ∃ H, H = s.heap := ⟨_, rfl⟩
  obtain ⟨locs, hlc⟩ : ∃ q : List Loc, q = [] := ⟨_, rfl⟩
  rw [show W p0 l e rmX1_init s m args below meth c s.heap [] 0 0 (MQ below (QE g (eX1 g E h) (h + 5)) args s 4 132 (AA g)) (F0 m 0 ls []) = W p0 l e rmX1_init s m args below meth c H locs 0 0 (MQ below (QE g (eX1 g E h) (h + 5)) args s 4 132 (AA g)) (F0 m 0 ls []) by rw [hH, hlc]]
  have hW : WE g E (h + 1) s.heap H locs := by rw [hH, hlc]; exact hW
  refine lv_aload_n hx hb dX1_init_0 rfl (lv_at hl 0 rfl) ?_
  refine aw_objI (rest := []) C0 hl.1 wc3 wd24 wd25 (Nat.le_of_ble_eq_true rfl) (Nat.le_of_ble_eq_true rfl) dX1_init_1 ?_
  refine lv_aload_n hx hb dX1_init_4 rfl (lv_at hl 0 rfl) ?_
  refine ce_sz (n0 := h + 1) (n := h + 1) (k := h + 0) hs0 rfl hW rfl (fun hsz => ?_)
  refine ce_new (n := h + 1) C0 hW hsz (ci := 3) rfl wc4 wc5 wd142 inG3 tyX3 tyX3_ok [.null, .int 0] (fun j hj => by rcases (show j = 0 ∨ j = 1 by omega) with rfl | rfl <;> rfl) (Nat.le_of_ble_eq_true rfl) (Nat.le_of_ble_eq_true rfl) dX1_init_5 (fun H hW => ?_)
  have hW : WE g _ (h + 2) s.heap H locs := hW
  refine lv_dup hx hb dX1_init_8 rfl ?_
  refine ce_sz (n0 := h + 1) (n := h + 2) (k := h + 1) hs0 rfl hW rfl (fun hsz => ?_)
  refine ce_cIN (rest := [.ref (g.2.2.1 + (h + 1)), .ref (g.2.2.1 + h)]) (n := h + 2) C0 hW hsz (c_X3_init (h := (h + 1)) (by simp [va_up, hE] <;> omega)) ⟨va_cnB 0 hts (GT_code wc6) rfl rfl rfl (hKS.2.2.1 (RX1, 9, yX3_init, RX8) (List.mem_of_getElem? (i := 2) (by decide +kernel))) (hts _ wd142) ⟨by decide +kernel, by decide +kernel, by decide +kernel⟩ ⟨Nat.le_of_ble_eq_true rfl, Nat.le_of_ble_eq_true rfl⟩, rfl, hts _ wc7⟩ rfl hl.1 rfl (Nat.le_of_ble_eq_true rfl) ⟨Nat.le_of_ble_eq_true rfl, Nat.le_of_ble_eq_true rfl⟩ dX1_init_9 (fun H locs hW => ?_)
  have hW : WE g _ (h + 3) s.heap H locs := hW
  refine ce_putF C0 hname hW (k := h) (ci := 1) (fs := [.null, .null]) (by omega) (by simp [va_up, eX3, hE] <;> omega) rfl inG1 tyX1 tyX1_ok nmX1 0 (by decide) wd12 rfl rfl rfl (ty := .object "TruthFilters$Pile") rfl rfl rfl (Nat.le_of_ble_eq_true rfl) dX1_init_12 (fun H locs hW => ?_)
  refine lv_aload_n hx hb dX1_init_15 rfl (lv_at hl 0 rfl) ?_
  refine ce_sz (n0 := h + 1) (n := h + 3) (k := h + 2) hs0 rfl hW rfl (fun hsz => ?_)
  refine ce_new (n := h + 3) C0 hW hsz (ci := 3) rfl wc4 wc5 wd142 inG3 tyX3 tyX3_ok [.null, .int 0] (fun j hj => by rcases (show j = 0 ∨ j = 1 by omega) with rfl | rfl <;> rfl) (Nat.le_of_ble_eq_true rfl) (Nat.le_of_ble_eq_true rfl) dX1_init_16 (fun H hW => ?_)
  have hW : WE g _ (h + 4) s.heap H locs := hW
  refine lv_dup hx hb dX1_init_19 rfl ?_
  refine ce_sz (n0 := h + 1) (n := h + 4) (k := h + 3) hs0 rfl hW rfl (fun hsz => ?_)
  refine ce_cIN (rest := [.ref (g.2.2.1 + (h + 3)), .ref (g.2.2.1 + h)]) (n := h + 4) C0 hW hsz (c_X3_init (h := (h + 3)) (by simp [va_up, eX3, hE] <;> omega)) ⟨va_cnB 0 hts (GT_code wc6) rfl rfl rfl (hKS.2.2.1 (RX1, 9, yX3_init, RX8) (List.mem_of_getElem? (i := 2) (by decide +kernel))) (hts _ wd142) ⟨by decide +kernel, by decide +kernel, by decide +kernel⟩ ⟨Nat.le_of_ble_eq_true rfl, Nat.le_of_ble_eq_true rfl⟩, rfl, hts _ wc7⟩ rfl hl.1 rfl (Nat.le_of_ble_eq_true rfl) ⟨Nat.le_of_ble_eq_true rfl, Nat.le_of_ble_eq_true rfl⟩ dX1_init_20 (fun H locs hW => ?_)
  have hW : WE g _ (h + 5) s.heap H locs := hW
  refine ce_putF C0 hname hW (k := h) (ci := 1) (fs := [.ref (g.2.2.1 + (h + 1)), .null]) (by omega) (by simp [va_up, eX3, hE] <;> omega) rfl inG1 tyX1 tyX1_ok nmX1 1 (by decide) wd13 rfl rfl rfl (ty := .object "TruthFilters$Pile") rfl rfl rfl (Nat.le_of_ble_eq_true rfl) dX1_init_23 (fun H locs hW => ?_)
  refine ce_sz (n0 := h + 1) (n := h + 5) (k := h + 4) hs0 rfl hW rfl (fun hsz => ?_)
  exact ce_ret (E := eX1 g E h) (n := h + 5) C0 hW hsz (Nat.le_of_ble_eq_true rfl) (Nat.le_of_ble_eq_true rfl) dX1_init_26
def eX0 (g : Gam) (E : Nat → va_E) (h : Nat) : Nat → va_E := va_up (va_up (va_up (va_up (va_up (E) (h + 1) (.inl (g.2.1 11, (100, .inl (fun _ => 0))))) h (.inr (0, ([.null, .null, .int 0] : List Value).set 0 (.ref (g.2.2.1 + (h + 1)))))) (h + 2) (.inl (g.2.1 10, (100, .inl (fun _ => 0))))) h (.inr (0, ([.ref (g.2.2.1 + (h + 1)), .null, .int 0] : List Value).set 1 (.ref (g.2.2.1 + (h + 2)))))) h (.inr (0, ([.ref (g.2.2.1 + (h + 1)), .ref (g.2.2.1 + (h + 2)), .int 0] : List Value).set 2 (.int 0)))
abbrev rmX0_init : Room := { frames := 1, cells := 2, slots := 200, locals := 20 }
set_option maxHeartbeats 4000000 in
set_option maxRecDepth 100000 in
theorem c_X0_init {l : Launch} {g : Gam} {E : Nat → va_E} {h : Nat} (hE : E h = .inr (0, [.null, .null, .int 0])) : Met l yX0_init (Cond.code yX0_init cX0_init 1 none :: GT) rmX0_init (va_Pc [.ref (g.2.2.1 + h)] (PE g E (h + 1))) (QE g (eX0 g E h) (h + 3)) 2 200 (AA g) := by
  refine ce_ofW (lv0 := [(0, .ref (g.2.2.1 + h))]) (by decide) (Nat.le_of_ble_eq_true rfl) rfl (fun p0 e s m args below meth c ls C0 hname hs0 hl hW => ?_)
  have C0 : CX g p0 s m args meth c RX0 cX0_init 1 none := C0
  have hx := C0.1; have hb := C0.2.1; have hown := C0.2.2.2.2.1; have hts := C0.2.2.2.2.2.1; have hKS := C0.2.2.2.2.2.2.1
  obtain ⟨H, hH⟩ : ∃ H, H = s.heap := ⟨_, rfl⟩
  obtain ⟨locs, hlc⟩ : ∃ q : List Loc, q = [] := ⟨_, rfl⟩
  rw [show W p0 l e rmX0_init s m args below meth c s.heap [] 0 0 (MQ below (QE g (eX0 g E h) (h + 3)) args s 2 200 (AA g)) (F0 m 0 ls []) = W p0 l e rmX0_init s m args below meth c H locs 0 0 (MQ below (QE g (eX0 g E h) (h + 3)) args s 2 200 (AA g)) (F0 m 0 ls []) by rw [hH, hlc]]
  have hW : WE g E (h + 1) s.heap H locs := by rw [hH, hlc]; exact hW
  refine lv_aload_n hx hb dX0_init_0 rfl (lv_at hl 0 rfl) ?_
  refine aw_objI (rest := []) C0 hl.1 wc8 wd24 wd25 (Nat.le_of_ble_eq_true rfl) (Nat.le_of_ble_eq_true rfl) dX0_init_1 ?_
  refine lv_aload_n hx hb dX0_init_4 rfl (lv_at hl 0 rfl) ?_
  refine lv_bipush (v := 100) hx hb dX0_init_5 (by decide) ?_
  refine ce_sz (n0 := h + 1) (n := h + 1) (k := h + 0) hs0 rfl hW rfl (fun hsz => ?_)
  refine ce_newA (n := h + 1) (atype := .boolean) (q := 11) (j := 2) (N := 100) (pay := (100, .inl (fun _ => 0))) C0 hW hsz rfl wc9 (by decide) (by decide) (Nat.le_of_ble_eq_true rfl) (fun _ h => h) (fun _ => rfl) (Nat.le_of_ble_eq_true rfl) (Nat.le_of_ble_eq_true rfl) dX0_init_7 (fun H hW => ?_)
  have hW : WE g _ (h + 2) s.heap H locs := hW
  refine ce_putF C0 hname hW (k := h) (ci := 0) (fs := [.null, .null, .int 0]) (by omega) (by simp [va_up, hE] <;> omega) rfl inG0 tyX0 tyX0_ok nmX0 0 (by decide) wd7 rfl rfl rfl (ty := .array (.boolean)) rfl rfl rfl (Nat.le_of_ble_eq_true rfl) dX0_init_9 (fun H locs hW => ?_)
  refine lv_aload_n hx hb dX0_init_12 rfl (lv_at hl 0 rfl) ?_
  refine lv_bipush (v := 100) hx hb dX0_init_13 (by decide) ?_
  refine ce_sz (n0 := h + 1) (n := h + 2) (k := h + 1) hs0 rfl hW rfl (fun hsz => ?_)
  refine ce_newA (n := h + 2) (atype := .int) (q := 10) (j := 1) (N := 100) (pay := (100, .inl (fun _ => 0))) C0 hW hsz rfl wd26 (by decide) (by decide) (Nat.le_of_ble_eq_true rfl) (fun _ h => h) (fun _ => rfl) (Nat.le_of_ble_eq_true rfl) (Nat.le_of_ble_eq_true rfl) dX0_init_15 (fun H hW => ?_)
  have hW : WE g _ (h + 3) s.heap H locs := hW
  refine ce_putF C0 hname hW (k := h) (ci := 0) (fs := [.ref (g.2.2.1 + (h + 1)), .null, .int 0]) (by omega) (by simp [va_up, hE] <;> omega) rfl inG0 tyX0 tyX0_ok nmX0 1 (by decide) wd10 rfl rfl rfl (ty := .array (.int)) rfl rfl rfl (Nat.le_of_ble_eq_true rfl) dX0_init_17 (fun H locs hW => ?_)
  refine lv_aload_n hx hb dX0_init_20 rfl (lv_at hl 0 rfl) ?_
  refine lv_iconst (v := 0) hx hb dX0_init_21 (by decide) ?_
  refine ce_put C0 hW (k := h) (ci := 0) (fs := [.ref (g.2.2.1 + (h + 1)), .ref (g.2.2.1 + (h + 2)), .int 0]) (by omega) (by simp [va_up, hE] <;> omega) rfl inG0 tyX0 tyX0_ok nmX0 2 (by decide) wd9 rfl rfl (ty := .int) rfl rfl rfl (Nat.le_of_ble_eq_true rfl) dX0_init_22 (fun H locs hW => ?_)
  refine ce_sz (n0 := h + 1) (n := h + 3) (k := h + 2) hs0 rfl hW rfl (fun hsz => ?_)
  exact ce_ret (E := eX0 g E h) (n := h + 3) C0 hW hsz (Nat.le_of_ble_eq_true rfl) (Nat.le_of_ble_eq_true rfl) dX0_init_25
def eX4 (g : Gam) (E : Nat → va_E) (h : Nat) : Nat → va_E := va_up (va_up (va_up (va_up (va_up (va_up (eX3 g (va_up (va_up (eX3 g (va_up (E) (h + 1) (.inr (3, [.null, .int 0]))) (h + 1)) h (.inr (4, ([.null, .null, .int 0, .int 0, .int 0, .int 0, .int 0] : List Value).set 0 (.ref (g.2.2.1 + (h + 1)))))) (h + 3) (.inr (3, [.null, .int 0]))) (h + 3)) h (.inr (4, ([.ref (g.2.2.1 + (h + 1)), .null, .int 0, .int 0, .int 0, .int 0, .int 0] : List Value).set 1 (.ref (g.2.2.1 + (h + 3)))))) h (.inr (4, ([.ref (g.2.2.1 + (h + 1)), .ref (g.2.2.1 + (h + 3)), .int 0, .int 0, .int 0, .int 0, .int 0] : List Value).set 2 (.int 0)))) h (.inr (4, ([.ref (g.2.2.1 + (h + 1)), .ref (g.2.2.1 + (h + 3)), .int 0, .int 0, .int 0, .int 0, .int 0] : List Value).set 3 (.int 0)))) h (.inr (4, ([.ref (g.2.2.1 + (h + 1)), .ref (g.2.2.1 + (h + 3)), .int 0, .int 0, .int 0, .int 0, .int 0] : List Value).set 4 (.int 0)))) h (.inr (4, ([.ref (g.2.2.1 + (h + 1)), .ref (g.2.2.1 + (h + 3)), .int 0, .int 0, .int 0, .int 0, .int 0] : List Value).set 5 (.int 61)))) h (.inr (4, ([.ref (g.2.2.1 + (h + 1)), .ref (g.2.2.1 + (h + 3)), .int 0, .int 0, .int 0, .int 61, .int 0] : List Value).set 6 (.int 0)))
abbrev rmX4_init : Room := { frames := 2, cells := 4, slots := 132, locals := 40 }
set_option maxHeartbeats 4000000 in
set_option maxRecDepth 100000 in
theorem c_X4_init {l : Launch} {g : Gam} {E : Nat → va_E} {h : Nat} (hE : E h = .inr (4, [.null, .null, .int 0, .int 0, .int 0, .int 0, .int 0])) : Met l yX4_init (Cond.code yX4_init cX4_init 1 none :: GT) rmX4_init (va_Pc [.ref (g.2.2.1 + h)] (PE g E (h + 1))) (QE g (eX4 g E h) (h + 5)) 4 132 (AA g) := by
  refine ce_ofW (lv0 := [(0, .ref (g.2.2.1 + h))]) (by decide) (Nat.le_of_ble_eq_true rfl) rfl (fun p0 e s m args below meth c ls C0 hname hs0 hl hW => ?_)
  have C0 : CX g p0 s m args meth c RX4 cX4_init 1 none := C0
  have hx := C0.1; have hb := C0.2.1; have hown := C0.2.2.2.2.1; have hts := C0.2.2.2.2.2.1; have hKS := C0.2.2.2.2.2.2.1
  obtain ⟨H, hH⟩ : ∃ H, H = s.heap := ⟨_, rfl⟩
  obtain ⟨locs, hlc⟩ : ∃ q : List Loc, q = [] := ⟨_, rfl⟩
  rw [show W p0 l e rmX4_init s m args below meth c s.heap [] 0 0 (MQ below (QE g (eX4 g E h) (h + 5)) args s 4 132 (AA g)) (F0 m 0 ls []) = W p0 l e rmX4_init s m args below meth c H locs 0 0 (MQ below (QE g (eX4 g E h) (h + 5)) args s 4 132 (AA g)) (F0 m 0 ls []) by rw [hH, hlc]]
  have hW : WE g E (h + 1) s.heap H locs := by rw [hH, hlc]; exact hW
  refine lv_aload_n hx hb dX4_init_0 rfl (lv_at hl 0 rfl) ?_
  refine aw_objI (rest := []) C0 hl.1 wc10 wd24 wd25 (Nat.le_of_ble_eq_true rfl) (Nat.le_of_ble_eq_true rfl) dX4_init_1 ?_
  refine lv_aload_n hx hb dX4_init_4 rfl (lv_at hl 0 rfl) ?_
  refine ce_sz (n0 := h + 1) (n := h + 1) (k := h + 0) hs0 rfl hW rfl (fun hsz => ?_)
  refine ce_new (n := h + 1) C0 hW hsz (ci := 3) rfl wc11 wc5 wd142 inG3 tyX3 tyX3_ok [.null, .int 0] (fun j hj => by rcases (show j = 0 ∨ j = 1 by omega) with rfl | rfl <;> rfl) (Nat.le_of_ble_eq_true rfl) (Nat.le_of_ble_eq_true rfl) dX4_init_5 (fun H hW => ?_)
  have hW : WE g _ (h + 2) s.heap H locs := hW
  refine lv_dup hx hb dX4_init_8 rfl ?_
  refine ce_sz (n0 := h + 1) (n := h + 2) (k := h + 1) hs0 rfl hW rfl (fun hsz => ?_)
  refine ce_cIN (rest := [.ref (g.2.2.1 + (h + 1)), .ref (g.2.2.1 + h)]) (n := h + 2) C0 hW hsz (c_X3_init (h := (h + 1)) (by simp [va_up, hE] <;> omega)) ⟨va_cnB 0 hts (GT_code wc6) rfl rfl rfl (hKS.2.2.1 (RX4, 9, yX3_init, RX8) (List.mem_of_getElem? (i := 5) (by decide +kernel))) (hts _ wd142) ⟨by decide +kernel, by decide +kernel, by decide +kernel⟩ ⟨Nat.le_of_ble_eq_true rfl, Nat.le_of_ble_eq_true rfl⟩, rfl, hts _ wc7⟩ rfl hl.1 rfl (Nat.le_of_ble_eq_true rfl) ⟨Nat.le_of_ble_eq_true rfl, Nat.le_of_ble_eq_true rfl⟩ dX4_init_9 (fun H locs hW => ?_)
  have hW : WE g _ (h + 3) s.heap H locs := hW
  refine ce_putF C0 hname hW (k := h) (ci := 4) (fs := [.null, .null, .int 0, .int 0, .int 0, .int 0, .int 0]) (by omega) (by simp [va_up, eX3, hE] <;> omega) rfl inG4 tyX4 tyX4_ok nmX4 0 (by decide) wd28 rfl rfl rfl (ty := .object "TruthFilters$Pile") rfl rfl rfl (Nat.le_of_ble_eq_true rfl) dX4_init_12 (fun H locs hW => ?_)
  refine lv_aload_n hx hb dX4_init_15 rfl (lv_at hl 0 rfl) ?_
  refine ce_sz (n0 := h + 1) (n := h + 3) (k := h + 2) hs0 rfl hW rfl (fun hsz => ?_)
  refine ce_new (n := h + 3) C0 hW hsz (ci := 3) rfl wc11 wc5 wd142 inG3 tyX3 tyX3_ok [.null, .int 0] (fun j hj => by rcases (show j = 0 ∨ j = 1 by omega) with rfl | rfl <;> rfl) (Nat.le_of_ble_eq_true rfl) (Nat.le_of_ble_eq_true rfl) dX4_init_16 (fun H hW => ?_)
  have hW : WE g _ (h + 4) s.heap H locs := hW
  refine lv_dup hx hb dX4_init_19 rfl ?_
  refine ce_sz (n0 := h + 1) (n := h + 4) (k := h + 3) hs0 rfl hW rfl (fun hsz => ?_)
  refine ce_cIN (rest := [.ref (g.2.2.1 + (h + 3)), .ref (g.2.2.1 + h)]) (n := h + 4) C0 hW hsz (c_X3_init (h := (h + 3)) (by simp [va_up, eX3, hE] <;> omega)) ⟨va_cnB 0 hts (GT_code wc6) rfl rfl rfl (hKS.2.2.1 (RX4, 9, yX3_init, RX8) (List.mem_of_getElem? (i := 5) (by decide +kernel))) (hts _ wd142) ⟨by decide +kernel, by decide +kernel, by decide +kernel⟩ ⟨Nat.le_of_ble_eq_true rfl, Nat.le_of_ble_eq_true rfl⟩, rfl, hts _ wc7⟩ rfl hl.1 rfl (Nat.le_of_ble_eq_true rfl) ⟨Nat.le_of_ble_eq_true rfl, Nat.le_of_ble_eq_true rfl⟩ dX4_init_20 (fun H locs hW => ?_)
  have hW : WE g _ (h + 5) s.heap H locs := hW
  refine ce_putF C0 hname hW (k := h) (ci := 4) (fs := [.ref (g.2.2.1 + (h + 1)), .null, .int 0, .int 0, .int 0, .int 0, .int 0]) (by omega) (by simp [va_up, eX3, hE] <;> omega) rfl inG4 tyX4 tyX4_ok nmX4 1 (by decide) wd33 rfl rfl rfl (ty := .object "TruthFilters$Pile") rfl rfl rfl (Nat.le_of_ble_eq_true rfl) dX4_init_23 (fun H locs hW => ?_)
  refine lv_aload_n hx hb dX4_init_26 rfl (lv_at hl 0 rfl) ?_
  refine lv_iconst (v := 0) hx hb dX4_init_27 (by decide) ?_
  refine ce_put C0 hW (k := h) (ci := 4) (fs := [.ref (g.2.2.1 + (h + 1)), .ref (g.2.2.1 + (h + 3)), .int 0, .int 0, .int 0, .int 0, .int 0]) (by omega) (by simp [va_up, eX3, hE] <;> omega) rfl inG4 tyX4 tyX4_ok nmX4 2 (by decide) wd30 rfl rfl (ty := .int) rfl rfl rfl (Nat.le_of_ble_eq_true rfl) dX4_init_28 (fun H locs hW => ?_)
  refine lv_aload_n hx hb dX4_init_31 rfl (lv_at hl 0 rfl) ?_
  refine lv_iconst (v := 0) hx hb dX4_init_32 (by decide) ?_
  refine ce_put C0 hW (k := h) (ci := 4) (fs := [.ref (g.2.2.1 + (h + 1)), .ref (g.2.2.1 + (h + 3)), .int 0, .int 0, .int 0, .int 0, .int 0]) (by omega) (by simp [va_up, eX3, hE] <;> omega) rfl inG4 tyX4 tyX4_ok nmX4 3 (by decide) wd34 rfl rfl (ty := .int) rfl rfl rfl (Nat.le_of_ble_eq_true rfl) dX4_init_33 (fun H locs hW => ?_)
  refine lv_aload_n hx hb dX4_init_36 rfl (lv_at hl 0 rfl) ?_
  refine lv_iconst (v := 0) hx hb dX4_init_37 (by decide) ?_
  refine ce_put C0 hW (k := h) (ci := 4) (fs := [.ref (g.2.2.1 + (h + 1)), .ref (g.2.2.1 + (h + 3)), .int 0, .int 0, .int 0, .int 0, .int 0]) (by omega) (by simp [va_up, eX3, hE] <;> omega) rfl inG4 tyX4 tyX4_ok nmX4 4 (by decide) wd29 rfl rfl (ty := .int) rfl rfl rfl (Nat.le_of_ble_eq_true rfl) dX4_init_38 (fun H locs hW => ?_)
  refine lv_aload_n hx hb dX4_init_41 rfl (lv_at hl 0 rfl) ?_
  refine lv_bipush (v := 61) hx hb dX4_init_42 (by decide) ?_
  refine ce_put C0 hW (k := h) (ci := 4) (fs := [.ref (g.2.2.1 + (h + 1)), .ref (g.2.2.1 + (h + 3)), .int 0, .int 0, .int 0, .int 0, .int 0]) (by omega) (by simp [va_up, eX3, hE] <;> omega) rfl inG4 tyX4 tyX4_ok nmX4 5 (by decide) wd31 rfl rfl (ty := .char) rfl rfl rfl (Nat.le_of_ble_eq_true rfl) dX4_init_44 (fun H locs hW => ?_)
  refine lv_aload_n hx hb dX4_init_47 rfl (lv_at hl 0 rfl) ?_
  refine lv_iconst (v := 0) hx hb dX4_init_48 (by decide) ?_
  refine ce_put C0 hW (k := h) (ci := 4) (fs := [.ref (g.2.2.1 + (h + 1)), .ref (g.2.2.1 + (h + 3)), .int 0, .int 0, .int 0, .int 61, .int 0]) (by omega) (by simp [va_up, eX3, hE] <;> omega) rfl inG4 tyX4 tyX4_ok nmX4 6 (by decide) wd32 rfl rfl (ty := .int) rfl rfl rfl (Nat.le_of_ble_eq_true rfl) dX4_init_49 (fun H locs hW => ?_)
  refine ce_sz (n0 := h + 1) (n := h + 5) (k := h + 4) hs0 rfl hW rfl (fun hsz => ?_)
  exact ce_ret (E := eX4 g E h) (n := h + 5) C0 hW hsz (Nat.le_of_ble_eq_true rfl) (Nat.le_of_ble_eq_true rfl) dX4_init_52
def eX5 (g : Gam) (E : Nat → va_E) (h : Nat) : Nat → va_E := va_up (va_up (eX3 g (va_up (va_up (eX3 g (va_up (va_up (va_up (E) (h + 1) (.inl (g.2.1 9, (160, .inl (fun _ => 0))))) h (.inr (5, ([.null, .null, .null, .int 0] : List Value).set 0 (.ref (g.2.2.1 + (h + 1)))))) (h + 2) (.inr (3, [.null, .int 0]))) (h + 2)) h (.inr (5, ([.ref (g.2.2.1 + (h + 1)), .null, .null, .int 0] : List Value).set 1 (.ref (g.2.2.1 + (h + 2)))))) (h + 4) (.inr (3, [.null, .int 0]))) (h + 4)) h (.inr (5, ([.ref (g.2.2.1 + (h + 1)), .ref (g.2.2.1 + (h + 2)), .null, .int 0] : List Value).set 2 (.ref (g.2.2.1 + (h + 4)))))) h (.inr (5, ([.ref (g.2.2.1 + (h + 1)), .ref (g.2.2.1 + (h + 2)), .ref (g.2.2.1 + (h + 4)), .int 0] : List Value).set 3 (.int 0)))
abbrev rmX5_init : Room := { frames := 2, cells := 5, slots := 292, locals := 40 }
set_option maxHeartbeats 4000000 in
set_option maxRecDepth 100000 in
theorem c_X5_init {l : Launch} {g : Gam} {E : Nat → va_E} {h : Nat} (hE : E h = .inr (5, [.null, .null, .null, .int 0])) : Met l yX5_init (Cond.code yX5_init cX5_init 1 none :: GT) rmX5_init (va_Pc [.ref (g.2.2.1 + h)] (PE g E (h + 1))) (QE g (eX5 g E h) (h + 6)) 5 292 (AA g) := by
  refine ce_ofW (lv0 := [(0, .ref (g.2.2.1 + h))]) (by decide) (Nat.le_of_ble_eq_true rfl) rfl (fun p0 e s m args below meth c ls C0 hname hs0 hl hW => ?_)
  have C0 : CX g p0 s m args meth c RX5 cX5_init 1 none := C0
  have hx := C0.1; have hb := C0.2.1; have hown := C0.2.2.2.2.1; have hts := C0.2.2.2.2.2.1; have hKS := C0.2.2.2.2.2.2.1
  obtain ⟨H, hH⟩ : ∃ H, H = s.heap := ⟨_, rfl⟩
  obtain ⟨locs, hlc⟩ : ∃ q : List Loc, q = [] := ⟨_, rfl⟩
  rw [show W p0 l e rmX5_init s m args below meth c s.heap [] 0 0 (MQ below (QE g (eX5 g E h) (h + 6)) args s 5 292 (AA g)) (F0 m 0 ls []) = W p0 l e rmX5_init s m args below meth c H locs 0 0 (MQ below (QE g (eX5 g E h) (h + 6)) args s 5 292 (AA g)) (F0 m 0 ls []) by rw [hH, hlc]]
  have hW : WE g E (h + 1) s.heap H locs := by rw [hH, hlc]; exact hW
  refine lv_aload_n hx hb dX5_init_0 rfl (lv_at hl 0 rfl) ?_
  refine aw_objI (rest := []) C0 hl.1 wc12 wd24 wd25 (Nat.le_of_ble_eq_true rfl) (Nat.le_of_ble_eq_true rfl) dX5_init_1 ?_
  refine lv_aload_n hx hb dX5_init_4 rfl (lv_at hl 0 rfl) ?_
  refine lv_sipush (v := 160) hx hb dX5_init_5 (by decide) ?_
  refine ce_sz (n0 := h + 1) (n := h + 1) (k := h + 0) hs0 rfl hW rfl (fun hsz => ?_)
  refine ce_newA (n := h + 1) (atype := .char) (q := 9) (j := 0) (N := 160) (pay := (160, .inl (fun _ => 0))) C0 hW hsz rfl wc13 (by decide) (by decide) (Nat.le_of_ble_eq_true rfl) (fun _ h => h) (fun _ => rfl) (Nat.le_of_ble_eq_true rfl) (Nat.le_of_ble_eq_true rfl) dX5_init_8 (fun H hW => ?_)
  have hW : WE g _ (h + 2) s.heap H locs := hW
  refine ce_putF C0 hname hW (k := h) (ci := 5) (fs := [.null, .null, .null, .int 0]) (by omega) (by simp [va_up, hE] <;> omega) rfl inG5 tyX5 tyX5_ok nmX5 0 (by decide) wd36 rfl rfl rfl (ty := .array (.char)) rfl rfl rfl (Nat.le_of_ble_eq_true rfl) dX5_init_10 (fun H locs hW => ?_)
  refine lv_aload_n hx hb dX5_init_13 rfl (lv_at hl 0 rfl) ?_
  refine ce_sz (n0 := h + 1) (n := h + 2) (k := h + 1) hs0 rfl hW rfl (fun hsz => ?_)
  refine ce_new (n := h + 2) C0 hW hsz (ci := 3) rfl wc14 wc5 wd142 inG3 tyX3 tyX3_ok [.null, .int 0] (fun j hj => by rcases (show j = 0 ∨ j = 1 by omega) with rfl | rfl <;> rfl) (Nat.le_of_ble_eq_true rfl) (Nat.le_of_ble_eq_true rfl) dX5_init_14 (fun H hW => ?_)
  have hW : WE g _ (h + 3) s.heap H locs := hW
  refine lv_dup hx hb dX5_init_17 rfl ?_
  refine ce_sz (n0 := h + 1) (n := h + 3) (k := h + 2) hs0 rfl hW rfl (fun hsz => ?_)
  refine ce_cIN (rest := [.ref (g.2.2.1 + (h + 2)), .ref (g.2.2.1 + h)]) (n := h + 3) C0 hW hsz (c_X3_init (h := (h + 2)) (by simp [va_up, hE] <;> omega)) ⟨va_cnB 0 hts (GT_code wc6) rfl rfl rfl (hKS.2.2.1 (RX5, 17, yX3_init, RX8) (List.mem_of_getElem? (i := 7) (by decide +kernel))) (hts _ wd142) ⟨by decide +kernel, by decide +kernel, by decide +kernel⟩ ⟨Nat.le_of_ble_eq_true rfl, Nat.le_of_ble_eq_true rfl⟩, rfl, hts _ wc7⟩ rfl hl.1 rfl (Nat.le_of_ble_eq_true rfl) ⟨Nat.le_of_ble_eq_true rfl, Nat.le_of_ble_eq_true rfl⟩ dX5_init_18 (fun H locs hW => ?_)
  have hW : WE g _ (h + 4) s.heap H locs := hW
  refine ce_putF C0 hname hW (k := h) (ci := 5) (fs := [.ref (g.2.2.1 + (h + 1)), .null, .null, .int 0]) (by omega) (by simp [va_up, eX3, hE] <;> omega) rfl inG5 tyX5 tyX5_ok nmX5 1 (by decide) wd37 rfl rfl rfl (ty := .object "TruthFilters$Pile") rfl rfl rfl (Nat.le_of_ble_eq_true rfl) dX5_init_21 (fun H locs hW => ?_)
  refine lv_aload_n hx hb dX5_init_24 rfl (lv_at hl 0 rfl) ?_
  refine ce_sz (n0 := h + 1) (n := h + 4) (k := h + 3) hs0 rfl hW rfl (fun hsz => ?_)
  refine ce_new (n := h + 4) C0 hW hsz (ci := 3) rfl wc14 wc5 wd142 inG3 tyX3 tyX3_ok [.null, .int 0] (fun j hj => by rcases (show j = 0 ∨ j = 1 by omega) with rfl | rfl <;> rfl) (Nat.le_of_ble_eq_true rfl) (Nat.le_of_ble_eq_true rfl) dX5_init_25 (fun H hW => ?_)
  have hW : WE g _ (h + 5) s.heap H locs := hW
  refine lv_dup hx hb dX5_init_28 rfl ?_
  refine ce_sz (n0 := h + 1) (n := h + 5) (k := h + 4) hs0 rfl hW rfl (fun hsz => ?_)
  refine ce_cIN (rest := [.ref (g.2.2.1 + (h + 4)), .ref (g.2.2.1 + h)]) (n := h + 5) C0 hW hsz (c_X3_init (h := (h + 4)) (by simp [va_up, eX3, hE] <;> omega)) ⟨va_cnB 0 hts (GT_code wc6) rfl rfl rfl (hKS.2.2.1 (RX5, 17, yX3_init, RX8) (List.mem_of_getElem? (i := 7) (by decide +kernel))) (hts _ wd142) ⟨by decide +kernel, by decide +kernel, by decide +kernel⟩ ⟨Nat.le_of_ble_eq_true rfl, Nat.le_of_ble_eq_true rfl⟩, rfl, hts _ wc7⟩ rfl hl.1 rfl (Nat.le_of_ble_eq_true rfl) ⟨Nat.le_of_ble_eq_true rfl, Nat.le_of_ble_eq_true rfl⟩ dX5_init_29 (fun H locs hW => ?_)
  have hW : WE g _ (h + 6) s.heap H locs := hW
  refine ce_putF C0 hname hW (k := h) (ci := 5) (fs := [.ref (g.2.2.1 + (h + 1)), .ref (g.2.2.1 + (h + 2)), .null, .int 0]) (by omega) (by simp [va_up, eX3, hE] <;> omega) rfl inG5 tyX5 tyX5_ok nmX5 2 (by decide) wd38 rfl rfl rfl (ty := .object "TruthFilters$Pile") rfl rfl rfl (Nat.le_of_ble_eq_true rfl) dX5_init_32 (fun H locs hW => ?_)
  refine lv_aload_n hx hb dX5_init_35 rfl (lv_at hl 0 rfl) ?_
  refine lv_iconst (v := 0) hx hb dX5_init_36 (by decide) ?_
  refine ce_put C0 hW (k := h) (ci := 5) (fs := [.ref (g.2.2.1 + (h + 1)), .ref (g.2.2.1 + (h + 2)), .ref (g.2.2.1 + (h + 4)), .int 0]) (by omega) (by simp [va_up, eX3, hE] <;> omega) rfl inG5 tyX5 tyX5_ok nmX5 3 (by decide) wd35 rfl rfl (ty := .int) rfl rfl rfl (Nat.le_of_ble_eq_true rfl) dX5_init_37 (fun H locs hW => ?_)
  refine ce_sz (n0 := h + 1) (n := h + 6) (k := h + 5) hs0 rfl hW rfl (fun hsz => ?_)
  exact ce_ret (E := eX5 g E h) (n := h + 6) C0 hW hsz (Nat.le_of_ble_eq_true rfl) (Nat.le_of_ble_eq_true rfl) dX5_init_40
def eX8 (g : Gam) (E : Nat → va_E) (h : Nat) : Nat → va_E := va_up (eX6 g (va_up (va_up (eX6 g (va_up (va_up (eX6 g (va_up (va_up (eX6 g (va_up (va_up (eX6 g (va_up (va_up (eX6 g (va_up (va_up (eX6 g (va_up (va_up (eX6 g (va_up (va_up (eX5 g (va_up (va_up (eX4 g (va_up (va_up (eX0 g (va_up (va_up (eX1 g (va_up (va_up (va_up (va_up (va_up (va_up (va_up (va_up (va_up (va_up (va_up (va_up (va_up (va_up (eX6 g (va_up (E) 1 (.inr (6, [.null, .null, .null, .null, .int 0]))) 1) 0 (.inr (7, ([.null, .null, .int 0, .null, .null, .null, .int 0, .null, .null, .null, .null, .null] : List Value).set 0 (.ref (g.2.2.1 + 1))))) 6 (.inl (g.2.1 13, 6, .inr (.inr (.inr (.inr (fun _ => none))))))) 0 (.inr (7, ([.ref (g.2.2.1 + 1), .null, .int 0, .null, .null, .null, .int 0, .null, .null, .null, .null, .null] : List Value).set 1 (.ref (g.2.2.1 + 6))))) 0 (.inr (7, ([.ref (g.2.2.1 + 1), .ref (g.2.2.1 + 6), .int 0, .null, .null, .null, .int 0, .null, .null, .null, .null, .null] : List Value).set 2 (.int 0)))) 7 (.inl (g.2.1 13, 2, .inr (.inr (.inr (.inr (fun _ => none))))))) 0 (.inr (7, ([.ref (g.2.2.1 + 1), .ref (g.2.2.1 + 6), .int 0, .null, .null, .null, .int 0, .null, .null, .null, .null, .null] : List Value).set 3 (.ref (g.2.2.1 + 7))))) 8 (.inl (g.2.1 11, (2, .inl (fun _ => 0))))) 0 (.inr (7, ([.ref (g.2.2.1 + 1), .ref (g.2.2.1 + 6), .int 0, .ref (g.2.2.1 + 7), .null, .null, .int 0, .null, .null, .null, .null, .null] : List Value).set 4 (.ref (g.2.2.1 + 8))))) 9 (.inl (g.2.1 9, (60, .inl (fun _ => 0))))) 0 (.inr (7, ([.ref (g.2.2.1 + 1), .ref (g.2.2.1 + 6), .int 0, .ref (g.2.2.1 + 7), .ref (g.2.2.1 + 8), .null, .int 0, .null, .null, .null, .null, .null] : List Value).set 5 (.ref (g.2.2.1 + 9))))) 0 (.inr (7, ([.ref (g.2.2.1 + 1), .ref (g.2.2.1 + 6), .int 0, .ref (g.2.2.1 + 7), .ref (g.2.2.1 + 8), .ref (g.2.2.1 + 9), .int 0, .null, .null, .null, .null, .null] : List Value).set 6 (.int 0)))) 10 (.inl (g.2.1 10, (4, .inl (fun _ => 0))))) 0 (.inr (7, ([.ref (g.2.2.1 + 1), .ref (g.2.2.1 + 6), .int 0, .ref (g.2.2.1 + 7), .ref (g.2.2.1 + 8), .ref (g.2.2.1 + 9), .int 0, .null, .null, .null, .null, .null] : List Value).set 7 (.ref (g.2.2.1 + 10))))) 11 (.inr (1, [.null, .null]))) 11) 0 (.inr (7, ([.ref (g.2.2.1 + 1), .ref (g.2.2.1 + 6), .int 0, .ref (g.2.2.1 + 7), .ref (g.2.2.1 + 8), .ref (g.2.2.1 + 9), .int 0, .ref (g.2.2.1 + 10), .null, .null, .null, .null] : List Value).set 8 (.ref (g.2.2.1 + 11))))) 16 (.inr (0, [.null, .null, .int 0]))) 16) 0 (.inr (7, ([.ref (g.2.2.1 + 1), .ref (g.2.2.1 + 6), .int 0, .ref (g.2.2.1 + 7), .ref (g.2.2.1 + 8), .ref (g.2.2.1 + 9), .int 0, .ref (g.2.2.1 + 10), .ref (g.2.2.1 + 11), .null, .null, .null] : List Value).set 9 (.ref (g.2.2.1 + 16))))) 19 (.inr (4, [.null, .null, .int 0, .int 0, .int 0, .int 0, .int 0]))) 19) 0 (.inr (7, ([.ref (g.2.2.1 + 1), .ref (g.2.2.1 + 6), .int 0, .ref (g.2.2.1 + 7), .ref (g.2.2.1 + 8), .ref (g.2.2.1 + 9), .int 0, .ref (g.2.2.1 + 10), .ref (g.2.2.1 + 11), .ref (g.2.2.1 + 16), .null, .null] : List Value).set 10 (.ref (g.2.2.1 + 19))))) 24 (.inr (5, [.null, .null, .null, .int 0]))) 24) 0 (.inr (7, ([.ref (g.2.2.1 + 1), .ref (g.2.2.1 + 6), .int 0, .ref (g.2.2.1 + 7), .ref (g.2.2.1 + 8), .ref (g.2.2.1 + 9), .int 0, .ref (g.2.2.1 + 10), .ref (g.2.2.1 + 11), .ref (g.2.2.1 + 16), .ref (g.2.2.1 + 19), .null] : List Value).set 11 (.ref (g.2.2.1 + 24))))) 30 (.inr (6, [.null, .null, .null, .null, .int 0]))) 30) 6 (.inl (g.2.1 13, 6, .inr (.inr (.inr (.inr (va_up (fun _ => none) 0 (some (g.2.2.1 + 30))))))))) 35 (.inr (6, [.null, .null, .null, .null, .int 0]))) 35) 6 (.inl (g.2.1 13, 6, .inr (.inr (.inr (.inr (va_up (va_up (fun _ => none) 0 (some (g.2.2.1 + 30))) 1 (some (g.2.2.1 + 35))))))))) 40 (.inr (6, [.null, .null, .null, .null, .int 0]))) 40) 6 (.inl (g.2.1 13, 6, .inr (.inr (.inr (.inr (va_up (va_up (va_up (fun _ => none) 0 (some (g.2.2.1 + 30))) 1 (some (g.2.2.1 + 35))) 2 (some (g.2.2.1 + 40))))))))) 45 (.inr (6, [.null, .null, .null, .null, .int 0]))) 45) 6 (.inl (g.2.1 13, 6, .inr (.inr (.inr (.inr (va_up (va_up (va_up (va_up (fun _ => none) 0 (some (g.2.2.1 + 30))) 1 (some (g.2.2.1 + 35))) 2 (some (g.2.2.1 + 40))) 3 (some (g.2.2.1 + 45))))))))) 50 (.inr (6, [.null, .null, .null, .null, .int 0]))) 50) 6 (.inl (g.2.1 13, 6, .inr (.inr (.inr (.inr (va_up (va_up (va_up (va_up (va_up (fun _ => none) 0 (some (g.2.2.1 + 30))) 1 (some (g.2.2.1 + 35))) 2 (some (g.2.2.1 + 40))) 3 (some (g.2.2.1 + 45))) 4 (some (g.2.2.1 + 50))))))))) 55 (.inr (6, [.null, .null, .null, .null, .int 0]))) 55) 6 (.inl (g.2.1 13, 6, .inr (.inr (.inr (.inr (va_up (va_up (va_up (va_up (va_up (va_up (fun _ => none) 0 (some (g.2.2.1 + 30))) 1 (some (g.2.2.1 + 35))) 2 (some (g.2.2.1 + 40))) 3 (some (g.2.2.1 + 45))) 4 (some (g.2.2.1 + 50))) 5 (some (g.2.2.1 + 55))))))))) 60 (.inr (6, [.null, .null, .null, .null, .int 0]))) 60) 7 (.inl (g.2.1 13, 2, .inr (.inr (.inr (.inr (va_up (fun _ => none) 0 (some (g.2.2.1 + 60))))))))) 65 (.inr (6, [.null, .null, .null, .null, .int 0]))) 65) 7 (.inl (g.2.1 13, 2, .inr (.inr (.inr (.inr (va_up (va_up (fun _ => none) 0 (some (g.2.2.1 + 60))) 1 (some (g.2.2.1 + 65))))))))
abbrev rmX8_init : Room := { frames := 3, cells := 69, slots := 2133, locals := 60 }
set_option maxHeartbeats 4000000 in
set_option maxRecDepth 100000 in
theorem c_X8_init {l : Launch} {g : Gam} {E : Nat → va_E} (hE : E 0 = .inr (7, [.null, .null, .int 0, .null, .null, .null, .int 0, .null, .null, .null, .null, .null])) : Met l yX8_init (Cond.code yX8_init cX8_init 2 none :: GT) rmX8_init (va_Pc [.ref (g.2.2.1 + 0)] (PE g E (1))) (QE g (eX8 g E 0) (70)) 69 2133 (AA g) := by
  refine ce_ofW (lv0 := [(0, .ref (g.2.2.1 + 0))]) (by decide) (Nat.le_of_ble_eq_true rfl) rfl (fun p0 e s m args below meth c ls C0 hname hs0 hl hW => ?_)
  have C0 : CX g p0 s m args meth c RX8 cX8_init 2 none := C0
  have hx := C0.1; have hb := C0.2.1; have hown := C0.2.2.2.2.1; have hts := C0.2.2.2.2.2.1; have hKS := C0.2.2.2.2.2.2.1
  obtain ⟨H, hH⟩ : ∃ H, H = s.heap := ⟨_, rfl⟩
  obtain ⟨locs, hlc⟩ : ∃ q : List Loc, q = [] := ⟨_, rfl⟩
  rw [show W p0 l e rmX8_init s m args below meth c s.heap [] 0 0 (MQ below (QE g (eX8 g E 0) (70)) args s 69 2133 (AA g)) (F0 m 0 ls []) = W p0 l e rmX8_init s m args below meth c H locs 0 0 (MQ below (QE g (eX8 g E 0) (70)) args s 69 2133 (AA g)) (F0 m 0 ls []) by rw [hH, hlc]]
  have hW : WE g E (1) s.heap H locs := by rw [hH, hlc]; exact hW
  refine lv_aload_n hx hb dX8_init_0 rfl (lv_at hl 0 rfl) ?_
  refine aw_objI (rest := []) C0 hl.1 wc15 wd24 wd25 (Nat.le_of_ble_eq_true rfl) (Nat.le_of_ble_eq_true rfl) dX8_init_1 ?_
  refine lv_aload_n hx hb dX8_init_4 rfl (lv_at hl 0 rfl) ?_
  refine ce_sz (n0 := 1) (n := 1) (k := 0) hs0 rfl hW rfl (fun hsz => ?_)
  refine ce_new (n := 1) C0 hW hsz (ci := 6) rfl wc16 wc17 wd412 inG6 tyX6 tyX6_ok [.null, .null, .null, .null, .int 0] (fun j hj => by rcases (show j = 0 ∨ j = 1 ∨ j = 2 ∨ j = 3 ∨ j = 4 by omega) with rfl | rfl | rfl | rfl | rfl <;> rfl) (Nat.le_of_ble_eq_true rfl) (Nat.le_of_ble_eq_true rfl) dX8_init_5 (fun H hW => ?_)
  have hW : WE g _ (2) s.heap H locs := hW
  refine lv_dup hx hb dX8_init_8 rfl ?_
  refine ce_sz (n0 := 1) (n := 2) (k := 1) hs0 rfl hW rfl (fun hsz => ?_)
  refine ce_cIN (rest := [.ref (g.2.2.1 + 1), .ref (g.2.2.1 + 0)]) (n := 2) C0 hW hsz (c_X6_init (h := 1) (by simp [va_up, hE] <;> omega)) ⟨va_cnB 0 hts (GT_code wc18) rfl rfl rfl (hKS.2.2.1 (RX8, 9, yX6_init, RX8) (List.mem_of_getElem? (i := 0) (by decide +kernel))) (hts _ wd412) ⟨by decide +kernel, by decide +kernel, by decide +kernel⟩ ⟨Nat.le_of_ble_eq_true rfl, Nat.le_of_ble_eq_true rfl⟩, rfl, hts _ wc19⟩ rfl hl.1 rfl (Nat.le_of_ble_eq_true rfl) ⟨Nat.le_of_ble_eq_true rfl, Nat.le_of_ble_eq_true rfl⟩ dX8_init_9 (fun H locs hW => ?_)
  have hW : WE g _ (6) s.heap H locs := hW
  refine ce_putF C0 hname hW (k := 0) (ci := 7) (fs := [.null, .null, .int 0, .null, .null, .null, .int 0, .null, .null, .null, .null, .null]) (by omega) (by simp [va_up, eX6, hE] <;> omega) rfl inG7 tyX8 tyX8_ok nmX8 0 (by decide) wd50 rfl rfl rfl (ty := .object "TruthFilters$State") rfl rfl rfl (Nat.le_of_ble_eq_true rfl) dX8_init_12 (fun H locs hW => ?_)
  refine lv_aload_n hx hb dX8_init_15 rfl (lv_at hl 0 rfl) ?_
  refine lv_bipush (v := 6) hx hb dX8_init_16 (by decide) ?_
  refine ce_sz (n0 := 1) (n := 6) (k := 5) hs0 rfl hW rfl (fun hsz => ?_)
  refine ce_newQ (n := 6) (q := 13) (j := 4) (N := 6) C0 hW hsz rfl wc16 (hKS.2.2.2.1 _ (List.mem_of_getElem? (i := 1) (by decide +kernel))) (by decide) (by decide) (Nat.le_of_ble_eq_true rfl) (Nat.le_of_ble_eq_true rfl) (Nat.le_of_ble_eq_true rfl) dX8_init_18 (fun H hW => ?_)
  have hW : WE g _ (7) s.heap H locs := hW
  refine ce_putF C0 hname hW (k := 0) (ci := 7) (fs := [.ref (g.2.2.1 + 1), .null, .int 0, .null, .null, .null, .int 0, .null, .null, .null, .null, .null]) (by omega) (by simp [va_up, eX6, hE] <;> omega) rfl inG7 tyX8 tyX8_ok nmX8 1 (by decide) wd51 rfl rfl rfl (ty := .array (.object "TruthFilters$State")) rfl rfl rfl (Nat.le_of_ble_eq_true rfl) dX8_init_21 (fun H locs hW => ?_)
  refine lv_aload_n hx hb dX8_init_24 rfl (lv_at hl 0 rfl) ?_
  refine lv_iconst (v := 0) hx hb dX8_init_25 (by decide) ?_
  refine ce_put C0 hW (k := 0) (ci := 7) (fs := [.ref (g.2.2.1 + 1), .ref (g.2.2.1 + 6), .int 0, .null, .null, .null, .int 0, .null, .null, .null, .null, .null]) (by omega) (by simp [va_up, eX6, hE] <;> omega) rfl inG7 tyX8 tyX8_ok nmX8 2 (by decide) wd49 rfl rfl (ty := .int) rfl rfl rfl (Nat.le_of_ble_eq_true rfl) dX8_init_26 (fun H locs hW => ?_)
  refine lv_aload_n hx hb dX8_init_29 rfl (lv_at hl 0 rfl) ?_
  refine lv_iconst (v := 2) hx hb dX8_init_30 (by decide) ?_
  refine ce_sz (n0 := 1) (n := 7) (k := 6) hs0 rfl hW rfl (fun hsz => ?_)
  refine ce_newQ (n := 7) (q := 13) (j := 4) (N := 2) C0 hW hsz rfl wc16 (hKS.2.2.2.1 _ (List.mem_of_getElem? (i := 1) (by decide +kernel))) (by decide) (by decide) (Nat.le_of_ble_eq_true rfl) (Nat.le_of_ble_eq_true rfl) (Nat.le_of_ble_eq_true rfl) dX8_init_31 (fun H hW => ?_)
  have hW : WE g _ (8) s.heap H locs := hW
  refine ce_putF C0 hname hW (k := 0) (ci := 7) (fs := [.ref (g.2.2.1 + 1), .ref (g.2.2.1 + 6), .int 0, .null, .null, .null, .int 0, .null, .null, .null, .null, .null]) (by omega) (by simp [va_up, eX6, hE] <;> omega) rfl inG7 tyX8 tyX8_ok nmX8 3 (by decide) wd72 rfl rfl rfl (ty := .array (.object "TruthFilters$State")) rfl rfl rfl (Nat.le_of_ble_eq_true rfl) dX8_init_34 (fun H locs hW => ?_)
  refine lv_aload_n hx hb dX8_init_37 rfl (lv_at hl 0 rfl) ?_
  refine lv_iconst (v := 2) hx hb dX8_init_38 (by decide) ?_
  refine ce_sz (n0 := 1) (n := 8) (k := 7) hs0 rfl hW rfl (fun hsz => ?_)
  refine ce_newA (n := 8) (atype := .boolean) (q := 11) (j := 2) (N := 2) (pay := (2, .inl (fun _ => 0))) C0 hW hsz rfl wc9 (by decide) (by decide) (Nat.le_of_ble_eq_true rfl) (fun _ h => h) (fun _ => rfl) (Nat.le_of_ble_eq_true rfl) (Nat.le_of_ble_eq_true rfl) dX8_init_39 (fun H hW => ?_)
  have hW : WE g _ (9) s.heap H locs := hW
  refine ce_putF C0 hname hW (k := 0) (ci := 7) (fs := [.ref (g.2.2.1 + 1), .ref (g.2.2.1 + 6), .int 0, .ref (g.2.2.1 + 7), .null, .null, .int 0, .null, .null, .null, .null, .null]) (by omega) (by simp [va_up, eX6, hE] <;> omega) rfl inG7 tyX8 tyX8_ok nmX8 4 (by decide) wd71 rfl rfl rfl (ty := .array (.boolean)) rfl rfl rfl (Nat.le_of_ble_eq_true rfl) dX8_init_41 (fun H locs hW => ?_)
  refine lv_aload_n hx hb dX8_init_44 rfl (lv_at hl 0 rfl) ?_
  refine lv_bipush (v := 60) hx hb dX8_init_45 (by decide) ?_
  refine ce_sz (n0 := 1) (n := 9) (k := 8) hs0 rfl hW rfl (fun hsz => ?_)
  refine ce_newA (n := 9) (atype := .char) (q := 9) (j := 0) (N := 60) (pay := (60, .inl (fun _ => 0))) C0 hW hsz rfl wc13 (by decide) (by decide) (Nat.le_of_ble_eq_true rfl) (fun _ h => h) (fun _ => rfl) (Nat.le_of_ble_eq_true rfl) (Nat.le_of_ble_eq_true rfl) dX8_init_47 (fun H hW => ?_)
  have hW : WE g _ (10) s.heap H locs := hW
  refine ce_putF C0 hname hW (k := 0) (ci := 7) (fs := [.ref (g.2.2.1 + 1), .ref (g.2.2.1 + 6), .int 0, .ref (g.2.2.1 + 7), .ref (g.2.2.1 + 8), .null, .int 0, .null, .null, .null, .null, .null]) (by omega) (by simp [va_up, eX6, hE] <;> omega) rfl inG7 tyX8 tyX8_ok nmX8 5 (by decide) wd62 rfl rfl rfl (ty := .array (.char)) rfl rfl rfl (Nat.le_of_ble_eq_true rfl) dX8_init_49 (fun H locs hW => ?_)
  refine lv_aload_n hx hb dX8_init_52 rfl (lv_at hl 0 rfl) ?_
  refine lv_iconst (v := 0) hx hb dX8_init_53 (by decide) ?_
  refine ce_put C0 hW (k := 0) (ci := 7) (fs := [.ref (g.2.2.1 + 1), .ref (g.2.2.1 + 6), .int 0, .ref (g.2.2.1 + 7), .ref (g.2.2.1 + 8), .ref (g.2.2.1 + 9), .int 0, .null, .null, .null, .null, .null]) (by omega) (by simp [va_up, eX6, hE] <;> omega) rfl inG7 tyX8 tyX8_ok nmX8 6 (by decide) wd61 rfl rfl (ty := .int) rfl rfl rfl (Nat.le_of_ble_eq_true rfl) dX8_init_54 (fun H locs hW => ?_)
  refine lv_aload_n hx hb dX8_init_57 rfl (lv_at hl 0 rfl) ?_
  refine lv_iconst (v := 4) hx hb dX8_init_58 (by decide) ?_
  refine ce_sz (n0 := 1) (n := 10) (k := 9) hs0 rfl hW rfl (fun hsz => ?_)
  refine ce_newA (n := 10) (atype := .int) (q := 10) (j := 1) (N := 4) (pay := (4, .inl (fun _ => 0))) C0 hW hsz rfl wd26 (by decide) (by decide) (Nat.le_of_ble_eq_true rfl) (fun _ h => h) (fun _ => rfl) (Nat.le_of_ble_eq_true rfl) (Nat.le_of_ble_eq_true rfl) dX8_init_59 (fun H hW => ?_)
  have hW : WE g _ (11) s.heap H locs := hW
  refine ce_putF C0 hname hW (k := 0) (ci := 7) (fs := [.ref (g.2.2.1 + 1), .ref (g.2.2.1 + 6), .int 0, .ref (g.2.2.1 + 7), .ref (g.2.2.1 + 8), .ref (g.2.2.1 + 9), .int 0, .null, .null, .null, .null, .null]) (by omega) (by simp [va_up, eX6, hE] <;> omega) rfl inG7 tyX8 tyX8_ok nmX8 7 (by decide) wd53 rfl rfl rfl (ty := .array (.int)) rfl rfl rfl (Nat.le_of_ble_eq_true rfl) dX8_init_61 (fun H locs hW => ?_)
  refine lv_aload_n hx hb dX8_init_64 rfl (lv_at hl 0 rfl) ?_
  refine ce_sz (n0 := 1) (n := 11) (k := 10) hs0 rfl hW rfl (fun hsz => ?_)
  refine ce_new (n := 11) C0 hW hsz (ci := 1) rfl wc20 wc21 wd132 inG1 tyX1 tyX1_ok [.null, .null] (fun j hj => by rcases (show j = 0 ∨ j = 1 by omega) with rfl | rfl <;> rfl) (Nat.le_of_ble_eq_true rfl) (Nat.le_of_ble_eq_true rfl) dX8_init_65 (fun H hW => ?_)
  have hW : WE g _ (12) s.heap H locs := hW
  refine lv_dup hx hb dX8_init_68 rfl ?_
  refine ce_sz (n0 := 1) (n := 12) (k := 11) hs0 rfl hW rfl (fun hsz => ?_)
  refine ce_cIN (rest := [.ref (g.2.2.1 + 11), .ref (g.2.2.1 + 0)]) (n := 12) C0 hW hsz (c_X1_init (h := 11) (by simp [va_up, eX6, hE] <;> omega)) ⟨va_cnB 0 hts (GT_code wc22) rfl rfl rfl (hKS.2.2.1 (RX8, 44, yX1_init, RX8) (List.mem_of_getElem? (i := 1) (by decide +kernel))) (hts _ wd132) ⟨by decide +kernel, by decide +kernel, by decide +kernel⟩ ⟨Nat.le_of_ble_eq_true rfl, Nat.le_of_ble_eq_true rfl⟩, rfl, hts _ wc23⟩ rfl hl.1 rfl (Nat.le_of_ble_eq_true rfl) ⟨Nat.le_of_ble_eq_true rfl, Nat.le_of_ble_eq_true rfl⟩ dX8_init_69 (fun H locs hW => ?_)
  have hW : WE g _ (16) s.heap H locs := hW
  refine ce_putF C0 hname hW (k := 0) (ci := 7) (fs := [.ref (g.2.2.1 + 1), .ref (g.2.2.1 + 6), .int 0, .ref (g.2.2.1 + 7), .ref (g.2.2.1 + 8), .ref (g.2.2.1 + 9), .int 0, .ref (g.2.2.1 + 10), .null, .null, .null, .null]) (by omega) (by simp [va_up, eX6, eX3, eX1, hE] <;> omega) rfl inG7 tyX8 tyX8_ok nmX8 8 (by decide) wd52 rfl rfl rfl (ty := .object "TruthFilters$Evaluator") rfl rfl rfl (Nat.le_of_ble_eq_true rfl) dX8_init_72 (fun H locs hW => ?_)
  refine lv_aload_n hx hb dX8_init_75 rfl (lv_at hl 0 rfl) ?_
  refine ce_sz (n0 := 1) (n := 16) (k := 15) hs0 rfl hW rfl (fun hsz => ?_)
  refine ce_new (n := 16) C0 hW hsz (ci := 0) rfl wc24 wc25 wd112 inG0 tyX0 tyX0_ok [.null, .null, .int 0] (fun j hj => by rcases (show j = 0 ∨ j = 1 ∨ j = 2 by omega) with rfl | rfl | rfl <;> rfl) (Nat.le_of_ble_eq_true rfl) (Nat.le_of_ble_eq_true rfl) dX8_init_76 (fun H hW => ?_)
  have hW : WE g _ (17) s.heap H locs := hW
  refine lv_dup hx hb dX8_init_79 rfl ?_
  refine ce_sz (n0 := 1) (n := 17) (k := 16) hs0 rfl hW rfl (fun hsz => ?_)
  refine ce_cIN (rest := [.ref (g.2.2.1 + 16), .ref (g.2.2.1 + 0)]) (n := 17) C0 hW hsz (c_X0_init (h := 16) (by simp [va_up, eX6, eX3, eX1, hE] <;> omega)) ⟨va_cnB 0 hts (GT_code wc26) rfl rfl rfl (hKS.2.2.1 (RX8, 51, yX0_init, RX8) (List.mem_of_getElem? (i := 3) (by decide +kernel))) (hts _ wd112) ⟨by decide +kernel, by decide +kernel, by decide +kernel⟩ ⟨Nat.le_of_ble_eq_true rfl, Nat.le_of_ble_eq_true rfl⟩, rfl, hts _ wc27⟩ rfl hl.1 rfl (Nat.le_of_ble_eq_true rfl) ⟨Nat.le_of_ble_eq_true rfl, Nat.le_of_ble_eq_true rfl⟩ dX8_init_80 (fun H locs hW => ?_)
  have hW : WE g _ (19) s.heap H locs := hW
  refine ce_putF C0 hname hW (k := 0) (ci := 7) (fs := [.ref (g.2.2.1 + 1), .ref (g.2.2.1 + 6), .int 0, .ref (g.2.2.1 + 7), .ref (g.2.2.1 + 8), .ref (g.2.2.1 + 9), .int 0, .ref (g.2.2.1 + 10), .ref (g.2.2.1 + 11), .null, .null, .null]) (by omega) (by simp [va_up, eX6, eX3, eX1, eX0, hE] <;> omega) rfl inG7 tyX8 tyX8_ok nmX8 9 (by decide) wd63 rfl rfl rfl (ty := .object "TruthFilters$Candidates") rfl rfl rfl (Nat.le_of_ble_eq_true rfl) dX8_init_83 (fun H locs hW => ?_)
  refine lv_aload_n hx hb dX8_init_86 rfl (lv_at hl 0 rfl) ?_
  refine ce_sz (n0 := 1) (n := 19) (k := 18) hs0 rfl hW rfl (fun hsz => ?_)
  refine ce_new (n := 19) C0 hW hsz (ci := 4) rfl wc28 wc29 wd182 inG4 tyX4 tyX4_ok [.null, .null, .int 0, .int 0, .int 0, .int 0, .int 0] (fun j hj => by rcases (show j = 0 ∨ j = 1 ∨ j = 2 ∨ j = 3 ∨ j = 4 ∨ j = 5 ∨ j = 6 by omega) with rfl | rfl | rfl | rfl | rfl | rfl | rfl <;> rfl) (Nat.le_of_ble_eq_true rfl) (Nat.le_of_ble_eq_true rfl) dX8_init_87 (fun H hW => ?_)
  have hW : WE g _ (20) s.heap H locs := hW
  refine lv_dup hx hb dX8_init_90 rfl ?_
  refine ce_sz (n0 := 1) (n := 20) (k := 19) hs0 rfl hW rfl (fun hsz => ?_)
  refine ce_cIN (rest := [.ref (g.2.2.1 + 19), .ref (g.2.2.1 + 0)]) (n := 20) C0 hW hsz (c_X4_init (h := 19) (by simp [va_up, eX6, eX3, eX1, eX0, hE] <;> omega)) ⟨va_cnB 0 hts (GT_code wc30) rfl rfl rfl (hKS.2.2.1 (RX8, 58, yX4_init, RX8) (List.mem_of_getElem? (i := 4) (by decide +kernel))) (hts _ wd182) ⟨by decide +kernel, by decide +kernel, by decide +kernel⟩ ⟨Nat.le_of_ble_eq_true rfl, Nat.le_of_ble_eq_true rfl⟩, rfl, hts _ wc31⟩ rfl hl.1 rfl (Nat.le_of_ble_eq_true rfl) ⟨Nat.le_of_ble_eq_true rfl, Nat.le_of_ble_eq_true rfl⟩ dX8_init_91 (fun H locs hW => ?_)
  have hW : WE g _ (24) s.heap H locs := hW
  refine ce_putF C0 hname hW (k := 0) (ci := 7) (fs := [.ref (g.2.2.1 + 1), .ref (g.2.2.1 + 6), .int 0, .ref (g.2.2.1 + 7), .ref (g.2.2.1 + 8), .ref (g.2.2.1 + 9), .int 0, .ref (g.2.2.1 + 10), .ref (g.2.2.1 + 11), .ref (g.2.2.1 + 16), .null, .null]) (by omega) (by simp [va_up, eX6, eX3, eX1, eX0, eX4, hE] <;> omega) rfl inG7 tyX8 tyX8_ok nmX8 10 (by decide) wd69 rfl rfl rfl (ty := .object "TruthFilters$Reader") rfl rfl rfl (Nat.le_of_ble_eq_true rfl) dX8_init_94 (fun H locs hW => ?_)
  refine lv_aload_n hx hb dX8_init_97 rfl (lv_at hl 0 rfl) ?_
  refine ce_sz (n0 := 1) (n := 24) (k := 23) hs0 rfl hW rfl (fun hsz => ?_)
  refine ce_new (n := 24) C0 hW hsz (ci := 5) rfl wc32 wc33 wd246 inG5 tyX5 tyX5_ok [.null, .null, .null, .int 0] (fun j hj => by rcases (show j = 0 ∨ j = 1 ∨ j = 2 ∨ j = 3 by omega) with rfl | rfl | rfl | rfl <;> rfl) (Nat.le_of_ble_eq_true rfl) (Nat.le_of_ble_eq_true rfl) dX8_init_98 (fun H hW => ?_)
  have hW : WE g _ (25) s.heap H locs := hW
  refine lv_dup hx hb dX8_init_101 rfl ?_
  refine ce_sz (n0 := 1) (n := 25) (k := 24) hs0 rfl hW rfl (fun hsz => ?_)
  refine ce_cIN (rest := [.ref (g.2.2.1 + 24), .ref (g.2.2.1 + 0)]) (n := 25) C0 hW hsz (c_X5_init (h := 24) (by simp [va_up, eX6, eX3, eX1, eX0, eX4, hE] <;> omega)) ⟨va_cnB 0 hts (GT_code wc34) rfl rfl rfl (hKS.2.2.1 (RX8, 65, yX5_init, RX8) (List.mem_of_getElem? (i := 6) (by decide +kernel))) (hts _ wd246) ⟨by decide +kernel, by decide +kernel, by decide +kernel⟩ ⟨Nat.le_of_ble_eq_true rfl, Nat.le_of_ble_eq_true rfl⟩, rfl, hts _ wc35⟩ rfl hl.1 rfl (Nat.le_of_ble_eq_true rfl) ⟨Nat.le_of_ble_eq_true rfl, Nat.le_of_ble_eq_true rfl⟩ dX8_init_102 (fun H locs hW => ?_)
  have hW : WE g _ (30) s.heap H locs := hW
  refine ce_putF C0 hname hW (k := 0) (ci := 7) (fs := [.ref (g.2.2.1 + 1), .ref (g.2.2.1 + 6), .int 0, .ref (g.2.2.1 + 7), .ref (g.2.2.1 + 8), .ref (g.2.2.1 + 9), .int 0, .ref (g.2.2.1 + 10), .ref (g.2.2.1 + 11), .ref (g.2.2.1 + 16), .ref (g.2.2.1 + 19), .null]) (by omega) (by simp [va_up, eX6, eX3, eX1, eX0, eX4, eX5, hE] <;> omega) rfl inG7 tyX8 tyX8_ok nmX8 11 (by decide) wd70 rfl rfl rfl (ty := .object "TruthFilters$ShortText") rfl rfl rfl (Nat.le_of_ble_eq_true rfl) dX8_init_105 (fun H locs hW => ?_)
  refine lv_iconst (v := 0) hx hb dX8_init_108 (by decide) ?_
  refine lv_istore_n (lv' := [(1, .int 0), (0, .ref (g.2.2.1 + 0))]) hx hb dX8_init_109 rfl hl (Nat.le_of_ble_eq_true rfl) rfl (fun ls hl => ?_)
  refine lv_iload_n hx hb dX8_init_110 rfl (lv_at hl 0 rfl) ?_
  refine lv_bipush (v := 6) hx hb dX8_init_111 (by decide) ?_
  refine lv_icmp_ge (tgt := 135) hx hb dX8_init_113 rfl (fun hc => absurd hc (by decide)) (fun _ => ?_)
  refine lv_aload_n hx hb dX8_init_116 rfl (lv_at hl 1 rfl) ?_
  refine ce_get (v := .ref (g.2.2.1 + 6)) C0 hW (k := 0) (ci := 7) (fs := [.ref (g.2.2.1 + 1), .ref (g.2.2.1 + 6), .int 0, .ref (g.2.2.1 + 7), .ref (g.2.2.1 + 8), .ref (g.2.2.1 + 9), .int 0, .ref (g.2.2.1 + 10), .ref (g.2.2.1 + 11), .ref (g.2.2.1 + 16), .ref (g.2.2.1 + 19), .ref (g.2.2.1 + 24)]) (by omega) (by simp [va_up, eX6, eX3, eX1, eX0, eX4, eX5, hE] <;> omega) rfl inG7 1 (by decide) wd51 rfl rfl dX8_init_117 ?_
  refine lv_iload_n hx hb dX8_init_120 rfl (lv_at hl 0 rfl) ?_
  refine ce_sz (n0 := 1) (n := 30) (k := 29) hs0 rfl hW rfl (fun hsz => ?_)
  refine ce_new (n := 30) C0 hW hsz (ci := 6) rfl wc16 wc17 wd412 inG6 tyX6 tyX6_ok [.null, .null, .null, .null, .int 0] (fun j hj => by rcases (show j = 0 ∨ j = 1 ∨ j = 2 ∨ j = 3 ∨ j = 4 by omega) with rfl | rfl | rfl | rfl | rfl <;> rfl) (Nat.le_of_ble_eq_true rfl) (Nat.le_of_ble_eq_true rfl) dX8_init_121 (fun H hW => ?_)
  have hW : WE g _ (31) s.heap H locs := hW
  refine lv_dup hx hb dX8_init_124 rfl ?_
  refine ce_sz (n0 := 1) (n := 31) (k := 30) hs0 rfl hW rfl (fun hsz => ?_)
  refine ce_cIN (rest := [.ref (g.2.2.1 + 30), .int 0, .ref (g.2.2.1 + 6)]) (n := 31) C0 hW hsz (c_X6_init (h := 30) (by simp [va_up, eX6, eX3, eX1, eX0, eX4, eX5, hE] <;> omega)) ⟨va_cnB 0 hts (GT_code wc18) rfl rfl rfl (hKS.2.2.1 (RX8, 9, yX6_init, RX8) (List.mem_of_getElem? (i := 0) (by decide +kernel))) (hts _ wd412) ⟨by decide +kernel, by decide +kernel, by decide +kernel⟩ ⟨Nat.le_of_ble_eq_true rfl, Nat.le_of_ble_eq_true rfl⟩, rfl, hts _ wc19⟩ rfl hl.1 rfl (Nat.le_of_ble_eq_true rfl) ⟨Nat.le_of_ble_eq_true rfl, Nat.le_of_ble_eq_true rfl⟩ dX8_init_125 (fun H locs hW => ?_)
  have hW : WE g _ (35) s.heap H locs := hW
  refine ce_ast C0 hW (a := 6) (k := 30) (N := 6) (q := 13) (j := 4) (ci := 6) (f := (fun _ => none)) (fs := [.ref (g.2.2.1 + 31), .ref (g.2.2.1 + 32), .ref (g.2.2.1 + 33), .ref (g.2.2.1 + 34), .int 0]) (i0 := 0) (by omega) (by simp [va_up, eX6, eX3, eX1, eX0, eX4, eX5, hE] <;> omega) rfl (by omega) (by simp [va_up, eX6, eX3, eX1, eX0, eX4, eX5, hE] <;> omega) rfl (by decide) vin_0_6 dX8_init_128 (fun H locs hW => ?_)
  refine lv_iinc (k := 0) (v := 1) (lv' := [(1, .int 1), (0, .ref (g.2.2.1 + 0))]) hx hb dX8_init_129 hl rfl (by decide) (Nat.le_of_ble_eq_true rfl) rfl (fun ls hl => ?_)
  refine lv_goto (tgt := 110) hx hb dX8_init_132 rfl ?_
  refine lv_iload_n hx hb dX8_init_110 rfl (lv_at hl 0 rfl) ?_
  refine lv_bipush (v := 6) hx hb dX8_init_111 (by decide) ?_
  refine lv_icmp_ge (tgt := 135) hx hb dX8_init_113 rfl (fun hc => absurd hc (by decide)) (fun _ => ?_)
  refine lv_aload_n hx hb dX8_init_116 rfl (lv_at hl 1 rfl) ?_
  refine ce_get (v := .ref (g.2.2.1 + 6)) C0 hW (k := 0) (ci := 7) (fs := [.ref (g.2.2.1 + 1), .ref (g.2.2.1 + 6), .int 0, .ref (g.2.2.1 + 7), .ref (g.2.2.1 + 8), .ref (g.2.2.1 + 9), .int 0, .ref (g.2.2.1 + 10), .ref (g.2.2.1 + 11), .ref (g.2.2.1 + 16), .ref (g.2.2.1 + 19), .ref (g.2.2.1 + 24)]) (by omega) (by simp [va_up, eX6, eX3, eX1, eX0, eX4, eX5, hE] <;> omega) rfl inG7 1 (by decide) wd51 rfl rfl dX8_init_117 ?_
  refine lv_iload_n hx hb dX8_init_120 rfl (lv_at hl 0 rfl) ?_
  refine ce_sz (n0 := 1) (n := 35) (k := 34) hs0 rfl hW rfl (fun hsz => ?_)
  refine ce_new (n := 35) C0 hW hsz (ci := 6) rfl wc16 wc17 wd412 inG6 tyX6 tyX6_ok [.null, .null, .null, .null, .int 0] (fun j hj => by rcases (show j = 0 ∨ j = 1 ∨ j = 2 ∨ j = 3 ∨ j = 4 by omega) with rfl | rfl | rfl | rfl | rfl <;> rfl) (Nat.le_of_ble_eq_true rfl) (Nat.le_of_ble_eq_true rfl) dX8_init_121 (fun H hW => ?_)
  have hW : WE g _ (36) s.heap H locs := hW
  refine lv_dup hx hb dX8_init_124 rfl ?_
  refine ce_sz (n0 := 1) (n := 36) (k := 35) hs0 rfl hW rfl (fun hsz => ?_)
  refine ce_cIN (rest := [.ref (g.2.2.1 + 35), .int 1, .ref (g.2.2.1 + 6)]) (n := 36) C0 hW hsz (c_X6_init (h := 35) (by simp [va_up, eX6, eX3, eX1, eX0, eX4, eX5, hE] <;> omega)) ⟨va_cnB 0 hts (GT_code wc18) rfl rfl rfl (hKS.2.2.1 (RX8, 9, yX6_init, RX8) (List.mem_of_getElem? (i := 0) (by decide +kernel))) (hts _ wd412) ⟨by decide +kernel, by decide +kernel, by decide +kernel⟩ ⟨Nat.le_of_ble_eq_true rfl, Nat.le_of_ble_eq_true rfl⟩, rfl, hts _ wc19⟩ rfl hl.1 rfl (Nat.le_of_ble_eq_true rfl) ⟨Nat.le_of_ble_eq_true rfl, Nat.le_of_ble_eq_true rfl⟩ dX8_init_125 (fun H locs hW => ?_)
  have hW : WE g _ (40) s.heap H locs := hW
  refine ce_ast C0 hW (a := 6) (k := 35) (N := 6) (q := 13) (j := 4) (ci := 6) (f := (va_up (fun _ => none) 0 (some (g.2.2.1 + 30)))) (fs := [.ref (g.2.2.1 + 36), .ref (g.2.2.1 + 37), .ref (g.2.2.1 + 38), .ref (g.2.2.1 + 39), .int 0]) (i0 := 1) (by omega) (by simp [va_up, eX6, eX3, eX1, eX0, eX4, eX5, hE] <;> omega) rfl (by omega) (by simp [va_up, eX6, eX3, eX1, eX0, eX4, eX5, hE] <;> omega) rfl (by decide) vin_1_6 dX8_init_128 (fun H locs hW => ?_)
  refine lv_iinc (k := 0) (v := 2) (lv' := [(1, .int 2), (0, .ref (g.2.2.1 + 0))]) hx hb dX8_init_129 hl rfl (by decide) (Nat.le_of_ble_eq_true rfl) rfl (fun ls hl => ?_)
  refine lv_goto (tgt := 110) hx hb dX8_init_132 rfl ?_
  refine lv_iload_n hx hb dX8_init_110 rfl (lv_at hl 0 rfl) ?_
  refine lv_bipush (v := 6) hx hb dX8_init_111 (by decide) ?_
  refine lv_icmp_ge (tgt := 135) hx hb dX8_init_113 rfl (fun hc => absurd hc (by decide)) (fun _ => ?_)
  refine lv_aload_n hx hb dX8_init_116 rfl (lv_at hl 1 rfl) ?_
  refine ce_get (v := .ref (g.2.2.1 + 6)) C0 hW (k := 0) (ci := 7) (fs := [.ref (g.2.2.1 + 1), .ref (g.2.2.1 + 6), .int 0, .ref (g.2.2.1 + 7), .ref (g.2.2.1 + 8), .ref (g.2.2.1 + 9), .int 0, .ref (g.2.2.1 + 10), .ref (g.2.2.1 + 11), .ref (g.2.2.1 + 16), .ref (g.2.2.1 + 19), .ref (g.2.2.1 + 24)]) (by omega) (by simp [va_up, eX6, eX3, eX1, eX0, eX4, eX5, hE] <;> omega) rfl inG7 1 (by decide) wd51 rfl rfl dX8_init_117 ?_
  refine lv_iload_n hx hb dX8_init_120 rfl (lv_at hl 0 rfl) ?_
  refine ce_sz (n0 := 1) (n := 40) (k := 39) hs0 rfl hW rfl (fun hsz => ?_)
  refine ce_new (n := 40) C0 hW hsz (ci := 6) rfl wc16 wc17 wd412 inG6 tyX6 tyX6_ok [.null, .null, .null, .null, .int 0] (fun j hj => by rcases (show j = 0 ∨ j = 1 ∨ j = 2 ∨ j = 3 ∨ j = 4 by omega) with rfl | rfl | rfl | rfl | rfl <;> rfl) (Nat.le_of_ble_eq_true rfl) (Nat.le_of_ble_eq_true rfl) dX8_init_121 (fun H hW => ?_)
  have hW : WE g _ (41) s.heap H locs := hW
  refine lv_dup hx hb dX8_init_124 rfl ?_
  refine ce_sz (n0 := 1) (n := 41) (k := 40) hs0 rfl hW rfl (fun hsz => ?_)
  refine ce_cIN (rest := [.ref (g.2.2.1 + 40), .int 2, .ref (g.2.2.1 + 6)]) (n := 41) C0 hW hsz (c_X6_init (h := 40) (by simp [va_up, eX6, eX3, eX1, eX0, eX4, eX5, hE] <;> omega)) ⟨va_cnB 0 hts (GT_code wc18) rfl rfl rfl (hKS.2.2.1 (RX8, 9, yX6_init, RX8) (List.mem_of_getElem? (i := 0) (by decide +kernel))) (hts _ wd412) ⟨by decide +kernel, by decide +kernel, by decide +kernel⟩ ⟨Nat.le_of_ble_eq_true rfl, Nat.le_of_ble_eq_true rfl⟩, rfl, hts _ wc19⟩ rfl hl.1 rfl (Nat.le_of_ble_eq_true rfl) ⟨Nat.le_of_ble_eq_true rfl, Nat.le_of_ble_eq_true rfl⟩ dX8_init_125 (fun H locs hW => ?_)
  have hW : WE g _ (45) s.heap H locs := hW
  refine ce_ast C0 hW (a := 6) (k := 40) (N := 6) (q := 13) (j := 4) (ci := 6) (f := (va_up (va_up (fun _ => none) 0 (some (g.2.2.1 + 30))) 1 (some (g.2.2.1 + 35)))) (fs := [.ref (g.2.2.1 + 41), .ref (g.2.2.1 + 42), .ref (g.2.2.1 + 43), .ref (g.2.2.1 + 44), .int 0]) (i0 := 2) (by omega) (by simp [va_up, eX6, eX3, eX1, eX0, eX4, eX5, hE] <;> omega) rfl (by omega) (by simp [va_up, eX6, eX3, eX1, eX0, eX4, eX5, hE] <;> omega) rfl (by decide) vin_2_6 dX8_init_128 (fun H locs hW => ?_)
  refine lv_iinc (k := 0) (v := 3) (lv' := [(1, .int 3), (0, .ref (g.2.2.1 + 0))]) hx hb dX8_init_129 hl rfl (by decide) (Nat.le_of_ble_eq_true rfl) rfl (fun ls hl => ?_)
  refine lv_goto (tgt := 110) hx hb dX8_init_132 rfl ?_
  refine lv_iload_n hx hb dX8_init_110 rfl (lv_at hl 0 rfl) ?_
  refine lv_bipush (v := 6) hx hb dX8_init_111 (by decide) ?_
  refine lv_icmp_ge (tgt := 135) hx hb dX8_init_113 rfl (fun hc => absurd hc (by decide)) (fun _ => ?_)
  refine lv_aload_n hx hb dX8_init_116 rfl (lv_at hl 1 rfl) ?_
  refine ce_get (v := .ref (g.2.2.1 + 6)) C0 hW (k := 0) (ci := 7) (fs := [.ref (g.2.2.1 + 1), .ref (g.2.2.1 + 6), .int 0, .ref (g.2.2.1 + 7), .ref (g.2.2.1 + 8), .ref (g.2.2.1 + 9), .int 0, .ref (g.2.2.1 + 10), .ref (g.2.2.1 + 11), .ref (g.2.2.1 + 16), .ref (g.2.2.1 + 19), .ref (g.2.2.1 + 24)]) (by omega) (by simp [va_up, eX6, eX3, eX1, eX0, eX4, eX5, hE] <;> omega) rfl inG7 1 (by decide) wd51 rfl rfl dX8_init_117 ?_
  refine lv_iload_n hx hb dX8_init_120 rfl (lv_at hl 0 rfl) ?_
  refine ce_sz (n0 := 1) (n := 45) (k := 44) hs0 rfl hW rfl (fun hsz => ?_)
  refine ce_new (n := 45) C0 hW hsz (ci := 6) rfl wc16 wc17 wd412 inG6 tyX6 tyX6_ok [.null, .null, .null, .null, .int 0] (fun j hj => by rcases (show j = 0 ∨ j = 1 ∨ j = 2 ∨ j = 3 ∨ j = 4 by omega) with rfl | rfl | rfl | rfl | rfl <;> rfl) (Nat.le_of_ble_eq_true rfl) (Nat.le_of_ble_eq_true rfl) dX8_init_121 (fun H hW => ?_)
  have hW : WE g _ (46) s.heap H locs := hW
  refine lv_dup hx hb dX8_init_124 rfl ?_
  refine ce_sz (n0 := 1) (n := 46) (k := 45) hs0 rfl hW rfl (fun hsz => ?_)
  refine ce_cIN (rest := [.ref (g.2.2.1 + 45), .int 3, .ref (g.2.2.1 + 6)]) (n := 46) C0 hW hsz (c_X6_init (h := 45) (by simp [va_up, eX6, eX3, eX1, eX0, eX4, eX5, hE] <;> omega)) ⟨va_cnB 0 hts (GT_code wc18) rfl rfl rfl (hKS.2.2.1 (RX8, 9, yX6_init, RX8) (List.mem_of_getElem? (i := 0) (by decide +kernel))) (hts _ wd412) ⟨by decide +kernel, by decide +kernel, by decide +kernel⟩ ⟨Nat.le_of_ble_eq_true rfl, Nat.le_of_ble_eq_true rfl⟩, rfl, hts _ wc19⟩ rfl hl.1 rfl (Nat.le_of_ble_eq_true rfl) ⟨Nat.le_of_ble_eq_true rfl, Nat.le_of_ble_eq_true rfl⟩ dX8_init_125 (fun H locs hW => ?_)
  have hW : WE g _ (50) s.heap H locs := hW
  refine ce_ast C0 hW (a := 6) (k := 45) (N := 6) (q := 13) (j := 4) (ci := 6) (f := (va_up (va_up (va_up (fun _ => none) 0 (some (g.2.2.1 + 30))) 1 (some (g.2.2.1 + 35))) 2 (some (g.2.2.1 + 40)))) (fs := [.ref (g.2.2.1 + 46), .ref (g.2.2.1 + 47), .ref (g.2.2.1 + 48), .ref (g.2.2.1 + 49), .int 0]) (i0 := 3) (by omega) (by simp [va_up, eX6, eX3, eX1, eX0, eX4, eX5, hE] <;> omega) rfl (by omega) (by simp [va_up, eX6, eX3, eX1, eX0, eX4, eX5, hE] <;> omega) rfl (by decide) vin_3_6 dX8_init_128 (fun H locs hW => ?_)
  refine lv_iinc (k := 0) (v := 4) (lv' := [(1, .int 4), (0, .ref (g.2.2.1 + 0))]) hx hb dX8_init_129 hl rfl (by decide) (Nat.le_of_ble_eq_true rfl) rfl (fun ls hl => ?_)
  refine lv_goto (tgt := 110) hx hb dX8_init_132 rfl ?_
  refine lv_iload_n hx hb dX8_init_110 rfl (lv_at hl 0 rfl) ?_
  refine lv_bipush (v := 6) hx hb dX8_init_111 (by decide) ?_
  refine lv_icmp_ge (tgt := 135) hx hb dX8_init_113 rfl (fun hc => absurd hc (by decide)) (fun _ => ?_)
  refine lv_aload_n hx hb dX8_init_116 rfl (lv_at hl 1 rfl) ?_
  refine ce_get (v := .ref (g.2.2.1 + 6)) C0 hW (k := 0) (ci := 7) (fs := [.ref (g.2.2.1 + 1), .ref (g.2.2.1 + 6), .int 0, .ref (g.2.2.1 + 7), .ref (g.2.2.1 + 8), .ref (g.2.2.1 + 9), .int 0, .ref (g.2.2.1 + 10), .ref (g.2.2.1 + 11), .ref (g.2.2.1 + 16), .ref (g.2.2.1 + 19), .ref (g.2.2.1 + 24)]) (by omega) (by simp [va_up, eX6, eX3, eX1, eX0, eX4, eX5, hE] <;> omega) rfl inG7 1 (by decide) wd51 rfl rfl dX8_init_117 ?_
  refine lv_iload_n hx hb dX8_init_120 rfl (lv_at hl 0 rfl) ?_
  refine ce_sz (n0 := 1) (n := 50) (k := 49) hs0 rfl hW rfl (fun hsz => ?_)
  refine ce_new (n := 50) C0 hW hsz (ci := 6) rfl wc16 wc17 wd412 inG6 tyX6 tyX6_ok [.null, .null, .null, .null, .int 0] (fun j hj => by rcases (show j = 0 ∨ j = 1 ∨ j = 2 ∨ j = 3 ∨ j = 4 by omega) with rfl | rfl | rfl | rfl | rfl <;> rfl) (Nat.le_of_ble_eq_true rfl) (Nat.le_of_ble_eq_true rfl) dX8_init_121 (fun H hW => ?_)
  have hW : WE g _ (51) s.heap H locs := hW
  refine lv_dup hx hb dX8_init_124 rfl ?_
  refine ce_sz (n0 := 1) (n := 51) (k := 50) hs0 rfl hW rfl (fun hsz => ?_)
  refine ce_cIN (rest := [.ref (g.2.2.1 + 50), .int 4, .ref (g.2.2.1 + 6)]) (n := 51) C0 hW hsz (c_X6_init (h := 50) (by simp [va_up, eX6, eX3, eX1, eX0, eX4, eX5, hE] <;> omega)) ⟨va_cnB 0 hts (GT_code wc18) rfl rfl rfl (hKS.2.2.1 (RX8, 9, yX6_init, RX8) (List.mem_of_getElem? (i := 0) (by decide +kernel))) (hts _ wd412) ⟨by decide +kernel, by decide +kernel, by decide +kernel⟩ ⟨Nat.le_of_ble_eq_true rfl, Nat.le_of_ble_eq_true rfl⟩, rfl, hts _ wc19⟩ rfl hl.1 rfl (Nat.le_of_ble_eq_true rfl) ⟨Nat.le_of_ble_eq_true rfl, Nat.le_of_ble_eq_true rfl⟩ dX8_init_125 (fun H locs hW => ?_)
  have hW : WE g _ (55) s.heap H locs := hW
  refine ce_ast C0 hW (a := 6) (k := 50) (N := 6) (q := 13) (j := 4) (ci := 6) (f := (va_up (va_up (va_up (va_up (fun _ => none) 0 (some (g.2.2.1 + 30))) 1 (some (g.2.2.1 + 35))) 2 (some (g.2.2.1 + 40))) 3 (some (g.2.2.1 + 45)))) (fs := [.ref (g.2.2.1 + 51), .ref (g.2.2.1 + 52), .ref (g.2.2.1 + 53), .ref (g.2.2.1 + 54), .int 0]) (i0 := 4) (by omega) (by simp [va_up, eX6, eX3, eX1, eX0, eX4, eX5, hE] <;> omega) rfl (by omega) (by simp [va_up, eX6, eX3, eX1, eX0, eX4, eX5, hE] <;> omega) rfl (by decide) vin_4_6 dX8_init_128 (fun H locs hW => ?_)
  refine lv_iinc (k := 0) (v := 5) (lv' := [(1, .int 5), (0, .ref (g.2.2.1 + 0))]) hx hb dX8_init_129 hl rfl (by decide) (Nat.le_of_ble_eq_true rfl) rfl (fun ls hl => ?_)
  refine lv_goto (tgt := 110) hx hb dX8_init_132 rfl ?_
  refine lv_iload_n hx hb dX8_init_110 rfl (lv_at hl 0 rfl) ?_
  refine lv_bipush (v := 6) hx hb dX8_init_111 (by decide) ?_
  refine lv_icmp_ge (tgt := 135) hx hb dX8_init_113 rfl (fun hc => absurd hc (by decide)) (fun _ => ?_)
  refine lv_aload_n hx hb dX8_init_116 rfl (lv_at hl 1 rfl) ?_
  refine ce_get (v := .ref (g.2.2.1 + 6)) C0 hW (k := 0) (ci := 7) (fs := [.ref (g.2.2.1 + 1), .ref (g.2.2.1 + 6), .int 0, .ref (g.2.2.1 + 7), .ref (g.2.2.1 + 8), .ref (g.2.2.1 + 9), .int 0, .ref (g.2.2.1 + 10), .ref (g.2.2.1 + 11), .ref (g.2.2.1 + 16), .ref (g.2.2.1 + 19), .ref (g.2.2.1 + 24)]) (by omega) (by simp [va_up, eX6, eX3, eX1, eX0, eX4, eX5, hE] <;> omega) rfl inG7 1 (by decide) wd51 rfl rfl dX8_init_117 ?_
  refine lv_iload_n hx hb dX8_init_120 rfl (lv_at hl 0 rfl) ?_
  refine ce_sz (n0 := 1) (n := 55) (k := 54) hs0 rfl hW rfl (fun hsz => ?_)
  refine ce_new (n := 55) C0 hW hsz (ci := 6) rfl wc16 wc17 wd412 inG6 tyX6 tyX6_ok [.null, .null, .null, .null, .int 0] (fun j hj => by rcases (show j = 0 ∨ j = 1 ∨ j = 2 ∨ j = 3 ∨ j = 4 by omega) with rfl | rfl | rfl | rfl | rfl <;> rfl) (Nat.le_of_ble_eq_true rfl) (Nat.le_of_ble_eq_true rfl) dX8_init_121 (fun H hW => ?_)
  have hW : WE g _ (56) s.heap H locs := hW
  refine lv_dup hx hb dX8_init_124 rfl ?_
  refine ce_sz (n0 := 1) (n := 56) (k := 55) hs0 rfl hW rfl (fun hsz => ?_)
  refine ce_cIN (rest := [.ref (g.2.2.1 + 55), .int 5, .ref (g.2.2.1 + 6)]) (n := 56) C0 hW hsz (c_X6_init (h := 55) (by simp [va_up, eX6, eX3, eX1, eX0, eX4, eX5, hE] <;> omega)) ⟨va_cnB 0 hts (GT_code wc18) rfl rfl rfl (hKS.2.2.1 (RX8, 9, yX6_init, RX8) (List.mem_of_getElem? (i := 0) (by decide +kernel))) (hts _ wd412) ⟨by decide +kernel, by decide +kernel, by decide +kernel⟩ ⟨Nat.le_of_ble_eq_true rfl, Nat.le_of_ble_eq_true rfl⟩, rfl, hts _ wc19⟩ rfl hl.1 rfl (Nat.le_of_ble_eq_true rfl) ⟨Nat.le_of_ble_eq_true rfl, Nat.le_of_ble_eq_true rfl⟩ dX8_init_125 (fun H locs hW => ?_)
  have hW : WE g _ (60) s.heap H locs := hW
  refine ce_ast C0 hW (a := 6) (k := 55) (N := 6) (q := 13) (j := 4) (ci := 6) (f := (va_up (va_up (va_up (va_up (va_up (fun _ => none) 0 (some (g.2.2.1 + 30))) 1 (some (g.2.2.1 + 35))) 2 (some (g.2.2.1 + 40))) 3 (some (g.2.2.1 + 45))) 4 (some (g.2.2.1 + 50)))) (fs := [.ref (g.2.2.1 + 56), .ref (g.2.2.1 + 57), .ref (g.2.2.1 + 58), .ref (g.2.2.1 + 59), .int 0]) (i0 := 5) (by omega) (by simp [va_up, eX6, eX3, eX1, eX0, eX4, eX5, hE] <;> omega) rfl (by omega) (by simp [va_up, eX6, eX3, eX1, eX0, eX4, eX5, hE] <;> omega) rfl (by decide) vin_5_6 dX8_init_128 (fun H locs hW => ?_)
  refine lv_iinc (k := 0) (v := 6) (lv' := [(1, .int 6), (0, .ref (g.2.2.1 + 0))]) hx hb dX8_init_129 hl rfl (by decide) (Nat.le_of_ble_eq_true rfl) rfl (fun ls hl => ?_)
  refine lv_goto (tgt := 110) hx hb dX8_init_132 rfl ?_
  refine lv_iload_n hx hb dX8_init_110 rfl (lv_at hl 0 rfl) ?_
  refine lv_bipush (v := 6) hx hb dX8_init_111 (by decide) ?_
  refine lv_icmp_ge (tgt := 135) hx hb dX8_init_113 rfl (fun _ => ?_) (fun hc => absurd (by decide) hc)
  refine lv_iconst (v := 0) hx hb dX8_init_135 (by decide) ?_
  refine lv_istore_n (lv' := [(1, .int 0), (0, .ref (g.2.2.1 + 0))]) hx hb dX8_init_136 rfl hl (Nat.le_of_ble_eq_true rfl) rfl (fun ls hl => ?_)
  refine lv_iload_n hx hb dX8_init_137 rfl (lv_at hl 0 rfl) ?_
  refine lv_iconst (v := 2) hx hb dX8_init_138 (by decide) ?_
  refine lv_icmp_ge (tgt := 161) hx hb dX8_init_139 rfl (fun hc => absurd hc (by decide)) (fun _ => ?_)
  refine lv_aload_n hx hb dX8_init_142 rfl (lv_at hl 1 rfl) ?_
  refine ce_get (v := .ref (g.2.2.1 + 7)) C0 hW (k := 0) (ci := 7) (fs := [.ref (g.2.2.1 + 1), .ref (g.2.2.1 + 6), .int 0, .ref (g.2.2.1 + 7), .ref (g.2.2.1 + 8), .ref (g.2.2.1 + 9), .int 0, .ref (g.2.2.1 + 10), .ref (g.2.2.1 + 11), .ref (g.2.2.1 + 16), .ref (g.2.2.1 + 19), .ref (g.2.2.1 + 24)]) (by omega) (by simp [va_up, eX6, eX3, eX1, eX0, eX4, eX5, hE] <;> omega) rfl inG7 3 (by decide) wd72 rfl rfl dX8_init_143 ?_
  refine lv_iload_n hx hb dX8_init_146 rfl (lv_at hl 0 rfl) ?_
  refine ce_sz (n0 := 1) (n := 60) (k := 59) hs0 rfl hW rfl (fun hsz => ?_)
  refine ce_new (n := 60) C0 hW hsz (ci := 6) rfl wc16 wc17 wd412 inG6 tyX6 tyX6_ok [.null, .null, .null, .null, .int 0] (fun j hj => by rcases (show j = 0 ∨ j = 1 ∨ j = 2 ∨ j = 3 ∨ j = 4 by omega) with rfl | rfl | rfl | rfl | rfl <;> rfl) (Nat.le_of_ble_eq_true rfl) (Nat.le_of_ble_eq_true rfl) dX8_init_147 (fun H hW => ?_)
  have hW : WE g _ (61) s.heap H locs := hW
  refine lv_dup hx hb dX8_init_150 rfl ?_
  refine ce_sz (n0 := 1) (n := 61) (k := 60) hs0 rfl hW rfl (fun hsz => ?_)
  refine ce_cIN (rest := [.ref (g.2.2.1 + 60), .int 0, .ref (g.2.2.1 + 7)]) (n := 61) C0 hW hsz (c_X6_init (h := 60) (by simp [va_up, eX6, eX3, eX1, eX0, eX4, eX5, hE] <;> omega)) ⟨va_cnB 0 hts (GT_code wc18) rfl rfl rfl (hKS.2.2.1 (RX8, 9, yX6_init, RX8) (List.mem_of_getElem? (i := 0) (by decide +kernel))) (hts _ wd412) ⟨by decide +kernel, by decide +kernel, by decide +kernel⟩ ⟨Nat.le_of_ble_eq_true rfl, Nat.le_of_ble_eq_true rfl⟩, rfl, hts _ wc19⟩ rfl hl.1 rfl (Nat.le_of_ble_eq_true rfl) ⟨Nat.le_of_ble_eq_true rfl, Nat.le_of_ble_eq_true rfl⟩ dX8_init_151 (fun H locs hW => ?_)
  have hW : WE g _ (65) s.heap H locs := hW
  refine ce_ast C0 hW (a := 7) (k := 60) (N := 2) (q := 13) (j := 4) (ci := 6) (f := (fun _ => none)) (fs := [.ref (g.2.2.1 + 61), .ref (g.2.2.1 + 62), .ref (g.2.2.1 + 63), .ref (g.2.2.1 + 64), .int 0]) (i0 := 0) (by omega) (by simp [va_up, eX6, eX3, eX1, eX0, eX4, eX5, hE] <;> omega) rfl (by omega) (by simp [va_up, eX6, eX3, eX1, eX0, eX4, eX5, hE] <;> omega) rfl (by decide) vin_0_2 dX8_init_154 (fun H locs hW => ?_)
  refine lv_iinc (k := 0) (v := 1) (lv' := [(1, .int 1), (0, .ref (g.2.2.1 + 0))]) hx hb dX8_init_155 hl rfl (by decide) (Nat.le_of_ble_eq_true rfl) rfl (fun ls hl => ?_)
  refine lv_goto (tgt := 137) hx hb dX8_init_158 rfl ?_
  refine lv_iload_n hx hb dX8_init_137 rfl (lv_at hl 0 rfl) ?_
  refine lv_iconst (v := 2) hx hb dX8_init_138 (by decide) ?_
  refine lv_icmp_ge (tgt := 161) hx hb dX8_init_139 rfl (fun hc => absurd hc (by decide)) (fun _ => ?_)
  refine lv_aload_n hx hb dX8_init_142 rfl (lv_at hl 1 rfl) ?_
  refine ce_get (v := .ref (g.2.2.1 + 7)) C0 hW (k := 0) (ci := 7) (fs := [.ref (g.2.2.1 + 1), .ref (g.2.2.1 + 6), .int 0, .ref (g.2.2.1 + 7), .ref (g.2.2.1 + 8), .ref (g.2.2.1 + 9), .int 0, .ref (g.2.2.1 + 10), .ref (g.2.2.1 + 11), .ref (g.2.2.1 + 16), .ref (g.2.2.1 + 19), .ref (g.2.2.1 + 24)]) (by omega) (by simp [va_up, eX6, eX3, eX1, eX0, eX4, eX5, hE] <;> omega) rfl inG7 3 (by decide) wd72 rfl rfl dX8_init_143 ?_
  refine lv_iload_n hx hb dX8_init_146 rfl (lv_at hl 0 rfl) ?_
  refine ce_sz (n0 := 1) (n := 65) (k := 64) hs0 rfl hW rfl (fun hsz => ?_)
  refine ce_new (n := 65) C0 hW hsz (ci := 6) rfl wc16 wc17 wd412 inG6 tyX6 tyX6_ok [.null, .null, .null, .null, .int 0] (fun j hj => by rcases (show j = 0 ∨ j = 1 ∨ j = 2 ∨ j = 3 ∨ j = 4 by omega) with rfl | rfl | rfl | rfl | rfl <;> rfl) (Nat.le_of_ble_eq_true rfl) (Nat.le_of_ble_eq_true rfl) dX8_init_147 (fun H hW => ?_)
  have hW : WE g _ (66) s.heap H locs := hW
  refine lv_dup hx hb dX8_init_150 rfl ?_
  refine ce_sz (n0 := 1) (n := 66) (k := 65) hs0 rfl hW rfl (fun hsz => ?_)
  refine ce_cIN (rest := [.ref (g.2.2.1 + 65), .int 1, .ref (g.2.2.1 + 7)]) (n := 66) C0 hW hsz (c_X6_init (h := 65) (by simp [va_up, eX6, eX3, eX1, eX0, eX4, eX5, hE] <;> omega)) ⟨va_cnB 0 hts (GT_code wc18) rfl rfl rfl (hKS.2.2.1 (RX8, 9, yX6_init, RX8) (List.mem_of_getElem? (i := 0) (by decide +kernel))) (hts _ wd412) ⟨by decide +kernel, by decide +kernel, by decide +kernel⟩ ⟨Nat.le_of_ble_eq_true rfl, Nat.le_of_ble_eq_true rfl⟩, rfl, hts _ wc19⟩ rfl hl.1 rfl (Nat.le_of_ble_eq_true rfl) ⟨Nat.le_of_ble_eq_true rfl, Nat.le_of_ble_eq_true rfl⟩ dX8_init_151 (fun H locs hW => ?_)
  have hW : WE g _ (70) s.heap H locs := hW
  refine ce_ast C0 hW (a := 7) (k := 65) (N := 2) (q := 13) (j := 4) (ci := 6) (f := (va_up (fun _ => none) 0 (some (g.2.2.1 + 60)))) (fs := [.ref (g.2.2.1 + 66), .ref (g.2.2.1 + 67), .ref (g.2.2.1 + 68), .ref (g.2.2.1 + 69), .int 0]) (i0 := 1) (by omega) (by simp [va_up, eX6, eX3, eX1, eX0, eX4, eX5, hE] <;> omega) rfl (by omega) (by simp [va_up, eX6, eX3, eX1, eX0, eX4, eX5, hE] <;> omega) rfl (by decide) vin_1_2 dX8_init_154 (fun H locs hW => ?_)
  refine lv_iinc (k := 0) (v := 2) (lv' := [(1, .int 2), (0, .ref (g.2.2.1 + 0))]) hx hb dX8_init_155 hl rfl (by decide) (Nat.le_of_ble_eq_true rfl) rfl (fun ls hl => ?_)
  refine lv_goto (tgt := 137) hx hb dX8_init_158 rfl ?_
  refine lv_iload_n hx hb dX8_init_137 rfl (lv_at hl 0 rfl) ?_
  refine lv_iconst (v := 2) hx hb dX8_init_138 (by decide) ?_
  refine lv_icmp_ge (tgt := 161) hx hb dX8_init_139 rfl (fun _ => ?_) (fun hc => absurd (by decide) hc)
  refine ce_sz (n0 := 1) (n := 70) (k := 69) hs0 rfl hW rfl (fun hsz => ?_)
  exact ce_ret (E := eX8 g E 0) (n := 70) C0 hW hsz (Nat.le_of_ble_eq_true rfl) (Nat.le_of_ble_eq_true rfl) dX8_init_161
end CTN
