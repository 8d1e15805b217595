/-! limits: the walk -/
section LMW
abbrev rmL_limits : Room := { frames := 12, cells := 118, slots := 3705, locals := 245 }
theorem ls_limits {Rm : Room} {s : State} {args : Array Value} (ht : ∀ w ∈ GT, w.before args s = true) (hR : rmL_limits.frames + 1 ≤ Rm.frames ∧ 8 + (2 + 11) + rmL_limits.locals ≤ Rm.locals) : CallB Rm s args RL 299 yL_limits cL_limits 2 (some .boolean) (Cond.code yL_limits cL_limits 2 (some .boolean) :: GT) rmL_limits 118 3705 0 ∧ (Cond.static yL_limits).before args s = true := va_cwS 0 ht (goodS wl160 wl162 wl27 wl161) rfl rfl rfl ⟨by decide +kernel, by decide +kernel, by decide +kernel⟩ hR
variable {p : Program} {l : Launch} {e : Env} {Rm : Room} {s : State} {m : MethodId} {args : Array Value} {below : List Frame} {meth : Method} {c : Code} {H : Heap} {locs : List Loc} {cells slots : Nat} {Q : State → Prop}
variable {cc : ByteArray} {pc : Nat} {ls : Array Slot} {rest : List Value} {g : Gam} {σ : Gst} {b : Bool} {Z : Zed} {nL : Nat} {ret : Option FieldType}
set_option maxHeartbeats 2000000 in
theorem lm_0 (hfl : l.stackTraces = false) (C0 : CX g p s m args meth c RL cL_limits 2 (some .boolean)) (hl : lv_has ls 2 [(0, .ref (g.2.2.1 + 0))]) (hW : WA g lgn0 false Z0 s.heap H locs) (hK : ∀ (H : Heap) (locs : List Loc) (ls : Array Slot), WA g lgn12 false Z0 s.heap H locs → lv_has ls 2 [(1, .int 11), (0, .ref (g.2.2.1 + 0))] → W p l e rmL_limits s m args below meth c H locs 70 2145 (MQ below (QB g) args s rmL_limits.cells rmL_limits.slots (AA g)) (F0 m 36 ls [])) : W p l e rmL_limits s m args below meth c H locs 70 2145 (MQ below (QB g) args s rmL_limits.cells rmL_limits.slots (AA g)) (F0 m 8 ls []) := by
  have hx := C0.1; have hb := C0.2.1; have hown := C0.2.2.2.2.1; have hts := C0.2.2.2.2.2.1
  refine lv_iconst (v := 0) hx hb dL_limits_8 (by decide) ?_
  refine lv_istore_n (lv' := [(1, .int 0), (0, .ref (g.2.2.1 + 0))]) hx hb dL_limits_9 rfl hl (Nat.le_of_ble_eq_true rfl) rfl (fun ls hl => ?_)
  refine lv_iload_n hx hb dL_limits_10 rfl (lv_at hl 0 rfl) ?_
  refine lv_bipush (v := 16) hx hb dL_limits_11 (by decide) ?_
  refine lv_icmp_ge (tgt := 42) hx hb dL_limits_13 rfl (fun hc => absurd hc (by decide)) (fun _ => ?_)
  refine lv_aload_n hx hb dL_limits_16 rfl (lv_at hl 1 rfl) ?_
  refine lv_iconst (v := 1) hx hb dL_limits_17 (by decide) ?_
  refine lv_iload_n hx hb dL_limits_18 rfl (lv_at hl 0 rfl) ?_
  refine lv_bipush (v := 99) hx hb dL_limits_19 (by decide) ?_
  refine lv_iload_n hx hb dL_limits_21 rfl (lv_at hl 0 rfl) ?_
  refine lv_isub hx hb dL_limits_22 ?_
  rw [(by decide : (99 : Int32) - (0 : Int32) = 99)]
  refine lv_iconst (v := (-1)) hx hb dL_limits_23 (by decide) ?_
  refine lv_iload_n hx hb dL_limits_24 rfl (lv_at hl 0 rfl) ?_
  refine lv_iconst (v := 3) hx hb dL_limits_25 (by decide) ?_
  refine lv_irem hx hb dL_limits_26 (by decide) ?_
  rw [(by decide : (0 : Int32) - (0 : Int32) / (3 : Int32) * (3 : Int32) = 0)]
  refine ar_add (rest := []) C0 hl.1 hW lfk1 (To_eq lfk2) ⟨Nat.le_of_ble_eq_true rfl, Nat.le_of_ble_eq_true rfl⟩ (Nat.le_of_ble_eq_true rfl) ⟨Nat.le_of_ble_eq_true rfl, Nat.le_of_ble_eq_true rfl⟩ dL_limits_27 (fun H locs hW => ?_)
  refine lv_iload_n hx hb dL_limits_30 rfl (lv_at hl 0 rfl) ?_
  refine lv_icmp_eq (tgt := 36) hx hb dL_limits_31 rfl (fun _ => ?_) (fun hc => absurd (by decide) hc)
  refine lv_iinc (k := 0) (v := 1) (lv' := [(1, .int 1), (0, .ref (g.2.2.1 + 0))]) hx hb dL_limits_36 hl rfl (by decide) (Nat.le_of_ble_eq_true rfl) rfl (fun ls hl => ?_)
  refine lv_goto (tgt := 10) hx hb dL_limits_39 rfl ?_
  refine lv_iload_n hx hb dL_limits_10 rfl (lv_at hl 0 rfl) ?_
  refine lv_bipush (v := 16) hx hb dL_limits_11 (by decide) ?_
  refine lv_icmp_ge (tgt := 42) hx hb dL_limits_13 rfl (fun hc => absurd hc (by decide)) (fun _ => ?_)
  refine lv_aload_n hx hb dL_limits_16 rfl (lv_at hl 1 rfl) ?_
  refine lv_iconst (v := 1) hx hb dL_limits_17 (by decide) ?_
  refine lv_iload_n hx hb dL_limits_18 rfl (lv_at hl 0 rfl) ?_
  refine lv_bipush (v := 99) hx hb dL_limits_19 (by decide) ?_
  refine lv_iload_n hx hb dL_limits_21 rfl (lv_at hl 0 rfl) ?_
  refine lv_isub hx hb dL_limits_22 ?_
  rw [(by decide : (99 : Int32) - (1 : Int32) = 98)]
  refine lv_iconst (v := (-1)) hx hb dL_limits_23 (by decide) ?_
  refine lv_iload_n hx hb dL_limits_24 rfl (lv_at hl 0 rfl) ?_
  refine lv_iconst (v := 3) hx hb dL_limits_25 (by decide) ?_
  refine lv_irem hx hb dL_limits_26 (by decide) ?_
  rw [(by decide : (1 : Int32) - (1 : Int32) / (3 : Int32) * (3 : Int32) = 1)]
  refine ar_add (rest := []) C0 hl.1 hW lfk3 (To_eq lfk4) ⟨Nat.le_of_ble_eq_true rfl, Nat.le_of_ble_eq_true rfl⟩ (Nat.le_of_ble_eq_true rfl) ⟨Nat.le_of_ble_eq_true rfl, Nat.le_of_ble_eq_true rfl⟩ dL_limits_27 (fun H locs hW => ?_)
  refine lv_iload_n hx hb dL_limits_30 rfl (lv_at hl 0 rfl) ?_
  refine lv_icmp_eq (tgt := 36) hx hb dL_limits_31 rfl (fun _ => ?_) (fun hc => absurd (by decide) hc)
  refine lv_iinc (k := 0) (v := 2) (lv' := [(1, .int 2), (0, .ref (g.2.2.1 + 0))]) hx hb dL_limits_36 hl rfl (by decide) (Nat.le_of_ble_eq_true rfl) rfl (fun ls hl => ?_)
  refine lv_goto (tgt := 10) hx hb dL_limits_39 rfl ?_
  refine lv_iload_n hx hb dL_limits_10 rfl (lv_at hl 0 rfl) ?_
  refine lv_bipush (v := 16) hx hb dL_limits_11 (by decide) ?_
  refine lv_icmp_ge (tgt := 42) hx hb dL_limits_13 rfl (fun hc => absurd hc (by decide)) (fun _ => ?_)
  refine lv_aload_n hx hb dL_limits_16 rfl (lv_at hl 1 rfl) ?_
  refine lv_iconst (v := 1) hx hb dL_limits_17 (by decide) ?_
  refine lv_iload_n hx hb dL_limits_18 rfl (lv_at hl 0 rfl) ?_
  refine lv_bipush (v := 99) hx hb dL_limits_19 (by decide) ?_
  refine lv_iload_n hx hb dL_limits_21 rfl (lv_at hl 0 rfl) ?_
  refine lv_isub hx hb dL_limits_22 ?_
  rw [(by decide : (99 : Int32) - (2 : Int32) = 97)]
  refine lv_iconst (v := (-1)) hx hb dL_limits_23 (by decide) ?_
  refine lv_iload_n hx hb dL_limits_24 rfl (lv_at hl 0 rfl) ?_
  refine lv_iconst (v := 3) hx hb dL_limits_25 (by decide) ?_
  refine lv_irem hx hb dL_limits_26 (by decide) ?_
  rw [(by decide : (2 : Int32) - (2 : Int32) / (3 : Int32) * (3 : Int32) = 2)]
  refine ar_add (rest := []) C0 hl.1 hW lfk5 (To_eq lfk6) ⟨Nat.le_of_ble_eq_true rfl, Nat.le_of_ble_eq_true rfl⟩ (Nat.le_of_ble_eq_true rfl) ⟨Nat.le_of_ble_eq_true rfl, Nat.le_of_ble_eq_true rfl⟩ dL_limits_27 (fun H locs hW => ?_)
  refine lv_iload_n hx hb dL_limits_30 rfl (lv_at hl 0 rfl) ?_
  refine lv_icmp_eq (tgt := 36) hx hb dL_limits_31 rfl (fun _ => ?_) (fun hc => absurd (by decide) hc)
  refine lv_iinc (k := 0) (v := 3) (lv' := [(1, .int 3), (0, .ref (g.2.2.1 + 0))]) hx hb dL_limits_36 hl rfl (by decide) (Nat.le_of_ble_eq_true rfl) rfl (fun ls hl => ?_)
  refine lv_goto (tgt := 10) hx hb dL_limits_39 rfl ?_
  refine lv_iload_n hx hb dL_limits_10 rfl (lv_at hl 0 rfl) ?_
  refine lv_bipush (v := 16) hx hb dL_limits_11 (by decide) ?_
  refine lv_icmp_ge (tgt := 42) hx hb dL_limits_13 rfl (fun hc => absurd hc (by decide)) (fun _ => ?_)
  refine lv_aload_n hx hb dL_limits_16 rfl (lv_at hl 1 rfl) ?_
  refine lv_iconst (v := 1) hx hb dL_limits_17 (by decide) ?_
  refine lv_iload_n hx hb dL_limits_18 rfl (lv_at hl 0 rfl) ?_
  refine lv_bipush (v := 99) hx hb dL_limits_19 (by decide) ?_
  refine lv_iload_n hx hb dL_limits_21 rfl (lv_at hl 0 rfl) ?_
  refine lv_isub hx hb dL_limits_22 ?_
  rw [(by decide : (99 : Int32) - (3 : Int32) = 96)]
  refine lv_iconst (v := (-1)) hx hb dL_limits_23 (by decide) ?_
  refine lv_iload_n hx hb dL_limits_24 rfl (lv_at hl 0 rfl) ?_
  refine lv_iconst (v := 3) hx hb dL_limits_25 (by decide) ?_
  refine lv_irem hx hb dL_limits_26 (by decide) ?_
  rw [(by decide : (3 : Int32) - (3 : Int32) / (3 : Int32) * (3 : Int32) = 0)]
  refine ar_add (rest := []) C0 hl.1 hW lfk7 (To_eq lfk8) ⟨Nat.le_of_ble_eq_true rfl, Nat.le_of_ble_eq_true rfl⟩ (Nat.le_of_ble_eq_true rfl) ⟨Nat.le_of_ble_eq_true rfl, Nat.le_of_ble_eq_true rfl⟩ dL_limits_27 (fun H locs hW => ?_)
  refine lv_iload_n hx hb dL_limits_30 rfl (lv_at hl 0 rfl) ?_
  refine lv_icmp_eq (tgt := 36) hx hb dL_limits_31 rfl (fun _ => ?_) (fun hc => absurd (by decide) hc)
  refine lv_iinc (k := 0) (v := 4) (lv' := [(1, .int 4), (0, .ref (g.2.2.1 + 0))]) hx hb dL_limits_36 hl rfl (by decide) (Nat.le_of_ble_eq_true rfl) rfl (fun ls hl => ?_)
  refine lv_goto (tgt := 10) hx hb dL_limits_39 rfl ?_
  refine lv_iload_n hx hb dL_limits_10 rfl (lv_at hl 0 rfl) ?_
  refine lv_bipush (v := 16) hx hb dL_limits_11 (by decide) ?_
  refine lv_icmp_ge (tgt := 42) hx hb dL_limits_13 rfl (fun hc => absurd hc (by decide)) (fun _ => ?_)
  refine lv_aload_n hx hb dL_limits_16 rfl (lv_at hl 1 rfl) ?_
  refine lv_iconst (v := 1) hx hb dL_limits_17 (by decide) ?_
  refine lv_iload_n hx hb dL_limits_18 rfl (lv_at hl 0 rfl) ?_
  refine lv_bipush (v := 99) hx hb dL_limits_19 (by decide) ?_
  refine lv_iload_n hx hb dL_limits_21 rfl (lv_at hl 0 rfl) ?_
  refine lv_isub hx hb dL_limits_22 ?_
  rw [(by decide : (99 : Int32) - (4 : Int32) = 95)]
  refine lv_iconst (v := (-1)) hx hb dL_limits_23 (by decide) ?_
  refine lv_iload_n hx hb dL_limits_24 rfl (lv_at hl 0 rfl) ?_
  refine lv_iconst (v := 3) hx hb dL_limits_25 (by decide) ?_
  refine lv_irem hx hb dL_limits_26 (by decide) ?_
  rw [(by decide : (4 : Int32) - (4 : Int32) / (3 : Int32) * (3 : Int32) = 1)]
  refine ar_add (rest := []) C0 hl.1 hW lfk9 (To_eq lfk10) ⟨Nat.le_of_ble_eq_true rfl, Nat.le_of_ble_eq_true rfl⟩ (Nat.le_of_ble_eq_true rfl) ⟨Nat.le_of_ble_eq_true rfl, Nat.le_of_ble_eq_true rfl⟩ dL_limits_27 (fun H locs hW => ?_)
  refine lv_iload_n hx hb dL_limits_30 rfl (lv_at hl 0 rfl) ?_
  refine lv_icmp_eq (tgt := 36) hx hb dL_limits_31 rfl (fun _ => ?_) (fun hc => absurd (by decide) hc)
  refine lv_iinc (k := 0) (v := 5) (lv' := [(1, .int 5), (0, .ref (g.2.2.1 + 0))]) hx hb dL_limits_36 hl rfl (by decide) (Nat.le_of_ble_eq_true rfl) rfl (fun ls hl => ?_)
  refine lv_goto (tgt := 10) hx hb dL_limits_39 rfl ?_
  refine lv_iload_n hx hb dL_limits_10 rfl (lv_at hl 0 rfl) ?_
  refine lv_bipush (v := 16) hx hb dL_limits_11 (by decide) ?_
  refine lv_icmp_ge (tgt := 42) hx hb dL_limits_13 rfl (fun hc => absurd hc (by decide)) (fun _ => ?_)
  refine lv_aload_n hx hb dL_limits_16 rfl (lv_at hl 1 rfl) ?_
  refine lv_iconst (v := 1) hx hb dL_limits_17 (by decide) ?_
  refine lv_iload_n hx hb dL_limits_18 rfl (lv_at hl 0 rfl) ?_
  refine lv_bipush (v := 99) hx hb dL_limits_19 (by decide) ?_
  refine lv_iload_n hx hb dL_limits_21 rfl (lv_at hl 0 rfl) ?_
  refine lv_isub hx hb dL_limits_22 ?_
  rw [(by decide : (99 : Int32) - (5 : Int32) = 94)]
  refine lv_iconst (v := (-1)) hx hb dL_limits_23 (by decide) ?_
  refine lv_iload_n hx hb dL_limits_24 rfl (lv_at hl 0 rfl) ?_
  refine lv_iconst (v := 3) hx hb dL_limits_25 (by decide) ?_
  refine lv_irem hx hb dL_limits_26 (by decide) ?_
  rw [(by decide : (5 : Int32) - (5 : Int32) / (3 : Int32) * (3 : Int32) = 2)]
  refine ar_add (rest := []) C0 hl.1 hW lfk11 (To_eq lfk12) ⟨Nat.le_of_ble_eq_true rfl, Nat.le_of_ble_eq_true rfl⟩ (Nat.le_of_ble_eq_true rfl) ⟨Nat.le_of_ble_eq_true rfl, Nat.le_of_ble_eq_true rfl⟩ dL_limits_27 (fun H locs hW => ?_)
  refine lv_iload_n hx hb dL_limits_30 rfl (lv_at hl 0 rfl) ?_
  refine lv_icmp_eq (tgt := 36) hx hb dL_limits_31 rfl (fun _ => ?_) (fun hc => absurd (by decide) hc)
  refine lv_iinc (k := 0) (v := 6) (lv' := [(1, .int 6), (0, .ref (g.2.2.1 + 0))]) hx hb dL_limits_36 hl rfl (by decide) (Nat.le_of_ble_eq_true rfl) rfl (fun ls hl => ?_)
  refine lv_goto (tgt := 10) hx hb dL_limits_39 rfl ?_
  refine lv_iload_n hx hb dL_limits_10 rfl (lv_at hl 0 rfl) ?_
  refine lv_bipush (v := 16) hx hb dL_limits_11 (by decide) ?_
  refine lv_icmp_ge (tgt := 42) hx hb dL_limits_13 rfl (fun hc => absurd hc (by decide)) (fun _ => ?_)
  refine lv_aload_n hx hb dL_limits_16 rfl (lv_at hl 1 rfl) ?_
  refine lv_iconst (v := 1) hx hb dL_limits_17 (by decide) ?_
  refine lv_iload_n hx hb dL_limits_18 rfl (lv_at hl 0 rfl) ?_
  refine lv_bipush (v := 99) hx hb dL_limits_19 (by decide) ?_
  refine lv_iload_n hx hb dL_limits_21 rfl (lv_at hl 0 rfl) ?_
  refine lv_isub hx hb dL_limits_22 ?_
  rw [(by decide : (99 : Int32) - (6 : Int32) = 93)]
  refine lv_iconst (v := (-1)) hx hb dL_limits_23 (by decide) ?_
  refine lv_iload_n hx hb dL_limits_24 rfl (lv_at hl 0 rfl) ?_
  refine lv_iconst (v := 3) hx hb dL_limits_25 (by decide) ?_
  refine lv_irem hx hb dL_limits_26 (by decide) ?_
  rw [(by decide : (6 : Int32) - (6 : Int32) / (3 : Int32) * (3 : Int32) = 0)]
  refine ar_add (rest := []) C0 hl.1 hW lfk13 (To_eq lfk14) ⟨Nat.le_of_ble_eq_true rfl, Nat.le_of_ble_eq_true rfl⟩ (Nat.le_of_ble_eq_true rfl) ⟨Nat.le_of_ble_eq_true rfl, Nat.le_of_ble_eq_true rfl⟩ dL_limits_27 (fun H locs hW => ?_)
  refine lv_iload_n hx hb dL_limits_30 rfl (lv_at hl 0 rfl) ?_
  refine lv_icmp_eq (tgt := 36) hx hb dL_limits_31 rfl (fun _ => ?_) (fun hc => absurd (by decide) hc)
  refine lv_iinc (k := 0) (v := 7) (lv' := [(1, .int 7), (0, .ref (g.2.2.1 + 0))]) hx hb dL_limits_36 hl rfl (by decide) (Nat.le_of_ble_eq_true rfl) rfl (fun ls hl => ?_)
  refine lv_goto (tgt := 10) hx hb dL_limits_39 rfl ?_
  refine lv_iload_n hx hb dL_limits_10 rfl (lv_at hl 0 rfl) ?_
  refine lv_bipush (v := 16) hx hb dL_limits_11 (by decide) ?_
  refine lv_icmp_ge (tgt := 42) hx hb dL_limits_13 rfl (fun hc => absurd hc (by decide)) (fun _ => ?_)
  refine lv_aload_n hx hb dL_limits_16 rfl (lv_at hl 1 rfl) ?_
  refine lv_iconst (v := 1) hx hb dL_limits_17 (by decide) ?_
  refine lv_iload_n hx hb dL_limits_18 rfl (lv_at hl 0 rfl) ?_
  refine lv_bipush (v := 99) hx hb dL_limits_19 (by decide) ?_
  refine lv_iload_n hx hb dL_limits_21 rfl (lv_at hl 0 rfl) ?_
  refine lv_isub hx hb dL_limits_22 ?_
  rw [(by decide : (99 : Int32) - (7 : Int32) = 92)]
  refine lv_iconst (v := (-1)) hx hb dL_limits_23 (by decide) ?_
  refine lv_iload_n hx hb dL_limits_24 rfl (lv_at hl 0 rfl) ?_
  refine lv_iconst (v := 3) hx hb dL_limits_25 (by decide) ?_
  refine lv_irem hx hb dL_limits_26 (by decide) ?_
  rw [(by decide : (7 : Int32) - (7 : Int32) / (3 : Int32) * (3 : Int32) = 1)]
  refine ar_add (rest := []) C0 hl.1 hW lfk15 (To_eq lfk16) ⟨Nat.le_of_ble_eq_true rfl, Nat.le_of_ble_eq_true rfl⟩ (Nat.le_of_ble_eq_true rfl) ⟨Nat.le_of_ble_eq_true rfl, Nat.le_of_ble_eq_true rfl⟩ dL_limits_27 (fun H locs hW => ?_)
  refine lv_iload_n hx hb dL_limits_30 rfl (lv_at hl 0 rfl) ?_
  refine lv_icmp_eq (tgt := 36) hx hb dL_limits_31 rfl (fun _ => ?_) (fun hc => absurd (by decide) hc)
  refine lv_iinc (k := 0) (v := 8) (lv' := [(1, .int 8), (0, .ref (g.2.2.1 + 0))]) hx hb dL_limits_36 hl rfl (by decide) (Nat.le_of_ble_eq_true rfl) rfl (fun ls hl => ?_)
  refine lv_goto (tgt := 10) hx hb dL_limits_39 rfl ?_
  refine lv_iload_n hx hb dL_limits_10 rfl (lv_at hl 0 rfl) ?_
  refine lv_bipush (v := 16) hx hb dL_limits_11 (by decide) ?_
  refine lv_icmp_ge (tgt := 42) hx hb dL_limits_13 rfl (fun hc => absurd hc (by decide)) (fun _ => ?_)
  refine lv_aload_n hx hb dL_limits_16 rfl (lv_at hl 1 rfl) ?_
  refine lv_iconst (v := 1) hx hb dL_limits_17 (by decide) ?_
  refine lv_iload_n hx hb dL_limits_18 rfl (lv_at hl 0 rfl) ?_
  refine lv_bipush (v := 99) hx hb dL_limits_19 (by decide) ?_
  refine lv_iload_n hx hb dL_limits_21 rfl (lv_at hl 0 rfl) ?_
  refine lv_isub hx hb dL_limits_22 ?_
  rw [(by decide : (99 : Int32) - (8 : Int32) = 91)]
  refine lv_iconst (v := (-1)) hx hb dL_limits_23 (by decide) ?_
  refine lv_iload_n hx hb dL_limits_24 rfl (lv_at hl 0 rfl) ?_
  refine lv_iconst (v := 3) hx hb dL_limits_25 (by decide) ?_
  refine lv_irem hx hb dL_limits_26 (by decide) ?_
  rw [(by decide : (8 : Int32) - (8 : Int32) / (3 : Int32) * (3 : Int32) = 2)]
  refine ar_add (rest := []) C0 hl.1 hW lfk17 (To_eq lfk18) ⟨Nat.le_of_ble_eq_true rfl, Nat.le_of_ble_eq_true rfl⟩ (Nat.le_of_ble_eq_true rfl) ⟨Nat.le_of_ble_eq_true rfl, Nat.le_of_ble_eq_true rfl⟩ dL_limits_27 (fun H locs hW => ?_)
  refine lv_iload_n hx hb dL_limits_30 rfl (lv_at hl 0 rfl) ?_
  refine lv_icmp_eq (tgt := 36) hx hb dL_limits_31 rfl (fun _ => ?_) (fun hc => absurd (by decide) hc)
  refine lv_iinc (k := 0) (v := 9) (lv' := [(1, .int 9), (0, .ref (g.2.2.1 + 0))]) hx hb dL_limits_36 hl rfl (by decide) (Nat.le_of_ble_eq_true rfl) rfl (fun ls hl => ?_)
  refine lv_goto (tgt := 10) hx hb dL_limits_39 rfl ?_
  refine lv_iload_n hx hb dL_limits_10 rfl (lv_at hl 0 rfl) ?_
  refine lv_bipush (v := 16) hx hb dL_limits_11 (by decide) ?_
  refine lv_icmp_ge (tgt := 42) hx hb dL_limits_13 rfl (fun hc => absurd hc (by decide)) (fun _ => ?_)
  refine lv_aload_n hx hb dL_limits_16 rfl (lv_at hl 1 rfl) ?_
  refine lv_iconst (v := 1) hx hb dL_limits_17 (by decide) ?_
  refine lv_iload_n hx hb dL_limits_18 rfl (lv_at hl 0 rfl) ?_
  refine lv_bipush (v := 99) hx hb dL_limits_19 (by decide) ?_
  refine lv_iload_n hx hb dL_limits_21 rfl (lv_at hl 0 rfl) ?_
  refine lv_isub hx hb dL_limits_22 ?_
  rw [(by decide : (99 : Int32) - (9 : Int32) = 90)]
  refine lv_iconst (v := (-1)) hx hb dL_limits_23 (by decide) ?_
  refine lv_iload_n hx hb dL_limits_24 rfl (lv_at hl 0 rfl) ?_
  refine lv_iconst (v := 3) hx hb dL_limits_25 (by decide) ?_
  refine lv_irem hx hb dL_limits_26 (by decide) ?_
  rw [(by decide : (9 : Int32) - (9 : Int32) / (3 : Int32) * (3 : Int32) = 0)]
  refine ar_add (rest := []) C0 hl.1 hW lfk19 (To_eq lfk20) ⟨Nat.le_of_ble_eq_true rfl, Nat.le_of_ble_eq_true rfl⟩ (Nat.le_of_ble_eq_true rfl) ⟨Nat.le_of_ble_eq_true rfl, Nat.le_of_ble_eq_true rfl⟩ dL_limits_27 (fun H locs hW => ?_)
  refine lv_iload_n hx hb dL_limits_30 rfl (lv_at hl 0 rfl) ?_
  refine lv_icmp_eq (tgt := 36) hx hb dL_limits_31 rfl (fun _ => ?_) (fun hc => absurd (by decide) hc)
  refine lv_iinc (k := 0) (v := 10) (lv' := [(1, .int 10), (0, .ref (g.2.2.1 + 0))]) hx hb dL_limits_36 hl rfl (by decide) (Nat.le_of_ble_eq_true rfl) rfl (fun ls hl => ?_)
  refine lv_goto (tgt := 10) hx hb dL_limits_39 rfl ?_
  refine lv_iload_n hx hb dL_limits_10 rfl (lv_at hl 0 rfl) ?_
  refine lv_bipush (v := 16) hx hb dL_limits_11 (by decide) ?_
  refine lv_icmp_ge (tgt := 42) hx hb dL_limits_13 rfl (fun hc => absurd hc (by decide)) (fun _ => ?_)
  refine lv_aload_n hx hb dL_limits_16 rfl (lv_at hl 1 rfl) ?_
  refine lv_iconst (v := 1) hx hb dL_limits_17 (by decide) ?_
  refine lv_iload_n hx hb dL_limits_18 rfl (lv_at hl 0 rfl) ?_
  refine lv_bipush (v := 99) hx hb dL_limits_19 (by decide) ?_
  refine lv_iload_n hx hb dL_limits_21 rfl (lv_at hl 0 rfl) ?_
  refine lv_isub hx hb dL_limits_22 ?_
  rw [(by decide : (99 : Int32) - (10 : Int32) = 89)]
  refine lv_iconst (v := (-1)) hx hb dL_limits_23 (by decide) ?_
  refine lv_iload_n hx hb dL_limits_24 rfl (lv_at hl 0 rfl) ?_
  refine lv_iconst (v := 3) hx hb dL_limits_25 (by decide) ?_
  refine lv_irem hx hb dL_limits_26 (by decide) ?_
  rw [(by decide : (10 : Int32) - (10 : Int32) / (3 : Int32) * (3 : Int32) = 1)]
  refine ar_add (rest := []) C0 hl.1 hW lfk21 (To_eq lfk22) ⟨Nat.le_of_ble_eq_true rfl, Nat.le_of_ble_eq_true rfl⟩ (Nat.le_of_ble_eq_true rfl) ⟨Nat.le_of_ble_eq_true rfl, Nat.le_of_ble_eq_true rfl⟩ dL_limits_27 (fun H locs hW => ?_)
  refine lv_iload_n hx hb dL_limits_30 rfl (lv_at hl 0 rfl) ?_
  refine lv_icmp_eq (tgt := 36) hx hb dL_limits_31 rfl (fun _ => ?_) (fun hc => absurd (by decide) hc)
  refine lv_iinc (k := 0) (v := 11) (lv' := [(1, .int 11), (0, .ref (g.2.2.1 + 0))]) hx hb dL_limits_36 hl rfl (by decide) (Nat.le_of_ble_eq_true rfl) rfl (fun ls hl => ?_)
  refine lv_goto (tgt := 10) hx hb dL_limits_39 rfl ?_
  refine lv_iload_n hx hb dL_limits_10 rfl (lv_at hl 0 rfl) ?_
  refine lv_bipush (v := 16) hx hb dL_limits_11 (by decide) ?_
  refine lv_icmp_ge (tgt := 42) hx hb dL_limits_13 rfl (fun hc => absurd hc (by decide)) (fun _ => ?_)
  refine lv_aload_n hx hb dL_limits_16 rfl (lv_at hl 1 rfl) ?_
  refine lv_iconst (v := 1) hx hb dL_limits_17 (by decide) ?_
  refine lv_iload_n hx hb dL_limits_18 rfl (lv_at hl 0 rfl) ?_
  refine lv_bipush (v := 99) hx hb dL_limits_19 (by decide) ?_
  refine lv_iload_n hx hb dL_limits_21 rfl (lv_at hl 0 rfl) ?_
  refine lv_isub hx hb dL_limits_22 ?_
  rw [(by decide : (99 : Int32) - (11 : Int32) = 88)]
  refine lv_iconst (v := (-1)) hx hb dL_limits_23 (by decide) ?_
  refine lv_iload_n hx hb dL_limits_24 rfl (lv_at hl 0 rfl) ?_
  refine lv_iconst (v := 3) hx hb dL_limits_25 (by decide) ?_
  refine lv_irem hx hb dL_limits_26 (by decide) ?_
  rw [(by decide : (11 : Int32) - (11 : Int32) / (3 : Int32) * (3 : Int32) = 2)]
  refine ar_add (rest := []) C0 hl.1 hW lfk23 (To_eq lfk24) ⟨Nat.le_of_ble_eq_true rfl, Nat.le_of_ble_eq_true rfl⟩ (Nat.le_of_ble_eq_true rfl) ⟨Nat.le_of_ble_eq_true rfl, Nat.le_of_ble_eq_true rfl⟩ dL_limits_27 (fun H locs hW => ?_)
  refine lv_iload_n hx hb dL_limits_30 rfl (lv_at hl 0 rfl) ?_
  refine lv_icmp_eq (tgt := 36) hx hb dL_limits_31 rfl (fun _ => ?_) (fun hc => absurd (by decide) hc)
  exact W.widen (Nat.le_of_ble_eq_true rfl) (Nat.le_of_ble_eq_true rfl) (hK H locs ls hW hl)
set_option maxHeartbeats 2000000 in
theorem lm_1 (hfl : l.stackTraces = false) (C0 : CX g p s m args meth c RL cL_limits 2 (some .boolean)) (hl : lv_has ls 2 [(1, .int 11), (0, .ref (g.2.2.1 + 0))]) (hW : WA g lgn12 false Z0 s.heap H locs) (hK : ∀ (H : Heap) (locs : List Loc) (ls : Array Slot), WA g lgn16 false Z0 s.heap H locs → lv_has ls 2 [(1, .int 16), (0, .ref (g.2.2.1 + 0))] → W p l e rmL_limits s m args below meth c H locs 74 2275 (MQ below (QB g) args s rmL_limits.cells rmL_limits.slots (AA g)) (F0 m 128 ls [])) : W p l e rmL_limits s m args below meth c H locs 70 2145 (MQ below (QB g) args s rmL_limits.cells rmL_limits.slots (AA g)) (F0 m 36 ls []) := by
  have hx := C0.1; have hb := C0.2.1; have hown := C0.2.2.2.2.1; have hts := C0.2.2.2.2.2.1
  refine lv_iinc (k := 0) (v := 12) (lv' := [(1, .int 12), (0, .ref (g.2.2.1 + 0))]) hx hb dL_limits_36 hl rfl (by decide) (Nat.le_of_ble_eq_true rfl) rfl (fun ls hl => ?_)
  refine lv_goto (tgt := 10) hx hb dL_limits_39 rfl ?_
  refine lv_iload_n hx hb dL_limits_10 rfl (lv_at hl 0 rfl) ?_
  refine lv_bipush (v := 16) hx hb dL_limits_11 (by decide) ?_
  refine lv_icmp_ge (tgt := 42) hx hb dL_limits_13 rfl (fun hc => absurd hc (by decide)) (fun _ => ?_)
  refine lv_aload_n hx hb dL_limits_16 rfl (lv_at hl 1 rfl) ?_
  refine lv_iconst (v := 1) hx hb dL_limits_17 (by decide) ?_
  refine lv_iload_n hx hb dL_limits_18 rfl (lv_at hl 0 rfl) ?_
  refine lv_bipush (v := 99) hx hb dL_limits_19 (by decide) ?_
  refine lv_iload_n hx hb dL_limits_21 rfl (lv_at hl 0 rfl) ?_
  refine lv_isub hx hb dL_limits_22 ?_
  rw [(by decide : (99 : Int32) - (12 : Int32) = 87)]
  refine lv_iconst (v := (-1)) hx hb dL_limits_23 (by decide) ?_
  refine lv_iload_n hx hb dL_limits_24 rfl (lv_at hl 0 rfl) ?_
  refine lv_iconst (v := 3) hx hb dL_limits_25 (by decide) ?_
  refine lv_irem hx hb dL_limits_26 (by decide) ?_
  rw [(by decide : (12 : Int32) - (12 : Int32) / (3 : Int32) * (3 : Int32) = 0)]
  refine ar_add (rest := []) C0 hl.1 hW lfk25 (To_eq lfk26) ⟨Nat.le_of_ble_eq_true rfl, Nat.le_of_ble_eq_true rfl⟩ (Nat.le_of_ble_eq_true rfl) ⟨Nat.le_of_ble_eq_true rfl, Nat.le_of_ble_eq_true rfl⟩ dL_limits_27 (fun H locs hW => ?_)
  refine lv_iload_n hx hb dL_limits_30 rfl (lv_at hl 0 rfl) ?_
  refine lv_icmp_eq (tgt := 36) hx hb dL_limits_31 rfl (fun _ => ?_) (fun hc => absurd (by decide) hc)
  refine lv_iinc (k := 0) (v := 13) (lv' := [(1, .int 13), (0, .ref (g.2.2.1 + 0))]) hx hb dL_limits_36 hl rfl (by decide) (Nat.le_of_ble_eq_true rfl) rfl (fun ls hl => ?_)
  refine lv_goto (tgt := 10) hx hb dL_limits_39 rfl ?_
  refine lv_iload_n hx hb dL_limits_10 rfl (lv_at hl 0 rfl) ?_
  refine lv_bipush (v := 16) hx hb dL_limits_11 (by decide) ?_
  refine lv_icmp_ge (tgt := 42) hx hb dL_limits_13 rfl (fun hc => absurd hc (by decide)) (fun _ => ?_)
  refine lv_aload_n hx hb dL_limits_16 rfl (lv_at hl 1 rfl) ?_
  refine lv_iconst (v := 1) hx hb dL_limits_17 (by decide) ?_
  refine lv_iload_n hx hb dL_limits_18 rfl (lv_at hl 0 rfl) ?_
  refine lv_bipush (v := 99) hx hb dL_limits_19 (by decide) ?_
  refine lv_iload_n hx hb dL_limits_21 rfl (lv_at hl 0 rfl) ?_
  refine lv_isub hx hb dL_limits_22 ?_
  rw [(by decide : (99 : Int32) - (13 : Int32) = 86)]
  refine lv_iconst (v := (-1)) hx hb dL_limits_23 (by decide) ?_
  refine lv_iload_n hx hb dL_limits_24 rfl (lv_at hl 0 rfl) ?_
  refine lv_iconst (v := 3) hx hb dL_limits_25 (by decide) ?_
  refine lv_irem hx hb dL_limits_26 (by decide) ?_
  rw [(by decide : (13 : Int32) - (13 : Int32) / (3 : Int32) * (3 : Int32) = 1)]
  refine ar_add (rest := []) C0 hl.1 hW lfk27 (To_eq lfk28) ⟨Nat.le_of_ble_eq_true rfl, Nat.le_of_ble_eq_true rfl⟩ (Nat.le_of_ble_eq_true rfl) ⟨Nat.le_of_ble_eq_true rfl, Nat.le_of_ble_eq_true rfl⟩ dL_limits_27 (fun H locs hW => ?_)
  refine lv_iload_n hx hb dL_limits_30 rfl (lv_at hl 0 rfl) ?_
  refine lv_icmp_eq (tgt := 36) hx hb dL_limits_31 rfl (fun _ => ?_) (fun hc => absurd (by decide) hc)
  refine lv_iinc (k := 0) (v := 14) (lv' := [(1, .int 14), (0, .ref (g.2.2.1 + 0))]) hx hb dL_limits_36 hl rfl (by decide) (Nat.le_of_ble_eq_true rfl) rfl (fun ls hl => ?_)
  refine lv_goto (tgt := 10) hx hb dL_limits_39 rfl ?_
  refine lv_iload_n hx hb dL_limits_10 rfl (lv_at hl 0 rfl) ?_
  refine lv_bipush (v := 16) hx hb dL_limits_11 (by decide) ?_
  refine lv_icmp_ge (tgt := 42) hx hb dL_limits_13 rfl (fun hc => absurd hc (by decide)) (fun _ => ?_)
  refine lv_aload_n hx hb dL_limits_16 rfl (lv_at hl 1 rfl) ?_
  refine lv_iconst (v := 1) hx hb dL_limits_17 (by decide) ?_
  refine lv_iload_n hx hb dL_limits_18 rfl (lv_at hl 0 rfl) ?_
  refine lv_bipush (v := 99) hx hb dL_limits_19 (by decide) ?_
  refine lv_iload_n hx hb dL_limits_21 rfl (lv_at hl 0 rfl) ?_
  refine lv_isub hx hb dL_limits_22 ?_
  rw [(by decide : (99 : Int32) - (14 : Int32) = 85)]
  refine lv_iconst (v := (-1)) hx hb dL_limits_23 (by decide) ?_
  refine lv_iload_n hx hb dL_limits_24 rfl (lv_at hl 0 rfl) ?_
  refine lv_iconst (v := 3) hx hb dL_limits_25 (by decide) ?_
  refine lv_irem hx hb dL_limits_26 (by decide) ?_
  rw [(by decide : (14 : Int32) - (14 : Int32) / (3 : Int32) * (3 : Int32) = 2)]
  refine ar_add (rest := []) C0 hl.1 hW lfk29 (To_eq lfk30) ⟨Nat.le_of_ble_eq_true rfl, Nat.le_of_ble_eq_true rfl⟩ (Nat.le_of_ble_eq_true rfl) ⟨Nat.le_of_ble_eq_true rfl, Nat.le_of_ble_eq_true rfl⟩ dL_limits_27 (fun H locs hW => ?_)
  refine lv_iload_n hx hb dL_limits_30 rfl (lv_at hl 0 rfl) ?_
  refine lv_icmp_eq (tgt := 36) hx hb dL_limits_31 rfl (fun _ => ?_) (fun hc => absurd (by decide) hc)
  refine lv_iinc (k := 0) (v := 15) (lv' := [(1, .int 15), (0, .ref (g.2.2.1 + 0))]) hx hb dL_limits_36 hl rfl (by decide) (Nat.le_of_ble_eq_true rfl) rfl (fun ls hl => ?_)
  refine lv_goto (tgt := 10) hx hb dL_limits_39 rfl ?_
  refine lv_iload_n hx hb dL_limits_10 rfl (lv_at hl 0 rfl) ?_
  refine lv_bipush (v := 16) hx hb dL_limits_11 (by decide) ?_
  refine lv_icmp_ge (tgt := 42) hx hb dL_limits_13 rfl (fun hc => absurd hc (by decide)) (fun _ => ?_)
  refine lv_aload_n hx hb dL_limits_16 rfl (lv_at hl 1 rfl) ?_
  refine lv_iconst (v := 1) hx hb dL_limits_17 (by decide) ?_
  refine lv_iload_n hx hb dL_limits_18 rfl (lv_at hl 0 rfl) ?_
  refine lv_bipush (v := 99) hx hb dL_limits_19 (by decide) ?_
  refine lv_iload_n hx hb dL_limits_21 rfl (lv_at hl 0 rfl) ?_
  refine lv_isub hx hb dL_limits_22 ?_
  rw [(by decide : (99 : Int32) - (15 : Int32) = 84)]
  refine lv_iconst (v := (-1)) hx hb dL_limits_23 (by decide) ?_
  refine lv_iload_n hx hb dL_limits_24 rfl (lv_at hl 0 rfl) ?_
  refine lv_iconst (v := 3) hx hb dL_limits_25 (by decide) ?_
  refine lv_irem hx hb dL_limits_26 (by decide) ?_
  rw [(by decide : (15 : Int32) - (15 : Int32) / (3 : Int32) * (3 : Int32) = 0)]
  refine ar_add (rest := []) C0 hl.1 hW lfk31 (To_eq lfk32) ⟨Nat.le_of_ble_eq_true rfl, Nat.le_of_ble_eq_true rfl⟩ (Nat.le_of_ble_eq_true rfl) ⟨Nat.le_of_ble_eq_true rfl, Nat.le_of_ble_eq_true rfl⟩ dL_limits_27 (fun H locs hW => ?_)
  refine lv_iload_n hx hb dL_limits_30 rfl (lv_at hl 0 rfl) ?_
  refine lv_icmp_eq (tgt := 36) hx hb dL_limits_31 rfl (fun _ => ?_) (fun hc => absurd (by decide) hc)
  refine lv_iinc (k := 0) (v := 16) (lv' := [(1, .int 16), (0, .ref (g.2.2.1 + 0))]) hx hb dL_limits_36 hl rfl (by decide) (Nat.le_of_ble_eq_true rfl) rfl (fun ls hl => ?_)
  refine lv_goto (tgt := 10) hx hb dL_limits_39 rfl ?_
  refine lv_iload_n hx hb dL_limits_10 rfl (lv_at hl 0 rfl) ?_
  refine lv_bipush (v := 16) hx hb dL_limits_11 (by decide) ?_
  refine lv_icmp_ge (tgt := 42) hx hb dL_limits_13 rfl (fun _ => ?_) (fun hc => absurd (by decide) hc)
  refine lv_aload_n hx hb dL_limits_42 rfl (lv_at hl 1 rfl) ?_
  refine lv_iconst (v := 0) hx hb dL_limits_43 (by decide) ?_
  refine lv_iconst (v := 1) hx hb dL_limits_44 (by decide) ?_
  refine lv_iconst (v := 0) hx hb dL_limits_45 (by decide) ?_
  refine lv_iconst (v := 0) hx hb dL_limits_46 (by decide) ?_
  refine lv_iconst (v := 0) hx hb dL_limits_47 (by decide) ?_
  refine lv_iconst (v := 0) hx hb dL_limits_48 (by decide) ?_
  refine al_cSl (rest := [.int 0, .int 1, .int 0, .ref (g.2.2.1 + 0)]) C0 hW (c_L_three (r := 500500500) (by decide +kernel)) (ls_three hts ⟨Nat.le_of_ble_eq_true rfl, Nat.le_of_ble_eq_true rfl⟩) rfl hl.1 rfl (Nat.le_of_ble_eq_true rfl) ⟨Nat.le_of_ble_eq_true rfl, Nat.le_of_ble_eq_true rfl⟩ dL_limits_49 (fun H locs hW => ?_)
  refine al_cSW (rest := []) C0 hW (c_L_call hfl _ _ _ _ (ce_add lfk33)) (ls_call hts ⟨Nat.le_of_ble_eq_true rfl, Nat.le_of_ble_eq_true rfl⟩) rfl hl.1 rfl (Nat.le_of_ble_eq_true rfl) ⟨Nat.le_of_ble_eq_true rfl, Nat.le_of_ble_eq_true rfl⟩ dL_limits_52 (fun H locs hW => ?_)
  refine lv_ldc (v := (-100013)) hx hb hown (hts _ wl121) dL_limits_55 ?_
  refine lv_icmp_ne (tgt := 246) hx hb dL_limits_57 rfl (fun hc => absurd hc (by decide)) (fun _ => ?_)
  refine lv_aload_n hx hb dL_limits_60 rfl (lv_at hl 1 rfl) ?_
  refine lv_iconst (v := 0) hx hb dL_limits_61 (by decide) ?_
  refine lv_iconst (v := 1) hx hb dL_limits_62 (by decide) ?_
  refine lv_bipush (v := 100) hx hb dL_limits_63 (by decide) ?_
  refine lv_iconst (v := 0) hx hb dL_limits_65 (by decide) ?_
  refine lv_iconst (v := 0) hx hb dL_limits_66 (by decide) ?_
  refine lv_iconst (v := 0) hx hb dL_limits_67 (by decide) ?_
  refine al_cSl (rest := [.int 100, .int 1, .int 0, .ref (g.2.2.1 + 0)]) C0 hW (c_L_three (r := 500500500) (by decide +kernel)) (ls_three hts ⟨Nat.le_of_ble_eq_true rfl, Nat.le_of_ble_eq_true rfl⟩) rfl hl.1 rfl (Nat.le_of_ble_eq_true rfl) ⟨Nat.le_of_ble_eq_true rfl, Nat.le_of_ble_eq_true rfl⟩ dL_limits_68 (fun H locs hW => ?_)
  refine al_cSW (rest := []) C0 hW (c_L_call hfl _ _ _ _ (ce_add lfk34)) (ls_call hts ⟨Nat.le_of_ble_eq_true rfl, Nat.le_of_ble_eq_true rfl⟩) rfl hl.1 rfl (Nat.le_of_ble_eq_true rfl) ⟨Nat.le_of_ble_eq_true rfl, Nat.le_of_ble_eq_true rfl⟩ dL_limits_71 (fun H locs hW => ?_)
  refine lv_ldc (v := (-100012)) hx hb hown (hts _ wl120) dL_limits_74 ?_
  refine lv_icmp_ne (tgt := 246) hx hb dL_limits_76 rfl (fun hc => absurd hc (by decide)) (fun _ => ?_)
  refine lv_aload_n hx hb dL_limits_79 rfl (lv_at hl 1 rfl) ?_
  refine lv_iconst (v := 1) hx hb dL_limits_80 (by decide) ?_
  refine lv_iconst (v := 0) hx hb dL_limits_81 (by decide) ?_
  refine lv_iconst (v := 2) hx hb dL_limits_82 (by decide) ?_
  refine ar_column (rest := []) C0 hl.1 hW lfk35 ⟨Nat.le_of_ble_eq_true rfl, Nat.le_of_ble_eq_true rfl⟩ (Nat.le_of_ble_eq_true rfl) ⟨Nat.le_of_ble_eq_true rfl, Nat.le_of_ble_eq_true rfl⟩ dL_limits_83 (fun H locs hW => ?_)
  refine lv_bipush (v := 120) hx hb dL_limits_86 (by decide) ?_
  refine lv_icmp_ne (tgt := 246) hx hb dL_limits_88 rfl (fun hc => absurd hc (by decide)) (fun _ => ?_)
  refine lv_aload_n hx hb dL_limits_91 rfl (lv_at hl 1 rfl) ?_
  refine lv_iconst (v := 1) hx hb dL_limits_92 (by decide) ?_
  refine lv_iconst (v := 0) hx hb dL_limits_93 (by decide) ?_
  refine lv_bipush (v := 6) hx hb dL_limits_94 (by decide) ?_
  refine ar_column (rest := []) C0 hl.1 hW lfk36 ⟨Nat.le_of_ble_eq_true rfl, Nat.le_of_ble_eq_true rfl⟩ (Nat.le_of_ble_eq_true rfl) ⟨Nat.le_of_ble_eq_true rfl, Nat.le_of_ble_eq_true rfl⟩ dL_limits_96 (fun H locs hW => ?_)
  refine lv_bipush (v := 7) hx hb dL_limits_99 (by decide) ?_
  refine lv_icmp_ne (tgt := 246) hx hb dL_limits_101 rfl (fun hc => absurd hc (by decide)) (fun _ => ?_)
  refine lv_aload_n hx hb dL_limits_104 rfl (lv_at hl 1 rfl) ?_
  refine lv_iconst (v := 1) hx hb dL_limits_105 (by decide) ?_
  refine lv_iconst (v := 1) hx hb dL_limits_106 (by decide) ?_
  refine lv_bipush (v := 6) hx hb dL_limits_107 (by decide) ?_
  refine ar_column (rest := []) C0 hl.1 hW lfk37 ⟨Nat.le_of_ble_eq_true rfl, Nat.le_of_ble_eq_true rfl⟩ (Nat.le_of_ble_eq_true rfl) ⟨Nat.le_of_ble_eq_true rfl, Nat.le_of_ble_eq_true rfl⟩ dL_limits_109 (fun H locs hW => ?_)
  refine lv_bipush (v := 91) hx hb dL_limits_112 (by decide) ?_
  refine lv_icmp_ne (tgt := 246) hx hb dL_limits_114 rfl (fun hc => absurd hc (by decide)) (fun _ => ?_)
  refine lv_aload_n hx hb dL_limits_117 rfl (lv_at hl 1 rfl) ?_
  refine lv_iconst (v := 1) hx hb dL_limits_118 (by decide) ?_
  refine lv_iconst (v := 3) hx hb dL_limits_119 (by decide) ?_
  refine lv_iconst (v := 5) hx hb dL_limits_120 (by decide) ?_
  refine ar_column (rest := []) C0 hl.1 hW lfk38 ⟨Nat.le_of_ble_eq_true rfl, Nat.le_of_ble_eq_true rfl⟩ (Nat.le_of_ble_eq_true rfl) ⟨Nat.le_of_ble_eq_true rfl, Nat.le_of_ble_eq_true rfl⟩ dL_limits_121 (fun H locs hW => ?_)
  refine lv_iconst (v := 3) hx hb dL_limits_124 (by decide) ?_
  refine lv_icmp_ne (tgt := 246) hx hb dL_limits_125 rfl (fun hc => absurd hc (by decide)) (fun _ => ?_)
  exact W.widen (Nat.le_of_ble_eq_true rfl) (Nat.le_of_ble_eq_true rfl) (hK H locs ls hW hl)
set_option maxHeartbeats 2000000 in
theorem lm_2 (hfl : l.stackTraces = false) (C0 : CX g p s m args meth c RL cL_limits 2 (some .boolean)) (hl : lv_has ls 2 [(1, .int 16), (0, .ref (g.2.2.1 + 0))]) (hW : WA g lgn16 false Z0 s.heap H locs) (hK : ∀ (H : Heap) (locs : List Loc) (ls : Array Slot), WA g lgn22 false Z0 s.heap H locs → lv_has ls 2 [(1, .int 16), (0, .ref (g.2.2.1 + 0))] → W p l e rmL_limits s m args below meth c H locs 80 2470 (MQ below (QB g) args s rmL_limits.cells rmL_limits.slots (AA g)) (F0 m 287 ls [])) : W p l e rmL_limits s m args below meth c H locs 74 2275 (MQ below (QB g) args s rmL_limits.cells rmL_limits.slots (AA g)) (F0 m 128 ls []) := by
  have hx := C0.1; have hb := C0.2.1; have hown := C0.2.2.2.2.1; have hts := C0.2.2.2.2.2.1
  refine lv_aload_n hx hb dL_limits_128 rfl (lv_at hl 1 rfl) ?_
  refine lv_iconst (v := 1) hx hb dL_limits_129 (by decide) ?_
  refine lv_iconst (v := 3) hx hb dL_limits_130 (by decide) ?_
  refine lv_iconst (v := 0) hx hb dL_limits_131 (by decide) ?_
  refine lv_iconst (v := 1) hx hb dL_limits_132 (by decide) ?_
  refine ar_group (rest := []) C0 hl.1 hW lfk39 ⟨Nat.le_of_ble_eq_true rfl, Nat.le_of_ble_eq_true rfl⟩ (Nat.le_of_ble_eq_true rfl) ⟨Nat.le_of_ble_eq_true rfl, Nat.le_of_ble_eq_true rfl⟩ dL_limits_133 (fun H locs hW => ?_)
  refine lv_ldc (v := 37449) hx hb hown (hts _ wl163) dL_limits_136 ?_
  refine lv_icmp_ne (tgt := 246) hx hb dL_limits_138 rfl (fun hc => absurd hc (by decide)) (fun _ => ?_)
  refine lv_aload_n hx hb dL_limits_141 rfl (lv_at hl 1 rfl) ?_
  refine lv_iconst (v := 1) hx hb dL_limits_142 (by decide) ?_
  refine lv_iconst (v := 3) hx hb dL_limits_143 (by decide) ?_
  refine lv_iconst (v := 2) hx hb dL_limits_144 (by decide) ?_
  refine lv_bipush (v := 6) hx hb dL_limits_145 (by decide) ?_
  refine ar_group (rest := []) C0 hl.1 hW lfk40 ⟨Nat.le_of_ble_eq_true rfl, Nat.le_of_ble_eq_true rfl⟩ (Nat.le_of_ble_eq_true rfl) ⟨Nat.le_of_ble_eq_true rfl, Nat.le_of_ble_eq_true rfl⟩ dL_limits_147 (fun H locs hW => ?_)
  refine lv_iconst (v := 5) hx hb dL_limits_150 (by decide) ?_
  refine lv_icmp_ne (tgt := 246) hx hb dL_limits_151 rfl (fun hc => absurd hc (by decide)) (fun _ => ?_)
  refine lv_aload_n hx hb dL_limits_154 rfl (lv_at hl 1 rfl) ?_
  refine lv_iconst (v := 1) hx hb dL_limits_155 (by decide) ?_
  refine lv_iconst (v := 2) hx hb dL_limits_156 (by decide) ?_
  refine lv_iconst (v := 0) hx hb dL_limits_157 (by decide) ?_
  refine lv_bipush (v := 6) hx hb dL_limits_158 (by decide) ?_
  refine ar_group (rest := []) C0 hl.1 hW lfk41 ⟨Nat.le_of_ble_eq_true rfl, Nat.le_of_ble_eq_true rfl⟩ (Nat.le_of_ble_eq_true rfl) ⟨Nat.le_of_ble_eq_true rfl, Nat.le_of_ble_eq_true rfl⟩ dL_limits_160 (fun H locs hW => ?_)
  refine lv_bipush (v := 16) hx hb dL_limits_163 (by decide) ?_
  refine lv_icmp_ne (tgt := 246) hx hb dL_limits_165 rfl (fun hc => absurd hc (by decide)) (fun _ => ?_)
  refine lv_aload_n hx hb dL_limits_168 rfl (lv_at hl 1 rfl) ?_
  refine lv_iconst (v := 1) hx hb dL_limits_169 (by decide) ?_
  refine lv_iconst (v := 2) hx hb dL_limits_170 (by decide) ?_
  refine lv_iconst (v := 4) hx hb dL_limits_171 (by decide) ?_
  refine ar_column (rest := []) C0 hl.1 hW lfk42 ⟨Nat.le_of_ble_eq_true rfl, Nat.le_of_ble_eq_true rfl⟩ (Nat.le_of_ble_eq_true rfl) ⟨Nat.le_of_ble_eq_true rfl, Nat.le_of_ble_eq_true rfl⟩ dL_limits_172 (fun H locs hW => ?_)
  refine lv_bipush (v := (-2)) hx hb dL_limits_175 (by decide) ?_
  refine lv_icmp_ne (tgt := 246) hx hb dL_limits_177 rfl (fun hc => absurd hc (by decide)) (fun _ => ?_)
  refine lv_aload_n hx hb dL_limits_180 rfl (lv_at hl 1 rfl) ?_
  refine lv_iconst (v := 0) hx hb dL_limits_181 (by decide) ?_
  refine lv_ldc2 (v := 27369466432339249) hx hb hown (hts _ wl194) dL_limits_182 ?_
  refine lv_lconst (v := 0) hx hb dL_limits_185 rfl ?_
  refine lv_iconst (v := 3) hx hb dL_limits_186 (by decide) ?_
  refine al_cSi (rest := []) C0 hW (c_L_defines (B := ([] : List Nat)) (T1 := [97, 60, 98, 124, 100, 61, 49]) (T2 := [97, 60, 98, 124, 100, 61, 49]) (τ := lgn18) lfk43 lfk44 lfk45 lfk46 lfk47 (To_eq lfk48) rfl) (ls_defines hts ⟨Nat.le_of_ble_eq_true rfl, Nat.le_of_ble_eq_true rfl⟩) rfl hl.1 rfl (Nat.le_of_ble_eq_true rfl) ⟨Nat.le_of_ble_eq_true rfl, Nat.le_of_ble_eq_true rfl⟩ dL_limits_187 (fun H locs hW => ?_)
  have hW : WA g lgn18 false Z0 s.heap H locs := hW
  refine lv_if_eq (tgt := 246) hx hb dL_limits_190 rfl (fun hc => absurd hc (by decide)) (fun _ => ?_)
  refine lv_aload_n hx hb dL_limits_193 rfl (lv_at hl 1 rfl) ?_
  refine lv_iconst (v := 1) hx hb dL_limits_194 (by decide) ?_
  refine lv_iconst (v := 0) hx hb dL_limits_195 (by decide) ?_
  refine lv_iconst (v := 2) hx hb dL_limits_196 (by decide) ?_
  refine lv_iconst (v := 1) hx hb dL_limits_197 (by decide) ?_
  refine ar_rows (rest := []) C0 hl.1 hW lfk49 ⟨Nat.le_of_ble_eq_true rfl, Nat.le_of_ble_eq_true rfl⟩ (Nat.le_of_ble_eq_true rfl) ⟨Nat.le_of_ble_eq_true rfl, Nat.le_of_ble_eq_true rfl⟩ dL_limits_198 (fun H locs hW => ?_)
  refine lv_ldc (v := 65535) hx hb hown (hts _ wl164) dL_limits_201 ?_
  refine lv_icmp_ne (tgt := 246) hx hb dL_limits_203 rfl (fun hc => absurd hc (by decide)) (fun _ => ?_)
  refine lv_aload_n hx hb dL_limits_206 rfl (lv_at hl 1 rfl) ?_
  refine lv_iconst (v := 1) hx hb dL_limits_207 (by decide) ?_
  refine lv_ldc2 (v := 27371672602689072) hx hb hown (hts _ wl195) dL_limits_208 ?_
  refine lv_lconst (v := 0) hx hb dL_limits_211 rfl ?_
  refine lv_iconst (v := 3) hx hb dL_limits_212 (by decide) ?_
  refine al_cSi (rest := []) C0 hW (c_L_defines (B := ([] : List Nat)) (T1 := [97, 62, 100, 38, 100, 62, 48]) (T2 := [97, 62, 100, 38, 100, 62, 48]) (τ := lgn20) lfk50 lfk51 lfk52 lfk53 lfk54 (To_eq lfk55) rfl) (ls_defines hts ⟨Nat.le_of_ble_eq_true rfl, Nat.le_of_ble_eq_true rfl⟩) rfl hl.1 rfl (Nat.le_of_ble_eq_true rfl) ⟨Nat.le_of_ble_eq_true rfl, Nat.le_of_ble_eq_true rfl⟩ dL_limits_213 (fun H locs hW => ?_)
  have hW : WA g lgn20 false Z0 s.heap H locs := hW
  refine lv_if_eq (tgt := 246) hx hb dL_limits_216 rfl (fun hc => absurd hc (by decide)) (fun _ => ?_)
  refine lv_aload_n hx hb dL_limits_219 rfl (lv_at hl 1 rfl) ?_
  refine lv_iconst (v := 1) hx hb dL_limits_220 (by decide) ?_
  refine lv_iconst (v := 1) hx hb dL_limits_221 (by decide) ?_
  refine lv_iconst (v := 2) hx hb dL_limits_222 (by decide) ?_
  refine lv_iconst (v := 0) hx hb dL_limits_223 (by decide) ?_
  refine ar_rows (rest := []) C0 hl.1 hW lfk56 ⟨Nat.le_of_ble_eq_true rfl, Nat.le_of_ble_eq_true rfl⟩ (Nat.le_of_ble_eq_true rfl) ⟨Nat.le_of_ble_eq_true rfl, Nat.le_of_ble_eq_true rfl⟩ dL_limits_224 (fun H locs hW => ?_)
  refine lv_sipush (v := 28080) hx hb dL_limits_227 (by decide) ?_
  refine lv_icmp_ne (tgt := 246) hx hb dL_limits_230 rfl (fun hc => absurd hc (by decide)) (fun _ => ?_)
  refine lv_aload_n hx hb dL_limits_233 rfl (lv_at hl 1 rfl) ?_
  refine lv_iconst (v := 1) hx hb dL_limits_234 (by decide) ?_
  refine lv_iconst (v := 1) hx hb dL_limits_235 (by decide) ?_
  refine lv_iconst (v := 0) hx hb dL_limits_236 (by decide) ?_
  refine lv_iconst (v := 1) hx hb dL_limits_237 (by decide) ?_
  refine ar_rows (rest := []) C0 hl.1 hW lfk57 ⟨Nat.le_of_ble_eq_true rfl, Nat.le_of_ble_eq_true rfl⟩ (Nat.le_of_ble_eq_true rfl) ⟨Nat.le_of_ble_eq_true rfl, Nat.le_of_ble_eq_true rfl⟩ dL_limits_238 (fun H locs hW => ?_)
  refine lv_ldc (v := 37455) hx hb hown (hts _ wl165) dL_limits_241 ?_
  refine lv_icmp_eq (tgt := 248) hx hb dL_limits_243 rfl (fun _ => ?_) (fun hc => absurd (by decide) hc)
  refine lv_aload_n hx hb dL_limits_248 rfl (lv_at hl 1 rfl) ?_
  refine lv_iconst (v := 2) hx hb dL_limits_249 (by decide) ?_
  refine lv_ldc2 (v := 7007361500100634211) hx hb hown (hts _ wl196) dL_limits_250 ?_
  refine lv_ldc2 (v := 16169) hx hb hown (hts _ wl197) dL_limits_253 ?_
  refine lv_iconst (v := 5) hx hb dL_limits_256 (by decide) ?_
  refine al_cSi (rest := []) C0 hW (c_L_defines (B := ([] : List Nat)) (T1 := [97, 63, 38, 40, 98, 63, 38, 99]) (T2 := [97, 63, 38, 40, 98, 63, 38, 99, 63, 41]) (τ := lgn22) lfk58 lfk59 lfk60 lfk61 lfk62 (To_eq lfk63) rfl) (ls_defines hts ⟨Nat.le_of_ble_eq_true rfl, Nat.le_of_ble_eq_true rfl⟩) rfl hl.1 rfl (Nat.le_of_ble_eq_true rfl) ⟨Nat.le_of_ble_eq_true rfl, Nat.le_of_ble_eq_true rfl⟩ dL_limits_257 (fun H locs hW => ?_)
  have hW : WA g lgn22 false Z0 s.heap H locs := hW
  refine lv_if_eq (tgt := 468) hx hb dL_limits_260 rfl (fun hc => absurd hc (by decide)) (fun _ => ?_)
  refine lv_aload_n hx hb dL_limits_263 rfl (lv_at hl 1 rfl) ?_
  refine lv_iconst (v := 2) hx hb dL_limits_264 (by decide) ?_
  refine lv_ldc2 (v := 7007361500100634211) hx hb hown (hts _ wl196) dL_limits_265 ?_
  refine lv_ldc2 (v := 16169) hx hb hown (hts _ wl197) dL_limits_268 ?_
  refine al_cSi (rest := []) C0 hW (c_L_isWritten lfk64) (ls_isWritten hts ⟨Nat.le_of_ble_eq_true rfl, Nat.le_of_ble_eq_true rfl⟩) rfl hl.1 rfl (Nat.le_of_ble_eq_true rfl) ⟨Nat.le_of_ble_eq_true rfl, Nat.le_of_ble_eq_true rfl⟩ dL_limits_271 (fun H locs hW => ?_)
  refine lv_if_eq (tgt := 468) hx hb dL_limits_274 rfl (fun hc => absurd hc (by decide)) (fun _ => ?_)
  refine lv_aload_n hx hb dL_limits_277 rfl (lv_at hl 1 rfl) ?_
  refine lv_iconst (v := 2) hx hb dL_limits_278 (by decide) ?_
  refine lv_iconst (v := 1) hx hb dL_limits_279 (by decide) ?_
  refine ar_filter (rest := []) C0 hl.1 hW lfk65 ⟨Nat.le_of_ble_eq_true rfl, Nat.le_of_ble_eq_true rfl⟩ (Nat.le_of_ble_eq_true rfl) ⟨Nat.le_of_ble_eq_true rfl, Nat.le_of_ble_eq_true rfl⟩ dL_limits_280 (fun H locs hW => ?_)
  refine lv_iconst (v := 3) hx hb dL_limits_283 (by decide) ?_
  refine lv_icmp_ne (tgt := 468) hx hb dL_limits_284 rfl (fun hc => absurd hc (by decide)) (fun _ => ?_)
  exact W.widen (Nat.le_of_ble_eq_true rfl) (Nat.le_of_ble_eq_true rfl) (hK H locs ls hW hl)
set_option maxHeartbeats 2000000 in
theorem lm_3 (hfl : l.stackTraces = false) (C0 : CX g p s m args meth c RL cL_limits 2 (some .boolean)) (hl : lv_has ls 2 [(1, .int 16), (0, .ref (g.2.2.1 + 0))]) (hW : WA g lgn22 false Z0 s.heap H locs) (hK : ∀ (H : Heap) (locs : List Loc) (ls : Array Slot), WA g lgn34 false Z0 s.heap H locs → lv_has ls 2 [(1, .int 16), (0, .ref (g.2.2.1 + 0))] → W p l e rmL_limits s m args below meth c H locs 92 2860 (MQ below (QB g) args s rmL_limits.cells rmL_limits.slots (AA g)) (F0 m 454 ls [])) : W p l e rmL_limits s m args below meth c H locs 80 2470 (MQ below (QB g) args s rmL_limits.cells rmL_limits.slots (AA g)) (F0 m 287 ls []) := by
  have hx := C0.1; have hb := C0.2.1; have hown := C0.2.2.2.2.1; have hts := C0.2.2.2.2.2.1
  refine lv_aload_n hx hb dL_limits_287 rfl (lv_at hl 1 rfl) ?_
  refine lv_iconst (v := 2) hx hb dL_limits_288 (by decide) ?_
  refine lv_ldc2 (v := 2909676268347664678) hx hb hown (hts _ wl198) dL_limits_289 ?_
  refine lv_ldc2 (v := 25407) hx hb hown (hts _ wl199) dL_limits_292 ?_
  refine lv_iconst (v := 5) hx hb dL_limits_295 (by decide) ?_
  refine al_cSi (rest := []) C0 hW (c_L_defines (B := ([] : List Nat)) (T1 := [40, 97, 63, 38, 98, 63, 41, 38]) (T2 := [40, 97, 63, 38, 98, 63, 41, 38, 99, 63]) (τ := lgn24) lfk66 lfk67 lfk68 lfk69 lfk70 (To_eq lfk71) rfl) (ls_defines hts ⟨Nat.le_of_ble_eq_true rfl, Nat.le_of_ble_eq_true rfl⟩) rfl hl.1 rfl (Nat.le_of_ble_eq_true rfl) ⟨Nat.le_of_ble_eq_true rfl, Nat.le_of_ble_eq_true rfl⟩ dL_limits_296 (fun H locs hW => ?_)
  have hW : WA g lgn24 false Z0 s.heap H locs := hW
  refine lv_if_eq (tgt := 468) hx hb dL_limits_299 rfl (fun hc => absurd hc (by decide)) (fun _ => ?_)
  refine lv_aload_n hx hb dL_limits_302 rfl (lv_at hl 1 rfl) ?_
  refine lv_iconst (v := 2) hx hb dL_limits_303 (by decide) ?_
  refine lv_ldc2 (v := 7007361748619911999) hx hb hown (hts _ wl200) dL_limits_304 ?_
  refine lv_lconst (v := 0) hx hb dL_limits_307 rfl ?_
  refine al_cSi (rest := []) C0 hW (c_L_isWritten lfk72) (ls_isWritten hts ⟨Nat.le_of_ble_eq_true rfl, Nat.le_of_ble_eq_true rfl⟩) rfl hl.1 rfl (Nat.le_of_ble_eq_true rfl) ⟨Nat.le_of_ble_eq_true rfl, Nat.le_of_ble_eq_true rfl⟩ dL_limits_308 (fun H locs hW => ?_)
  refine lv_if_eq (tgt := 468) hx hb dL_limits_311 rfl (fun hc => absurd hc (by decide)) (fun _ => ?_)
  refine lv_aload_n hx hb dL_limits_314 rfl (lv_at hl 1 rfl) ?_
  refine lv_iconst (v := 2) hx hb dL_limits_315 (by decide) ?_
  refine lv_ldc2 (v := 7007456058100644904) hx hb hown (hts _ wl201) dL_limits_316 ?_
  refine lv_ldc2 (v := 1665083689) hx hb hown (hts _ wl202) dL_limits_319 ?_
  refine lv_iconst (v := 5) hx hb dL_limits_322 (by decide) ?_
  refine al_cSi (rest := []) C0 hW (c_L_defines (B := ([] : List Nat)) (T1 := [97, 63, 124, 40, 98, 63, 124, 40]) (T2 := [97, 63, 124, 40, 98, 63, 124, 40, 99, 63, 41, 41]) (τ := lgn26) lfk73 lfk74 lfk75 lfk76 lfk77 (To_eq lfk78) rfl) (ls_defines hts ⟨Nat.le_of_ble_eq_true rfl, Nat.le_of_ble_eq_true rfl⟩) rfl hl.1 rfl (Nat.le_of_ble_eq_true rfl) ⟨Nat.le_of_ble_eq_true rfl, Nat.le_of_ble_eq_true rfl⟩ dL_limits_323 (fun H locs hW => ?_)
  have hW : WA g lgn26 false Z0 s.heap H locs := hW
  refine lv_if_eq (tgt := 468) hx hb dL_limits_326 rfl (fun hc => absurd hc (by decide)) (fun _ => ?_)
  refine lv_aload_n hx hb dL_limits_329 rfl (lv_at hl 1 rfl) ?_
  refine lv_iconst (v := 2) hx hb dL_limits_330 (by decide) ?_
  refine lv_ldc2 (v := 7007456058100644963) hx hb hown (hts _ wl203) dL_limits_331 ?_
  refine lv_ldc2 (v := 16169) hx hb hown (hts _ wl197) dL_limits_334 ?_
  refine al_cSi (rest := []) C0 hW (c_L_isWritten lfk79) (ls_isWritten hts ⟨Nat.le_of_ble_eq_true rfl, Nat.le_of_ble_eq_true rfl⟩) rfl hl.1 rfl (Nat.le_of_ble_eq_true rfl) ⟨Nat.le_of_ble_eq_true rfl, Nat.le_of_ble_eq_true rfl⟩ dL_limits_337 (fun H locs hW => ?_)
  refine lv_if_eq (tgt := 468) hx hb dL_limits_340 rfl (fun hc => absurd hc (by decide)) (fun _ => ?_)
  refine lv_aload_n hx hb dL_limits_343 rfl (lv_at hl 1 rfl) ?_
  refine lv_iconst (v := 2) hx hb dL_limits_344 (by decide) ?_
  refine lv_ldc2 (v := 2891636833885169958) hx hb hown (hts _ wl204) dL_limits_345 ?_
  refine lv_ldc2 (v := 25151) hx hb hown (hts _ wl205) dL_limits_348 ?_
  refine lv_iconst (v := 4) hx hb dL_limits_351 (by decide) ?_
  refine al_cSi (rest := []) C0 hW (c_L_defines (B := ([] : List Nat)) (T1 := [40, 33, 40, 97, 63, 41, 41, 38]) (T2 := [40, 33, 40, 97, 63, 41, 41, 38, 98, 63]) (τ := lgn28) lfk80 lfk81 lfk82 lfk83 lfk84 (To_eq lfk85) rfl) (ls_defines hts ⟨Nat.le_of_ble_eq_true rfl, Nat.le_of_ble_eq_true rfl⟩) rfl hl.1 rfl (Nat.le_of_ble_eq_true rfl) ⟨Nat.le_of_ble_eq_true rfl, Nat.le_of_ble_eq_true rfl⟩ dL_limits_352 (fun H locs hW => ?_)
  have hW : WA g lgn28 false Z0 s.heap H locs := hW
  refine lv_if_eq (tgt := 468) hx hb dL_limits_355 rfl (fun hc => absurd hc (by decide)) (fun _ => ?_)
  refine lv_aload_n hx hb dL_limits_358 rfl (lv_at hl 1 rfl) ?_
  refine lv_iconst (v := 2) hx hb dL_limits_359 (by decide) ?_
  refine lv_ldc2 (v := 36701555024447) hx hb hown (hts _ wl206) dL_limits_360 ?_
  refine lv_lconst (v := 0) hx hb dL_limits_363 rfl ?_
  refine al_cSi (rest := []) C0 hW (c_L_isWritten lfk86) (ls_isWritten hts ⟨Nat.le_of_ble_eq_true rfl, Nat.le_of_ble_eq_true rfl⟩) rfl hl.1 rfl (Nat.le_of_ble_eq_true rfl) ⟨Nat.le_of_ble_eq_true rfl, Nat.le_of_ble_eq_true rfl⟩ dL_limits_364 (fun H locs hW => ?_)
  refine lv_if_eq (tgt := 468) hx hb dL_limits_367 rfl (fun hc => absurd hc (by decide)) (fun _ => ?_)
  refine lv_aload_n hx hb dL_limits_370 rfl (lv_at hl 1 rfl) ?_
  refine lv_iconst (v := 2) hx hb dL_limits_371 (by decide) ?_
  refine lv_ldc2 (v := 2389196059633985122) hx hb hown (hts _ wl207) dL_limits_372 ?_
  refine lv_ldc2 (v := 4139305) hx hb hown (hts _ wl208) dL_limits_375 ?_
  refine lv_iconst (v := 5) hx hb dL_limits_378 (by decide) ?_
  refine al_cSi (rest := []) C0 hW (c_L_defines (B := ([] : List Nat)) (T1 := [33, 40, 33, 40, 97, 63, 38, 98]) (T2 := [33, 40, 33, 40, 97, 63, 38, 98, 63, 41, 41]) (τ := lgn30) lfk87 lfk88 lfk89 lfk90 lfk91 (To_eq lfk92) rfl) (ls_defines hts ⟨Nat.le_of_ble_eq_true rfl, Nat.le_of_ble_eq_true rfl⟩) rfl hl.1 rfl (Nat.le_of_ble_eq_true rfl) ⟨Nat.le_of_ble_eq_true rfl, Nat.le_of_ble_eq_true rfl⟩ dL_limits_379 (fun H locs hW => ?_)
  have hW : WA g lgn30 false Z0 s.heap H locs := hW
  refine lv_if_eq (tgt := 468) hx hb dL_limits_382 rfl (fun hc => absurd hc (by decide)) (fun _ => ?_)
  refine lv_aload_n hx hb dL_limits_385 rfl (lv_at hl 1 rfl) ?_
  refine lv_iconst (v := 2) hx hb dL_limits_386 (by decide) ?_
  refine lv_ldc2 (v := 2387233675619492415) hx hb hown (hts _ wl209) dL_limits_387 ?_
  refine lv_ldc2 (v := 41) hx hb hown (hts _ wl210) dL_limits_390 ?_
  refine al_cSi (rest := []) C0 hW (c_L_isWritten lfk93) (ls_isWritten hts ⟨Nat.le_of_ble_eq_true rfl, Nat.le_of_ble_eq_true rfl⟩) rfl hl.1 rfl (Nat.le_of_ble_eq_true rfl) ⟨Nat.le_of_ble_eq_true rfl, Nat.le_of_ble_eq_true rfl⟩ dL_limits_393 (fun H locs hW => ?_)
  refine lv_if_eq (tgt := 468) hx hb dL_limits_396 rfl (fun hc => absurd hc (by decide)) (fun _ => ?_)
  refine lv_aload_n hx hb dL_limits_399 rfl (lv_at hl 1 rfl) ?_
  refine lv_iconst (v := 2) hx hb dL_limits_400 (by decide) ?_
  refine lv_ldc2 (v := 7007456058100622947) hx hb hown (hts _ wl211) dL_limits_401 ?_
  refine lv_ldc2 (v := 271278957631) hx hb hown (hts _ wl212) dL_limits_404 ?_
  refine lv_bipush (v := 7) hx hb dL_limits_407 (by decide) ?_
  refine al_cSi (rest := []) C0 hW (c_L_defines (B := ([] : List Nat)) (T1 := [97, 63, 124, 40, 98, 63, 38, 99]) (T2 := [97, 63, 124, 40, 98, 63, 38, 99, 63, 41, 124, 100, 63]) (τ := lgn32) lfk94 lfk95 lfk96 lfk97 lfk98 (To_eq lfk99) rfl) (ls_defines hts ⟨Nat.le_of_ble_eq_true rfl, Nat.le_of_ble_eq_true rfl⟩) rfl hl.1 rfl (Nat.le_of_ble_eq_true rfl) ⟨Nat.le_of_ble_eq_true rfl, Nat.le_of_ble_eq_true rfl⟩ dL_limits_409 (fun H locs hW => ?_)
  have hW : WA g lgn32 false Z0 s.heap H locs := hW
  refine lv_if_eq (tgt := 468) hx hb dL_limits_412 rfl (fun hc => absurd hc (by decide)) (fun _ => ?_)
  refine lv_aload_n hx hb dL_limits_415 rfl (lv_at hl 1 rfl) ?_
  refine lv_iconst (v := 2) hx hb dL_limits_416 (by decide) ?_
  refine lv_ldc2 (v := 7007456306619900735) hx hb hown (hts _ wl213) dL_limits_417 ?_
  refine lv_ldc2 (v := 8152127) hx hb hown (hts _ wl214) dL_limits_420 ?_
  refine al_cSi (rest := []) C0 hW (c_L_isWritten lfk100) (ls_isWritten hts ⟨Nat.le_of_ble_eq_true rfl, Nat.le_of_ble_eq_true rfl⟩) rfl hl.1 rfl (Nat.le_of_ble_eq_true rfl) ⟨Nat.le_of_ble_eq_true rfl, Nat.le_of_ble_eq_true rfl⟩ dL_limits_423 (fun H locs hW => ?_)
  refine lv_if_eq (tgt := 468) hx hb dL_limits_426 rfl (fun hc => absurd hc (by decide)) (fun _ => ?_)
  refine lv_aload_n hx hb dL_limits_429 rfl (lv_at hl 1 rfl) ?_
  refine lv_iconst (v := 2) hx hb dL_limits_430 (by decide) ?_
  refine lv_iconst (v := 1) hx hb dL_limits_431 (by decide) ?_
  refine ar_filter (rest := []) C0 hl.1 hW lfk101 ⟨Nat.le_of_ble_eq_true rfl, Nat.le_of_ble_eq_true rfl⟩ (Nat.le_of_ble_eq_true rfl) ⟨Nat.le_of_ble_eq_true rfl, Nat.le_of_ble_eq_true rfl⟩ dL_limits_432 (fun H locs hW => ?_)
  refine lv_iconst (v := 4) hx hb dL_limits_435 (by decide) ?_
  refine lv_icmp_ne (tgt := 468) hx hb dL_limits_436 rfl (fun hc => absurd hc (by decide)) (fun _ => ?_)
  refine lv_aload_n hx hb dL_limits_439 rfl (lv_at hl 1 rfl) ?_
  refine lv_iconst (v := 2) hx hb dL_limits_440 (by decide) ?_
  refine lv_ldc2 (v := 2909676637714722857) hx hb hown (hts _ wl215) dL_limits_441 ?_
  refine lv_ldc2 (v := 163886350121) hx hb hown (hts _ wl216) dL_limits_444 ?_
  refine lv_iconst (v := 5) hx hb dL_limits_447 (by decide) ?_
  refine al_cSi (rest := []) C0 hW (c_L_defines (B := ([] : List Nat)) (T1 := [40, 97, 63, 124, 98, 61, 48, 41]) (T2 := [40, 97, 63, 124, 98, 61, 48, 41, 38, 40, 99, 63, 41]) (τ := lgn34) lfk102 lfk103 lfk104 lfk105 lfk106 (To_eq lfk107) rfl) (ls_defines hts ⟨Nat.le_of_ble_eq_true rfl, Nat.le_of_ble_eq_true rfl⟩) rfl hl.1 rfl (Nat.le_of_ble_eq_true rfl) ⟨Nat.le_of_ble_eq_true rfl, Nat.le_of_ble_eq_true rfl⟩ dL_limits_448 (fun H locs hW => ?_)
  have hW : WA g lgn34 false Z0 s.heap H locs := hW
  refine lv_if_eq (tgt := 468) hx hb dL_limits_451 rfl (fun hc => absurd hc (by decide)) (fun _ => ?_)
  exact W.widen (Nat.le_of_ble_eq_true rfl) (Nat.le_of_ble_eq_true rfl) (hK H locs ls hW hl)
set_option maxHeartbeats 2000000 in
theorem lm_4 (hfl : l.stackTraces = false) (C0 : CX g p s m args meth c RL cL_limits 2 (some .boolean)) (hl : lv_has ls 2 [(1, .int 16), (0, .ref (g.2.2.1 + 0))]) (hW : WA g lgn34 false Z0 s.heap H locs) (hK : ∀ (H : Heap) (locs : List Loc) (ls : Array Slot), WA g lgn45 false Z0 s.heap H locs → lv_has ls 2 [(1, .int 10), (0, .ref (g.2.2.1 + 0))] → W p l e rmL_limits s m args below meth c H locs 112 3510 (MQ below (QB g) args s rmL_limits.cells rmL_limits.slots (AA g)) (F0 m 528 ls [])) : W p l e rmL_limits s m args below meth c H locs 92 2860 (MQ below (QB g) args s rmL_limits.cells rmL_limits.slots (AA g)) (F0 m 454 ls []) := by
  have hx := C0.1; have hb := C0.2.1; have hown := C0.2.2.2.2.1; have hts := C0.2.2.2.2.2.1
  refine lv_aload_n hx hb dL_limits_454 rfl (lv_at hl 1 rfl) ?_
  refine lv_iconst (v := 2) hx hb dL_limits_455 (by decide) ?_
  refine lv_ldc2 (v := 2909676637714722857) hx hb hown (hts _ wl215) dL_limits_456 ?_
  refine lv_ldc2 (v := 2515775) hx hb hown (hts _ wl217) dL_limits_459 ?_
  refine al_cSi (rest := []) C0 hW (c_L_isWritten lfk108) (ls_isWritten hts ⟨Nat.le_of_ble_eq_true rfl, Nat.le_of_ble_eq_true rfl⟩) rfl hl.1 rfl (Nat.le_of_ble_eq_true rfl) ⟨Nat.le_of_ble_eq_true rfl, Nat.le_of_ble_eq_true rfl⟩ dL_limits_462 (fun H locs hW => ?_)
  refine lv_if_ne (tgt := 470) hx hb dL_limits_465 rfl (fun _ => ?_) (fun hc => absurd hc (by decide))
  refine lv_aload_n hx hb dL_limits_470 rfl (lv_at hl 1 rfl) ?_
  refine lv_iconst (v := 3) hx hb dL_limits_471 (by decide) ?_
  refine lv_ldc2 (v := 6372657) hx hb hown (hts _ wl218) dL_limits_472 ?_
  refine lv_lconst (v := 0) hx hb dL_limits_475 rfl ?_
  refine lv_iconst (v := 1) hx hb dL_limits_476 (by decide) ?_
  refine al_cSi (rest := []) C0 hW (c_L_defines (B := ([] : List Nat)) (T1 := [97, 61, 49]) (T2 := [97, 61, 49]) (τ := lgn36) lfk109 lfk110 lfk111 lfk112 lfk113 (To_eq lfk114) rfl) (ls_defines hts ⟨Nat.le_of_ble_eq_true rfl, Nat.le_of_ble_eq_true rfl⟩) rfl hl.1 rfl (Nat.le_of_ble_eq_true rfl) ⟨Nat.le_of_ble_eq_true rfl, Nat.le_of_ble_eq_true rfl⟩ dL_limits_477 (fun H locs hW => ?_)
  have hW : WA g lgn36 false Z0 s.heap H locs := hW
  refine lv_if_ne (tgt := 485) hx hb dL_limits_480 rfl (fun _ => ?_) (fun hc => absurd hc (by decide))
  refine lv_iconst (v := 1) hx hb dL_limits_485 (by decide) ?_
  refine lv_istore_n (lv' := [(1, .int 1), (0, .ref (g.2.2.1 + 0))]) hx hb dL_limits_486 rfl hl (Nat.le_of_ble_eq_true rfl) rfl (fun ls hl => ?_)
  refine lv_iload_n hx hb dL_limits_487 rfl (lv_at hl 0 rfl) ?_
  refine lv_bipush (v := 10) hx hb dL_limits_488 (by decide) ?_
  refine lv_icmp_ge (tgt := 517) hx hb dL_limits_490 rfl (fun hc => absurd hc (by decide)) (fun _ => ?_)
  refine lv_aload_n hx hb dL_limits_493 rfl (lv_at hl 1 rfl) ?_
  refine lv_iconst (v := 3) hx hb dL_limits_494 (by decide) ?_
  refine lv_iconst (v := 3) hx hb dL_limits_495 (by decide) ?_
  refine lv_iconst (v := 0) hx hb dL_limits_496 (by decide) ?_
  refine lv_iconst (v := 2) hx hb dL_limits_497 (by decide) ?_
  refine ar_combine (rest := []) C0 hl.1 hW lfk115 (To_eq lfk116) ⟨Nat.le_of_ble_eq_true rfl, Nat.le_of_ble_eq_true rfl⟩ (Nat.le_of_ble_eq_true rfl) ⟨Nat.le_of_ble_eq_true rfl, Nat.le_of_ble_eq_true rfl⟩ dL_limits_498 (fun H locs hW => ?_)
  refine lv_iconst (v := 1) hx hb dL_limits_501 (by decide) ?_
  refine lv_iconst (v := 4) hx hb dL_limits_502 (by decide) ?_
  refine lv_iload_n hx hb dL_limits_503 rfl (lv_at hl 0 rfl) ?_
  refine lv_imul hx hb dL_limits_504 ?_
  rw [(by decide : (4 : Int32) * (1 : Int32) = 4)]
  refine lv_iadd hx hb dL_limits_505 ?_
  rw [(by decide : (1 : Int32) + (4 : Int32) = 5)]
  refine lv_icmp_eq (tgt := 511) hx hb dL_limits_506 rfl (fun _ => ?_) (fun hc => absurd (by decide) hc)
  refine lv_iinc (k := 0) (v := 2) (lv' := [(1, .int 2), (0, .ref (g.2.2.1 + 0))]) hx hb dL_limits_511 hl rfl (by decide) (Nat.le_of_ble_eq_true rfl) rfl (fun ls hl => ?_)
  refine lv_goto (tgt := 487) hx hb dL_limits_514 rfl ?_
  refine lv_iload_n hx hb dL_limits_487 rfl (lv_at hl 0 rfl) ?_
  refine lv_bipush (v := 10) hx hb dL_limits_488 (by decide) ?_
  refine lv_icmp_ge (tgt := 517) hx hb dL_limits_490 rfl (fun hc => absurd hc (by decide)) (fun _ => ?_)
  refine lv_aload_n hx hb dL_limits_493 rfl (lv_at hl 1 rfl) ?_
  refine lv_iconst (v := 3) hx hb dL_limits_494 (by decide) ?_
  refine lv_iconst (v := 3) hx hb dL_limits_495 (by decide) ?_
  refine lv_iconst (v := 0) hx hb dL_limits_496 (by decide) ?_
  refine lv_iconst (v := 2) hx hb dL_limits_497 (by decide) ?_
  refine ar_combine (rest := []) C0 hl.1 hW lfk117 (To_eq lfk118) ⟨Nat.le_of_ble_eq_true rfl, Nat.le_of_ble_eq_true rfl⟩ (Nat.le_of_ble_eq_true rfl) ⟨Nat.le_of_ble_eq_true rfl, Nat.le_of_ble_eq_true rfl⟩ dL_limits_498 (fun H locs hW => ?_)
  refine lv_iconst (v := 1) hx hb dL_limits_501 (by decide) ?_
  refine lv_iconst (v := 4) hx hb dL_limits_502 (by decide) ?_
  refine lv_iload_n hx hb dL_limits_503 rfl (lv_at hl 0 rfl) ?_
  refine lv_imul hx hb dL_limits_504 ?_
  rw [(by decide : (4 : Int32) * (2 : Int32) = 8)]
  refine lv_iadd hx hb dL_limits_505 ?_
  rw [(by decide : (1 : Int32) + (8 : Int32) = 9)]
  refine lv_icmp_eq (tgt := 511) hx hb dL_limits_506 rfl (fun _ => ?_) (fun hc => absurd (by decide) hc)
  refine lv_iinc (k := 0) (v := 3) (lv' := [(1, .int 3), (0, .ref (g.2.2.1 + 0))]) hx hb dL_limits_511 hl rfl (by decide) (Nat.le_of_ble_eq_true rfl) rfl (fun ls hl => ?_)
  refine lv_goto (tgt := 487) hx hb dL_limits_514 rfl ?_
  refine lv_iload_n hx hb dL_limits_487 rfl (lv_at hl 0 rfl) ?_
  refine lv_bipush (v := 10) hx hb dL_limits_488 (by decide) ?_
  refine lv_icmp_ge (tgt := 517) hx hb dL_limits_490 rfl (fun hc => absurd hc (by decide)) (fun _ => ?_)
  refine lv_aload_n hx hb dL_limits_493 rfl (lv_at hl 1 rfl) ?_
  refine lv_iconst (v := 3) hx hb dL_limits_494 (by decide) ?_
  refine lv_iconst (v := 3) hx hb dL_limits_495 (by decide) ?_
  refine lv_iconst (v := 0) hx hb dL_limits_496 (by decide) ?_
  refine lv_iconst (v := 2) hx hb dL_limits_497 (by decide) ?_
  refine ar_combine (rest := []) C0 hl.1 hW lfk119 (To_eq lfk120) ⟨Nat.le_of_ble_eq_true rfl, Nat.le_of_ble_eq_true rfl⟩ (Nat.le_of_ble_eq_true rfl) ⟨Nat.le_of_ble_eq_true rfl, Nat.le_of_ble_eq_true rfl⟩ dL_limits_498 (fun H locs hW => ?_)
  refine lv_iconst (v := 1) hx hb dL_limits_501 (by decide) ?_
  refine lv_iconst (v := 4) hx hb dL_limits_502 (by decide) ?_
  refine lv_iload_n hx hb dL_limits_503 rfl (lv_at hl 0 rfl) ?_
  refine lv_imul hx hb dL_limits_504 ?_
  rw [(by decide : (4 : Int32) * (3 : Int32) = 12)]
  refine lv_iadd hx hb dL_limits_505 ?_
  rw [(by decide : (1 : Int32) + (12 : Int32) = 13)]
  refine lv_icmp_eq (tgt := 511) hx hb dL_limits_506 rfl (fun _ => ?_) (fun hc => absurd (by decide) hc)
  refine lv_iinc (k := 0) (v := 4) (lv' := [(1, .int 4), (0, .ref (g.2.2.1 + 0))]) hx hb dL_limits_511 hl rfl (by decide) (Nat.le_of_ble_eq_true rfl) rfl (fun ls hl => ?_)
  refine lv_goto (tgt := 487) hx hb dL_limits_514 rfl ?_
  refine lv_iload_n hx hb dL_limits_487 rfl (lv_at hl 0 rfl) ?_
  refine lv_bipush (v := 10) hx hb dL_limits_488 (by decide) ?_
  refine lv_icmp_ge (tgt := 517) hx hb dL_limits_490 rfl (fun hc => absurd hc (by decide)) (fun _ => ?_)
  refine lv_aload_n hx hb dL_limits_493 rfl (lv_at hl 1 rfl) ?_
  refine lv_iconst (v := 3) hx hb dL_limits_494 (by decide) ?_
  refine lv_iconst (v := 3) hx hb dL_limits_495 (by decide) ?_
  refine lv_iconst (v := 0) hx hb dL_limits_496 (by decide) ?_
  refine lv_iconst (v := 2) hx hb dL_limits_497 (by decide) ?_
  refine ar_combine (rest := []) C0 hl.1 hW lfk121 (To_eq lfk122) ⟨Nat.le_of_ble_eq_true rfl, Nat.le_of_ble_eq_true rfl⟩ (Nat.le_of_ble_eq_true rfl) ⟨Nat.le_of_ble_eq_true rfl, Nat.le_of_ble_eq_true rfl⟩ dL_limits_498 (fun H locs hW => ?_)
  refine lv_iconst (v := 1) hx hb dL_limits_501 (by decide) ?_
  refine lv_iconst (v := 4) hx hb dL_limits_502 (by decide) ?_
  refine lv_iload_n hx hb dL_limits_503 rfl (lv_at hl 0 rfl) ?_
  refine lv_imul hx hb dL_limits_504 ?_
  rw [(by decide : (4 : Int32) * (4 : Int32) = 16)]
  refine lv_iadd hx hb dL_limits_505 ?_
  rw [(by decide : (1 : Int32) + (16 : Int32) = 17)]
  refine lv_icmp_eq (tgt := 511) hx hb dL_limits_506 rfl (fun _ => ?_) (fun hc => absurd (by decide) hc)
  refine lv_iinc (k := 0) (v := 5) (lv' := [(1, .int 5), (0, .ref (g.2.2.1 + 0))]) hx hb dL_limits_511 hl rfl (by decide) (Nat.le_of_ble_eq_true rfl) rfl (fun ls hl => ?_)
  refine lv_goto (tgt := 487) hx hb dL_limits_514 rfl ?_
  refine lv_iload_n hx hb dL_limits_487 rfl (lv_at hl 0 rfl) ?_
  refine lv_bipush (v := 10) hx hb dL_limits_488 (by decide) ?_
  refine lv_icmp_ge (tgt := 517) hx hb dL_limits_490 rfl (fun hc => absurd hc (by decide)) (fun _ => ?_)
  refine lv_aload_n hx hb dL_limits_493 rfl (lv_at hl 1 rfl) ?_
  refine lv_iconst (v := 3) hx hb dL_limits_494 (by decide) ?_
  refine lv_iconst (v := 3) hx hb dL_limits_495 (by decide) ?_
  refine lv_iconst (v := 0) hx hb dL_limits_496 (by decide) ?_
  refine lv_iconst (v := 2) hx hb dL_limits_497 (by decide) ?_
  refine ar_combine (rest := []) C0 hl.1 hW lfk123 (To_eq lfk124) ⟨Nat.le_of_ble_eq_true rfl, Nat.le_of_ble_eq_true rfl⟩ (Nat.le_of_ble_eq_true rfl) ⟨Nat.le_of_ble_eq_true rfl, Nat.le_of_ble_eq_true rfl⟩ dL_limits_498 (fun H locs hW => ?_)
  refine lv_iconst (v := 1) hx hb dL_limits_501 (by decide) ?_
  refine lv_iconst (v := 4) hx hb dL_limits_502 (by decide) ?_
  refine lv_iload_n hx hb dL_limits_503 rfl (lv_at hl 0 rfl) ?_
  refine lv_imul hx hb dL_limits_504 ?_
  rw [(by decide : (4 : Int32) * (5 : Int32) = 20)]
  refine lv_iadd hx hb dL_limits_505 ?_
  rw [(by decide : (1 : Int32) + (20 : Int32) = 21)]
  refine lv_icmp_eq (tgt := 511) hx hb dL_limits_506 rfl (fun _ => ?_) (fun hc => absurd (by decide) hc)
  refine lv_iinc (k := 0) (v := 6) (lv' := [(1, .int 6), (0, .ref (g.2.2.1 + 0))]) hx hb dL_limits_511 hl rfl (by decide) (Nat.le_of_ble_eq_true rfl) rfl (fun ls hl => ?_)
  refine lv_goto (tgt := 487) hx hb dL_limits_514 rfl ?_
  refine lv_iload_n hx hb dL_limits_487 rfl (lv_at hl 0 rfl) ?_
  refine lv_bipush (v := 10) hx hb dL_limits_488 (by decide) ?_
  refine lv_icmp_ge (tgt := 517) hx hb dL_limits_490 rfl (fun hc => absurd hc (by decide)) (fun _ => ?_)
  refine lv_aload_n hx hb dL_limits_493 rfl (lv_at hl 1 rfl) ?_
  refine lv_iconst (v := 3) hx hb dL_limits_494 (by decide) ?_
  refine lv_iconst (v := 3) hx hb dL_limits_495 (by decide) ?_
  refine lv_iconst (v := 0) hx hb dL_limits_496 (by decide) ?_
  refine lv_iconst (v := 2) hx hb dL_limits_497 (by decide) ?_
  refine ar_combine (rest := []) C0 hl.1 hW lfk125 (To_eq lfk126) ⟨Nat.le_of_ble_eq_true rfl, Nat.le_of_ble_eq_true rfl⟩ (Nat.le_of_ble_eq_true rfl) ⟨Nat.le_of_ble_eq_true rfl, Nat.le_of_ble_eq_true rfl⟩ dL_limits_498 (fun H locs hW => ?_)
  refine lv_iconst (v := 1) hx hb dL_limits_501 (by decide) ?_
  refine lv_iconst (v := 4) hx hb dL_limits_502 (by decide) ?_
  refine lv_iload_n hx hb dL_limits_503 rfl (lv_at hl 0 rfl) ?_
  refine lv_imul hx hb dL_limits_504 ?_
  rw [(by decide : (4 : Int32) * (6 : Int32) = 24)]
  refine lv_iadd hx hb dL_limits_505 ?_
  rw [(by decide : (1 : Int32) + (24 : Int32) = 25)]
  refine lv_icmp_eq (tgt := 511) hx hb dL_limits_506 rfl (fun _ => ?_) (fun hc => absurd (by decide) hc)
  refine lv_iinc (k := 0) (v := 7) (lv' := [(1, .int 7), (0, .ref (g.2.2.1 + 0))]) hx hb dL_limits_511 hl rfl (by decide) (Nat.le_of_ble_eq_true rfl) rfl (fun ls hl => ?_)
  refine lv_goto (tgt := 487) hx hb dL_limits_514 rfl ?_
  refine lv_iload_n hx hb dL_limits_487 rfl (lv_at hl 0 rfl) ?_
  refine lv_bipush (v := 10) hx hb dL_limits_488 (by decide) ?_
  refine lv_icmp_ge (tgt := 517) hx hb dL_limits_490 rfl (fun hc => absurd hc (by decide)) (fun _ => ?_)
  refine lv_aload_n hx hb dL_limits_493 rfl (lv_at hl 1 rfl) ?_
  refine lv_iconst (v := 3) hx hb dL_limits_494 (by decide) ?_
  refine lv_iconst (v := 3) hx hb dL_limits_495 (by decide) ?_
  refine lv_iconst (v := 0) hx hb dL_limits_496 (by decide) ?_
  refine lv_iconst (v := 2) hx hb dL_limits_497 (by decide) ?_
  refine ar_combine (rest := []) C0 hl.1 hW lfk127 (To_eq lfk128) ⟨Nat.le_of_ble_eq_true rfl, Nat.le_of_ble_eq_true rfl⟩ (Nat.le_of_ble_eq_true rfl) ⟨Nat.le_of_ble_eq_true rfl, Nat.le_of_ble_eq_true rfl⟩ dL_limits_498 (fun H locs hW => ?_)
  refine lv_iconst (v := 1) hx hb dL_limits_501 (by decide) ?_
  refine lv_iconst (v := 4) hx hb dL_limits_502 (by decide) ?_
  refine lv_iload_n hx hb dL_limits_503 rfl (lv_at hl 0 rfl) ?_
  refine lv_imul hx hb dL_limits_504 ?_
  rw [(by decide : (4 : Int32) * (7 : Int32) = 28)]
  refine lv_iadd hx hb dL_limits_505 ?_
  rw [(by decide : (1 : Int32) + (28 : Int32) = 29)]
  refine lv_icmp_eq (tgt := 511) hx hb dL_limits_506 rfl (fun _ => ?_) (fun hc => absurd (by decide) hc)
  refine lv_iinc (k := 0) (v := 8) (lv' := [(1, .int 8), (0, .ref (g.2.2.1 + 0))]) hx hb dL_limits_511 hl rfl (by decide) (Nat.le_of_ble_eq_true rfl) rfl (fun ls hl => ?_)
  refine lv_goto (tgt := 487) hx hb dL_limits_514 rfl ?_
  refine lv_iload_n hx hb dL_limits_487 rfl (lv_at hl 0 rfl) ?_
  refine lv_bipush (v := 10) hx hb dL_limits_488 (by decide) ?_
  refine lv_icmp_ge (tgt := 517) hx hb dL_limits_490 rfl (fun hc => absurd hc (by decide)) (fun _ => ?_)
  refine lv_aload_n hx hb dL_limits_493 rfl (lv_at hl 1 rfl) ?_
  refine lv_iconst (v := 3) hx hb dL_limits_494 (by decide) ?_
  refine lv_iconst (v := 3) hx hb dL_limits_495 (by decide) ?_
  refine lv_iconst (v := 0) hx hb dL_limits_496 (by decide) ?_
  refine lv_iconst (v := 2) hx hb dL_limits_497 (by decide) ?_
  refine ar_combine (rest := []) C0 hl.1 hW lfk129 (To_eq lfk130) ⟨Nat.le_of_ble_eq_true rfl, Nat.le_of_ble_eq_true rfl⟩ (Nat.le_of_ble_eq_true rfl) ⟨Nat.le_of_ble_eq_true rfl, Nat.le_of_ble_eq_true rfl⟩ dL_limits_498 (fun H locs hW => ?_)
  refine lv_iconst (v := 1) hx hb dL_limits_501 (by decide) ?_
  refine lv_iconst (v := 4) hx hb dL_limits_502 (by decide) ?_
  refine lv_iload_n hx hb dL_limits_503 rfl (lv_at hl 0 rfl) ?_
  refine lv_imul hx hb dL_limits_504 ?_
  rw [(by decide : (4 : Int32) * (8 : Int32) = 32)]
  refine lv_iadd hx hb dL_limits_505 ?_
  rw [(by decide : (1 : Int32) + (32 : Int32) = 33)]
  refine lv_icmp_eq (tgt := 511) hx hb dL_limits_506 rfl (fun _ => ?_) (fun hc => absurd (by decide) hc)
  refine lv_iinc (k := 0) (v := 9) (lv' := [(1, .int 9), (0, .ref (g.2.2.1 + 0))]) hx hb dL_limits_511 hl rfl (by decide) (Nat.le_of_ble_eq_true rfl) rfl (fun ls hl => ?_)
  refine lv_goto (tgt := 487) hx hb dL_limits_514 rfl ?_
  refine lv_iload_n hx hb dL_limits_487 rfl (lv_at hl 0 rfl) ?_
  refine lv_bipush (v := 10) hx hb dL_limits_488 (by decide) ?_
  refine lv_icmp_ge (tgt := 517) hx hb dL_limits_490 rfl (fun hc => absurd hc (by decide)) (fun _ => ?_)
  refine lv_aload_n hx hb dL_limits_493 rfl (lv_at hl 1 rfl) ?_
  refine lv_iconst (v := 3) hx hb dL_limits_494 (by decide) ?_
  refine lv_iconst (v := 3) hx hb dL_limits_495 (by decide) ?_
  refine lv_iconst (v := 0) hx hb dL_limits_496 (by decide) ?_
  refine lv_iconst (v := 2) hx hb dL_limits_497 (by decide) ?_
  refine ar_combine (rest := []) C0 hl.1 hW lfk131 (To_eq lfk132) ⟨Nat.le_of_ble_eq_true rfl, Nat.le_of_ble_eq_true rfl⟩ (Nat.le_of_ble_eq_true rfl) ⟨Nat.le_of_ble_eq_true rfl, Nat.le_of_ble_eq_true rfl⟩ dL_limits_498 (fun H locs hW => ?_)
  refine lv_iconst (v := 1) hx hb dL_limits_501 (by decide) ?_
  refine lv_iconst (v := 4) hx hb dL_limits_502 (by decide) ?_
  refine lv_iload_n hx hb dL_limits_503 rfl (lv_at hl 0 rfl) ?_
  refine lv_imul hx hb dL_limits_504 ?_
  rw [(by decide : (4 : Int32) * (9 : Int32) = 36)]
  refine lv_iadd hx hb dL_limits_505 ?_
  rw [(by decide : (1 : Int32) + (36 : Int32) = 37)]
  refine lv_icmp_eq (tgt := 511) hx hb dL_limits_506 rfl (fun _ => ?_) (fun hc => absurd (by decide) hc)
  refine lv_iinc (k := 0) (v := 10) (lv' := [(1, .int 10), (0, .ref (g.2.2.1 + 0))]) hx hb dL_limits_511 hl rfl (by decide) (Nat.le_of_ble_eq_true rfl) rfl (fun ls hl => ?_)
  refine lv_goto (tgt := 487) hx hb dL_limits_514 rfl ?_
  refine lv_iload_n hx hb dL_limits_487 rfl (lv_at hl 0 rfl) ?_
  refine lv_bipush (v := 10) hx hb dL_limits_488 (by decide) ?_
  refine lv_icmp_ge (tgt := 517) hx hb dL_limits_490 rfl (fun _ => ?_) (fun hc => absurd (by decide) hc)
  refine lv_aload_n hx hb dL_limits_517 rfl (lv_at hl 1 rfl) ?_
  refine lv_iconst (v := 3) hx hb dL_limits_518 (by decide) ?_
  refine lv_iconst (v := 1) hx hb dL_limits_519 (by decide) ?_
  refine ar_filter (rest := []) C0 hl.1 hW lfk133 ⟨Nat.le_of_ble_eq_true rfl, Nat.le_of_ble_eq_true rfl⟩ (Nat.le_of_ble_eq_true rfl) ⟨Nat.le_of_ble_eq_true rfl, Nat.le_of_ble_eq_true rfl⟩ dL_limits_520 (fun H locs hW => ?_)
  refine lv_bipush (v := 11) hx hb dL_limits_523 (by decide) ?_
  refine lv_icmp_ne (tgt := 577) hx hb dL_limits_525 rfl (fun hc => absurd hc (by decide)) (fun _ => ?_)
  exact W.widen (Nat.le_of_ble_eq_true rfl) (Nat.le_of_ble_eq_true rfl) (hK H locs ls hW hl)
set_option maxHeartbeats 2000000 in
theorem lm_5 (hfl : l.stackTraces = false) (C0 : CX g p s m args meth c RL cL_limits 2 (some .boolean)) (hl : lv_has ls 2 [(1, .int 10), (0, .ref (g.2.2.1 + 0))]) (hW : WA g lgn45 false Z0 s.heap H locs) : W p l e rmL_limits s m args below meth c H locs 112 3510 (MQ below (QB g) args s rmL_limits.cells rmL_limits.slots (AA g)) (F0 m 528 ls []) := by
  have hx := C0.1; have hb := C0.2.1; have hown := C0.2.2.2.2.1; have hts := C0.2.2.2.2.2.1
  refine lv_aload_n hx hb dL_limits_528 rfl (lv_at hl 1 rfl) ?_
  refine lv_iconst (v := 4) hx hb dL_limits_529 (by decide) ?_
  refine lv_iconst (v := 3) hx hb dL_limits_530 (by decide) ?_
  refine lv_iconst (v := 3) hx hb dL_limits_531 (by decide) ?_
  refine lv_iconst (v := 0) hx hb dL_limits_532 (by decide) ?_
  refine lv_iconst (v := 1) hx hb dL_limits_533 (by decide) ?_
  refine lv_iconst (v := 0) hx hb dL_limits_534 (by decide) ?_
  refine al_cSl (rest := [.int 3, .int 3, .int 4, .ref (g.2.2.1 + 0)]) C0 hW (c_L_three (r := 500501500) (by decide +kernel)) (ls_three hts ⟨Nat.le_of_ble_eq_true rfl, Nat.le_of_ble_eq_true rfl⟩) rfl hl.1 rfl (Nat.le_of_ble_eq_true rfl) ⟨Nat.le_of_ble_eq_true rfl, Nat.le_of_ble_eq_true rfl⟩ dL_limits_535 (fun H locs hW => ?_)
  refine al_cSW (rest := []) C0 hW (c_L_call hfl _ _ _ _ (ce_combine lfk134)) (ls_call hts ⟨Nat.le_of_ble_eq_true rfl, Nat.le_of_ble_eq_true rfl⟩) rfl hl.1 rfl (Nat.le_of_ble_eq_true rfl) ⟨Nat.le_of_ble_eq_true rfl, Nat.le_of_ble_eq_true rfl⟩ dL_limits_538 (fun H locs hW => ?_)
  refine lv_ldc (v := (-100013)) hx hb hown (hts _ wl121) dL_limits_541 ?_
  refine lv_icmp_ne (tgt := 577) hx hb dL_limits_543 rfl (fun hc => absurd hc (by decide)) (fun _ => ?_)
  refine lv_aload_n hx hb dL_limits_546 rfl (lv_at hl 1 rfl) ?_
  refine lv_iconst (v := 3) hx hb dL_limits_547 (by decide) ?_
  refine lv_iconst (v := 3) hx hb dL_limits_548 (by decide) ?_
  refine lv_iconst (v := 3) hx hb dL_limits_549 (by decide) ?_
  refine lv_iconst (v := 0) hx hb dL_limits_550 (by decide) ?_
  refine ar_combine (rest := []) C0 hl.1 hW lfk135 (To_eq lfk136) ⟨Nat.le_of_ble_eq_true rfl, Nat.le_of_ble_eq_true rfl⟩ (Nat.le_of_ble_eq_true rfl) ⟨Nat.le_of_ble_eq_true rfl, Nat.le_of_ble_eq_true rfl⟩ dL_limits_551 (fun H locs hW => ?_)
  refine lv_bipush (v := 38) hx hb dL_limits_554 (by decide) ?_
  refine lv_icmp_ne (tgt := 577) hx hb dL_limits_556 rfl (fun hc => absurd hc (by decide)) (fun _ => ?_)
  refine lv_aload_n hx hb dL_limits_559 rfl (lv_at hl 1 rfl) ?_
  refine lv_iconst (v := 4) hx hb dL_limits_560 (by decide) ?_
  refine lv_iconst (v := 3) hx hb dL_limits_561 (by decide) ?_
  refine lv_iconst (v := 5) hx hb dL_limits_562 (by decide) ?_
  refine lv_iconst (v := 3) hx hb dL_limits_563 (by decide) ?_
  refine lv_iconst (v := 0) hx hb dL_limits_564 (by decide) ?_
  refine lv_iconst (v := 0) hx hb dL_limits_565 (by decide) ?_
  refine al_cSl (rest := [.int 5, .int 3, .int 4, .ref (g.2.2.1 + 0)]) C0 hW (c_L_three (r := 503500500) (by decide +kernel)) (ls_three hts ⟨Nat.le_of_ble_eq_true rfl, Nat.le_of_ble_eq_true rfl⟩) rfl hl.1 rfl (Nat.le_of_ble_eq_true rfl) ⟨Nat.le_of_ble_eq_true rfl, Nat.le_of_ble_eq_true rfl⟩ dL_limits_566 (fun H locs hW => ?_)
  refine al_cSW (rest := []) C0 hW (c_L_call hfl _ _ _ _ (ce_combine lfk137)) (ls_call hts ⟨Nat.le_of_ble_eq_true rfl, Nat.le_of_ble_eq_true rfl⟩) rfl hl.1 rfl (Nat.le_of_ble_eq_true rfl) ⟨Nat.le_of_ble_eq_true rfl, Nat.le_of_ble_eq_true rfl⟩ dL_limits_569 (fun H locs hW => ?_)
  refine lv_ldc (v := (-100013)) hx hb hown (hts _ wl121) dL_limits_572 ?_
  refine lv_icmp_eq (tgt := 579) hx hb dL_limits_574 rfl (fun _ => ?_) (fun hc => absurd (by decide) hc)
  refine lv_aload_n hx hb dL_limits_579 rfl (lv_at hl 1 rfl) ?_
  refine lv_iconst (v := 3) hx hb dL_limits_580 (by decide) ?_
  refine lv_iconst (v := 2) hx hb dL_limits_581 (by decide) ?_
  refine ar_filter (rest := []) C0 hl.1 hW lfk138 ⟨Nat.le_of_ble_eq_true rfl, Nat.le_of_ble_eq_true rfl⟩ (Nat.le_of_ble_eq_true rfl) ⟨Nat.le_of_ble_eq_true rfl, Nat.le_of_ble_eq_true rfl⟩ dL_limits_582 (fun H locs hW => ?_)
  refine lv_bipush (v := 19) hx hb dL_limits_585 (by decide) ?_
  refine lv_icmp_ne (tgt := 594) hx hb dL_limits_587 rfl (fun hc => absurd hc (by decide)) (fun _ => ?_)
  refine lv_iconst (v := 1) hx hb dL_limits_590 (by decide) ?_
  refine lv_goto (tgt := 595) hx hb dL_limits_591 rfl ?_
  exact al_bret C0 hW (Nat.le_of_ble_eq_true rfl) (Nat.le_of_ble_eq_true rfl) dL_limits_595
theorem c_L_limits (hfl : l.stackTraces = false) : Met l yL_limits (Cond.code yL_limits cL_limits 2 (some .boolean) :: GT) rmL_limits (va_Pc [] (PB g)) (QB g) rmL_limits.cells rmL_limits.slots (AA g) := by
  refine al_ofB (lv0 := []) (by decide) (Nat.le_of_ble_eq_true rfl) rfl (fun p e s m args below meth c ls H locs C0 hl hS hsz => ?_)
  have C0 : CX g p s m args meth c RL cL_limits 2 (some .boolean) := C0
  have hx := C0.1; have hb := C0.2.1
  refine al_new C0 hl.1 hS hsz ⟨Nat.le_of_ble_eq_true rfl, Nat.le_of_ble_eq_true rfl⟩ ⟨Nat.le_of_ble_eq_true rfl, Nat.le_of_ble_eq_true rfl⟩ dL_limits_0 dL_limits_3 dL_limits_4 (fun H locs hsz hW => ?_)
  have hW := WA_eq lfk0 hW
  refine lv_astore_n (lv' := [(0, .ref (g.2.2.1 + 0))]) hx hb dL_limits_7 rfl hl (Nat.le_of_ble_eq_true rfl) rfl (fun ls hl => ?_)
  exact lm_0 hfl C0 hl hW (fun H locs ls hW hl => lm_1 hfl C0 hl hW (fun H locs ls hW hl => lm_2 hfl C0 hl hW (fun H locs ls hW hl => lm_3 hfl C0 hl hW (fun H locs ls hW hl => lm_4 hfl C0 hl hW (fun H locs ls hW hl => lm_5 hfl C0 hl hW)))))
end LMW
