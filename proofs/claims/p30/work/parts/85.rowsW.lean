/-! rows: the walk -/
section RWW
abbrev rmL_rows : Room := { frames := 12, cells := 1094, slots := 35425, locals := 245 }
theorem ls_rows {Rm : Room} {s : State} {args : Array Value} (ht : ∀ w ∈ GT, w.before args s = true) (hR : rmL_rows.frames + 1 ≤ Rm.frames ∧ 8 + (1 + 11) + rmL_rows.locals ≤ Rm.locals) : CallB Rm s args RL 296 yL_rows cL_rows 1 (some .boolean) (Cond.code yL_rows cL_rows 1 (some .boolean) :: GT) rmL_rows 1094 35425 0 ∧ (Cond.static yL_rows).before args s = true := va_cwS 0 ht (goodS wl154 wl156 wl27 wl155) rfl rfl rfl ⟨by decide +kernel, by decide +kernel, by decide +kernel⟩ hR
variable {p : Program} {l : Launch} {e : Env} {Rm : Room} {s : State} {m : MethodId} {args : Array Value} {below : List Frame} {meth : Method} {c : Code} {H : Heap} {locs : List Loc} {cells slots : Nat} {Q : State → Prop}
variable {cc : ByteArray} {pc : Nat} {ls : Array Slot} {rest : List Value} {g : Gam} {σ : Gst} {b : Bool} {Z : Zed} {nL : Nat} {ret : Option FieldType}
set_option maxHeartbeats 2000000 in
theorem rw_0 (hfl : l.stackTraces = false) (C0 : CX g p s m args meth c RL cL_rows 1 (some .boolean)) (hl : lv_has ls 1 [(0, .ref (g.2.2.1 + 0))]) (hW : WA g gn0 false Z0 s.heap H locs) (hK : ∀ (H : Heap) (locs : List Loc) (ls : Array Slot), WA g gn0 false Z0 s.heap H locs → lv_has ls 1 [(0, .ref (g.2.2.1 + 0))] → W p l e rmL_rows s m args below meth c H locs 74 2275 (MQ below (QB g) args s rmL_rows.cells rmL_rows.slots (AA g)) (F0 m 155 ls [])) : W p l e rmL_rows s m args below meth c H locs 70 2145 (MQ below (QB g) args s rmL_rows.cells rmL_rows.slots (AA g)) (F0 m 8 ls []) := by
  have hx := C0.1; have hb := C0.2.1; have hown := C0.2.2.2.2.1; have hts := C0.2.2.2.2.2.1
  refine lv_aload_n hx hb dL_rows_8 rfl (lv_at hl 0 rfl) ?_
  refine lv_bipush (v := 9) hx hb dL_rows_9 (by decide) ?_
  refine lv_iconst (v := 0) hx hb dL_rows_11 (by decide) ?_
  refine lv_iconst (v := 0) hx hb dL_rows_12 (by decide) ?_
  refine lv_lconst (v := 0) hx hb dL_rows_13 rfl ?_
  refine al_cSW (rest := []) C0 hW (c_L_call hfl _ _ _ _ (ce_undo fk1)) (ls_call hts ⟨Nat.le_of_ble_eq_true rfl, Nat.le_of_ble_eq_true rfl⟩) rfl hl.1 rfl (Nat.le_of_ble_eq_true rfl) ⟨Nat.le_of_ble_eq_true rfl, Nat.le_of_ble_eq_true rfl⟩ dL_rows_14 (fun H locs hW => ?_)
  refine lv_ldc (v := (-100013)) hx hb hown (hts _ wl121) dL_rows_17 ?_
  refine lv_icmp_ne (tgt := 445) hx hb dL_rows_19 rfl (fun hc => absurd hc (by decide)) (fun _ => ?_)
  refine lv_aload_n hx hb dL_rows_22 rfl (lv_at hl 0 rfl) ?_
  refine lv_bipush (v := 11) hx hb dL_rows_23 (by decide) ?_
  refine lv_iconst (v := 1) hx hb dL_rows_25 (by decide) ?_
  refine lv_iconst (v := 0) hx hb dL_rows_26 (by decide) ?_
  refine lv_lconst (v := 0) hx hb dL_rows_27 rfl ?_
  refine al_cSW (rest := []) C0 hW (c_L_call hfl _ _ _ _ (ce_goBack fk2)) (ls_call hts ⟨Nat.le_of_ble_eq_true rfl, Nat.le_of_ble_eq_true rfl⟩) rfl hl.1 rfl (Nat.le_of_ble_eq_true rfl) ⟨Nat.le_of_ble_eq_true rfl, Nat.le_of_ble_eq_true rfl⟩ dL_rows_28 (fun H locs hW => ?_)
  refine lv_ldc (v := (-100013)) hx hb hown (hts _ wl121) dL_rows_31 ?_
  refine lv_icmp_ne (tgt := 445) hx hb dL_rows_33 rfl (fun hc => absurd hc (by decide)) (fun _ => ?_)
  refine lv_aload_n hx hb dL_rows_36 rfl (lv_at hl 0 rfl) ?_
  refine lv_iconst (v := 3) hx hb dL_rows_37 (by decide) ?_
  refine lv_iconst (v := 0) hx hb dL_rows_38 (by decide) ?_
  refine ar_filter (rest := []) C0 hl.1 hW fk3 ⟨Nat.le_of_ble_eq_true rfl, Nat.le_of_ble_eq_true rfl⟩ (Nat.le_of_ble_eq_true rfl) ⟨Nat.le_of_ble_eq_true rfl, Nat.le_of_ble_eq_true rfl⟩ dL_rows_39 (fun H locs hW => ?_)
  refine lv_bipush (v := (-2)) hx hb dL_rows_42 (by decide) ?_
  refine lv_icmp_ne (tgt := 445) hx hb dL_rows_44 rfl (fun hc => absurd hc (by decide)) (fun _ => ?_)
  refine lv_aload_n hx hb dL_rows_47 rfl (lv_at hl 0 rfl) ?_
  refine lv_iconst (v := 0) hx hb dL_rows_48 (by decide) ?_
  refine lv_iconst (v := 0) hx hb dL_rows_49 (by decide) ?_
  refine ar_letter (rest := []) C0 hl.1 hW fk4 ⟨Nat.le_of_ble_eq_true rfl, Nat.le_of_ble_eq_true rfl⟩ (Nat.le_of_ble_eq_true rfl) ⟨Nat.le_of_ble_eq_true rfl, Nat.le_of_ble_eq_true rfl⟩ dL_rows_50 (fun H locs hW => ?_)
  refine lv_bipush (v := (-2)) hx hb dL_rows_53 (by decide) ?_
  refine lv_icmp_ne (tgt := 445) hx hb dL_rows_55 rfl (fun hc => absurd hc (by decide)) (fun _ => ?_)
  refine lv_aload_n hx hb dL_rows_58 rfl (lv_at hl 0 rfl) ?_
  refine lv_iconst (v := 1) hx hb dL_rows_59 (by decide) ?_
  refine lv_iconst (v := 2) hx hb dL_rows_60 (by decide) ?_
  refine lv_iconst (v := 2) hx hb dL_rows_61 (by decide) ?_
  refine lv_iconst (v := 0) hx hb dL_rows_62 (by decide) ?_
  refine ar_rows (rest := []) C0 hl.1 hW fk5 ⟨Nat.le_of_ble_eq_true rfl, Nat.le_of_ble_eq_true rfl⟩ (Nat.le_of_ble_eq_true rfl) ⟨Nat.le_of_ble_eq_true rfl, Nat.le_of_ble_eq_true rfl⟩ dL_rows_63 (fun H locs hW => ?_)
  refine lv_bipush (v := (-2)) hx hb dL_rows_66 (by decide) ?_
  refine lv_icmp_ne (tgt := 445) hx hb dL_rows_68 rfl (fun hc => absurd hc (by decide)) (fun _ => ?_)
  refine lv_aload_n hx hb dL_rows_71 rfl (lv_at hl 0 rfl) ?_
  refine lv_iconst (v := 0) hx hb dL_rows_72 (by decide) ?_
  refine lv_iconst (v := 0) hx hb dL_rows_73 (by decide) ?_
  refine ar_share (rest := []) C0 hl.1 hW fk6 ⟨Nat.le_of_ble_eq_true rfl, Nat.le_of_ble_eq_true rfl⟩ (Nat.le_of_ble_eq_true rfl) ⟨Nat.le_of_ble_eq_true rfl, Nat.le_of_ble_eq_true rfl⟩ dL_rows_74 (fun H locs hW => ?_)
  refine lv_dconst0 hx hb dL_rows_77 ?_
  refine lv_dcmp hx hb dL_rows_78 ?_
  rw [fk7]
  refine lv_if_ne (tgt := 445) hx hb dL_rows_79 rfl (fun hc => absurd hc (by decide)) (fun _ => ?_)
  refine lv_aload_n hx hb dL_rows_82 rfl (lv_at hl 0 rfl) ?_
  refine lv_iconst (v := 0) hx hb dL_rows_83 (by decide) ?_
  refine lv_iconst (v := 0) hx hb dL_rows_84 (by decide) ?_
  refine lv_iconst (v := 3) hx hb dL_rows_85 (by decide) ?_
  refine ar_column (rest := []) C0 hl.1 hW fk8 ⟨Nat.le_of_ble_eq_true rfl, Nat.le_of_ble_eq_true rfl⟩ (Nat.le_of_ble_eq_true rfl) ⟨Nat.le_of_ble_eq_true rfl, Nat.le_of_ble_eq_true rfl⟩ dL_rows_86 (fun H locs hW => ?_)
  refine lv_bipush (v := (-2)) hx hb dL_rows_89 (by decide) ?_
  refine lv_icmp_ne (tgt := 445) hx hb dL_rows_91 rfl (fun hc => absurd hc (by decide)) (fun _ => ?_)
  refine lv_aload_n hx hb dL_rows_94 rfl (lv_at hl 0 rfl) ?_
  refine lv_iconst (v := 0) hx hb dL_rows_95 (by decide) ?_
  refine lv_iconst (v := 0) hx hb dL_rows_96 (by decide) ?_
  refine lv_bipush (v := 6) hx hb dL_rows_97 (by decide) ?_
  refine ar_column (rest := []) C0 hl.1 hW fk9 ⟨Nat.le_of_ble_eq_true rfl, Nat.le_of_ble_eq_true rfl⟩ (Nat.le_of_ble_eq_true rfl) ⟨Nat.le_of_ble_eq_true rfl, Nat.le_of_ble_eq_true rfl⟩ dL_rows_99 (fun H locs hW => ?_)
  refine lv_bipush (v := (-2)) hx hb dL_rows_102 (by decide) ?_
  refine lv_icmp_ne (tgt := 445) hx hb dL_rows_104 rfl (fun hc => absurd hc (by decide)) (fun _ => ?_)
  refine lv_aload_n hx hb dL_rows_107 rfl (lv_at hl 0 rfl) ?_
  refine lv_iconst (v := 1) hx hb dL_rows_108 (by decide) ?_
  refine lv_iconst (v := 3) hx hb dL_rows_109 (by decide) ?_
  refine lv_iconst (v := 0) hx hb dL_rows_110 (by decide) ?_
  refine lv_iconst (v := 0) hx hb dL_rows_111 (by decide) ?_
  refine ar_group (rest := []) C0 hl.1 hW fk10 ⟨Nat.le_of_ble_eq_true rfl, Nat.le_of_ble_eq_true rfl⟩ (Nat.le_of_ble_eq_true rfl) ⟨Nat.le_of_ble_eq_true rfl, Nat.le_of_ble_eq_true rfl⟩ dL_rows_112 (fun H locs hW => ?_)
  refine lv_bipush (v := (-2)) hx hb dL_rows_115 (by decide) ?_
  refine lv_icmp_ne (tgt := 445) hx hb dL_rows_117 rfl (fun hc => absurd hc (by decide)) (fun _ => ?_)
  refine lv_aload_n hx hb dL_rows_120 rfl (lv_at hl 0 rfl) ?_
  refine lv_iconst (v := 0) hx hb dL_rows_121 (by decide) ?_
  refine lv_iconst (v := 0) hx hb dL_rows_122 (by decide) ?_
  refine lv_iconst (v := 0) hx hb dL_rows_123 (by decide) ?_
  refine ar_join (rest := []) C0 hl.1 hW fk11 ⟨Nat.le_of_ble_eq_true rfl, Nat.le_of_ble_eq_true rfl⟩ (Nat.le_of_ble_eq_true rfl) ⟨Nat.le_of_ble_eq_true rfl, Nat.le_of_ble_eq_true rfl⟩ dL_rows_124 (fun H locs hW => ?_)
  refine lv_if_ne (tgt := 445) hx hb dL_rows_127 rfl (fun hc => absurd hc (by decide)) (fun _ => ?_)
  refine lv_aload_n hx hb dL_rows_130 rfl (lv_at hl 0 rfl) ?_
  refine lv_iconst (v := 3) hx hb dL_rows_131 (by decide) ?_
  refine lv_iconst (v := 3) hx hb dL_rows_132 (by decide) ?_
  refine lv_iconst (v := 3) hx hb dL_rows_133 (by decide) ?_
  refine ar_join (rest := []) C0 hl.1 hW fk12 ⟨Nat.le_of_ble_eq_true rfl, Nat.le_of_ble_eq_true rfl⟩ (Nat.le_of_ble_eq_true rfl) ⟨Nat.le_of_ble_eq_true rfl, Nat.le_of_ble_eq_true rfl⟩ dL_rows_134 (fun H locs hW => ?_)
  refine lv_bipush (v := (-2)) hx hb dL_rows_137 (by decide) ?_
  refine lv_icmp_ne (tgt := 445) hx hb dL_rows_139 rfl (fun hc => absurd hc (by decide)) (fun _ => ?_)
  refine lv_aload_n hx hb dL_rows_142 rfl (lv_at hl 0 rfl) ?_
  refine lv_iconst (v := 0) hx hb dL_rows_143 (by decide) ?_
  refine lv_iconst (v := 0) hx hb dL_rows_144 (by decide) ?_
  refine lv_iconst (v := 0) hx hb dL_rows_145 (by decide) ?_
  refine lv_iconst (v := 0) hx hb dL_rows_146 (by decide) ?_
  refine ar_compare (rest := []) C0 hl.1 hW fk13 ⟨Nat.le_of_ble_eq_true rfl, Nat.le_of_ble_eq_true rfl⟩ (Nat.le_of_ble_eq_true rfl) ⟨Nat.le_of_ble_eq_true rfl, Nat.le_of_ble_eq_true rfl⟩ dL_rows_147 (fun H locs hW => ?_)
  refine lv_bipush (v := (-2)) hx hb dL_rows_150 (by decide) ?_
  refine lv_icmp_ne (tgt := 445) hx hb dL_rows_152 rfl (fun hc => absurd hc (by decide)) (fun _ => ?_)
  exact W.widen (Nat.le_of_ble_eq_true rfl) (Nat.le_of_ble_eq_true rfl) (hK H locs ls hW hl)
set_option maxHeartbeats 2000000 in
theorem rw_1 (hfl : l.stackTraces = false) (C0 : CX g p s m args meth c RL cL_rows 1 (some .boolean)) (hl : lv_has ls 1 [(0, .ref (g.2.2.1 + 0))]) (hW : WA g gn0 false Z0 s.heap H locs) (hK : ∀ (H : Heap) (locs : List Loc) (ls : Array Slot), WA g gn5 false Z0 s.heap H locs → lv_has ls 1 [(0, .ref (g.2.2.1 + 0))] → W p l e rmL_rows s m args below meth c H locs 578 18655 (MQ below (QB g) args s rmL_rows.cells rmL_rows.slots (AA g)) (F0 m 286 ls [])) : W p l e rmL_rows s m args below meth c H locs 74 2275 (MQ below (QB g) args s rmL_rows.cells rmL_rows.slots (AA g)) (F0 m 155 ls []) := by
  have hx := C0.1; have hb := C0.2.1; have hown := C0.2.2.2.2.1; have hts := C0.2.2.2.2.2.1
  refine lv_aload_n hx hb dL_rows_155 rfl (lv_at hl 0 rfl) ?_
  refine lv_iconst (v := 4) hx hb dL_rows_156 (by decide) ?_
  refine lv_iconst (v := 0) hx hb dL_rows_157 (by decide) ?_
  refine lv_iconst (v := 1) hx hb dL_rows_158 (by decide) ?_
  refine lv_iconst (v := 1) hx hb dL_rows_159 (by decide) ?_
  refine lv_iconst (v := 0) hx hb dL_rows_160 (by decide) ?_
  refine lv_iconst (v := 0) hx hb dL_rows_161 (by decide) ?_
  refine al_cSl (rest := [.int 1, .int 0, .int 4, .ref (g.2.2.1 + 0)]) C0 hW (c_L_three (r := 501500500) (by decide +kernel)) (ls_three hts ⟨Nat.le_of_ble_eq_true rfl, Nat.le_of_ble_eq_true rfl⟩) rfl hl.1 rfl (Nat.le_of_ble_eq_true rfl) ⟨Nat.le_of_ble_eq_true rfl, Nat.le_of_ble_eq_true rfl⟩ dL_rows_162 (fun H locs hW => ?_)
  refine al_cSW (rest := []) C0 hW (c_L_call hfl _ _ _ _ (ce_combine fk14)) (ls_call hts ⟨Nat.le_of_ble_eq_true rfl, Nat.le_of_ble_eq_true rfl⟩) rfl hl.1 rfl (Nat.le_of_ble_eq_true rfl) ⟨Nat.le_of_ble_eq_true rfl, Nat.le_of_ble_eq_true rfl⟩ dL_rows_165 (fun H locs hW => ?_)
  refine lv_ldc (v := (-100013)) hx hb hown (hts _ wl121) dL_rows_168 ?_
  refine lv_icmp_ne (tgt := 445) hx hb dL_rows_170 rfl (fun hc => absurd hc (by decide)) (fun _ => ?_)
  refine lv_aload_n hx hb dL_rows_173 rfl (lv_at hl 0 rfl) ?_
  refine lv_iconst (v := 5) hx hb dL_rows_174 (by decide) ?_
  refine lv_iconst (v := 0) hx hb dL_rows_175 (by decide) ?_
  refine lv_iconst (v := 0) hx hb dL_rows_176 (by decide) ?_
  refine lv_lconst (v := 0) hx hb dL_rows_177 rfl ?_
  refine al_cSW (rest := []) C0 hW (c_L_call hfl _ _ _ _ (ce_check fk15)) (ls_call hts ⟨Nat.le_of_ble_eq_true rfl, Nat.le_of_ble_eq_true rfl⟩) rfl hl.1 rfl (Nat.le_of_ble_eq_true rfl) ⟨Nat.le_of_ble_eq_true rfl, Nat.le_of_ble_eq_true rfl⟩ dL_rows_178 (fun H locs hW => ?_)
  refine lv_ldc (v := (-100013)) hx hb hown (hts _ wl121) dL_rows_181 ?_
  refine lv_icmp_ne (tgt := 445) hx hb dL_rows_183 rfl (fun hc => absurd hc (by decide)) (fun _ => ?_)
  refine lv_aload_n hx hb dL_rows_186 rfl (lv_at hl 0 rfl) ?_
  refine lv_bipush (v := 6) hx hb dL_rows_187 (by decide) ?_
  refine lv_iconst (v := 0) hx hb dL_rows_189 (by decide) ?_
  refine lv_iconst (v := 0) hx hb dL_rows_190 (by decide) ?_
  refine lv_lconst (v := 0) hx hb dL_rows_191 rfl ?_
  refine al_cSW (rest := []) C0 hW (c_L_call hfl _ _ _ _ (ce_remove fk16)) (ls_call hts ⟨Nat.le_of_ble_eq_true rfl, Nat.le_of_ble_eq_true rfl⟩) rfl hl.1 rfl (Nat.le_of_ble_eq_true rfl) ⟨Nat.le_of_ble_eq_true rfl, Nat.le_of_ble_eq_true rfl⟩ dL_rows_192 (fun H locs hW => ?_)
  refine lv_ldc (v := (-100013)) hx hb hown (hts _ wl121) dL_rows_195 ?_
  refine lv_icmp_ne (tgt := 445) hx hb dL_rows_197 rfl (fun hc => absurd hc (by decide)) (fun _ => ?_)
  refine lv_aload_n hx hb dL_rows_200 rfl (lv_at hl 0 rfl) ?_
  refine lv_bipush (v := 7) hx hb dL_rows_201 (by decide) ?_
  refine lv_iconst (v := 0) hx hb dL_rows_203 (by decide) ?_
  refine lv_iconst (v := 0) hx hb dL_rows_204 (by decide) ?_
  refine lv_iconst (v := 0) hx hb dL_rows_205 (by decide) ?_
  refine lv_iconst (v := 0) hx hb dL_rows_206 (by decide) ?_
  refine lv_iconst (v := 0) hx hb dL_rows_207 (by decide) ?_
  refine al_cSl (rest := [.int 0, .int 0, .int 7, .ref (g.2.2.1 + 0)]) C0 hW (c_L_three (r := 500500500) (by decide +kernel)) (ls_three hts ⟨Nat.le_of_ble_eq_true rfl, Nat.le_of_ble_eq_true rfl⟩) rfl hl.1 rfl (Nat.le_of_ble_eq_true rfl) ⟨Nat.le_of_ble_eq_true rfl, Nat.le_of_ble_eq_true rfl⟩ dL_rows_208 (fun H locs hW => ?_)
  refine al_cSW (rest := []) C0 hW (c_L_call hfl _ _ _ _ (ce_update fk17)) (ls_call hts ⟨Nat.le_of_ble_eq_true rfl, Nat.le_of_ble_eq_true rfl⟩) rfl hl.1 rfl (Nat.le_of_ble_eq_true rfl) ⟨Nat.le_of_ble_eq_true rfl, Nat.le_of_ble_eq_true rfl⟩ dL_rows_211 (fun H locs hW => ?_)
  refine lv_ldc (v := (-100013)) hx hb hown (hts _ wl121) dL_rows_214 ?_
  refine lv_icmp_ne (tgt := 445) hx hb dL_rows_216 rfl (fun hc => absurd hc (by decide)) (fun _ => ?_)
  refine lv_aload_n hx hb dL_rows_219 rfl (lv_at hl 0 rfl) ?_
  refine lv_iconst (v := 1) hx hb dL_rows_220 (by decide) ?_
  refine lv_bipush (v := (-2)) hx hb dL_rows_221 (by decide) ?_
  refine ar_check (rest := []) C0 hl.1 hW fk18 (To_eq fk19) ⟨Nat.le_of_ble_eq_true rfl, Nat.le_of_ble_eq_true rfl⟩ (Nat.le_of_ble_eq_true rfl) ⟨Nat.le_of_ble_eq_true rfl, Nat.le_of_ble_eq_true rfl⟩ dL_rows_223 (fun H locs hW => ?_)
  refine lv_if_ne (tgt := 445) hx hb dL_rows_226 rfl (fun hc => absurd hc (by decide)) (fun _ => ?_)
  refine lv_aload_n hx hb dL_rows_229 rfl (lv_at hl 0 rfl) ?_
  refine al_cSi (rest := []) C0 hW (c_L_refused hfl) (ls_refused hts ⟨Nat.le_of_ble_eq_true rfl, Nat.le_of_ble_eq_true rfl⟩) rfl hl.1 rfl (Nat.le_of_ble_eq_true rfl) ⟨Nat.le_of_ble_eq_true rfl, Nat.le_of_ble_eq_true rfl⟩ dL_rows_230 (fun H locs hW => ?_)
  have hW : WA g gn1 false Z0 s.heap H locs := hW
  refine lv_if_eq (tgt := 445) hx hb dL_rows_233 rfl (fun hc => absurd hc (by decide)) (fun _ => ?_)
  refine lv_aload_n hx hb dL_rows_236 rfl (lv_at hl 0 rfl) ?_
  refine lv_iconst (v := 0) hx hb dL_rows_237 (by decide) ?_
  refine lv_iconst (v := 5) hx hb dL_rows_238 (by decide) ?_
  refine lv_iconst (v := (-1)) hx hb dL_rows_239 (by decide) ?_
  refine lv_iconst (v := 3) hx hb dL_rows_240 (by decide) ?_
  refine lv_iconst (v := 4) hx hb dL_rows_241 (by decide) ?_
  refine ar_add (rest := []) C0 hl.1 hW fk20 (To_eq fk21) ⟨Nat.le_of_ble_eq_true rfl, Nat.le_of_ble_eq_true rfl⟩ (Nat.le_of_ble_eq_true rfl) ⟨Nat.le_of_ble_eq_true rfl, Nat.le_of_ble_eq_true rfl⟩ dL_rows_242 (fun H locs hW => ?_)
  refine lv_if_ne (tgt := 445) hx hb dL_rows_245 rfl (fun hc => absurd hc (by decide)) (fun _ => ?_)
  refine lv_aload_n hx hb dL_rows_248 rfl (lv_at hl 0 rfl) ?_
  refine lv_iconst (v := 0) hx hb dL_rows_249 (by decide) ?_
  refine lv_iconst (v := 1) hx hb dL_rows_250 (by decide) ?_
  refine lv_iconst (v := 2) hx hb dL_rows_251 (by decide) ?_
  refine lv_iconst (v := (-1)) hx hb dL_rows_252 (by decide) ?_
  refine lv_iconst (v := (-1)) hx hb dL_rows_253 (by decide) ?_
  refine ar_add (rest := []) C0 hl.1 hW fk22 (To_eq fk23) ⟨Nat.le_of_ble_eq_true rfl, Nat.le_of_ble_eq_true rfl⟩ (Nat.le_of_ble_eq_true rfl) ⟨Nat.le_of_ble_eq_true rfl, Nat.le_of_ble_eq_true rfl⟩ dL_rows_254 (fun H locs hW => ?_)
  refine lv_iconst (v := 1) hx hb dL_rows_257 (by decide) ?_
  refine lv_icmp_ne (tgt := 445) hx hb dL_rows_258 rfl (fun hc => absurd hc (by decide)) (fun _ => ?_)
  refine lv_aload_n hx hb dL_rows_261 rfl (lv_at hl 0 rfl) ?_
  refine lv_iconst (v := 1) hx hb dL_rows_262 (by decide) ?_
  refine lv_iconst (v := 5) hx hb dL_rows_263 (by decide) ?_
  refine lv_iconst (v := 5) hx hb dL_rows_264 (by decide) ?_
  refine lv_iconst (v := 5) hx hb dL_rows_265 (by decide) ?_
  refine lv_iconst (v := 5) hx hb dL_rows_266 (by decide) ?_
  refine ar_add (rest := []) C0 hl.1 hW fk24 (To_eq fk25) ⟨Nat.le_of_ble_eq_true rfl, Nat.le_of_ble_eq_true rfl⟩ (Nat.le_of_ble_eq_true rfl) ⟨Nat.le_of_ble_eq_true rfl, Nat.le_of_ble_eq_true rfl⟩ dL_rows_267 (fun H locs hW => ?_)
  refine lv_if_ne (tgt := 445) hx hb dL_rows_270 rfl (fun hc => absurd hc (by decide)) (fun _ => ?_)
  refine lv_aload_n hx hb dL_rows_273 rfl (lv_at hl 0 rfl) ?_
  refine lv_iconst (v := 1) hx hb dL_rows_274 (by decide) ?_
  refine lv_iconst (v := (-1)) hx hb dL_rows_275 (by decide) ?_
  refine lv_iconst (v := 2) hx hb dL_rows_276 (by decide) ?_
  refine lv_iconst (v := 2) hx hb dL_rows_277 (by decide) ?_
  refine lv_iconst (v := 2) hx hb dL_rows_278 (by decide) ?_
  refine ar_add (rest := []) C0 hl.1 hW fk26 (To_eq fk27) ⟨Nat.le_of_ble_eq_true rfl, Nat.le_of_ble_eq_true rfl⟩ (Nat.le_of_ble_eq_true rfl) ⟨Nat.le_of_ble_eq_true rfl, Nat.le_of_ble_eq_true rfl⟩ dL_rows_279 (fun H locs hW => ?_)
  refine lv_iconst (v := 1) hx hb dL_rows_282 (by decide) ?_
  refine lv_icmp_ne (tgt := 445) hx hb dL_rows_283 rfl (fun hc => absurd hc (by decide)) (fun _ => ?_)
  exact W.widen (Nat.le_of_ble_eq_true rfl) (Nat.le_of_ble_eq_true rfl) (hK H locs ls hW hl)
set_option maxHeartbeats 2000000 in
theorem rw_2 (hfl : l.stackTraces = false) (C0 : CX g p s m args meth c RL cL_rows 1 (some .boolean)) (hl : lv_has ls 1 [(0, .ref (g.2.2.1 + 0))]) (hW : WA g gn5 false Z0 s.heap H locs) (hK : ∀ (H : Heap) (locs : List Loc) (ls : Array Slot), WA g gn9 false Z0 s.heap H locs → lv_has ls 1 [(0, .ref (g.2.2.1 + 0))] → W p l e rmL_rows s m args below meth c H locs 582 18785 (MQ below (QB g) args s rmL_rows.cells rmL_rows.slots (AA g)) (F0 m 422 ls [])) : W p l e rmL_rows s m args below meth c H locs 578 18655 (MQ below (QB g) args s rmL_rows.cells rmL_rows.slots (AA g)) (F0 m 286 ls []) := by
  have hx := C0.1; have hb := C0.2.1; have hown := C0.2.2.2.2.1; have hts := C0.2.2.2.2.2.1
  refine lv_aload_n hx hb dL_rows_286 rfl (lv_at hl 0 rfl) ?_
  refine lv_iconst (v := 0) hx hb dL_rows_287 (by decide) ?_
  refine lv_ldc2 (v := 6372661) hx hb hown (hts _ wl182) dL_rows_288 ?_
  refine lv_lconst (v := 0) hx hb dL_rows_291 rfl ?_
  refine lv_iconst (v := 1) hx hb dL_rows_292 (by decide) ?_
  refine al_cSi (rest := []) C0 hW (c_L_defines (B := ([] : List Nat)) (T1 := [97, 61, 53]) (T2 := [97, 61, 53]) (τ := gn7) fk28 fk29 fk30 fk31 fk32 (To_eq fk33) rfl) (ls_defines hts ⟨Nat.le_of_ble_eq_true rfl, Nat.le_of_ble_eq_true rfl⟩) rfl hl.1 rfl (Nat.le_of_ble_eq_true rfl) ⟨Nat.le_of_ble_eq_true rfl, Nat.le_of_ble_eq_true rfl⟩ dL_rows_293 (fun H locs hW => ?_)
  have hW : WA g gn7 false Z0 s.heap H locs := hW
  refine lv_if_eq (tgt := 445) hx hb dL_rows_296 rfl (fun hc => absurd hc (by decide)) (fun _ => ?_)
  refine lv_aload_n hx hb dL_rows_299 rfl (lv_at hl 0 rfl) ?_
  refine lv_iconst (v := 0) hx hb dL_rows_300 (by decide) ?_
  refine lv_iconst (v := 0) hx hb dL_rows_301 (by decide) ?_
  refine lv_iconst (v := 0) hx hb dL_rows_302 (by decide) ?_
  refine ar_truth (rest := []) C0 hl.1 hW fk34 ⟨Nat.le_of_ble_eq_true rfl, Nat.le_of_ble_eq_true rfl⟩ (Nat.le_of_ble_eq_true rfl) ⟨Nat.le_of_ble_eq_true rfl, Nat.le_of_ble_eq_true rfl⟩ dL_rows_303 (fun H locs hW => ?_)
  refine lv_iconst (v := 2) hx hb dL_rows_306 (by decide) ?_
  refine lv_icmp_ne (tgt := 445) hx hb dL_rows_307 rfl (fun hc => absurd hc (by decide)) (fun _ => ?_)
  refine lv_aload_n hx hb dL_rows_310 rfl (lv_at hl 0 rfl) ?_
  refine lv_iconst (v := 0) hx hb dL_rows_311 (by decide) ?_
  refine lv_iconst (v := 1) hx hb dL_rows_312 (by decide) ?_
  refine lv_iconst (v := 0) hx hb dL_rows_313 (by decide) ?_
  refine ar_truth (rest := []) C0 hl.1 hW fk35 ⟨Nat.le_of_ble_eq_true rfl, Nat.le_of_ble_eq_true rfl⟩ (Nat.le_of_ble_eq_true rfl) ⟨Nat.le_of_ble_eq_true rfl, Nat.le_of_ble_eq_true rfl⟩ dL_rows_314 (fun H locs hW => ?_)
  refine lv_if_ne (tgt := 445) hx hb dL_rows_317 rfl (fun hc => absurd hc (by decide)) (fun _ => ?_)
  refine lv_aload_n hx hb dL_rows_320 rfl (lv_at hl 0 rfl) ?_
  refine lv_iconst (v := 1) hx hb dL_rows_321 (by decide) ?_
  refine lv_iconst (v := 1) hx hb dL_rows_322 (by decide) ?_
  refine lv_iconst (v := 0) hx hb dL_rows_323 (by decide) ?_
  refine ar_truth (rest := []) C0 hl.1 hW fk36 ⟨Nat.le_of_ble_eq_true rfl, Nat.le_of_ble_eq_true rfl⟩ (Nat.le_of_ble_eq_true rfl) ⟨Nat.le_of_ble_eq_true rfl, Nat.le_of_ble_eq_true rfl⟩ dL_rows_324 (fun H locs hW => ?_)
  refine lv_iconst (v := 1) hx hb dL_rows_327 (by decide) ?_
  refine lv_icmp_ne (tgt := 445) hx hb dL_rows_328 rfl (fun hc => absurd hc (by decide)) (fun _ => ?_)
  refine lv_aload_n hx hb dL_rows_331 rfl (lv_at hl 0 rfl) ?_
  refine lv_iconst (v := 1) hx hb dL_rows_332 (by decide) ?_
  refine lv_ldc2 (v := 108024809340466) hx hb hown (hts _ wl183) dL_rows_333 ?_
  refine lv_lconst (v := 0) hx hb dL_rows_336 rfl ?_
  refine lv_iconst (v := 3) hx hb dL_rows_337 (by decide) ?_
  refine al_cSi (rest := []) C0 hW (c_L_defines (B := ([] : List Nat)) (T1 := [98, 63, 124, 99, 62, 50]) (T2 := [98, 63, 124, 99, 62, 50]) (τ := gn9) fk37 fk38 fk39 fk40 fk41 (To_eq fk42) rfl) (ls_defines hts ⟨Nat.le_of_ble_eq_true rfl, Nat.le_of_ble_eq_true rfl⟩) rfl hl.1 rfl (Nat.le_of_ble_eq_true rfl) ⟨Nat.le_of_ble_eq_true rfl, Nat.le_of_ble_eq_true rfl⟩ dL_rows_338 (fun H locs hW => ?_)
  have hW : WA g gn9 false Z0 s.heap H locs := hW
  refine lv_if_eq (tgt := 445) hx hb dL_rows_341 rfl (fun hc => absurd hc (by decide)) (fun _ => ?_)
  refine lv_aload_n hx hb dL_rows_344 rfl (lv_at hl 0 rfl) ?_
  refine lv_iconst (v := 0) hx hb dL_rows_345 (by decide) ?_
  refine lv_iconst (v := 0) hx hb dL_rows_346 (by decide) ?_
  refine lv_iconst (v := 1) hx hb dL_rows_347 (by decide) ?_
  refine ar_truth (rest := []) C0 hl.1 hW fk43 ⟨Nat.le_of_ble_eq_true rfl, Nat.le_of_ble_eq_true rfl⟩ (Nat.le_of_ble_eq_true rfl) ⟨Nat.le_of_ble_eq_true rfl, Nat.le_of_ble_eq_true rfl⟩ dL_rows_348 (fun H locs hW => ?_)
  refine lv_iconst (v := 2) hx hb dL_rows_351 (by decide) ?_
  refine lv_icmp_ne (tgt := 445) hx hb dL_rows_352 rfl (fun hc => absurd hc (by decide)) (fun _ => ?_)
  refine lv_aload_n hx hb dL_rows_355 rfl (lv_at hl 0 rfl) ?_
  refine lv_iconst (v := 0) hx hb dL_rows_356 (by decide) ?_
  refine lv_iconst (v := 1) hx hb dL_rows_357 (by decide) ?_
  refine lv_iconst (v := 1) hx hb dL_rows_358 (by decide) ?_
  refine ar_truth (rest := []) C0 hl.1 hW fk44 ⟨Nat.le_of_ble_eq_true rfl, Nat.le_of_ble_eq_true rfl⟩ (Nat.le_of_ble_eq_true rfl) ⟨Nat.le_of_ble_eq_true rfl, Nat.le_of_ble_eq_true rfl⟩ dL_rows_359 (fun H locs hW => ?_)
  refine lv_iconst (v := 1) hx hb dL_rows_362 (by decide) ?_
  refine lv_icmp_ne (tgt := 445) hx hb dL_rows_363 rfl (fun hc => absurd hc (by decide)) (fun _ => ?_)
  refine lv_aload_n hx hb dL_rows_366 rfl (lv_at hl 0 rfl) ?_
  refine lv_iconst (v := 0) hx hb dL_rows_367 (by decide) ?_
  refine lv_iconst (v := 1) hx hb dL_rows_368 (by decide) ?_
  refine lv_iconst (v := 1) hx hb dL_rows_369 (by decide) ?_
  refine lv_iconst (v := 0) hx hb dL_rows_370 (by decide) ?_
  refine ar_rows (rest := []) C0 hl.1 hW fk45 ⟨Nat.le_of_ble_eq_true rfl, Nat.le_of_ble_eq_true rfl⟩ (Nat.le_of_ble_eq_true rfl) ⟨Nat.le_of_ble_eq_true rfl, Nat.le_of_ble_eq_true rfl⟩ dL_rows_371 (fun H locs hW => ?_)
  refine lv_iconst (v := 2) hx hb dL_rows_374 (by decide) ?_
  refine lv_icmp_ne (tgt := 445) hx hb dL_rows_375 rfl (fun hc => absurd hc (by decide)) (fun _ => ?_)
  refine lv_aload_n hx hb dL_rows_378 rfl (lv_at hl 0 rfl) ?_
  refine lv_iconst (v := 0) hx hb dL_rows_379 (by decide) ?_
  refine lv_iconst (v := 1) hx hb dL_rows_380 (by decide) ?_
  refine lv_iconst (v := 1) hx hb dL_rows_381 (by decide) ?_
  refine lv_iconst (v := 1) hx hb dL_rows_382 (by decide) ?_
  refine ar_rows (rest := []) C0 hl.1 hW fk46 ⟨Nat.le_of_ble_eq_true rfl, Nat.le_of_ble_eq_true rfl⟩ (Nat.le_of_ble_eq_true rfl) ⟨Nat.le_of_ble_eq_true rfl, Nat.le_of_ble_eq_true rfl⟩ dL_rows_383 (fun H locs hW => ?_)
  refine lv_iconst (v := 2) hx hb dL_rows_386 (by decide) ?_
  refine lv_icmp_ne (tgt := 445) hx hb dL_rows_387 rfl (fun hc => absurd hc (by decide)) (fun _ => ?_)
  refine lv_aload_n hx hb dL_rows_390 rfl (lv_at hl 0 rfl) ?_
  refine lv_iconst (v := 1) hx hb dL_rows_391 (by decide) ?_
  refine lv_iconst (v := 1) hx hb dL_rows_392 (by decide) ?_
  refine lv_iconst (v := 0) hx hb dL_rows_393 (by decide) ?_
  refine lv_iconst (v := 1) hx hb dL_rows_394 (by decide) ?_
  refine ar_rows (rest := []) C0 hl.1 hW fk47 ⟨Nat.le_of_ble_eq_true rfl, Nat.le_of_ble_eq_true rfl⟩ (Nat.le_of_ble_eq_true rfl) ⟨Nat.le_of_ble_eq_true rfl, Nat.le_of_ble_eq_true rfl⟩ dL_rows_395 (fun H locs hW => ?_)
  refine lv_iconst (v := 2) hx hb dL_rows_398 (by decide) ?_
  refine lv_icmp_ne (tgt := 445) hx hb dL_rows_399 rfl (fun hc => absurd hc (by decide)) (fun _ => ?_)
  refine lv_aload_n hx hb dL_rows_402 rfl (lv_at hl 0 rfl) ?_
  refine lv_iconst (v := 1) hx hb dL_rows_403 (by decide) ?_
  refine lv_iconst (v := 1) hx hb dL_rows_404 (by decide) ?_
  refine ar_filter (rest := []) C0 hl.1 hW fk48 ⟨Nat.le_of_ble_eq_true rfl, Nat.le_of_ble_eq_true rfl⟩ (Nat.le_of_ble_eq_true rfl) ⟨Nat.le_of_ble_eq_true rfl, Nat.le_of_ble_eq_true rfl⟩ dL_rows_405 (fun H locs hW => ?_)
  refine lv_iconst (v := 2) hx hb dL_rows_408 (by decide) ?_
  refine lv_icmp_ne (tgt := 445) hx hb dL_rows_409 rfl (fun hc => absurd hc (by decide)) (fun _ => ?_)
  refine lv_aload_n hx hb dL_rows_412 rfl (lv_at hl 0 rfl) ?_
  refine lv_iconst (v := 1) hx hb dL_rows_413 (by decide) ?_
  refine lv_iconst (v := 2) hx hb dL_rows_414 (by decide) ?_
  refine ar_filter (rest := []) C0 hl.1 hW fk49 ⟨Nat.le_of_ble_eq_true rfl, Nat.le_of_ble_eq_true rfl⟩ (Nat.le_of_ble_eq_true rfl) ⟨Nat.le_of_ble_eq_true rfl, Nat.le_of_ble_eq_true rfl⟩ dL_rows_415 (fun H locs hW => ?_)
  refine lv_iconst (v := 2) hx hb dL_rows_418 (by decide) ?_
  refine lv_icmp_ne (tgt := 445) hx hb dL_rows_419 rfl (fun hc => absurd hc (by decide)) (fun _ => ?_)
  exact W.widen (Nat.le_of_ble_eq_true rfl) (Nat.le_of_ble_eq_true rfl) (hK H locs ls hW hl)
set_option maxHeartbeats 2000000 in
theorem rw_3 (hfl : l.stackTraces = false) (C0 : CX g p s m args meth c RL cL_rows 1 (some .boolean)) (hl : lv_has ls 1 [(0, .ref (g.2.2.1 + 0))]) (hW : WA g gn9 false Z0 s.heap H locs) (hK : ∀ (H : Heap) (locs : List Loc) (ls : Array Slot), WA g gn11 false Z0 s.heap H locs → lv_has ls 1 [(0, .ref (g.2.2.1 + 0))] → W p l e rmL_rows s m args below meth c H locs 586 18915 (MQ below (QB g) args s rmL_rows.cells rmL_rows.slots (AA g)) (F0 m 569 ls [])) : W p l e rmL_rows s m args below meth c H locs 582 18785 (MQ below (QB g) args s rmL_rows.cells rmL_rows.slots (AA g)) (F0 m 422 ls []) := by
  have hx := C0.1; have hb := C0.2.1; have hown := C0.2.2.2.2.1; have hts := C0.2.2.2.2.2.1
  refine lv_aload_n hx hb dL_rows_422 rfl (lv_at hl 0 rfl) ?_
  refine lv_iconst (v := 1) hx hb dL_rows_423 (by decide) ?_
  refine lv_iconst (v := 3) hx hb dL_rows_424 (by decide) ?_
  refine ar_filter (rest := []) C0 hl.1 hW fk50 ⟨Nat.le_of_ble_eq_true rfl, Nat.le_of_ble_eq_true rfl⟩ (Nat.le_of_ble_eq_true rfl) ⟨Nat.le_of_ble_eq_true rfl, Nat.le_of_ble_eq_true rfl⟩ dL_rows_425 (fun H locs hW => ?_)
  refine lv_bipush (v := 6) hx hb dL_rows_428 (by decide) ?_
  refine lv_icmp_ne (tgt := 445) hx hb dL_rows_430 rfl (fun hc => absurd hc (by decide)) (fun _ => ?_)
  refine lv_aload_n hx hb dL_rows_433 rfl (lv_at hl 0 rfl) ?_
  refine lv_iconst (v := 1) hx hb dL_rows_434 (by decide) ?_
  refine lv_ldc2 (v := 108024809340466) hx hb hown (hts _ wl183) dL_rows_435 ?_
  refine lv_lconst (v := 0) hx hb dL_rows_438 rfl ?_
  refine al_cSi (rest := []) C0 hW (c_L_isWritten fk51) (ls_isWritten hts ⟨Nat.le_of_ble_eq_true rfl, Nat.le_of_ble_eq_true rfl⟩) rfl hl.1 rfl (Nat.le_of_ble_eq_true rfl) ⟨Nat.le_of_ble_eq_true rfl, Nat.le_of_ble_eq_true rfl⟩ dL_rows_439 (fun H locs hW => ?_)
  refine lv_if_ne (tgt := 447) hx hb dL_rows_442 rfl (fun _ => ?_) (fun hc => absurd hc (by decide))
  refine lv_aload_n hx hb dL_rows_447 rfl (lv_at hl 0 rfl) ?_
  refine lv_iconst (v := 2) hx hb dL_rows_448 (by decide) ?_
  refine lv_iconst (v := 0) hx hb dL_rows_449 (by decide) ?_
  refine lv_iconst (v := 1) hx hb dL_rows_450 (by decide) ?_
  refine lv_iconst (v := 1) hx hb dL_rows_451 (by decide) ?_
  refine ar_combine (rest := []) C0 hl.1 hW fk52 (To_eq fk53) ⟨Nat.le_of_ble_eq_true rfl, Nat.le_of_ble_eq_true rfl⟩ (Nat.le_of_ble_eq_true rfl) ⟨Nat.le_of_ble_eq_true rfl, Nat.le_of_ble_eq_true rfl⟩ dL_rows_452 (fun H locs hW => ?_)
  refine lv_iconst (v := 5) hx hb dL_rows_455 (by decide) ?_
  refine lv_icmp_ne (tgt := 738) hx hb dL_rows_456 rfl (fun hc => absurd hc (by decide)) (fun _ => ?_)
  refine lv_aload_n hx hb dL_rows_459 rfl (lv_at hl 0 rfl) ?_
  refine lv_iconst (v := 2) hx hb dL_rows_460 (by decide) ?_
  refine lv_iconst (v := 1) hx hb dL_rows_461 (by decide) ?_
  refine ar_filter (rest := []) C0 hl.1 hW fk54 ⟨Nat.le_of_ble_eq_true rfl, Nat.le_of_ble_eq_true rfl⟩ (Nat.le_of_ble_eq_true rfl) ⟨Nat.le_of_ble_eq_true rfl, Nat.le_of_ble_eq_true rfl⟩ dL_rows_462 (fun H locs hW => ?_)
  refine lv_iconst (v := 3) hx hb dL_rows_465 (by decide) ?_
  refine lv_icmp_ne (tgt := 738) hx hb dL_rows_466 rfl (fun hc => absurd hc (by decide)) (fun _ => ?_)
  refine lv_aload_n hx hb dL_rows_469 rfl (lv_at hl 0 rfl) ?_
  refine lv_iconst (v := 2) hx hb dL_rows_470 (by decide) ?_
  refine lv_ldc2 (v := 7006815033260916604) hx hb hown (hts _ wl184) dL_rows_471 ?_
  refine lv_ldc2 (v := 1665020457) hx hb hown (hts _ wl185) dL_rows_474 ?_
  refine al_cSi (rest := []) C0 hW (c_L_isWritten fk55) (ls_isWritten hts ⟨Nat.le_of_ble_eq_true rfl, Nat.le_of_ble_eq_true rfl⟩) rfl hl.1 rfl (Nat.le_of_ble_eq_true rfl) ⟨Nat.le_of_ble_eq_true rfl, Nat.le_of_ble_eq_true rfl⟩ dL_rows_477 (fun H locs hW => ?_)
  refine lv_if_eq (tgt := 738) hx hb dL_rows_480 rfl (fun hc => absurd hc (by decide)) (fun _ => ?_)
  refine lv_aload_n hx hb dL_rows_483 rfl (lv_at hl 0 rfl) ?_
  refine lv_iconst (v := 3) hx hb dL_rows_484 (by decide) ?_
  refine lv_iconst (v := 2) hx hb dL_rows_485 (by decide) ?_
  refine lv_iconst (v := 5) hx hb dL_rows_486 (by decide) ?_
  refine lv_iconst (v := 0) hx hb dL_rows_487 (by decide) ?_
  refine ar_combine (rest := []) C0 hl.1 hW fk56 (To_eq fk57) ⟨Nat.le_of_ble_eq_true rfl, Nat.le_of_ble_eq_true rfl⟩ (Nat.le_of_ble_eq_true rfl) ⟨Nat.le_of_ble_eq_true rfl, Nat.le_of_ble_eq_true rfl⟩ dL_rows_488 (fun H locs hW => ?_)
  refine lv_bipush (v := 6) hx hb dL_rows_491 (by decide) ?_
  refine lv_icmp_ne (tgt := 738) hx hb dL_rows_493 rfl (fun hc => absurd hc (by decide)) (fun _ => ?_)
  refine lv_aload_n hx hb dL_rows_496 rfl (lv_at hl 0 rfl) ?_
  refine lv_iconst (v := 3) hx hb dL_rows_497 (by decide) ?_
  refine lv_ldc2 (v := 2389266517832640610) hx hb hown (hts _ wl186) dL_rows_498 ?_
  refine lv_ldc2 (v := 17869689219852585) hx hb hown (hts _ wl187) dL_rows_501 ?_
  refine al_cSi (rest := []) C0 hW (c_L_isWritten fk58) (ls_isWritten hts ⟨Nat.le_of_ble_eq_true rfl, Nat.le_of_ble_eq_true rfl⟩) rfl hl.1 rfl (Nat.le_of_ble_eq_true rfl) ⟨Nat.le_of_ble_eq_true rfl, Nat.le_of_ble_eq_true rfl⟩ dL_rows_504 (fun H locs hW => ?_)
  refine lv_if_eq (tgt := 738) hx hb dL_rows_507 rfl (fun hc => absurd hc (by decide)) (fun _ => ?_)
  refine lv_aload_n hx hb dL_rows_510 rfl (lv_at hl 0 rfl) ?_
  refine lv_iconst (v := 0) hx hb dL_rows_511 (by decide) ?_
  refine lv_iconst (v := 1) hx hb dL_rows_512 (by decide) ?_
  refine lv_iconst (v := 3) hx hb dL_rows_513 (by decide) ?_
  refine ar_truth (rest := []) C0 hl.1 hW fk59 ⟨Nat.le_of_ble_eq_true rfl, Nat.le_of_ble_eq_true rfl⟩ (Nat.le_of_ble_eq_true rfl) ⟨Nat.le_of_ble_eq_true rfl, Nat.le_of_ble_eq_true rfl⟩ dL_rows_514 (fun H locs hW => ?_)
  refine lv_iconst (v := 2) hx hb dL_rows_517 (by decide) ?_
  refine lv_icmp_ne (tgt := 738) hx hb dL_rows_518 rfl (fun hc => absurd hc (by decide)) (fun _ => ?_)
  refine lv_aload_n hx hb dL_rows_521 rfl (lv_at hl 0 rfl) ?_
  refine lv_iconst (v := 1) hx hb dL_rows_522 (by decide) ?_
  refine lv_iconst (v := 1) hx hb dL_rows_523 (by decide) ?_
  refine lv_iconst (v := 3) hx hb dL_rows_524 (by decide) ?_
  refine ar_truth (rest := []) C0 hl.1 hW fk60 ⟨Nat.le_of_ble_eq_true rfl, Nat.le_of_ble_eq_true rfl⟩ (Nat.le_of_ble_eq_true rfl) ⟨Nat.le_of_ble_eq_true rfl, Nat.le_of_ble_eq_true rfl⟩ dL_rows_525 (fun H locs hW => ?_)
  refine lv_iconst (v := 2) hx hb dL_rows_528 (by decide) ?_
  refine lv_icmp_ne (tgt := 738) hx hb dL_rows_529 rfl (fun hc => absurd hc (by decide)) (fun _ => ?_)
  refine lv_aload_n hx hb dL_rows_532 rfl (lv_at hl 0 rfl) ?_
  refine lv_iconst (v := 0) hx hb dL_rows_533 (by decide) ?_
  refine lv_iconst (v := 3) hx hb dL_rows_534 (by decide) ?_
  refine lv_iconst (v := 2) hx hb dL_rows_535 (by decide) ?_
  refine lv_iconst (v := 1) hx hb dL_rows_536 (by decide) ?_
  refine ar_rows (rest := []) C0 hl.1 hW fk61 ⟨Nat.le_of_ble_eq_true rfl, Nat.le_of_ble_eq_true rfl⟩ (Nat.le_of_ble_eq_true rfl) ⟨Nat.le_of_ble_eq_true rfl, Nat.le_of_ble_eq_true rfl⟩ dL_rows_537 (fun H locs hW => ?_)
  refine lv_iconst (v := 2) hx hb dL_rows_540 (by decide) ?_
  refine lv_icmp_ne (tgt := 738) hx hb dL_rows_541 rfl (fun hc => absurd hc (by decide)) (fun _ => ?_)
  refine lv_aload_n hx hb dL_rows_544 rfl (lv_at hl 0 rfl) ?_
  refine lv_iconst (v := 0) hx hb dL_rows_545 (by decide) ?_
  refine lv_iconst (v := 3) hx hb dL_rows_546 (by decide) ?_
  refine ar_share (rest := []) C0 hl.1 hW fk62 ⟨Nat.le_of_ble_eq_true rfl, Nat.le_of_ble_eq_true rfl⟩ (Nat.le_of_ble_eq_true rfl) ⟨Nat.le_of_ble_eq_true rfl, Nat.le_of_ble_eq_true rfl⟩ dL_rows_547 (fun H locs hW => ?_)
  refine lv_ldc2d (v := 4602678819172646912) hx hb hown (hts _ wl188) dL_rows_550 ?_
  refine lv_dcmp hx hb dL_rows_553 ?_
  rw [fk63]
  refine lv_if_ne (tgt := 738) hx hb dL_rows_554 rfl (fun hc => absurd hc (by decide)) (fun _ => ?_)
  refine lv_aload_n hx hb dL_rows_557 rfl (lv_at hl 0 rfl) ?_
  refine lv_iconst (v := 0) hx hb dL_rows_558 (by decide) ?_
  refine lv_iconst (v := 0) hx hb dL_rows_559 (by decide) ?_
  refine lv_iconst (v := 1) hx hb dL_rows_560 (by decide) ?_
  refine lv_iconst (v := 0) hx hb dL_rows_561 (by decide) ?_
  refine ar_compare (rest := []) C0 hl.1 hW fk64 ⟨Nat.le_of_ble_eq_true rfl, Nat.le_of_ble_eq_true rfl⟩ (Nat.le_of_ble_eq_true rfl) ⟨Nat.le_of_ble_eq_true rfl, Nat.le_of_ble_eq_true rfl⟩ dL_rows_562 (fun H locs hW => ?_)
  refine lv_iconst (v := 1) hx hb dL_rows_565 (by decide) ?_
  refine lv_icmp_ne (tgt := 738) hx hb dL_rows_566 rfl (fun hc => absurd hc (by decide)) (fun _ => ?_)
  exact W.widen (Nat.le_of_ble_eq_true rfl) (Nat.le_of_ble_eq_true rfl) (hK H locs ls hW hl)
set_option maxHeartbeats 2000000 in
theorem rw_4 (hfl : l.stackTraces = false) (C0 : CX g p s m args meth c RL cL_rows 1 (some .boolean)) (hl : lv_has ls 1 [(0, .ref (g.2.2.1 + 0))]) (hW : WA g gn11 false Z0 s.heap H locs) (hK : ∀ (H : Heap) (locs : List Loc) (ls : Array Slot), WA g gn17 false Z0 s.heap H locs → lv_has ls 1 [(0, .ref (g.2.2.1 + 0))] → W p l e rmL_rows s m args below meth c H locs 592 19110 (MQ below (QB g) args s rmL_rows.cells rmL_rows.slots (AA g)) (F0 m 707 ls [])) : W p l e rmL_rows s m args below meth c H locs 586 18915 (MQ below (QB g) args s rmL_rows.cells rmL_rows.slots (AA g)) (F0 m 569 ls []) := by
  have hx := C0.1; have hb := C0.2.1; have hown := C0.2.2.2.2.1; have hts := C0.2.2.2.2.2.1
  refine lv_aload_n hx hb dL_rows_569 rfl (lv_at hl 0 rfl) ?_
  refine lv_iconst (v := 0) hx hb dL_rows_570 (by decide) ?_
  refine lv_iconst (v := 0) hx hb dL_rows_571 (by decide) ?_
  refine lv_iconst (v := 1) hx hb dL_rows_572 (by decide) ?_
  refine lv_iconst (v := 2) hx hb dL_rows_573 (by decide) ?_
  refine ar_compare (rest := []) C0 hl.1 hW fk65 ⟨Nat.le_of_ble_eq_true rfl, Nat.le_of_ble_eq_true rfl⟩ (Nat.le_of_ble_eq_true rfl) ⟨Nat.le_of_ble_eq_true rfl, Nat.le_of_ble_eq_true rfl⟩ dL_rows_574 (fun H locs hW => ?_)
  refine lv_iconst (v := 1) hx hb dL_rows_577 (by decide) ?_
  refine lv_icmp_ne (tgt := 738) hx hb dL_rows_578 rfl (fun hc => absurd hc (by decide)) (fun _ => ?_)
  refine lv_aload_n hx hb dL_rows_581 rfl (lv_at hl 0 rfl) ?_
  refine lv_iconst (v := 0) hx hb dL_rows_582 (by decide) ?_
  refine lv_iconst (v := 1) hx hb dL_rows_583 (by decide) ?_
  refine lv_iconst (v := 0) hx hb dL_rows_584 (by decide) ?_
  refine lv_iconst (v := 1) hx hb dL_rows_585 (by decide) ?_
  refine ar_compare (rest := []) C0 hl.1 hW fk66 ⟨Nat.le_of_ble_eq_true rfl, Nat.le_of_ble_eq_true rfl⟩ (Nat.le_of_ble_eq_true rfl) ⟨Nat.le_of_ble_eq_true rfl, Nat.le_of_ble_eq_true rfl⟩ dL_rows_586 (fun H locs hW => ?_)
  refine lv_if_ne (tgt := 738) hx hb dL_rows_589 rfl (fun hc => absurd hc (by decide)) (fun _ => ?_)
  refine lv_aload_n hx hb dL_rows_592 rfl (lv_at hl 0 rfl) ?_
  refine lv_iconst (v := 0) hx hb dL_rows_593 (by decide) ?_
  refine lv_iconst (v := 1) hx hb dL_rows_594 (by decide) ?_
  refine lv_iconst (v := 1) hx hb dL_rows_595 (by decide) ?_
  refine ar_certain (rest := []) C0 hl.1 hW fk67 ⟨Nat.le_of_ble_eq_true rfl, Nat.le_of_ble_eq_true rfl⟩ (Nat.le_of_ble_eq_true rfl) ⟨Nat.le_of_ble_eq_true rfl, Nat.le_of_ble_eq_true rfl⟩ dL_rows_596 (fun H locs hW => ?_)
  refine lv_iconst (v := 1) hx hb dL_rows_599 (by decide) ?_
  refine lv_icmp_ne (tgt := 738) hx hb dL_rows_600 rfl (fun hc => absurd hc (by decide)) (fun _ => ?_)
  refine lv_aload_n hx hb dL_rows_603 rfl (lv_at hl 0 rfl) ?_
  refine lv_iconst (v := 4) hx hb dL_rows_604 (by decide) ?_
  refine lv_ldc2 (v := 27933520192289891) hx hb hown (hts _ wl189) dL_rows_605 ?_
  refine lv_lconst (v := 0) hx hb dL_rows_608 rfl ?_
  refine lv_iconst (v := 3) hx hb dL_rows_609 (by decide) ?_
  refine al_cSi (rest := []) C0 hW (c_L_defines (B := ([] : List Nat)) (T1 := [99, 61, 99, 124, 99, 60, 99]) (T2 := [99, 61, 99, 124, 99, 60, 99]) (τ := gn13) fk68 fk69 fk70 fk71 fk72 (To_eq fk73) rfl) (ls_defines hts ⟨Nat.le_of_ble_eq_true rfl, Nat.le_of_ble_eq_true rfl⟩) rfl hl.1 rfl (Nat.le_of_ble_eq_true rfl) ⟨Nat.le_of_ble_eq_true rfl, Nat.le_of_ble_eq_true rfl⟩ dL_rows_610 (fun H locs hW => ?_)
  have hW : WA g gn13 false Z0 s.heap H locs := hW
  refine lv_if_eq (tgt := 738) hx hb dL_rows_613 rfl (fun hc => absurd hc (by decide)) (fun _ => ?_)
  refine lv_aload_n hx hb dL_rows_616 rfl (lv_at hl 0 rfl) ?_
  refine lv_iconst (v := 0) hx hb dL_rows_617 (by decide) ?_
  refine lv_iconst (v := 1) hx hb dL_rows_618 (by decide) ?_
  refine lv_iconst (v := 4) hx hb dL_rows_619 (by decide) ?_
  refine ar_truth (rest := []) C0 hl.1 hW fk74 ⟨Nat.le_of_ble_eq_true rfl, Nat.le_of_ble_eq_true rfl⟩ (Nat.le_of_ble_eq_true rfl) ⟨Nat.le_of_ble_eq_true rfl, Nat.le_of_ble_eq_true rfl⟩ dL_rows_620 (fun H locs hW => ?_)
  refine lv_iconst (v := 1) hx hb dL_rows_623 (by decide) ?_
  refine lv_icmp_ne (tgt := 738) hx hb dL_rows_624 rfl (fun hc => absurd hc (by decide)) (fun _ => ?_)
  refine lv_aload_n hx hb dL_rows_627 rfl (lv_at hl 0 rfl) ?_
  refine lv_iconst (v := 0) hx hb dL_rows_628 (by decide) ?_
  refine lv_iconst (v := 1) hx hb dL_rows_629 (by decide) ?_
  refine lv_iconst (v := 4) hx hb dL_rows_630 (by decide) ?_
  refine ar_certain (rest := []) C0 hl.1 hW fk75 ⟨Nat.le_of_ble_eq_true rfl, Nat.le_of_ble_eq_true rfl⟩ (Nat.le_of_ble_eq_true rfl) ⟨Nat.le_of_ble_eq_true rfl, Nat.le_of_ble_eq_true rfl⟩ dL_rows_631 (fun H locs hW => ?_)
  refine lv_iconst (v := 2) hx hb dL_rows_634 (by decide) ?_
  refine lv_icmp_ne (tgt := 738) hx hb dL_rows_635 rfl (fun hc => absurd hc (by decide)) (fun _ => ?_)
  refine lv_aload_n hx hb dL_rows_638 rfl (lv_at hl 0 rfl) ?_
  refine lv_iconst (v := 0) hx hb dL_rows_639 (by decide) ?_
  refine lv_iconst (v := 0) hx hb dL_rows_640 (by decide) ?_
  refine lv_iconst (v := 4) hx hb dL_rows_641 (by decide) ?_
  refine ar_certain (rest := []) C0 hl.1 hW fk76 ⟨Nat.le_of_ble_eq_true rfl, Nat.le_of_ble_eq_true rfl⟩ (Nat.le_of_ble_eq_true rfl) ⟨Nat.le_of_ble_eq_true rfl, Nat.le_of_ble_eq_true rfl⟩ dL_rows_642 (fun H locs hW => ?_)
  refine lv_iconst (v := 2) hx hb dL_rows_645 (by decide) ?_
  refine lv_icmp_ne (tgt := 738) hx hb dL_rows_646 rfl (fun hc => absurd hc (by decide)) (fun _ => ?_)
  refine lv_aload_n hx hb dL_rows_649 rfl (lv_at hl 0 rfl) ?_
  refine lv_iconst (v := 4) hx hb dL_rows_650 (by decide) ?_
  refine lv_ldc2 (v := 27934623998884964) hx hb hown (hts _ wl190) dL_rows_651 ?_
  refine lv_lconst (v := 0) hx hb dL_rows_654 rfl ?_
  refine lv_iconst (v := 3) hx hb dL_rows_655 (by decide) ?_
  refine al_cSi (rest := []) C0 hW (c_L_defines (B := ([] : List Nat)) (T1 := [99, 62, 100, 124, 99, 60, 100]) (T2 := [99, 62, 100, 124, 99, 60, 100]) (τ := gn15) fk77 fk78 fk79 fk80 fk81 (To_eq fk82) rfl) (ls_defines hts ⟨Nat.le_of_ble_eq_true rfl, Nat.le_of_ble_eq_true rfl⟩) rfl hl.1 rfl (Nat.le_of_ble_eq_true rfl) ⟨Nat.le_of_ble_eq_true rfl, Nat.le_of_ble_eq_true rfl⟩ dL_rows_656 (fun H locs hW => ?_)
  have hW : WA g gn15 false Z0 s.heap H locs := hW
  refine lv_if_eq (tgt := 738) hx hb dL_rows_659 rfl (fun hc => absurd hc (by decide)) (fun _ => ?_)
  refine lv_aload_n hx hb dL_rows_662 rfl (lv_at hl 0 rfl) ?_
  refine lv_iconst (v := 0) hx hb dL_rows_663 (by decide) ?_
  refine lv_iconst (v := 1) hx hb dL_rows_664 (by decide) ?_
  refine lv_iconst (v := 4) hx hb dL_rows_665 (by decide) ?_
  refine ar_certain (rest := []) C0 hl.1 hW fk83 ⟨Nat.le_of_ble_eq_true rfl, Nat.le_of_ble_eq_true rfl⟩ (Nat.le_of_ble_eq_true rfl) ⟨Nat.le_of_ble_eq_true rfl, Nat.le_of_ble_eq_true rfl⟩ dL_rows_666 (fun H locs hW => ?_)
  refine lv_iconst (v := 1) hx hb dL_rows_669 (by decide) ?_
  refine lv_icmp_ne (tgt := 738) hx hb dL_rows_670 rfl (fun hc => absurd hc (by decide)) (fun _ => ?_)
  refine lv_aload_n hx hb dL_rows_673 rfl (lv_at hl 0 rfl) ?_
  refine lv_iconst (v := 4) hx hb dL_rows_674 (by decide) ?_
  refine lv_ldc2 (v := 27932419237887285) hx hb hown (hts _ wl191) dL_rows_675 ?_
  refine lv_lconst (v := 0) hx hb dL_rows_678 rfl ?_
  refine lv_iconst (v := 3) hx hb dL_rows_679 (by decide) ?_
  refine al_cSi (rest := []) C0 hW (c_L_defines (B := ([] : List Nat)) (T1 := [99, 60, 99, 38, 100, 61, 53]) (T2 := [99, 60, 99, 38, 100, 61, 53]) (τ := gn17) fk84 fk85 fk86 fk87 fk88 (To_eq fk89) rfl) (ls_defines hts ⟨Nat.le_of_ble_eq_true rfl, Nat.le_of_ble_eq_true rfl⟩) rfl hl.1 rfl (Nat.le_of_ble_eq_true rfl) ⟨Nat.le_of_ble_eq_true rfl, Nat.le_of_ble_eq_true rfl⟩ dL_rows_680 (fun H locs hW => ?_)
  have hW : WA g gn17 false Z0 s.heap H locs := hW
  refine lv_if_eq (tgt := 738) hx hb dL_rows_683 rfl (fun hc => absurd hc (by decide)) (fun _ => ?_)
  refine lv_aload_n hx hb dL_rows_686 rfl (lv_at hl 0 rfl) ?_
  refine lv_iconst (v := 0) hx hb dL_rows_687 (by decide) ?_
  refine lv_iconst (v := 1) hx hb dL_rows_688 (by decide) ?_
  refine lv_iconst (v := 4) hx hb dL_rows_689 (by decide) ?_
  refine ar_truth (rest := []) C0 hl.1 hW fk90 ⟨Nat.le_of_ble_eq_true rfl, Nat.le_of_ble_eq_true rfl⟩ (Nat.le_of_ble_eq_true rfl) ⟨Nat.le_of_ble_eq_true rfl, Nat.le_of_ble_eq_true rfl⟩ dL_rows_690 (fun H locs hW => ?_)
  refine lv_iconst (v := 1) hx hb dL_rows_693 (by decide) ?_
  refine lv_icmp_ne (tgt := 738) hx hb dL_rows_694 rfl (fun hc => absurd hc (by decide)) (fun _ => ?_)
  refine lv_aload_n hx hb dL_rows_697 rfl (lv_at hl 0 rfl) ?_
  refine lv_iconst (v := 0) hx hb dL_rows_698 (by decide) ?_
  refine lv_iconst (v := 1) hx hb dL_rows_699 (by decide) ?_
  refine lv_iconst (v := 4) hx hb dL_rows_700 (by decide) ?_
  refine ar_certain (rest := []) C0 hl.1 hW fk91 ⟨Nat.le_of_ble_eq_true rfl, Nat.le_of_ble_eq_true rfl⟩ (Nat.le_of_ble_eq_true rfl) ⟨Nat.le_of_ble_eq_true rfl, Nat.le_of_ble_eq_true rfl⟩ dL_rows_701 (fun H locs hW => ?_)
  refine lv_if_ne (tgt := 738) hx hb dL_rows_704 rfl (fun hc => absurd hc (by decide)) (fun _ => ?_)
  exact W.widen (Nat.le_of_ble_eq_true rfl) (Nat.le_of_ble_eq_true rfl) (hK H locs ls hW hl)
set_option maxHeartbeats 2000000 in
theorem rw_5 (hfl : l.stackTraces = false) (C0 : CX g p s m args meth c RL cL_rows 1 (some .boolean)) (hl : lv_has ls 1 [(0, .ref (g.2.2.1 + 0))]) (hW : WA g gn17 false Z0 s.heap H locs) (hK : ∀ (H : Heap) (locs : List Loc) (ls : Array Slot), WA g gn24 false Z0 s.heap H locs → lv_has ls 1 [(0, .ref (g.2.2.1 + 0))] → W p l e rmL_rows s m args below meth c H locs 1092 35360 (MQ below (QB g) args s rmL_rows.cells rmL_rows.slots (AA g)) (F0 m 835 ls [])) : W p l e rmL_rows s m args below meth c H locs 592 19110 (MQ below (QB g) args s rmL_rows.cells rmL_rows.slots (AA g)) (F0 m 707 ls []) := by
  have hx := C0.1; have hb := C0.2.1; have hown := C0.2.2.2.2.1; have hts := C0.2.2.2.2.2.1
  refine lv_aload_n hx hb dL_rows_707 rfl (lv_at hl 0 rfl) ?_
  refine lv_iconst (v := 4) hx hb dL_rows_708 (by decide) ?_
  refine lv_ldc2 (v := 109114474390335) hx hb hown (hts _ wl192) dL_rows_709 ?_
  refine lv_lconst (v := 0) hx hb dL_rows_712 rfl ?_
  refine lv_iconst (v := 3) hx hb dL_rows_713 (by decide) ?_
  refine al_cSi (rest := []) C0 hW (c_L_defines (B := ([] : List Nat)) (T1 := [99, 61, 49, 124, 99, 63]) (T2 := [99, 61, 49, 124, 99, 63]) (τ := gn19) fk92 fk93 fk94 fk95 fk96 (To_eq fk97) rfl) (ls_defines hts ⟨Nat.le_of_ble_eq_true rfl, Nat.le_of_ble_eq_true rfl⟩) rfl hl.1 rfl (Nat.le_of_ble_eq_true rfl) ⟨Nat.le_of_ble_eq_true rfl, Nat.le_of_ble_eq_true rfl⟩ dL_rows_714 (fun H locs hW => ?_)
  have hW : WA g gn19 false Z0 s.heap H locs := hW
  refine lv_if_eq (tgt := 738) hx hb dL_rows_717 rfl (fun hc => absurd hc (by decide)) (fun _ => ?_)
  refine lv_aload_n hx hb dL_rows_720 rfl (lv_at hl 0 rfl) ?_
  refine lv_iconst (v := 0) hx hb dL_rows_721 (by decide) ?_
  refine lv_iconst (v := 1) hx hb dL_rows_722 (by decide) ?_
  refine lv_iconst (v := 4) hx hb dL_rows_723 (by decide) ?_
  refine ar_certain (rest := []) C0 hl.1 hW fk98 ⟨Nat.le_of_ble_eq_true rfl, Nat.le_of_ble_eq_true rfl⟩ (Nat.le_of_ble_eq_true rfl) ⟨Nat.le_of_ble_eq_true rfl, Nat.le_of_ble_eq_true rfl⟩ dL_rows_724 (fun H locs hW => ?_)
  refine lv_iconst (v := 2) hx hb dL_rows_727 (by decide) ?_
  refine lv_icmp_ne (tgt := 738) hx hb dL_rows_728 rfl (fun hc => absurd hc (by decide)) (fun _ => ?_)
  refine lv_aload_n hx hb dL_rows_731 rfl (lv_at hl 0 rfl) ?_
  refine al_cSi (rest := []) C0 hW (c_L_refused hfl) (ls_refused hts ⟨Nat.le_of_ble_eq_true rfl, Nat.le_of_ble_eq_true rfl⟩) rfl hl.1 rfl (Nat.le_of_ble_eq_true rfl) ⟨Nat.le_of_ble_eq_true rfl, Nat.le_of_ble_eq_true rfl⟩ dL_rows_732 (fun H locs hW => ?_)
  have hW : WA g gn19 false Z0 s.heap H locs := hW
  refine lv_if_ne (tgt := 740) hx hb dL_rows_735 rfl (fun _ => ?_) (fun hc => absurd hc (by decide))
  refine lv_aload_n hx hb dL_rows_740 rfl (lv_at hl 0 rfl) ?_
  refine lv_iconst (v := 0) hx hb dL_rows_741 (by decide) ?_
  refine lv_iconst (v := 0) hx hb dL_rows_742 (by decide) ?_
  refine ar_check (rest := []) C0 hl.1 hW fk99 (To_eq fk100) ⟨Nat.le_of_ble_eq_true rfl, Nat.le_of_ble_eq_true rfl⟩ (Nat.le_of_ble_eq_true rfl) ⟨Nat.le_of_ble_eq_true rfl, Nat.le_of_ble_eq_true rfl⟩ dL_rows_743 (fun H locs hW => ?_)
  refine lv_iconst (v := 1) hx hb dL_rows_746 (by decide) ?_
  refine lv_icmp_ne (tgt := 1054) hx hb dL_rows_747 rfl (fun hc => absurd hc (by decide)) (fun _ => ?_)
  refine lv_aload_n hx hb dL_rows_750 rfl (lv_at hl 0 rfl) ?_
  refine lv_iconst (v := 5) hx hb dL_rows_751 (by decide) ?_
  refine ar_count (rest := []) C0 hl.1 hW fk101 ⟨Nat.le_of_ble_eq_true rfl, Nat.le_of_ble_eq_true rfl⟩ (Nat.le_of_ble_eq_true rfl) ⟨Nat.le_of_ble_eq_true rfl, Nat.le_of_ble_eq_true rfl⟩ dL_rows_752 (fun H locs hW => ?_)
  refine lv_iconst (v := 1) hx hb dL_rows_755 (by decide) ?_
  refine lv_icmp_ne (tgt := 1054) hx hb dL_rows_756 rfl (fun hc => absurd hc (by decide)) (fun _ => ?_)
  refine lv_aload_n hx hb dL_rows_759 rfl (lv_at hl 0 rfl) ?_
  refine lv_iconst (v := 3) hx hb dL_rows_760 (by decide) ?_
  refine ar_count (rest := []) C0 hl.1 hW fk102 ⟨Nat.le_of_ble_eq_true rfl, Nat.le_of_ble_eq_true rfl⟩ (Nat.le_of_ble_eq_true rfl) ⟨Nat.le_of_ble_eq_true rfl, Nat.le_of_ble_eq_true rfl⟩ dL_rows_761 (fun H locs hW => ?_)
  refine lv_if_ne (tgt := 1054) hx hb dL_rows_764 rfl (fun hc => absurd hc (by decide)) (fun _ => ?_)
  refine lv_aload_n hx hb dL_rows_767 rfl (lv_at hl 0 rfl) ?_
  refine lv_iconst (v := 5) hx hb dL_rows_768 (by decide) ?_
  refine lv_ldc2 (v := 7006537956213275959) hx hb hown (hts _ wl193) dL_rows_769 ?_
  refine lv_lconst (v := 0) hx hb dL_rows_772 rfl ?_
  refine lv_iconst (v := 4) hx hb dL_rows_773 (by decide) ?_
  refine al_cSi (rest := []) C0 hW (c_L_defines (B := ([] : List Nat)) (T1 := [97, 60, 57, 38, 33, 98, 61, 55]) (T2 := [97, 60, 57, 38, 33, 98, 61, 55]) (τ := gn22) fk103 fk104 fk105 fk106 fk107 (To_eq fk108) rfl) (ls_defines hts ⟨Nat.le_of_ble_eq_true rfl, Nat.le_of_ble_eq_true rfl⟩) rfl hl.1 rfl (Nat.le_of_ble_eq_true rfl) ⟨Nat.le_of_ble_eq_true rfl, Nat.le_of_ble_eq_true rfl⟩ dL_rows_774 (fun H locs hW => ?_)
  have hW : WA g gn22 false Z0 s.heap H locs := hW
  refine lv_if_eq (tgt := 1054) hx hb dL_rows_777 rfl (fun hc => absurd hc (by decide)) (fun _ => ?_)
  refine lv_aload_n hx hb dL_rows_780 rfl (lv_at hl 0 rfl) ?_
  refine lv_iconst (v := 5) hx hb dL_rows_781 (by decide) ?_
  refine lv_ldc2 (v := 7006537956213275959) hx hb hown (hts _ wl193) dL_rows_782 ?_
  refine lv_lconst (v := 0) hx hb dL_rows_785 rfl ?_
  refine al_cSi (rest := []) C0 hW (c_L_isWritten fk109) (ls_isWritten hts ⟨Nat.le_of_ble_eq_true rfl, Nat.le_of_ble_eq_true rfl⟩) rfl hl.1 rfl (Nat.le_of_ble_eq_true rfl) ⟨Nat.le_of_ble_eq_true rfl, Nat.le_of_ble_eq_true rfl⟩ dL_rows_786 (fun H locs hW => ?_)
  refine lv_if_eq (tgt := 1054) hx hb dL_rows_789 rfl (fun hc => absurd hc (by decide)) (fun _ => ?_)
  refine lv_aload_n hx hb dL_rows_792 rfl (lv_at hl 0 rfl) ?_
  refine lv_iconst (v := 5) hx hb dL_rows_793 (by decide) ?_
  refine lv_iconst (v := 1) hx hb dL_rows_794 (by decide) ?_
  refine ar_filter (rest := []) C0 hl.1 hW fk110 ⟨Nat.le_of_ble_eq_true rfl, Nat.le_of_ble_eq_true rfl⟩ (Nat.le_of_ble_eq_true rfl) ⟨Nat.le_of_ble_eq_true rfl, Nat.le_of_ble_eq_true rfl⟩ dL_rows_795 (fun H locs hW => ?_)
  refine lv_iconst (v := 3) hx hb dL_rows_798 (by decide) ?_
  refine lv_icmp_ne (tgt := 1054) hx hb dL_rows_799 rfl (fun hc => absurd hc (by decide)) (fun _ => ?_)
  refine lv_aload_n hx hb dL_rows_802 rfl (lv_at hl 0 rfl) ?_
  refine lv_iconst (v := 0) hx hb dL_rows_803 (by decide) ?_
  refine lv_iconst (v := 5) hx hb dL_rows_804 (by decide) ?_
  refine ar_check (rest := []) C0 hl.1 hW fk111 (To_eq fk112) ⟨Nat.le_of_ble_eq_true rfl, Nat.le_of_ble_eq_true rfl⟩ (Nat.le_of_ble_eq_true rfl) ⟨Nat.le_of_ble_eq_true rfl, Nat.le_of_ble_eq_true rfl⟩ dL_rows_805 (fun H locs hW => ?_)
  refine lv_if_ne (tgt := 1054) hx hb dL_rows_808 rfl (fun hc => absurd hc (by decide)) (fun _ => ?_)
  refine lv_aload_n hx hb dL_rows_811 rfl (lv_at hl 0 rfl) ?_
  refine lv_iconst (v := 3) hx hb dL_rows_812 (by decide) ?_
  refine ar_count (rest := []) C0 hl.1 hW fk113 ⟨Nat.le_of_ble_eq_true rfl, Nat.le_of_ble_eq_true rfl⟩ (Nat.le_of_ble_eq_true rfl) ⟨Nat.le_of_ble_eq_true rfl, Nat.le_of_ble_eq_true rfl⟩ dL_rows_813 (fun H locs hW => ?_)
  refine lv_iconst (v := 1) hx hb dL_rows_816 (by decide) ?_
  refine lv_icmp_ne (tgt := 1054) hx hb dL_rows_817 rfl (fun hc => absurd hc (by decide)) (fun _ => ?_)
  refine lv_aload_n hx hb dL_rows_820 rfl (lv_at hl 0 rfl) ?_
  refine lv_iconst (v := 0) hx hb dL_rows_821 (by decide) ?_
  refine lv_bipush (v := 9) hx hb dL_rows_822 (by decide) ?_
  refine lv_iconst (v := 0) hx hb dL_rows_824 (by decide) ?_
  refine lv_iconst (v := 0) hx hb dL_rows_825 (by decide) ?_
  refine lv_iconst (v := 0) hx hb dL_rows_826 (by decide) ?_
  refine ar_add (rest := []) C0 hl.1 hW fk114 (To_eq fk115) ⟨Nat.le_of_ble_eq_true rfl, Nat.le_of_ble_eq_true rfl⟩ (Nat.le_of_ble_eq_true rfl) ⟨Nat.le_of_ble_eq_true rfl, Nat.le_of_ble_eq_true rfl⟩ dL_rows_827 (fun H locs hW => ?_)
  refine lv_bipush (v := (-2)) hx hb dL_rows_830 (by decide) ?_
  refine lv_icmp_ne (tgt := 1054) hx hb dL_rows_832 rfl (fun hc => absurd hc (by decide)) (fun _ => ?_)
  exact W.widen (Nat.le_of_ble_eq_true rfl) (Nat.le_of_ble_eq_true rfl) (hK H locs ls hW hl)
set_option maxHeartbeats 2000000 in
theorem rw_6 (hfl : l.stackTraces = false) (C0 : CX g p s m args meth c RL cL_rows 1 (some .boolean)) (hl : lv_has ls 1 [(0, .ref (g.2.2.1 + 0))]) (hW : WA g gn24 false Z0 s.heap H locs) (hK : ∀ (H : Heap) (locs : List Loc) (ls : Array Slot), WA g gn30 false Z0 s.heap H locs → lv_has ls 1 [(0, .ref (g.2.2.1 + 0))] → W p l e rmL_rows s m args below meth c H locs 1092 35360 (MQ below (QB g) args s rmL_rows.cells rmL_rows.slots (AA g)) (F0 m 974 ls [])) : W p l e rmL_rows s m args below meth c H locs 1092 35360 (MQ below (QB g) args s rmL_rows.cells rmL_rows.slots (AA g)) (F0 m 835 ls []) := by
  have hx := C0.1; have hb := C0.2.1; have hown := C0.2.2.2.2.1; have hts := C0.2.2.2.2.2.1
  refine lv_aload_n hx hb dL_rows_835 rfl (lv_at hl 0 rfl) ?_
  refine lv_iconst (v := 5) hx hb dL_rows_836 (by decide) ?_
  refine ar_count (rest := []) C0 hl.1 hW fk116 ⟨Nat.le_of_ble_eq_true rfl, Nat.le_of_ble_eq_true rfl⟩ (Nat.le_of_ble_eq_true rfl) ⟨Nat.le_of_ble_eq_true rfl, Nat.le_of_ble_eq_true rfl⟩ dL_rows_837 (fun H locs hW => ?_)
  refine lv_iconst (v := 2) hx hb dL_rows_840 (by decide) ?_
  refine lv_icmp_ne (tgt := 1054) hx hb dL_rows_841 rfl (fun hc => absurd hc (by decide)) (fun _ => ?_)
  refine lv_aload_n hx hb dL_rows_844 rfl (lv_at hl 0 rfl) ?_
  refine lv_iconst (v := 0) hx hb dL_rows_845 (by decide) ?_
  refine ar_count (rest := []) C0 hl.1 hW fk117 ⟨Nat.le_of_ble_eq_true rfl, Nat.le_of_ble_eq_true rfl⟩ (Nat.le_of_ble_eq_true rfl) ⟨Nat.le_of_ble_eq_true rfl, Nat.le_of_ble_eq_true rfl⟩ dL_rows_846 (fun H locs hW => ?_)
  refine lv_iconst (v := 2) hx hb dL_rows_849 (by decide) ?_
  refine lv_icmp_ne (tgt := 1054) hx hb dL_rows_850 rfl (fun hc => absurd hc (by decide)) (fun _ => ?_)
  refine lv_aload_n hx hb dL_rows_853 rfl (lv_at hl 0 rfl) ?_
  refine lv_iconst (v := 0) hx hb dL_rows_854 (by decide) ?_
  refine lv_iconst (v := (-1)) hx hb dL_rows_855 (by decide) ?_
  refine lv_iconst (v := 0) hx hb dL_rows_856 (by decide) ?_
  refine lv_iconst (v := 0) hx hb dL_rows_857 (by decide) ?_
  refine lv_iconst (v := 0) hx hb dL_rows_858 (by decide) ?_
  refine ar_add (rest := []) C0 hl.1 hW fk118 (To_eq fk119) ⟨Nat.le_of_ble_eq_true rfl, Nat.le_of_ble_eq_true rfl⟩ (Nat.le_of_ble_eq_true rfl) ⟨Nat.le_of_ble_eq_true rfl, Nat.le_of_ble_eq_true rfl⟩ dL_rows_859 (fun H locs hW => ?_)
  refine lv_iconst (v := 2) hx hb dL_rows_862 (by decide) ?_
  refine lv_icmp_ne (tgt := 1054) hx hb dL_rows_863 rfl (fun hc => absurd hc (by decide)) (fun _ => ?_)
  refine lv_aload_n hx hb dL_rows_866 rfl (lv_at hl 0 rfl) ?_
  refine lv_iconst (v := 3) hx hb dL_rows_867 (by decide) ?_
  refine ar_count (rest := []) C0 hl.1 hW fk120 ⟨Nat.le_of_ble_eq_true rfl, Nat.le_of_ble_eq_true rfl⟩ (Nat.le_of_ble_eq_true rfl) ⟨Nat.le_of_ble_eq_true rfl, Nat.le_of_ble_eq_true rfl⟩ dL_rows_868 (fun H locs hW => ?_)
  refine lv_iconst (v := 2) hx hb dL_rows_871 (by decide) ?_
  refine lv_icmp_ne (tgt := 1054) hx hb dL_rows_872 rfl (fun hc => absurd hc (by decide)) (fun _ => ?_)
  refine lv_aload_n hx hb dL_rows_875 rfl (lv_at hl 0 rfl) ?_
  refine lv_iconst (v := 0) hx hb dL_rows_876 (by decide) ?_
  refine lv_iconst (v := 0) hx hb dL_rows_877 (by decide) ?_
  refine lv_iconst (v := 0) hx hb dL_rows_878 (by decide) ?_
  refine lv_bipush (v := 50) hx hb dL_rows_879 (by decide) ?_
  refine ar_change (rest := []) C0 hl.1 hW fk121 (To_eq fk122) ⟨Nat.le_of_ble_eq_true rfl, Nat.le_of_ble_eq_true rfl⟩ (Nat.le_of_ble_eq_true rfl) ⟨Nat.le_of_ble_eq_true rfl, Nat.le_of_ble_eq_true rfl⟩ dL_rows_881 (fun H locs hW => ?_)
  refine lv_bipush (v := (-2)) hx hb dL_rows_884 (by decide) ?_
  refine lv_icmp_ne (tgt := 1054) hx hb dL_rows_886 rfl (fun hc => absurd hc (by decide)) (fun _ => ?_)
  refine lv_aload_n hx hb dL_rows_889 rfl (lv_at hl 0 rfl) ?_
  refine lv_iconst (v := 0) hx hb dL_rows_890 (by decide) ?_
  refine lv_iconst (v := 0) hx hb dL_rows_891 (by decide) ?_
  refine lv_iconst (v := 0) hx hb dL_rows_892 (by decide) ?_
  refine ar_cell (rest := []) C0 hl.1 hW fk123 ⟨Nat.le_of_ble_eq_true rfl, Nat.le_of_ble_eq_true rfl⟩ (Nat.le_of_ble_eq_true rfl) ⟨Nat.le_of_ble_eq_true rfl, Nat.le_of_ble_eq_true rfl⟩ dL_rows_893 (fun H locs hW => ?_)
  refine lv_iconst (v := 5) hx hb dL_rows_896 (by decide) ?_
  refine lv_icmp_ne (tgt := 1054) hx hb dL_rows_897 rfl (fun hc => absurd hc (by decide)) (fun _ => ?_)
  refine lv_aload_n hx hb dL_rows_900 rfl (lv_at hl 0 rfl) ?_
  refine lv_iconst (v := 0) hx hb dL_rows_901 (by decide) ?_
  refine lv_iconst (v := 0) hx hb dL_rows_902 (by decide) ?_
  refine lv_iconst (v := 1) hx hb dL_rows_903 (by decide) ?_
  refine lv_bipush (v := 7) hx hb dL_rows_904 (by decide) ?_
  refine ar_change (rest := []) C0 hl.1 hW fk124 (To_eq fk125) ⟨Nat.le_of_ble_eq_true rfl, Nat.le_of_ble_eq_true rfl⟩ (Nat.le_of_ble_eq_true rfl) ⟨Nat.le_of_ble_eq_true rfl, Nat.le_of_ble_eq_true rfl⟩ dL_rows_906 (fun H locs hW => ?_)
  refine lv_bipush (v := (-2)) hx hb dL_rows_909 (by decide) ?_
  refine lv_icmp_ne (tgt := 1054) hx hb dL_rows_911 rfl (fun hc => absurd hc (by decide)) (fun _ => ?_)
  refine lv_aload_n hx hb dL_rows_914 rfl (lv_at hl 0 rfl) ?_
  refine lv_iconst (v := 0) hx hb dL_rows_915 (by decide) ?_
  refine lv_iconst (v := 0) hx hb dL_rows_916 (by decide) ?_
  refine lv_iconst (v := 1) hx hb dL_rows_917 (by decide) ?_
  refine lv_bipush (v := 8) hx hb dL_rows_918 (by decide) ?_
  refine ar_change (rest := []) C0 hl.1 hW fk126 (To_eq fk127) ⟨Nat.le_of_ble_eq_true rfl, Nat.le_of_ble_eq_true rfl⟩ (Nat.le_of_ble_eq_true rfl) ⟨Nat.le_of_ble_eq_true rfl, Nat.le_of_ble_eq_true rfl⟩ dL_rows_920 (fun H locs hW => ?_)
  refine lv_iconst (v := (-1)) hx hb dL_rows_923 (by decide) ?_
  refine lv_icmp_ne (tgt := 1054) hx hb dL_rows_924 rfl (fun hc => absurd hc (by decide)) (fun _ => ?_)
  refine lv_aload_n hx hb dL_rows_927 rfl (lv_at hl 0 rfl) ?_
  refine lv_iconst (v := 3) hx hb dL_rows_928 (by decide) ?_
  refine ar_count (rest := []) C0 hl.1 hW fk128 ⟨Nat.le_of_ble_eq_true rfl, Nat.le_of_ble_eq_true rfl⟩ (Nat.le_of_ble_eq_true rfl) ⟨Nat.le_of_ble_eq_true rfl, Nat.le_of_ble_eq_true rfl⟩ dL_rows_929 (fun H locs hW => ?_)
  refine lv_iconst (v := 1) hx hb dL_rows_932 (by decide) ?_
  refine lv_icmp_ne (tgt := 1054) hx hb dL_rows_933 rfl (fun hc => absurd hc (by decide)) (fun _ => ?_)
  refine lv_aload_n hx hb dL_rows_936 rfl (lv_at hl 0 rfl) ?_
  refine lv_iconst (v := 0) hx hb dL_rows_937 (by decide) ?_
  refine lv_iconst (v := 0) hx hb dL_rows_938 (by decide) ?_
  refine lv_iconst (v := 1) hx hb dL_rows_939 (by decide) ?_
  refine lv_iconst (v := (-1)) hx hb dL_rows_940 (by decide) ?_
  refine ar_change (rest := []) C0 hl.1 hW fk129 (To_eq fk130) ⟨Nat.le_of_ble_eq_true rfl, Nat.le_of_ble_eq_true rfl⟩ (Nat.le_of_ble_eq_true rfl) ⟨Nat.le_of_ble_eq_true rfl, Nat.le_of_ble_eq_true rfl⟩ dL_rows_941 (fun H locs hW => ?_)
  refine lv_bipush (v := 8) hx hb dL_rows_944 (by decide) ?_
  refine lv_icmp_ne (tgt := 1054) hx hb dL_rows_946 rfl (fun hc => absurd hc (by decide)) (fun _ => ?_)
  refine lv_aload_n hx hb dL_rows_949 rfl (lv_at hl 0 rfl) ?_
  refine lv_iconst (v := 0) hx hb dL_rows_950 (by decide) ?_
  refine lv_iconst (v := 1) hx hb dL_rows_951 (by decide) ?_
  refine lv_iconst (v := 0) hx hb dL_rows_952 (by decide) ?_
  refine lv_bipush (v := 70) hx hb dL_rows_953 (by decide) ?_
  refine ar_update (rest := []) C0 hl.1 hW fk131 (To_eq fk132) ⟨Nat.le_of_ble_eq_true rfl, Nat.le_of_ble_eq_true rfl⟩ (Nat.le_of_ble_eq_true rfl) ⟨Nat.le_of_ble_eq_true rfl, Nat.le_of_ble_eq_true rfl⟩ dL_rows_955 (fun H locs hW => ?_)
  refine lv_bipush (v := (-2)) hx hb dL_rows_958 (by decide) ?_
  refine lv_icmp_ne (tgt := 1054) hx hb dL_rows_960 rfl (fun hc => absurd hc (by decide)) (fun _ => ?_)
  refine lv_aload_n hx hb dL_rows_963 rfl (lv_at hl 0 rfl) ?_
  refine lv_iconst (v := 0) hx hb dL_rows_964 (by decide) ?_
  refine lv_iconst (v := 0) hx hb dL_rows_965 (by decide) ?_
  refine lv_iconst (v := 0) hx hb dL_rows_966 (by decide) ?_
  refine ar_cell (rest := []) C0 hl.1 hW fk133 ⟨Nat.le_of_ble_eq_true rfl, Nat.le_of_ble_eq_true rfl⟩ (Nat.le_of_ble_eq_true rfl) ⟨Nat.le_of_ble_eq_true rfl, Nat.le_of_ble_eq_true rfl⟩ dL_rows_967 (fun H locs hW => ?_)
  refine lv_iconst (v := 5) hx hb dL_rows_970 (by decide) ?_
  refine lv_icmp_ne (tgt := 1054) hx hb dL_rows_971 rfl (fun hc => absurd hc (by decide)) (fun _ => ?_)
  exact W.widen (Nat.le_of_ble_eq_true rfl) (Nat.le_of_ble_eq_true rfl) (hK H locs ls hW hl)
set_option maxHeartbeats 2000000 in
theorem rw_7 (hfl : l.stackTraces = false) (C0 : CX g p s m args meth c RL cL_rows 1 (some .boolean)) (hl : lv_has ls 1 [(0, .ref (g.2.2.1 + 0))]) (hW : WA g gn30 false Z0 s.heap H locs) (hK : ∀ (H : Heap) (locs : List Loc) (ls : Array Slot), WA g gn35 false Z0 s.heap H locs → lv_has ls 1 [(0, .ref (g.2.2.1 + 0))] → W p l e rmL_rows s m args below meth c H locs 1094 35425 (MQ below (QB g) args s rmL_rows.cells rmL_rows.slots (AA g)) (F0 m 1112 ls [])) : W p l e rmL_rows s m args below meth c H locs 1092 35360 (MQ below (QB g) args s rmL_rows.cells rmL_rows.slots (AA g)) (F0 m 974 ls []) := by
  have hx := C0.1; have hb := C0.2.1; have hown := C0.2.2.2.2.1; have hts := C0.2.2.2.2.2.1
  refine lv_aload_n hx hb dL_rows_974 rfl (lv_at hl 0 rfl) ?_
  refine lv_iconst (v := 5) hx hb dL_rows_975 (by decide) ?_
  refine ar_count (rest := []) C0 hl.1 hW fk134 ⟨Nat.le_of_ble_eq_true rfl, Nat.le_of_ble_eq_true rfl⟩ (Nat.le_of_ble_eq_true rfl) ⟨Nat.le_of_ble_eq_true rfl, Nat.le_of_ble_eq_true rfl⟩ dL_rows_976 (fun H locs hW => ?_)
  refine lv_iconst (v := 5) hx hb dL_rows_979 (by decide) ?_
  refine lv_icmp_ne (tgt := 1054) hx hb dL_rows_980 rfl (fun hc => absurd hc (by decide)) (fun _ => ?_)
  refine lv_aload_n hx hb dL_rows_983 rfl (lv_at hl 0 rfl) ?_
  refine lv_iconst (v := 0) hx hb dL_rows_984 (by decide) ?_
  refine lv_iconst (v := 1) hx hb dL_rows_985 (by decide) ?_
  refine lv_iconst (v := 0) hx hb dL_rows_986 (by decide) ?_
  refine lv_bipush (v := 8) hx hb dL_rows_987 (by decide) ?_
  refine ar_update (rest := []) C0 hl.1 hW fk135 (To_eq fk136) ⟨Nat.le_of_ble_eq_true rfl, Nat.le_of_ble_eq_true rfl⟩ (Nat.le_of_ble_eq_true rfl) ⟨Nat.le_of_ble_eq_true rfl, Nat.le_of_ble_eq_true rfl⟩ dL_rows_989 (fun H locs hW => ?_)
  refine lv_iconst (v := 1) hx hb dL_rows_992 (by decide) ?_
  refine lv_icmp_ne (tgt := 1054) hx hb dL_rows_993 rfl (fun hc => absurd hc (by decide)) (fun _ => ?_)
  refine lv_aload_n hx hb dL_rows_996 rfl (lv_at hl 0 rfl) ?_
  refine lv_iconst (v := 0) hx hb dL_rows_997 (by decide) ?_
  refine lv_iconst (v := 0) hx hb dL_rows_998 (by decide) ?_
  refine lv_iconst (v := 0) hx hb dL_rows_999 (by decide) ?_
  refine ar_cell (rest := []) C0 hl.1 hW fk137 ⟨Nat.le_of_ble_eq_true rfl, Nat.le_of_ble_eq_true rfl⟩ (Nat.le_of_ble_eq_true rfl) ⟨Nat.le_of_ble_eq_true rfl, Nat.le_of_ble_eq_true rfl⟩ dL_rows_1000 (fun H locs hW => ?_)
  refine lv_bipush (v := 8) hx hb dL_rows_1003 (by decide) ?_
  refine lv_icmp_ne (tgt := 1054) hx hb dL_rows_1005 rfl (fun hc => absurd hc (by decide)) (fun _ => ?_)
  refine lv_aload_n hx hb dL_rows_1008 rfl (lv_at hl 0 rfl) ?_
  refine ar_undo (rest := []) C0 hl.1 hW fk138 (To_eq fk139) ⟨Nat.le_of_ble_eq_true rfl, Nat.le_of_ble_eq_true rfl⟩ (Nat.le_of_ble_eq_true rfl) ⟨Nat.le_of_ble_eq_true rfl, Nat.le_of_ble_eq_true rfl⟩ dL_rows_1009 (fun H locs hW => ?_)
  refine lv_iconst (v := 5) hx hb dL_rows_1012 (by decide) ?_
  refine lv_icmp_ne (tgt := 1054) hx hb dL_rows_1013 rfl (fun hc => absurd hc (by decide)) (fun _ => ?_)
  refine lv_aload_n hx hb dL_rows_1016 rfl (lv_at hl 0 rfl) ?_
  refine lv_iconst (v := 5) hx hb dL_rows_1017 (by decide) ?_
  refine lv_ldc2 (v := 6372661) hx hb hown (hts _ wl182) dL_rows_1018 ?_
  refine lv_lconst (v := 0) hx hb dL_rows_1021 rfl ?_
  refine lv_iconst (v := 1) hx hb dL_rows_1022 (by decide) ?_
  refine al_cSi (rest := []) C0 hW (c_L_defines (B := ([] : List Nat)) (T1 := [97, 61, 53]) (T2 := [97, 61, 53]) (τ := gn34) fk28 fk29 fk30 fk31 fk140 (To_eq fk141) rfl) (ls_defines hts ⟨Nat.le_of_ble_eq_true rfl, Nat.le_of_ble_eq_true rfl⟩) rfl hl.1 rfl (Nat.le_of_ble_eq_true rfl) ⟨Nat.le_of_ble_eq_true rfl, Nat.le_of_ble_eq_true rfl⟩ dL_rows_1023 (fun H locs hW => ?_)
  have hW : WA g gn34 false Z0 s.heap H locs := hW
  refine lv_if_eq (tgt := 1054) hx hb dL_rows_1026 rfl (fun hc => absurd hc (by decide)) (fun _ => ?_)
  refine lv_aload_n hx hb dL_rows_1029 rfl (lv_at hl 0 rfl) ?_
  refine lv_iconst (v := 0) hx hb dL_rows_1030 (by decide) ?_
  refine lv_bipush (v := 10) hx hb dL_rows_1031 (by decide) ?_
  refine lv_iconst (v := 0) hx hb dL_rows_1033 (by decide) ?_
  refine lv_iconst (v := 0) hx hb dL_rows_1034 (by decide) ?_
  refine lv_iconst (v := 0) hx hb dL_rows_1035 (by decide) ?_
  refine ar_add (rest := []) C0 hl.1 hW fk142 (To_eq fk143) ⟨Nat.le_of_ble_eq_true rfl, Nat.le_of_ble_eq_true rfl⟩ (Nat.le_of_ble_eq_true rfl) ⟨Nat.le_of_ble_eq_true rfl, Nat.le_of_ble_eq_true rfl⟩ dL_rows_1036 (fun H locs hW => ?_)
  refine lv_bipush (v := (-2)) hx hb dL_rows_1039 (by decide) ?_
  refine lv_icmp_ne (tgt := 1054) hx hb dL_rows_1041 rfl (fun hc => absurd hc (by decide)) (fun _ => ?_)
  refine lv_aload_n hx hb dL_rows_1044 rfl (lv_at hl 0 rfl) ?_
  refine lv_iconst (v := 5) hx hb dL_rows_1045 (by decide) ?_
  refine ar_count (rest := []) C0 hl.1 hW fk144 ⟨Nat.le_of_ble_eq_true rfl, Nat.le_of_ble_eq_true rfl⟩ (Nat.le_of_ble_eq_true rfl) ⟨Nat.le_of_ble_eq_true rfl, Nat.le_of_ble_eq_true rfl⟩ dL_rows_1046 (fun H locs hW => ?_)
  refine lv_bipush (v := 6) hx hb dL_rows_1049 (by decide) ?_
  refine lv_icmp_eq (tgt := 1056) hx hb dL_rows_1051 rfl (fun _ => ?_) (fun hc => absurd (by decide) hc)
  refine lv_aload_n hx hb dL_rows_1056 rfl (lv_at hl 0 rfl) ?_
  refine lv_iconst (v := 0) hx hb dL_rows_1057 (by decide) ?_
  refine lv_iconst (v := 0) hx hb dL_rows_1058 (by decide) ?_
  refine lv_iconst (v := 0) hx hb dL_rows_1059 (by decide) ?_
  refine ar_join (rest := []) C0 hl.1 hW fk145 ⟨Nat.le_of_ble_eq_true rfl, Nat.le_of_ble_eq_true rfl⟩ (Nat.le_of_ble_eq_true rfl) ⟨Nat.le_of_ble_eq_true rfl, Nat.le_of_ble_eq_true rfl⟩ dL_rows_1060 (fun H locs hW => ?_)
  refine lv_iconst (v := 1) hx hb dL_rows_1063 (by decide) ?_
  refine lv_icmp_ne (tgt := 1341) hx hb dL_rows_1064 rfl (fun hc => absurd hc (by decide)) (fun _ => ?_)
  refine lv_aload_n hx hb dL_rows_1067 rfl (lv_at hl 0 rfl) ?_
  refine lv_iconst (v := 0) hx hb dL_rows_1068 (by decide) ?_
  refine lv_iconst (v := 0) hx hb dL_rows_1069 (by decide) ?_
  refine lv_iconst (v := 1) hx hb dL_rows_1070 (by decide) ?_
  refine ar_join (rest := []) C0 hl.1 hW fk146 ⟨Nat.le_of_ble_eq_true rfl, Nat.le_of_ble_eq_true rfl⟩ (Nat.le_of_ble_eq_true rfl) ⟨Nat.le_of_ble_eq_true rfl, Nat.le_of_ble_eq_true rfl⟩ dL_rows_1071 (fun H locs hW => ?_)
  refine lv_bipush (v := 6) hx hb dL_rows_1074 (by decide) ?_
  refine lv_icmp_ne (tgt := 1341) hx hb dL_rows_1076 rfl (fun hc => absurd hc (by decide)) (fun _ => ?_)
  refine lv_aload_n hx hb dL_rows_1079 rfl (lv_at hl 0 rfl) ?_
  refine lv_iconst (v := 0) hx hb dL_rows_1080 (by decide) ?_
  refine lv_iconst (v := 0) hx hb dL_rows_1081 (by decide) ?_
  refine lv_iconst (v := 2) hx hb dL_rows_1082 (by decide) ?_
  refine ar_join (rest := []) C0 hl.1 hW fk147 ⟨Nat.le_of_ble_eq_true rfl, Nat.le_of_ble_eq_true rfl⟩ (Nat.le_of_ble_eq_true rfl) ⟨Nat.le_of_ble_eq_true rfl, Nat.le_of_ble_eq_true rfl⟩ dL_rows_1083 (fun H locs hW => ?_)
  refine lv_iconst (v := 2) hx hb dL_rows_1086 (by decide) ?_
  refine lv_icmp_ne (tgt := 1341) hx hb dL_rows_1087 rfl (fun hc => absurd hc (by decide)) (fun _ => ?_)
  refine lv_aload_n hx hb dL_rows_1090 rfl (lv_at hl 0 rfl) ?_
  refine lv_iconst (v := 0) hx hb dL_rows_1091 (by decide) ?_
  refine lv_iconst (v := 0) hx hb dL_rows_1092 (by decide) ?_
  refine lv_iconst (v := 3) hx hb dL_rows_1093 (by decide) ?_
  refine ar_join (rest := []) C0 hl.1 hW fk148 ⟨Nat.le_of_ble_eq_true rfl, Nat.le_of_ble_eq_true rfl⟩ (Nat.le_of_ble_eq_true rfl) ⟨Nat.le_of_ble_eq_true rfl, Nat.le_of_ble_eq_true rfl⟩ dL_rows_1094 (fun H locs hW => ?_)
  refine lv_if_ne (tgt := 1341) hx hb dL_rows_1097 rfl (fun hc => absurd hc (by decide)) (fun _ => ?_)
  refine lv_aload_n hx hb dL_rows_1100 rfl (lv_at hl 0 rfl) ?_
  refine lv_iconst (v := 0) hx hb dL_rows_1101 (by decide) ?_
  refine lv_iconst (v := 0) hx hb dL_rows_1102 (by decide) ?_
  refine lv_iconst (v := 4) hx hb dL_rows_1103 (by decide) ?_
  refine ar_join (rest := []) C0 hl.1 hW fk149 ⟨Nat.le_of_ble_eq_true rfl, Nat.le_of_ble_eq_true rfl⟩ (Nat.le_of_ble_eq_true rfl) ⟨Nat.le_of_ble_eq_true rfl, Nat.le_of_ble_eq_true rfl⟩ dL_rows_1104 (fun H locs hW => ?_)
  refine lv_bipush (v := (-2)) hx hb dL_rows_1107 (by decide) ?_
  refine lv_icmp_ne (tgt := 1341) hx hb dL_rows_1109 rfl (fun hc => absurd hc (by decide)) (fun _ => ?_)
  exact W.widen (Nat.le_of_ble_eq_true rfl) (Nat.le_of_ble_eq_true rfl) (hK H locs ls hW hl)
set_option maxHeartbeats 2000000 in
theorem rw_8 (hfl : l.stackTraces = false) (C0 : CX g p s m args meth c RL cL_rows 1 (some .boolean)) (hl : lv_has ls 1 [(0, .ref (g.2.2.1 + 0))]) (hW : WA g gn35 false Z0 s.heap H locs) (hK : ∀ (H : Heap) (locs : List Loc) (ls : Array Slot), WA g gn35 false Z0 s.heap H locs → lv_has ls 1 [(0, .ref (g.2.2.1 + 0))] → W p l e rmL_rows s m args below meth c H locs 1094 35425 (MQ below (QB g) args s rmL_rows.cells rmL_rows.slots (AA g)) (F0 m 1251 ls [])) : W p l e rmL_rows s m args below meth c H locs 1094 35425 (MQ below (QB g) args s rmL_rows.cells rmL_rows.slots (AA g)) (F0 m 1112 ls []) := by
  have hx := C0.1; have hb := C0.2.1; have hown := C0.2.2.2.2.1; have hts := C0.2.2.2.2.2.1
  refine lv_aload_n hx hb dL_rows_1112 rfl (lv_at hl 0 rfl) ?_
  refine lv_iconst (v := 1) hx hb dL_rows_1113 (by decide) ?_
  refine lv_iconst (v := 2) hx hb dL_rows_1114 (by decide) ?_
  refine lv_iconst (v := 0) hx hb dL_rows_1115 (by decide) ?_
  refine ar_join (rest := []) C0 hl.1 hW fk150 ⟨Nat.le_of_ble_eq_true rfl, Nat.le_of_ble_eq_true rfl⟩ (Nat.le_of_ble_eq_true rfl) ⟨Nat.le_of_ble_eq_true rfl, Nat.le_of_ble_eq_true rfl⟩ dL_rows_1116 (fun H locs hW => ?_)
  refine lv_iconst (v := 1) hx hb dL_rows_1119 (by decide) ?_
  refine lv_icmp_ne (tgt := 1341) hx hb dL_rows_1120 rfl (fun hc => absurd hc (by decide)) (fun _ => ?_)
  refine lv_aload_n hx hb dL_rows_1123 rfl (lv_at hl 0 rfl) ?_
  refine lv_iconst (v := 1) hx hb dL_rows_1124 (by decide) ?_
  refine lv_iconst (v := 2) hx hb dL_rows_1125 (by decide) ?_
  refine lv_iconst (v := 3) hx hb dL_rows_1126 (by decide) ?_
  refine ar_join (rest := []) C0 hl.1 hW fk151 ⟨Nat.le_of_ble_eq_true rfl, Nat.le_of_ble_eq_true rfl⟩ (Nat.le_of_ble_eq_true rfl) ⟨Nat.le_of_ble_eq_true rfl, Nat.le_of_ble_eq_true rfl⟩ dL_rows_1127 (fun H locs hW => ?_)
  refine lv_bipush (v := 101) hx hb dL_rows_1130 (by decide) ?_
  refine lv_icmp_ne (tgt := 1341) hx hb dL_rows_1132 rfl (fun hc => absurd hc (by decide)) (fun _ => ?_)
  refine lv_aload_n hx hb dL_rows_1135 rfl (lv_at hl 0 rfl) ?_
  refine lv_iconst (v := 0) hx hb dL_rows_1136 (by decide) ?_
  refine lv_iconst (v := 0) hx hb dL_rows_1137 (by decide) ?_
  refine lv_iconst (v := 0) hx hb dL_rows_1138 (by decide) ?_
  refine ar_among (rest := []) C0 hl.1 hW fk152 ⟨Nat.le_of_ble_eq_true rfl, Nat.le_of_ble_eq_true rfl⟩ (Nat.le_of_ble_eq_true rfl) ⟨Nat.le_of_ble_eq_true rfl, Nat.le_of_ble_eq_true rfl⟩ dL_rows_1139 (fun H locs hW => ?_)
  refine lv_iconst (v := 2) hx hb dL_rows_1142 (by decide) ?_
  refine lv_icmp_ne (tgt := 1341) hx hb dL_rows_1143 rfl (fun hc => absurd hc (by decide)) (fun _ => ?_)
  refine lv_aload_n hx hb dL_rows_1146 rfl (lv_at hl 0 rfl) ?_
  refine lv_iconst (v := 1) hx hb dL_rows_1147 (by decide) ?_
  refine lv_iconst (v := 0) hx hb dL_rows_1148 (by decide) ?_
  refine lv_iconst (v := 0) hx hb dL_rows_1149 (by decide) ?_
  refine ar_among (rest := []) C0 hl.1 hW fk153 ⟨Nat.le_of_ble_eq_true rfl, Nat.le_of_ble_eq_true rfl⟩ (Nat.le_of_ble_eq_true rfl) ⟨Nat.le_of_ble_eq_true rfl, Nat.le_of_ble_eq_true rfl⟩ dL_rows_1150 (fun H locs hW => ?_)
  refine lv_iconst (v := 1) hx hb dL_rows_1153 (by decide) ?_
  refine lv_icmp_ne (tgt := 1341) hx hb dL_rows_1154 rfl (fun hc => absurd hc (by decide)) (fun _ => ?_)
  refine lv_aload_n hx hb dL_rows_1157 rfl (lv_at hl 0 rfl) ?_
  refine lv_iconst (v := 1) hx hb dL_rows_1158 (by decide) ?_
  refine lv_iconst (v := 0) hx hb dL_rows_1159 (by decide) ?_
  refine lv_iconst (v := 3) hx hb dL_rows_1160 (by decide) ?_
  refine ar_among (rest := []) C0 hl.1 hW fk154 ⟨Nat.le_of_ble_eq_true rfl, Nat.le_of_ble_eq_true rfl⟩ (Nat.le_of_ble_eq_true rfl) ⟨Nat.le_of_ble_eq_true rfl, Nat.le_of_ble_eq_true rfl⟩ dL_rows_1161 (fun H locs hW => ?_)
  refine lv_if_ne (tgt := 1341) hx hb dL_rows_1164 rfl (fun hc => absurd hc (by decide)) (fun _ => ?_)
  refine lv_aload_n hx hb dL_rows_1167 rfl (lv_at hl 0 rfl) ?_
  refine lv_iconst (v := 0) hx hb dL_rows_1168 (by decide) ?_
  refine lv_iconst (v := 1) hx hb dL_rows_1169 (by decide) ?_
  refine lv_iconst (v := 1) hx hb dL_rows_1170 (by decide) ?_
  refine ar_among (rest := []) C0 hl.1 hW fk155 ⟨Nat.le_of_ble_eq_true rfl, Nat.le_of_ble_eq_true rfl⟩ (Nat.le_of_ble_eq_true rfl) ⟨Nat.le_of_ble_eq_true rfl, Nat.le_of_ble_eq_true rfl⟩ dL_rows_1171 (fun H locs hW => ?_)
  refine lv_iconst (v := 1) hx hb dL_rows_1174 (by decide) ?_
  refine lv_icmp_ne (tgt := 1341) hx hb dL_rows_1175 rfl (fun hc => absurd hc (by decide)) (fun _ => ?_)
  refine lv_aload_n hx hb dL_rows_1178 rfl (lv_at hl 0 rfl) ?_
  refine lv_iconst (v := 0) hx hb dL_rows_1179 (by decide) ?_
  refine lv_iconst (v := 0) hx hb dL_rows_1180 (by decide) ?_
  refine lv_iconst (v := 0) hx hb dL_rows_1181 (by decide) ?_
  refine lv_iconst (v := 0) hx hb dL_rows_1182 (by decide) ?_
  refine ar_group (rest := []) C0 hl.1 hW fk156 ⟨Nat.le_of_ble_eq_true rfl, Nat.le_of_ble_eq_true rfl⟩ (Nat.le_of_ble_eq_true rfl) ⟨Nat.le_of_ble_eq_true rfl, Nat.le_of_ble_eq_true rfl⟩ dL_rows_1183 (fun H locs hW => ?_)
  refine lv_iconst (v := (-1)) hx hb dL_rows_1186 (by decide) ?_
  refine lv_icmp_ne (tgt := 1341) hx hb dL_rows_1187 rfl (fun hc => absurd hc (by decide)) (fun _ => ?_)
  refine lv_aload_n hx hb dL_rows_1190 rfl (lv_at hl 0 rfl) ?_
  refine lv_iconst (v := 0) hx hb dL_rows_1191 (by decide) ?_
  refine lv_iconst (v := 0) hx hb dL_rows_1192 (by decide) ?_
  refine lv_iconst (v := 0) hx hb dL_rows_1193 (by decide) ?_
  refine lv_iconst (v := 1) hx hb dL_rows_1194 (by decide) ?_
  refine ar_group (rest := []) C0 hl.1 hW fk157 ⟨Nat.le_of_ble_eq_true rfl, Nat.le_of_ble_eq_true rfl⟩ (Nat.le_of_ble_eq_true rfl) ⟨Nat.le_of_ble_eq_true rfl, Nat.le_of_ble_eq_true rfl⟩ dL_rows_1195 (fun H locs hW => ?_)
  refine lv_iconst (v := 4) hx hb dL_rows_1198 (by decide) ?_
  refine lv_icmp_ne (tgt := 1341) hx hb dL_rows_1199 rfl (fun hc => absurd hc (by decide)) (fun _ => ?_)
  refine lv_aload_n hx hb dL_rows_1202 rfl (lv_at hl 0 rfl) ?_
  refine lv_iconst (v := 0) hx hb dL_rows_1203 (by decide) ?_
  refine lv_iconst (v := 0) hx hb dL_rows_1204 (by decide) ?_
  refine lv_iconst (v := 1) hx hb dL_rows_1205 (by decide) ?_
  refine lv_iconst (v := 0) hx hb dL_rows_1206 (by decide) ?_
  refine ar_group (rest := []) C0 hl.1 hW fk158 ⟨Nat.le_of_ble_eq_true rfl, Nat.le_of_ble_eq_true rfl⟩ (Nat.le_of_ble_eq_true rfl) ⟨Nat.le_of_ble_eq_true rfl, Nat.le_of_ble_eq_true rfl⟩ dL_rows_1207 (fun H locs hW => ?_)
  refine lv_iconst (v := 1) hx hb dL_rows_1210 (by decide) ?_
  refine lv_icmp_ne (tgt := 1341) hx hb dL_rows_1211 rfl (fun hc => absurd hc (by decide)) (fun _ => ?_)
  refine lv_aload_n hx hb dL_rows_1214 rfl (lv_at hl 0 rfl) ?_
  refine lv_iconst (v := 0) hx hb dL_rows_1215 (by decide) ?_
  refine lv_iconst (v := 0) hx hb dL_rows_1216 (by decide) ?_
  refine lv_iconst (v := 1) hx hb dL_rows_1217 (by decide) ?_
  refine lv_bipush (v := 7) hx hb dL_rows_1218 (by decide) ?_
  refine ar_group (rest := []) C0 hl.1 hW fk159 ⟨Nat.le_of_ble_eq_true rfl, Nat.le_of_ble_eq_true rfl⟩ (Nat.le_of_ble_eq_true rfl) ⟨Nat.le_of_ble_eq_true rfl, Nat.le_of_ble_eq_true rfl⟩ dL_rows_1220 (fun H locs hW => ?_)
  refine lv_iconst (v := 2) hx hb dL_rows_1223 (by decide) ?_
  refine lv_icmp_ne (tgt := 1341) hx hb dL_rows_1224 rfl (fun hc => absurd hc (by decide)) (fun _ => ?_)
  refine lv_aload_n hx hb dL_rows_1227 rfl (lv_at hl 0 rfl) ?_
  refine lv_iconst (v := 0) hx hb dL_rows_1228 (by decide) ?_
  refine lv_iconst (v := 0) hx hb dL_rows_1229 (by decide) ?_
  refine lv_iconst (v := 2) hx hb dL_rows_1230 (by decide) ?_
  refine lv_iconst (v := 1) hx hb dL_rows_1231 (by decide) ?_
  refine ar_group (rest := []) C0 hl.1 hW fk160 ⟨Nat.le_of_ble_eq_true rfl, Nat.le_of_ble_eq_true rfl⟩ (Nat.le_of_ble_eq_true rfl) ⟨Nat.le_of_ble_eq_true rfl, Nat.le_of_ble_eq_true rfl⟩ dL_rows_1232 (fun H locs hW => ?_)
  refine lv_iconst (v := 1) hx hb dL_rows_1235 (by decide) ?_
  refine lv_icmp_ne (tgt := 1341) hx hb dL_rows_1236 rfl (fun hc => absurd hc (by decide)) (fun _ => ?_)
  refine lv_aload_n hx hb dL_rows_1239 rfl (lv_at hl 0 rfl) ?_
  refine lv_iconst (v := 0) hx hb dL_rows_1240 (by decide) ?_
  refine lv_iconst (v := 0) hx hb dL_rows_1241 (by decide) ?_
  refine lv_iconst (v := 2) hx hb dL_rows_1242 (by decide) ?_
  refine lv_iconst (v := 4) hx hb dL_rows_1243 (by decide) ?_
  refine ar_group (rest := []) C0 hl.1 hW fk161 ⟨Nat.le_of_ble_eq_true rfl, Nat.le_of_ble_eq_true rfl⟩ (Nat.le_of_ble_eq_true rfl) ⟨Nat.le_of_ble_eq_true rfl, Nat.le_of_ble_eq_true rfl⟩ dL_rows_1244 (fun H locs hW => ?_)
  refine lv_iconst (v := 3) hx hb dL_rows_1247 (by decide) ?_
  refine lv_icmp_ne (tgt := 1341) hx hb dL_rows_1248 rfl (fun hc => absurd hc (by decide)) (fun _ => ?_)
  exact W.widen (Nat.le_of_ble_eq_true rfl) (Nat.le_of_ble_eq_true rfl) (hK H locs ls hW hl)
set_option maxHeartbeats 2000000 in
theorem rw_9 (hfl : l.stackTraces = false) (C0 : CX g p s m args meth c RL cL_rows 1 (some .boolean)) (hl : lv_has ls 1 [(0, .ref (g.2.2.1 + 0))]) (hW : WA g gn35 false Z0 s.heap H locs) (hK : ∀ (H : Heap) (locs : List Loc) (ls : Array Slot), WA g gn38 false Z0 s.heap H locs → lv_has ls 1 [(0, .ref (g.2.2.1 + 0))] → W p l e rmL_rows s m args below meth c H locs 1094 35425 (MQ below (QB g) args s rmL_rows.cells rmL_rows.slots (AA g)) (F0 m 1386 ls [])) : W p l e rmL_rows s m args below meth c H locs 1094 35425 (MQ below (QB g) args s rmL_rows.cells rmL_rows.slots (AA g)) (F0 m 1251 ls []) := by
  have hx := C0.1; have hb := C0.2.1; have hown := C0.2.2.2.2.1; have hts := C0.2.2.2.2.2.1
  refine lv_aload_n hx hb dL_rows_1251 rfl (lv_at hl 0 rfl) ?_
  refine lv_iconst (v := 0) hx hb dL_rows_1252 (by decide) ?_
  refine lv_iconst (v := 0) hx hb dL_rows_1253 (by decide) ?_
  refine lv_iconst (v := 3) hx hb dL_rows_1254 (by decide) ?_
  refine lv_iconst (v := 0) hx hb dL_rows_1255 (by decide) ?_
  refine ar_group (rest := []) C0 hl.1 hW fk162 ⟨Nat.le_of_ble_eq_true rfl, Nat.le_of_ble_eq_true rfl⟩ (Nat.le_of_ble_eq_true rfl) ⟨Nat.le_of_ble_eq_true rfl, Nat.le_of_ble_eq_true rfl⟩ dL_rows_1256 (fun H locs hW => ?_)
  refine lv_bipush (v := (-2)) hx hb dL_rows_1259 (by decide) ?_
  refine lv_icmp_ne (tgt := 1341) hx hb dL_rows_1261 rfl (fun hc => absurd hc (by decide)) (fun _ => ?_)
  refine lv_aload_n hx hb dL_rows_1264 rfl (lv_at hl 0 rfl) ?_
  refine lv_iconst (v := 0) hx hb dL_rows_1265 (by decide) ?_
  refine lv_iconst (v := 2) hx hb dL_rows_1266 (by decide) ?_
  refine lv_iconst (v := 0) hx hb dL_rows_1267 (by decide) ?_
  refine ar_column (rest := []) C0 hl.1 hW fk163 ⟨Nat.le_of_ble_eq_true rfl, Nat.le_of_ble_eq_true rfl⟩ (Nat.le_of_ble_eq_true rfl) ⟨Nat.le_of_ble_eq_true rfl, Nat.le_of_ble_eq_true rfl⟩ dL_rows_1268 (fun H locs hW => ?_)
  refine lv_iconst (v := 2) hx hb dL_rows_1271 (by decide) ?_
  refine lv_icmp_ne (tgt := 1341) hx hb dL_rows_1272 rfl (fun hc => absurd hc (by decide)) (fun _ => ?_)
  refine lv_aload_n hx hb dL_rows_1275 rfl (lv_at hl 0 rfl) ?_
  refine lv_iconst (v := 0) hx hb dL_rows_1276 (by decide) ?_
  refine lv_iconst (v := 2) hx hb dL_rows_1277 (by decide) ?_
  refine lv_iconst (v := 1) hx hb dL_rows_1278 (by decide) ?_
  refine ar_column (rest := []) C0 hl.1 hW fk164 ⟨Nat.le_of_ble_eq_true rfl, Nat.le_of_ble_eq_true rfl⟩ (Nat.le_of_ble_eq_true rfl) ⟨Nat.le_of_ble_eq_true rfl, Nat.le_of_ble_eq_true rfl⟩ dL_rows_1279 (fun H locs hW => ?_)
  refine lv_iconst (v := 1) hx hb dL_rows_1282 (by decide) ?_
  refine lv_icmp_ne (tgt := 1341) hx hb dL_rows_1283 rfl (fun hc => absurd hc (by decide)) (fun _ => ?_)
  refine lv_aload_n hx hb dL_rows_1286 rfl (lv_at hl 0 rfl) ?_
  refine lv_iconst (v := 0) hx hb dL_rows_1287 (by decide) ?_
  refine lv_iconst (v := 2) hx hb dL_rows_1288 (by decide) ?_
  refine lv_iconst (v := 2) hx hb dL_rows_1289 (by decide) ?_
  refine ar_column (rest := []) C0 hl.1 hW fk165 ⟨Nat.le_of_ble_eq_true rfl, Nat.le_of_ble_eq_true rfl⟩ (Nat.le_of_ble_eq_true rfl) ⟨Nat.le_of_ble_eq_true rfl, Nat.le_of_ble_eq_true rfl⟩ dL_rows_1290 (fun H locs hW => ?_)
  refine lv_iconst (v := 3) hx hb dL_rows_1293 (by decide) ?_
  refine lv_icmp_ne (tgt := 1341) hx hb dL_rows_1294 rfl (fun hc => absurd hc (by decide)) (fun _ => ?_)
  refine lv_aload_n hx hb dL_rows_1297 rfl (lv_at hl 0 rfl) ?_
  refine lv_iconst (v := 0) hx hb dL_rows_1298 (by decide) ?_
  refine lv_iconst (v := 2) hx hb dL_rows_1299 (by decide) ?_
  refine lv_iconst (v := 3) hx hb dL_rows_1300 (by decide) ?_
  refine ar_column (rest := []) C0 hl.1 hW fk166 ⟨Nat.le_of_ble_eq_true rfl, Nat.le_of_ble_eq_true rfl⟩ (Nat.le_of_ble_eq_true rfl) ⟨Nat.le_of_ble_eq_true rfl, Nat.le_of_ble_eq_true rfl⟩ dL_rows_1301 (fun H locs hW => ?_)
  refine lv_if_ne (tgt := 1341) hx hb dL_rows_1304 rfl (fun hc => absurd hc (by decide)) (fun _ => ?_)
  refine lv_aload_n hx hb dL_rows_1307 rfl (lv_at hl 0 rfl) ?_
  refine lv_iconst (v := 0) hx hb dL_rows_1308 (by decide) ?_
  refine lv_iconst (v := 2) hx hb dL_rows_1309 (by decide) ?_
  refine lv_iconst (v := 4) hx hb dL_rows_1310 (by decide) ?_
  refine ar_column (rest := []) C0 hl.1 hW fk167 ⟨Nat.le_of_ble_eq_true rfl, Nat.le_of_ble_eq_true rfl⟩ (Nat.le_of_ble_eq_true rfl) ⟨Nat.le_of_ble_eq_true rfl, Nat.le_of_ble_eq_true rfl⟩ dL_rows_1311 (fun H locs hW => ?_)
  refine lv_iconst (v := 3) hx hb dL_rows_1314 (by decide) ?_
  refine lv_icmp_ne (tgt := 1341) hx hb dL_rows_1315 rfl (fun hc => absurd hc (by decide)) (fun _ => ?_)
  refine lv_aload_n hx hb dL_rows_1318 rfl (lv_at hl 0 rfl) ?_
  refine lv_iconst (v := 0) hx hb dL_rows_1319 (by decide) ?_
  refine lv_iconst (v := 2) hx hb dL_rows_1320 (by decide) ?_
  refine lv_bipush (v := 6) hx hb dL_rows_1321 (by decide) ?_
  refine ar_column (rest := []) C0 hl.1 hW fk168 ⟨Nat.le_of_ble_eq_true rfl, Nat.le_of_ble_eq_true rfl⟩ (Nat.le_of_ble_eq_true rfl) ⟨Nat.le_of_ble_eq_true rfl, Nat.le_of_ble_eq_true rfl⟩ dL_rows_1323 (fun H locs hW => ?_)
  refine lv_iconst (v := 1) hx hb dL_rows_1326 (by decide) ?_
  refine lv_icmp_ne (tgt := 1341) hx hb dL_rows_1327 rfl (fun hc => absurd hc (by decide)) (fun _ => ?_)
  refine lv_aload_n hx hb dL_rows_1330 rfl (lv_at hl 0 rfl) ?_
  refine lv_iconst (v := 1) hx hb dL_rows_1331 (by decide) ?_
  refine lv_iconst (v := 1) hx hb dL_rows_1332 (by decide) ?_
  refine lv_iconst (v := 5) hx hb dL_rows_1333 (by decide) ?_
  refine ar_column (rest := []) C0 hl.1 hW fk169 ⟨Nat.le_of_ble_eq_true rfl, Nat.le_of_ble_eq_true rfl⟩ (Nat.le_of_ble_eq_true rfl) ⟨Nat.le_of_ble_eq_true rfl, Nat.le_of_ble_eq_true rfl⟩ dL_rows_1334 (fun H locs hW => ?_)
  refine lv_iconst (v := 2) hx hb dL_rows_1337 (by decide) ?_
  refine lv_icmp_eq (tgt := 1343) hx hb dL_rows_1338 rfl (fun _ => ?_) (fun hc => absurd (by decide) hc)
  refine lv_aload_n hx hb dL_rows_1343 rfl (lv_at hl 0 rfl) ?_
  refine lv_iconst (v := 0) hx hb dL_rows_1344 (by decide) ?_
  refine ar_keep (rest := []) C0 hl.1 hW fk170 (To_eq fk171) ⟨Nat.le_of_ble_eq_true rfl, Nat.le_of_ble_eq_true rfl⟩ (Nat.le_of_ble_eq_true rfl) ⟨Nat.le_of_ble_eq_true rfl, Nat.le_of_ble_eq_true rfl⟩ dL_rows_1345 (fun H locs hW => ?_)
  refine lv_iconst (v := 5) hx hb dL_rows_1348 (by decide) ?_
  refine lv_icmp_ne (tgt := 1484) hx hb dL_rows_1349 rfl (fun hc => absurd hc (by decide)) (fun _ => ?_)
  refine lv_aload_n hx hb dL_rows_1352 rfl (lv_at hl 0 rfl) ?_
  refine lv_iconst (v := 0) hx hb dL_rows_1353 (by decide) ?_
  refine lv_bipush (v := (-2)) hx hb dL_rows_1354 (by decide) ?_
  refine ar_check (rest := []) C0 hl.1 hW fk172 (To_eq fk173) ⟨Nat.le_of_ble_eq_true rfl, Nat.le_of_ble_eq_true rfl⟩ (Nat.le_of_ble_eq_true rfl) ⟨Nat.le_of_ble_eq_true rfl, Nat.le_of_ble_eq_true rfl⟩ dL_rows_1356 (fun H locs hW => ?_)
  refine lv_if_ne (tgt := 1484) hx hb dL_rows_1359 rfl (fun hc => absurd hc (by decide)) (fun _ => ?_)
  refine lv_aload_n hx hb dL_rows_1362 rfl (lv_at hl 0 rfl) ?_
  refine lv_iconst (v := 0) hx hb dL_rows_1363 (by decide) ?_
  refine lv_iconst (v := 0) hx hb dL_rows_1364 (by decide) ?_
  refine lv_iconst (v := 0) hx hb dL_rows_1365 (by decide) ?_
  refine lv_iconst (v := (-1)) hx hb dL_rows_1366 (by decide) ?_
  refine ar_update (rest := []) C0 hl.1 hW fk174 (To_eq fk175) ⟨Nat.le_of_ble_eq_true rfl, Nat.le_of_ble_eq_true rfl⟩ (Nat.le_of_ble_eq_true rfl) ⟨Nat.le_of_ble_eq_true rfl, Nat.le_of_ble_eq_true rfl⟩ dL_rows_1367 (fun H locs hW => ?_)
  refine lv_iconst (v := 1) hx hb dL_rows_1370 (by decide) ?_
  refine lv_icmp_ne (tgt := 1484) hx hb dL_rows_1371 rfl (fun hc => absurd hc (by decide)) (fun _ => ?_)
  refine lv_aload_n hx hb dL_rows_1374 rfl (lv_at hl 0 rfl) ?_
  refine lv_iconst (v := 0) hx hb dL_rows_1375 (by decide) ?_
  refine lv_iconst (v := 0) hx hb dL_rows_1376 (by decide) ?_
  refine lv_iconst (v := 1) hx hb dL_rows_1377 (by decide) ?_
  refine lv_iconst (v := 1) hx hb dL_rows_1378 (by decide) ?_
  refine ar_rows (rest := []) C0 hl.1 hW fk176 ⟨Nat.le_of_ble_eq_true rfl, Nat.le_of_ble_eq_true rfl⟩ (Nat.le_of_ble_eq_true rfl) ⟨Nat.le_of_ble_eq_true rfl, Nat.le_of_ble_eq_true rfl⟩ dL_rows_1379 (fun H locs hW => ?_)
  refine lv_iconst (v := 5) hx hb dL_rows_1382 (by decide) ?_
  refine lv_icmp_ne (tgt := 1484) hx hb dL_rows_1383 rfl (fun hc => absurd hc (by decide)) (fun _ => ?_)
  exact W.widen (Nat.le_of_ble_eq_true rfl) (Nat.le_of_ble_eq_true rfl) (hK H locs ls hW hl)
set_option maxHeartbeats 2000000 in
theorem rw_10 (hfl : l.stackTraces = false) (C0 : CX g p s m args meth c RL cL_rows 1 (some .boolean)) (hl : lv_has ls 1 [(0, .ref (g.2.2.1 + 0))]) (hW : WA g gn38 false Z0 s.heap H locs) : W p l e rmL_rows s m args below meth c H locs 1094 35425 (MQ below (QB g) args s rmL_rows.cells rmL_rows.slots (AA g)) (F0 m 1386 ls []) := by
  have hx := C0.1; have hb := C0.2.1; have hown := C0.2.2.2.2.1; have hts := C0.2.2.2.2.2.1
  refine lv_aload_n hx hb dL_rows_1386 rfl (lv_at hl 0 rfl) ?_
  refine lv_iconst (v := 0) hx hb dL_rows_1387 (by decide) ?_
  refine lv_iconst (v := 1) hx hb dL_rows_1388 (by decide) ?_
  refine ar_remove (rest := []) C0 hl.1 hW fk177 (To_eq fk178) ⟨Nat.le_of_ble_eq_true rfl, Nat.le_of_ble_eq_true rfl⟩ (Nat.le_of_ble_eq_true rfl) ⟨Nat.le_of_ble_eq_true rfl, Nat.le_of_ble_eq_true rfl⟩ dL_rows_1389 (fun H locs hW => ?_)
  refine lv_iconst (v := 1) hx hb dL_rows_1392 (by decide) ?_
  refine lv_icmp_ne (tgt := 1484) hx hb dL_rows_1393 rfl (fun hc => absurd hc (by decide)) (fun _ => ?_)
  refine lv_aload_n hx hb dL_rows_1396 rfl (lv_at hl 0 rfl) ?_
  refine lv_iconst (v := 0) hx hb dL_rows_1397 (by decide) ?_
  refine ar_count (rest := []) C0 hl.1 hW fk179 ⟨Nat.le_of_ble_eq_true rfl, Nat.le_of_ble_eq_true rfl⟩ (Nat.le_of_ble_eq_true rfl) ⟨Nat.le_of_ble_eq_true rfl, Nat.le_of_ble_eq_true rfl⟩ dL_rows_1398 (fun H locs hW => ?_)
  refine lv_iconst (v := 2) hx hb dL_rows_1401 (by decide) ?_
  refine lv_icmp_ne (tgt := 1484) hx hb dL_rows_1402 rfl (fun hc => absurd hc (by decide)) (fun _ => ?_)
  refine lv_aload_n hx hb dL_rows_1405 rfl (lv_at hl 0 rfl) ?_
  refine lv_iconst (v := 0) hx hb dL_rows_1406 (by decide) ?_
  refine lv_iconst (v := 0) hx hb dL_rows_1407 (by decide) ?_
  refine lv_iconst (v := 1) hx hb dL_rows_1408 (by decide) ?_
  refine ar_cell (rest := []) C0 hl.1 hW fk180 ⟨Nat.le_of_ble_eq_true rfl, Nat.le_of_ble_eq_true rfl⟩ (Nat.le_of_ble_eq_true rfl) ⟨Nat.le_of_ble_eq_true rfl, Nat.le_of_ble_eq_true rfl⟩ dL_rows_1409 (fun H locs hW => ?_)
  refine lv_iconst (v := 2) hx hb dL_rows_1412 (by decide) ?_
  refine lv_icmp_ne (tgt := 1484) hx hb dL_rows_1413 rfl (fun hc => absurd hc (by decide)) (fun _ => ?_)
  refine lv_aload_n hx hb dL_rows_1416 rfl (lv_at hl 0 rfl) ?_
  refine lv_iconst (v := 0) hx hb dL_rows_1417 (by decide) ?_
  refine lv_iconst (v := 0) hx hb dL_rows_1418 (by decide) ?_
  refine ar_drop (rest := []) C0 hl.1 hW fk181 (To_eq fk182) ⟨Nat.le_of_ble_eq_true rfl, Nat.le_of_ble_eq_true rfl⟩ (Nat.le_of_ble_eq_true rfl) ⟨Nat.le_of_ble_eq_true rfl, Nat.le_of_ble_eq_true rfl⟩ dL_rows_1419 (fun H locs hW => ?_)
  refine lv_iconst (v := 1) hx hb dL_rows_1422 (by decide) ?_
  refine lv_icmp_ne (tgt := 1484) hx hb dL_rows_1423 rfl (fun hc => absurd hc (by decide)) (fun _ => ?_)
  refine lv_aload_n hx hb dL_rows_1426 rfl (lv_at hl 0 rfl) ?_
  refine lv_iconst (v := 0) hx hb dL_rows_1427 (by decide) ?_
  refine ar_goBack (rest := []) C0 hl.1 hW fk183 (To_eq fk184) ⟨Nat.le_of_ble_eq_true rfl, Nat.le_of_ble_eq_true rfl⟩ (Nat.le_of_ble_eq_true rfl) ⟨Nat.le_of_ble_eq_true rfl, Nat.le_of_ble_eq_true rfl⟩ dL_rows_1428 (fun H locs hW => ?_)
  refine lv_iconst (v := 5) hx hb dL_rows_1431 (by decide) ?_
  refine lv_icmp_ne (tgt := 1484) hx hb dL_rows_1432 rfl (fun hc => absurd hc (by decide)) (fun _ => ?_)
  refine lv_aload_n hx hb dL_rows_1435 rfl (lv_at hl 0 rfl) ?_
  refine lv_iconst (v := 3) hx hb dL_rows_1436 (by decide) ?_
  refine ar_count (rest := []) C0 hl.1 hW fk185 ⟨Nat.le_of_ble_eq_true rfl, Nat.le_of_ble_eq_true rfl⟩ (Nat.le_of_ble_eq_true rfl) ⟨Nat.le_of_ble_eq_true rfl, Nat.le_of_ble_eq_true rfl⟩ dL_rows_1437 (fun H locs hW => ?_)
  refine lv_iconst (v := 2) hx hb dL_rows_1440 (by decide) ?_
  refine lv_icmp_ne (tgt := 1484) hx hb dL_rows_1441 rfl (fun hc => absurd hc (by decide)) (fun _ => ?_)
  refine lv_aload_n hx hb dL_rows_1444 rfl (lv_at hl 0 rfl) ?_
  refine lv_iconst (v := 0) hx hb dL_rows_1445 (by decide) ?_
  refine lv_bipush (v := 10) hx hb dL_rows_1446 (by decide) ?_
  refine lv_iconst (v := 0) hx hb dL_rows_1448 (by decide) ?_
  refine lv_iconst (v := 0) hx hb dL_rows_1449 (by decide) ?_
  refine lv_iconst (v := 0) hx hb dL_rows_1450 (by decide) ?_
  refine ar_add (rest := []) C0 hl.1 hW fk186 (To_eq fk187) ⟨Nat.le_of_ble_eq_true rfl, Nat.le_of_ble_eq_true rfl⟩ (Nat.le_of_ble_eq_true rfl) ⟨Nat.le_of_ble_eq_true rfl, Nat.le_of_ble_eq_true rfl⟩ dL_rows_1451 (fun H locs hW => ?_)
  refine lv_bipush (v := (-2)) hx hb dL_rows_1454 (by decide) ?_
  refine lv_icmp_ne (tgt := 1484) hx hb dL_rows_1456 rfl (fun hc => absurd hc (by decide)) (fun _ => ?_)
  refine lv_aload_n hx hb dL_rows_1459 rfl (lv_at hl 0 rfl) ?_
  refine lv_iconst (v := 0) hx hb dL_rows_1460 (by decide) ?_
  refine lv_iconst (v := 0) hx hb dL_rows_1461 (by decide) ?_
  refine ar_remove (rest := []) C0 hl.1 hW fk188 (To_eq fk189) ⟨Nat.le_of_ble_eq_true rfl, Nat.le_of_ble_eq_true rfl⟩ (Nat.le_of_ble_eq_true rfl) ⟨Nat.le_of_ble_eq_true rfl, Nat.le_of_ble_eq_true rfl⟩ dL_rows_1462 (fun H locs hW => ?_)
  refine lv_iconst (v := 1) hx hb dL_rows_1465 (by decide) ?_
  refine lv_icmp_ne (tgt := 1484) hx hb dL_rows_1466 rfl (fun hc => absurd hc (by decide)) (fun _ => ?_)
  refine lv_aload_n hx hb dL_rows_1469 rfl (lv_at hl 0 rfl) ?_
  refine lv_iconst (v := 0) hx hb dL_rows_1470 (by decide) ?_
  refine lv_iconst (v := 0) hx hb dL_rows_1471 (by decide) ?_
  refine lv_iconst (v := 0) hx hb dL_rows_1472 (by decide) ?_
  refine ar_cell (rest := []) C0 hl.1 hW fk190 ⟨Nat.le_of_ble_eq_true rfl, Nat.le_of_ble_eq_true rfl⟩ (Nat.le_of_ble_eq_true rfl) ⟨Nat.le_of_ble_eq_true rfl, Nat.le_of_ble_eq_true rfl⟩ dL_rows_1473 (fun H locs hW => ?_)
  refine lv_iconst (v := 1) hx hb dL_rows_1476 (by decide) ?_
  refine lv_icmp_ne (tgt := 1484) hx hb dL_rows_1477 rfl (fun hc => absurd hc (by decide)) (fun _ => ?_)
  refine lv_iconst (v := 1) hx hb dL_rows_1480 (by decide) ?_
  refine lv_goto (tgt := 1485) hx hb dL_rows_1481 rfl ?_
  exact al_bret C0 hW (Nat.le_of_ble_eq_true rfl) (Nat.le_of_ble_eq_true rfl) dL_rows_1485
theorem c_L_rows (hfl : l.stackTraces = false) : Met l yL_rows (Cond.code yL_rows cL_rows 1 (some .boolean) :: GT) rmL_rows (va_Pc [] (PB g)) (QB g) rmL_rows.cells rmL_rows.slots (AA g) := by
  refine al_ofB (lv0 := []) (by decide) (Nat.le_of_ble_eq_true rfl) rfl (fun p e s m args below meth c ls H locs C0 hl hS hsz => ?_)
  have C0 : CX g p s m args meth c RL cL_rows 1 (some .boolean) := C0
  have hx := C0.1; have hb := C0.2.1
  refine al_new C0 hl.1 hS hsz ⟨Nat.le_of_ble_eq_true rfl, Nat.le_of_ble_eq_true rfl⟩ ⟨Nat.le_of_ble_eq_true rfl, Nat.le_of_ble_eq_true rfl⟩ dL_rows_0 dL_rows_3 dL_rows_4 (fun H locs hsz hW => ?_)
  have hW := WA_eq fk0 hW
  refine lv_astore_n (lv' := [(0, .ref (g.2.2.1 + 0))]) hx hb dL_rows_7 rfl hl (Nat.le_of_ble_eq_true rfl) rfl (fun ls hl => ?_)
  exact rw_0 hfl C0 hl hW (fun H locs ls hW hl => rw_1 hfl C0 hl hW (fun H locs ls hW hl => rw_2 hfl C0 hl hW (fun H locs ls hW hl => rw_3 hfl C0 hl hW (fun H locs ls hW hl => rw_4 hfl C0 hl hW (fun H locs ls hW hl => rw_5 hfl C0 hl hW (fun H locs ls hW hl => rw_6 hfl C0 hl hW (fun H locs ls hW hl => rw_7 hfl C0 hl hW (fun H locs ls hW hl => rw_8 hfl C0 hl hW (fun H locs ls hW hl => rw_9 hfl C0 hl hW (fun H locs ls hW hl => rw_10 hfl C0 hl hW))))))))))
end RWW
