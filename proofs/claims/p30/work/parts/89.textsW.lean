/-! texts: the walk -/
section TXW
abbrev rmL_texts : Room := { frames := 12, cells := 78, slots := 2405, locals := 245 }
theorem ls_texts {Rm : Room} {s : State} {args : Array Value} (ht : ∀ w ∈ GT, w.before args s = true) (hR : rmL_texts.frames + 1 ≤ Rm.frames ∧ 8 + (2 + 11) + rmL_texts.locals ≤ Rm.locals) : CallB Rm s args RL 302 yL_texts cL_texts 2 (some .boolean) (Cond.code yL_texts cL_texts 2 (some .boolean) :: GT) rmL_texts 78 2405 0 ∧ (Cond.static yL_texts).before args s = true := va_cwS 0 ht (goodS wl166 wl168 wl27 wl167) rfl rfl rfl ⟨by decide +kernel, by decide +kernel, by decide +kernel⟩ hR
variable {p : Program} {l : Launch} {e : Env} {Rm : Room} {s : State} {m : MethodId} {args : Array Value} {below : List Frame} {meth : Method} {c : Code} {H : Heap} {locs : List Loc} {cells slots : Nat} {Q : State → Prop}
variable {cc : ByteArray} {pc : Nat} {ls : Array Slot} {rest : List Value} {g : Gam} {σ : Gst} {b : Bool} {Z : Zed} {nL : Nat} {ret : Option FieldType}
set_option maxHeartbeats 2000000 in
theorem tx_0 (hfl : l.stackTraces = false) (C0 : CX g p s m args meth c RL cL_texts 2 (some .boolean)) (hl : lv_has ls 2 [(0, .ref (g.2.2.1 + 0))]) (hW : WA g tgn0 false Z0 s.heap H locs) (hK : ∀ (H : Heap) (locs : List Loc) (ls : Array Slot), WA g tgn0 false Z0 s.heap H locs → lv_has ls 2 [(0, .ref (g.2.2.1 + 0))] → W p l e rmL_texts s m args below meth c H locs 70 2145 (MQ below (QB g) args s rmL_texts.cells rmL_texts.slots (AA g)) (F0 m 152 ls [])) : W p l e rmL_texts s m args below meth c H locs 70 2145 (MQ below (QB g) args s rmL_texts.cells rmL_texts.slots (AA g)) (F0 m 8 ls []) := by
  have hx := C0.1; have hb := C0.2.1; have hown := C0.2.2.2.2.1; have hts := C0.2.2.2.2.2.1
  refine lv_aload_n hx hb dL_texts_8 rfl (lv_at hl 0 rfl) ?_
  refine lv_ldc2 (v := 97) hx hb hown (hts _ wl219) dL_texts_9 ?_
  refine lv_lconst (v := 0) hx hb dL_texts_12 rfl ?_
  refine lv_iconst (v := 1) hx hb dL_texts_13 (by decide) ?_
  refine al_cSi (rest := []) C0 hW (c_L_isError (B := ([] : List Nat)) (T1 := [97]) (T2 := [97]) tfk1 tfk2 tfk3 tfk4 tfk5) (ls_isError hts ⟨Nat.le_of_ble_eq_true rfl, Nat.le_of_ble_eq_true rfl⟩) rfl hl.1 rfl (Nat.le_of_ble_eq_true rfl) ⟨Nat.le_of_ble_eq_true rfl, Nat.le_of_ble_eq_true rfl⟩ dL_texts_14 (fun H locs hW => ?_)
  have hW : WA g tgn1 false Z0 s.heap H locs := hW
  refine lv_if_eq (tgt := 150) hx hb dL_texts_17 rfl (fun hc => absurd hc (by decide)) (fun _ => ?_)
  refine lv_aload_n hx hb dL_texts_20 rfl (lv_at hl 0 rfl) ?_
  refine lv_ldc2 (v := 417638461488) hx hb hown (hts _ wl220) dL_texts_21 ?_
  refine lv_lconst (v := 0) hx hb dL_texts_24 rfl ?_
  refine lv_iconst (v := 4) hx hb dL_texts_25 (by decide) ?_
  refine al_cSi (rest := []) C0 hW (c_L_isError (B := [97]) (T1 := [97, 61, 49, 48, 48]) (T2 := [97, 61, 49, 48, 48]) tfk6 tfk7 tfk8 tfk9 tfk10) (ls_isError hts ⟨Nat.le_of_ble_eq_true rfl, Nat.le_of_ble_eq_true rfl⟩) rfl hl.1 rfl (Nat.le_of_ble_eq_true rfl) ⟨Nat.le_of_ble_eq_true rfl, Nat.le_of_ble_eq_true rfl⟩ dL_texts_26 (fun H locs hW => ?_)
  have hW : WA g tgn2 false Z0 s.heap H locs := hW
  refine lv_if_eq (tgt := 150) hx hb dL_texts_29 rfl (fun hc => absurd hc (by decide)) (fun _ => ?_)
  refine lv_aload_n hx hb dL_texts_32 rfl (lv_at hl 0 rfl) ?_
  refine lv_ldc2 (v := 1631399989) hx hb hown (hts _ wl221) dL_texts_33 ?_
  refine lv_lconst (v := 0) hx hb dL_texts_36 rfl ?_
  refine lv_iconst (v := 3) hx hb dL_texts_37 (by decide) ?_
  refine al_cSi (rest := []) C0 hW (c_L_isError (B := [97, 61, 49, 48, 48]) (T1 := [97, 61, 48, 53]) (T2 := [97, 61, 48, 53]) tfk11 tfk12 tfk13 tfk14 tfk15) (ls_isError hts ⟨Nat.le_of_ble_eq_true rfl, Nat.le_of_ble_eq_true rfl⟩) rfl hl.1 rfl (Nat.le_of_ble_eq_true rfl) ⟨Nat.le_of_ble_eq_true rfl, Nat.le_of_ble_eq_true rfl⟩ dL_texts_38 (fun H locs hW => ?_)
  have hW : WA g tgn3 false Z0 s.heap H locs := hW
  refine lv_if_eq (tgt := 150) hx hb dL_texts_41 rfl (fun hc => absurd hc (by decide)) (fun _ => ?_)
  refine lv_aload_n hx hb dL_texts_44 rfl (lv_at hl 0 rfl) ?_
  refine lv_ldc2 (v := 101) hx hb hown (hts _ wl222) dL_texts_45 ?_
  refine lv_lconst (v := 0) hx hb dL_texts_48 rfl ?_
  refine lv_iconst (v := 0) hx hb dL_texts_49 (by decide) ?_
  refine al_cSi (rest := []) C0 hW (c_L_isError (B := [97, 61, 48, 53]) (T1 := [101]) (T2 := [101]) tfk16 tfk17 tfk18 tfk19 tfk20) (ls_isError hts ⟨Nat.le_of_ble_eq_true rfl, Nat.le_of_ble_eq_true rfl⟩) rfl hl.1 rfl (Nat.le_of_ble_eq_true rfl) ⟨Nat.le_of_ble_eq_true rfl, Nat.le_of_ble_eq_true rfl⟩ dL_texts_50 (fun H locs hW => ?_)
  have hW : WA g tgn4 false Z0 s.heap H locs := hW
  refine lv_if_eq (tgt := 150) hx hb dL_texts_53 rfl (fun hc => absurd hc (by decide)) (fun _ => ?_)
  refine lv_aload_n hx hb dL_texts_56 rfl (lv_at hl 0 rfl) ?_
  refine lv_ldc2 (v := 24865) hx hb hown (hts _ wl223) dL_texts_57 ?_
  refine lv_lconst (v := 0) hx hb dL_texts_60 rfl ?_
  refine lv_iconst (v := 1) hx hb dL_texts_61 (by decide) ?_
  refine al_cSi (rest := []) C0 hW (c_L_isError (B := [101]) (T1 := [97, 33]) (T2 := [97, 33]) tfk21 tfk22 tfk23 tfk24 tfk25) (ls_isError hts ⟨Nat.le_of_ble_eq_true rfl, Nat.le_of_ble_eq_true rfl⟩) rfl hl.1 rfl (Nat.le_of_ble_eq_true rfl) ⟨Nat.le_of_ble_eq_true rfl, Nat.le_of_ble_eq_true rfl⟩ dL_texts_62 (fun H locs hW => ?_)
  have hW : WA g tgn5 false Z0 s.heap H locs := hW
  refine lv_if_eq (tgt := 150) hx hb dL_texts_65 rfl (fun hc => absurd hc (by decide)) (fun _ => ?_)
  refine lv_aload_n hx hb dL_texts_68 rfl (lv_at hl 0 rfl) ?_
  refine lv_ldc2 (v := 2646335) hx hb hown (hts _ wl224) dL_texts_69 ?_
  refine lv_lconst (v := 0) hx hb dL_texts_72 rfl ?_
  refine lv_iconst (v := 3) hx hb dL_texts_73 (by decide) ?_
  refine al_cSi (rest := []) C0 hW (c_L_isError (B := [97, 33]) (T1 := [40, 97, 63]) (T2 := [40, 97, 63]) tfk26 tfk27 tfk28 tfk29 tfk30) (ls_isError hts ⟨Nat.le_of_ble_eq_true rfl, Nat.le_of_ble_eq_true rfl⟩) rfl hl.1 rfl (Nat.le_of_ble_eq_true rfl) ⟨Nat.le_of_ble_eq_true rfl, Nat.le_of_ble_eq_true rfl⟩ dL_texts_74 (fun H locs hW => ?_)
  have hW : WA g tgn6 false Z0 s.heap H locs := hW
  refine lv_if_eq (tgt := 150) hx hb dL_texts_77 rfl (fun hc => absurd hc (by decide)) (fun _ => ?_)
  refine lv_aload_n hx hb dL_texts_80 rfl (lv_at hl 0 rfl) ?_
  refine lv_ldc2 (v := 6373161) hx hb hown (hts _ wl225) dL_texts_81 ?_
  refine lv_lconst (v := 0) hx hb dL_texts_84 rfl ?_
  refine lv_iconst (v := 2) hx hb dL_texts_85 (by decide) ?_
  refine al_cSi (rest := []) C0 hW (c_L_isError (B := [40, 97, 63]) (T1 := [97, 63, 41]) (T2 := [97, 63, 41]) tfk31 tfk32 tfk33 tfk34 tfk35) (ls_isError hts ⟨Nat.le_of_ble_eq_true rfl, Nat.le_of_ble_eq_true rfl⟩) rfl hl.1 rfl (Nat.le_of_ble_eq_true rfl) ⟨Nat.le_of_ble_eq_true rfl, Nat.le_of_ble_eq_true rfl⟩ dL_texts_86 (fun H locs hW => ?_)
  have hW : WA g tgn7 false Z0 s.heap H locs := hW
  refine lv_if_eq (tgt := 150) hx hb dL_texts_89 rfl (fun hc => absurd hc (by decide)) (fun _ => ?_)
  refine lv_aload_n hx hb dL_texts_92 rfl (lv_at hl 0 rfl) ?_
  refine lv_ldc2 (v := 6373218) hx hb hown (hts _ wl226) dL_texts_93 ?_
  refine lv_lconst (v := 0) hx hb dL_texts_96 rfl ?_
  refine lv_iconst (v := 2) hx hb dL_texts_97 (by decide) ?_
  refine al_cSi (rest := []) C0 hW (c_L_isError (B := [97, 63, 41]) (T1 := [97, 63, 98]) (T2 := [97, 63, 98]) tfk36 tfk37 tfk38 tfk39 tfk40) (ls_isError hts ⟨Nat.le_of_ble_eq_true rfl, Nat.le_of_ble_eq_true rfl⟩) rfl hl.1 rfl (Nat.le_of_ble_eq_true rfl) ⟨Nat.le_of_ble_eq_true rfl, Nat.le_of_ble_eq_true rfl⟩ dL_texts_98 (fun H locs hW => ?_)
  have hW : WA g tgn8 false Z0 s.heap H locs := hW
  refine lv_if_eq (tgt := 150) hx hb dL_texts_101 rfl (fun hc => absurd hc (by decide)) (fun _ => ?_)
  refine lv_aload_n hx hb dL_texts_104 rfl (lv_at hl 0 rfl) ?_
  refine lv_ldc2 (v := 33) hx hb hown (hts _ wl227) dL_texts_105 ?_
  refine lv_lconst (v := 0) hx hb dL_texts_108 rfl ?_
  refine lv_iconst (v := 1) hx hb dL_texts_109 (by decide) ?_
  refine al_cSi (rest := []) C0 hW (c_L_isError (B := [97, 63, 98]) (T1 := [33]) (T2 := [33]) tfk41 tfk42 tfk43 tfk44 tfk45) (ls_isError hts ⟨Nat.le_of_ble_eq_true rfl, Nat.le_of_ble_eq_true rfl⟩) rfl hl.1 rfl (Nat.le_of_ble_eq_true rfl) ⟨Nat.le_of_ble_eq_true rfl, Nat.le_of_ble_eq_true rfl⟩ dL_texts_110 (fun H locs hW => ?_)
  have hW : WA g tgn9 false Z0 s.heap H locs := hW
  refine lv_if_eq (tgt := 150) hx hb dL_texts_113 rfl (fun hc => absurd hc (by decide)) (fun _ => ?_)
  refine lv_aload_n hx hb dL_texts_116 rfl (lv_at hl 0 rfl) ?_
  refine lv_ldc2 (v := 1631412789) hx hb hown (hts _ wl228) dL_texts_117 ?_
  refine lv_lconst (v := 0) hx hb dL_texts_120 rfl ?_
  refine lv_iconst (v := 3) hx hb dL_texts_121 (by decide) ?_
  refine al_cSi (rest := []) C0 hW (c_L_isError (B := [33]) (T1 := [97, 61, 98, 53]) (T2 := [97, 61, 98, 53]) tfk46 tfk47 tfk48 tfk49 tfk50) (ls_isError hts ⟨Nat.le_of_ble_eq_true rfl, Nat.le_of_ble_eq_true rfl⟩) rfl hl.1 rfl (Nat.le_of_ble_eq_true rfl) ⟨Nat.le_of_ble_eq_true rfl, Nat.le_of_ble_eq_true rfl⟩ dL_texts_122 (fun H locs hW => ?_)
  have hW : WA g tgn10 false Z0 s.heap H locs := hW
  refine lv_if_eq (tgt := 150) hx hb dL_texts_125 rfl (fun hc => absurd hc (by decide)) (fun _ => ?_)
  refine lv_aload_n hx hb dL_texts_128 rfl (lv_at hl 0 rfl) ?_
  refine lv_ldc2 (v := 1631401314) hx hb hown (hts _ wl229) dL_texts_129 ?_
  refine lv_lconst (v := 0) hx hb dL_texts_132 rfl ?_
  refine lv_iconst (v := 3) hx hb dL_texts_133 (by decide) ?_
  refine al_cSi (rest := []) C0 hW (c_L_isError (B := [97, 61, 98, 53]) (T1 := [97, 61, 53, 98]) (T2 := [97, 61, 53, 98]) tfk51 tfk52 tfk53 tfk54 tfk55) (ls_isError hts ⟨Nat.le_of_ble_eq_true rfl, Nat.le_of_ble_eq_true rfl⟩) rfl hl.1 rfl (Nat.le_of_ble_eq_true rfl) ⟨Nat.le_of_ble_eq_true rfl, Nat.le_of_ble_eq_true rfl⟩ dL_texts_134 (fun H locs hW => ?_)
  have hW : WA g tgn11 false Z0 s.heap H locs := hW
  refine lv_if_eq (tgt := 150) hx hb dL_texts_137 rfl (fun hc => absurd hc (by decide)) (fun _ => ?_)
  refine lv_aload_n hx hb dL_texts_140 rfl (lv_at hl 0 rfl) ?_
  refine lv_lconst (v := 0) hx hb dL_texts_141 rfl ?_
  refine lv_lconst (v := 0) hx hb dL_texts_142 rfl ?_
  refine lv_iconst (v := 0) hx hb dL_texts_143 (by decide) ?_
  refine al_cSi (rest := []) C0 hW (c_L_isError (B := [97, 61, 53, 98]) (T1 := ([] : List Nat)) (T2 := ([] : List Nat)) tfk56 tfk57 tfk58 tfk59 tfk60) (ls_isError hts ⟨Nat.le_of_ble_eq_true rfl, Nat.le_of_ble_eq_true rfl⟩) rfl hl.1 rfl (Nat.le_of_ble_eq_true rfl) ⟨Nat.le_of_ble_eq_true rfl, Nat.le_of_ble_eq_true rfl⟩ dL_texts_144 (fun H locs hW => ?_)
  have hW : WA g tgn0 false Z0 s.heap H locs := hW
  refine lv_if_ne (tgt := 152) hx hb dL_texts_147 rfl (fun _ => ?_) (fun hc => absurd hc (by decide))
  exact W.widen (Nat.le_of_ble_eq_true rfl) (Nat.le_of_ble_eq_true rfl) (hK H locs ls hW hl)
set_option maxHeartbeats 2000000 in
theorem tx_1 (hfl : l.stackTraces = false) (C0 : CX g p s m args meth c RL cL_texts 2 (some .boolean)) (hl : lv_has ls 2 [(0, .ref (g.2.2.1 + 0))]) (hW : WA g tgn0 false Z0 s.heap H locs) (hK : ∀ (H : Heap) (locs : List Loc) (ls : Array Slot), WA g tgn23 false Z0 s.heap H locs → lv_has ls 2 [(0, .ref (g.2.2.1 + 0))] → W p l e rmL_texts s m args below meth c H locs 70 2145 (MQ below (QB g) args s rmL_texts.cells rmL_texts.slots (AA g)) (F0 m 306 ls [])) : W p l e rmL_texts s m args below meth c H locs 70 2145 (MQ below (QB g) args s rmL_texts.cells rmL_texts.slots (AA g)) (F0 m 152 ls []) := by
  have hx := C0.1; have hb := C0.2.1; have hown := C0.2.2.2.2.1; have hts := C0.2.2.2.2.2.1
  refine lv_aload_n hx hb dL_texts_152 rfl (lv_at hl 0 rfl) ?_
  refine lv_ldc2 (v := 2389266527617694777) hx hb hown (hts _ wl230) dL_texts_153 ?_
  refine lv_ldc2 (v := 176737697124) hx hb hown (hts _ wl231) dL_texts_156 ?_
  refine lv_bipush (v := 13) hx hb dL_texts_159 (by decide) ?_
  refine al_cSi (rest := []) C0 hW (c_L_isError (B := ([] : List Nat)) (T1 := [33, 40, 97, 63, 124, 98, 60, 57]) (T2 := [33, 40, 97, 63, 124, 98, 60, 57, 41, 38, 99, 61, 100]) tfk61 tfk62 tfk63 tfk64 tfk65) (ls_isError hts ⟨Nat.le_of_ble_eq_true rfl, Nat.le_of_ble_eq_true rfl⟩) rfl hl.1 rfl (Nat.le_of_ble_eq_true rfl) ⟨Nat.le_of_ble_eq_true rfl, Nat.le_of_ble_eq_true rfl⟩ dL_texts_161 (fun H locs hW => ?_)
  have hW : WA g tgn12 false Z0 s.heap H locs := hW
  refine lv_if_eq (tgt := 304) hx hb dL_texts_164 rfl (fun hc => absurd hc (by decide)) (fun _ => ?_)
  refine lv_aload_n hx hb dL_texts_167 rfl (lv_at hl 0 rfl) ?_
  refine lv_ldc2 (v := 1631528486) hx hb hown (hts _ wl232) dL_texts_168 ?_
  refine lv_lconst (v := 0) hx hb dL_texts_171 rfl ?_
  refine lv_iconst (v := 3) hx hb dL_texts_172 (by decide) ?_
  refine al_cSi (rest := []) C0 hW (c_L_isError (B := [33, 40, 97, 63, 124, 98, 60, 57, 41, 38, 99, 61, 100]) (T1 := [97, 63, 38, 38]) (T2 := [97, 63, 38, 38]) tfk66 tfk67 tfk68 tfk69 tfk70) (ls_isError hts ⟨Nat.le_of_ble_eq_true rfl, Nat.le_of_ble_eq_true rfl⟩) rfl hl.1 rfl (Nat.le_of_ble_eq_true rfl) ⟨Nat.le_of_ble_eq_true rfl, Nat.le_of_ble_eq_true rfl⟩ dL_texts_173 (fun H locs hW => ?_)
  have hW : WA g tgn13 false Z0 s.heap H locs := hW
  refine lv_if_eq (tgt := 304) hx hb dL_texts_176 rfl (fun hc => absurd hc (by decide)) (fun _ => ?_)
  refine lv_aload_n hx hb dL_texts_179 rfl (lv_at hl 0 rfl) ?_
  refine lv_ldc2 (v := 10281) hx hb hown (hts _ wl233) dL_texts_180 ?_
  refine lv_lconst (v := 0) hx hb dL_texts_183 rfl ?_
  refine lv_iconst (v := 1) hx hb dL_texts_184 (by decide) ?_
  refine al_cSi (rest := []) C0 hW (c_L_isError (B := [97, 63, 38, 38]) (T1 := [40, 41]) (T2 := [40, 41]) tfk71 tfk72 tfk73 tfk74 tfk75) (ls_isError hts ⟨Nat.le_of_ble_eq_true rfl, Nat.le_of_ble_eq_true rfl⟩) rfl hl.1 rfl (Nat.le_of_ble_eq_true rfl) ⟨Nat.le_of_ble_eq_true rfl, Nat.le_of_ble_eq_true rfl⟩ dL_texts_185 (fun H locs hW => ?_)
  have hW : WA g tgn14 false Z0 s.heap H locs := hW
  refine lv_if_eq (tgt := 304) hx hb dL_texts_188 rfl (fun hc => absurd hc (by decide)) (fun _ => ?_)
  refine lv_aload_n hx hb dL_texts_191 rfl (lv_at hl 0 rfl) ?_
  refine lv_ldc2 (v := 11303397175208233) hx hb hown (hts _ wl234) dL_texts_192 ?_
  refine lv_lconst (v := 0) hx hb dL_texts_195 rfl ?_
  refine lv_bipush (v := 7) hx hb dL_texts_196 (by decide) ?_
  refine al_cSi (rest := []) C0 hW (c_L_isError (B := [40, 41]) (T1 := [40, 40, 97, 61, 98, 41, 41]) (T2 := [40, 40, 97, 61, 98, 41, 41]) tfk76 tfk77 tfk78 tfk79 tfk80) (ls_isError hts ⟨Nat.le_of_ble_eq_true rfl, Nat.le_of_ble_eq_true rfl⟩) rfl hl.1 rfl (Nat.le_of_ble_eq_true rfl) ⟨Nat.le_of_ble_eq_true rfl, Nat.le_of_ble_eq_true rfl⟩ dL_texts_198 (fun H locs hW => ?_)
  have hW : WA g tgn15 false Z0 s.heap H locs := hW
  refine lv_if_eq (tgt := 304) hx hb dL_texts_201 rfl (fun hc => absurd hc (by decide)) (fun _ => ?_)
  refine lv_aload_n hx hb dL_texts_204 rfl (lv_at hl 0 rfl) ?_
  refine lv_ldc2 (v := 417638988156) hx hb hown (hts _ wl235) dL_texts_205 ?_
  refine lv_lconst (v := 0) hx hb dL_texts_208 rfl ?_
  refine lv_iconst (v := 5) hx hb dL_texts_209 (by decide) ?_
  refine al_cSi (rest := []) C0 hW (c_L_isError (B := [40, 40, 97, 61, 98, 41, 41]) (T1 := [97, 61, 57, 57, 124]) (T2 := [97, 61, 57, 57, 124]) tfk81 tfk82 tfk83 tfk84 tfk85) (ls_isError hts ⟨Nat.le_of_ble_eq_true rfl, Nat.le_of_ble_eq_true rfl⟩) rfl hl.1 rfl (Nat.le_of_ble_eq_true rfl) ⟨Nat.le_of_ble_eq_true rfl, Nat.le_of_ble_eq_true rfl⟩ dL_texts_210 (fun H locs hW => ?_)
  have hW : WA g tgn16 false Z0 s.heap H locs := hW
  refine lv_if_eq (tgt := 304) hx hb dL_texts_213 rfl (fun hc => absurd hc (by decide)) (fun _ => ?_)
  refine lv_aload_n hx hb dL_texts_216 rfl (lv_at hl 0 rfl) ?_
  refine lv_ldc2 (v := 142294138416) hx hb hown (hts _ wl236) dL_texts_217 ?_
  refine lv_lconst (v := 0) hx hb dL_texts_220 rfl ?_
  refine lv_iconst (v := 5) hx hb dL_texts_221 (by decide) ?_
  refine al_cSi (rest := []) C0 hW (c_L_isError (B := [97, 61, 57, 57, 124]) (T1 := [33, 33, 100, 62, 48]) (T2 := [33, 33, 100, 62, 48]) tfk86 tfk87 tfk88 tfk89 tfk90) (ls_isError hts ⟨Nat.le_of_ble_eq_true rfl, Nat.le_of_ble_eq_true rfl⟩) rfl hl.1 rfl (Nat.le_of_ble_eq_true rfl) ⟨Nat.le_of_ble_eq_true rfl, Nat.le_of_ble_eq_true rfl⟩ dL_texts_222 (fun H locs hW => ?_)
  have hW : WA g tgn17 false Z0 s.heap H locs := hW
  refine lv_if_eq (tgt := 304) hx hb dL_texts_225 rfl (fun hc => absurd hc (by decide)) (fun _ => ?_)
  refine lv_aload_n hx hb dL_texts_228 rfl (lv_at hl 0 rfl) ?_
  refine lv_ldc2 (v := 6373183) hx hb hown (hts _ wl237) dL_texts_229 ?_
  refine lv_lconst (v := 0) hx hb dL_texts_232 rfl ?_
  refine lv_iconst (v := 2) hx hb dL_texts_233 (by decide) ?_
  refine al_cSi (rest := []) C0 hW (c_L_isError (B := [33, 33, 100, 62, 48]) (T1 := [97, 63, 63]) (T2 := [97, 63, 63]) tfk91 tfk92 tfk93 tfk94 tfk95) (ls_isError hts ⟨Nat.le_of_ble_eq_true rfl, Nat.le_of_ble_eq_true rfl⟩) rfl hl.1 rfl (Nat.le_of_ble_eq_true rfl) ⟨Nat.le_of_ble_eq_true rfl, Nat.le_of_ble_eq_true rfl⟩ dL_texts_234 (fun H locs hW => ?_)
  have hW : WA g tgn18 false Z0 s.heap H locs := hW
  refine lv_if_eq (tgt := 304) hx hb dL_texts_237 rfl (fun hc => absurd hc (by decide)) (fun _ => ?_)
  refine lv_aload_n hx hb dL_texts_240 rfl (lv_at hl 0 rfl) ?_
  refine lv_ldc2 (v := 2909676637714852137) hx hb hown (hts _ wl238) dL_texts_241 ?_
  refine lv_lconst (v := 0) hx hb dL_texts_244 rfl ?_
  refine lv_bipush (v := 7) hx hb dL_texts_245 (by decide) ?_
  refine al_cSi (rest := []) C0 hW (c_L_isError (B := [97, 63, 63]) (T1 := [40, 97, 63, 124, 98, 63, 41, 41]) (T2 := [40, 97, 63, 124, 98, 63, 41, 41]) tfk96 tfk97 tfk98 tfk99 tfk100) (ls_isError hts ⟨Nat.le_of_ble_eq_true rfl, Nat.le_of_ble_eq_true rfl⟩) rfl hl.1 rfl (Nat.le_of_ble_eq_true rfl) ⟨Nat.le_of_ble_eq_true rfl, Nat.le_of_ble_eq_true rfl⟩ dL_texts_247 (fun H locs hW => ?_)
  have hW : WA g tgn19 false Z0 s.heap H locs := hW
  refine lv_if_eq (tgt := 304) hx hb dL_texts_250 rfl (fun hc => absurd hc (by decide)) (fun _ => ?_)
  refine lv_aload_n hx hb dL_texts_253 rfl (lv_at hl 0 rfl) ?_
  refine lv_ldc2 (v := 6372709) hx hb hown (hts _ wl239) dL_texts_254 ?_
  refine lv_lconst (v := 0) hx hb dL_texts_257 rfl ?_
  refine lv_iconst (v := 2) hx hb dL_texts_258 (by decide) ?_
  refine al_cSi (rest := []) C0 hW (c_L_isError (B := [40, 97, 63, 124, 98, 63, 41, 41]) (T1 := [97, 61, 101]) (T2 := [97, 61, 101]) tfk101 tfk102 tfk103 tfk104 tfk105) (ls_isError hts ⟨Nat.le_of_ble_eq_true rfl, Nat.le_of_ble_eq_true rfl⟩) rfl hl.1 rfl (Nat.le_of_ble_eq_true rfl) ⟨Nat.le_of_ble_eq_true rfl, Nat.le_of_ble_eq_true rfl⟩ dL_texts_259 (fun H locs hW => ?_)
  have hW : WA g tgn20 false Z0 s.heap H locs := hW
  refine lv_if_eq (tgt := 304) hx hb dL_texts_262 rfl (fun hc => absurd hc (by decide)) (fun _ => ?_)
  refine lv_aload_n hx hb dL_texts_265 rfl (lv_at hl 0 rfl) ?_
  refine lv_ldc2 (v := 1631528481) hx hb hown (hts _ wl240) dL_texts_266 ?_
  refine lv_lconst (v := 0) hx hb dL_texts_269 rfl ?_
  refine lv_iconst (v := 4) hx hb dL_texts_270 (by decide) ?_
  refine al_cSi (rest := []) C0 hW (c_L_isError (B := [97, 61, 101]) (T1 := [97, 63, 38, 33]) (T2 := [97, 63, 38, 33]) tfk106 tfk107 tfk108 tfk109 tfk110) (ls_isError hts ⟨Nat.le_of_ble_eq_true rfl, Nat.le_of_ble_eq_true rfl⟩) rfl hl.1 rfl (Nat.le_of_ble_eq_true rfl) ⟨Nat.le_of_ble_eq_true rfl, Nat.le_of_ble_eq_true rfl⟩ dL_texts_271 (fun H locs hW => ?_)
  have hW : WA g tgn21 false Z0 s.heap H locs := hW
  refine lv_if_eq (tgt := 304) hx hb dL_texts_274 rfl (fun hc => absurd hc (by decide)) (fun _ => ?_)
  refine lv_aload_n hx hb dL_texts_277 rfl (lv_at hl 0 rfl) ?_
  refine lv_ldc2 (v := 8151359) hx hb hown (hts _ wl241) dL_texts_278 ?_
  refine lv_lconst (v := 0) hx hb dL_texts_281 rfl ?_
  refine lv_iconst (v := 0) hx hb dL_texts_282 (by decide) ?_
  refine al_cSi (rest := []) C0 hW (c_L_isError (B := [97, 63, 38, 33]) (T1 := [124, 97, 63]) (T2 := [124, 97, 63]) tfk111 tfk112 tfk113 tfk114 tfk115) (ls_isError hts ⟨Nat.le_of_ble_eq_true rfl, Nat.le_of_ble_eq_true rfl⟩) rfl hl.1 rfl (Nat.le_of_ble_eq_true rfl) ⟨Nat.le_of_ble_eq_true rfl, Nat.le_of_ble_eq_true rfl⟩ dL_texts_283 (fun H locs hW => ?_)
  have hW : WA g tgn22 false Z0 s.heap H locs := hW
  refine lv_if_eq (tgt := 304) hx hb dL_texts_286 rfl (fun hc => absurd hc (by decide)) (fun _ => ?_)
  refine lv_aload_n hx hb dL_texts_289 rfl (lv_at hl 0 rfl) ?_
  refine lv_ldc2 (v := 7006583037294961788) hx hb hown (hts _ wl242) dL_texts_290 ?_
  refine lv_ldc2 (v := 25663) hx hb hown (hts _ wl243) dL_texts_293 ?_
  refine lv_bipush (v := 10) hx hb dL_texts_296 (by decide) ?_
  refine al_cSi (rest := []) C0 hW (c_L_isError (B := [124, 97, 63]) (T1 := [97, 60, 98, 38, 99, 62, 100, 124]) (T2 := [97, 60, 98, 38, 99, 62, 100, 124, 100, 63]) tfk116 tfk117 tfk118 tfk119 tfk120) (ls_isError hts ⟨Nat.le_of_ble_eq_true rfl, Nat.le_of_ble_eq_true rfl⟩) rfl hl.1 rfl (Nat.le_of_ble_eq_true rfl) ⟨Nat.le_of_ble_eq_true rfl, Nat.le_of_ble_eq_true rfl⟩ dL_texts_298 (fun H locs hW => ?_)
  have hW : WA g tgn23 false Z0 s.heap H locs := hW
  refine lv_if_ne (tgt := 306) hx hb dL_texts_301 rfl (fun _ => ?_) (fun hc => absurd hc (by decide))
  exact W.widen (Nat.le_of_ble_eq_true rfl) (Nat.le_of_ble_eq_true rfl) (hK H locs ls hW hl)
set_option maxHeartbeats 2000000 in
theorem tx_2 (hfl : l.stackTraces = false) (C0 : CX g p s m args meth c RL cL_texts 2 (some .boolean)) (hl : lv_has ls 2 [(0, .ref (g.2.2.1 + 0))]) (hW : WA g tgn23 false Z0 s.heap H locs) (hK : ∀ (H : Heap) (locs : List Loc) (ls : Array Slot), WA g tgn32 false Z0 s.heap H locs → lv_has ls 2 [(1, .int 9), (0, .ref (g.2.2.1 + 0))] → W p l e rmL_texts s m args below meth c H locs 70 2145 (MQ below (QB g) args s rmL_texts.cells rmL_texts.slots (AA g)) (F0 m 370 ls [])) : W p l e rmL_texts s m args below meth c H locs 70 2145 (MQ below (QB g) args s rmL_texts.cells rmL_texts.slots (AA g)) (F0 m 306 ls []) := by
  have hx := C0.1; have hb := C0.2.1; have hown := C0.2.2.2.2.1; have hts := C0.2.2.2.2.2.1
  refine lv_aload_n hx hb dL_texts_306 rfl (lv_at hl 0 rfl) ?_
  refine ar_clearBuffer (rest := []) C0 hl.1 hW tfk121 (To_eq tfk122) ⟨Nat.le_of_ble_eq_true rfl, Nat.le_of_ble_eq_true rfl⟩ (Nat.le_of_ble_eq_true rfl) ⟨Nat.le_of_ble_eq_true rfl, Nat.le_of_ble_eq_true rfl⟩ dL_texts_307 (fun H locs hW => ?_)
  refine lv_bipush (v := 10) hx hb dL_texts_310 (by decide) ?_
  refine lv_icmp_ne (tgt := 324) hx hb dL_texts_312 rfl (fun hc => absurd hc (by decide)) (fun _ => ?_)
  refine lv_aload_n hx hb dL_texts_315 rfl (lv_at hl 0 rfl) ?_
  refine lv_bipush (v := 6) hx hb dL_texts_316 (by decide) ?_
  refine ar_count (rest := []) C0 hl.1 hW tfk123 ⟨Nat.le_of_ble_eq_true rfl, Nat.le_of_ble_eq_true rfl⟩ (Nat.le_of_ble_eq_true rfl) ⟨Nat.le_of_ble_eq_true rfl, Nat.le_of_ble_eq_true rfl⟩ dL_texts_318 (fun H locs hW => ?_)
  refine lv_if_eq (tgt := 326) hx hb dL_texts_321 rfl (fun _ => ?_) (fun hc => absurd (by decide) hc)
  refine lv_iconst (v := 0) hx hb dL_texts_326 (by decide) ?_
  refine lv_istore_n (lv' := [(1, .int 0), (0, .ref (g.2.2.1 + 0))]) hx hb dL_texts_327 rfl hl (Nat.le_of_ble_eq_true rfl) rfl (fun ls hl => ?_)
  refine lv_iload_n hx hb dL_texts_328 rfl (lv_at hl 0 rfl) ?_
  refine lv_bipush (v := 60) hx hb dL_texts_329 (by decide) ?_
  refine lv_icmp_ge (tgt := 376) hx hb dL_texts_331 rfl (fun hc => absurd hc (by decide)) (fun _ => ?_)
  refine lv_aload_n hx hb dL_texts_334 rfl (lv_at hl 1 rfl) ?_
  refine lv_iload_n hx hb dL_texts_335 rfl (lv_at hl 0 rfl) ?_
  refine lv_bipush (v := 58) hx hb dL_texts_336 (by decide) ?_
  refine lv_icmp_ge (tgt := 346) hx hb dL_texts_338 rfl (fun hc => absurd hc (by decide)) (fun _ => ?_)
  refine lv_bipush (v := 33) hx hb dL_texts_341 (by decide) ?_
  refine lv_goto (tgt := 359) hx hb dL_texts_343 rfl ?_
  refine ar_append (rest := []) C0 hl.1 hW tfk124 (To_eq tfk125) ⟨Nat.le_of_ble_eq_true rfl, Nat.le_of_ble_eq_true rfl⟩ (Nat.le_of_ble_eq_true rfl) ⟨Nat.le_of_ble_eq_true rfl, Nat.le_of_ble_eq_true rfl⟩ dL_texts_359 (fun H locs hW => ?_)
  refine lv_iload_n hx hb dL_texts_362 rfl (lv_at hl 0 rfl) ?_
  refine lv_iconst (v := 1) hx hb dL_texts_363 (by decide) ?_
  refine lv_iadd hx hb dL_texts_364 ?_
  rw [(by decide : (0 : Int32) + (1 : Int32) = 1)]
  refine lv_icmp_eq (tgt := 370) hx hb dL_texts_365 rfl (fun _ => ?_) (fun hc => absurd (by decide) hc)
  refine lv_iinc (k := 0) (v := 1) (lv' := [(1, .int 1), (0, .ref (g.2.2.1 + 0))]) hx hb dL_texts_370 hl rfl (by decide) (Nat.le_of_ble_eq_true rfl) rfl (fun ls hl => ?_)
  refine lv_goto (tgt := 328) hx hb dL_texts_373 rfl ?_
  refine lv_iload_n hx hb dL_texts_328 rfl (lv_at hl 0 rfl) ?_
  refine lv_bipush (v := 60) hx hb dL_texts_329 (by decide) ?_
  refine lv_icmp_ge (tgt := 376) hx hb dL_texts_331 rfl (fun hc => absurd hc (by decide)) (fun _ => ?_)
  refine lv_aload_n hx hb dL_texts_334 rfl (lv_at hl 1 rfl) ?_
  refine lv_iload_n hx hb dL_texts_335 rfl (lv_at hl 0 rfl) ?_
  refine lv_bipush (v := 58) hx hb dL_texts_336 (by decide) ?_
  refine lv_icmp_ge (tgt := 346) hx hb dL_texts_338 rfl (fun hc => absurd hc (by decide)) (fun _ => ?_)
  refine lv_bipush (v := 33) hx hb dL_texts_341 (by decide) ?_
  refine lv_goto (tgt := 359) hx hb dL_texts_343 rfl ?_
  refine ar_append (rest := []) C0 hl.1 hW tfk126 (To_eq tfk127) ⟨Nat.le_of_ble_eq_true rfl, Nat.le_of_ble_eq_true rfl⟩ (Nat.le_of_ble_eq_true rfl) ⟨Nat.le_of_ble_eq_true rfl, Nat.le_of_ble_eq_true rfl⟩ dL_texts_359 (fun H locs hW => ?_)
  refine lv_iload_n hx hb dL_texts_362 rfl (lv_at hl 0 rfl) ?_
  refine lv_iconst (v := 1) hx hb dL_texts_363 (by decide) ?_
  refine lv_iadd hx hb dL_texts_364 ?_
  rw [(by decide : (1 : Int32) + (1 : Int32) = 2)]
  refine lv_icmp_eq (tgt := 370) hx hb dL_texts_365 rfl (fun _ => ?_) (fun hc => absurd (by decide) hc)
  refine lv_iinc (k := 0) (v := 2) (lv' := [(1, .int 2), (0, .ref (g.2.2.1 + 0))]) hx hb dL_texts_370 hl rfl (by decide) (Nat.le_of_ble_eq_true rfl) rfl (fun ls hl => ?_)
  refine lv_goto (tgt := 328) hx hb dL_texts_373 rfl ?_
  refine lv_iload_n hx hb dL_texts_328 rfl (lv_at hl 0 rfl) ?_
  refine lv_bipush (v := 60) hx hb dL_texts_329 (by decide) ?_
  refine lv_icmp_ge (tgt := 376) hx hb dL_texts_331 rfl (fun hc => absurd hc (by decide)) (fun _ => ?_)
  refine lv_aload_n hx hb dL_texts_334 rfl (lv_at hl 1 rfl) ?_
  refine lv_iload_n hx hb dL_texts_335 rfl (lv_at hl 0 rfl) ?_
  refine lv_bipush (v := 58) hx hb dL_texts_336 (by decide) ?_
  refine lv_icmp_ge (tgt := 346) hx hb dL_texts_338 rfl (fun hc => absurd hc (by decide)) (fun _ => ?_)
  refine lv_bipush (v := 33) hx hb dL_texts_341 (by decide) ?_
  refine lv_goto (tgt := 359) hx hb dL_texts_343 rfl ?_
  refine ar_append (rest := []) C0 hl.1 hW tfk128 (To_eq tfk129) ⟨Nat.le_of_ble_eq_true rfl, Nat.le_of_ble_eq_true rfl⟩ (Nat.le_of_ble_eq_true rfl) ⟨Nat.le_of_ble_eq_true rfl, Nat.le_of_ble_eq_true rfl⟩ dL_texts_359 (fun H locs hW => ?_)
  refine lv_iload_n hx hb dL_texts_362 rfl (lv_at hl 0 rfl) ?_
  refine lv_iconst (v := 1) hx hb dL_texts_363 (by decide) ?_
  refine lv_iadd hx hb dL_texts_364 ?_
  rw [(by decide : (2 : Int32) + (1 : Int32) = 3)]
  refine lv_icmp_eq (tgt := 370) hx hb dL_texts_365 rfl (fun _ => ?_) (fun hc => absurd (by decide) hc)
  refine lv_iinc (k := 0) (v := 3) (lv' := [(1, .int 3), (0, .ref (g.2.2.1 + 0))]) hx hb dL_texts_370 hl rfl (by decide) (Nat.le_of_ble_eq_true rfl) rfl (fun ls hl => ?_)
  refine lv_goto (tgt := 328) hx hb dL_texts_373 rfl ?_
  refine lv_iload_n hx hb dL_texts_328 rfl (lv_at hl 0 rfl) ?_
  refine lv_bipush (v := 60) hx hb dL_texts_329 (by decide) ?_
  refine lv_icmp_ge (tgt := 376) hx hb dL_texts_331 rfl (fun hc => absurd hc (by decide)) (fun _ => ?_)
  refine lv_aload_n hx hb dL_texts_334 rfl (lv_at hl 1 rfl) ?_
  refine lv_iload_n hx hb dL_texts_335 rfl (lv_at hl 0 rfl) ?_
  refine lv_bipush (v := 58) hx hb dL_texts_336 (by decide) ?_
  refine lv_icmp_ge (tgt := 346) hx hb dL_texts_338 rfl (fun hc => absurd hc (by decide)) (fun _ => ?_)
  refine lv_bipush (v := 33) hx hb dL_texts_341 (by decide) ?_
  refine lv_goto (tgt := 359) hx hb dL_texts_343 rfl ?_
  refine ar_append (rest := []) C0 hl.1 hW tfk130 (To_eq tfk131) ⟨Nat.le_of_ble_eq_true rfl, Nat.le_of_ble_eq_true rfl⟩ (Nat.le_of_ble_eq_true rfl) ⟨Nat.le_of_ble_eq_true rfl, Nat.le_of_ble_eq_true rfl⟩ dL_texts_359 (fun H locs hW => ?_)
  refine lv_iload_n hx hb dL_texts_362 rfl (lv_at hl 0 rfl) ?_
  refine lv_iconst (v := 1) hx hb dL_texts_363 (by decide) ?_
  refine lv_iadd hx hb dL_texts_364 ?_
  rw [(by decide : (3 : Int32) + (1 : Int32) = 4)]
  refine lv_icmp_eq (tgt := 370) hx hb dL_texts_365 rfl (fun _ => ?_) (fun hc => absurd (by decide) hc)
  refine lv_iinc (k := 0) (v := 4) (lv' := [(1, .int 4), (0, .ref (g.2.2.1 + 0))]) hx hb dL_texts_370 hl rfl (by decide) (Nat.le_of_ble_eq_true rfl) rfl (fun ls hl => ?_)
  refine lv_goto (tgt := 328) hx hb dL_texts_373 rfl ?_
  refine lv_iload_n hx hb dL_texts_328 rfl (lv_at hl 0 rfl) ?_
  refine lv_bipush (v := 60) hx hb dL_texts_329 (by decide) ?_
  refine lv_icmp_ge (tgt := 376) hx hb dL_texts_331 rfl (fun hc => absurd hc (by decide)) (fun _ => ?_)
  refine lv_aload_n hx hb dL_texts_334 rfl (lv_at hl 1 rfl) ?_
  refine lv_iload_n hx hb dL_texts_335 rfl (lv_at hl 0 rfl) ?_
  refine lv_bipush (v := 58) hx hb dL_texts_336 (by decide) ?_
  refine lv_icmp_ge (tgt := 346) hx hb dL_texts_338 rfl (fun hc => absurd hc (by decide)) (fun _ => ?_)
  refine lv_bipush (v := 33) hx hb dL_texts_341 (by decide) ?_
  refine lv_goto (tgt := 359) hx hb dL_texts_343 rfl ?_
  refine ar_append (rest := []) C0 hl.1 hW tfk132 (To_eq tfk133) ⟨Nat.le_of_ble_eq_true rfl, Nat.le_of_ble_eq_true rfl⟩ (Nat.le_of_ble_eq_true rfl) ⟨Nat.le_of_ble_eq_true rfl, Nat.le_of_ble_eq_true rfl⟩ dL_texts_359 (fun H locs hW => ?_)
  refine lv_iload_n hx hb dL_texts_362 rfl (lv_at hl 0 rfl) ?_
  refine lv_iconst (v := 1) hx hb dL_texts_363 (by decide) ?_
  refine lv_iadd hx hb dL_texts_364 ?_
  rw [(by decide : (4 : Int32) + (1 : Int32) = 5)]
  refine lv_icmp_eq (tgt := 370) hx hb dL_texts_365 rfl (fun _ => ?_) (fun hc => absurd (by decide) hc)
  refine lv_iinc (k := 0) (v := 5) (lv' := [(1, .int 5), (0, .ref (g.2.2.1 + 0))]) hx hb dL_texts_370 hl rfl (by decide) (Nat.le_of_ble_eq_true rfl) rfl (fun ls hl => ?_)
  refine lv_goto (tgt := 328) hx hb dL_texts_373 rfl ?_
  refine lv_iload_n hx hb dL_texts_328 rfl (lv_at hl 0 rfl) ?_
  refine lv_bipush (v := 60) hx hb dL_texts_329 (by decide) ?_
  refine lv_icmp_ge (tgt := 376) hx hb dL_texts_331 rfl (fun hc => absurd hc (by decide)) (fun _ => ?_)
  refine lv_aload_n hx hb dL_texts_334 rfl (lv_at hl 1 rfl) ?_
  refine lv_iload_n hx hb dL_texts_335 rfl (lv_at hl 0 rfl) ?_
  refine lv_bipush (v := 58) hx hb dL_texts_336 (by decide) ?_
  refine lv_icmp_ge (tgt := 346) hx hb dL_texts_338 rfl (fun hc => absurd hc (by decide)) (fun _ => ?_)
  refine lv_bipush (v := 33) hx hb dL_texts_341 (by decide) ?_
  refine lv_goto (tgt := 359) hx hb dL_texts_343 rfl ?_
  refine ar_append (rest := []) C0 hl.1 hW tfk134 (To_eq tfk135) ⟨Nat.le_of_ble_eq_true rfl, Nat.le_of_ble_eq_true rfl⟩ (Nat.le_of_ble_eq_true rfl) ⟨Nat.le_of_ble_eq_true rfl, Nat.le_of_ble_eq_true rfl⟩ dL_texts_359 (fun H locs hW => ?_)
  refine lv_iload_n hx hb dL_texts_362 rfl (lv_at hl 0 rfl) ?_
  refine lv_iconst (v := 1) hx hb dL_texts_363 (by decide) ?_
  refine lv_iadd hx hb dL_texts_364 ?_
  rw [(by decide : (5 : Int32) + (1 : Int32) = 6)]
  refine lv_icmp_eq (tgt := 370) hx hb dL_texts_365 rfl (fun _ => ?_) (fun hc => absurd (by decide) hc)
  refine lv_iinc (k := 0) (v := 6) (lv' := [(1, .int 6), (0, .ref (g.2.2.1 + 0))]) hx hb dL_texts_370 hl rfl (by decide) (Nat.le_of_ble_eq_true rfl) rfl (fun ls hl => ?_)
  refine lv_goto (tgt := 328) hx hb dL_texts_373 rfl ?_
  refine lv_iload_n hx hb dL_texts_328 rfl (lv_at hl 0 rfl) ?_
  refine lv_bipush (v := 60) hx hb dL_texts_329 (by decide) ?_
  refine lv_icmp_ge (tgt := 376) hx hb dL_texts_331 rfl (fun hc => absurd hc (by decide)) (fun _ => ?_)
  refine lv_aload_n hx hb dL_texts_334 rfl (lv_at hl 1 rfl) ?_
  refine lv_iload_n hx hb dL_texts_335 rfl (lv_at hl 0 rfl) ?_
  refine lv_bipush (v := 58) hx hb dL_texts_336 (by decide) ?_
  refine lv_icmp_ge (tgt := 346) hx hb dL_texts_338 rfl (fun hc => absurd hc (by decide)) (fun _ => ?_)
  refine lv_bipush (v := 33) hx hb dL_texts_341 (by decide) ?_
  refine lv_goto (tgt := 359) hx hb dL_texts_343 rfl ?_
  refine ar_append (rest := []) C0 hl.1 hW tfk136 (To_eq tfk137) ⟨Nat.le_of_ble_eq_true rfl, Nat.le_of_ble_eq_true rfl⟩ (Nat.le_of_ble_eq_true rfl) ⟨Nat.le_of_ble_eq_true rfl, Nat.le_of_ble_eq_true rfl⟩ dL_texts_359 (fun H locs hW => ?_)
  refine lv_iload_n hx hb dL_texts_362 rfl (lv_at hl 0 rfl) ?_
  refine lv_iconst (v := 1) hx hb dL_texts_363 (by decide) ?_
  refine lv_iadd hx hb dL_texts_364 ?_
  rw [(by decide : (6 : Int32) + (1 : Int32) = 7)]
  refine lv_icmp_eq (tgt := 370) hx hb dL_texts_365 rfl (fun _ => ?_) (fun hc => absurd (by decide) hc)
  refine lv_iinc (k := 0) (v := 7) (lv' := [(1, .int 7), (0, .ref (g.2.2.1 + 0))]) hx hb dL_texts_370 hl rfl (by decide) (Nat.le_of_ble_eq_true rfl) rfl (fun ls hl => ?_)
  refine lv_goto (tgt := 328) hx hb dL_texts_373 rfl ?_
  refine lv_iload_n hx hb dL_texts_328 rfl (lv_at hl 0 rfl) ?_
  refine lv_bipush (v := 60) hx hb dL_texts_329 (by decide) ?_
  refine lv_icmp_ge (tgt := 376) hx hb dL_texts_331 rfl (fun hc => absurd hc (by decide)) (fun _ => ?_)
  refine lv_aload_n hx hb dL_texts_334 rfl (lv_at hl 1 rfl) ?_
  refine lv_iload_n hx hb dL_texts_335 rfl (lv_at hl 0 rfl) ?_
  refine lv_bipush (v := 58) hx hb dL_texts_336 (by decide) ?_
  refine lv_icmp_ge (tgt := 346) hx hb dL_texts_338 rfl (fun hc => absurd hc (by decide)) (fun _ => ?_)
  refine lv_bipush (v := 33) hx hb dL_texts_341 (by decide) ?_
  refine lv_goto (tgt := 359) hx hb dL_texts_343 rfl ?_
  refine ar_append (rest := []) C0 hl.1 hW tfk138 (To_eq tfk139) ⟨Nat.le_of_ble_eq_true rfl, Nat.le_of_ble_eq_true rfl⟩ (Nat.le_of_ble_eq_true rfl) ⟨Nat.le_of_ble_eq_true rfl, Nat.le_of_ble_eq_true rfl⟩ dL_texts_359 (fun H locs hW => ?_)
  refine lv_iload_n hx hb dL_texts_362 rfl (lv_at hl 0 rfl) ?_
  refine lv_iconst (v := 1) hx hb dL_texts_363 (by decide) ?_
  refine lv_iadd hx hb dL_texts_364 ?_
  rw [(by decide : (7 : Int32) + (1 : Int32) = 8)]
  refine lv_icmp_eq (tgt := 370) hx hb dL_texts_365 rfl (fun _ => ?_) (fun hc => absurd (by decide) hc)
  refine lv_iinc (k := 0) (v := 8) (lv' := [(1, .int 8), (0, .ref (g.2.2.1 + 0))]) hx hb dL_texts_370 hl rfl (by decide) (Nat.le_of_ble_eq_true rfl) rfl (fun ls hl => ?_)
  refine lv_goto (tgt := 328) hx hb dL_texts_373 rfl ?_
  refine lv_iload_n hx hb dL_texts_328 rfl (lv_at hl 0 rfl) ?_
  refine lv_bipush (v := 60) hx hb dL_texts_329 (by decide) ?_
  refine lv_icmp_ge (tgt := 376) hx hb dL_texts_331 rfl (fun hc => absurd hc (by decide)) (fun _ => ?_)
  refine lv_aload_n hx hb dL_texts_334 rfl (lv_at hl 1 rfl) ?_
  refine lv_iload_n hx hb dL_texts_335 rfl (lv_at hl 0 rfl) ?_
  refine lv_bipush (v := 58) hx hb dL_texts_336 (by decide) ?_
  refine lv_icmp_ge (tgt := 346) hx hb dL_texts_338 rfl (fun hc => absurd hc (by decide)) (fun _ => ?_)
  refine lv_bipush (v := 33) hx hb dL_texts_341 (by decide) ?_
  refine lv_goto (tgt := 359) hx hb dL_texts_343 rfl ?_
  refine ar_append (rest := []) C0 hl.1 hW tfk140 (To_eq tfk141) ⟨Nat.le_of_ble_eq_true rfl, Nat.le_of_ble_eq_true rfl⟩ (Nat.le_of_ble_eq_true rfl) ⟨Nat.le_of_ble_eq_true rfl, Nat.le_of_ble_eq_true rfl⟩ dL_texts_359 (fun H locs hW => ?_)
  refine lv_iload_n hx hb dL_texts_362 rfl (lv_at hl 0 rfl) ?_
  refine lv_iconst (v := 1) hx hb dL_texts_363 (by decide) ?_
  refine lv_iadd hx hb dL_texts_364 ?_
  rw [(by decide : (8 : Int32) + (1 : Int32) = 9)]
  refine lv_icmp_eq (tgt := 370) hx hb dL_texts_365 rfl (fun _ => ?_) (fun hc => absurd (by decide) hc)
  refine lv_iinc (k := 0) (v := 9) (lv' := [(1, .int 9), (0, .ref (g.2.2.1 + 0))]) hx hb dL_texts_370 hl rfl (by decide) (Nat.le_of_ble_eq_true rfl) rfl (fun ls hl => ?_)
  refine lv_goto (tgt := 328) hx hb dL_texts_373 rfl ?_
  refine lv_iload_n hx hb dL_texts_328 rfl (lv_at hl 0 rfl) ?_
  refine lv_bipush (v := 60) hx hb dL_texts_329 (by decide) ?_
  refine lv_icmp_ge (tgt := 376) hx hb dL_texts_331 rfl (fun hc => absurd hc (by decide)) (fun _ => ?_)
  refine lv_aload_n hx hb dL_texts_334 rfl (lv_at hl 1 rfl) ?_
  refine lv_iload_n hx hb dL_texts_335 rfl (lv_at hl 0 rfl) ?_
  refine lv_bipush (v := 58) hx hb dL_texts_336 (by decide) ?_
  refine lv_icmp_ge (tgt := 346) hx hb dL_texts_338 rfl (fun hc => absurd hc (by decide)) (fun _ => ?_)
  refine lv_bipush (v := 33) hx hb dL_texts_341 (by decide) ?_
  refine lv_goto (tgt := 359) hx hb dL_texts_343 rfl ?_
  refine ar_append (rest := []) C0 hl.1 hW tfk142 (To_eq tfk143) ⟨Nat.le_of_ble_eq_true rfl, Nat.le_of_ble_eq_true rfl⟩ (Nat.le_of_ble_eq_true rfl) ⟨Nat.le_of_ble_eq_true rfl, Nat.le_of_ble_eq_true rfl⟩ dL_texts_359 (fun H locs hW => ?_)
  refine lv_iload_n hx hb dL_texts_362 rfl (lv_at hl 0 rfl) ?_
  refine lv_iconst (v := 1) hx hb dL_texts_363 (by decide) ?_
  refine lv_iadd hx hb dL_texts_364 ?_
  rw [(by decide : (9 : Int32) + (1 : Int32) = 10)]
  refine lv_icmp_eq (tgt := 370) hx hb dL_texts_365 rfl (fun _ => ?_) (fun hc => absurd (by decide) hc)
  exact W.widen (Nat.le_of_ble_eq_true rfl) (Nat.le_of_ble_eq_true rfl) (hK H locs ls hW hl)
set_option maxHeartbeats 2000000 in
theorem tx_3 (hfl : l.stackTraces = false) (C0 : CX g p s m args meth c RL cL_texts 2 (some .boolean)) (hl : lv_has ls 2 [(1, .int 9), (0, .ref (g.2.2.1 + 0))]) (hW : WA g tgn32 false Z0 s.heap H locs) (hK : ∀ (H : Heap) (locs : List Loc) (ls : Array Slot), WA g tgn44 false Z0 s.heap H locs → lv_has ls 2 [(1, .int 21), (0, .ref (g.2.2.1 + 0))] → W p l e rmL_texts s m args below meth c H locs 70 2145 (MQ below (QB g) args s rmL_texts.cells rmL_texts.slots (AA g)) (F0 m 370 ls [])) : W p l e rmL_texts s m args below meth c H locs 70 2145 (MQ below (QB g) args s rmL_texts.cells rmL_texts.slots (AA g)) (F0 m 370 ls []) := by
  have hx := C0.1; have hb := C0.2.1; have hown := C0.2.2.2.2.1; have hts := C0.2.2.2.2.2.1
  refine lv_iinc (k := 0) (v := 10) (lv' := [(1, .int 10), (0, .ref (g.2.2.1 + 0))]) hx hb dL_texts_370 hl rfl (by decide) (Nat.le_of_ble_eq_true rfl) rfl (fun ls hl => ?_)
  refine lv_goto (tgt := 328) hx hb dL_texts_373 rfl ?_
  refine lv_iload_n hx hb dL_texts_328 rfl (lv_at hl 0 rfl) ?_
  refine lv_bipush (v := 60) hx hb dL_texts_329 (by decide) ?_
  refine lv_icmp_ge (tgt := 376) hx hb dL_texts_331 rfl (fun hc => absurd hc (by decide)) (fun _ => ?_)
  refine lv_aload_n hx hb dL_texts_334 rfl (lv_at hl 1 rfl) ?_
  refine lv_iload_n hx hb dL_texts_335 rfl (lv_at hl 0 rfl) ?_
  refine lv_bipush (v := 58) hx hb dL_texts_336 (by decide) ?_
  refine lv_icmp_ge (tgt := 346) hx hb dL_texts_338 rfl (fun hc => absurd hc (by decide)) (fun _ => ?_)
  refine lv_bipush (v := 33) hx hb dL_texts_341 (by decide) ?_
  refine lv_goto (tgt := 359) hx hb dL_texts_343 rfl ?_
  refine ar_append (rest := []) C0 hl.1 hW tfk144 (To_eq tfk145) ⟨Nat.le_of_ble_eq_true rfl, Nat.le_of_ble_eq_true rfl⟩ (Nat.le_of_ble_eq_true rfl) ⟨Nat.le_of_ble_eq_true rfl, Nat.le_of_ble_eq_true rfl⟩ dL_texts_359 (fun H locs hW => ?_)
  refine lv_iload_n hx hb dL_texts_362 rfl (lv_at hl 0 rfl) ?_
  refine lv_iconst (v := 1) hx hb dL_texts_363 (by decide) ?_
  refine lv_iadd hx hb dL_texts_364 ?_
  rw [(by decide : (10 : Int32) + (1 : Int32) = 11)]
  refine lv_icmp_eq (tgt := 370) hx hb dL_texts_365 rfl (fun _ => ?_) (fun hc => absurd (by decide) hc)
  refine lv_iinc (k := 0) (v := 11) (lv' := [(1, .int 11), (0, .ref (g.2.2.1 + 0))]) hx hb dL_texts_370 hl rfl (by decide) (Nat.le_of_ble_eq_true rfl) rfl (fun ls hl => ?_)
  refine lv_goto (tgt := 328) hx hb dL_texts_373 rfl ?_
  refine lv_iload_n hx hb dL_texts_328 rfl (lv_at hl 0 rfl) ?_
  refine lv_bipush (v := 60) hx hb dL_texts_329 (by decide) ?_
  refine lv_icmp_ge (tgt := 376) hx hb dL_texts_331 rfl (fun hc => absurd hc (by decide)) (fun _ => ?_)
  refine lv_aload_n hx hb dL_texts_334 rfl (lv_at hl 1 rfl) ?_
  refine lv_iload_n hx hb dL_texts_335 rfl (lv_at hl 0 rfl) ?_
  refine lv_bipush (v := 58) hx hb dL_texts_336 (by decide) ?_
  refine lv_icmp_ge (tgt := 346) hx hb dL_texts_338 rfl (fun hc => absurd hc (by decide)) (fun _ => ?_)
  refine lv_bipush (v := 33) hx hb dL_texts_341 (by decide) ?_
  refine lv_goto (tgt := 359) hx hb dL_texts_343 rfl ?_
  refine ar_append (rest := []) C0 hl.1 hW tfk146 (To_eq tfk147) ⟨Nat.le_of_ble_eq_true rfl, Nat.le_of_ble_eq_true rfl⟩ (Nat.le_of_ble_eq_true rfl) ⟨Nat.le_of_ble_eq_true rfl, Nat.le_of_ble_eq_true rfl⟩ dL_texts_359 (fun H locs hW => ?_)
  refine lv_iload_n hx hb dL_texts_362 rfl (lv_at hl 0 rfl) ?_
  refine lv_iconst (v := 1) hx hb dL_texts_363 (by decide) ?_
  refine lv_iadd hx hb dL_texts_364 ?_
  rw [(by decide : (11 : Int32) + (1 : Int32) = 12)]
  refine lv_icmp_eq (tgt := 370) hx hb dL_texts_365 rfl (fun _ => ?_) (fun hc => absurd (by decide) hc)
  refine lv_iinc (k := 0) (v := 12) (lv' := [(1, .int 12), (0, .ref (g.2.2.1 + 0))]) hx hb dL_texts_370 hl rfl (by decide) (Nat.le_of_ble_eq_true rfl) rfl (fun ls hl => ?_)
  refine lv_goto (tgt := 328) hx hb dL_texts_373 rfl ?_
  refine lv_iload_n hx hb dL_texts_328 rfl (lv_at hl 0 rfl) ?_
  refine lv_bipush (v := 60) hx hb dL_texts_329 (by decide) ?_
  refine lv_icmp_ge (tgt := 376) hx hb dL_texts_331 rfl (fun hc => absurd hc (by decide)) (fun _ => ?_)
  refine lv_aload_n hx hb dL_texts_334 rfl (lv_at hl 1 rfl) ?_
  refine lv_iload_n hx hb dL_texts_335 rfl (lv_at hl 0 rfl) ?_
  refine lv_bipush (v := 58) hx hb dL_texts_336 (by decide) ?_
  refine lv_icmp_ge (tgt := 346) hx hb dL_texts_338 rfl (fun hc => absurd hc (by decide)) (fun _ => ?_)
  refine lv_bipush (v := 33) hx hb dL_texts_341 (by decide) ?_
  refine lv_goto (tgt := 359) hx hb dL_texts_343 rfl ?_
  refine ar_append (rest := []) C0 hl.1 hW tfk148 (To_eq tfk149) ⟨Nat.le_of_ble_eq_true rfl, Nat.le_of_ble_eq_true rfl⟩ (Nat.le_of_ble_eq_true rfl) ⟨Nat.le_of_ble_eq_true rfl, Nat.le_of_ble_eq_true rfl⟩ dL_texts_359 (fun H locs hW => ?_)
  refine lv_iload_n hx hb dL_texts_362 rfl (lv_at hl 0 rfl) ?_
  refine lv_iconst (v := 1) hx hb dL_texts_363 (by decide) ?_
  refine lv_iadd hx hb dL_texts_364 ?_
  rw [(by decide : (12 : Int32) + (1 : Int32) = 13)]
  refine lv_icmp_eq (tgt := 370) hx hb dL_texts_365 rfl (fun _ => ?_) (fun hc => absurd (by decide) hc)
  refine lv_iinc (k := 0) (v := 13) (lv' := [(1, .int 13), (0, .ref (g.2.2.1 + 0))]) hx hb dL_texts_370 hl rfl (by decide) (Nat.le_of_ble_eq_true rfl) rfl (fun ls hl => ?_)
  refine lv_goto (tgt := 328) hx hb dL_texts_373 rfl ?_
  refine lv_iload_n hx hb dL_texts_328 rfl (lv_at hl 0 rfl) ?_
  refine lv_bipush (v := 60) hx hb dL_texts_329 (by decide) ?_
  refine lv_icmp_ge (tgt := 376) hx hb dL_texts_331 rfl (fun hc => absurd hc (by decide)) (fun _ => ?_)
  refine lv_aload_n hx hb dL_texts_334 rfl (lv_at hl 1 rfl) ?_
  refine lv_iload_n hx hb dL_texts_335 rfl (lv_at hl 0 rfl) ?_
  refine lv_bipush (v := 58) hx hb dL_texts_336 (by decide) ?_
  refine lv_icmp_ge (tgt := 346) hx hb dL_texts_338 rfl (fun hc => absurd hc (by decide)) (fun _ => ?_)
  refine lv_bipush (v := 33) hx hb dL_texts_341 (by decide) ?_
  refine lv_goto (tgt := 359) hx hb dL_texts_343 rfl ?_
  refine ar_append (rest := []) C0 hl.1 hW tfk150 (To_eq tfk151) ⟨Nat.le_of_ble_eq_true rfl, Nat.le_of_ble_eq_true rfl⟩ (Nat.le_of_ble_eq_true rfl) ⟨Nat.le_of_ble_eq_true rfl, Nat.le_of_ble_eq_true rfl⟩ dL_texts_359 (fun H locs hW => ?_)
  refine lv_iload_n hx hb dL_texts_362 rfl (lv_at hl 0 rfl) ?_
  refine lv_iconst (v := 1) hx hb dL_texts_363 (by decide) ?_
  refine lv_iadd hx hb dL_texts_364 ?_
  rw [(by decide : (13 : Int32) + (1 : Int32) = 14)]
  refine lv_icmp_eq (tgt := 370) hx hb dL_texts_365 rfl (fun _ => ?_) (fun hc => absurd (by decide) hc)
  refine lv_iinc (k := 0) (v := 14) (lv' := [(1, .int 14), (0, .ref (g.2.2.1 + 0))]) hx hb dL_texts_370 hl rfl (by decide) (Nat.le_of_ble_eq_true rfl) rfl (fun ls hl => ?_)
  refine lv_goto (tgt := 328) hx hb dL_texts_373 rfl ?_
  refine lv_iload_n hx hb dL_texts_328 rfl (lv_at hl 0 rfl) ?_
  refine lv_bipush (v := 60) hx hb dL_texts_329 (by decide) ?_
  refine lv_icmp_ge (tgt := 376) hx hb dL_texts_331 rfl (fun hc => absurd hc (by decide)) (fun _ => ?_)
  refine lv_aload_n hx hb dL_texts_334 rfl (lv_at hl 1 rfl) ?_
  refine lv_iload_n hx hb dL_texts_335 rfl (lv_at hl 0 rfl) ?_
  refine lv_bipush (v := 58) hx hb dL_texts_336 (by decide) ?_
  refine lv_icmp_ge (tgt := 346) hx hb dL_texts_338 rfl (fun hc => absurd hc (by decide)) (fun _ => ?_)
  refine lv_bipush (v := 33) hx hb dL_texts_341 (by decide) ?_
  refine lv_goto (tgt := 359) hx hb dL_texts_343 rfl ?_
  refine ar_append (rest := []) C0 hl.1 hW tfk152 (To_eq tfk153) ⟨Nat.le_of_ble_eq_true rfl, Nat.le_of_ble_eq_true rfl⟩ (Nat.le_of_ble_eq_true rfl) ⟨Nat.le_of_ble_eq_true rfl, Nat.le_of_ble_eq_true rfl⟩ dL_texts_359 (fun H locs hW => ?_)
  refine lv_iload_n hx hb dL_texts_362 rfl (lv_at hl 0 rfl) ?_
  refine lv_iconst (v := 1) hx hb dL_texts_363 (by decide) ?_
  refine lv_iadd hx hb dL_texts_364 ?_
  rw [(by decide : (14 : Int32) + (1 : Int32) = 15)]
  refine lv_icmp_eq (tgt := 370) hx hb dL_texts_365 rfl (fun _ => ?_) (fun hc => absurd (by decide) hc)
  refine lv_iinc (k := 0) (v := 15) (lv' := [(1, .int 15), (0, .ref (g.2.2.1 + 0))]) hx hb dL_texts_370 hl rfl (by decide) (Nat.le_of_ble_eq_true rfl) rfl (fun ls hl => ?_)
  refine lv_goto (tgt := 328) hx hb dL_texts_373 rfl ?_
  refine lv_iload_n hx hb dL_texts_328 rfl (lv_at hl 0 rfl) ?_
  refine lv_bipush (v := 60) hx hb dL_texts_329 (by decide) ?_
  refine lv_icmp_ge (tgt := 376) hx hb dL_texts_331 rfl (fun hc => absurd hc (by decide)) (fun _ => ?_)
  refine lv_aload_n hx hb dL_texts_334 rfl (lv_at hl 1 rfl) ?_
  refine lv_iload_n hx hb dL_texts_335 rfl (lv_at hl 0 rfl) ?_
  refine lv_bipush (v := 58) hx hb dL_texts_336 (by decide) ?_
  refine lv_icmp_ge (tgt := 346) hx hb dL_texts_338 rfl (fun hc => absurd hc (by decide)) (fun _ => ?_)
  refine lv_bipush (v := 33) hx hb dL_texts_341 (by decide) ?_
  refine lv_goto (tgt := 359) hx hb dL_texts_343 rfl ?_
  refine ar_append (rest := []) C0 hl.1 hW tfk154 (To_eq tfk155) ⟨Nat.le_of_ble_eq_true rfl, Nat.le_of_ble_eq_true rfl⟩ (Nat.le_of_ble_eq_true rfl) ⟨Nat.le_of_ble_eq_true rfl, Nat.le_of_ble_eq_true rfl⟩ dL_texts_359 (fun H locs hW => ?_)
  refine lv_iload_n hx hb dL_texts_362 rfl (lv_at hl 0 rfl) ?_
  refine lv_iconst (v := 1) hx hb dL_texts_363 (by decide) ?_
  refine lv_iadd hx hb dL_texts_364 ?_
  rw [(by decide : (15 : Int32) + (1 : Int32) = 16)]
  refine lv_icmp_eq (tgt := 370) hx hb dL_texts_365 rfl (fun _ => ?_) (fun hc => absurd (by decide) hc)
  refine lv_iinc (k := 0) (v := 16) (lv' := [(1, .int 16), (0, .ref (g.2.2.1 + 0))]) hx hb dL_texts_370 hl rfl (by decide) (Nat.le_of_ble_eq_true rfl) rfl (fun ls hl => ?_)
  refine lv_goto (tgt := 328) hx hb dL_texts_373 rfl ?_
  refine lv_iload_n hx hb dL_texts_328 rfl (lv_at hl 0 rfl) ?_
  refine lv_bipush (v := 60) hx hb dL_texts_329 (by decide) ?_
  refine lv_icmp_ge (tgt := 376) hx hb dL_texts_331 rfl (fun hc => absurd hc (by decide)) (fun _ => ?_)
  refine lv_aload_n hx hb dL_texts_334 rfl (lv_at hl 1 rfl) ?_
  refine lv_iload_n hx hb dL_texts_335 rfl (lv_at hl 0 rfl) ?_
  refine lv_bipush (v := 58) hx hb dL_texts_336 (by decide) ?_
  refine lv_icmp_ge (tgt := 346) hx hb dL_texts_338 rfl (fun hc => absurd hc (by decide)) (fun _ => ?_)
  refine lv_bipush (v := 33) hx hb dL_texts_341 (by decide) ?_
  refine lv_goto (tgt := 359) hx hb dL_texts_343 rfl ?_
  refine ar_append (rest := []) C0 hl.1 hW tfk156 (To_eq tfk157) ⟨Nat.le_of_ble_eq_true rfl, Nat.le_of_ble_eq_true rfl⟩ (Nat.le_of_ble_eq_true rfl) ⟨Nat.le_of_ble_eq_true rfl, Nat.le_of_ble_eq_true rfl⟩ dL_texts_359 (fun H locs hW => ?_)
  refine lv_iload_n hx hb dL_texts_362 rfl (lv_at hl 0 rfl) ?_
  refine lv_iconst (v := 1) hx hb dL_texts_363 (by decide) ?_
  refine lv_iadd hx hb dL_texts_364 ?_
  rw [(by decide : (16 : Int32) + (1 : Int32) = 17)]
  refine lv_icmp_eq (tgt := 370) hx hb dL_texts_365 rfl (fun _ => ?_) (fun hc => absurd (by decide) hc)
  refine lv_iinc (k := 0) (v := 17) (lv' := [(1, .int 17), (0, .ref (g.2.2.1 + 0))]) hx hb dL_texts_370 hl rfl (by decide) (Nat.le_of_ble_eq_true rfl) rfl (fun ls hl => ?_)
  refine lv_goto (tgt := 328) hx hb dL_texts_373 rfl ?_
  refine lv_iload_n hx hb dL_texts_328 rfl (lv_at hl 0 rfl) ?_
  refine lv_bipush (v := 60) hx hb dL_texts_329 (by decide) ?_
  refine lv_icmp_ge (tgt := 376) hx hb dL_texts_331 rfl (fun hc => absurd hc (by decide)) (fun _ => ?_)
  refine lv_aload_n hx hb dL_texts_334 rfl (lv_at hl 1 rfl) ?_
  refine lv_iload_n hx hb dL_texts_335 rfl (lv_at hl 0 rfl) ?_
  refine lv_bipush (v := 58) hx hb dL_texts_336 (by decide) ?_
  refine lv_icmp_ge (tgt := 346) hx hb dL_texts_338 rfl (fun hc => absurd hc (by decide)) (fun _ => ?_)
  refine lv_bipush (v := 33) hx hb dL_texts_341 (by decide) ?_
  refine lv_goto (tgt := 359) hx hb dL_texts_343 rfl ?_
  refine ar_append (rest := []) C0 hl.1 hW tfk158 (To_eq tfk159) ⟨Nat.le_of_ble_eq_true rfl, Nat.le_of_ble_eq_true rfl⟩ (Nat.le_of_ble_eq_true rfl) ⟨Nat.le_of_ble_eq_true rfl, Nat.le_of_ble_eq_true rfl⟩ dL_texts_359 (fun H locs hW => ?_)
  refine lv_iload_n hx hb dL_texts_362 rfl (lv_at hl 0 rfl) ?_
  refine lv_iconst (v := 1) hx hb dL_texts_363 (by decide) ?_
  refine lv_iadd hx hb dL_texts_364 ?_
  rw [(by decide : (17 : Int32) + (1 : Int32) = 18)]
  refine lv_icmp_eq (tgt := 370) hx hb dL_texts_365 rfl (fun _ => ?_) (fun hc => absurd (by decide) hc)
  refine lv_iinc (k := 0) (v := 18) (lv' := [(1, .int 18), (0, .ref (g.2.2.1 + 0))]) hx hb dL_texts_370 hl rfl (by decide) (Nat.le_of_ble_eq_true rfl) rfl (fun ls hl => ?_)
  refine lv_goto (tgt := 328) hx hb dL_texts_373 rfl ?_
  refine lv_iload_n hx hb dL_texts_328 rfl (lv_at hl 0 rfl) ?_
  refine lv_bipush (v := 60) hx hb dL_texts_329 (by decide) ?_
  refine lv_icmp_ge (tgt := 376) hx hb dL_texts_331 rfl (fun hc => absurd hc (by decide)) (fun _ => ?_)
  refine lv_aload_n hx hb dL_texts_334 rfl (lv_at hl 1 rfl) ?_
  refine lv_iload_n hx hb dL_texts_335 rfl (lv_at hl 0 rfl) ?_
  refine lv_bipush (v := 58) hx hb dL_texts_336 (by decide) ?_
  refine lv_icmp_ge (tgt := 346) hx hb dL_texts_338 rfl (fun hc => absurd hc (by decide)) (fun _ => ?_)
  refine lv_bipush (v := 33) hx hb dL_texts_341 (by decide) ?_
  refine lv_goto (tgt := 359) hx hb dL_texts_343 rfl ?_
  refine ar_append (rest := []) C0 hl.1 hW tfk160 (To_eq tfk161) ⟨Nat.le_of_ble_eq_true rfl, Nat.le_of_ble_eq_true rfl⟩ (Nat.le_of_ble_eq_true rfl) ⟨Nat.le_of_ble_eq_true rfl, Nat.le_of_ble_eq_true rfl⟩ dL_texts_359 (fun H locs hW => ?_)
  refine lv_iload_n hx hb dL_texts_362 rfl (lv_at hl 0 rfl) ?_
  refine lv_iconst (v := 1) hx hb dL_texts_363 (by decide) ?_
  refine lv_iadd hx hb dL_texts_364 ?_
  rw [(by decide : (18 : Int32) + (1 : Int32) = 19)]
  refine lv_icmp_eq (tgt := 370) hx hb dL_texts_365 rfl (fun _ => ?_) (fun hc => absurd (by decide) hc)
  refine lv_iinc (k := 0) (v := 19) (lv' := [(1, .int 19), (0, .ref (g.2.2.1 + 0))]) hx hb dL_texts_370 hl rfl (by decide) (Nat.le_of_ble_eq_true rfl) rfl (fun ls hl => ?_)
  refine lv_goto (tgt := 328) hx hb dL_texts_373 rfl ?_
  refine lv_iload_n hx hb dL_texts_328 rfl (lv_at hl 0 rfl) ?_
  refine lv_bipush (v := 60) hx hb dL_texts_329 (by decide) ?_
  refine lv_icmp_ge (tgt := 376) hx hb dL_texts_331 rfl (fun hc => absurd hc (by decide)) (fun _ => ?_)
  refine lv_aload_n hx hb dL_texts_334 rfl (lv_at hl 1 rfl) ?_
  refine lv_iload_n hx hb dL_texts_335 rfl (lv_at hl 0 rfl) ?_
  refine lv_bipush (v := 58) hx hb dL_texts_336 (by decide) ?_
  refine lv_icmp_ge (tgt := 346) hx hb dL_texts_338 rfl (fun hc => absurd hc (by decide)) (fun _ => ?_)
  refine lv_bipush (v := 33) hx hb dL_texts_341 (by decide) ?_
  refine lv_goto (tgt := 359) hx hb dL_texts_343 rfl ?_
  refine ar_append (rest := []) C0 hl.1 hW tfk162 (To_eq tfk163) ⟨Nat.le_of_ble_eq_true rfl, Nat.le_of_ble_eq_true rfl⟩ (Nat.le_of_ble_eq_true rfl) ⟨Nat.le_of_ble_eq_true rfl, Nat.le_of_ble_eq_true rfl⟩ dL_texts_359 (fun H locs hW => ?_)
  refine lv_iload_n hx hb dL_texts_362 rfl (lv_at hl 0 rfl) ?_
  refine lv_iconst (v := 1) hx hb dL_texts_363 (by decide) ?_
  refine lv_iadd hx hb dL_texts_364 ?_
  rw [(by decide : (19 : Int32) + (1 : Int32) = 20)]
  refine lv_icmp_eq (tgt := 370) hx hb dL_texts_365 rfl (fun _ => ?_) (fun hc => absurd (by decide) hc)
  refine lv_iinc (k := 0) (v := 20) (lv' := [(1, .int 20), (0, .ref (g.2.2.1 + 0))]) hx hb dL_texts_370 hl rfl (by decide) (Nat.le_of_ble_eq_true rfl) rfl (fun ls hl => ?_)
  refine lv_goto (tgt := 328) hx hb dL_texts_373 rfl ?_
  refine lv_iload_n hx hb dL_texts_328 rfl (lv_at hl 0 rfl) ?_
  refine lv_bipush (v := 60) hx hb dL_texts_329 (by decide) ?_
  refine lv_icmp_ge (tgt := 376) hx hb dL_texts_331 rfl (fun hc => absurd hc (by decide)) (fun _ => ?_)
  refine lv_aload_n hx hb dL_texts_334 rfl (lv_at hl 1 rfl) ?_
  refine lv_iload_n hx hb dL_texts_335 rfl (lv_at hl 0 rfl) ?_
  refine lv_bipush (v := 58) hx hb dL_texts_336 (by decide) ?_
  refine lv_icmp_ge (tgt := 346) hx hb dL_texts_338 rfl (fun hc => absurd hc (by decide)) (fun _ => ?_)
  refine lv_bipush (v := 33) hx hb dL_texts_341 (by decide) ?_
  refine lv_goto (tgt := 359) hx hb dL_texts_343 rfl ?_
  refine ar_append (rest := []) C0 hl.1 hW tfk164 (To_eq tfk165) ⟨Nat.le_of_ble_eq_true rfl, Nat.le_of_ble_eq_true rfl⟩ (Nat.le_of_ble_eq_true rfl) ⟨Nat.le_of_ble_eq_true rfl, Nat.le_of_ble_eq_true rfl⟩ dL_texts_359 (fun H locs hW => ?_)
  refine lv_iload_n hx hb dL_texts_362 rfl (lv_at hl 0 rfl) ?_
  refine lv_iconst (v := 1) hx hb dL_texts_363 (by decide) ?_
  refine lv_iadd hx hb dL_texts_364 ?_
  rw [(by decide : (20 : Int32) + (1 : Int32) = 21)]
  refine lv_icmp_eq (tgt := 370) hx hb dL_texts_365 rfl (fun _ => ?_) (fun hc => absurd (by decide) hc)
  refine lv_iinc (k := 0) (v := 21) (lv' := [(1, .int 21), (0, .ref (g.2.2.1 + 0))]) hx hb dL_texts_370 hl rfl (by decide) (Nat.le_of_ble_eq_true rfl) rfl (fun ls hl => ?_)
  refine lv_goto (tgt := 328) hx hb dL_texts_373 rfl ?_
  refine lv_iload_n hx hb dL_texts_328 rfl (lv_at hl 0 rfl) ?_
  refine lv_bipush (v := 60) hx hb dL_texts_329 (by decide) ?_
  refine lv_icmp_ge (tgt := 376) hx hb dL_texts_331 rfl (fun hc => absurd hc (by decide)) (fun _ => ?_)
  refine lv_aload_n hx hb dL_texts_334 rfl (lv_at hl 1 rfl) ?_
  refine lv_iload_n hx hb dL_texts_335 rfl (lv_at hl 0 rfl) ?_
  refine lv_bipush (v := 58) hx hb dL_texts_336 (by decide) ?_
  refine lv_icmp_ge (tgt := 346) hx hb dL_texts_338 rfl (fun hc => absurd hc (by decide)) (fun _ => ?_)
  refine lv_bipush (v := 33) hx hb dL_texts_341 (by decide) ?_
  refine lv_goto (tgt := 359) hx hb dL_texts_343 rfl ?_
  refine ar_append (rest := []) C0 hl.1 hW tfk166 (To_eq tfk167) ⟨Nat.le_of_ble_eq_true rfl, Nat.le_of_ble_eq_true rfl⟩ (Nat.le_of_ble_eq_true rfl) ⟨Nat.le_of_ble_eq_true rfl, Nat.le_of_ble_eq_true rfl⟩ dL_texts_359 (fun H locs hW => ?_)
  refine lv_iload_n hx hb dL_texts_362 rfl (lv_at hl 0 rfl) ?_
  refine lv_iconst (v := 1) hx hb dL_texts_363 (by decide) ?_
  refine lv_iadd hx hb dL_texts_364 ?_
  rw [(by decide : (21 : Int32) + (1 : Int32) = 22)]
  refine lv_icmp_eq (tgt := 370) hx hb dL_texts_365 rfl (fun _ => ?_) (fun hc => absurd (by decide) hc)
  exact W.widen (Nat.le_of_ble_eq_true rfl) (Nat.le_of_ble_eq_true rfl) (hK H locs ls hW hl)
set_option maxHeartbeats 2000000 in
theorem tx_4 (hfl : l.stackTraces = false) (C0 : CX g p s m args meth c RL cL_texts 2 (some .boolean)) (hl : lv_has ls 2 [(1, .int 21), (0, .ref (g.2.2.1 + 0))]) (hW : WA g tgn44 false Z0 s.heap H locs) (hK : ∀ (H : Heap) (locs : List Loc) (ls : Array Slot), WA g tgn56 false Z0 s.heap H locs → lv_has ls 2 [(1, .int 33), (0, .ref (g.2.2.1 + 0))] → W p l e rmL_texts s m args below meth c H locs 70 2145 (MQ below (QB g) args s rmL_texts.cells rmL_texts.slots (AA g)) (F0 m 370 ls [])) : W p l e rmL_texts s m args below meth c H locs 70 2145 (MQ below (QB g) args s rmL_texts.cells rmL_texts.slots (AA g)) (F0 m 370 ls []) := by
  have hx := C0.1; have hb := C0.2.1; have hown := C0.2.2.2.2.1; have hts := C0.2.2.2.2.2.1
  refine lv_iinc (k := 0) (v := 22) (lv' := [(1, .int 22), (0, .ref (g.2.2.1 + 0))]) hx hb dL_texts_370 hl rfl (by decide) (Nat.le_of_ble_eq_true rfl) rfl (fun ls hl => ?_)
  refine lv_goto (tgt := 328) hx hb dL_texts_373 rfl ?_
  refine lv_iload_n hx hb dL_texts_328 rfl (lv_at hl 0 rfl) ?_
  refine lv_bipush (v := 60) hx hb dL_texts_329 (by decide) ?_
  refine lv_icmp_ge (tgt := 376) hx hb dL_texts_331 rfl (fun hc => absurd hc (by decide)) (fun _ => ?_)
  refine lv_aload_n hx hb dL_texts_334 rfl (lv_at hl 1 rfl) ?_
  refine lv_iload_n hx hb dL_texts_335 rfl (lv_at hl 0 rfl) ?_
  refine lv_bipush (v := 58) hx hb dL_texts_336 (by decide) ?_
  refine lv_icmp_ge (tgt := 346) hx hb dL_texts_338 rfl (fun hc => absurd hc (by decide)) (fun _ => ?_)
  refine lv_bipush (v := 33) hx hb dL_texts_341 (by decide) ?_
  refine lv_goto (tgt := 359) hx hb dL_texts_343 rfl ?_
  refine ar_append (rest := []) C0 hl.1 hW tfk168 (To_eq tfk169) ⟨Nat.le_of_ble_eq_true rfl, Nat.le_of_ble_eq_true rfl⟩ (Nat.le_of_ble_eq_true rfl) ⟨Nat.le_of_ble_eq_true rfl, Nat.le_of_ble_eq_true rfl⟩ dL_texts_359 (fun H locs hW => ?_)
  refine lv_iload_n hx hb dL_texts_362 rfl (lv_at hl 0 rfl) ?_
  refine lv_iconst (v := 1) hx hb dL_texts_363 (by decide) ?_
  refine lv_iadd hx hb dL_texts_364 ?_
  rw [(by decide : (22 : Int32) + (1 : Int32) = 23)]
  refine lv_icmp_eq (tgt := 370) hx hb dL_texts_365 rfl (fun _ => ?_) (fun hc => absurd (by decide) hc)
  refine lv_iinc (k := 0) (v := 23) (lv' := [(1, .int 23), (0, .ref (g.2.2.1 + 0))]) hx hb dL_texts_370 hl rfl (by decide) (Nat.le_of_ble_eq_true rfl) rfl (fun ls hl => ?_)
  refine lv_goto (tgt := 328) hx hb dL_texts_373 rfl ?_
  refine lv_iload_n hx hb dL_texts_328 rfl (lv_at hl 0 rfl) ?_
  refine lv_bipush (v := 60) hx hb dL_texts_329 (by decide) ?_
  refine lv_icmp_ge (tgt := 376) hx hb dL_texts_331 rfl (fun hc => absurd hc (by decide)) (fun _ => ?_)
  refine lv_aload_n hx hb dL_texts_334 rfl (lv_at hl 1 rfl) ?_
  refine lv_iload_n hx hb dL_texts_335 rfl (lv_at hl 0 rfl) ?_
  refine lv_bipush (v := 58) hx hb dL_texts_336 (by decide) ?_
  refine lv_icmp_ge (tgt := 346) hx hb dL_texts_338 rfl (fun hc => absurd hc (by decide)) (fun _ => ?_)
  refine lv_bipush (v := 33) hx hb dL_texts_341 (by decide) ?_
  refine lv_goto (tgt := 359) hx hb dL_texts_343 rfl ?_
  refine ar_append (rest := []) C0 hl.1 hW tfk170 (To_eq tfk171) ⟨Nat.le_of_ble_eq_true rfl, Nat.le_of_ble_eq_true rfl⟩ (Nat.le_of_ble_eq_true rfl) ⟨Nat.le_of_ble_eq_true rfl, Nat.le_of_ble_eq_true rfl⟩ dL_texts_359 (fun H locs hW => ?_)
  refine lv_iload_n hx hb dL_texts_362 rfl (lv_at hl 0 rfl) ?_
  refine lv_iconst (v := 1) hx hb dL_texts_363 (by decide) ?_
  refine lv_iadd hx hb dL_texts_364 ?_
  rw [(by decide : (23 : Int32) + (1 : Int32) = 24)]
  refine lv_icmp_eq (tgt := 370) hx hb dL_texts_365 rfl (fun _ => ?_) (fun hc => absurd (by decide) hc)
  refine lv_iinc (k := 0) (v := 24) (lv' := [(1, .int 24), (0, .ref (g.2.2.1 + 0))]) hx hb dL_texts_370 hl rfl (by decide) (Nat.le_of_ble_eq_true rfl) rfl (fun ls hl => ?_)
  refine lv_goto (tgt := 328) hx hb dL_texts_373 rfl ?_
  refine lv_iload_n hx hb dL_texts_328 rfl (lv_at hl 0 rfl) ?_
  refine lv_bipush (v := 60) hx hb dL_texts_329 (by decide) ?_
  refine lv_icmp_ge (tgt := 376) hx hb dL_texts_331 rfl (fun hc => absurd hc (by decide)) (fun _ => ?_)
  refine lv_aload_n hx hb dL_texts_334 rfl (lv_at hl 1 rfl) ?_
  refine lv_iload_n hx hb dL_texts_335 rfl (lv_at hl 0 rfl) ?_
  refine lv_bipush (v := 58) hx hb dL_texts_336 (by decide) ?_
  refine lv_icmp_ge (tgt := 346) hx hb dL_texts_338 rfl (fun hc => absurd hc (by decide)) (fun _ => ?_)
  refine lv_bipush (v := 33) hx hb dL_texts_341 (by decide) ?_
  refine lv_goto (tgt := 359) hx hb dL_texts_343 rfl ?_
  refine ar_append (rest := []) C0 hl.1 hW tfk172 (To_eq tfk173) ⟨Nat.le_of_ble_eq_true rfl, Nat.le_of_ble_eq_true rfl⟩ (Nat.le_of_ble_eq_true rfl) ⟨Nat.le_of_ble_eq_true rfl, Nat.le_of_ble_eq_true rfl⟩ dL_texts_359 (fun H locs hW => ?_)
  refine lv_iload_n hx hb dL_texts_362 rfl (lv_at hl 0 rfl) ?_
  refine lv_iconst (v := 1) hx hb dL_texts_363 (by decide) ?_
  refine lv_iadd hx hb dL_texts_364 ?_
  rw [(by decide : (24 : Int32) + (1 : Int32) = 25)]
  refine lv_icmp_eq (tgt := 370) hx hb dL_texts_365 rfl (fun _ => ?_) (fun hc => absurd (by decide) hc)
  refine lv_iinc (k := 0) (v := 25) (lv' := [(1, .int 25), (0, .ref (g.2.2.1 + 0))]) hx hb dL_texts_370 hl rfl (by decide) (Nat.le_of_ble_eq_true rfl) rfl (fun ls hl => ?_)
  refine lv_goto (tgt := 328) hx hb dL_texts_373 rfl ?_
  refine lv_iload_n hx hb dL_texts_328 rfl (lv_at hl 0 rfl) ?_
  refine lv_bipush (v := 60) hx hb dL_texts_329 (by decide) ?_
  refine lv_icmp_ge (tgt := 376) hx hb dL_texts_331 rfl (fun hc => absurd hc (by decide)) (fun _ => ?_)
  refine lv_aload_n hx hb dL_texts_334 rfl (lv_at hl 1 rfl) ?_
  refine lv_iload_n hx hb dL_texts_335 rfl (lv_at hl 0 rfl) ?_
  refine lv_bipush (v := 58) hx hb dL_texts_336 (by decide) ?_
  refine lv_icmp_ge (tgt := 346) hx hb dL_texts_338 rfl (fun hc => absurd hc (by decide)) (fun _ => ?_)
  refine lv_bipush (v := 33) hx hb dL_texts_341 (by decide) ?_
  refine lv_goto (tgt := 359) hx hb dL_texts_343 rfl ?_
  refine ar_append (rest := []) C0 hl.1 hW tfk174 (To_eq tfk175) ⟨Nat.le_of_ble_eq_true rfl, Nat.le_of_ble_eq_true rfl⟩ (Nat.le_of_ble_eq_true rfl) ⟨Nat.le_of_ble_eq_true rfl, Nat.le_of_ble_eq_true rfl⟩ dL_texts_359 (fun H locs hW => ?_)
  refine lv_iload_n hx hb dL_texts_362 rfl (lv_at hl 0 rfl) ?_
  refine lv_iconst (v := 1) hx hb dL_texts_363 (by decide) ?_
  refine lv_iadd hx hb dL_texts_364 ?_
  rw [(by decide : (25 : Int32) + (1 : Int32) = 26)]
  refine lv_icmp_eq (tgt := 370) hx hb dL_texts_365 rfl (fun _ => ?_) (fun hc => absurd (by decide) hc)
  refine lv_iinc (k := 0) (v := 26) (lv' := [(1, .int 26), (0, .ref (g.2.2.1 + 0))]) hx hb dL_texts_370 hl rfl (by decide) (Nat.le_of_ble_eq_true rfl) rfl (fun ls hl => ?_)
  refine lv_goto (tgt := 328) hx hb dL_texts_373 rfl ?_
  refine lv_iload_n hx hb dL_texts_328 rfl (lv_at hl 0 rfl) ?_
  refine lv_bipush (v := 60) hx hb dL_texts_329 (by decide) ?_
  refine lv_icmp_ge (tgt := 376) hx hb dL_texts_331 rfl (fun hc => absurd hc (by decide)) (fun _ => ?_)
  refine lv_aload_n hx hb dL_texts_334 rfl (lv_at hl 1 rfl) ?_
  refine lv_iload_n hx hb dL_texts_335 rfl (lv_at hl 0 rfl) ?_
  refine lv_bipush (v := 58) hx hb dL_texts_336 (by decide) ?_
  refine lv_icmp_ge (tgt := 346) hx hb dL_texts_338 rfl (fun hc => absurd hc (by decide)) (fun _ => ?_)
  refine lv_bipush (v := 33) hx hb dL_texts_341 (by decide) ?_
  refine lv_goto (tgt := 359) hx hb dL_texts_343 rfl ?_
  refine ar_append (rest := []) C0 hl.1 hW tfk176 (To_eq tfk177) ⟨Nat.le_of_ble_eq_true rfl, Nat.le_of_ble_eq_true rfl⟩ (Nat.le_of_ble_eq_true rfl) ⟨Nat.le_of_ble_eq_true rfl, Nat.le_of_ble_eq_true rfl⟩ dL_texts_359 (fun H locs hW => ?_)
  refine lv_iload_n hx hb dL_texts_362 rfl (lv_at hl 0 rfl) ?_
  refine lv_iconst (v := 1) hx hb dL_texts_363 (by decide) ?_
  refine lv_iadd hx hb dL_texts_364 ?_
  rw [(by decide : (26 : Int32) + (1 : Int32) = 27)]
  refine lv_icmp_eq (tgt := 370) hx hb dL_texts_365 rfl (fun _ => ?_) (fun hc => absurd (by decide) hc)
  refine lv_iinc (k := 0) (v := 27) (lv' := [(1, .int 27), (0, .ref (g.2.2.1 + 0))]) hx hb dL_texts_370 hl rfl (by decide) (Nat.le_of_ble_eq_true rfl) rfl (fun ls hl => ?_)
  refine lv_goto (tgt := 328) hx hb dL_texts_373 rfl ?_
  refine lv_iload_n hx hb dL_texts_328 rfl (lv_at hl 0 rfl) ?_
  refine lv_bipush (v := 60) hx hb dL_texts_329 (by decide) ?_
  refine lv_icmp_ge (tgt := 376) hx hb dL_texts_331 rfl (fun hc => absurd hc (by decide)) (fun _ => ?_)
  refine lv_aload_n hx hb dL_texts_334 rfl (lv_at hl 1 rfl) ?_
  refine lv_iload_n hx hb dL_texts_335 rfl (lv_at hl 0 rfl) ?_
  refine lv_bipush (v := 58) hx hb dL_texts_336 (by decide) ?_
  refine lv_icmp_ge (tgt := 346) hx hb dL_texts_338 rfl (fun hc => absurd hc (by decide)) (fun _ => ?_)
  refine lv_bipush (v := 33) hx hb dL_texts_341 (by decide) ?_
  refine lv_goto (tgt := 359) hx hb dL_texts_343 rfl ?_
  refine ar_append (rest := []) C0 hl.1 hW tfk178 (To_eq tfk179) ⟨Nat.le_of_ble_eq_true rfl, Nat.le_of_ble_eq_true rfl⟩ (Nat.le_of_ble_eq_true rfl) ⟨Nat.le_of_ble_eq_true rfl, Nat.le_of_ble_eq_true rfl⟩ dL_texts_359 (fun H locs hW => ?_)
  refine lv_iload_n hx hb dL_texts_362 rfl (lv_at hl 0 rfl) ?_
  refine lv_iconst (v := 1) hx hb dL_texts_363 (by decide) ?_
  refine lv_iadd hx hb dL_texts_364 ?_
  rw [(by decide : (27 : Int32) + (1 : Int32) = 28)]
  refine lv_icmp_eq (tgt := 370) hx hb dL_texts_365 rfl (fun _ => ?_) (fun hc => absurd (by decide) hc)
  refine lv_iinc (k := 0) (v := 28) (lv' := [(1, .int 28), (0, .ref (g.2.2.1 + 0))]) hx hb dL_texts_370 hl rfl (by decide) (Nat.le_of_ble_eq_true rfl) rfl (fun ls hl => ?_)
  refine lv_goto (tgt := 328) hx hb dL_texts_373 rfl ?_
  refine lv_iload_n hx hb dL_texts_328 rfl (lv_at hl 0 rfl) ?_
  refine lv_bipush (v := 60) hx hb dL_texts_329 (by decide) ?_
  refine lv_icmp_ge (tgt := 376) hx hb dL_texts_331 rfl (fun hc => absurd hc (by decide)) (fun _ => ?_)
  refine lv_aload_n hx hb dL_texts_334 rfl (lv_at hl 1 rfl) ?_
  refine lv_iload_n hx hb dL_texts_335 rfl (lv_at hl 0 rfl) ?_
  refine lv_bipush (v := 58) hx hb dL_texts_336 (by decide) ?_
  refine lv_icmp_ge (tgt := 346) hx hb dL_texts_338 rfl (fun hc => absurd hc (by decide)) (fun _ => ?_)
  refine lv_bipush (v := 33) hx hb dL_texts_341 (by decide) ?_
  refine lv_goto (tgt := 359) hx hb dL_texts_343 rfl ?_
  refine ar_append (rest := []) C0 hl.1 hW tfk180 (To_eq tfk181) ⟨Nat.le_of_ble_eq_true rfl, Nat.le_of_ble_eq_true rfl⟩ (Nat.le_of_ble_eq_true rfl) ⟨Nat.le_of_ble_eq_true rfl, Nat.le_of_ble_eq_true rfl⟩ dL_texts_359 (fun H locs hW => ?_)
  refine lv_iload_n hx hb dL_texts_362 rfl (lv_at hl 0 rfl) ?_
  refine lv_iconst (v := 1) hx hb dL_texts_363 (by decide) ?_
  refine lv_iadd hx hb dL_texts_364 ?_
  rw [(by decide : (28 : Int32) + (1 : Int32) = 29)]
  refine lv_icmp_eq (tgt := 370) hx hb dL_texts_365 rfl (fun _ => ?_) (fun hc => absurd (by decide) hc)
  refine lv_iinc (k := 0) (v := 29) (lv' := [(1, .int 29), (0, .ref (g.2.2.1 + 0))]) hx hb dL_texts_370 hl rfl (by decide) (Nat.le_of_ble_eq_true rfl) rfl (fun ls hl => ?_)
  refine lv_goto (tgt := 328) hx hb dL_texts_373 rfl ?_
  refine lv_iload_n hx hb dL_texts_328 rfl (lv_at hl 0 rfl) ?_
  refine lv_bipush (v := 60) hx hb dL_texts_329 (by decide) ?_
  refine lv_icmp_ge (tgt := 376) hx hb dL_texts_331 rfl (fun hc => absurd hc (by decide)) (fun _ => ?_)
  refine lv_aload_n hx hb dL_texts_334 rfl (lv_at hl 1 rfl) ?_
  refine lv_iload_n hx hb dL_texts_335 rfl (lv_at hl 0 rfl) ?_
  refine lv_bipush (v := 58) hx hb dL_texts_336 (by decide) ?_
  refine lv_icmp_ge (tgt := 346) hx hb dL_texts_338 rfl (fun hc => absurd hc (by decide)) (fun _ => ?_)
  refine lv_bipush (v := 33) hx hb dL_texts_341 (by decide) ?_
  refine lv_goto (tgt := 359) hx hb dL_texts_343 rfl ?_
  refine ar_append (rest := []) C0 hl.1 hW tfk182 (To_eq tfk183) ⟨Nat.le_of_ble_eq_true rfl, Nat.le_of_ble_eq_true rfl⟩ (Nat.le_of_ble_eq_true rfl) ⟨Nat.le_of_ble_eq_true rfl, Nat.le_of_ble_eq_true rfl⟩ dL_texts_359 (fun H locs hW => ?_)
  refine lv_iload_n hx hb dL_texts_362 rfl (lv_at hl 0 rfl) ?_
  refine lv_iconst (v := 1) hx hb dL_texts_363 (by decide) ?_
  refine lv_iadd hx hb dL_texts_364 ?_
  rw [(by decide : (29 : Int32) + (1 : Int32) = 30)]
  refine lv_icmp_eq (tgt := 370) hx hb dL_texts_365 rfl (fun _ => ?_) (fun hc => absurd (by decide) hc)
  refine lv_iinc (k := 0) (v := 30) (lv' := [(1, .int 30), (0, .ref (g.2.2.1 + 0))]) hx hb dL_texts_370 hl rfl (by decide) (Nat.le_of_ble_eq_true rfl) rfl (fun ls hl => ?_)
  refine lv_goto (tgt := 328) hx hb dL_texts_373 rfl ?_
  refine lv_iload_n hx hb dL_texts_328 rfl (lv_at hl 0 rfl) ?_
  refine lv_bipush (v := 60) hx hb dL_texts_329 (by decide) ?_
  refine lv_icmp_ge (tgt := 376) hx hb dL_texts_331 rfl (fun hc => absurd hc (by decide)) (fun _ => ?_)
  refine lv_aload_n hx hb dL_texts_334 rfl (lv_at hl 1 rfl) ?_
  refine lv_iload_n hx hb dL_texts_335 rfl (lv_at hl 0 rfl) ?_
  refine lv_bipush (v := 58) hx hb dL_texts_336 (by decide) ?_
  refine lv_icmp_ge (tgt := 346) hx hb dL_texts_338 rfl (fun hc => absurd hc (by decide)) (fun _ => ?_)
  refine lv_bipush (v := 33) hx hb dL_texts_341 (by decide) ?_
  refine lv_goto (tgt := 359) hx hb dL_texts_343 rfl ?_
  refine ar_append (rest := []) C0 hl.1 hW tfk184 (To_eq tfk185) ⟨Nat.le_of_ble_eq_true rfl, Nat.le_of_ble_eq_true rfl⟩ (Nat.le_of_ble_eq_true rfl) ⟨Nat.le_of_ble_eq_true rfl, Nat.le_of_ble_eq_true rfl⟩ dL_texts_359 (fun H locs hW => ?_)
  refine lv_iload_n hx hb dL_texts_362 rfl (lv_at hl 0 rfl) ?_
  refine lv_iconst (v := 1) hx hb dL_texts_363 (by decide) ?_
  refine lv_iadd hx hb dL_texts_364 ?_
  rw [(by decide : (30 : Int32) + (1 : Int32) = 31)]
  refine lv_icmp_eq (tgt := 370) hx hb dL_texts_365 rfl (fun _ => ?_) (fun hc => absurd (by decide) hc)
  refine lv_iinc (k := 0) (v := 31) (lv' := [(1, .int 31), (0, .ref (g.2.2.1 + 0))]) hx hb dL_texts_370 hl rfl (by decide) (Nat.le_of_ble_eq_true rfl) rfl (fun ls hl => ?_)
  refine lv_goto (tgt := 328) hx hb dL_texts_373 rfl ?_
  refine lv_iload_n hx hb dL_texts_328 rfl (lv_at hl 0 rfl) ?_
  refine lv_bipush (v := 60) hx hb dL_texts_329 (by decide) ?_
  refine lv_icmp_ge (tgt := 376) hx hb dL_texts_331 rfl (fun hc => absurd hc (by decide)) (fun _ => ?_)
  refine lv_aload_n hx hb dL_texts_334 rfl (lv_at hl 1 rfl) ?_
  refine lv_iload_n hx hb dL_texts_335 rfl (lv_at hl 0 rfl) ?_
  refine lv_bipush (v := 58) hx hb dL_texts_336 (by decide) ?_
  refine lv_icmp_ge (tgt := 346) hx hb dL_texts_338 rfl (fun hc => absurd hc (by decide)) (fun _ => ?_)
  refine lv_bipush (v := 33) hx hb dL_texts_341 (by decide) ?_
  refine lv_goto (tgt := 359) hx hb dL_texts_343 rfl ?_
  refine ar_append (rest := []) C0 hl.1 hW tfk186 (To_eq tfk187) ⟨Nat.le_of_ble_eq_true rfl, Nat.le_of_ble_eq_true rfl⟩ (Nat.le_of_ble_eq_true rfl) ⟨Nat.le_of_ble_eq_true rfl, Nat.le_of_ble_eq_true rfl⟩ dL_texts_359 (fun H locs hW => ?_)
  refine lv_iload_n hx hb dL_texts_362 rfl (lv_at hl 0 rfl) ?_
  refine lv_iconst (v := 1) hx hb dL_texts_363 (by decide) ?_
  refine lv_iadd hx hb dL_texts_364 ?_
  rw [(by decide : (31 : Int32) + (1 : Int32) = 32)]
  refine lv_icmp_eq (tgt := 370) hx hb dL_texts_365 rfl (fun _ => ?_) (fun hc => absurd (by decide) hc)
  refine lv_iinc (k := 0) (v := 32) (lv' := [(1, .int 32), (0, .ref (g.2.2.1 + 0))]) hx hb dL_texts_370 hl rfl (by decide) (Nat.le_of_ble_eq_true rfl) rfl (fun ls hl => ?_)
  refine lv_goto (tgt := 328) hx hb dL_texts_373 rfl ?_
  refine lv_iload_n hx hb dL_texts_328 rfl (lv_at hl 0 rfl) ?_
  refine lv_bipush (v := 60) hx hb dL_texts_329 (by decide) ?_
  refine lv_icmp_ge (tgt := 376) hx hb dL_texts_331 rfl (fun hc => absurd hc (by decide)) (fun _ => ?_)
  refine lv_aload_n hx hb dL_texts_334 rfl (lv_at hl 1 rfl) ?_
  refine lv_iload_n hx hb dL_texts_335 rfl (lv_at hl 0 rfl) ?_
  refine lv_bipush (v := 58) hx hb dL_texts_336 (by decide) ?_
  refine lv_icmp_ge (tgt := 346) hx hb dL_texts_338 rfl (fun hc => absurd hc (by decide)) (fun _ => ?_)
  refine lv_bipush (v := 33) hx hb dL_texts_341 (by decide) ?_
  refine lv_goto (tgt := 359) hx hb dL_texts_343 rfl ?_
  refine ar_append (rest := []) C0 hl.1 hW tfk188 (To_eq tfk189) ⟨Nat.le_of_ble_eq_true rfl, Nat.le_of_ble_eq_true rfl⟩ (Nat.le_of_ble_eq_true rfl) ⟨Nat.le_of_ble_eq_true rfl, Nat.le_of_ble_eq_true rfl⟩ dL_texts_359 (fun H locs hW => ?_)
  refine lv_iload_n hx hb dL_texts_362 rfl (lv_at hl 0 rfl) ?_
  refine lv_iconst (v := 1) hx hb dL_texts_363 (by decide) ?_
  refine lv_iadd hx hb dL_texts_364 ?_
  rw [(by decide : (32 : Int32) + (1 : Int32) = 33)]
  refine lv_icmp_eq (tgt := 370) hx hb dL_texts_365 rfl (fun _ => ?_) (fun hc => absurd (by decide) hc)
  refine lv_iinc (k := 0) (v := 33) (lv' := [(1, .int 33), (0, .ref (g.2.2.1 + 0))]) hx hb dL_texts_370 hl rfl (by decide) (Nat.le_of_ble_eq_true rfl) rfl (fun ls hl => ?_)
  refine lv_goto (tgt := 328) hx hb dL_texts_373 rfl ?_
  refine lv_iload_n hx hb dL_texts_328 rfl (lv_at hl 0 rfl) ?_
  refine lv_bipush (v := 60) hx hb dL_texts_329 (by decide) ?_
  refine lv_icmp_ge (tgt := 376) hx hb dL_texts_331 rfl (fun hc => absurd hc (by decide)) (fun _ => ?_)
  refine lv_aload_n hx hb dL_texts_334 rfl (lv_at hl 1 rfl) ?_
  refine lv_iload_n hx hb dL_texts_335 rfl (lv_at hl 0 rfl) ?_
  refine lv_bipush (v := 58) hx hb dL_texts_336 (by decide) ?_
  refine lv_icmp_ge (tgt := 346) hx hb dL_texts_338 rfl (fun hc => absurd hc (by decide)) (fun _ => ?_)
  refine lv_bipush (v := 33) hx hb dL_texts_341 (by decide) ?_
  refine lv_goto (tgt := 359) hx hb dL_texts_343 rfl ?_
  refine ar_append (rest := []) C0 hl.1 hW tfk190 (To_eq tfk191) ⟨Nat.le_of_ble_eq_true rfl, Nat.le_of_ble_eq_true rfl⟩ (Nat.le_of_ble_eq_true rfl) ⟨Nat.le_of_ble_eq_true rfl, Nat.le_of_ble_eq_true rfl⟩ dL_texts_359 (fun H locs hW => ?_)
  refine lv_iload_n hx hb dL_texts_362 rfl (lv_at hl 0 rfl) ?_
  refine lv_iconst (v := 1) hx hb dL_texts_363 (by decide) ?_
  refine lv_iadd hx hb dL_texts_364 ?_
  rw [(by decide : (33 : Int32) + (1 : Int32) = 34)]
  refine lv_icmp_eq (tgt := 370) hx hb dL_texts_365 rfl (fun _ => ?_) (fun hc => absurd (by decide) hc)
  exact W.widen (Nat.le_of_ble_eq_true rfl) (Nat.le_of_ble_eq_true rfl) (hK H locs ls hW hl)
set_option maxHeartbeats 2000000 in
theorem tx_5 (hfl : l.stackTraces = false) (C0 : CX g p s m args meth c RL cL_texts 2 (some .boolean)) (hl : lv_has ls 2 [(1, .int 33), (0, .ref (g.2.2.1 + 0))]) (hW : WA g tgn56 false Z0 s.heap H locs) (hK : ∀ (H : Heap) (locs : List Loc) (ls : Array Slot), WA g tgn68 false Z0 s.heap H locs → lv_has ls 2 [(1, .int 45), (0, .ref (g.2.2.1 + 0))] → W p l e rmL_texts s m args below meth c H locs 70 2145 (MQ below (QB g) args s rmL_texts.cells rmL_texts.slots (AA g)) (F0 m 370 ls [])) : W p l e rmL_texts s m args below meth c H locs 70 2145 (MQ below (QB g) args s rmL_texts.cells rmL_texts.slots (AA g)) (F0 m 370 ls []) := by
  have hx := C0.1; have hb := C0.2.1; have hown := C0.2.2.2.2.1; have hts := C0.2.2.2.2.2.1
  refine lv_iinc (k := 0) (v := 34) (lv' := [(1, .int 34), (0, .ref (g.2.2.1 + 0))]) hx hb dL_texts_370 hl rfl (by decide) (Nat.le_of_ble_eq_true rfl) rfl (fun ls hl => ?_)
  refine lv_goto (tgt := 328) hx hb dL_texts_373 rfl ?_
  refine lv_iload_n hx hb dL_texts_328 rfl (lv_at hl 0 rfl) ?_
  refine lv_bipush (v := 60) hx hb dL_texts_329 (by decide) ?_
  refine lv_icmp_ge (tgt := 376) hx hb dL_texts_331 rfl (fun hc => absurd hc (by decide)) (fun _ => ?_)
  refine lv_aload_n hx hb dL_texts_334 rfl (lv_at hl 1 rfl) ?_
  refine lv_iload_n hx hb dL_texts_335 rfl (lv_at hl 0 rfl) ?_
  refine lv_bipush (v := 58) hx hb dL_texts_336 (by decide) ?_
  refine lv_icmp_ge (tgt := 346) hx hb dL_texts_338 rfl (fun hc => absurd hc (by decide)) (fun _ => ?_)
  refine lv_bipush (v := 33) hx hb dL_texts_341 (by decide) ?_
  refine lv_goto (tgt := 359) hx hb dL_texts_343 rfl ?_
  refine ar_append (rest := []) C0 hl.1 hW tfk192 (To_eq tfk193) ⟨Nat.le_of_ble_eq_true rfl, Nat.le_of_ble_eq_true rfl⟩ (Nat.le_of_ble_eq_true rfl) ⟨Nat.le_of_ble_eq_true rfl, Nat.le_of_ble_eq_true rfl⟩ dL_texts_359 (fun H locs hW => ?_)
  refine lv_iload_n hx hb dL_texts_362 rfl (lv_at hl 0 rfl) ?_
  refine lv_iconst (v := 1) hx hb dL_texts_363 (by decide) ?_
  refine lv_iadd hx hb dL_texts_364 ?_
  rw [(by decide : (34 : Int32) + (1 : Int32) = 35)]
  refine lv_icmp_eq (tgt := 370) hx hb dL_texts_365 rfl (fun _ => ?_) (fun hc => absurd (by decide) hc)
  refine lv_iinc (k := 0) (v := 35) (lv' := [(1, .int 35), (0, .ref (g.2.2.1 + 0))]) hx hb dL_texts_370 hl rfl (by decide) (Nat.le_of_ble_eq_true rfl) rfl (fun ls hl => ?_)
  refine lv_goto (tgt := 328) hx hb dL_texts_373 rfl ?_
  refine lv_iload_n hx hb dL_texts_328 rfl (lv_at hl 0 rfl) ?_
  refine lv_bipush (v := 60) hx hb dL_texts_329 (by decide) ?_
  refine lv_icmp_ge (tgt := 376) hx hb dL_texts_331 rfl (fun hc => absurd hc (by decide)) (fun _ => ?_)
  refine lv_aload_n hx hb dL_texts_334 rfl (lv_at hl 1 rfl) ?_
  refine lv_iload_n hx hb dL_texts_335 rfl (lv_at hl 0 rfl) ?_
  refine lv_bipush (v := 58) hx hb dL_texts_336 (by decide) ?_
  refine lv_icmp_ge (tgt := 346) hx hb dL_texts_338 rfl (fun hc => absurd hc (by decide)) (fun _ => ?_)
  refine lv_bipush (v := 33) hx hb dL_texts_341 (by decide) ?_
  refine lv_goto (tgt := 359) hx hb dL_texts_343 rfl ?_
  refine ar_append (rest := []) C0 hl.1 hW tfk194 (To_eq tfk195) ⟨Nat.le_of_ble_eq_true rfl, Nat.le_of_ble_eq_true rfl⟩ (Nat.le_of_ble_eq_true rfl) ⟨Nat.le_of_ble_eq_true rfl, Nat.le_of_ble_eq_true rfl⟩ dL_texts_359 (fun H locs hW => ?_)
  refine lv_iload_n hx hb dL_texts_362 rfl (lv_at hl 0 rfl) ?_
  refine lv_iconst (v := 1) hx hb dL_texts_363 (by decide) ?_
  refine lv_iadd hx hb dL_texts_364 ?_
  rw [(by decide : (35 : Int32) + (1 : Int32) = 36)]
  refine lv_icmp_eq (tgt := 370) hx hb dL_texts_365 rfl (fun _ => ?_) (fun hc => absurd (by decide) hc)
  refine lv_iinc (k := 0) (v := 36) (lv' := [(1, .int 36), (0, .ref (g.2.2.1 + 0))]) hx hb dL_texts_370 hl rfl (by decide) (Nat.le_of_ble_eq_true rfl) rfl (fun ls hl => ?_)
  refine lv_goto (tgt := 328) hx hb dL_texts_373 rfl ?_
  refine lv_iload_n hx hb dL_texts_328 rfl (lv_at hl 0 rfl) ?_
  refine lv_bipush (v := 60) hx hb dL_texts_329 (by decide) ?_
  refine lv_icmp_ge (tgt := 376) hx hb dL_texts_331 rfl (fun hc => absurd hc (by decide)) (fun _ => ?_)
  refine lv_aload_n hx hb dL_texts_334 rfl (lv_at hl 1 rfl) ?_
  refine lv_iload_n hx hb dL_texts_335 rfl (lv_at hl 0 rfl) ?_
  refine lv_bipush (v := 58) hx hb dL_texts_336 (by decide) ?_
  refine lv_icmp_ge (tgt := 346) hx hb dL_texts_338 rfl (fun hc => absurd hc (by decide)) (fun _ => ?_)
  refine lv_bipush (v := 33) hx hb dL_texts_341 (by decide) ?_
  refine lv_goto (tgt := 359) hx hb dL_texts_343 rfl ?_
  refine ar_append (rest := []) C0 hl.1 hW tfk196 (To_eq tfk197) ⟨Nat.le_of_ble_eq_true rfl, Nat.le_of_ble_eq_true rfl⟩ (Nat.le_of_ble_eq_true rfl) ⟨Nat.le_of_ble_eq_true rfl, Nat.le_of_ble_eq_true rfl⟩ dL_texts_359 (fun H locs hW => ?_)
  refine lv_iload_n hx hb dL_texts_362 rfl (lv_at hl 0 rfl) ?_
  refine lv_iconst (v := 1) hx hb dL_texts_363 (by decide) ?_
  refine lv_iadd hx hb dL_texts_364 ?_
  rw [(by decide : (36 : Int32) + (1 : Int32) = 37)]
  refine lv_icmp_eq (tgt := 370) hx hb dL_texts_365 rfl (fun _ => ?_) (fun hc => absurd (by decide) hc)
  refine lv_iinc (k := 0) (v := 37) (lv' := [(1, .int 37), (0, .ref (g.2.2.1 + 0))]) hx hb dL_texts_370 hl rfl (by decide) (Nat.le_of_ble_eq_true rfl) rfl (fun ls hl => ?_)
  refine lv_goto (tgt := 328) hx hb dL_texts_373 rfl ?_
  refine lv_iload_n hx hb dL_texts_328 rfl (lv_at hl 0 rfl) ?_
  refine lv_bipush (v := 60) hx hb dL_texts_329 (by decide) ?_
  refine lv_icmp_ge (tgt := 376) hx hb dL_texts_331 rfl (fun hc => absurd hc (by decide)) (fun _ => ?_)
  refine lv_aload_n hx hb dL_texts_334 rfl (lv_at hl 1 rfl) ?_
  refine lv_iload_n hx hb dL_texts_335 rfl (lv_at hl 0 rfl) ?_
  refine lv_bipush (v := 58) hx hb dL_texts_336 (by decide) ?_
  refine lv_icmp_ge (tgt := 346) hx hb dL_texts_338 rfl (fun hc => absurd hc (by decide)) (fun _ => ?_)
  refine lv_bipush (v := 33) hx hb dL_texts_341 (by decide) ?_
  refine lv_goto (tgt := 359) hx hb dL_texts_343 rfl ?_
  refine ar_append (rest := []) C0 hl.1 hW tfk198 (To_eq tfk199) ⟨Nat.le_of_ble_eq_true rfl, Nat.le_of_ble_eq_true rfl⟩ (Nat.le_of_ble_eq_true rfl) ⟨Nat.le_of_ble_eq_true rfl, Nat.le_of_ble_eq_true rfl⟩ dL_texts_359 (fun H locs hW => ?_)
  refine lv_iload_n hx hb dL_texts_362 rfl (lv_at hl 0 rfl) ?_
  refine lv_iconst (v := 1) hx hb dL_texts_363 (by decide) ?_
  refine lv_iadd hx hb dL_texts_364 ?_
  rw [(by decide : (37 : Int32) + (1 : Int32) = 38)]
  refine lv_icmp_eq (tgt := 370) hx hb dL_texts_365 rfl (fun _ => ?_) (fun hc => absurd (by decide) hc)
  refine lv_iinc (k := 0) (v := 38) (lv' := [(1, .int 38), (0, .ref (g.2.2.1 + 0))]) hx hb dL_texts_370 hl rfl (by decide) (Nat.le_of_ble_eq_true rfl) rfl (fun ls hl => ?_)
  refine lv_goto (tgt := 328) hx hb dL_texts_373 rfl ?_
  refine lv_iload_n hx hb dL_texts_328 rfl (lv_at hl 0 rfl) ?_
  refine lv_bipush (v := 60) hx hb dL_texts_329 (by decide) ?_
  refine lv_icmp_ge (tgt := 376) hx hb dL_texts_331 rfl (fun hc => absurd hc (by decide)) (fun _ => ?_)
  refine lv_aload_n hx hb dL_texts_334 rfl (lv_at hl 1 rfl) ?_
  refine lv_iload_n hx hb dL_texts_335 rfl (lv_at hl 0 rfl) ?_
  refine lv_bipush (v := 58) hx hb dL_texts_336 (by decide) ?_
  refine lv_icmp_ge (tgt := 346) hx hb dL_texts_338 rfl (fun hc => absurd hc (by decide)) (fun _ => ?_)
  refine lv_bipush (v := 33) hx hb dL_texts_341 (by decide) ?_
  refine lv_goto (tgt := 359) hx hb dL_texts_343 rfl ?_
  refine ar_append (rest := []) C0 hl.1 hW tfk200 (To_eq tfk201) ⟨Nat.le_of_ble_eq_true rfl, Nat.le_of_ble_eq_true rfl⟩ (Nat.le_of_ble_eq_true rfl) ⟨Nat.le_of_ble_eq_true rfl, Nat.le_of_ble_eq_true rfl⟩ dL_texts_359 (fun H locs hW => ?_)
  refine lv_iload_n hx hb dL_texts_362 rfl (lv_at hl 0 rfl) ?_
  refine lv_iconst (v := 1) hx hb dL_texts_363 (by decide) ?_
  refine lv_iadd hx hb dL_texts_364 ?_
  rw [(by decide : (38 : Int32) + (1 : Int32) = 39)]
  refine lv_icmp_eq (tgt := 370) hx hb dL_texts_365 rfl (fun _ => ?_) (fun hc => absurd (by decide) hc)
  refine lv_iinc (k := 0) (v := 39) (lv' := [(1, .int 39), (0, .ref (g.2.2.1 + 0))]) hx hb dL_texts_370 hl rfl (by decide) (Nat.le_of_ble_eq_true rfl) rfl (fun ls hl => ?_)
  refine lv_goto (tgt := 328) hx hb dL_texts_373 rfl ?_
  refine lv_iload_n hx hb dL_texts_328 rfl (lv_at hl 0 rfl) ?_
  refine lv_bipush (v := 60) hx hb dL_texts_329 (by decide) ?_
  refine lv_icmp_ge (tgt := 376) hx hb dL_texts_331 rfl (fun hc => absurd hc (by decide)) (fun _ => ?_)
  refine lv_aload_n hx hb dL_texts_334 rfl (lv_at hl 1 rfl) ?_
  refine lv_iload_n hx hb dL_texts_335 rfl (lv_at hl 0 rfl) ?_
  refine lv_bipush (v := 58) hx hb dL_texts_336 (by decide) ?_
  refine lv_icmp_ge (tgt := 346) hx hb dL_texts_338 rfl (fun hc => absurd hc (by decide)) (fun _ => ?_)
  refine lv_bipush (v := 33) hx hb dL_texts_341 (by decide) ?_
  refine lv_goto (tgt := 359) hx hb dL_texts_343 rfl ?_
  refine ar_append (rest := []) C0 hl.1 hW tfk202 (To_eq tfk203) ⟨Nat.le_of_ble_eq_true rfl, Nat.le_of_ble_eq_true rfl⟩ (Nat.le_of_ble_eq_true rfl) ⟨Nat.le_of_ble_eq_true rfl, Nat.le_of_ble_eq_true rfl⟩ dL_texts_359 (fun H locs hW => ?_)
  refine lv_iload_n hx hb dL_texts_362 rfl (lv_at hl 0 rfl) ?_
  refine lv_iconst (v := 1) hx hb dL_texts_363 (by decide) ?_
  refine lv_iadd hx hb dL_texts_364 ?_
  rw [(by decide : (39 : Int32) + (1 : Int32) = 40)]
  refine lv_icmp_eq (tgt := 370) hx hb dL_texts_365 rfl (fun _ => ?_) (fun hc => absurd (by decide) hc)
  refine lv_iinc (k := 0) (v := 40) (lv' := [(1, .int 40), (0, .ref (g.2.2.1 + 0))]) hx hb dL_texts_370 hl rfl (by decide) (Nat.le_of_ble_eq_true rfl) rfl (fun ls hl => ?_)
  refine lv_goto (tgt := 328) hx hb dL_texts_373 rfl ?_
  refine lv_iload_n hx hb dL_texts_328 rfl (lv_at hl 0 rfl) ?_
  refine lv_bipush (v := 60) hx hb dL_texts_329 (by decide) ?_
  refine lv_icmp_ge (tgt := 376) hx hb dL_texts_331 rfl (fun hc => absurd hc (by decide)) (fun _ => ?_)
  refine lv_aload_n hx hb dL_texts_334 rfl (lv_at hl 1 rfl) ?_
  refine lv_iload_n hx hb dL_texts_335 rfl (lv_at hl 0 rfl) ?_
  refine lv_bipush (v := 58) hx hb dL_texts_336 (by decide) ?_
  refine lv_icmp_ge (tgt := 346) hx hb dL_texts_338 rfl (fun hc => absurd hc (by decide)) (fun _ => ?_)
  refine lv_bipush (v := 33) hx hb dL_texts_341 (by decide) ?_
  refine lv_goto (tgt := 359) hx hb dL_texts_343 rfl ?_
  refine ar_append (rest := []) C0 hl.1 hW tfk204 (To_eq tfk205) ⟨Nat.le_of_ble_eq_true rfl, Nat.le_of_ble_eq_true rfl⟩ (Nat.le_of_ble_eq_true rfl) ⟨Nat.le_of_ble_eq_true rfl, Nat.le_of_ble_eq_true rfl⟩ dL_texts_359 (fun H locs hW => ?_)
  refine lv_iload_n hx hb dL_texts_362 rfl (lv_at hl 0 rfl) ?_
  refine lv_iconst (v := 1) hx hb dL_texts_363 (by decide) ?_
  refine lv_iadd hx hb dL_texts_364 ?_
  rw [(by decide : (40 : Int32) + (1 : Int32) = 41)]
  refine lv_icmp_eq (tgt := 370) hx hb dL_texts_365 rfl (fun _ => ?_) (fun hc => absurd (by decide) hc)
  refine lv_iinc (k := 0) (v := 41) (lv' := [(1, .int 41), (0, .ref (g.2.2.1 + 0))]) hx hb dL_texts_370 hl rfl (by decide) (Nat.le_of_ble_eq_true rfl) rfl (fun ls hl => ?_)
  refine lv_goto (tgt := 328) hx hb dL_texts_373 rfl ?_
  refine lv_iload_n hx hb dL_texts_328 rfl (lv_at hl 0 rfl) ?_
  refine lv_bipush (v := 60) hx hb dL_texts_329 (by decide) ?_
  refine lv_icmp_ge (tgt := 376) hx hb dL_texts_331 rfl (fun hc => absurd hc (by decide)) (fun _ => ?_)
  refine lv_aload_n hx hb dL_texts_334 rfl (lv_at hl 1 rfl) ?_
  refine lv_iload_n hx hb dL_texts_335 rfl (lv_at hl 0 rfl) ?_
  refine lv_bipush (v := 58) hx hb dL_texts_336 (by decide) ?_
  refine lv_icmp_ge (tgt := 346) hx hb dL_texts_338 rfl (fun hc => absurd hc (by decide)) (fun _ => ?_)
  refine lv_bipush (v := 33) hx hb dL_texts_341 (by decide) ?_
  refine lv_goto (tgt := 359) hx hb dL_texts_343 rfl ?_
  refine ar_append (rest := []) C0 hl.1 hW tfk206 (To_eq tfk207) ⟨Nat.le_of_ble_eq_true rfl, Nat.le_of_ble_eq_true rfl⟩ (Nat.le_of_ble_eq_true rfl) ⟨Nat.le_of_ble_eq_true rfl, Nat.le_of_ble_eq_true rfl⟩ dL_texts_359 (fun H locs hW => ?_)
  refine lv_iload_n hx hb dL_texts_362 rfl (lv_at hl 0 rfl) ?_
  refine lv_iconst (v := 1) hx hb dL_texts_363 (by decide) ?_
  refine lv_iadd hx hb dL_texts_364 ?_
  rw [(by decide : (41 : Int32) + (1 : Int32) = 42)]
  refine lv_icmp_eq (tgt := 370) hx hb dL_texts_365 rfl (fun _ => ?_) (fun hc => absurd (by decide) hc)
  refine lv_iinc (k := 0) (v := 42) (lv' := [(1, .int 42), (0, .ref (g.2.2.1 + 0))]) hx hb dL_texts_370 hl rfl (by decide) (Nat.le_of_ble_eq_true rfl) rfl (fun ls hl => ?_)
  refine lv_goto (tgt := 328) hx hb dL_texts_373 rfl ?_
  refine lv_iload_n hx hb dL_texts_328 rfl (lv_at hl 0 rfl) ?_
  refine lv_bipush (v := 60) hx hb dL_texts_329 (by decide) ?_
  refine lv_icmp_ge (tgt := 376) hx hb dL_texts_331 rfl (fun hc => absurd hc (by decide)) (fun _ => ?_)
  refine lv_aload_n hx hb dL_texts_334 rfl (lv_at hl 1 rfl) ?_
  refine lv_iload_n hx hb dL_texts_335 rfl (lv_at hl 0 rfl) ?_
  refine lv_bipush (v := 58) hx hb dL_texts_336 (by decide) ?_
  refine lv_icmp_ge (tgt := 346) hx hb dL_texts_338 rfl (fun hc => absurd hc (by decide)) (fun _ => ?_)
  refine lv_bipush (v := 33) hx hb dL_texts_341 (by decide) ?_
  refine lv_goto (tgt := 359) hx hb dL_texts_343 rfl ?_
  refine ar_append (rest := []) C0 hl.1 hW tfk208 (To_eq tfk209) ⟨Nat.le_of_ble_eq_true rfl, Nat.le_of_ble_eq_true rfl⟩ (Nat.le_of_ble_eq_true rfl) ⟨Nat.le_of_ble_eq_true rfl, Nat.le_of_ble_eq_true rfl⟩ dL_texts_359 (fun H locs hW => ?_)
  refine lv_iload_n hx hb dL_texts_362 rfl (lv_at hl 0 rfl) ?_
  refine lv_iconst (v := 1) hx hb dL_texts_363 (by decide) ?_
  refine lv_iadd hx hb dL_texts_364 ?_
  rw [(by decide : (42 : Int32) + (1 : Int32) = 43)]
  refine lv_icmp_eq (tgt := 370) hx hb dL_texts_365 rfl (fun _ => ?_) (fun hc => absurd (by decide) hc)
  refine lv_iinc (k := 0) (v := 43) (lv' := [(1, .int 43), (0, .ref (g.2.2.1 + 0))]) hx hb dL_texts_370 hl rfl (by decide) (Nat.le_of_ble_eq_true rfl) rfl (fun ls hl => ?_)
  refine lv_goto (tgt := 328) hx hb dL_texts_373 rfl ?_
  refine lv_iload_n hx hb dL_texts_328 rfl (lv_at hl 0 rfl) ?_
  refine lv_bipush (v := 60) hx hb dL_texts_329 (by decide) ?_
  refine lv_icmp_ge (tgt := 376) hx hb dL_texts_331 rfl (fun hc => absurd hc (by decide)) (fun _ => ?_)
  refine lv_aload_n hx hb dL_texts_334 rfl (lv_at hl 1 rfl) ?_
  refine lv_iload_n hx hb dL_texts_335 rfl (lv_at hl 0 rfl) ?_
  refine lv_bipush (v := 58) hx hb dL_texts_336 (by decide) ?_
  refine lv_icmp_ge (tgt := 346) hx hb dL_texts_338 rfl (fun hc => absurd hc (by decide)) (fun _ => ?_)
  refine lv_bipush (v := 33) hx hb dL_texts_341 (by decide) ?_
  refine lv_goto (tgt := 359) hx hb dL_texts_343 rfl ?_
  refine ar_append (rest := []) C0 hl.1 hW tfk210 (To_eq tfk211) ⟨Nat.le_of_ble_eq_true rfl, Nat.le_of_ble_eq_true rfl⟩ (Nat.le_of_ble_eq_true rfl) ⟨Nat.le_of_ble_eq_true rfl, Nat.le_of_ble_eq_true rfl⟩ dL_texts_359 (fun H locs hW => ?_)
  refine lv_iload_n hx hb dL_texts_362 rfl (lv_at hl 0 rfl) ?_
  refine lv_iconst (v := 1) hx hb dL_texts_363 (by decide) ?_
  refine lv_iadd hx hb dL_texts_364 ?_
  rw [(by decide : (43 : Int32) + (1 : Int32) = 44)]
  refine lv_icmp_eq (tgt := 370) hx hb dL_texts_365 rfl (fun _ => ?_) (fun hc => absurd (by decide) hc)
  refine lv_iinc (k := 0) (v := 44) (lv' := [(1, .int 44), (0, .ref (g.2.2.1 + 0))]) hx hb dL_texts_370 hl rfl (by decide) (Nat.le_of_ble_eq_true rfl) rfl (fun ls hl => ?_)
  refine lv_goto (tgt := 328) hx hb dL_texts_373 rfl ?_
  refine lv_iload_n hx hb dL_texts_328 rfl (lv_at hl 0 rfl) ?_
  refine lv_bipush (v := 60) hx hb dL_texts_329 (by decide) ?_
  refine lv_icmp_ge (tgt := 376) hx hb dL_texts_331 rfl (fun hc => absurd hc (by decide)) (fun _ => ?_)
  refine lv_aload_n hx hb dL_texts_334 rfl (lv_at hl 1 rfl) ?_
  refine lv_iload_n hx hb dL_texts_335 rfl (lv_at hl 0 rfl) ?_
  refine lv_bipush (v := 58) hx hb dL_texts_336 (by decide) ?_
  refine lv_icmp_ge (tgt := 346) hx hb dL_texts_338 rfl (fun hc => absurd hc (by decide)) (fun _ => ?_)
  refine lv_bipush (v := 33) hx hb dL_texts_341 (by decide) ?_
  refine lv_goto (tgt := 359) hx hb dL_texts_343 rfl ?_
  refine ar_append (rest := []) C0 hl.1 hW tfk212 (To_eq tfk213) ⟨Nat.le_of_ble_eq_true rfl, Nat.le_of_ble_eq_true rfl⟩ (Nat.le_of_ble_eq_true rfl) ⟨Nat.le_of_ble_eq_true rfl, Nat.le_of_ble_eq_true rfl⟩ dL_texts_359 (fun H locs hW => ?_)
  refine lv_iload_n hx hb dL_texts_362 rfl (lv_at hl 0 rfl) ?_
  refine lv_iconst (v := 1) hx hb dL_texts_363 (by decide) ?_
  refine lv_iadd hx hb dL_texts_364 ?_
  rw [(by decide : (44 : Int32) + (1 : Int32) = 45)]
  refine lv_icmp_eq (tgt := 370) hx hb dL_texts_365 rfl (fun _ => ?_) (fun hc => absurd (by decide) hc)
  refine lv_iinc (k := 0) (v := 45) (lv' := [(1, .int 45), (0, .ref (g.2.2.1 + 0))]) hx hb dL_texts_370 hl rfl (by decide) (Nat.le_of_ble_eq_true rfl) rfl (fun ls hl => ?_)
  refine lv_goto (tgt := 328) hx hb dL_texts_373 rfl ?_
  refine lv_iload_n hx hb dL_texts_328 rfl (lv_at hl 0 rfl) ?_
  refine lv_bipush (v := 60) hx hb dL_texts_329 (by decide) ?_
  refine lv_icmp_ge (tgt := 376) hx hb dL_texts_331 rfl (fun hc => absurd hc (by decide)) (fun _ => ?_)
  refine lv_aload_n hx hb dL_texts_334 rfl (lv_at hl 1 rfl) ?_
  refine lv_iload_n hx hb dL_texts_335 rfl (lv_at hl 0 rfl) ?_
  refine lv_bipush (v := 58) hx hb dL_texts_336 (by decide) ?_
  refine lv_icmp_ge (tgt := 346) hx hb dL_texts_338 rfl (fun hc => absurd hc (by decide)) (fun _ => ?_)
  refine lv_bipush (v := 33) hx hb dL_texts_341 (by decide) ?_
  refine lv_goto (tgt := 359) hx hb dL_texts_343 rfl ?_
  refine ar_append (rest := []) C0 hl.1 hW tfk214 (To_eq tfk215) ⟨Nat.le_of_ble_eq_true rfl, Nat.le_of_ble_eq_true rfl⟩ (Nat.le_of_ble_eq_true rfl) ⟨Nat.le_of_ble_eq_true rfl, Nat.le_of_ble_eq_true rfl⟩ dL_texts_359 (fun H locs hW => ?_)
  refine lv_iload_n hx hb dL_texts_362 rfl (lv_at hl 0 rfl) ?_
  refine lv_iconst (v := 1) hx hb dL_texts_363 (by decide) ?_
  refine lv_iadd hx hb dL_texts_364 ?_
  rw [(by decide : (45 : Int32) + (1 : Int32) = 46)]
  refine lv_icmp_eq (tgt := 370) hx hb dL_texts_365 rfl (fun _ => ?_) (fun hc => absurd (by decide) hc)
  exact W.widen (Nat.le_of_ble_eq_true rfl) (Nat.le_of_ble_eq_true rfl) (hK H locs ls hW hl)
set_option maxHeartbeats 2000000 in
theorem tx_6 (hfl : l.stackTraces = false) (C0 : CX g p s m args meth c RL cL_texts 2 (some .boolean)) (hl : lv_has ls 2 [(1, .int 45), (0, .ref (g.2.2.1 + 0))]) (hW : WA g tgn68 false Z0 s.heap H locs) (hK : ∀ (H : Heap) (locs : List Loc) (ls : Array Slot), WA g tgn80 false Z0 s.heap H locs → lv_has ls 2 [(1, .int 57), (0, .ref (g.2.2.1 + 0))] → W p l e rmL_texts s m args below meth c H locs 70 2145 (MQ below (QB g) args s rmL_texts.cells rmL_texts.slots (AA g)) (F0 m 370 ls [])) : W p l e rmL_texts s m args below meth c H locs 70 2145 (MQ below (QB g) args s rmL_texts.cells rmL_texts.slots (AA g)) (F0 m 370 ls []) := by
  have hx := C0.1; have hb := C0.2.1; have hown := C0.2.2.2.2.1; have hts := C0.2.2.2.2.2.1
  refine lv_iinc (k := 0) (v := 46) (lv' := [(1, .int 46), (0, .ref (g.2.2.1 + 0))]) hx hb dL_texts_370 hl rfl (by decide) (Nat.le_of_ble_eq_true rfl) rfl (fun ls hl => ?_)
  refine lv_goto (tgt := 328) hx hb dL_texts_373 rfl ?_
  refine lv_iload_n hx hb dL_texts_328 rfl (lv_at hl 0 rfl) ?_
  refine lv_bipush (v := 60) hx hb dL_texts_329 (by decide) ?_
  refine lv_icmp_ge (tgt := 376) hx hb dL_texts_331 rfl (fun hc => absurd hc (by decide)) (fun _ => ?_)
  refine lv_aload_n hx hb dL_texts_334 rfl (lv_at hl 1 rfl) ?_
  refine lv_iload_n hx hb dL_texts_335 rfl (lv_at hl 0 rfl) ?_
  refine lv_bipush (v := 58) hx hb dL_texts_336 (by decide) ?_
  refine lv_icmp_ge (tgt := 346) hx hb dL_texts_338 rfl (fun hc => absurd hc (by decide)) (fun _ => ?_)
  refine lv_bipush (v := 33) hx hb dL_texts_341 (by decide) ?_
  refine lv_goto (tgt := 359) hx hb dL_texts_343 rfl ?_
  refine ar_append (rest := []) C0 hl.1 hW tfk216 (To_eq tfk217) ⟨Nat.le_of_ble_eq_true rfl, Nat.le_of_ble_eq_true rfl⟩ (Nat.le_of_ble_eq_true rfl) ⟨Nat.le_of_ble_eq_true rfl, Nat.le_of_ble_eq_true rfl⟩ dL_texts_359 (fun H locs hW => ?_)
  refine lv_iload_n hx hb dL_texts_362 rfl (lv_at hl 0 rfl) ?_
  refine lv_iconst (v := 1) hx hb dL_texts_363 (by decide) ?_
  refine lv_iadd hx hb dL_texts_364 ?_
  rw [(by decide : (46 : Int32) + (1 : Int32) = 47)]
  refine lv_icmp_eq (tgt := 370) hx hb dL_texts_365 rfl (fun _ => ?_) (fun hc => absurd (by decide) hc)
  refine lv_iinc (k := 0) (v := 47) (lv' := [(1, .int 47), (0, .ref (g.2.2.1 + 0))]) hx hb dL_texts_370 hl rfl (by decide) (Nat.le_of_ble_eq_true rfl) rfl (fun ls hl => ?_)
  refine lv_goto (tgt := 328) hx hb dL_texts_373 rfl ?_
  refine lv_iload_n hx hb dL_texts_328 rfl (lv_at hl 0 rfl) ?_
  refine lv_bipush (v := 60) hx hb dL_texts_329 (by decide) ?_
  refine lv_icmp_ge (tgt := 376) hx hb dL_texts_331 rfl (fun hc => absurd hc (by decide)) (fun _ => ?_)
  refine lv_aload_n hx hb dL_texts_334 rfl (lv_at hl 1 rfl) ?_
  refine lv_iload_n hx hb dL_texts_335 rfl (lv_at hl 0 rfl) ?_
  refine lv_bipush (v := 58) hx hb dL_texts_336 (by decide) ?_
  refine lv_icmp_ge (tgt := 346) hx hb dL_texts_338 rfl (fun hc => absurd hc (by decide)) (fun _ => ?_)
  refine lv_bipush (v := 33) hx hb dL_texts_341 (by decide) ?_
  refine lv_goto (tgt := 359) hx hb dL_texts_343 rfl ?_
  refine ar_append (rest := []) C0 hl.1 hW tfk218 (To_eq tfk219) ⟨Nat.le_of_ble_eq_true rfl, Nat.le_of_ble_eq_true rfl⟩ (Nat.le_of_ble_eq_true rfl) ⟨Nat.le_of_ble_eq_true rfl, Nat.le_of_ble_eq_true rfl⟩ dL_texts_359 (fun H locs hW => ?_)
  refine lv_iload_n hx hb dL_texts_362 rfl (lv_at hl 0 rfl) ?_
  refine lv_iconst (v := 1) hx hb dL_texts_363 (by decide) ?_
  refine lv_iadd hx hb dL_texts_364 ?_
  rw [(by decide : (47 : Int32) + (1 : Int32) = 48)]
  refine lv_icmp_eq (tgt := 370) hx hb dL_texts_365 rfl (fun _ => ?_) (fun hc => absurd (by decide) hc)
  refine lv_iinc (k := 0) (v := 48) (lv' := [(1, .int 48), (0, .ref (g.2.2.1 + 0))]) hx hb dL_texts_370 hl rfl (by decide) (Nat.le_of_ble_eq_true rfl) rfl (fun ls hl => ?_)
  refine lv_goto (tgt := 328) hx hb dL_texts_373 rfl ?_
  refine lv_iload_n hx hb dL_texts_328 rfl (lv_at hl 0 rfl) ?_
  refine lv_bipush (v := 60) hx hb dL_texts_329 (by decide) ?_
  refine lv_icmp_ge (tgt := 376) hx hb dL_texts_331 rfl (fun hc => absurd hc (by decide)) (fun _ => ?_)
  refine lv_aload_n hx hb dL_texts_334 rfl (lv_at hl 1 rfl) ?_
  refine lv_iload_n hx hb dL_texts_335 rfl (lv_at hl 0 rfl) ?_
  refine lv_bipush (v := 58) hx hb dL_texts_336 (by decide) ?_
  refine lv_icmp_ge (tgt := 346) hx hb dL_texts_338 rfl (fun hc => absurd hc (by decide)) (fun _ => ?_)
  refine lv_bipush (v := 33) hx hb dL_texts_341 (by decide) ?_
  refine lv_goto (tgt := 359) hx hb dL_texts_343 rfl ?_
  refine ar_append (rest := []) C0 hl.1 hW tfk220 (To_eq tfk221) ⟨Nat.le_of_ble_eq_true rfl, Nat.le_of_ble_eq_true rfl⟩ (Nat.le_of_ble_eq_true rfl) ⟨Nat.le_of_ble_eq_true rfl, Nat.le_of_ble_eq_true rfl⟩ dL_texts_359 (fun H locs hW => ?_)
  refine lv_iload_n hx hb dL_texts_362 rfl (lv_at hl 0 rfl) ?_
  refine lv_iconst (v := 1) hx hb dL_texts_363 (by decide) ?_
  refine lv_iadd hx hb dL_texts_364 ?_
  rw [(by decide : (48 : Int32) + (1 : Int32) = 49)]
  refine lv_icmp_eq (tgt := 370) hx hb dL_texts_365 rfl (fun _ => ?_) (fun hc => absurd (by decide) hc)
  refine lv_iinc (k := 0) (v := 49) (lv' := [(1, .int 49), (0, .ref (g.2.2.1 + 0))]) hx hb dL_texts_370 hl rfl (by decide) (Nat.le_of_ble_eq_true rfl) rfl (fun ls hl => ?_)
  refine lv_goto (tgt := 328) hx hb dL_texts_373 rfl ?_
  refine lv_iload_n hx hb dL_texts_328 rfl (lv_at hl 0 rfl) ?_
  refine lv_bipush (v := 60) hx hb dL_texts_329 (by decide) ?_
  refine lv_icmp_ge (tgt := 376) hx hb dL_texts_331 rfl (fun hc => absurd hc (by decide)) (fun _ => ?_)
  refine lv_aload_n hx hb dL_texts_334 rfl (lv_at hl 1 rfl) ?_
  refine lv_iload_n hx hb dL_texts_335 rfl (lv_at hl 0 rfl) ?_
  refine lv_bipush (v := 58) hx hb dL_texts_336 (by decide) ?_
  refine lv_icmp_ge (tgt := 346) hx hb dL_texts_338 rfl (fun hc => absurd hc (by decide)) (fun _ => ?_)
  refine lv_bipush (v := 33) hx hb dL_texts_341 (by decide) ?_
  refine lv_goto (tgt := 359) hx hb dL_texts_343 rfl ?_
  refine ar_append (rest := []) C0 hl.1 hW tfk222 (To_eq tfk223) ⟨Nat.le_of_ble_eq_true rfl, Nat.le_of_ble_eq_true rfl⟩ (Nat.le_of_ble_eq_true rfl) ⟨Nat.le_of_ble_eq_true rfl, Nat.le_of_ble_eq_true rfl⟩ dL_texts_359 (fun H locs hW => ?_)
  refine lv_iload_n hx hb dL_texts_362 rfl (lv_at hl 0 rfl) ?_
  refine lv_iconst (v := 1) hx hb dL_texts_363 (by decide) ?_
  refine lv_iadd hx hb dL_texts_364 ?_
  rw [(by decide : (49 : Int32) + (1 : Int32) = 50)]
  refine lv_icmp_eq (tgt := 370) hx hb dL_texts_365 rfl (fun _ => ?_) (fun hc => absurd (by decide) hc)
  refine lv_iinc (k := 0) (v := 50) (lv' := [(1, .int 50), (0, .ref (g.2.2.1 + 0))]) hx hb dL_texts_370 hl rfl (by decide) (Nat.le_of_ble_eq_true rfl) rfl (fun ls hl => ?_)
  refine lv_goto (tgt := 328) hx hb dL_texts_373 rfl ?_
  refine lv_iload_n hx hb dL_texts_328 rfl (lv_at hl 0 rfl) ?_
  refine lv_bipush (v := 60) hx hb dL_texts_329 (by decide) ?_
  refine lv_icmp_ge (tgt := 376) hx hb dL_texts_331 rfl (fun hc => absurd hc (by decide)) (fun _ => ?_)
  refine lv_aload_n hx hb dL_texts_334 rfl (lv_at hl 1 rfl) ?_
  refine lv_iload_n hx hb dL_texts_335 rfl (lv_at hl 0 rfl) ?_
  refine lv_bipush (v := 58) hx hb dL_texts_336 (by decide) ?_
  refine lv_icmp_ge (tgt := 346) hx hb dL_texts_338 rfl (fun hc => absurd hc (by decide)) (fun _ => ?_)
  refine lv_bipush (v := 33) hx hb dL_texts_341 (by decide) ?_
  refine lv_goto (tgt := 359) hx hb dL_texts_343 rfl ?_
  refine ar_append (rest := []) C0 hl.1 hW tfk224 (To_eq tfk225) ⟨Nat.le_of_ble_eq_true rfl, Nat.le_of_ble_eq_true rfl⟩ (Nat.le_of_ble_eq_true rfl) ⟨Nat.le_of_ble_eq_true rfl, Nat.le_of_ble_eq_true rfl⟩ dL_texts_359 (fun H locs hW => ?_)
  refine lv_iload_n hx hb dL_texts_362 rfl (lv_at hl 0 rfl) ?_
  refine lv_iconst (v := 1) hx hb dL_texts_363 (by decide) ?_
  refine lv_iadd hx hb dL_texts_364 ?_
  rw [(by decide : (50 : Int32) + (1 : Int32) = 51)]
  refine lv_icmp_eq (tgt := 370) hx hb dL_texts_365 rfl (fun _ => ?_) (fun hc => absurd (by decide) hc)
  refine lv_iinc (k := 0) (v := 51) (lv' := [(1, .int 51), (0, .ref (g.2.2.1 + 0))]) hx hb dL_texts_370 hl rfl (by decide) (Nat.le_of_ble_eq_true rfl) rfl (fun ls hl => ?_)
  refine lv_goto (tgt := 328) hx hb dL_texts_373 rfl ?_
  refine lv_iload_n hx hb dL_texts_328 rfl (lv_at hl 0 rfl) ?_
  refine lv_bipush (v := 60) hx hb dL_texts_329 (by decide) ?_
  refine lv_icmp_ge (tgt := 376) hx hb dL_texts_331 rfl (fun hc => absurd hc (by decide)) (fun _ => ?_)
  refine lv_aload_n hx hb dL_texts_334 rfl (lv_at hl 1 rfl) ?_
  refine lv_iload_n hx hb dL_texts_335 rfl (lv_at hl 0 rfl) ?_
  refine lv_bipush (v := 58) hx hb dL_texts_336 (by decide) ?_
  refine lv_icmp_ge (tgt := 346) hx hb dL_texts_338 rfl (fun hc => absurd hc (by decide)) (fun _ => ?_)
  refine lv_bipush (v := 33) hx hb dL_texts_341 (by decide) ?_
  refine lv_goto (tgt := 359) hx hb dL_texts_343 rfl ?_
  refine ar_append (rest := []) C0 hl.1 hW tfk226 (To_eq tfk227) ⟨Nat.le_of_ble_eq_true rfl, Nat.le_of_ble_eq_true rfl⟩ (Nat.le_of_ble_eq_true rfl) ⟨Nat.le_of_ble_eq_true rfl, Nat.le_of_ble_eq_true rfl⟩ dL_texts_359 (fun H locs hW => ?_)
  refine lv_iload_n hx hb dL_texts_362 rfl (lv_at hl 0 rfl) ?_
  refine lv_iconst (v := 1) hx hb dL_texts_363 (by decide) ?_
  refine lv_iadd hx hb dL_texts_364 ?_
  rw [(by decide : (51 : Int32) + (1 : Int32) = 52)]
  refine lv_icmp_eq (tgt := 370) hx hb dL_texts_365 rfl (fun _ => ?_) (fun hc => absurd (by decide) hc)
  refine lv_iinc (k := 0) (v := 52) (lv' := [(1, .int 52), (0, .ref (g.2.2.1 + 0))]) hx hb dL_texts_370 hl rfl (by decide) (Nat.le_of_ble_eq_true rfl) rfl (fun ls hl => ?_)
  refine lv_goto (tgt := 328) hx hb dL_texts_373 rfl ?_
  refine lv_iload_n hx hb dL_texts_328 rfl (lv_at hl 0 rfl) ?_
  refine lv_bipush (v := 60) hx hb dL_texts_329 (by decide) ?_
  refine lv_icmp_ge (tgt := 376) hx hb dL_texts_331 rfl (fun hc => absurd hc (by decide)) (fun _ => ?_)
  refine lv_aload_n hx hb dL_texts_334 rfl (lv_at hl 1 rfl) ?_
  refine lv_iload_n hx hb dL_texts_335 rfl (lv_at hl 0 rfl) ?_
  refine lv_bipush (v := 58) hx hb dL_texts_336 (by decide) ?_
  refine lv_icmp_ge (tgt := 346) hx hb dL_texts_338 rfl (fun hc => absurd hc (by decide)) (fun _ => ?_)
  refine lv_bipush (v := 33) hx hb dL_texts_341 (by decide) ?_
  refine lv_goto (tgt := 359) hx hb dL_texts_343 rfl ?_
  refine ar_append (rest := []) C0 hl.1 hW tfk228 (To_eq tfk229) ⟨Nat.le_of_ble_eq_true rfl, Nat.le_of_ble_eq_true rfl⟩ (Nat.le_of_ble_eq_true rfl) ⟨Nat.le_of_ble_eq_true rfl, Nat.le_of_ble_eq_true rfl⟩ dL_texts_359 (fun H locs hW => ?_)
  refine lv_iload_n hx hb dL_texts_362 rfl (lv_at hl 0 rfl) ?_
  refine lv_iconst (v := 1) hx hb dL_texts_363 (by decide) ?_
  refine lv_iadd hx hb dL_texts_364 ?_
  rw [(by decide : (52 : Int32) + (1 : Int32) = 53)]
  refine lv_icmp_eq (tgt := 370) hx hb dL_texts_365 rfl (fun _ => ?_) (fun hc => absurd (by decide) hc)
  refine lv_iinc (k := 0) (v := 53) (lv' := [(1, .int 53), (0, .ref (g.2.2.1 + 0))]) hx hb dL_texts_370 hl rfl (by decide) (Nat.le_of_ble_eq_true rfl) rfl (fun ls hl => ?_)
  refine lv_goto (tgt := 328) hx hb dL_texts_373 rfl ?_
  refine lv_iload_n hx hb dL_texts_328 rfl (lv_at hl 0 rfl) ?_
  refine lv_bipush (v := 60) hx hb dL_texts_329 (by decide) ?_
  refine lv_icmp_ge (tgt := 376) hx hb dL_texts_331 rfl (fun hc => absurd hc (by decide)) (fun _ => ?_)
  refine lv_aload_n hx hb dL_texts_334 rfl (lv_at hl 1 rfl) ?_
  refine lv_iload_n hx hb dL_texts_335 rfl (lv_at hl 0 rfl) ?_
  refine lv_bipush (v := 58) hx hb dL_texts_336 (by decide) ?_
  refine lv_icmp_ge (tgt := 346) hx hb dL_texts_338 rfl (fun hc => absurd hc (by decide)) (fun _ => ?_)
  refine lv_bipush (v := 33) hx hb dL_texts_341 (by decide) ?_
  refine lv_goto (tgt := 359) hx hb dL_texts_343 rfl ?_
  refine ar_append (rest := []) C0 hl.1 hW tfk230 (To_eq tfk231) ⟨Nat.le_of_ble_eq_true rfl, Nat.le_of_ble_eq_true rfl⟩ (Nat.le_of_ble_eq_true rfl) ⟨Nat.le_of_ble_eq_true rfl, Nat.le_of_ble_eq_true rfl⟩ dL_texts_359 (fun H locs hW => ?_)
  refine lv_iload_n hx hb dL_texts_362 rfl (lv_at hl 0 rfl) ?_
  refine lv_iconst (v := 1) hx hb dL_texts_363 (by decide) ?_
  refine lv_iadd hx hb dL_texts_364 ?_
  rw [(by decide : (53 : Int32) + (1 : Int32) = 54)]
  refine lv_icmp_eq (tgt := 370) hx hb dL_texts_365 rfl (fun _ => ?_) (fun hc => absurd (by decide) hc)
  refine lv_iinc (k := 0) (v := 54) (lv' := [(1, .int 54), (0, .ref (g.2.2.1 + 0))]) hx hb dL_texts_370 hl rfl (by decide) (Nat.le_of_ble_eq_true rfl) rfl (fun ls hl => ?_)
  refine lv_goto (tgt := 328) hx hb dL_texts_373 rfl ?_
  refine lv_iload_n hx hb dL_texts_328 rfl (lv_at hl 0 rfl) ?_
  refine lv_bipush (v := 60) hx hb dL_texts_329 (by decide) ?_
  refine lv_icmp_ge (tgt := 376) hx hb dL_texts_331 rfl (fun hc => absurd hc (by decide)) (fun _ => ?_)
  refine lv_aload_n hx hb dL_texts_334 rfl (lv_at hl 1 rfl) ?_
  refine lv_iload_n hx hb dL_texts_335 rfl (lv_at hl 0 rfl) ?_
  refine lv_bipush (v := 58) hx hb dL_texts_336 (by decide) ?_
  refine lv_icmp_ge (tgt := 346) hx hb dL_texts_338 rfl (fun hc => absurd hc (by decide)) (fun _ => ?_)
  refine lv_bipush (v := 33) hx hb dL_texts_341 (by decide) ?_
  refine lv_goto (tgt := 359) hx hb dL_texts_343 rfl ?_
  refine ar_append (rest := []) C0 hl.1 hW tfk232 (To_eq tfk233) ⟨Nat.le_of_ble_eq_true rfl, Nat.le_of_ble_eq_true rfl⟩ (Nat.le_of_ble_eq_true rfl) ⟨Nat.le_of_ble_eq_true rfl, Nat.le_of_ble_eq_true rfl⟩ dL_texts_359 (fun H locs hW => ?_)
  refine lv_iload_n hx hb dL_texts_362 rfl (lv_at hl 0 rfl) ?_
  refine lv_iconst (v := 1) hx hb dL_texts_363 (by decide) ?_
  refine lv_iadd hx hb dL_texts_364 ?_
  rw [(by decide : (54 : Int32) + (1 : Int32) = 55)]
  refine lv_icmp_eq (tgt := 370) hx hb dL_texts_365 rfl (fun _ => ?_) (fun hc => absurd (by decide) hc)
  refine lv_iinc (k := 0) (v := 55) (lv' := [(1, .int 55), (0, .ref (g.2.2.1 + 0))]) hx hb dL_texts_370 hl rfl (by decide) (Nat.le_of_ble_eq_true rfl) rfl (fun ls hl => ?_)
  refine lv_goto (tgt := 328) hx hb dL_texts_373 rfl ?_
  refine lv_iload_n hx hb dL_texts_328 rfl (lv_at hl 0 rfl) ?_
  refine lv_bipush (v := 60) hx hb dL_texts_329 (by decide) ?_
  refine lv_icmp_ge (tgt := 376) hx hb dL_texts_331 rfl (fun hc => absurd hc (by decide)) (fun _ => ?_)
  refine lv_aload_n hx hb dL_texts_334 rfl (lv_at hl 1 rfl) ?_
  refine lv_iload_n hx hb dL_texts_335 rfl (lv_at hl 0 rfl) ?_
  refine lv_bipush (v := 58) hx hb dL_texts_336 (by decide) ?_
  refine lv_icmp_ge (tgt := 346) hx hb dL_texts_338 rfl (fun hc => absurd hc (by decide)) (fun _ => ?_)
  refine lv_bipush (v := 33) hx hb dL_texts_341 (by decide) ?_
  refine lv_goto (tgt := 359) hx hb dL_texts_343 rfl ?_
  refine ar_append (rest := []) C0 hl.1 hW tfk234 (To_eq tfk235) ⟨Nat.le_of_ble_eq_true rfl, Nat.le_of_ble_eq_true rfl⟩ (Nat.le_of_ble_eq_true rfl) ⟨Nat.le_of_ble_eq_true rfl, Nat.le_of_ble_eq_true rfl⟩ dL_texts_359 (fun H locs hW => ?_)
  refine lv_iload_n hx hb dL_texts_362 rfl (lv_at hl 0 rfl) ?_
  refine lv_iconst (v := 1) hx hb dL_texts_363 (by decide) ?_
  refine lv_iadd hx hb dL_texts_364 ?_
  rw [(by decide : (55 : Int32) + (1 : Int32) = 56)]
  refine lv_icmp_eq (tgt := 370) hx hb dL_texts_365 rfl (fun _ => ?_) (fun hc => absurd (by decide) hc)
  refine lv_iinc (k := 0) (v := 56) (lv' := [(1, .int 56), (0, .ref (g.2.2.1 + 0))]) hx hb dL_texts_370 hl rfl (by decide) (Nat.le_of_ble_eq_true rfl) rfl (fun ls hl => ?_)
  refine lv_goto (tgt := 328) hx hb dL_texts_373 rfl ?_
  refine lv_iload_n hx hb dL_texts_328 rfl (lv_at hl 0 rfl) ?_
  refine lv_bipush (v := 60) hx hb dL_texts_329 (by decide) ?_
  refine lv_icmp_ge (tgt := 376) hx hb dL_texts_331 rfl (fun hc => absurd hc (by decide)) (fun _ => ?_)
  refine lv_aload_n hx hb dL_texts_334 rfl (lv_at hl 1 rfl) ?_
  refine lv_iload_n hx hb dL_texts_335 rfl (lv_at hl 0 rfl) ?_
  refine lv_bipush (v := 58) hx hb dL_texts_336 (by decide) ?_
  refine lv_icmp_ge (tgt := 346) hx hb dL_texts_338 rfl (fun hc => absurd hc (by decide)) (fun _ => ?_)
  refine lv_bipush (v := 33) hx hb dL_texts_341 (by decide) ?_
  refine lv_goto (tgt := 359) hx hb dL_texts_343 rfl ?_
  refine ar_append (rest := []) C0 hl.1 hW tfk236 (To_eq tfk237) ⟨Nat.le_of_ble_eq_true rfl, Nat.le_of_ble_eq_true rfl⟩ (Nat.le_of_ble_eq_true rfl) ⟨Nat.le_of_ble_eq_true rfl, Nat.le_of_ble_eq_true rfl⟩ dL_texts_359 (fun H locs hW => ?_)
  refine lv_iload_n hx hb dL_texts_362 rfl (lv_at hl 0 rfl) ?_
  refine lv_iconst (v := 1) hx hb dL_texts_363 (by decide) ?_
  refine lv_iadd hx hb dL_texts_364 ?_
  rw [(by decide : (56 : Int32) + (1 : Int32) = 57)]
  refine lv_icmp_eq (tgt := 370) hx hb dL_texts_365 rfl (fun _ => ?_) (fun hc => absurd (by decide) hc)
  refine lv_iinc (k := 0) (v := 57) (lv' := [(1, .int 57), (0, .ref (g.2.2.1 + 0))]) hx hb dL_texts_370 hl rfl (by decide) (Nat.le_of_ble_eq_true rfl) rfl (fun ls hl => ?_)
  refine lv_goto (tgt := 328) hx hb dL_texts_373 rfl ?_
  refine lv_iload_n hx hb dL_texts_328 rfl (lv_at hl 0 rfl) ?_
  refine lv_bipush (v := 60) hx hb dL_texts_329 (by decide) ?_
  refine lv_icmp_ge (tgt := 376) hx hb dL_texts_331 rfl (fun hc => absurd hc (by decide)) (fun _ => ?_)
  refine lv_aload_n hx hb dL_texts_334 rfl (lv_at hl 1 rfl) ?_
  refine lv_iload_n hx hb dL_texts_335 rfl (lv_at hl 0 rfl) ?_
  refine lv_bipush (v := 58) hx hb dL_texts_336 (by decide) ?_
  refine lv_icmp_ge (tgt := 346) hx hb dL_texts_338 rfl (fun hc => absurd hc (by decide)) (fun _ => ?_)
  refine lv_bipush (v := 33) hx hb dL_texts_341 (by decide) ?_
  refine lv_goto (tgt := 359) hx hb dL_texts_343 rfl ?_
  refine ar_append (rest := []) C0 hl.1 hW tfk238 (To_eq tfk239) ⟨Nat.le_of_ble_eq_true rfl, Nat.le_of_ble_eq_true rfl⟩ (Nat.le_of_ble_eq_true rfl) ⟨Nat.le_of_ble_eq_true rfl, Nat.le_of_ble_eq_true rfl⟩ dL_texts_359 (fun H locs hW => ?_)
  refine lv_iload_n hx hb dL_texts_362 rfl (lv_at hl 0 rfl) ?_
  refine lv_iconst (v := 1) hx hb dL_texts_363 (by decide) ?_
  refine lv_iadd hx hb dL_texts_364 ?_
  rw [(by decide : (57 : Int32) + (1 : Int32) = 58)]
  refine lv_icmp_eq (tgt := 370) hx hb dL_texts_365 rfl (fun _ => ?_) (fun hc => absurd (by decide) hc)
  exact W.widen (Nat.le_of_ble_eq_true rfl) (Nat.le_of_ble_eq_true rfl) (hK H locs ls hW hl)
set_option maxHeartbeats 2000000 in
theorem tx_7 (hfl : l.stackTraces = false) (C0 : CX g p s m args meth c RL cL_texts 2 (some .boolean)) (hl : lv_has ls 2 [(1, .int 57), (0, .ref (g.2.2.1 + 0))]) (hW : WA g tgn80 false Z0 s.heap H locs) (hK : ∀ (H : Heap) (locs : List Loc) (ls : Array Slot), WA g tgn83 false Z0 s.heap H locs → lv_has ls 2 [(1, .int 60), (0, .ref (g.2.2.1 + 0))] → W p l e rmL_texts s m args below meth c H locs 76 2340 (MQ below (QB g) args s rmL_texts.cells rmL_texts.slots (AA g)) (F0 m 485 ls [])) : W p l e rmL_texts s m args below meth c H locs 70 2145 (MQ below (QB g) args s rmL_texts.cells rmL_texts.slots (AA g)) (F0 m 370 ls []) := by
  have hx := C0.1; have hb := C0.2.1; have hown := C0.2.2.2.2.1; have hts := C0.2.2.2.2.2.1
  refine lv_iinc (k := 0) (v := 58) (lv' := [(1, .int 58), (0, .ref (g.2.2.1 + 0))]) hx hb dL_texts_370 hl rfl (by decide) (Nat.le_of_ble_eq_true rfl) rfl (fun ls hl => ?_)
  refine lv_goto (tgt := 328) hx hb dL_texts_373 rfl ?_
  refine lv_iload_n hx hb dL_texts_328 rfl (lv_at hl 0 rfl) ?_
  refine lv_bipush (v := 60) hx hb dL_texts_329 (by decide) ?_
  refine lv_icmp_ge (tgt := 376) hx hb dL_texts_331 rfl (fun hc => absurd hc (by decide)) (fun _ => ?_)
  refine lv_aload_n hx hb dL_texts_334 rfl (lv_at hl 1 rfl) ?_
  refine lv_iload_n hx hb dL_texts_335 rfl (lv_at hl 0 rfl) ?_
  refine lv_bipush (v := 58) hx hb dL_texts_336 (by decide) ?_
  refine lv_icmp_ge (tgt := 346) hx hb dL_texts_338 rfl (fun _ => ?_) (fun hc => absurd (by decide) hc)
  refine lv_iload_n hx hb dL_texts_346 rfl (lv_at hl 0 rfl) ?_
  refine lv_bipush (v := 58) hx hb dL_texts_347 (by decide) ?_
  refine lv_icmp_ne (tgt := 357) hx hb dL_texts_349 rfl (fun hc => absurd hc (by decide)) (fun _ => ?_)
  refine lv_bipush (v := 100) hx hb dL_texts_352 (by decide) ?_
  refine lv_goto (tgt := 359) hx hb dL_texts_354 rfl ?_
  refine ar_append (rest := []) C0 hl.1 hW tfk240 (To_eq tfk241) ⟨Nat.le_of_ble_eq_true rfl, Nat.le_of_ble_eq_true rfl⟩ (Nat.le_of_ble_eq_true rfl) ⟨Nat.le_of_ble_eq_true rfl, Nat.le_of_ble_eq_true rfl⟩ dL_texts_359 (fun H locs hW => ?_)
  refine lv_iload_n hx hb dL_texts_362 rfl (lv_at hl 0 rfl) ?_
  refine lv_iconst (v := 1) hx hb dL_texts_363 (by decide) ?_
  refine lv_iadd hx hb dL_texts_364 ?_
  rw [(by decide : (58 : Int32) + (1 : Int32) = 59)]
  refine lv_icmp_eq (tgt := 370) hx hb dL_texts_365 rfl (fun _ => ?_) (fun hc => absurd (by decide) hc)
  refine lv_iinc (k := 0) (v := 59) (lv' := [(1, .int 59), (0, .ref (g.2.2.1 + 0))]) hx hb dL_texts_370 hl rfl (by decide) (Nat.le_of_ble_eq_true rfl) rfl (fun ls hl => ?_)
  refine lv_goto (tgt := 328) hx hb dL_texts_373 rfl ?_
  refine lv_iload_n hx hb dL_texts_328 rfl (lv_at hl 0 rfl) ?_
  refine lv_bipush (v := 60) hx hb dL_texts_329 (by decide) ?_
  refine lv_icmp_ge (tgt := 376) hx hb dL_texts_331 rfl (fun hc => absurd hc (by decide)) (fun _ => ?_)
  refine lv_aload_n hx hb dL_texts_334 rfl (lv_at hl 1 rfl) ?_
  refine lv_iload_n hx hb dL_texts_335 rfl (lv_at hl 0 rfl) ?_
  refine lv_bipush (v := 58) hx hb dL_texts_336 (by decide) ?_
  refine lv_icmp_ge (tgt := 346) hx hb dL_texts_338 rfl (fun _ => ?_) (fun hc => absurd (by decide) hc)
  refine lv_iload_n hx hb dL_texts_346 rfl (lv_at hl 0 rfl) ?_
  refine lv_bipush (v := 58) hx hb dL_texts_347 (by decide) ?_
  refine lv_icmp_ne (tgt := 357) hx hb dL_texts_349 rfl (fun _ => ?_) (fun hc => absurd hc (by decide))
  refine lv_bipush (v := 63) hx hb dL_texts_357 (by decide) ?_
  refine ar_append (rest := []) C0 hl.1 hW tfk242 (To_eq tfk243) ⟨Nat.le_of_ble_eq_true rfl, Nat.le_of_ble_eq_true rfl⟩ (Nat.le_of_ble_eq_true rfl) ⟨Nat.le_of_ble_eq_true rfl, Nat.le_of_ble_eq_true rfl⟩ dL_texts_359 (fun H locs hW => ?_)
  refine lv_iload_n hx hb dL_texts_362 rfl (lv_at hl 0 rfl) ?_
  refine lv_iconst (v := 1) hx hb dL_texts_363 (by decide) ?_
  refine lv_iadd hx hb dL_texts_364 ?_
  rw [(by decide : (59 : Int32) + (1 : Int32) = 60)]
  refine lv_icmp_eq (tgt := 370) hx hb dL_texts_365 rfl (fun _ => ?_) (fun hc => absurd (by decide) hc)
  refine lv_iinc (k := 0) (v := 60) (lv' := [(1, .int 60), (0, .ref (g.2.2.1 + 0))]) hx hb dL_texts_370 hl rfl (by decide) (Nat.le_of_ble_eq_true rfl) rfl (fun ls hl => ?_)
  refine lv_goto (tgt := 328) hx hb dL_texts_373 rfl ?_
  refine lv_iload_n hx hb dL_texts_328 rfl (lv_at hl 0 rfl) ?_
  refine lv_bipush (v := 60) hx hb dL_texts_329 (by decide) ?_
  refine lv_icmp_ge (tgt := 376) hx hb dL_texts_331 rfl (fun _ => ?_) (fun hc => absurd (by decide) hc)
  refine lv_aload_n hx hb dL_texts_376 rfl (lv_at hl 1 rfl) ?_
  refine lv_bipush (v := 8) hx hb dL_texts_377 (by decide) ?_
  refine lv_bipush (v := 33) hx hb dL_texts_379 (by decide) ?_
  refine lv_iconst (v := 0) hx hb dL_texts_381 (by decide) ?_
  refine lv_lconst (v := 0) hx hb dL_texts_382 rfl ?_
  refine al_cSW (rest := []) C0 hW (c_L_call hfl _ _ _ _ (ce_append tfk244)) (ls_call hts ⟨Nat.le_of_ble_eq_true rfl, Nat.le_of_ble_eq_true rfl⟩) rfl hl.1 rfl (Nat.le_of_ble_eq_true rfl) ⟨Nat.le_of_ble_eq_true rfl, Nat.le_of_ble_eq_true rfl⟩ dL_texts_383 (fun H locs hW => ?_)
  refine lv_ldc (v := (-100013)) hx hb hown (hts _ wl121) dL_texts_386 ?_
  refine lv_icmp_ne (tgt := 483) hx hb dL_texts_388 rfl (fun hc => absurd hc (by decide)) (fun _ => ?_)
  refine lv_aload_n hx hb dL_texts_391 rfl (lv_at hl 1 rfl) ?_
  refine ar_firstError (rest := []) C0 hl.1 hW tfk245 ⟨Nat.le_of_ble_eq_true rfl, Nat.le_of_ble_eq_true rfl⟩ (Nat.le_of_ble_eq_true rfl) ⟨Nat.le_of_ble_eq_true rfl, Nat.le_of_ble_eq_true rfl⟩ dL_texts_392 (fun H locs hW => ?_)
  refine lv_bipush (v := 60) hx hb dL_texts_395 (by decide) ?_
  refine lv_icmp_ne (tgt := 483) hx hb dL_texts_397 rfl (fun hc => absurd hc (by decide)) (fun _ => ?_)
  refine lv_aload_n hx hb dL_texts_400 rfl (lv_at hl 1 rfl) ?_
  refine lv_iconst (v := 5) hx hb dL_texts_401 (by decide) ?_
  refine ar_define (rest := []) C0 hl.1 hW tfk246 (To_eq tfk247) ⟨Nat.le_of_ble_eq_true rfl, Nat.le_of_ble_eq_true rfl⟩ (Nat.le_of_ble_eq_true rfl) ⟨Nat.le_of_ble_eq_true rfl, Nat.le_of_ble_eq_true rfl⟩ dL_texts_402 (fun H locs hW => ?_)
  refine lv_bipush (v := 59) hx hb dL_texts_405 (by decide) ?_
  refine lv_icmp_ne (tgt := 483) hx hb dL_texts_407 rfl (fun hc => absurd hc (by decide)) (fun _ => ?_)
  refine lv_aload_n hx hb dL_texts_410 rfl (lv_at hl 1 rfl) ?_
  refine lv_iconst (v := 5) hx hb dL_texts_411 (by decide) ?_
  refine lv_iconst (v := 1) hx hb dL_texts_412 (by decide) ?_
  refine ar_filter (rest := []) C0 hl.1 hW tfk248 ⟨Nat.le_of_ble_eq_true rfl, Nat.le_of_ble_eq_true rfl⟩ (Nat.le_of_ble_eq_true rfl) ⟨Nat.le_of_ble_eq_true rfl, Nat.le_of_ble_eq_true rfl⟩ dL_texts_413 (fun H locs hW => ?_)
  refine lv_bipush (v := 59) hx hb dL_texts_416 (by decide) ?_
  refine lv_icmp_ne (tgt := 483) hx hb dL_texts_418 rfl (fun hc => absurd hc (by decide)) (fun _ => ?_)
  refine lv_aload_n hx hb dL_texts_421 rfl (lv_at hl 1 rfl) ?_
  refine lv_iconst (v := 5) hx hb dL_texts_422 (by decide) ?_
  refine lv_iconst (v := 4) hx hb dL_texts_423 (by decide) ?_
  refine ar_filter (rest := []) C0 hl.1 hW tfk249 ⟨Nat.le_of_ble_eq_true rfl, Nat.le_of_ble_eq_true rfl⟩ (Nat.le_of_ble_eq_true rfl) ⟨Nat.le_of_ble_eq_true rfl, Nat.le_of_ble_eq_true rfl⟩ dL_texts_424 (fun H locs hW => ?_)
  refine lv_bipush (v := 60) hx hb dL_texts_427 (by decide) ?_
  refine lv_icmp_ne (tgt := 483) hx hb dL_texts_429 rfl (fun hc => absurd hc (by decide)) (fun _ => ?_)
  refine lv_aload_n hx hb dL_texts_432 rfl (lv_at hl 1 rfl) ?_
  refine lv_iconst (v := 5) hx hb dL_texts_433 (by decide) ?_
  refine lv_bipush (v := 57) hx hb dL_texts_434 (by decide) ?_
  refine ar_letter (rest := []) C0 hl.1 hW tfk250 ⟨Nat.le_of_ble_eq_true rfl, Nat.le_of_ble_eq_true rfl⟩ (Nat.le_of_ble_eq_true rfl) ⟨Nat.le_of_ble_eq_true rfl, Nat.le_of_ble_eq_true rfl⟩ dL_texts_436 (fun H locs hW => ?_)
  refine lv_bipush (v := 33) hx hb dL_texts_439 (by decide) ?_
  refine lv_icmp_ne (tgt := 483) hx hb dL_texts_441 rfl (fun hc => absurd hc (by decide)) (fun _ => ?_)
  refine lv_aload_n hx hb dL_texts_444 rfl (lv_at hl 1 rfl) ?_
  refine lv_iconst (v := 5) hx hb dL_texts_445 (by decide) ?_
  refine lv_bipush (v := 59) hx hb dL_texts_446 (by decide) ?_
  refine ar_letter (rest := []) C0 hl.1 hW tfk251 ⟨Nat.le_of_ble_eq_true rfl, Nat.le_of_ble_eq_true rfl⟩ (Nat.le_of_ble_eq_true rfl) ⟨Nat.le_of_ble_eq_true rfl, Nat.le_of_ble_eq_true rfl⟩ dL_texts_448 (fun H locs hW => ?_)
  refine lv_bipush (v := 63) hx hb dL_texts_451 (by decide) ?_
  refine lv_icmp_ne (tgt := 483) hx hb dL_texts_453 rfl (fun hc => absurd hc (by decide)) (fun _ => ?_)
  refine lv_aload_n hx hb dL_texts_456 rfl (lv_at hl 1 rfl) ?_
  refine lv_iconst (v := 4) hx hb dL_texts_457 (by decide) ?_
  refine lv_iconst (v := 0) hx hb dL_texts_458 (by decide) ?_
  refine lv_iconst (v := 5) hx hb dL_texts_459 (by decide) ?_
  refine lv_iconst (v := 5) hx hb dL_texts_460 (by decide) ?_
  refine lv_iconst (v := 0) hx hb dL_texts_461 (by decide) ?_
  refine lv_iconst (v := 0) hx hb dL_texts_462 (by decide) ?_
  refine al_cSl (rest := [.int 5, .int 0, .int 4, .ref (g.2.2.1 + 0)]) C0 hW (c_L_three (r := 505500500) (by decide +kernel)) (ls_three hts ⟨Nat.le_of_ble_eq_true rfl, Nat.le_of_ble_eq_true rfl⟩) rfl hl.1 rfl (Nat.le_of_ble_eq_true rfl) ⟨Nat.le_of_ble_eq_true rfl, Nat.le_of_ble_eq_true rfl⟩ dL_texts_463 (fun H locs hW => ?_)
  refine al_cSW (rest := []) C0 hW (c_L_call hfl _ _ _ _ (ce_combine tfk252)) (ls_call hts ⟨Nat.le_of_ble_eq_true rfl, Nat.le_of_ble_eq_true rfl⟩) rfl hl.1 rfl (Nat.le_of_ble_eq_true rfl) ⟨Nat.le_of_ble_eq_true rfl, Nat.le_of_ble_eq_true rfl⟩ dL_texts_466 (fun H locs hW => ?_)
  refine lv_ldc (v := (-100013)) hx hb hown (hts _ wl121) dL_texts_469 ?_
  refine lv_icmp_ne (tgt := 483) hx hb dL_texts_471 rfl (fun hc => absurd hc (by decide)) (fun _ => ?_)
  refine lv_aload_n hx hb dL_texts_474 rfl (lv_at hl 1 rfl) ?_
  refine lv_iconst (v := 2) hx hb dL_texts_475 (by decide) ?_
  refine ar_count (rest := []) C0 hl.1 hW tfk253 ⟨Nat.le_of_ble_eq_true rfl, Nat.le_of_ble_eq_true rfl⟩ (Nat.le_of_ble_eq_true rfl) ⟨Nat.le_of_ble_eq_true rfl, Nat.le_of_ble_eq_true rfl⟩ dL_texts_476 (fun H locs hW => ?_)
  refine lv_iconst (v := 1) hx hb dL_texts_479 (by decide) ?_
  refine lv_icmp_eq (tgt := 485) hx hb dL_texts_480 rfl (fun _ => ?_) (fun hc => absurd (by decide) hc)
  exact W.widen (Nat.le_of_ble_eq_true rfl) (Nat.le_of_ble_eq_true rfl) (hK H locs ls hW hl)
set_option maxHeartbeats 2000000 in
theorem tx_8 (hfl : l.stackTraces = false) (C0 : CX g p s m args meth c RL cL_texts 2 (some .boolean)) (hl : lv_has ls 2 [(1, .int 60), (0, .ref (g.2.2.1 + 0))]) (hW : WA g tgn83 false Z0 s.heap H locs) (hK : ∀ (H : Heap) (locs : List Loc) (ls : Array Slot), WA g tgn95 false Z0 s.heap H locs → lv_has ls 2 [(1, .int 11), (0, .ref (g.2.2.1 + 0))] → W p l e rmL_texts s m args below meth c H locs 76 2340 (MQ below (QB g) args s rmL_texts.cells rmL_texts.slots (AA g)) (F0 m 551 ls [])) : W p l e rmL_texts s m args below meth c H locs 76 2340 (MQ below (QB g) args s rmL_texts.cells rmL_texts.slots (AA g)) (F0 m 485 ls []) := by
  have hx := C0.1; have hb := C0.2.1; have hown := C0.2.2.2.2.1; have hts := C0.2.2.2.2.2.1
  refine lv_iconst (v := 0) hx hb dL_texts_485 (by decide) ?_
  refine lv_istore_n (lv' := [(1, .int 0), (0, .ref (g.2.2.1 + 0))]) hx hb dL_texts_486 rfl hl (Nat.le_of_ble_eq_true rfl) rfl (fun ls hl => ?_)
  refine lv_iload_n hx hb dL_texts_487 rfl (lv_at hl 0 rfl) ?_
  refine lv_bipush (v := 60) hx hb dL_texts_488 (by decide) ?_
  refine lv_icmp_ge (tgt := 557) hx hb dL_texts_490 rfl (fun hc => absurd hc (by decide)) (fun _ => ?_)
  refine lv_aload_n hx hb dL_texts_493 rfl (lv_at hl 1 rfl) ?_
  refine lv_iload_n hx hb dL_texts_494 rfl (lv_at hl 0 rfl) ?_
  refine lv_bipush (v := 56) hx hb dL_texts_495 (by decide) ?_
  refine lv_icmp_ge (tgt := 505) hx hb dL_texts_497 rfl (fun hc => absurd hc (by decide)) (fun _ => ?_)
  refine lv_bipush (v := 40) hx hb dL_texts_500 (by decide) ?_
  refine lv_goto (tgt := 540) hx hb dL_texts_502 rfl ?_
  refine ar_append (rest := []) C0 hl.1 hW tfk254 (To_eq tfk255) ⟨Nat.le_of_ble_eq_true rfl, Nat.le_of_ble_eq_true rfl⟩ (Nat.le_of_ble_eq_true rfl) ⟨Nat.le_of_ble_eq_true rfl, Nat.le_of_ble_eq_true rfl⟩ dL_texts_540 (fun H locs hW => ?_)
  refine lv_iload_n hx hb dL_texts_543 rfl (lv_at hl 0 rfl) ?_
  refine lv_iconst (v := 1) hx hb dL_texts_544 (by decide) ?_
  refine lv_iadd hx hb dL_texts_545 ?_
  rw [(by decide : (0 : Int32) + (1 : Int32) = 1)]
  refine lv_icmp_eq (tgt := 551) hx hb dL_texts_546 rfl (fun _ => ?_) (fun hc => absurd (by decide) hc)
  refine lv_iinc (k := 0) (v := 1) (lv' := [(1, .int 1), (0, .ref (g.2.2.1 + 0))]) hx hb dL_texts_551 hl rfl (by decide) (Nat.le_of_ble_eq_true rfl) rfl (fun ls hl => ?_)
  refine lv_goto (tgt := 487) hx hb dL_texts_554 rfl ?_
  refine lv_iload_n hx hb dL_texts_487 rfl (lv_at hl 0 rfl) ?_
  refine lv_bipush (v := 60) hx hb dL_texts_488 (by decide) ?_
  refine lv_icmp_ge (tgt := 557) hx hb dL_texts_490 rfl (fun hc => absurd hc (by decide)) (fun _ => ?_)
  refine lv_aload_n hx hb dL_texts_493 rfl (lv_at hl 1 rfl) ?_
  refine lv_iload_n hx hb dL_texts_494 rfl (lv_at hl 0 rfl) ?_
  refine lv_bipush (v := 56) hx hb dL_texts_495 (by decide) ?_
  refine lv_icmp_ge (tgt := 505) hx hb dL_texts_497 rfl (fun hc => absurd hc (by decide)) (fun _ => ?_)
  refine lv_bipush (v := 40) hx hb dL_texts_500 (by decide) ?_
  refine lv_goto (tgt := 540) hx hb dL_texts_502 rfl ?_
  refine ar_append (rest := []) C0 hl.1 hW tfk256 (To_eq tfk257) ⟨Nat.le_of_ble_eq_true rfl, Nat.le_of_ble_eq_true rfl⟩ (Nat.le_of_ble_eq_true rfl) ⟨Nat.le_of_ble_eq_true rfl, Nat.le_of_ble_eq_true rfl⟩ dL_texts_540 (fun H locs hW => ?_)
  refine lv_iload_n hx hb dL_texts_543 rfl (lv_at hl 0 rfl) ?_
  refine lv_iconst (v := 1) hx hb dL_texts_544 (by decide) ?_
  refine lv_iadd hx hb dL_texts_545 ?_
  rw [(by decide : (1 : Int32) + (1 : Int32) = 2)]
  refine lv_icmp_eq (tgt := 551) hx hb dL_texts_546 rfl (fun _ => ?_) (fun hc => absurd (by decide) hc)
  refine lv_iinc (k := 0) (v := 2) (lv' := [(1, .int 2), (0, .ref (g.2.2.1 + 0))]) hx hb dL_texts_551 hl rfl (by decide) (Nat.le_of_ble_eq_true rfl) rfl (fun ls hl => ?_)
  refine lv_goto (tgt := 487) hx hb dL_texts_554 rfl ?_
  refine lv_iload_n hx hb dL_texts_487 rfl (lv_at hl 0 rfl) ?_
  refine lv_bipush (v := 60) hx hb dL_texts_488 (by decide) ?_
  refine lv_icmp_ge (tgt := 557) hx hb dL_texts_490 rfl (fun hc => absurd hc (by decide)) (fun _ => ?_)
  refine lv_aload_n hx hb dL_texts_493 rfl (lv_at hl 1 rfl) ?_
  refine lv_iload_n hx hb dL_texts_494 rfl (lv_at hl 0 rfl) ?_
  refine lv_bipush (v := 56) hx hb dL_texts_495 (by decide) ?_
  refine lv_icmp_ge (tgt := 505) hx hb dL_texts_497 rfl (fun hc => absurd hc (by decide)) (fun _ => ?_)
  refine lv_bipush (v := 40) hx hb dL_texts_500 (by decide) ?_
  refine lv_goto (tgt := 540) hx hb dL_texts_502 rfl ?_
  refine ar_append (rest := []) C0 hl.1 hW tfk258 (To_eq tfk259) ⟨Nat.le_of_ble_eq_true rfl, Nat.le_of_ble_eq_true rfl⟩ (Nat.le_of_ble_eq_true rfl) ⟨Nat.le_of_ble_eq_true rfl, Nat.le_of_ble_eq_true rfl⟩ dL_texts_540 (fun H locs hW => ?_)
  refine lv_iload_n hx hb dL_texts_543 rfl (lv_at hl 0 rfl) ?_
  refine lv_iconst (v := 1) hx hb dL_texts_544 (by decide) ?_
  refine lv_iadd hx hb dL_texts_545 ?_
  rw [(by decide : (2 : Int32) + (1 : Int32) = 3)]
  refine lv_icmp_eq (tgt := 551) hx hb dL_texts_546 rfl (fun _ => ?_) (fun hc => absurd (by decide) hc)
  refine lv_iinc (k := 0) (v := 3) (lv' := [(1, .int 3), (0, .ref (g.2.2.1 + 0))]) hx hb dL_texts_551 hl rfl (by decide) (Nat.le_of_ble_eq_true rfl) rfl (fun ls hl => ?_)
  refine lv_goto (tgt := 487) hx hb dL_texts_554 rfl ?_
  refine lv_iload_n hx hb dL_texts_487 rfl (lv_at hl 0 rfl) ?_
  refine lv_bipush (v := 60) hx hb dL_texts_488 (by decide) ?_
  refine lv_icmp_ge (tgt := 557) hx hb dL_texts_490 rfl (fun hc => absurd hc (by decide)) (fun _ => ?_)
  refine lv_aload_n hx hb dL_texts_493 rfl (lv_at hl 1 rfl) ?_
  refine lv_iload_n hx hb dL_texts_494 rfl (lv_at hl 0 rfl) ?_
  refine lv_bipush (v := 56) hx hb dL_texts_495 (by decide) ?_
  refine lv_icmp_ge (tgt := 505) hx hb dL_texts_497 rfl (fun hc => absurd hc (by decide)) (fun _ => ?_)
  refine lv_bipush (v := 40) hx hb dL_texts_500 (by decide) ?_
  refine lv_goto (tgt := 540) hx hb dL_texts_502 rfl ?_
  refine ar_append (rest := []) C0 hl.1 hW tfk260 (To_eq tfk261) ⟨Nat.le_of_ble_eq_true rfl, Nat.le_of_ble_eq_true rfl⟩ (Nat.le_of_ble_eq_true rfl) ⟨Nat.le_of_ble_eq_true rfl, Nat.le_of_ble_eq_true rfl⟩ dL_texts_540 (fun H locs hW => ?_)
  refine lv_iload_n hx hb dL_texts_543 rfl (lv_at hl 0 rfl) ?_
  refine lv_iconst (v := 1) hx hb dL_texts_544 (by decide) ?_
  refine lv_iadd hx hb dL_texts_545 ?_
  rw [(by decide : (3 : Int32) + (1 : Int32) = 4)]
  refine lv_icmp_eq (tgt := 551) hx hb dL_texts_546 rfl (fun _ => ?_) (fun hc => absurd (by decide) hc)
  refine lv_iinc (k := 0) (v := 4) (lv' := [(1, .int 4), (0, .ref (g.2.2.1 + 0))]) hx hb dL_texts_551 hl rfl (by decide) (Nat.le_of_ble_eq_true rfl) rfl (fun ls hl => ?_)
  refine lv_goto (tgt := 487) hx hb dL_texts_554 rfl ?_
  refine lv_iload_n hx hb dL_texts_487 rfl (lv_at hl 0 rfl) ?_
  refine lv_bipush (v := 60) hx hb dL_texts_488 (by decide) ?_
  refine lv_icmp_ge (tgt := 557) hx hb dL_texts_490 rfl (fun hc => absurd hc (by decide)) (fun _ => ?_)
  refine lv_aload_n hx hb dL_texts_493 rfl (lv_at hl 1 rfl) ?_
  refine lv_iload_n hx hb dL_texts_494 rfl (lv_at hl 0 rfl) ?_
  refine lv_bipush (v := 56) hx hb dL_texts_495 (by decide) ?_
  refine lv_icmp_ge (tgt := 505) hx hb dL_texts_497 rfl (fun hc => absurd hc (by decide)) (fun _ => ?_)
  refine lv_bipush (v := 40) hx hb dL_texts_500 (by decide) ?_
  refine lv_goto (tgt := 540) hx hb dL_texts_502 rfl ?_
  refine ar_append (rest := []) C0 hl.1 hW tfk262 (To_eq tfk263) ⟨Nat.le_of_ble_eq_true rfl, Nat.le_of_ble_eq_true rfl⟩ (Nat.le_of_ble_eq_true rfl) ⟨Nat.le_of_ble_eq_true rfl, Nat.le_of_ble_eq_true rfl⟩ dL_texts_540 (fun H locs hW => ?_)
  refine lv_iload_n hx hb dL_texts_543 rfl (lv_at hl 0 rfl) ?_
  refine lv_iconst (v := 1) hx hb dL_texts_544 (by decide) ?_
  refine lv_iadd hx hb dL_texts_545 ?_
  rw [(by decide : (4 : Int32) + (1 : Int32) = 5)]
  refine lv_icmp_eq (tgt := 551) hx hb dL_texts_546 rfl (fun _ => ?_) (fun hc => absurd (by decide) hc)
  refine lv_iinc (k := 0) (v := 5) (lv' := [(1, .int 5), (0, .ref (g.2.2.1 + 0))]) hx hb dL_texts_551 hl rfl (by decide) (Nat.le_of_ble_eq_true rfl) rfl (fun ls hl => ?_)
  refine lv_goto (tgt := 487) hx hb dL_texts_554 rfl ?_
  refine lv_iload_n hx hb dL_texts_487 rfl (lv_at hl 0 rfl) ?_
  refine lv_bipush (v := 60) hx hb dL_texts_488 (by decide) ?_
  refine lv_icmp_ge (tgt := 557) hx hb dL_texts_490 rfl (fun hc => absurd hc (by decide)) (fun _ => ?_)
  refine lv_aload_n hx hb dL_texts_493 rfl (lv_at hl 1 rfl) ?_
  refine lv_iload_n hx hb dL_texts_494 rfl (lv_at hl 0 rfl) ?_
  refine lv_bipush (v := 56) hx hb dL_texts_495 (by decide) ?_
  refine lv_icmp_ge (tgt := 505) hx hb dL_texts_497 rfl (fun hc => absurd hc (by decide)) (fun _ => ?_)
  refine lv_bipush (v := 40) hx hb dL_texts_500 (by decide) ?_
  refine lv_goto (tgt := 540) hx hb dL_texts_502 rfl ?_
  refine ar_append (rest := []) C0 hl.1 hW tfk264 (To_eq tfk265) ⟨Nat.le_of_ble_eq_true rfl, Nat.le_of_ble_eq_true rfl⟩ (Nat.le_of_ble_eq_true rfl) ⟨Nat.le_of_ble_eq_true rfl, Nat.le_of_ble_eq_true rfl⟩ dL_texts_540 (fun H locs hW => ?_)
  refine lv_iload_n hx hb dL_texts_543 rfl (lv_at hl 0 rfl) ?_
  refine lv_iconst (v := 1) hx hb dL_texts_544 (by decide) ?_
  refine lv_iadd hx hb dL_texts_545 ?_
  rw [(by decide : (5 : Int32) + (1 : Int32) = 6)]
  refine lv_icmp_eq (tgt := 551) hx hb dL_texts_546 rfl (fun _ => ?_) (fun hc => absurd (by decide) hc)
  refine lv_iinc (k := 0) (v := 6) (lv' := [(1, .int 6), (0, .ref (g.2.2.1 + 0))]) hx hb dL_texts_551 hl rfl (by decide) (Nat.le_of_ble_eq_true rfl) rfl (fun ls hl => ?_)
  refine lv_goto (tgt := 487) hx hb dL_texts_554 rfl ?_
  refine lv_iload_n hx hb dL_texts_487 rfl (lv_at hl 0 rfl) ?_
  refine lv_bipush (v := 60) hx hb dL_texts_488 (by decide) ?_
  refine lv_icmp_ge (tgt := 557) hx hb dL_texts_490 rfl (fun hc => absurd hc (by decide)) (fun _ => ?_)
  refine lv_aload_n hx hb dL_texts_493 rfl (lv_at hl 1 rfl) ?_
  refine lv_iload_n hx hb dL_texts_494 rfl (lv_at hl 0 rfl) ?_
  refine lv_bipush (v := 56) hx hb dL_texts_495 (by decide) ?_
  refine lv_icmp_ge (tgt := 505) hx hb dL_texts_497 rfl (fun hc => absurd hc (by decide)) (fun _ => ?_)
  refine lv_bipush (v := 40) hx hb dL_texts_500 (by decide) ?_
  refine lv_goto (tgt := 540) hx hb dL_texts_502 rfl ?_
  refine ar_append (rest := []) C0 hl.1 hW tfk266 (To_eq tfk267) ⟨Nat.le_of_ble_eq_true rfl, Nat.le_of_ble_eq_true rfl⟩ (Nat.le_of_ble_eq_true rfl) ⟨Nat.le_of_ble_eq_true rfl, Nat.le_of_ble_eq_true rfl⟩ dL_texts_540 (fun H locs hW => ?_)
  refine lv_iload_n hx hb dL_texts_543 rfl (lv_at hl 0 rfl) ?_
  refine lv_iconst (v := 1) hx hb dL_texts_544 (by decide) ?_
  refine lv_iadd hx hb dL_texts_545 ?_
  rw [(by decide : (6 : Int32) + (1 : Int32) = 7)]
  refine lv_icmp_eq (tgt := 551) hx hb dL_texts_546 rfl (fun _ => ?_) (fun hc => absurd (by decide) hc)
  refine lv_iinc (k := 0) (v := 7) (lv' := [(1, .int 7), (0, .ref (g.2.2.1 + 0))]) hx hb dL_texts_551 hl rfl (by decide) (Nat.le_of_ble_eq_true rfl) rfl (fun ls hl => ?_)
  refine lv_goto (tgt := 487) hx hb dL_texts_554 rfl ?_
  refine lv_iload_n hx hb dL_texts_487 rfl (lv_at hl 0 rfl) ?_
  refine lv_bipush (v := 60) hx hb dL_texts_488 (by decide) ?_
  refine lv_icmp_ge (tgt := 557) hx hb dL_texts_490 rfl (fun hc => absurd hc (by decide)) (fun _ => ?_)
  refine lv_aload_n hx hb dL_texts_493 rfl (lv_at hl 1 rfl) ?_
  refine lv_iload_n hx hb dL_texts_494 rfl (lv_at hl 0 rfl) ?_
  refine lv_bipush (v := 56) hx hb dL_texts_495 (by decide) ?_
  refine lv_icmp_ge (tgt := 505) hx hb dL_texts_497 rfl (fun hc => absurd hc (by decide)) (fun _ => ?_)
  refine lv_bipush (v := 40) hx hb dL_texts_500 (by decide) ?_
  refine lv_goto (tgt := 540) hx hb dL_texts_502 rfl ?_
  refine ar_append (rest := []) C0 hl.1 hW tfk268 (To_eq tfk269) ⟨Nat.le_of_ble_eq_true rfl, Nat.le_of_ble_eq_true rfl⟩ (Nat.le_of_ble_eq_true rfl) ⟨Nat.le_of_ble_eq_true rfl, Nat.le_of_ble_eq_true rfl⟩ dL_texts_540 (fun H locs hW => ?_)
  refine lv_iload_n hx hb dL_texts_543 rfl (lv_at hl 0 rfl) ?_
  refine lv_iconst (v := 1) hx hb dL_texts_544 (by decide) ?_
  refine lv_iadd hx hb dL_texts_545 ?_
  rw [(by decide : (7 : Int32) + (1 : Int32) = 8)]
  refine lv_icmp_eq (tgt := 551) hx hb dL_texts_546 rfl (fun _ => ?_) (fun hc => absurd (by decide) hc)
  refine lv_iinc (k := 0) (v := 8) (lv' := [(1, .int 8), (0, .ref (g.2.2.1 + 0))]) hx hb dL_texts_551 hl rfl (by decide) (Nat.le_of_ble_eq_true rfl) rfl (fun ls hl => ?_)
  refine lv_goto (tgt := 487) hx hb dL_texts_554 rfl ?_
  refine lv_iload_n hx hb dL_texts_487 rfl (lv_at hl 0 rfl) ?_
  refine lv_bipush (v := 60) hx hb dL_texts_488 (by decide) ?_
  refine lv_icmp_ge (tgt := 557) hx hb dL_texts_490 rfl (fun hc => absurd hc (by decide)) (fun _ => ?_)
  refine lv_aload_n hx hb dL_texts_493 rfl (lv_at hl 1 rfl) ?_
  refine lv_iload_n hx hb dL_texts_494 rfl (lv_at hl 0 rfl) ?_
  refine lv_bipush (v := 56) hx hb dL_texts_495 (by decide) ?_
  refine lv_icmp_ge (tgt := 505) hx hb dL_texts_497 rfl (fun hc => absurd hc (by decide)) (fun _ => ?_)
  refine lv_bipush (v := 40) hx hb dL_texts_500 (by decide) ?_
  refine lv_goto (tgt := 540) hx hb dL_texts_502 rfl ?_
  refine ar_append (rest := []) C0 hl.1 hW tfk270 (To_eq tfk271) ⟨Nat.le_of_ble_eq_true rfl, Nat.le_of_ble_eq_true rfl⟩ (Nat.le_of_ble_eq_true rfl) ⟨Nat.le_of_ble_eq_true rfl, Nat.le_of_ble_eq_true rfl⟩ dL_texts_540 (fun H locs hW => ?_)
  refine lv_iload_n hx hb dL_texts_543 rfl (lv_at hl 0 rfl) ?_
  refine lv_iconst (v := 1) hx hb dL_texts_544 (by decide) ?_
  refine lv_iadd hx hb dL_texts_545 ?_
  rw [(by decide : (8 : Int32) + (1 : Int32) = 9)]
  refine lv_icmp_eq (tgt := 551) hx hb dL_texts_546 rfl (fun _ => ?_) (fun hc => absurd (by decide) hc)
  refine lv_iinc (k := 0) (v := 9) (lv' := [(1, .int 9), (0, .ref (g.2.2.1 + 0))]) hx hb dL_texts_551 hl rfl (by decide) (Nat.le_of_ble_eq_true rfl) rfl (fun ls hl => ?_)
  refine lv_goto (tgt := 487) hx hb dL_texts_554 rfl ?_
  refine lv_iload_n hx hb dL_texts_487 rfl (lv_at hl 0 rfl) ?_
  refine lv_bipush (v := 60) hx hb dL_texts_488 (by decide) ?_
  refine lv_icmp_ge (tgt := 557) hx hb dL_texts_490 rfl (fun hc => absurd hc (by decide)) (fun _ => ?_)
  refine lv_aload_n hx hb dL_texts_493 rfl (lv_at hl 1 rfl) ?_
  refine lv_iload_n hx hb dL_texts_494 rfl (lv_at hl 0 rfl) ?_
  refine lv_bipush (v := 56) hx hb dL_texts_495 (by decide) ?_
  refine lv_icmp_ge (tgt := 505) hx hb dL_texts_497 rfl (fun hc => absurd hc (by decide)) (fun _ => ?_)
  refine lv_bipush (v := 40) hx hb dL_texts_500 (by decide) ?_
  refine lv_goto (tgt := 540) hx hb dL_texts_502 rfl ?_
  refine ar_append (rest := []) C0 hl.1 hW tfk272 (To_eq tfk273) ⟨Nat.le_of_ble_eq_true rfl, Nat.le_of_ble_eq_true rfl⟩ (Nat.le_of_ble_eq_true rfl) ⟨Nat.le_of_ble_eq_true rfl, Nat.le_of_ble_eq_true rfl⟩ dL_texts_540 (fun H locs hW => ?_)
  refine lv_iload_n hx hb dL_texts_543 rfl (lv_at hl 0 rfl) ?_
  refine lv_iconst (v := 1) hx hb dL_texts_544 (by decide) ?_
  refine lv_iadd hx hb dL_texts_545 ?_
  rw [(by decide : (9 : Int32) + (1 : Int32) = 10)]
  refine lv_icmp_eq (tgt := 551) hx hb dL_texts_546 rfl (fun _ => ?_) (fun hc => absurd (by decide) hc)
  refine lv_iinc (k := 0) (v := 10) (lv' := [(1, .int 10), (0, .ref (g.2.2.1 + 0))]) hx hb dL_texts_551 hl rfl (by decide) (Nat.le_of_ble_eq_true rfl) rfl (fun ls hl => ?_)
  refine lv_goto (tgt := 487) hx hb dL_texts_554 rfl ?_
  refine lv_iload_n hx hb dL_texts_487 rfl (lv_at hl 0 rfl) ?_
  refine lv_bipush (v := 60) hx hb dL_texts_488 (by decide) ?_
  refine lv_icmp_ge (tgt := 557) hx hb dL_texts_490 rfl (fun hc => absurd hc (by decide)) (fun _ => ?_)
  refine lv_aload_n hx hb dL_texts_493 rfl (lv_at hl 1 rfl) ?_
  refine lv_iload_n hx hb dL_texts_494 rfl (lv_at hl 0 rfl) ?_
  refine lv_bipush (v := 56) hx hb dL_texts_495 (by decide) ?_
  refine lv_icmp_ge (tgt := 505) hx hb dL_texts_497 rfl (fun hc => absurd hc (by decide)) (fun _ => ?_)
  refine lv_bipush (v := 40) hx hb dL_texts_500 (by decide) ?_
  refine lv_goto (tgt := 540) hx hb dL_texts_502 rfl ?_
  refine ar_append (rest := []) C0 hl.1 hW tfk274 (To_eq tfk275) ⟨Nat.le_of_ble_eq_true rfl, Nat.le_of_ble_eq_true rfl⟩ (Nat.le_of_ble_eq_true rfl) ⟨Nat.le_of_ble_eq_true rfl, Nat.le_of_ble_eq_true rfl⟩ dL_texts_540 (fun H locs hW => ?_)
  refine lv_iload_n hx hb dL_texts_543 rfl (lv_at hl 0 rfl) ?_
  refine lv_iconst (v := 1) hx hb dL_texts_544 (by decide) ?_
  refine lv_iadd hx hb dL_texts_545 ?_
  rw [(by decide : (10 : Int32) + (1 : Int32) = 11)]
  refine lv_icmp_eq (tgt := 551) hx hb dL_texts_546 rfl (fun _ => ?_) (fun hc => absurd (by decide) hc)
  refine lv_iinc (k := 0) (v := 11) (lv' := [(1, .int 11), (0, .ref (g.2.2.1 + 0))]) hx hb dL_texts_551 hl rfl (by decide) (Nat.le_of_ble_eq_true rfl) rfl (fun ls hl => ?_)
  refine lv_goto (tgt := 487) hx hb dL_texts_554 rfl ?_
  refine lv_iload_n hx hb dL_texts_487 rfl (lv_at hl 0 rfl) ?_
  refine lv_bipush (v := 60) hx hb dL_texts_488 (by decide) ?_
  refine lv_icmp_ge (tgt := 557) hx hb dL_texts_490 rfl (fun hc => absurd hc (by decide)) (fun _ => ?_)
  refine lv_aload_n hx hb dL_texts_493 rfl (lv_at hl 1 rfl) ?_
  refine lv_iload_n hx hb dL_texts_494 rfl (lv_at hl 0 rfl) ?_
  refine lv_bipush (v := 56) hx hb dL_texts_495 (by decide) ?_
  refine lv_icmp_ge (tgt := 505) hx hb dL_texts_497 rfl (fun hc => absurd hc (by decide)) (fun _ => ?_)
  refine lv_bipush (v := 40) hx hb dL_texts_500 (by decide) ?_
  refine lv_goto (tgt := 540) hx hb dL_texts_502 rfl ?_
  refine ar_append (rest := []) C0 hl.1 hW tfk276 (To_eq tfk277) ⟨Nat.le_of_ble_eq_true rfl, Nat.le_of_ble_eq_true rfl⟩ (Nat.le_of_ble_eq_true rfl) ⟨Nat.le_of_ble_eq_true rfl, Nat.le_of_ble_eq_true rfl⟩ dL_texts_540 (fun H locs hW => ?_)
  refine lv_iload_n hx hb dL_texts_543 rfl (lv_at hl 0 rfl) ?_
  refine lv_iconst (v := 1) hx hb dL_texts_544 (by decide) ?_
  refine lv_iadd hx hb dL_texts_545 ?_
  rw [(by decide : (11 : Int32) + (1 : Int32) = 12)]
  refine lv_icmp_eq (tgt := 551) hx hb dL_texts_546 rfl (fun _ => ?_) (fun hc => absurd (by decide) hc)
  exact W.widen (Nat.le_of_ble_eq_true rfl) (Nat.le_of_ble_eq_true rfl) (hK H locs ls hW hl)
set_option maxHeartbeats 2000000 in
theorem tx_9 (hfl : l.stackTraces = false) (C0 : CX g p s m args meth c RL cL_texts 2 (some .boolean)) (hl : lv_has ls 2 [(1, .int 11), (0, .ref (g.2.2.1 + 0))]) (hW : WA g tgn95 false Z0 s.heap H locs) (hK : ∀ (H : Heap) (locs : List Loc) (ls : Array Slot), WA g tgn107 false Z0 s.heap H locs → lv_has ls 2 [(1, .int 23), (0, .ref (g.2.2.1 + 0))] → W p l e rmL_texts s m args below meth c H locs 76 2340 (MQ below (QB g) args s rmL_texts.cells rmL_texts.slots (AA g)) (F0 m 551 ls [])) : W p l e rmL_texts s m args below meth c H locs 76 2340 (MQ below (QB g) args s rmL_texts.cells rmL_texts.slots (AA g)) (F0 m 551 ls []) := by
  have hx := C0.1; have hb := C0.2.1; have hown := C0.2.2.2.2.1; have hts := C0.2.2.2.2.2.1
  refine lv_iinc (k := 0) (v := 12) (lv' := [(1, .int 12), (0, .ref (g.2.2.1 + 0))]) hx hb dL_texts_551 hl rfl (by decide) (Nat.le_of_ble_eq_true rfl) rfl (fun ls hl => ?_)
  refine lv_goto (tgt := 487) hx hb dL_texts_554 rfl ?_
  refine lv_iload_n hx hb dL_texts_487 rfl (lv_at hl 0 rfl) ?_
  refine lv_bipush (v := 60) hx hb dL_texts_488 (by decide) ?_
  refine lv_icmp_ge (tgt := 557) hx hb dL_texts_490 rfl (fun hc => absurd hc (by decide)) (fun _ => ?_)
  refine lv_aload_n hx hb dL_texts_493 rfl (lv_at hl 1 rfl) ?_
  refine lv_iload_n hx hb dL_texts_494 rfl (lv_at hl 0 rfl) ?_
  refine lv_bipush (v := 56) hx hb dL_texts_495 (by decide) ?_
  refine lv_icmp_ge (tgt := 505) hx hb dL_texts_497 rfl (fun hc => absurd hc (by decide)) (fun _ => ?_)
  refine lv_bipush (v := 40) hx hb dL_texts_500 (by decide) ?_
  refine lv_goto (tgt := 540) hx hb dL_texts_502 rfl ?_
  refine ar_append (rest := []) C0 hl.1 hW tfk278 (To_eq tfk279) ⟨Nat.le_of_ble_eq_true rfl, Nat.le_of_ble_eq_true rfl⟩ (Nat.le_of_ble_eq_true rfl) ⟨Nat.le_of_ble_eq_true rfl, Nat.le_of_ble_eq_true rfl⟩ dL_texts_540 (fun H locs hW => ?_)
  refine lv_iload_n hx hb dL_texts_543 rfl (lv_at hl 0 rfl) ?_
  refine lv_iconst (v := 1) hx hb dL_texts_544 (by decide) ?_
  refine lv_iadd hx hb dL_texts_545 ?_
  rw [(by decide : (12 : Int32) + (1 : Int32) = 13)]
  refine lv_icmp_eq (tgt := 551) hx hb dL_texts_546 rfl (fun _ => ?_) (fun hc => absurd (by decide) hc)
  refine lv_iinc (k := 0) (v := 13) (lv' := [(1, .int 13), (0, .ref (g.2.2.1 + 0))]) hx hb dL_texts_551 hl rfl (by decide) (Nat.le_of_ble_eq_true rfl) rfl (fun ls hl => ?_)
  refine lv_goto (tgt := 487) hx hb dL_texts_554 rfl ?_
  refine lv_iload_n hx hb dL_texts_487 rfl (lv_at hl 0 rfl) ?_
  refine lv_bipush (v := 60) hx hb dL_texts_488 (by decide) ?_
  refine lv_icmp_ge (tgt := 557) hx hb dL_texts_490 rfl (fun hc => absurd hc (by decide)) (fun _ => ?_)
  refine lv_aload_n hx hb dL_texts_493 rfl (lv_at hl 1 rfl) ?_
  refine lv_iload_n hx hb dL_texts_494 rfl (lv_at hl 0 rfl) ?_
  refine lv_bipush (v := 56) hx hb dL_texts_495 (by decide) ?_
  refine lv_icmp_ge (tgt := 505) hx hb dL_texts_497 rfl (fun hc => absurd hc (by decide)) (fun _ => ?_)
  refine lv_bipush (v := 40) hx hb dL_texts_500 (by decide) ?_
  refine lv_goto (tgt := 540) hx hb dL_texts_502 rfl ?_
  refine ar_append (rest := []) C0 hl.1 hW tfk280 (To_eq tfk281) ⟨Nat.le_of_ble_eq_true rfl, Nat.le_of_ble_eq_true rfl⟩ (Nat.le_of_ble_eq_true rfl) ⟨Nat.le_of_ble_eq_true rfl, Nat.le_of_ble_eq_true rfl⟩ dL_texts_540 (fun H locs hW => ?_)
  refine lv_iload_n hx hb dL_texts_543 rfl (lv_at hl 0 rfl) ?_
  refine lv_iconst (v := 1) hx hb dL_texts_544 (by decide) ?_
  refine lv_iadd hx hb dL_texts_545 ?_
  rw [(by decide : (13 : Int32) + (1 : Int32) = 14)]
  refine lv_icmp_eq (tgt := 551) hx hb dL_texts_546 rfl (fun _ => ?_) (fun hc => absurd (by decide) hc)
  refine lv_iinc (k := 0) (v := 14) (lv' := [(1, .int 14), (0, .ref (g.2.2.1 + 0))]) hx hb dL_texts_551 hl rfl (by decide) (Nat.le_of_ble_eq_true rfl) rfl (fun ls hl => ?_)
  refine lv_goto (tgt := 487) hx hb dL_texts_554 rfl ?_
  refine lv_iload_n hx hb dL_texts_487 rfl (lv_at hl 0 rfl) ?_
  refine lv_bipush (v := 60) hx hb dL_texts_488 (by decide) ?_
  refine lv_icmp_ge (tgt := 557) hx hb dL_texts_490 rfl (fun hc => absurd hc (by decide)) (fun _ => ?_)
  refine lv_aload_n hx hb dL_texts_493 rfl (lv_at hl 1 rfl) ?_
  refine lv_iload_n hx hb dL_texts_494 rfl (lv_at hl 0 rfl) ?_
  refine lv_bipush (v := 56) hx hb dL_texts_495 (by decide) ?_
  refine lv_icmp_ge (tgt := 505) hx hb dL_texts_497 rfl (fun hc => absurd hc (by decide)) (fun _ => ?_)
  refine lv_bipush (v := 40) hx hb dL_texts_500 (by decide) ?_
  refine lv_goto (tgt := 540) hx hb dL_texts_502 rfl ?_
  refine ar_append (rest := []) C0 hl.1 hW tfk282 (To_eq tfk283) ⟨Nat.le_of_ble_eq_true rfl, Nat.le_of_ble_eq_true rfl⟩ (Nat.le_of_ble_eq_true rfl) ⟨Nat.le_of_ble_eq_true rfl, Nat.le_of_ble_eq_true rfl⟩ dL_texts_540 (fun H locs hW => ?_)
  refine lv_iload_n hx hb dL_texts_543 rfl (lv_at hl 0 rfl) ?_
  refine lv_iconst (v := 1) hx hb dL_texts_544 (by decide) ?_
  refine lv_iadd hx hb dL_texts_545 ?_
  rw [(by decide : (14 : Int32) + (1 : Int32) = 15)]
  refine lv_icmp_eq (tgt := 551) hx hb dL_texts_546 rfl (fun _ => ?_) (fun hc => absurd (by decide) hc)
  refine lv_iinc (k := 0) (v := 15) (lv' := [(1, .int 15), (0, .ref (g.2.2.1 + 0))]) hx hb dL_texts_551 hl rfl (by decide) (Nat.le_of_ble_eq_true rfl) rfl (fun ls hl => ?_)
  refine lv_goto (tgt := 487) hx hb dL_texts_554 rfl ?_
  refine lv_iload_n hx hb dL_texts_487 rfl (lv_at hl 0 rfl) ?_
  refine lv_bipush (v := 60) hx hb dL_texts_488 (by decide) ?_
  refine lv_icmp_ge (tgt := 557) hx hb dL_texts_490 rfl (fun hc => absurd hc (by decide)) (fun _ => ?_)
  refine lv_aload_n hx hb dL_texts_493 rfl (lv_at hl 1 rfl) ?_
  refine lv_iload_n hx hb dL_texts_494 rfl (lv_at hl 0 rfl) ?_
  refine lv_bipush (v := 56) hx hb dL_texts_495 (by decide) ?_
  refine lv_icmp_ge (tgt := 505) hx hb dL_texts_497 rfl (fun hc => absurd hc (by decide)) (fun _ => ?_)
  refine lv_bipush (v := 40) hx hb dL_texts_500 (by decide) ?_
  refine lv_goto (tgt := 540) hx hb dL_texts_502 rfl ?_
  refine ar_append (rest := []) C0 hl.1 hW tfk284 (To_eq tfk285) ⟨Nat.le_of_ble_eq_true rfl, Nat.le_of_ble_eq_true rfl⟩ (Nat.le_of_ble_eq_true rfl) ⟨Nat.le_of_ble_eq_true rfl, Nat.le_of_ble_eq_true rfl⟩ dL_texts_540 (fun H locs hW => ?_)
  refine lv_iload_n hx hb dL_texts_543 rfl (lv_at hl 0 rfl) ?_
  refine lv_iconst (v := 1) hx hb dL_texts_544 (by decide) ?_
  refine lv_iadd hx hb dL_texts_545 ?_
  rw [(by decide : (15 : Int32) + (1 : Int32) = 16)]
  refine lv_icmp_eq (tgt := 551) hx hb dL_texts_546 rfl (fun _ => ?_) (fun hc => absurd (by decide) hc)
  refine lv_iinc (k := 0) (v := 16) (lv' := [(1, .int 16), (0, .ref (g.2.2.1 + 0))]) hx hb dL_texts_551 hl rfl (by decide) (Nat.le_of_ble_eq_true rfl) rfl (fun ls hl => ?_)
  refine lv_goto (tgt := 487) hx hb dL_texts_554 rfl ?_
  refine lv_iload_n hx hb dL_texts_487 rfl (lv_at hl 0 rfl) ?_
  refine lv_bipush (v := 60) hx hb dL_texts_488 (by decide) ?_
  refine lv_icmp_ge (tgt := 557) hx hb dL_texts_490 rfl (fun hc => absurd hc (by decide)) (fun _ => ?_)
  refine lv_aload_n hx hb dL_texts_493 rfl (lv_at hl 1 rfl) ?_
  refine lv_iload_n hx hb dL_texts_494 rfl (lv_at hl 0 rfl) ?_
  refine lv_bipush (v := 56) hx hb dL_texts_495 (by decide) ?_
  refine lv_icmp_ge (tgt := 505) hx hb dL_texts_497 rfl (fun hc => absurd hc (by decide)) (fun _ => ?_)
  refine lv_bipush (v := 40) hx hb dL_texts_500 (by decide) ?_
  refine lv_goto (tgt := 540) hx hb dL_texts_502 rfl ?_
  refine ar_append (rest := []) C0 hl.1 hW tfk286 (To_eq tfk287) ⟨Nat.le_of_ble_eq_true rfl, Nat.le_of_ble_eq_true rfl⟩ (Nat.le_of_ble_eq_true rfl) ⟨Nat.le_of_ble_eq_true rfl, Nat.le_of_ble_eq_true rfl⟩ dL_texts_540 (fun H locs hW => ?_)
  refine lv_iload_n hx hb dL_texts_543 rfl (lv_at hl 0 rfl) ?_
  refine lv_iconst (v := 1) hx hb dL_texts_544 (by decide) ?_
  refine lv_iadd hx hb dL_texts_545 ?_
  rw [(by decide : (16 : Int32) + (1 : Int32) = 17)]
  refine lv_icmp_eq (tgt := 551) hx hb dL_texts_546 rfl (fun _ => ?_) (fun hc => absurd (by decide) hc)
  refine lv_iinc (k := 0) (v := 17) (lv' := [(1, .int 17), (0, .ref (g.2.2.1 + 0))]) hx hb dL_texts_551 hl rfl (by decide) (Nat.le_of_ble_eq_true rfl) rfl (fun ls hl => ?_)
  refine lv_goto (tgt := 487) hx hb dL_texts_554 rfl ?_
  refine lv_iload_n hx hb dL_texts_487 rfl (lv_at hl 0 rfl) ?_
  refine lv_bipush (v := 60) hx hb dL_texts_488 (by decide) ?_
  refine lv_icmp_ge (tgt := 557) hx hb dL_texts_490 rfl (fun hc => absurd hc (by decide)) (fun _ => ?_)
  refine lv_aload_n hx hb dL_texts_493 rfl (lv_at hl 1 rfl) ?_
  refine lv_iload_n hx hb dL_texts_494 rfl (lv_at hl 0 rfl) ?_
  refine lv_bipush (v := 56) hx hb dL_texts_495 (by decide) ?_
  refine lv_icmp_ge (tgt := 505) hx hb dL_texts_497 rfl (fun hc => absurd hc (by decide)) (fun _ => ?_)
  refine lv_bipush (v := 40) hx hb dL_texts_500 (by decide) ?_
  refine lv_goto (tgt := 540) hx hb dL_texts_502 rfl ?_
  refine ar_append (rest := []) C0 hl.1 hW tfk288 (To_eq tfk289) ⟨Nat.le_of_ble_eq_true rfl, Nat.le_of_ble_eq_true rfl⟩ (Nat.le_of_ble_eq_true rfl) ⟨Nat.le_of_ble_eq_true rfl, Nat.le_of_ble_eq_true rfl⟩ dL_texts_540 (fun H locs hW => ?_)
  refine lv_iload_n hx hb dL_texts_543 rfl (lv_at hl 0 rfl) ?_
  refine lv_iconst (v := 1) hx hb dL_texts_544 (by decide) ?_
  refine lv_iadd hx hb dL_texts_545 ?_
  rw [(by decide : (17 : Int32) + (1 : Int32) = 18)]
  refine lv_icmp_eq (tgt := 551) hx hb dL_texts_546 rfl (fun _ => ?_) (fun hc => absurd (by decide) hc)
  refine lv_iinc (k := 0) (v := 18) (lv' := [(1, .int 18), (0, .ref (g.2.2.1 + 0))]) hx hb dL_texts_551 hl rfl (by decide) (Nat.le_of_ble_eq_true rfl) rfl (fun ls hl => ?_)
  refine lv_goto (tgt := 487) hx hb dL_texts_554 rfl ?_
  refine lv_iload_n hx hb dL_texts_487 rfl (lv_at hl 0 rfl) ?_
  refine lv_bipush (v := 60) hx hb dL_texts_488 (by decide) ?_
  refine lv_icmp_ge (tgt := 557) hx hb dL_texts_490 rfl (fun hc => absurd hc (by decide)) (fun _ => ?_)
  refine lv_aload_n hx hb dL_texts_493 rfl (lv_at hl 1 rfl) ?_
  refine lv_iload_n hx hb dL_texts_494 rfl (lv_at hl 0 rfl) ?_
  refine lv_bipush (v := 56) hx hb dL_texts_495 (by decide) ?_
  refine lv_icmp_ge (tgt := 505) hx hb dL_texts_497 rfl (fun hc => absurd hc (by decide)) (fun _ => ?_)
  refine lv_bipush (v := 40) hx hb dL_texts_500 (by decide) ?_
  refine lv_goto (tgt := 540) hx hb dL_texts_502 rfl ?_
  refine ar_append (rest := []) C0 hl.1 hW tfk290 (To_eq tfk291) ⟨Nat.le_of_ble_eq_true rfl, Nat.le_of_ble_eq_true rfl⟩ (Nat.le_of_ble_eq_true rfl) ⟨Nat.le_of_ble_eq_true rfl, Nat.le_of_ble_eq_true rfl⟩ dL_texts_540 (fun H locs hW => ?_)
  refine lv_iload_n hx hb dL_texts_543 rfl (lv_at hl 0 rfl) ?_
  refine lv_iconst (v := 1) hx hb dL_texts_544 (by decide) ?_
  refine lv_iadd hx hb dL_texts_545 ?_
  rw [(by decide : (18 : Int32) + (1 : Int32) = 19)]
  refine lv_icmp_eq (tgt := 551) hx hb dL_texts_546 rfl (fun _ => ?_) (fun hc => absurd (by decide) hc)
  refine lv_iinc (k := 0) (v := 19) (lv' := [(1, .int 19), (0, .ref (g.2.2.1 + 0))]) hx hb dL_texts_551 hl rfl (by decide) (Nat.le_of_ble_eq_true rfl) rfl (fun ls hl => ?_)
  refine lv_goto (tgt := 487) hx hb dL_texts_554 rfl ?_
  refine lv_iload_n hx hb dL_texts_487 rfl (lv_at hl 0 rfl) ?_
  refine lv_bipush (v := 60) hx hb dL_texts_488 (by decide) ?_
  refine lv_icmp_ge (tgt := 557) hx hb dL_texts_490 rfl (fun hc => absurd hc (by decide)) (fun _ => ?_)
  refine lv_aload_n hx hb dL_texts_493 rfl (lv_at hl 1 rfl) ?_
  refine lv_iload_n hx hb dL_texts_494 rfl (lv_at hl 0 rfl) ?_
  refine lv_bipush (v := 56) hx hb dL_texts_495 (by decide) ?_
  refine lv_icmp_ge (tgt := 505) hx hb dL_texts_497 rfl (fun hc => absurd hc (by decide)) (fun _ => ?_)
  refine lv_bipush (v := 40) hx hb dL_texts_500 (by decide) ?_
  refine lv_goto (tgt := 540) hx hb dL_texts_502 rfl ?_
  refine ar_append (rest := []) C0 hl.1 hW tfk292 (To_eq tfk293) ⟨Nat.le_of_ble_eq_true rfl, Nat.le_of_ble_eq_true rfl⟩ (Nat.le_of_ble_eq_true rfl) ⟨Nat.le_of_ble_eq_true rfl, Nat.le_of_ble_eq_true rfl⟩ dL_texts_540 (fun H locs hW => ?_)
  refine lv_iload_n hx hb dL_texts_543 rfl (lv_at hl 0 rfl) ?_
  refine lv_iconst (v := 1) hx hb dL_texts_544 (by decide) ?_
  refine lv_iadd hx hb dL_texts_545 ?_
  rw [(by decide : (19 : Int32) + (1 : Int32) = 20)]
  refine lv_icmp_eq (tgt := 551) hx hb dL_texts_546 rfl (fun _ => ?_) (fun hc => absurd (by decide) hc)
  refine lv_iinc (k := 0) (v := 20) (lv' := [(1, .int 20), (0, .ref (g.2.2.1 + 0))]) hx hb dL_texts_551 hl rfl (by decide) (Nat.le_of_ble_eq_true rfl) rfl (fun ls hl => ?_)
  refine lv_goto (tgt := 487) hx hb dL_texts_554 rfl ?_
  refine lv_iload_n hx hb dL_texts_487 rfl (lv_at hl 0 rfl) ?_
  refine lv_bipush (v := 60) hx hb dL_texts_488 (by decide) ?_
  refine lv_icmp_ge (tgt := 557) hx hb dL_texts_490 rfl (fun hc => absurd hc (by decide)) (fun _ => ?_)
  refine lv_aload_n hx hb dL_texts_493 rfl (lv_at hl 1 rfl) ?_
  refine lv_iload_n hx hb dL_texts_494 rfl (lv_at hl 0 rfl) ?_
  refine lv_bipush (v := 56) hx hb dL_texts_495 (by decide) ?_
  refine lv_icmp_ge (tgt := 505) hx hb dL_texts_497 rfl (fun hc => absurd hc (by decide)) (fun _ => ?_)
  refine lv_bipush (v := 40) hx hb dL_texts_500 (by decide) ?_
  refine lv_goto (tgt := 540) hx hb dL_texts_502 rfl ?_
  refine ar_append (rest := []) C0 hl.1 hW tfk294 (To_eq tfk295) ⟨Nat.le_of_ble_eq_true rfl, Nat.le_of_ble_eq_true rfl⟩ (Nat.le_of_ble_eq_true rfl) ⟨Nat.le_of_ble_eq_true rfl, Nat.le_of_ble_eq_true rfl⟩ dL_texts_540 (fun H locs hW => ?_)
  refine lv_iload_n hx hb dL_texts_543 rfl (lv_at hl 0 rfl) ?_
  refine lv_iconst (v := 1) hx hb dL_texts_544 (by decide) ?_
  refine lv_iadd hx hb dL_texts_545 ?_
  rw [(by decide : (20 : Int32) + (1 : Int32) = 21)]
  refine lv_icmp_eq (tgt := 551) hx hb dL_texts_546 rfl (fun _ => ?_) (fun hc => absurd (by decide) hc)
  refine lv_iinc (k := 0) (v := 21) (lv' := [(1, .int 21), (0, .ref (g.2.2.1 + 0))]) hx hb dL_texts_551 hl rfl (by decide) (Nat.le_of_ble_eq_true rfl) rfl (fun ls hl => ?_)
  refine lv_goto (tgt := 487) hx hb dL_texts_554 rfl ?_
  refine lv_iload_n hx hb dL_texts_487 rfl (lv_at hl 0 rfl) ?_
  refine lv_bipush (v := 60) hx hb dL_texts_488 (by decide) ?_
  refine lv_icmp_ge (tgt := 557) hx hb dL_texts_490 rfl (fun hc => absurd hc (by decide)) (fun _ => ?_)
  refine lv_aload_n hx hb dL_texts_493 rfl (lv_at hl 1 rfl) ?_
  refine lv_iload_n hx hb dL_texts_494 rfl (lv_at hl 0 rfl) ?_
  refine lv_bipush (v := 56) hx hb dL_texts_495 (by decide) ?_
  refine lv_icmp_ge (tgt := 505) hx hb dL_texts_497 rfl (fun hc => absurd hc (by decide)) (fun _ => ?_)
  refine lv_bipush (v := 40) hx hb dL_texts_500 (by decide) ?_
  refine lv_goto (tgt := 540) hx hb dL_texts_502 rfl ?_
  refine ar_append (rest := []) C0 hl.1 hW tfk296 (To_eq tfk297) ⟨Nat.le_of_ble_eq_true rfl, Nat.le_of_ble_eq_true rfl⟩ (Nat.le_of_ble_eq_true rfl) ⟨Nat.le_of_ble_eq_true rfl, Nat.le_of_ble_eq_true rfl⟩ dL_texts_540 (fun H locs hW => ?_)
  refine lv_iload_n hx hb dL_texts_543 rfl (lv_at hl 0 rfl) ?_
  refine lv_iconst (v := 1) hx hb dL_texts_544 (by decide) ?_
  refine lv_iadd hx hb dL_texts_545 ?_
  rw [(by decide : (21 : Int32) + (1 : Int32) = 22)]
  refine lv_icmp_eq (tgt := 551) hx hb dL_texts_546 rfl (fun _ => ?_) (fun hc => absurd (by decide) hc)
  refine lv_iinc (k := 0) (v := 22) (lv' := [(1, .int 22), (0, .ref (g.2.2.1 + 0))]) hx hb dL_texts_551 hl rfl (by decide) (Nat.le_of_ble_eq_true rfl) rfl (fun ls hl => ?_)
  refine lv_goto (tgt := 487) hx hb dL_texts_554 rfl ?_
  refine lv_iload_n hx hb dL_texts_487 rfl (lv_at hl 0 rfl) ?_
  refine lv_bipush (v := 60) hx hb dL_texts_488 (by decide) ?_
  refine lv_icmp_ge (tgt := 557) hx hb dL_texts_490 rfl (fun hc => absurd hc (by decide)) (fun _ => ?_)
  refine lv_aload_n hx hb dL_texts_493 rfl (lv_at hl 1 rfl) ?_
  refine lv_iload_n hx hb dL_texts_494 rfl (lv_at hl 0 rfl) ?_
  refine lv_bipush (v := 56) hx hb dL_texts_495 (by decide) ?_
  refine lv_icmp_ge (tgt := 505) hx hb dL_texts_497 rfl (fun hc => absurd hc (by decide)) (fun _ => ?_)
  refine lv_bipush (v := 40) hx hb dL_texts_500 (by decide) ?_
  refine lv_goto (tgt := 540) hx hb dL_texts_502 rfl ?_
  refine ar_append (rest := []) C0 hl.1 hW tfk298 (To_eq tfk299) ⟨Nat.le_of_ble_eq_true rfl, Nat.le_of_ble_eq_true rfl⟩ (Nat.le_of_ble_eq_true rfl) ⟨Nat.le_of_ble_eq_true rfl, Nat.le_of_ble_eq_true rfl⟩ dL_texts_540 (fun H locs hW => ?_)
  refine lv_iload_n hx hb dL_texts_543 rfl (lv_at hl 0 rfl) ?_
  refine lv_iconst (v := 1) hx hb dL_texts_544 (by decide) ?_
  refine lv_iadd hx hb dL_texts_545 ?_
  rw [(by decide : (22 : Int32) + (1 : Int32) = 23)]
  refine lv_icmp_eq (tgt := 551) hx hb dL_texts_546 rfl (fun _ => ?_) (fun hc => absurd (by decide) hc)
  refine lv_iinc (k := 0) (v := 23) (lv' := [(1, .int 23), (0, .ref (g.2.2.1 + 0))]) hx hb dL_texts_551 hl rfl (by decide) (Nat.le_of_ble_eq_true rfl) rfl (fun ls hl => ?_)
  refine lv_goto (tgt := 487) hx hb dL_texts_554 rfl ?_
  refine lv_iload_n hx hb dL_texts_487 rfl (lv_at hl 0 rfl) ?_
  refine lv_bipush (v := 60) hx hb dL_texts_488 (by decide) ?_
  refine lv_icmp_ge (tgt := 557) hx hb dL_texts_490 rfl (fun hc => absurd hc (by decide)) (fun _ => ?_)
  refine lv_aload_n hx hb dL_texts_493 rfl (lv_at hl 1 rfl) ?_
  refine lv_iload_n hx hb dL_texts_494 rfl (lv_at hl 0 rfl) ?_
  refine lv_bipush (v := 56) hx hb dL_texts_495 (by decide) ?_
  refine lv_icmp_ge (tgt := 505) hx hb dL_texts_497 rfl (fun hc => absurd hc (by decide)) (fun _ => ?_)
  refine lv_bipush (v := 40) hx hb dL_texts_500 (by decide) ?_
  refine lv_goto (tgt := 540) hx hb dL_texts_502 rfl ?_
  refine ar_append (rest := []) C0 hl.1 hW tfk300 (To_eq tfk301) ⟨Nat.le_of_ble_eq_true rfl, Nat.le_of_ble_eq_true rfl⟩ (Nat.le_of_ble_eq_true rfl) ⟨Nat.le_of_ble_eq_true rfl, Nat.le_of_ble_eq_true rfl⟩ dL_texts_540 (fun H locs hW => ?_)
  refine lv_iload_n hx hb dL_texts_543 rfl (lv_at hl 0 rfl) ?_
  refine lv_iconst (v := 1) hx hb dL_texts_544 (by decide) ?_
  refine lv_iadd hx hb dL_texts_545 ?_
  rw [(by decide : (23 : Int32) + (1 : Int32) = 24)]
  refine lv_icmp_eq (tgt := 551) hx hb dL_texts_546 rfl (fun _ => ?_) (fun hc => absurd (by decide) hc)
  exact W.widen (Nat.le_of_ble_eq_true rfl) (Nat.le_of_ble_eq_true rfl) (hK H locs ls hW hl)
set_option maxHeartbeats 2000000 in
theorem tx_10 (hfl : l.stackTraces = false) (C0 : CX g p s m args meth c RL cL_texts 2 (some .boolean)) (hl : lv_has ls 2 [(1, .int 23), (0, .ref (g.2.2.1 + 0))]) (hW : WA g tgn107 false Z0 s.heap H locs) (hK : ∀ (H : Heap) (locs : List Loc) (ls : Array Slot), WA g tgn119 false Z0 s.heap H locs → lv_has ls 2 [(1, .int 35), (0, .ref (g.2.2.1 + 0))] → W p l e rmL_texts s m args below meth c H locs 76 2340 (MQ below (QB g) args s rmL_texts.cells rmL_texts.slots (AA g)) (F0 m 551 ls [])) : W p l e rmL_texts s m args below meth c H locs 76 2340 (MQ below (QB g) args s rmL_texts.cells rmL_texts.slots (AA g)) (F0 m 551 ls []) := by
  have hx := C0.1; have hb := C0.2.1; have hown := C0.2.2.2.2.1; have hts := C0.2.2.2.2.2.1
  refine lv_iinc (k := 0) (v := 24) (lv' := [(1, .int 24), (0, .ref (g.2.2.1 + 0))]) hx hb dL_texts_551 hl rfl (by decide) (Nat.le_of_ble_eq_true rfl) rfl (fun ls hl => ?_)
  refine lv_goto (tgt := 487) hx hb dL_texts_554 rfl ?_
  refine lv_iload_n hx hb dL_texts_487 rfl (lv_at hl 0 rfl) ?_
  refine lv_bipush (v := 60) hx hb dL_texts_488 (by decide) ?_
  refine lv_icmp_ge (tgt := 557) hx hb dL_texts_490 rfl (fun hc => absurd hc (by decide)) (fun _ => ?_)
  refine lv_aload_n hx hb dL_texts_493 rfl (lv_at hl 1 rfl) ?_
  refine lv_iload_n hx hb dL_texts_494 rfl (lv_at hl 0 rfl) ?_
  refine lv_bipush (v := 56) hx hb dL_texts_495 (by decide) ?_
  refine lv_icmp_ge (tgt := 505) hx hb dL_texts_497 rfl (fun hc => absurd hc (by decide)) (fun _ => ?_)
  refine lv_bipush (v := 40) hx hb dL_texts_500 (by decide) ?_
  refine lv_goto (tgt := 540) hx hb dL_texts_502 rfl ?_
  refine ar_append (rest := []) C0 hl.1 hW tfk302 (To_eq tfk303) ⟨Nat.le_of_ble_eq_true rfl, Nat.le_of_ble_eq_true rfl⟩ (Nat.le_of_ble_eq_true rfl) ⟨Nat.le_of_ble_eq_true rfl, Nat.le_of_ble_eq_true rfl⟩ dL_texts_540 (fun H locs hW => ?_)
  refine lv_iload_n hx hb dL_texts_543 rfl (lv_at hl 0 rfl) ?_
  refine lv_iconst (v := 1) hx hb dL_texts_544 (by decide) ?_
  refine lv_iadd hx hb dL_texts_545 ?_
  rw [(by decide : (24 : Int32) + (1 : Int32) = 25)]
  refine lv_icmp_eq (tgt := 551) hx hb dL_texts_546 rfl (fun _ => ?_) (fun hc => absurd (by decide) hc)
  refine lv_iinc (k := 0) (v := 25) (lv' := [(1, .int 25), (0, .ref (g.2.2.1 + 0))]) hx hb dL_texts_551 hl rfl (by decide) (Nat.le_of_ble_eq_true rfl) rfl (fun ls hl => ?_)
  refine lv_goto (tgt := 487) hx hb dL_texts_554 rfl ?_
  refine lv_iload_n hx hb dL_texts_487 rfl (lv_at hl 0 rfl) ?_
  refine lv_bipush (v := 60) hx hb dL_texts_488 (by decide) ?_
  refine lv_icmp_ge (tgt := 557) hx hb dL_texts_490 rfl (fun hc => absurd hc (by decide)) (fun _ => ?_)
  refine lv_aload_n hx hb dL_texts_493 rfl (lv_at hl 1 rfl) ?_
  refine lv_iload_n hx hb dL_texts_494 rfl (lv_at hl 0 rfl) ?_
  refine lv_bipush (v := 56) hx hb dL_texts_495 (by decide) ?_
  refine lv_icmp_ge (tgt := 505) hx hb dL_texts_497 rfl (fun hc => absurd hc (by decide)) (fun _ => ?_)
  refine lv_bipush (v := 40) hx hb dL_texts_500 (by decide) ?_
  refine lv_goto (tgt := 540) hx hb dL_texts_502 rfl ?_
  refine ar_append (rest := []) C0 hl.1 hW tfk304 (To_eq tfk305) ⟨Nat.le_of_ble_eq_true rfl, Nat.le_of_ble_eq_true rfl⟩ (Nat.le_of_ble_eq_true rfl) ⟨Nat.le_of_ble_eq_true rfl, Nat.le_of_ble_eq_true rfl⟩ dL_texts_540 (fun H locs hW => ?_)
  refine lv_iload_n hx hb dL_texts_543 rfl (lv_at hl 0 rfl) ?_
  refine lv_iconst (v := 1) hx hb dL_texts_544 (by decide) ?_
  refine lv_iadd hx hb dL_texts_545 ?_
  rw [(by decide : (25 : Int32) + (1 : Int32) = 26)]
  refine lv_icmp_eq (tgt := 551) hx hb dL_texts_546 rfl (fun _ => ?_) (fun hc => absurd (by decide) hc)
  refine lv_iinc (k := 0) (v := 26) (lv' := [(1, .int 26), (0, .ref (g.2.2.1 + 0))]) hx hb dL_texts_551 hl rfl (by decide) (Nat.le_of_ble_eq_true rfl) rfl (fun ls hl => ?_)
  refine lv_goto (tgt := 487) hx hb dL_texts_554 rfl ?_
  refine lv_iload_n hx hb dL_texts_487 rfl (lv_at hl 0 rfl) ?_
  refine lv_bipush (v := 60) hx hb dL_texts_488 (by decide) ?_
  refine lv_icmp_ge (tgt := 557) hx hb dL_texts_490 rfl (fun hc => absurd hc (by decide)) (fun _ => ?_)
  refine lv_aload_n hx hb dL_texts_493 rfl (lv_at hl 1 rfl) ?_
  refine lv_iload_n hx hb dL_texts_494 rfl (lv_at hl 0 rfl) ?_
  refine lv_bipush (v := 56) hx hb dL_texts_495 (by decide) ?_
  refine lv_icmp_ge (tgt := 505) hx hb dL_texts_497 rfl (fun hc => absurd hc (by decide)) (fun _ => ?_)
  refine lv_bipush (v := 40) hx hb dL_texts_500 (by decide) ?_
  refine lv_goto (tgt := 540) hx hb dL_texts_502 rfl ?_
  refine ar_append (rest := []) C0 hl.1 hW tfk306 (To_eq tfk307) ⟨Nat.le_of_ble_eq_true rfl, Nat.le_of_ble_eq_true rfl⟩ (Nat.le_of_ble_eq_true rfl) ⟨Nat.le_of_ble_eq_true rfl, Nat.le_of_ble_eq_true rfl⟩ dL_texts_540 (fun H locs hW => ?_)
  refine lv_iload_n hx hb dL_texts_543 rfl (lv_at hl 0 rfl) ?_
  refine lv_iconst (v := 1) hx hb dL_texts_544 (by decide) ?_
  refine lv_iadd hx hb dL_texts_545 ?_
  rw [(by decide : (26 : Int32) + (1 : Int32) = 27)]
  refine lv_icmp_eq (tgt := 551) hx hb dL_texts_546 rfl (fun _ => ?_) (fun hc => absurd (by decide) hc)
  refine lv_iinc (k := 0) (v := 27) (lv' := [(1, .int 27), (0, .ref (g.2.2.1 + 0))]) hx hb dL_texts_551 hl rfl (by decide) (Nat.le_of_ble_eq_true rfl) rfl (fun ls hl => ?_)
  refine lv_goto (tgt := 487) hx hb dL_texts_554 rfl ?_
  refine lv_iload_n hx hb dL_texts_487 rfl (lv_at hl 0 rfl) ?_
  refine lv_bipush (v := 60) hx hb dL_texts_488 (by decide) ?_
  refine lv_icmp_ge (tgt := 557) hx hb dL_texts_490 rfl (fun hc => absurd hc (by decide)) (fun _ => ?_)
  refine lv_aload_n hx hb dL_texts_493 rfl (lv_at hl 1 rfl) ?_
  refine lv_iload_n hx hb dL_texts_494 rfl (lv_at hl 0 rfl) ?_
  refine lv_bipush (v := 56) hx hb dL_texts_495 (by decide) ?_
  refine lv_icmp_ge (tgt := 505) hx hb dL_texts_497 rfl (fun hc => absurd hc (by decide)) (fun _ => ?_)
  refine lv_bipush (v := 40) hx hb dL_texts_500 (by decide) ?_
  refine lv_goto (tgt := 540) hx hb dL_texts_502 rfl ?_
  refine ar_append (rest := []) C0 hl.1 hW tfk308 (To_eq tfk309) ⟨Nat.le_of_ble_eq_true rfl, Nat.le_of_ble_eq_true rfl⟩ (Nat.le_of_ble_eq_true rfl) ⟨Nat.le_of_ble_eq_true rfl, Nat.le_of_ble_eq_true rfl⟩ dL_texts_540 (fun H locs hW => ?_)
  refine lv_iload_n hx hb dL_texts_543 rfl (lv_at hl 0 rfl) ?_
  refine lv_iconst (v := 1) hx hb dL_texts_544 (by decide) ?_
  refine lv_iadd hx hb dL_texts_545 ?_
  rw [(by decide : (27 : Int32) + (1 : Int32) = 28)]
  refine lv_icmp_eq (tgt := 551) hx hb dL_texts_546 rfl (fun _ => ?_) (fun hc => absurd (by decide) hc)
  refine lv_iinc (k := 0) (v := 28) (lv' := [(1, .int 28), (0, .ref (g.2.2.1 + 0))]) hx hb dL_texts_551 hl rfl (by decide) (Nat.le_of_ble_eq_true rfl) rfl (fun ls hl => ?_)
  refine lv_goto (tgt := 487) hx hb dL_texts_554 rfl ?_
  refine lv_iload_n hx hb dL_texts_487 rfl (lv_at hl 0 rfl) ?_
  refine lv_bipush (v := 60) hx hb dL_texts_488 (by decide) ?_
  refine lv_icmp_ge (tgt := 557) hx hb dL_texts_490 rfl (fun hc => absurd hc (by decide)) (fun _ => ?_)
  refine lv_aload_n hx hb dL_texts_493 rfl (lv_at hl 1 rfl) ?_
  refine lv_iload_n hx hb dL_texts_494 rfl (lv_at hl 0 rfl) ?_
  refine lv_bipush (v := 56) hx hb dL_texts_495 (by decide) ?_
  refine lv_icmp_ge (tgt := 505) hx hb dL_texts_497 rfl (fun hc => absurd hc (by decide)) (fun _ => ?_)
  refine lv_bipush (v := 40) hx hb dL_texts_500 (by decide) ?_
  refine lv_goto (tgt := 540) hx hb dL_texts_502 rfl ?_
  refine ar_append (rest := []) C0 hl.1 hW tfk310 (To_eq tfk311) ⟨Nat.le_of_ble_eq_true rfl, Nat.le_of_ble_eq_true rfl⟩ (Nat.le_of_ble_eq_true rfl) ⟨Nat.le_of_ble_eq_true rfl, Nat.le_of_ble_eq_true rfl⟩ dL_texts_540 (fun H locs hW => ?_)
  refine lv_iload_n hx hb dL_texts_543 rfl (lv_at hl 0 rfl) ?_
  refine lv_iconst (v := 1) hx hb dL_texts_544 (by decide) ?_
  refine lv_iadd hx hb dL_texts_545 ?_
  rw [(by decide : (28 : Int32) + (1 : Int32) = 29)]
  refine lv_icmp_eq (tgt := 551) hx hb dL_texts_546 rfl (fun _ => ?_) (fun hc => absurd (by decide) hc)
  refine lv_iinc (k := 0) (v := 29) (lv' := [(1, .int 29), (0, .ref (g.2.2.1 + 0))]) hx hb dL_texts_551 hl rfl (by decide) (Nat.le_of_ble_eq_true rfl) rfl (fun ls hl => ?_)
  refine lv_goto (tgt := 487) hx hb dL_texts_554 rfl ?_
  refine lv_iload_n hx hb dL_texts_487 rfl (lv_at hl 0 rfl) ?_
  refine lv_bipush (v := 60) hx hb dL_texts_488 (by decide) ?_
  refine lv_icmp_ge (tgt := 557) hx hb dL_texts_490 rfl (fun hc => absurd hc (by decide)) (fun _ => ?_)
  refine lv_aload_n hx hb dL_texts_493 rfl (lv_at hl 1 rfl) ?_
  refine lv_iload_n hx hb dL_texts_494 rfl (lv_at hl 0 rfl) ?_
  refine lv_bipush (v := 56) hx hb dL_texts_495 (by decide) ?_
  refine lv_icmp_ge (tgt := 505) hx hb dL_texts_497 rfl (fun hc => absurd hc (by decide)) (fun _ => ?_)
  refine lv_bipush (v := 40) hx hb dL_texts_500 (by decide) ?_
  refine lv_goto (tgt := 540) hx hb dL_texts_502 rfl ?_
  refine ar_append (rest := []) C0 hl.1 hW tfk312 (To_eq tfk313) ⟨Nat.le_of_ble_eq_true rfl, Nat.le_of_ble_eq_true rfl⟩ (Nat.le_of_ble_eq_true rfl) ⟨Nat.le_of_ble_eq_true rfl, Nat.le_of_ble_eq_true rfl⟩ dL_texts_540 (fun H locs hW => ?_)
  refine lv_iload_n hx hb dL_texts_543 rfl (lv_at hl 0 rfl) ?_
  refine lv_iconst (v := 1) hx hb dL_texts_544 (by decide) ?_
  refine lv_iadd hx hb dL_texts_545 ?_
  rw [(by decide : (29 : Int32) + (1 : Int32) = 30)]
  refine lv_icmp_eq (tgt := 551) hx hb dL_texts_546 rfl (fun _ => ?_) (fun hc => absurd (by decide) hc)
  refine lv_iinc (k := 0) (v := 30) (lv' := [(1, .int 30), (0, .ref (g.2.2.1 + 0))]) hx hb dL_texts_551 hl rfl (by decide) (Nat.le_of_ble_eq_true rfl) rfl (fun ls hl => ?_)
  refine lv_goto (tgt := 487) hx hb dL_texts_554 rfl ?_
  refine lv_iload_n hx hb dL_texts_487 rfl (lv_at hl 0 rfl) ?_
  refine lv_bipush (v := 60) hx hb dL_texts_488 (by decide) ?_
  refine lv_icmp_ge (tgt := 557) hx hb dL_texts_490 rfl (fun hc => absurd hc (by decide)) (fun _ => ?_)
  refine lv_aload_n hx hb dL_texts_493 rfl (lv_at hl 1 rfl) ?_
  refine lv_iload_n hx hb dL_texts_494 rfl (lv_at hl 0 rfl) ?_
  refine lv_bipush (v := 56) hx hb dL_texts_495 (by decide) ?_
  refine lv_icmp_ge (tgt := 505) hx hb dL_texts_497 rfl (fun hc => absurd hc (by decide)) (fun _ => ?_)
  refine lv_bipush (v := 40) hx hb dL_texts_500 (by decide) ?_
  refine lv_goto (tgt := 540) hx hb dL_texts_502 rfl ?_
  refine ar_append (rest := []) C0 hl.1 hW tfk314 (To_eq tfk315) ⟨Nat.le_of_ble_eq_true rfl, Nat.le_of_ble_eq_true rfl⟩ (Nat.le_of_ble_eq_true rfl) ⟨Nat.le_of_ble_eq_true rfl, Nat.le_of_ble_eq_true rfl⟩ dL_texts_540 (fun H locs hW => ?_)
  refine lv_iload_n hx hb dL_texts_543 rfl (lv_at hl 0 rfl) ?_
  refine lv_iconst (v := 1) hx hb dL_texts_544 (by decide) ?_
  refine lv_iadd hx hb dL_texts_545 ?_
  rw [(by decide : (30 : Int32) + (1 : Int32) = 31)]
  refine lv_icmp_eq (tgt := 551) hx hb dL_texts_546 rfl (fun _ => ?_) (fun hc => absurd (by decide) hc)
  refine lv_iinc (k := 0) (v := 31) (lv' := [(1, .int 31), (0, .ref (g.2.2.1 + 0))]) hx hb dL_texts_551 hl rfl (by decide) (Nat.le_of_ble_eq_true rfl) rfl (fun ls hl => ?_)
  refine lv_goto (tgt := 487) hx hb dL_texts_554 rfl ?_
  refine lv_iload_n hx hb dL_texts_487 rfl (lv_at hl 0 rfl) ?_
  refine lv_bipush (v := 60) hx hb dL_texts_488 (by decide) ?_
  refine lv_icmp_ge (tgt := 557) hx hb dL_texts_490 rfl (fun hc => absurd hc (by decide)) (fun _ => ?_)
  refine lv_aload_n hx hb dL_texts_493 rfl (lv_at hl 1 rfl) ?_
  refine lv_iload_n hx hb dL_texts_494 rfl (lv_at hl 0 rfl) ?_
  refine lv_bipush (v := 56) hx hb dL_texts_495 (by decide) ?_
  refine lv_icmp_ge (tgt := 505) hx hb dL_texts_497 rfl (fun hc => absurd hc (by decide)) (fun _ => ?_)
  refine lv_bipush (v := 40) hx hb dL_texts_500 (by decide) ?_
  refine lv_goto (tgt := 540) hx hb dL_texts_502 rfl ?_
  refine ar_append (rest := []) C0 hl.1 hW tfk316 (To_eq tfk317) ⟨Nat.le_of_ble_eq_true rfl, Nat.le_of_ble_eq_true rfl⟩ (Nat.le_of_ble_eq_true rfl) ⟨Nat.le_of_ble_eq_true rfl, Nat.le_of_ble_eq_true rfl⟩ dL_texts_540 (fun H locs hW => ?_)
  refine lv_iload_n hx hb dL_texts_543 rfl (lv_at hl 0 rfl) ?_
  refine lv_iconst (v := 1) hx hb dL_texts_544 (by decide) ?_
  refine lv_iadd hx hb dL_texts_545 ?_
  rw [(by decide : (31 : Int32) + (1 : Int32) = 32)]
  refine lv_icmp_eq (tgt := 551) hx hb dL_texts_546 rfl (fun _ => ?_) (fun hc => absurd (by decide) hc)
  refine lv_iinc (k := 0) (v := 32) (lv' := [(1, .int 32), (0, .ref (g.2.2.1 + 0))]) hx hb dL_texts_551 hl rfl (by decide) (Nat.le_of_ble_eq_true rfl) rfl (fun ls hl => ?_)
  refine lv_goto (tgt := 487) hx hb dL_texts_554 rfl ?_
  refine lv_iload_n hx hb dL_texts_487 rfl (lv_at hl 0 rfl) ?_
  refine lv_bipush (v := 60) hx hb dL_texts_488 (by decide) ?_
  refine lv_icmp_ge (tgt := 557) hx hb dL_texts_490 rfl (fun hc => absurd hc (by decide)) (fun _ => ?_)
  refine lv_aload_n hx hb dL_texts_493 rfl (lv_at hl 1 rfl) ?_
  refine lv_iload_n hx hb dL_texts_494 rfl (lv_at hl 0 rfl) ?_
  refine lv_bipush (v := 56) hx hb dL_texts_495 (by decide) ?_
  refine lv_icmp_ge (tgt := 505) hx hb dL_texts_497 rfl (fun hc => absurd hc (by decide)) (fun _ => ?_)
  refine lv_bipush (v := 40) hx hb dL_texts_500 (by decide) ?_
  refine lv_goto (tgt := 540) hx hb dL_texts_502 rfl ?_
  refine ar_append (rest := []) C0 hl.1 hW tfk318 (To_eq tfk319) ⟨Nat.le_of_ble_eq_true rfl, Nat.le_of_ble_eq_true rfl⟩ (Nat.le_of_ble_eq_true rfl) ⟨Nat.le_of_ble_eq_true rfl, Nat.le_of_ble_eq_true rfl⟩ dL_texts_540 (fun H locs hW => ?_)
  refine lv_iload_n hx hb dL_texts_543 rfl (lv_at hl 0 rfl) ?_
  refine lv_iconst (v := 1) hx hb dL_texts_544 (by decide) ?_
  refine lv_iadd hx hb dL_texts_545 ?_
  rw [(by decide : (32 : Int32) + (1 : Int32) = 33)]
  refine lv_icmp_eq (tgt := 551) hx hb dL_texts_546 rfl (fun _ => ?_) (fun hc => absurd (by decide) hc)
  refine lv_iinc (k := 0) (v := 33) (lv' := [(1, .int 33), (0, .ref (g.2.2.1 + 0))]) hx hb dL_texts_551 hl rfl (by decide) (Nat.le_of_ble_eq_true rfl) rfl (fun ls hl => ?_)
  refine lv_goto (tgt := 487) hx hb dL_texts_554 rfl ?_
  refine lv_iload_n hx hb dL_texts_487 rfl (lv_at hl 0 rfl) ?_
  refine lv_bipush (v := 60) hx hb dL_texts_488 (by decide) ?_
  refine lv_icmp_ge (tgt := 557) hx hb dL_texts_490 rfl (fun hc => absurd hc (by decide)) (fun _ => ?_)
  refine lv_aload_n hx hb dL_texts_493 rfl (lv_at hl 1 rfl) ?_
  refine lv_iload_n hx hb dL_texts_494 rfl (lv_at hl 0 rfl) ?_
  refine lv_bipush (v := 56) hx hb dL_texts_495 (by decide) ?_
  refine lv_icmp_ge (tgt := 505) hx hb dL_texts_497 rfl (fun hc => absurd hc (by decide)) (fun _ => ?_)
  refine lv_bipush (v := 40) hx hb dL_texts_500 (by decide) ?_
  refine lv_goto (tgt := 540) hx hb dL_texts_502 rfl ?_
  refine ar_append (rest := []) C0 hl.1 hW tfk320 (To_eq tfk321) ⟨Nat.le_of_ble_eq_true rfl, Nat.le_of_ble_eq_true rfl⟩ (Nat.le_of_ble_eq_true rfl) ⟨Nat.le_of_ble_eq_true rfl, Nat.le_of_ble_eq_true rfl⟩ dL_texts_540 (fun H locs hW => ?_)
  refine lv_iload_n hx hb dL_texts_543 rfl (lv_at hl 0 rfl) ?_
  refine lv_iconst (v := 1) hx hb dL_texts_544 (by decide) ?_
  refine lv_iadd hx hb dL_texts_545 ?_
  rw [(by decide : (33 : Int32) + (1 : Int32) = 34)]
  refine lv_icmp_eq (tgt := 551) hx hb dL_texts_546 rfl (fun _ => ?_) (fun hc => absurd (by decide) hc)
  refine lv_iinc (k := 0) (v := 34) (lv' := [(1, .int 34), (0, .ref (g.2.2.1 + 0))]) hx hb dL_texts_551 hl rfl (by decide) (Nat.le_of_ble_eq_true rfl) rfl (fun ls hl => ?_)
  refine lv_goto (tgt := 487) hx hb dL_texts_554 rfl ?_
  refine lv_iload_n hx hb dL_texts_487 rfl (lv_at hl 0 rfl) ?_
  refine lv_bipush (v := 60) hx hb dL_texts_488 (by decide) ?_
  refine lv_icmp_ge (tgt := 557) hx hb dL_texts_490 rfl (fun hc => absurd hc (by decide)) (fun _ => ?_)
  refine lv_aload_n hx hb dL_texts_493 rfl (lv_at hl 1 rfl) ?_
  refine lv_iload_n hx hb dL_texts_494 rfl (lv_at hl 0 rfl) ?_
  refine lv_bipush (v := 56) hx hb dL_texts_495 (by decide) ?_
  refine lv_icmp_ge (tgt := 505) hx hb dL_texts_497 rfl (fun hc => absurd hc (by decide)) (fun _ => ?_)
  refine lv_bipush (v := 40) hx hb dL_texts_500 (by decide) ?_
  refine lv_goto (tgt := 540) hx hb dL_texts_502 rfl ?_
  refine ar_append (rest := []) C0 hl.1 hW tfk322 (To_eq tfk323) ⟨Nat.le_of_ble_eq_true rfl, Nat.le_of_ble_eq_true rfl⟩ (Nat.le_of_ble_eq_true rfl) ⟨Nat.le_of_ble_eq_true rfl, Nat.le_of_ble_eq_true rfl⟩ dL_texts_540 (fun H locs hW => ?_)
  refine lv_iload_n hx hb dL_texts_543 rfl (lv_at hl 0 rfl) ?_
  refine lv_iconst (v := 1) hx hb dL_texts_544 (by decide) ?_
  refine lv_iadd hx hb dL_texts_545 ?_
  rw [(by decide : (34 : Int32) + (1 : Int32) = 35)]
  refine lv_icmp_eq (tgt := 551) hx hb dL_texts_546 rfl (fun _ => ?_) (fun hc => absurd (by decide) hc)
  refine lv_iinc (k := 0) (v := 35) (lv' := [(1, .int 35), (0, .ref (g.2.2.1 + 0))]) hx hb dL_texts_551 hl rfl (by decide) (Nat.le_of_ble_eq_true rfl) rfl (fun ls hl => ?_)
  refine lv_goto (tgt := 487) hx hb dL_texts_554 rfl ?_
  refine lv_iload_n hx hb dL_texts_487 rfl (lv_at hl 0 rfl) ?_
  refine lv_bipush (v := 60) hx hb dL_texts_488 (by decide) ?_
  refine lv_icmp_ge (tgt := 557) hx hb dL_texts_490 rfl (fun hc => absurd hc (by decide)) (fun _ => ?_)
  refine lv_aload_n hx hb dL_texts_493 rfl (lv_at hl 1 rfl) ?_
  refine lv_iload_n hx hb dL_texts_494 rfl (lv_at hl 0 rfl) ?_
  refine lv_bipush (v := 56) hx hb dL_texts_495 (by decide) ?_
  refine lv_icmp_ge (tgt := 505) hx hb dL_texts_497 rfl (fun hc => absurd hc (by decide)) (fun _ => ?_)
  refine lv_bipush (v := 40) hx hb dL_texts_500 (by decide) ?_
  refine lv_goto (tgt := 540) hx hb dL_texts_502 rfl ?_
  refine ar_append (rest := []) C0 hl.1 hW tfk324 (To_eq tfk325) ⟨Nat.le_of_ble_eq_true rfl, Nat.le_of_ble_eq_true rfl⟩ (Nat.le_of_ble_eq_true rfl) ⟨Nat.le_of_ble_eq_true rfl, Nat.le_of_ble_eq_true rfl⟩ dL_texts_540 (fun H locs hW => ?_)
  refine lv_iload_n hx hb dL_texts_543 rfl (lv_at hl 0 rfl) ?_
  refine lv_iconst (v := 1) hx hb dL_texts_544 (by decide) ?_
  refine lv_iadd hx hb dL_texts_545 ?_
  rw [(by decide : (35 : Int32) + (1 : Int32) = 36)]
  refine lv_icmp_eq (tgt := 551) hx hb dL_texts_546 rfl (fun _ => ?_) (fun hc => absurd (by decide) hc)
  exact W.widen (Nat.le_of_ble_eq_true rfl) (Nat.le_of_ble_eq_true rfl) (hK H locs ls hW hl)
set_option maxHeartbeats 2000000 in
theorem tx_11 (hfl : l.stackTraces = false) (C0 : CX g p s m args meth c RL cL_texts 2 (some .boolean)) (hl : lv_has ls 2 [(1, .int 35), (0, .ref (g.2.2.1 + 0))]) (hW : WA g tgn119 false Z0 s.heap H locs) (hK : ∀ (H : Heap) (locs : List Loc) (ls : Array Slot), WA g tgn131 false Z0 s.heap H locs → lv_has ls 2 [(1, .int 47), (0, .ref (g.2.2.1 + 0))] → W p l e rmL_texts s m args below meth c H locs 76 2340 (MQ below (QB g) args s rmL_texts.cells rmL_texts.slots (AA g)) (F0 m 551 ls [])) : W p l e rmL_texts s m args below meth c H locs 76 2340 (MQ below (QB g) args s rmL_texts.cells rmL_texts.slots (AA g)) (F0 m 551 ls []) := by
  have hx := C0.1; have hb := C0.2.1; have hown := C0.2.2.2.2.1; have hts := C0.2.2.2.2.2.1
  refine lv_iinc (k := 0) (v := 36) (lv' := [(1, .int 36), (0, .ref (g.2.2.1 + 0))]) hx hb dL_texts_551 hl rfl (by decide) (Nat.le_of_ble_eq_true rfl) rfl (fun ls hl => ?_)
  refine lv_goto (tgt := 487) hx hb dL_texts_554 rfl ?_
  refine lv_iload_n hx hb dL_texts_487 rfl (lv_at hl 0 rfl) ?_
  refine lv_bipush (v := 60) hx hb dL_texts_488 (by decide) ?_
  refine lv_icmp_ge (tgt := 557) hx hb dL_texts_490 rfl (fun hc => absurd hc (by decide)) (fun _ => ?_)
  refine lv_aload_n hx hb dL_texts_493 rfl (lv_at hl 1 rfl) ?_
  refine lv_iload_n hx hb dL_texts_494 rfl (lv_at hl 0 rfl) ?_
  refine lv_bipush (v := 56) hx hb dL_texts_495 (by decide) ?_
  refine lv_icmp_ge (tgt := 505) hx hb dL_texts_497 rfl (fun hc => absurd hc (by decide)) (fun _ => ?_)
  refine lv_bipush (v := 40) hx hb dL_texts_500 (by decide) ?_
  refine lv_goto (tgt := 540) hx hb dL_texts_502 rfl ?_
  refine ar_append (rest := []) C0 hl.1 hW tfk326 (To_eq tfk327) ⟨Nat.le_of_ble_eq_true rfl, Nat.le_of_ble_eq_true rfl⟩ (Nat.le_of_ble_eq_true rfl) ⟨Nat.le_of_ble_eq_true rfl, Nat.le_of_ble_eq_true rfl⟩ dL_texts_540 (fun H locs hW => ?_)
  refine lv_iload_n hx hb dL_texts_543 rfl (lv_at hl 0 rfl) ?_
  refine lv_iconst (v := 1) hx hb dL_texts_544 (by decide) ?_
  refine lv_iadd hx hb dL_texts_545 ?_
  rw [(by decide : (36 : Int32) + (1 : Int32) = 37)]
  refine lv_icmp_eq (tgt := 551) hx hb dL_texts_546 rfl (fun _ => ?_) (fun hc => absurd (by decide) hc)
  refine lv_iinc (k := 0) (v := 37) (lv' := [(1, .int 37), (0, .ref (g.2.2.1 + 0))]) hx hb dL_texts_551 hl rfl (by decide) (Nat.le_of_ble_eq_true rfl) rfl (fun ls hl => ?_)
  refine lv_goto (tgt := 487) hx hb dL_texts_554 rfl ?_
  refine lv_iload_n hx hb dL_texts_487 rfl (lv_at hl 0 rfl) ?_
  refine lv_bipush (v := 60) hx hb dL_texts_488 (by decide) ?_
  refine lv_icmp_ge (tgt := 557) hx hb dL_texts_490 rfl (fun hc => absurd hc (by decide)) (fun _ => ?_)
  refine lv_aload_n hx hb dL_texts_493 rfl (lv_at hl 1 rfl) ?_
  refine lv_iload_n hx hb dL_texts_494 rfl (lv_at hl 0 rfl) ?_
  refine lv_bipush (v := 56) hx hb dL_texts_495 (by decide) ?_
  refine lv_icmp_ge (tgt := 505) hx hb dL_texts_497 rfl (fun hc => absurd hc (by decide)) (fun _ => ?_)
  refine lv_bipush (v := 40) hx hb dL_texts_500 (by decide) ?_
  refine lv_goto (tgt := 540) hx hb dL_texts_502 rfl ?_
  refine ar_append (rest := []) C0 hl.1 hW tfk328 (To_eq tfk329) ⟨Nat.le_of_ble_eq_true rfl, Nat.le_of_ble_eq_true rfl⟩ (Nat.le_of_ble_eq_true rfl) ⟨Nat.le_of_ble_eq_true rfl, Nat.le_of_ble_eq_true rfl⟩ dL_texts_540 (fun H locs hW => ?_)
  refine lv_iload_n hx hb dL_texts_543 rfl (lv_at hl 0 rfl) ?_
  refine lv_iconst (v := 1) hx hb dL_texts_544 (by decide) ?_
  refine lv_iadd hx hb dL_texts_545 ?_
  rw [(by decide : (37 : Int32) + (1 : Int32) = 38)]
  refine lv_icmp_eq (tgt := 551) hx hb dL_texts_546 rfl (fun _ => ?_) (fun hc => absurd (by decide) hc)
  refine lv_iinc (k := 0) (v := 38) (lv' := [(1, .int 38), (0, .ref (g.2.2.1 + 0))]) hx hb dL_texts_551 hl rfl (by decide) (Nat.le_of_ble_eq_true rfl) rfl (fun ls hl => ?_)
  refine lv_goto (tgt := 487) hx hb dL_texts_554 rfl ?_
  refine lv_iload_n hx hb dL_texts_487 rfl (lv_at hl 0 rfl) ?_
  refine lv_bipush (v := 60) hx hb dL_texts_488 (by decide) ?_
  refine lv_icmp_ge (tgt := 557) hx hb dL_texts_490 rfl (fun hc => absurd hc (by decide)) (fun _ => ?_)
  refine lv_aload_n hx hb dL_texts_493 rfl (lv_at hl 1 rfl) ?_
  refine lv_iload_n hx hb dL_texts_494 rfl (lv_at hl 0 rfl) ?_
  refine lv_bipush (v := 56) hx hb dL_texts_495 (by decide) ?_
  refine lv_icmp_ge (tgt := 505) hx hb dL_texts_497 rfl (fun hc => absurd hc (by decide)) (fun _ => ?_)
  refine lv_bipush (v := 40) hx hb dL_texts_500 (by decide) ?_
  refine lv_goto (tgt := 540) hx hb dL_texts_502 rfl ?_
  refine ar_append (rest := []) C0 hl.1 hW tfk330 (To_eq tfk331) ⟨Nat.le_of_ble_eq_true rfl, Nat.le_of_ble_eq_true rfl⟩ (Nat.le_of_ble_eq_true rfl) ⟨Nat.le_of_ble_eq_true rfl, Nat.le_of_ble_eq_true rfl⟩ dL_texts_540 (fun H locs hW => ?_)
  refine lv_iload_n hx hb dL_texts_543 rfl (lv_at hl 0 rfl) ?_
  refine lv_iconst (v := 1) hx hb dL_texts_544 (by decide) ?_
  refine lv_iadd hx hb dL_texts_545 ?_
  rw [(by decide : (38 : Int32) + (1 : Int32) = 39)]
  refine lv_icmp_eq (tgt := 551) hx hb dL_texts_546 rfl (fun _ => ?_) (fun hc => absurd (by decide) hc)
  refine lv_iinc (k := 0) (v := 39) (lv' := [(1, .int 39), (0, .ref (g.2.2.1 + 0))]) hx hb dL_texts_551 hl rfl (by decide) (Nat.le_of_ble_eq_true rfl) rfl (fun ls hl => ?_)
  refine lv_goto (tgt := 487) hx hb dL_texts_554 rfl ?_
  refine lv_iload_n hx hb dL_texts_487 rfl (lv_at hl 0 rfl) ?_
  refine lv_bipush (v := 60) hx hb dL_texts_488 (by decide) ?_
  refine lv_icmp_ge (tgt := 557) hx hb dL_texts_490 rfl (fun hc => absurd hc (by decide)) (fun _ => ?_)
  refine lv_aload_n hx hb dL_texts_493 rfl (lv_at hl 1 rfl) ?_
  refine lv_iload_n hx hb dL_texts_494 rfl (lv_at hl 0 rfl) ?_
  refine lv_bipush (v := 56) hx hb dL_texts_495 (by decide) ?_
  refine lv_icmp_ge (tgt := 505) hx hb dL_texts_497 rfl (fun hc => absurd hc (by decide)) (fun _ => ?_)
  refine lv_bipush (v := 40) hx hb dL_texts_500 (by decide) ?_
  refine lv_goto (tgt := 540) hx hb dL_texts_502 rfl ?_
  refine ar_append (rest := []) C0 hl.1 hW tfk332 (To_eq tfk333) ⟨Nat.le_of_ble_eq_true rfl, Nat.le_of_ble_eq_true rfl⟩ (Nat.le_of_ble_eq_true rfl) ⟨Nat.le_of_ble_eq_true rfl, Nat.le_of_ble_eq_true rfl⟩ dL_texts_540 (fun H locs hW => ?_)
  refine lv_iload_n hx hb dL_texts_543 rfl (lv_at hl 0 rfl) ?_
  refine lv_iconst (v := 1) hx hb dL_texts_544 (by decide) ?_
  refine lv_iadd hx hb dL_texts_545 ?_
  rw [(by decide : (39 : Int32) + (1 : Int32) = 40)]
  refine lv_icmp_eq (tgt := 551) hx hb dL_texts_546 rfl (fun _ => ?_) (fun hc => absurd (by decide) hc)
  refine lv_iinc (k := 0) (v := 40) (lv' := [(1, .int 40), (0, .ref (g.2.2.1 + 0))]) hx hb dL_texts_551 hl rfl (by decide) (Nat.le_of_ble_eq_true rfl) rfl (fun ls hl => ?_)
  refine lv_goto (tgt := 487) hx hb dL_texts_554 rfl ?_
  refine lv_iload_n hx hb dL_texts_487 rfl (lv_at hl 0 rfl) ?_
  refine lv_bipush (v := 60) hx hb dL_texts_488 (by decide) ?_
  refine lv_icmp_ge (tgt := 557) hx hb dL_texts_490 rfl (fun hc => absurd hc (by decide)) (fun _ => ?_)
  refine lv_aload_n hx hb dL_texts_493 rfl (lv_at hl 1 rfl) ?_
  refine lv_iload_n hx hb dL_texts_494 rfl (lv_at hl 0 rfl) ?_
  refine lv_bipush (v := 56) hx hb dL_texts_495 (by decide) ?_
  refine lv_icmp_ge (tgt := 505) hx hb dL_texts_497 rfl (fun hc => absurd hc (by decide)) (fun _ => ?_)
  refine lv_bipush (v := 40) hx hb dL_texts_500 (by decide) ?_
  refine lv_goto (tgt := 540) hx hb dL_texts_502 rfl ?_
  refine ar_append (rest := []) C0 hl.1 hW tfk334 (To_eq tfk335) ⟨Nat.le_of_ble_eq_true rfl, Nat.le_of_ble_eq_true rfl⟩ (Nat.le_of_ble_eq_true rfl) ⟨Nat.le_of_ble_eq_true rfl, Nat.le_of_ble_eq_true rfl⟩ dL_texts_540 (fun H locs hW => ?_)
  refine lv_iload_n hx hb dL_texts_543 rfl (lv_at hl 0 rfl) ?_
  refine lv_iconst (v := 1) hx hb dL_texts_544 (by decide) ?_
  refine lv_iadd hx hb dL_texts_545 ?_
  rw [(by decide : (40 : Int32) + (1 : Int32) = 41)]
  refine lv_icmp_eq (tgt := 551) hx hb dL_texts_546 rfl (fun _ => ?_) (fun hc => absurd (by decide) hc)
  refine lv_iinc (k := 0) (v := 41) (lv' := [(1, .int 41), (0, .ref (g.2.2.1 + 0))]) hx hb dL_texts_551 hl rfl (by decide) (Nat.le_of_ble_eq_true rfl) rfl (fun ls hl => ?_)
  refine lv_goto (tgt := 487) hx hb dL_texts_554 rfl ?_
  refine lv_iload_n hx hb dL_texts_487 rfl (lv_at hl 0 rfl) ?_
  refine lv_bipush (v := 60) hx hb dL_texts_488 (by decide) ?_
  refine lv_icmp_ge (tgt := 557) hx hb dL_texts_490 rfl (fun hc => absurd hc (by decide)) (fun _ => ?_)
  refine lv_aload_n hx hb dL_texts_493 rfl (lv_at hl 1 rfl) ?_
  refine lv_iload_n hx hb dL_texts_494 rfl (lv_at hl 0 rfl) ?_
  refine lv_bipush (v := 56) hx hb dL_texts_495 (by decide) ?_
  refine lv_icmp_ge (tgt := 505) hx hb dL_texts_497 rfl (fun hc => absurd hc (by decide)) (fun _ => ?_)
  refine lv_bipush (v := 40) hx hb dL_texts_500 (by decide) ?_
  refine lv_goto (tgt := 540) hx hb dL_texts_502 rfl ?_
  refine ar_append (rest := []) C0 hl.1 hW tfk336 (To_eq tfk337) ⟨Nat.le_of_ble_eq_true rfl, Nat.le_of_ble_eq_true rfl⟩ (Nat.le_of_ble_eq_true rfl) ⟨Nat.le_of_ble_eq_true rfl, Nat.le_of_ble_eq_true rfl⟩ dL_texts_540 (fun H locs hW => ?_)
  refine lv_iload_n hx hb dL_texts_543 rfl (lv_at hl 0 rfl) ?_
  refine lv_iconst (v := 1) hx hb dL_texts_544 (by decide) ?_
  refine lv_iadd hx hb dL_texts_545 ?_
  rw [(by decide : (41 : Int32) + (1 : Int32) = 42)]
  refine lv_icmp_eq (tgt := 551) hx hb dL_texts_546 rfl (fun _ => ?_) (fun hc => absurd (by decide) hc)
  refine lv_iinc (k := 0) (v := 42) (lv' := [(1, .int 42), (0, .ref (g.2.2.1 + 0))]) hx hb dL_texts_551 hl rfl (by decide) (Nat.le_of_ble_eq_true rfl) rfl (fun ls hl => ?_)
  refine lv_goto (tgt := 487) hx hb dL_texts_554 rfl ?_
  refine lv_iload_n hx hb dL_texts_487 rfl (lv_at hl 0 rfl) ?_
  refine lv_bipush (v := 60) hx hb dL_texts_488 (by decide) ?_
  refine lv_icmp_ge (tgt := 557) hx hb dL_texts_490 rfl (fun hc => absurd hc (by decide)) (fun _ => ?_)
  refine lv_aload_n hx hb dL_texts_493 rfl (lv_at hl 1 rfl) ?_
  refine lv_iload_n hx hb dL_texts_494 rfl (lv_at hl 0 rfl) ?_
  refine lv_bipush (v := 56) hx hb dL_texts_495 (by decide) ?_
  refine lv_icmp_ge (tgt := 505) hx hb dL_texts_497 rfl (fun hc => absurd hc (by decide)) (fun _ => ?_)
  refine lv_bipush (v := 40) hx hb dL_texts_500 (by decide) ?_
  refine lv_goto (tgt := 540) hx hb dL_texts_502 rfl ?_
  refine ar_append (rest := []) C0 hl.1 hW tfk338 (To_eq tfk339) ⟨Nat.le_of_ble_eq_true rfl, Nat.le_of_ble_eq_true rfl⟩ (Nat.le_of_ble_eq_true rfl) ⟨Nat.le_of_ble_eq_true rfl, Nat.le_of_ble_eq_true rfl⟩ dL_texts_540 (fun H locs hW => ?_)
  refine lv_iload_n hx hb dL_texts_543 rfl (lv_at hl 0 rfl) ?_
  refine lv_iconst (v := 1) hx hb dL_texts_544 (by decide) ?_
  refine lv_iadd hx hb dL_texts_545 ?_
  rw [(by decide : (42 : Int32) + (1 : Int32) = 43)]
  refine lv_icmp_eq (tgt := 551) hx hb dL_texts_546 rfl (fun _ => ?_) (fun hc => absurd (by decide) hc)
  refine lv_iinc (k := 0) (v := 43) (lv' := [(1, .int 43), (0, .ref (g.2.2.1 + 0))]) hx hb dL_texts_551 hl rfl (by decide) (Nat.le_of_ble_eq_true rfl) rfl (fun ls hl => ?_)
  refine lv_goto (tgt := 487) hx hb dL_texts_554 rfl ?_
  refine lv_iload_n hx hb dL_texts_487 rfl (lv_at hl 0 rfl) ?_
  refine lv_bipush (v := 60) hx hb dL_texts_488 (by decide) ?_
  refine lv_icmp_ge (tgt := 557) hx hb dL_texts_490 rfl (fun hc => absurd hc (by decide)) (fun _ => ?_)
  refine lv_aload_n hx hb dL_texts_493 rfl (lv_at hl 1 rfl) ?_
  refine lv_iload_n hx hb dL_texts_494 rfl (lv_at hl 0 rfl) ?_
  refine lv_bipush (v := 56) hx hb dL_texts_495 (by decide) ?_
  refine lv_icmp_ge (tgt := 505) hx hb dL_texts_497 rfl (fun hc => absurd hc (by decide)) (fun _ => ?_)
  refine lv_bipush (v := 40) hx hb dL_texts_500 (by decide) ?_
  refine lv_goto (tgt := 540) hx hb dL_texts_502 rfl ?_
  refine ar_append (rest := []) C0 hl.1 hW tfk340 (To_eq tfk341) ⟨Nat.le_of_ble_eq_true rfl, Nat.le_of_ble_eq_true rfl⟩ (Nat.le_of_ble_eq_true rfl) ⟨Nat.le_of_ble_eq_true rfl, Nat.le_of_ble_eq_true rfl⟩ dL_texts_540 (fun H locs hW => ?_)
  refine lv_iload_n hx hb dL_texts_543 rfl (lv_at hl 0 rfl) ?_
  refine lv_iconst (v := 1) hx hb dL_texts_544 (by decide) ?_
  refine lv_iadd hx hb dL_texts_545 ?_
  rw [(by decide : (43 : Int32) + (1 : Int32) = 44)]
  refine lv_icmp_eq (tgt := 551) hx hb dL_texts_546 rfl (fun _ => ?_) (fun hc => absurd (by decide) hc)
  refine lv_iinc (k := 0) (v := 44) (lv' := [(1, .int 44), (0, .ref (g.2.2.1 + 0))]) hx hb dL_texts_551 hl rfl (by decide) (Nat.le_of_ble_eq_true rfl) rfl (fun ls hl => ?_)
  refine lv_goto (tgt := 487) hx hb dL_texts_554 rfl ?_
  refine lv_iload_n hx hb dL_texts_487 rfl (lv_at hl 0 rfl) ?_
  refine lv_bipush (v := 60) hx hb dL_texts_488 (by decide) ?_
  refine lv_icmp_ge (tgt := 557) hx hb dL_texts_490 rfl (fun hc => absurd hc (by decide)) (fun _ => ?_)
  refine lv_aload_n hx hb dL_texts_493 rfl (lv_at hl 1 rfl) ?_
  refine lv_iload_n hx hb dL_texts_494 rfl (lv_at hl 0 rfl) ?_
  refine lv_bipush (v := 56) hx hb dL_texts_495 (by decide) ?_
  refine lv_icmp_ge (tgt := 505) hx hb dL_texts_497 rfl (fun hc => absurd hc (by decide)) (fun _ => ?_)
  refine lv_bipush (v := 40) hx hb dL_texts_500 (by decide) ?_
  refine lv_goto (tgt := 540) hx hb dL_texts_502 rfl ?_
  refine ar_append (rest := []) C0 hl.1 hW tfk342 (To_eq tfk343) ⟨Nat.le_of_ble_eq_true rfl, Nat.le_of_ble_eq_true rfl⟩ (Nat.le_of_ble_eq_true rfl) ⟨Nat.le_of_ble_eq_true rfl, Nat.le_of_ble_eq_true rfl⟩ dL_texts_540 (fun H locs hW => ?_)
  refine lv_iload_n hx hb dL_texts_543 rfl (lv_at hl 0 rfl) ?_
  refine lv_iconst (v := 1) hx hb dL_texts_544 (by decide) ?_
  refine lv_iadd hx hb dL_texts_545 ?_
  rw [(by decide : (44 : Int32) + (1 : Int32) = 45)]
  refine lv_icmp_eq (tgt := 551) hx hb dL_texts_546 rfl (fun _ => ?_) (fun hc => absurd (by decide) hc)
  refine lv_iinc (k := 0) (v := 45) (lv' := [(1, .int 45), (0, .ref (g.2.2.1 + 0))]) hx hb dL_texts_551 hl rfl (by decide) (Nat.le_of_ble_eq_true rfl) rfl (fun ls hl => ?_)
  refine lv_goto (tgt := 487) hx hb dL_texts_554 rfl ?_
  refine lv_iload_n hx hb dL_texts_487 rfl (lv_at hl 0 rfl) ?_
  refine lv_bipush (v := 60) hx hb dL_texts_488 (by decide) ?_
  refine lv_icmp_ge (tgt := 557) hx hb dL_texts_490 rfl (fun hc => absurd hc (by decide)) (fun _ => ?_)
  refine lv_aload_n hx hb dL_texts_493 rfl (lv_at hl 1 rfl) ?_
  refine lv_iload_n hx hb dL_texts_494 rfl (lv_at hl 0 rfl) ?_
  refine lv_bipush (v := 56) hx hb dL_texts_495 (by decide) ?_
  refine lv_icmp_ge (tgt := 505) hx hb dL_texts_497 rfl (fun hc => absurd hc (by decide)) (fun _ => ?_)
  refine lv_bipush (v := 40) hx hb dL_texts_500 (by decide) ?_
  refine lv_goto (tgt := 540) hx hb dL_texts_502 rfl ?_
  refine ar_append (rest := []) C0 hl.1 hW tfk344 (To_eq tfk345) ⟨Nat.le_of_ble_eq_true rfl, Nat.le_of_ble_eq_true rfl⟩ (Nat.le_of_ble_eq_true rfl) ⟨Nat.le_of_ble_eq_true rfl, Nat.le_of_ble_eq_true rfl⟩ dL_texts_540 (fun H locs hW => ?_)
  refine lv_iload_n hx hb dL_texts_543 rfl (lv_at hl 0 rfl) ?_
  refine lv_iconst (v := 1) hx hb dL_texts_544 (by decide) ?_
  refine lv_iadd hx hb dL_texts_545 ?_
  rw [(by decide : (45 : Int32) + (1 : Int32) = 46)]
  refine lv_icmp_eq (tgt := 551) hx hb dL_texts_546 rfl (fun _ => ?_) (fun hc => absurd (by decide) hc)
  refine lv_iinc (k := 0) (v := 46) (lv' := [(1, .int 46), (0, .ref (g.2.2.1 + 0))]) hx hb dL_texts_551 hl rfl (by decide) (Nat.le_of_ble_eq_true rfl) rfl (fun ls hl => ?_)
  refine lv_goto (tgt := 487) hx hb dL_texts_554 rfl ?_
  refine lv_iload_n hx hb dL_texts_487 rfl (lv_at hl 0 rfl) ?_
  refine lv_bipush (v := 60) hx hb dL_texts_488 (by decide) ?_
  refine lv_icmp_ge (tgt := 557) hx hb dL_texts_490 rfl (fun hc => absurd hc (by decide)) (fun _ => ?_)
  refine lv_aload_n hx hb dL_texts_493 rfl (lv_at hl 1 rfl) ?_
  refine lv_iload_n hx hb dL_texts_494 rfl (lv_at hl 0 rfl) ?_
  refine lv_bipush (v := 56) hx hb dL_texts_495 (by decide) ?_
  refine lv_icmp_ge (tgt := 505) hx hb dL_texts_497 rfl (fun hc => absurd hc (by decide)) (fun _ => ?_)
  refine lv_bipush (v := 40) hx hb dL_texts_500 (by decide) ?_
  refine lv_goto (tgt := 540) hx hb dL_texts_502 rfl ?_
  refine ar_append (rest := []) C0 hl.1 hW tfk346 (To_eq tfk347) ⟨Nat.le_of_ble_eq_true rfl, Nat.le_of_ble_eq_true rfl⟩ (Nat.le_of_ble_eq_true rfl) ⟨Nat.le_of_ble_eq_true rfl, Nat.le_of_ble_eq_true rfl⟩ dL_texts_540 (fun H locs hW => ?_)
  refine lv_iload_n hx hb dL_texts_543 rfl (lv_at hl 0 rfl) ?_
  refine lv_iconst (v := 1) hx hb dL_texts_544 (by decide) ?_
  refine lv_iadd hx hb dL_texts_545 ?_
  rw [(by decide : (46 : Int32) + (1 : Int32) = 47)]
  refine lv_icmp_eq (tgt := 551) hx hb dL_texts_546 rfl (fun _ => ?_) (fun hc => absurd (by decide) hc)
  refine lv_iinc (k := 0) (v := 47) (lv' := [(1, .int 47), (0, .ref (g.2.2.1 + 0))]) hx hb dL_texts_551 hl rfl (by decide) (Nat.le_of_ble_eq_true rfl) rfl (fun ls hl => ?_)
  refine lv_goto (tgt := 487) hx hb dL_texts_554 rfl ?_
  refine lv_iload_n hx hb dL_texts_487 rfl (lv_at hl 0 rfl) ?_
  refine lv_bipush (v := 60) hx hb dL_texts_488 (by decide) ?_
  refine lv_icmp_ge (tgt := 557) hx hb dL_texts_490 rfl (fun hc => absurd hc (by decide)) (fun _ => ?_)
  refine lv_aload_n hx hb dL_texts_493 rfl (lv_at hl 1 rfl) ?_
  refine lv_iload_n hx hb dL_texts_494 rfl (lv_at hl 0 rfl) ?_
  refine lv_bipush (v := 56) hx hb dL_texts_495 (by decide) ?_
  refine lv_icmp_ge (tgt := 505) hx hb dL_texts_497 rfl (fun hc => absurd hc (by decide)) (fun _ => ?_)
  refine lv_bipush (v := 40) hx hb dL_texts_500 (by decide) ?_
  refine lv_goto (tgt := 540) hx hb dL_texts_502 rfl ?_
  refine ar_append (rest := []) C0 hl.1 hW tfk348 (To_eq tfk349) ⟨Nat.le_of_ble_eq_true rfl, Nat.le_of_ble_eq_true rfl⟩ (Nat.le_of_ble_eq_true rfl) ⟨Nat.le_of_ble_eq_true rfl, Nat.le_of_ble_eq_true rfl⟩ dL_texts_540 (fun H locs hW => ?_)
  refine lv_iload_n hx hb dL_texts_543 rfl (lv_at hl 0 rfl) ?_
  refine lv_iconst (v := 1) hx hb dL_texts_544 (by decide) ?_
  refine lv_iadd hx hb dL_texts_545 ?_
  rw [(by decide : (47 : Int32) + (1 : Int32) = 48)]
  refine lv_icmp_eq (tgt := 551) hx hb dL_texts_546 rfl (fun _ => ?_) (fun hc => absurd (by decide) hc)
  exact W.widen (Nat.le_of_ble_eq_true rfl) (Nat.le_of_ble_eq_true rfl) (hK H locs ls hW hl)
set_option maxHeartbeats 2000000 in
theorem tx_12 (hfl : l.stackTraces = false) (C0 : CX g p s m args meth c RL cL_texts 2 (some .boolean)) (hl : lv_has ls 2 [(1, .int 47), (0, .ref (g.2.2.1 + 0))]) (hW : WA g tgn131 false Z0 s.heap H locs) (hK : ∀ (H : Heap) (locs : List Loc) (ls : Array Slot), WA g tgn143 false Z0 s.heap H locs → lv_has ls 2 [(1, .int 59), (0, .ref (g.2.2.1 + 0))] → W p l e rmL_texts s m args below meth c H locs 76 2340 (MQ below (QB g) args s rmL_texts.cells rmL_texts.slots (AA g)) (F0 m 551 ls [])) : W p l e rmL_texts s m args below meth c H locs 76 2340 (MQ below (QB g) args s rmL_texts.cells rmL_texts.slots (AA g)) (F0 m 551 ls []) := by
  have hx := C0.1; have hb := C0.2.1; have hown := C0.2.2.2.2.1; have hts := C0.2.2.2.2.2.1
  refine lv_iinc (k := 0) (v := 48) (lv' := [(1, .int 48), (0, .ref (g.2.2.1 + 0))]) hx hb dL_texts_551 hl rfl (by decide) (Nat.le_of_ble_eq_true rfl) rfl (fun ls hl => ?_)
  refine lv_goto (tgt := 487) hx hb dL_texts_554 rfl ?_
  refine lv_iload_n hx hb dL_texts_487 rfl (lv_at hl 0 rfl) ?_
  refine lv_bipush (v := 60) hx hb dL_texts_488 (by decide) ?_
  refine lv_icmp_ge (tgt := 557) hx hb dL_texts_490 rfl (fun hc => absurd hc (by decide)) (fun _ => ?_)
  refine lv_aload_n hx hb dL_texts_493 rfl (lv_at hl 1 rfl) ?_
  refine lv_iload_n hx hb dL_texts_494 rfl (lv_at hl 0 rfl) ?_
  refine lv_bipush (v := 56) hx hb dL_texts_495 (by decide) ?_
  refine lv_icmp_ge (tgt := 505) hx hb dL_texts_497 rfl (fun hc => absurd hc (by decide)) (fun _ => ?_)
  refine lv_bipush (v := 40) hx hb dL_texts_500 (by decide) ?_
  refine lv_goto (tgt := 540) hx hb dL_texts_502 rfl ?_
  refine ar_append (rest := []) C0 hl.1 hW tfk350 (To_eq tfk351) ⟨Nat.le_of_ble_eq_true rfl, Nat.le_of_ble_eq_true rfl⟩ (Nat.le_of_ble_eq_true rfl) ⟨Nat.le_of_ble_eq_true rfl, Nat.le_of_ble_eq_true rfl⟩ dL_texts_540 (fun H locs hW => ?_)
  refine lv_iload_n hx hb dL_texts_543 rfl (lv_at hl 0 rfl) ?_
  refine lv_iconst (v := 1) hx hb dL_texts_544 (by decide) ?_
  refine lv_iadd hx hb dL_texts_545 ?_
  rw [(by decide : (48 : Int32) + (1 : Int32) = 49)]
  refine lv_icmp_eq (tgt := 551) hx hb dL_texts_546 rfl (fun _ => ?_) (fun hc => absurd (by decide) hc)
  refine lv_iinc (k := 0) (v := 49) (lv' := [(1, .int 49), (0, .ref (g.2.2.1 + 0))]) hx hb dL_texts_551 hl rfl (by decide) (Nat.le_of_ble_eq_true rfl) rfl (fun ls hl => ?_)
  refine lv_goto (tgt := 487) hx hb dL_texts_554 rfl ?_
  refine lv_iload_n hx hb dL_texts_487 rfl (lv_at hl 0 rfl) ?_
  refine lv_bipush (v := 60) hx hb dL_texts_488 (by decide) ?_
  refine lv_icmp_ge (tgt := 557) hx hb dL_texts_490 rfl (fun hc => absurd hc (by decide)) (fun _ => ?_)
  refine lv_aload_n hx hb dL_texts_493 rfl (lv_at hl 1 rfl) ?_
  refine lv_iload_n hx hb dL_texts_494 rfl (lv_at hl 0 rfl) ?_
  refine lv_bipush (v := 56) hx hb dL_texts_495 (by decide) ?_
  refine lv_icmp_ge (tgt := 505) hx hb dL_texts_497 rfl (fun hc => absurd hc (by decide)) (fun _ => ?_)
  refine lv_bipush (v := 40) hx hb dL_texts_500 (by decide) ?_
  refine lv_goto (tgt := 540) hx hb dL_texts_502 rfl ?_
  refine ar_append (rest := []) C0 hl.1 hW tfk352 (To_eq tfk353) ⟨Nat.le_of_ble_eq_true rfl, Nat.le_of_ble_eq_true rfl⟩ (Nat.le_of_ble_eq_true rfl) ⟨Nat.le_of_ble_eq_true rfl, Nat.le_of_ble_eq_true rfl⟩ dL_texts_540 (fun H locs hW => ?_)
  refine lv_iload_n hx hb dL_texts_543 rfl (lv_at hl 0 rfl) ?_
  refine lv_iconst (v := 1) hx hb dL_texts_544 (by decide) ?_
  refine lv_iadd hx hb dL_texts_545 ?_
  rw [(by decide : (49 : Int32) + (1 : Int32) = 50)]
  refine lv_icmp_eq (tgt := 551) hx hb dL_texts_546 rfl (fun _ => ?_) (fun hc => absurd (by decide) hc)
  refine lv_iinc (k := 0) (v := 50) (lv' := [(1, .int 50), (0, .ref (g.2.2.1 + 0))]) hx hb dL_texts_551 hl rfl (by decide) (Nat.le_of_ble_eq_true rfl) rfl (fun ls hl => ?_)
  refine lv_goto (tgt := 487) hx hb dL_texts_554 rfl ?_
  refine lv_iload_n hx hb dL_texts_487 rfl (lv_at hl 0 rfl) ?_
  refine lv_bipush (v := 60) hx hb dL_texts_488 (by decide) ?_
  refine lv_icmp_ge (tgt := 557) hx hb dL_texts_490 rfl (fun hc => absurd hc (by decide)) (fun _ => ?_)
  refine lv_aload_n hx hb dL_texts_493 rfl (lv_at hl 1 rfl) ?_
  refine lv_iload_n hx hb dL_texts_494 rfl (lv_at hl 0 rfl) ?_
  refine lv_bipush (v := 56) hx hb dL_texts_495 (by decide) ?_
  refine lv_icmp_ge (tgt := 505) hx hb dL_texts_497 rfl (fun hc => absurd hc (by decide)) (fun _ => ?_)
  refine lv_bipush (v := 40) hx hb dL_texts_500 (by decide) ?_
  refine lv_goto (tgt := 540) hx hb dL_texts_502 rfl ?_
  refine ar_append (rest := []) C0 hl.1 hW tfk354 (To_eq tfk355) ⟨Nat.le_of_ble_eq_true rfl, Nat.le_of_ble_eq_true rfl⟩ (Nat.le_of_ble_eq_true rfl) ⟨Nat.le_of_ble_eq_true rfl, Nat.le_of_ble_eq_true rfl⟩ dL_texts_540 (fun H locs hW => ?_)
  refine lv_iload_n hx hb dL_texts_543 rfl (lv_at hl 0 rfl) ?_
  refine lv_iconst (v := 1) hx hb dL_texts_544 (by decide) ?_
  refine lv_iadd hx hb dL_texts_545 ?_
  rw [(by decide : (50 : Int32) + (1 : Int32) = 51)]
  refine lv_icmp_eq (tgt := 551) hx hb dL_texts_546 rfl (fun _ => ?_) (fun hc => absurd (by decide) hc)
  refine lv_iinc (k := 0) (v := 51) (lv' := [(1, .int 51), (0, .ref (g.2.2.1 + 0))]) hx hb dL_texts_551 hl rfl (by decide) (Nat.le_of_ble_eq_true rfl) rfl (fun ls hl => ?_)
  refine lv_goto (tgt := 487) hx hb dL_texts_554 rfl ?_
  refine lv_iload_n hx hb dL_texts_487 rfl (lv_at hl 0 rfl) ?_
  refine lv_bipush (v := 60) hx hb dL_texts_488 (by decide) ?_
  refine lv_icmp_ge (tgt := 557) hx hb dL_texts_490 rfl (fun hc => absurd hc (by decide)) (fun _ => ?_)
  refine lv_aload_n hx hb dL_texts_493 rfl (lv_at hl 1 rfl) ?_
  refine lv_iload_n hx hb dL_texts_494 rfl (lv_at hl 0 rfl) ?_
  refine lv_bipush (v := 56) hx hb dL_texts_495 (by decide) ?_
  refine lv_icmp_ge (tgt := 505) hx hb dL_texts_497 rfl (fun hc => absurd hc (by decide)) (fun _ => ?_)
  refine lv_bipush (v := 40) hx hb dL_texts_500 (by decide) ?_
  refine lv_goto (tgt := 540) hx hb dL_texts_502 rfl ?_
  refine ar_append (rest := []) C0 hl.1 hW tfk356 (To_eq tfk357) ⟨Nat.le_of_ble_eq_true rfl, Nat.le_of_ble_eq_true rfl⟩ (Nat.le_of_ble_eq_true rfl) ⟨Nat.le_of_ble_eq_true rfl, Nat.le_of_ble_eq_true rfl⟩ dL_texts_540 (fun H locs hW => ?_)
  refine lv_iload_n hx hb dL_texts_543 rfl (lv_at hl 0 rfl) ?_
  refine lv_iconst (v := 1) hx hb dL_texts_544 (by decide) ?_
  refine lv_iadd hx hb dL_texts_545 ?_
  rw [(by decide : (51 : Int32) + (1 : Int32) = 52)]
  refine lv_icmp_eq (tgt := 551) hx hb dL_texts_546 rfl (fun _ => ?_) (fun hc => absurd (by decide) hc)
  refine lv_iinc (k := 0) (v := 52) (lv' := [(1, .int 52), (0, .ref (g.2.2.1 + 0))]) hx hb dL_texts_551 hl rfl (by decide) (Nat.le_of_ble_eq_true rfl) rfl (fun ls hl => ?_)
  refine lv_goto (tgt := 487) hx hb dL_texts_554 rfl ?_
  refine lv_iload_n hx hb dL_texts_487 rfl (lv_at hl 0 rfl) ?_
  refine lv_bipush (v := 60) hx hb dL_texts_488 (by decide) ?_
  refine lv_icmp_ge (tgt := 557) hx hb dL_texts_490 rfl (fun hc => absurd hc (by decide)) (fun _ => ?_)
  refine lv_aload_n hx hb dL_texts_493 rfl (lv_at hl 1 rfl) ?_
  refine lv_iload_n hx hb dL_texts_494 rfl (lv_at hl 0 rfl) ?_
  refine lv_bipush (v := 56) hx hb dL_texts_495 (by decide) ?_
  refine lv_icmp_ge (tgt := 505) hx hb dL_texts_497 rfl (fun hc => absurd hc (by decide)) (fun _ => ?_)
  refine lv_bipush (v := 40) hx hb dL_texts_500 (by decide) ?_
  refine lv_goto (tgt := 540) hx hb dL_texts_502 rfl ?_
  refine ar_append (rest := []) C0 hl.1 hW tfk358 (To_eq tfk359) ⟨Nat.le_of_ble_eq_true rfl, Nat.le_of_ble_eq_true rfl⟩ (Nat.le_of_ble_eq_true rfl) ⟨Nat.le_of_ble_eq_true rfl, Nat.le_of_ble_eq_true rfl⟩ dL_texts_540 (fun H locs hW => ?_)
  refine lv_iload_n hx hb dL_texts_543 rfl (lv_at hl 0 rfl) ?_
  refine lv_iconst (v := 1) hx hb dL_texts_544 (by decide) ?_
  refine lv_iadd hx hb dL_texts_545 ?_
  rw [(by decide : (52 : Int32) + (1 : Int32) = 53)]
  refine lv_icmp_eq (tgt := 551) hx hb dL_texts_546 rfl (fun _ => ?_) (fun hc => absurd (by decide) hc)
  refine lv_iinc (k := 0) (v := 53) (lv' := [(1, .int 53), (0, .ref (g.2.2.1 + 0))]) hx hb dL_texts_551 hl rfl (by decide) (Nat.le_of_ble_eq_true rfl) rfl (fun ls hl => ?_)
  refine lv_goto (tgt := 487) hx hb dL_texts_554 rfl ?_
  refine lv_iload_n hx hb dL_texts_487 rfl (lv_at hl 0 rfl) ?_
  refine lv_bipush (v := 60) hx hb dL_texts_488 (by decide) ?_
  refine lv_icmp_ge (tgt := 557) hx hb dL_texts_490 rfl (fun hc => absurd hc (by decide)) (fun _ => ?_)
  refine lv_aload_n hx hb dL_texts_493 rfl (lv_at hl 1 rfl) ?_
  refine lv_iload_n hx hb dL_texts_494 rfl (lv_at hl 0 rfl) ?_
  refine lv_bipush (v := 56) hx hb dL_texts_495 (by decide) ?_
  refine lv_icmp_ge (tgt := 505) hx hb dL_texts_497 rfl (fun hc => absurd hc (by decide)) (fun _ => ?_)
  refine lv_bipush (v := 40) hx hb dL_texts_500 (by decide) ?_
  refine lv_goto (tgt := 540) hx hb dL_texts_502 rfl ?_
  refine ar_append (rest := []) C0 hl.1 hW tfk360 (To_eq tfk361) ⟨Nat.le_of_ble_eq_true rfl, Nat.le_of_ble_eq_true rfl⟩ (Nat.le_of_ble_eq_true rfl) ⟨Nat.le_of_ble_eq_true rfl, Nat.le_of_ble_eq_true rfl⟩ dL_texts_540 (fun H locs hW => ?_)
  refine lv_iload_n hx hb dL_texts_543 rfl (lv_at hl 0 rfl) ?_
  refine lv_iconst (v := 1) hx hb dL_texts_544 (by decide) ?_
  refine lv_iadd hx hb dL_texts_545 ?_
  rw [(by decide : (53 : Int32) + (1 : Int32) = 54)]
  refine lv_icmp_eq (tgt := 551) hx hb dL_texts_546 rfl (fun _ => ?_) (fun hc => absurd (by decide) hc)
  refine lv_iinc (k := 0) (v := 54) (lv' := [(1, .int 54), (0, .ref (g.2.2.1 + 0))]) hx hb dL_texts_551 hl rfl (by decide) (Nat.le_of_ble_eq_true rfl) rfl (fun ls hl => ?_)
  refine lv_goto (tgt := 487) hx hb dL_texts_554 rfl ?_
  refine lv_iload_n hx hb dL_texts_487 rfl (lv_at hl 0 rfl) ?_
  refine lv_bipush (v := 60) hx hb dL_texts_488 (by decide) ?_
  refine lv_icmp_ge (tgt := 557) hx hb dL_texts_490 rfl (fun hc => absurd hc (by decide)) (fun _ => ?_)
  refine lv_aload_n hx hb dL_texts_493 rfl (lv_at hl 1 rfl) ?_
  refine lv_iload_n hx hb dL_texts_494 rfl (lv_at hl 0 rfl) ?_
  refine lv_bipush (v := 56) hx hb dL_texts_495 (by decide) ?_
  refine lv_icmp_ge (tgt := 505) hx hb dL_texts_497 rfl (fun hc => absurd hc (by decide)) (fun _ => ?_)
  refine lv_bipush (v := 40) hx hb dL_texts_500 (by decide) ?_
  refine lv_goto (tgt := 540) hx hb dL_texts_502 rfl ?_
  refine ar_append (rest := []) C0 hl.1 hW tfk362 (To_eq tfk363) ⟨Nat.le_of_ble_eq_true rfl, Nat.le_of_ble_eq_true rfl⟩ (Nat.le_of_ble_eq_true rfl) ⟨Nat.le_of_ble_eq_true rfl, Nat.le_of_ble_eq_true rfl⟩ dL_texts_540 (fun H locs hW => ?_)
  refine lv_iload_n hx hb dL_texts_543 rfl (lv_at hl 0 rfl) ?_
  refine lv_iconst (v := 1) hx hb dL_texts_544 (by decide) ?_
  refine lv_iadd hx hb dL_texts_545 ?_
  rw [(by decide : (54 : Int32) + (1 : Int32) = 55)]
  refine lv_icmp_eq (tgt := 551) hx hb dL_texts_546 rfl (fun _ => ?_) (fun hc => absurd (by decide) hc)
  refine lv_iinc (k := 0) (v := 55) (lv' := [(1, .int 55), (0, .ref (g.2.2.1 + 0))]) hx hb dL_texts_551 hl rfl (by decide) (Nat.le_of_ble_eq_true rfl) rfl (fun ls hl => ?_)
  refine lv_goto (tgt := 487) hx hb dL_texts_554 rfl ?_
  refine lv_iload_n hx hb dL_texts_487 rfl (lv_at hl 0 rfl) ?_
  refine lv_bipush (v := 60) hx hb dL_texts_488 (by decide) ?_
  refine lv_icmp_ge (tgt := 557) hx hb dL_texts_490 rfl (fun hc => absurd hc (by decide)) (fun _ => ?_)
  refine lv_aload_n hx hb dL_texts_493 rfl (lv_at hl 1 rfl) ?_
  refine lv_iload_n hx hb dL_texts_494 rfl (lv_at hl 0 rfl) ?_
  refine lv_bipush (v := 56) hx hb dL_texts_495 (by decide) ?_
  refine lv_icmp_ge (tgt := 505) hx hb dL_texts_497 rfl (fun hc => absurd hc (by decide)) (fun _ => ?_)
  refine lv_bipush (v := 40) hx hb dL_texts_500 (by decide) ?_
  refine lv_goto (tgt := 540) hx hb dL_texts_502 rfl ?_
  refine ar_append (rest := []) C0 hl.1 hW tfk364 (To_eq tfk365) ⟨Nat.le_of_ble_eq_true rfl, Nat.le_of_ble_eq_true rfl⟩ (Nat.le_of_ble_eq_true rfl) ⟨Nat.le_of_ble_eq_true rfl, Nat.le_of_ble_eq_true rfl⟩ dL_texts_540 (fun H locs hW => ?_)
  refine lv_iload_n hx hb dL_texts_543 rfl (lv_at hl 0 rfl) ?_
  refine lv_iconst (v := 1) hx hb dL_texts_544 (by decide) ?_
  refine lv_iadd hx hb dL_texts_545 ?_
  rw [(by decide : (55 : Int32) + (1 : Int32) = 56)]
  refine lv_icmp_eq (tgt := 551) hx hb dL_texts_546 rfl (fun _ => ?_) (fun hc => absurd (by decide) hc)
  refine lv_iinc (k := 0) (v := 56) (lv' := [(1, .int 56), (0, .ref (g.2.2.1 + 0))]) hx hb dL_texts_551 hl rfl (by decide) (Nat.le_of_ble_eq_true rfl) rfl (fun ls hl => ?_)
  refine lv_goto (tgt := 487) hx hb dL_texts_554 rfl ?_
  refine lv_iload_n hx hb dL_texts_487 rfl (lv_at hl 0 rfl) ?_
  refine lv_bipush (v := 60) hx hb dL_texts_488 (by decide) ?_
  refine lv_icmp_ge (tgt := 557) hx hb dL_texts_490 rfl (fun hc => absurd hc (by decide)) (fun _ => ?_)
  refine lv_aload_n hx hb dL_texts_493 rfl (lv_at hl 1 rfl) ?_
  refine lv_iload_n hx hb dL_texts_494 rfl (lv_at hl 0 rfl) ?_
  refine lv_bipush (v := 56) hx hb dL_texts_495 (by decide) ?_
  refine lv_icmp_ge (tgt := 505) hx hb dL_texts_497 rfl (fun _ => ?_) (fun hc => absurd (by decide) hc)
  refine lv_iload_n hx hb dL_texts_505 rfl (lv_at hl 0 rfl) ?_
  refine lv_bipush (v := 56) hx hb dL_texts_506 (by decide) ?_
  refine lv_icmp_ne (tgt := 516) hx hb dL_texts_508 rfl (fun hc => absurd hc (by decide)) (fun _ => ?_)
  refine lv_bipush (v := 97) hx hb dL_texts_511 (by decide) ?_
  refine lv_goto (tgt := 540) hx hb dL_texts_513 rfl ?_
  refine ar_append (rest := []) C0 hl.1 hW tfk366 (To_eq tfk367) ⟨Nat.le_of_ble_eq_true rfl, Nat.le_of_ble_eq_true rfl⟩ (Nat.le_of_ble_eq_true rfl) ⟨Nat.le_of_ble_eq_true rfl, Nat.le_of_ble_eq_true rfl⟩ dL_texts_540 (fun H locs hW => ?_)
  refine lv_iload_n hx hb dL_texts_543 rfl (lv_at hl 0 rfl) ?_
  refine lv_iconst (v := 1) hx hb dL_texts_544 (by decide) ?_
  refine lv_iadd hx hb dL_texts_545 ?_
  rw [(by decide : (56 : Int32) + (1 : Int32) = 57)]
  refine lv_icmp_eq (tgt := 551) hx hb dL_texts_546 rfl (fun _ => ?_) (fun hc => absurd (by decide) hc)
  refine lv_iinc (k := 0) (v := 57) (lv' := [(1, .int 57), (0, .ref (g.2.2.1 + 0))]) hx hb dL_texts_551 hl rfl (by decide) (Nat.le_of_ble_eq_true rfl) rfl (fun ls hl => ?_)
  refine lv_goto (tgt := 487) hx hb dL_texts_554 rfl ?_
  refine lv_iload_n hx hb dL_texts_487 rfl (lv_at hl 0 rfl) ?_
  refine lv_bipush (v := 60) hx hb dL_texts_488 (by decide) ?_
  refine lv_icmp_ge (tgt := 557) hx hb dL_texts_490 rfl (fun hc => absurd hc (by decide)) (fun _ => ?_)
  refine lv_aload_n hx hb dL_texts_493 rfl (lv_at hl 1 rfl) ?_
  refine lv_iload_n hx hb dL_texts_494 rfl (lv_at hl 0 rfl) ?_
  refine lv_bipush (v := 56) hx hb dL_texts_495 (by decide) ?_
  refine lv_icmp_ge (tgt := 505) hx hb dL_texts_497 rfl (fun _ => ?_) (fun hc => absurd (by decide) hc)
  refine lv_iload_n hx hb dL_texts_505 rfl (lv_at hl 0 rfl) ?_
  refine lv_bipush (v := 56) hx hb dL_texts_506 (by decide) ?_
  refine lv_icmp_ne (tgt := 516) hx hb dL_texts_508 rfl (fun _ => ?_) (fun hc => absurd hc (by decide))
  refine lv_iload_n hx hb dL_texts_516 rfl (lv_at hl 0 rfl) ?_
  refine lv_bipush (v := 57) hx hb dL_texts_517 (by decide) ?_
  refine lv_icmp_ne (tgt := 527) hx hb dL_texts_519 rfl (fun hc => absurd hc (by decide)) (fun _ => ?_)
  refine lv_bipush (v := 60) hx hb dL_texts_522 (by decide) ?_
  refine lv_goto (tgt := 540) hx hb dL_texts_524 rfl ?_
  refine ar_append (rest := []) C0 hl.1 hW tfk368 (To_eq tfk369) ⟨Nat.le_of_ble_eq_true rfl, Nat.le_of_ble_eq_true rfl⟩ (Nat.le_of_ble_eq_true rfl) ⟨Nat.le_of_ble_eq_true rfl, Nat.le_of_ble_eq_true rfl⟩ dL_texts_540 (fun H locs hW => ?_)
  refine lv_iload_n hx hb dL_texts_543 rfl (lv_at hl 0 rfl) ?_
  refine lv_iconst (v := 1) hx hb dL_texts_544 (by decide) ?_
  refine lv_iadd hx hb dL_texts_545 ?_
  rw [(by decide : (57 : Int32) + (1 : Int32) = 58)]
  refine lv_icmp_eq (tgt := 551) hx hb dL_texts_546 rfl (fun _ => ?_) (fun hc => absurd (by decide) hc)
  refine lv_iinc (k := 0) (v := 58) (lv' := [(1, .int 58), (0, .ref (g.2.2.1 + 0))]) hx hb dL_texts_551 hl rfl (by decide) (Nat.le_of_ble_eq_true rfl) rfl (fun ls hl => ?_)
  refine lv_goto (tgt := 487) hx hb dL_texts_554 rfl ?_
  refine lv_iload_n hx hb dL_texts_487 rfl (lv_at hl 0 rfl) ?_
  refine lv_bipush (v := 60) hx hb dL_texts_488 (by decide) ?_
  refine lv_icmp_ge (tgt := 557) hx hb dL_texts_490 rfl (fun hc => absurd hc (by decide)) (fun _ => ?_)
  refine lv_aload_n hx hb dL_texts_493 rfl (lv_at hl 1 rfl) ?_
  refine lv_iload_n hx hb dL_texts_494 rfl (lv_at hl 0 rfl) ?_
  refine lv_bipush (v := 56) hx hb dL_texts_495 (by decide) ?_
  refine lv_icmp_ge (tgt := 505) hx hb dL_texts_497 rfl (fun _ => ?_) (fun hc => absurd (by decide) hc)
  refine lv_iload_n hx hb dL_texts_505 rfl (lv_at hl 0 rfl) ?_
  refine lv_bipush (v := 56) hx hb dL_texts_506 (by decide) ?_
  refine lv_icmp_ne (tgt := 516) hx hb dL_texts_508 rfl (fun _ => ?_) (fun hc => absurd hc (by decide))
  refine lv_iload_n hx hb dL_texts_516 rfl (lv_at hl 0 rfl) ?_
  refine lv_bipush (v := 57) hx hb dL_texts_517 (by decide) ?_
  refine lv_icmp_ne (tgt := 527) hx hb dL_texts_519 rfl (fun _ => ?_) (fun hc => absurd hc (by decide))
  refine lv_iload_n hx hb dL_texts_527 rfl (lv_at hl 0 rfl) ?_
  refine lv_bipush (v := 58) hx hb dL_texts_528 (by decide) ?_
  refine lv_icmp_ne (tgt := 538) hx hb dL_texts_530 rfl (fun hc => absurd hc (by decide)) (fun _ => ?_)
  refine lv_bipush (v := 57) hx hb dL_texts_533 (by decide) ?_
  refine lv_goto (tgt := 540) hx hb dL_texts_535 rfl ?_
  refine ar_append (rest := []) C0 hl.1 hW tfk370 (To_eq tfk371) ⟨Nat.le_of_ble_eq_true rfl, Nat.le_of_ble_eq_true rfl⟩ (Nat.le_of_ble_eq_true rfl) ⟨Nat.le_of_ble_eq_true rfl, Nat.le_of_ble_eq_true rfl⟩ dL_texts_540 (fun H locs hW => ?_)
  refine lv_iload_n hx hb dL_texts_543 rfl (lv_at hl 0 rfl) ?_
  refine lv_iconst (v := 1) hx hb dL_texts_544 (by decide) ?_
  refine lv_iadd hx hb dL_texts_545 ?_
  rw [(by decide : (58 : Int32) + (1 : Int32) = 59)]
  refine lv_icmp_eq (tgt := 551) hx hb dL_texts_546 rfl (fun _ => ?_) (fun hc => absurd (by decide) hc)
  refine lv_iinc (k := 0) (v := 59) (lv' := [(1, .int 59), (0, .ref (g.2.2.1 + 0))]) hx hb dL_texts_551 hl rfl (by decide) (Nat.le_of_ble_eq_true rfl) rfl (fun ls hl => ?_)
  refine lv_goto (tgt := 487) hx hb dL_texts_554 rfl ?_
  refine lv_iload_n hx hb dL_texts_487 rfl (lv_at hl 0 rfl) ?_
  refine lv_bipush (v := 60) hx hb dL_texts_488 (by decide) ?_
  refine lv_icmp_ge (tgt := 557) hx hb dL_texts_490 rfl (fun hc => absurd hc (by decide)) (fun _ => ?_)
  refine lv_aload_n hx hb dL_texts_493 rfl (lv_at hl 1 rfl) ?_
  refine lv_iload_n hx hb dL_texts_494 rfl (lv_at hl 0 rfl) ?_
  refine lv_bipush (v := 56) hx hb dL_texts_495 (by decide) ?_
  refine lv_icmp_ge (tgt := 505) hx hb dL_texts_497 rfl (fun _ => ?_) (fun hc => absurd (by decide) hc)
  refine lv_iload_n hx hb dL_texts_505 rfl (lv_at hl 0 rfl) ?_
  refine lv_bipush (v := 56) hx hb dL_texts_506 (by decide) ?_
  refine lv_icmp_ne (tgt := 516) hx hb dL_texts_508 rfl (fun _ => ?_) (fun hc => absurd hc (by decide))
  refine lv_iload_n hx hb dL_texts_516 rfl (lv_at hl 0 rfl) ?_
  refine lv_bipush (v := 57) hx hb dL_texts_517 (by decide) ?_
  refine lv_icmp_ne (tgt := 527) hx hb dL_texts_519 rfl (fun _ => ?_) (fun hc => absurd hc (by decide))
  refine lv_iload_n hx hb dL_texts_527 rfl (lv_at hl 0 rfl) ?_
  refine lv_bipush (v := 58) hx hb dL_texts_528 (by decide) ?_
  refine lv_icmp_ne (tgt := 538) hx hb dL_texts_530 rfl (fun _ => ?_) (fun hc => absurd hc (by decide))
  refine lv_bipush (v := 41) hx hb dL_texts_538 (by decide) ?_
  refine ar_append (rest := []) C0 hl.1 hW tfk372 (To_eq tfk373) ⟨Nat.le_of_ble_eq_true rfl, Nat.le_of_ble_eq_true rfl⟩ (Nat.le_of_ble_eq_true rfl) ⟨Nat.le_of_ble_eq_true rfl, Nat.le_of_ble_eq_true rfl⟩ dL_texts_540 (fun H locs hW => ?_)
  refine lv_iload_n hx hb dL_texts_543 rfl (lv_at hl 0 rfl) ?_
  refine lv_iconst (v := 1) hx hb dL_texts_544 (by decide) ?_
  refine lv_iadd hx hb dL_texts_545 ?_
  rw [(by decide : (59 : Int32) + (1 : Int32) = 60)]
  refine lv_icmp_eq (tgt := 551) hx hb dL_texts_546 rfl (fun _ => ?_) (fun hc => absurd (by decide) hc)
  exact W.widen (Nat.le_of_ble_eq_true rfl) (Nat.le_of_ble_eq_true rfl) (hK H locs ls hW hl)
set_option maxHeartbeats 2000000 in
theorem tx_13 (hfl : l.stackTraces = false) (C0 : CX g p s m args meth c RL cL_texts 2 (some .boolean)) (hl : lv_has ls 2 [(1, .int 59), (0, .ref (g.2.2.1 + 0))]) (hW : WA g tgn143 false Z0 s.heap H locs) : W p l e rmL_texts s m args below meth c H locs 76 2340 (MQ below (QB g) args s rmL_texts.cells rmL_texts.slots (AA g)) (F0 m 551 ls []) := by
  have hx := C0.1; have hb := C0.2.1; have hown := C0.2.2.2.2.1; have hts := C0.2.2.2.2.2.1
  refine lv_iinc (k := 0) (v := 60) (lv' := [(1, .int 60), (0, .ref (g.2.2.1 + 0))]) hx hb dL_texts_551 hl rfl (by decide) (Nat.le_of_ble_eq_true rfl) rfl (fun ls hl => ?_)
  refine lv_goto (tgt := 487) hx hb dL_texts_554 rfl ?_
  refine lv_iload_n hx hb dL_texts_487 rfl (lv_at hl 0 rfl) ?_
  refine lv_bipush (v := 60) hx hb dL_texts_488 (by decide) ?_
  refine lv_icmp_ge (tgt := 557) hx hb dL_texts_490 rfl (fun _ => ?_) (fun hc => absurd (by decide) hc)
  refine lv_aload_n hx hb dL_texts_557 rfl (lv_at hl 1 rfl) ?_
  refine ar_firstError (rest := []) C0 hl.1 hW tfk374 ⟨Nat.le_of_ble_eq_true rfl, Nat.le_of_ble_eq_true rfl⟩ (Nat.le_of_ble_eq_true rfl) ⟨Nat.le_of_ble_eq_true rfl, Nat.le_of_ble_eq_true rfl⟩ dL_texts_558 (fun H locs hW => ?_)
  refine lv_bipush (v := 60) hx hb dL_texts_561 (by decide) ?_
  refine lv_icmp_ne (tgt := 607) hx hb dL_texts_563 rfl (fun hc => absurd hc (by decide)) (fun _ => ?_)
  refine lv_aload_n hx hb dL_texts_566 rfl (lv_at hl 1 rfl) ?_
  refine lv_iconst (v := 3) hx hb dL_texts_567 (by decide) ?_
  refine lv_iconst (v := 0) hx hb dL_texts_568 (by decide) ?_
  refine lv_iconst (v := 0) hx hb dL_texts_569 (by decide) ?_
  refine lv_lconst (v := 0) hx hb dL_texts_570 rfl ?_
  refine al_cSW (rest := []) C0 hW (c_L_call hfl _ _ _ _ (ce_define tfk375)) (ls_call hts ⟨Nat.le_of_ble_eq_true rfl, Nat.le_of_ble_eq_true rfl⟩) rfl hl.1 rfl (Nat.le_of_ble_eq_true rfl) ⟨Nat.le_of_ble_eq_true rfl, Nat.le_of_ble_eq_true rfl⟩ dL_texts_571 (fun H locs hW => ?_)
  refine lv_ldc (v := (-100012)) hx hb hown (hts _ wl120) dL_texts_574 ?_
  refine lv_icmp_ne (tgt := 607) hx hb dL_texts_576 rfl (fun hc => absurd hc (by decide)) (fun _ => ?_)
  refine lv_aload_n hx hb dL_texts_579 rfl (lv_at hl 1 rfl) ?_
  refine ar_clearBuffer (rest := []) C0 hl.1 hW tfk376 (To_eq tfk377) ⟨Nat.le_of_ble_eq_true rfl, Nat.le_of_ble_eq_true rfl⟩ (Nat.le_of_ble_eq_true rfl) ⟨Nat.le_of_ble_eq_true rfl, Nat.le_of_ble_eq_true rfl⟩ dL_texts_580 (fun H locs hW => ?_)
  refine lv_bipush (v := 60) hx hb dL_texts_583 (by decide) ?_
  refine lv_icmp_ne (tgt := 607) hx hb dL_texts_585 rfl (fun hc => absurd hc (by decide)) (fun _ => ?_)
  refine lv_aload_n hx hb dL_texts_588 rfl (lv_at hl 1 rfl) ?_
  refine ar_undo (rest := []) C0 hl.1 hW tfk378 (To_eq tfk379) ⟨Nat.le_of_ble_eq_true rfl, Nat.le_of_ble_eq_true rfl⟩ (Nat.le_of_ble_eq_true rfl) ⟨Nat.le_of_ble_eq_true rfl, Nat.le_of_ble_eq_true rfl⟩ dL_texts_589 (fun H locs hW => ?_)
  refine lv_if_ne (tgt := 607) hx hb dL_texts_592 rfl (fun hc => absurd hc (by decide)) (fun _ => ?_)
  refine lv_aload_n hx hb dL_texts_595 rfl (lv_at hl 1 rfl) ?_
  refine lv_iconst (v := 2) hx hb dL_texts_596 (by decide) ?_
  refine ar_count (rest := []) C0 hl.1 hW tfk380 ⟨Nat.le_of_ble_eq_true rfl, Nat.le_of_ble_eq_true rfl⟩ (Nat.le_of_ble_eq_true rfl) ⟨Nat.le_of_ble_eq_true rfl, Nat.le_of_ble_eq_true rfl⟩ dL_texts_597 (fun H locs hW => ?_)
  refine lv_if_ne (tgt := 607) hx hb dL_texts_600 rfl (fun hc => absurd hc (by decide)) (fun _ => ?_)
  refine lv_iconst (v := 1) hx hb dL_texts_603 (by decide) ?_
  refine lv_goto (tgt := 608) hx hb dL_texts_604 rfl ?_
  exact al_bret C0 hW (Nat.le_of_ble_eq_true rfl) (Nat.le_of_ble_eq_true rfl) dL_texts_608
theorem c_L_texts (hfl : l.stackTraces = false) : Met l yL_texts (Cond.code yL_texts cL_texts 2 (some .boolean) :: GT) rmL_texts (va_Pc [] (PB g)) (QB g) rmL_texts.cells rmL_texts.slots (AA g) := by
  refine al_ofB (lv0 := []) (by decide) (Nat.le_of_ble_eq_true rfl) rfl (fun p e s m args below meth c ls H locs C0 hl hS hsz => ?_)
  have C0 : CX g p s m args meth c RL cL_texts 2 (some .boolean) := C0
  have hx := C0.1; have hb := C0.2.1
  refine al_new C0 hl.1 hS hsz ⟨Nat.le_of_ble_eq_true rfl, Nat.le_of_ble_eq_true rfl⟩ ⟨Nat.le_of_ble_eq_true rfl, Nat.le_of_ble_eq_true rfl⟩ dL_texts_0 dL_texts_3 dL_texts_4 (fun H locs hsz hW => ?_)
  have hW := WA_eq tfk0 hW
  refine lv_astore_n (lv' := [(0, .ref (g.2.2.1 + 0))]) hx hb dL_texts_7 rfl hl (Nat.le_of_ble_eq_true rfl) rfl (fun ls hl => ?_)
  exact tx_0 hfl C0 hl hW (fun H locs ls hW hl => tx_1 hfl C0 hl hW (fun H locs ls hW hl => tx_2 hfl C0 hl hW (fun H locs ls hW hl => tx_3 hfl C0 hl hW (fun H locs ls hW hl => tx_4 hfl C0 hl hW (fun H locs ls hW hl => tx_5 hfl C0 hl hW (fun H locs ls hW hl => tx_6 hfl C0 hl hW (fun H locs ls hW hl => tx_7 hfl C0 hl hW (fun H locs ls hW hl => tx_8 hfl C0 hl hW (fun H locs ls hW hl => tx_9 hfl C0 hl hW (fun H locs ls hW hl => tx_10 hfl C0 hl hW (fun H locs ls hW hl => tx_11 hfl C0 hl hW (fun H locs ls hW hl => tx_12 hfl C0 hl hW (fun H locs ls hW hl => tx_13 hfl C0 hl hW)))))))))))))
end TXW
