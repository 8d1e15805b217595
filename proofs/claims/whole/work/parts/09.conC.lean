section CON
def f_J6_bitCount_0f7a4 (x0 : Int32) : Option (Int32) :=
  some ((((((((x0 - (((x0.toUInt32 >>> ((1 : Int32).toUInt32 &&& Int32.toUInt32 31)).toInt32) &&& ((1431655765)))) &&& ((858993459))) + ((((x0 - (((x0.toUInt32 >>> ((1 : Int32).toUInt32 &&& Int32.toUInt32 31)).toInt32) &&& ((1431655765)))).toUInt32 >>> ((2 : Int32).toUInt32 &&& Int32.toUInt32 31)).toInt32) &&& ((858993459)))) + (((((x0 - (((x0.toUInt32 >>> ((1 : Int32).toUInt32 &&& Int32.toUInt32 31)).toInt32) &&& ((1431655765)))) &&& ((858993459))) + ((((x0 - (((x0.toUInt32 >>> ((1 : Int32).toUInt32 &&& Int32.toUInt32 31)).toInt32) &&& ((1431655765)))).toUInt32 >>> ((2 : Int32).toUInt32 &&& Int32.toUInt32 31)).toInt32) &&& ((858993459)))).toUInt32 >>> ((4 : Int32).toUInt32 &&& Int32.toUInt32 31)).toInt32)) &&& ((252645135))) + (((((((x0 - (((x0.toUInt32 >>> ((1 : Int32).toUInt32 &&& Int32.toUInt32 31)).toInt32) &&& ((1431655765)))) &&& ((858993459))) + ((((x0 - (((x0.toUInt32 >>> ((1 : Int32).toUInt32 &&& Int32.toUInt32 31)).toInt32) &&& ((1431655765)))).toUInt32 >>> ((2 : Int32).toUInt32 &&& Int32.toUInt32 31)).toInt32) &&& ((858993459)))) + (((((x0 - (((x0.toUInt32 >>> ((1 : Int32).toUInt32 &&& Int32.toUInt32 31)).toInt32) &&& ((1431655765)))) &&& ((858993459))) + ((((x0 - (((x0.toUInt32 >>> ((1 : Int32).toUInt32 &&& Int32.toUInt32 31)).toInt32) &&& ((1431655765)))).toUInt32 >>> ((2 : Int32).toUInt32 &&& Int32.toUInt32 31)).toInt32) &&& ((858993459)))).toUInt32 >>> ((4 : Int32).toUInt32 &&& Int32.toUInt32 31)).toInt32)) &&& ((252645135))).toUInt32 >>> ((8 : Int32).toUInt32 &&& Int32.toUInt32 31)).toInt32)) + ((((((((x0 - (((x0.toUInt32 >>> ((1 : Int32).toUInt32 &&& Int32.toUInt32 31)).toInt32) &&& ((1431655765)))) &&& ((858993459))) + ((((x0 - (((x0.toUInt32 >>> ((1 : Int32).toUInt32 &&& Int32.toUInt32 31)).toInt32) &&& ((1431655765)))).toUInt32 >>> ((2 : Int32).toUInt32 &&& Int32.toUInt32 31)).toInt32) &&& ((858993459)))) + (((((x0 - (((x0.toUInt32 >>> ((1 : Int32).toUInt32 &&& Int32.toUInt32 31)).toInt32) &&& ((1431655765)))) &&& ((858993459))) + ((((x0 - (((x0.toUInt32 >>> ((1 : Int32).toUInt32 &&& Int32.toUInt32 31)).toInt32) &&& ((1431655765)))).toUInt32 >>> ((2 : Int32).toUInt32 &&& Int32.toUInt32 31)).toInt32) &&& ((858993459)))).toUInt32 >>> ((4 : Int32).toUInt32 &&& Int32.toUInt32 31)).toInt32)) &&& ((252645135))) + (((((((x0 - (((x0.toUInt32 >>> ((1 : Int32).toUInt32 &&& Int32.toUInt32 31)).toInt32) &&& ((1431655765)))) &&& ((858993459))) + ((((x0 - (((x0.toUInt32 >>> ((1 : Int32).toUInt32 &&& Int32.toUInt32 31)).toInt32) &&& ((1431655765)))).toUInt32 >>> ((2 : Int32).toUInt32 &&& Int32.toUInt32 31)).toInt32) &&& ((858993459)))) + (((((x0 - (((x0.toUInt32 >>> ((1 : Int32).toUInt32 &&& Int32.toUInt32 31)).toInt32) &&& ((1431655765)))) &&& ((858993459))) + ((((x0 - (((x0.toUInt32 >>> ((1 : Int32).toUInt32 &&& Int32.toUInt32 31)).toInt32) &&& ((1431655765)))).toUInt32 >>> ((2 : Int32).toUInt32 &&& Int32.toUInt32 31)).toInt32) &&& ((858993459)))).toUInt32 >>> ((4 : Int32).toUInt32 &&& Int32.toUInt32 31)).toInt32)) &&& ((252645135))).toUInt32 >>> ((8 : Int32).toUInt32 &&& Int32.toUInt32 31)).toInt32)).toUInt32 >>> ((16 : Int32).toUInt32 &&& Int32.toUInt32 31)).toInt32)) &&& 63)
abbrev rmJ6_bitCount_0f7a4 : Room := { frames := 0, cells := 0, slots := 0, locals := 0 }
set_option maxHeartbeats 4000000 in
set_option maxRecDepth 100000 in
theorem c_J6_bitCount_0f7a4 {l : Launch} {g : Gam} {I : Mem} {R : Rem} {P : Pool} {Z : Zed} (x0 : Int32)  {z : Int32} (hf : f_J6_bitCount_0f7a4 x0 = some z) : Met l yJ6_bitCount_0f7a4 (Cond.code yJ6_bitCount_0f7a4 cJ6_bitCount_0f7a4 1 (some .int) :: GT) rmJ6_bitCount_0f7a4 (va_Pc [.int x0] (PW g I R P Z)) (QI g z I R P Z) 0 0 (AA g) := by
  refine aw_ofW (lv0 := [(0, .int x0)]) (by decide) (by exact Nat.le_of_ble_eq_true rfl) (by rfl) (fun p0 e s m args below meth c ls C0 hl hW => ?_)
  have C0 : CX g p0 s m args meth c RJ6 cJ6_bitCount_0f7a4 1 (some .int) := C0
  have hx := C0.1; have hb := C0.2.1; have hown := C0.2.2.2.2.1; have hts := C0.2.2.2.2.2.1; have hKS := C0.2.2.2.2.2.2.1
  unfold f_J6_bitCount_0f7a4 at hf
  obtain ⟨H, hH⟩ : ∃ H, H = s.heap := ⟨_, rfl⟩
  obtain ⟨locs, hlc⟩ : ∃ q : List Loc, q = [] := ⟨_, rfl⟩
  rw [show W p0 l e rmJ6_bitCount_0f7a4 s m args below meth c s.heap [] 0 0 (MQ below (QI g z I R P Z) args s 0 0 (AA g)) (F0 m 0 ls []) = W p0 l e rmJ6_bitCount_0f7a4 s m args below meth c H locs 0 0 (MQ below (QI g z I R P Z) args s 0 0 (AA g)) (F0 m 0 ls []) by rw [hH, hlc]]
  have hW : Wd g I R P Z s.heap H locs := by rw [hH, hlc]; exact hW
  refine lv_iload_n hx hb dJ6_bitCount_0f7a4_0 rfl (lv_at hl 0 rfl) ?_
  refine lv_iload_n hx hb dJ6_bitCount_0f7a4_1 rfl (lv_at hl 0 rfl) ?_
  refine lv_iconst (v := 1) hx hb dJ6_bitCount_0f7a4_2 (by decide) ?_
  refine lv_iushr (v := (x0.toUInt32 >>> ((1 : Int32).toUInt32 &&& Int32.toUInt32 31)).toInt32) hx hb dJ6_bitCount_0f7a4_3 rfl ?_
  refine lv_ldcw (v := (1431655765)) hx hb hown (hts _ wd0) dJ6_bitCount_0f7a4_4 ?_
  refine lv_iand hx hb dJ6_bitCount_0f7a4_7 ?_
  refine lv_isub hx hb dJ6_bitCount_0f7a4_8 ?_
  refine lv_istore_n (lv' := [(0, .int (x0 - (((x0.toUInt32 >>> ((1 : Int32).toUInt32 &&& Int32.toUInt32 31)).toInt32) &&& ((1431655765)))))]) hx hb dJ6_bitCount_0f7a4_9 rfl hl (Nat.le_of_ble_eq_true rfl) rfl (fun ls hl => ?_)
  refine lv_iload_n hx hb dJ6_bitCount_0f7a4_10 rfl (lv_at hl 0 rfl) ?_
  refine lv_ldcw (v := (858993459)) hx hb hown (hts _ wd1) dJ6_bitCount_0f7a4_11 ?_
  refine lv_iand hx hb dJ6_bitCount_0f7a4_14 ?_
  refine lv_iload_n hx hb dJ6_bitCount_0f7a4_15 rfl (lv_at hl 0 rfl) ?_
  refine lv_iconst (v := 2) hx hb dJ6_bitCount_0f7a4_16 (by decide) ?_
  refine lv_iushr (v := ((x0 - (((x0.toUInt32 >>> ((1 : Int32).toUInt32 &&& Int32.toUInt32 31)).toInt32) &&& ((1431655765)))).toUInt32 >>> ((2 : Int32).toUInt32 &&& Int32.toUInt32 31)).toInt32) hx hb dJ6_bitCount_0f7a4_17 rfl ?_
  refine lv_ldcw (v := (858993459)) hx hb hown (hts _ wd1) dJ6_bitCount_0f7a4_18 ?_
  refine lv_iand hx hb dJ6_bitCount_0f7a4_21 ?_
  refine lv_iadd hx hb dJ6_bitCount_0f7a4_22 ?_
  refine lv_istore_n (lv' := [(0, .int (((x0 - (((x0.toUInt32 >>> ((1 : Int32).toUInt32 &&& Int32.toUInt32 31)).toInt32) &&& ((1431655765)))) &&& ((858993459))) + ((((x0 - (((x0.toUInt32 >>> ((1 : Int32).toUInt32 &&& Int32.toUInt32 31)).toInt32) &&& ((1431655765)))).toUInt32 >>> ((2 : Int32).toUInt32 &&& Int32.toUInt32 31)).toInt32) &&& ((858993459)))))]) hx hb dJ6_bitCount_0f7a4_23 rfl hl (Nat.le_of_ble_eq_true rfl) rfl (fun ls hl => ?_)
  refine lv_iload_n hx hb dJ6_bitCount_0f7a4_24 rfl (lv_at hl 0 rfl) ?_
  refine lv_iload_n hx hb dJ6_bitCount_0f7a4_25 rfl (lv_at hl 0 rfl) ?_
  refine lv_iconst (v := 4) hx hb dJ6_bitCount_0f7a4_26 (by decide) ?_
  refine lv_iushr (v := ((((x0 - (((x0.toUInt32 >>> ((1 : Int32).toUInt32 &&& Int32.toUInt32 31)).toInt32) &&& ((1431655765)))) &&& ((858993459))) + ((((x0 - (((x0.toUInt32 >>> ((1 : Int32).toUInt32 &&& Int32.toUInt32 31)).toInt32) &&& ((1431655765)))).toUInt32 >>> ((2 : Int32).toUInt32 &&& Int32.toUInt32 31)).toInt32) &&& ((858993459)))).toUInt32 >>> ((4 : Int32).toUInt32 &&& Int32.toUInt32 31)).toInt32) hx hb dJ6_bitCount_0f7a4_27 rfl ?_
  refine lv_iadd hx hb dJ6_bitCount_0f7a4_28 ?_
  refine lv_ldcw (v := (252645135)) hx hb hown (hts _ wd2) dJ6_bitCount_0f7a4_29 ?_
  refine lv_iand hx hb dJ6_bitCount_0f7a4_32 ?_
  refine lv_istore_n (lv' := [(0, .int (((((x0 - (((x0.toUInt32 >>> ((1 : Int32).toUInt32 &&& Int32.toUInt32 31)).toInt32) &&& ((1431655765)))) &&& ((858993459))) + ((((x0 - (((x0.toUInt32 >>> ((1 : Int32).toUInt32 &&& Int32.toUInt32 31)).toInt32) &&& ((1431655765)))).toUInt32 >>> ((2 : Int32).toUInt32 &&& Int32.toUInt32 31)).toInt32) &&& ((858993459)))) + (((((x0 - (((x0.toUInt32 >>> ((1 : Int32).toUInt32 &&& Int32.toUInt32 31)).toInt32) &&& ((1431655765)))) &&& ((858993459))) + ((((x0 - (((x0.toUInt32 >>> ((1 : Int32).toUInt32 &&& Int32.toUInt32 31)).toInt32) &&& ((1431655765)))).toUInt32 >>> ((2 : Int32).toUInt32 &&& Int32.toUInt32 31)).toInt32) &&& ((858993459)))).toUInt32 >>> ((4 : Int32).toUInt32 &&& Int32.toUInt32 31)).toInt32)) &&& ((252645135))))]) hx hb dJ6_bitCount_0f7a4_33 rfl hl (Nat.le_of_ble_eq_true rfl) rfl (fun ls hl => ?_)
  refine lv_iload_n hx hb dJ6_bitCount_0f7a4_34 rfl (lv_at hl 0 rfl) ?_
  refine lv_iload_n hx hb dJ6_bitCount_0f7a4_35 rfl (lv_at hl 0 rfl) ?_
  refine lv_bipush (v := 8) hx hb dJ6_bitCount_0f7a4_36 (by decide) ?_
  refine lv_iushr (v := ((((((x0 - (((x0.toUInt32 >>> ((1 : Int32).toUInt32 &&& Int32.toUInt32 31)).toInt32) &&& ((1431655765)))) &&& ((858993459))) + ((((x0 - (((x0.toUInt32 >>> ((1 : Int32).toUInt32 &&& Int32.toUInt32 31)).toInt32) &&& ((1431655765)))).toUInt32 >>> ((2 : Int32).toUInt32 &&& Int32.toUInt32 31)).toInt32) &&& ((858993459)))) + (((((x0 - (((x0.toUInt32 >>> ((1 : Int32).toUInt32 &&& Int32.toUInt32 31)).toInt32) &&& ((1431655765)))) &&& ((858993459))) + ((((x0 - (((x0.toUInt32 >>> ((1 : Int32).toUInt32 &&& Int32.toUInt32 31)).toInt32) &&& ((1431655765)))).toUInt32 >>> ((2 : Int32).toUInt32 &&& Int32.toUInt32 31)).toInt32) &&& ((858993459)))).toUInt32 >>> ((4 : Int32).toUInt32 &&& Int32.toUInt32 31)).toInt32)) &&& ((252645135))).toUInt32 >>> ((8 : Int32).toUInt32 &&& Int32.toUInt32 31)).toInt32) hx hb dJ6_bitCount_0f7a4_38 rfl ?_
  refine lv_iadd hx hb dJ6_bitCount_0f7a4_39 ?_
  refine lv_istore_n (lv' := [(0, .int ((((((x0 - (((x0.toUInt32 >>> ((1 : Int32).toUInt32 &&& Int32.toUInt32 31)).toInt32) &&& ((1431655765)))) &&& ((858993459))) + ((((x0 - (((x0.toUInt32 >>> ((1 : Int32).toUInt32 &&& Int32.toUInt32 31)).toInt32) &&& ((1431655765)))).toUInt32 >>> ((2 : Int32).toUInt32 &&& Int32.toUInt32 31)).toInt32) &&& ((858993459)))) + (((((x0 - (((x0.toUInt32 >>> ((1 : Int32).toUInt32 &&& Int32.toUInt32 31)).toInt32) &&& ((1431655765)))) &&& ((858993459))) + ((((x0 - (((x0.toUInt32 >>> ((1 : Int32).toUInt32 &&& Int32.toUInt32 31)).toInt32) &&& ((1431655765)))).toUInt32 >>> ((2 : Int32).toUInt32 &&& Int32.toUInt32 31)).toInt32) &&& ((858993459)))).toUInt32 >>> ((4 : Int32).toUInt32 &&& Int32.toUInt32 31)).toInt32)) &&& ((252645135))) + (((((((x0 - (((x0.toUInt32 >>> ((1 : Int32).toUInt32 &&& Int32.toUInt32 31)).toInt32) &&& ((1431655765)))) &&& ((858993459))) + ((((x0 - (((x0.toUInt32 >>> ((1 : Int32).toUInt32 &&& Int32.toUInt32 31)).toInt32) &&& ((1431655765)))).toUInt32 >>> ((2 : Int32).toUInt32 &&& Int32.toUInt32 31)).toInt32) &&& ((858993459)))) + (((((x0 - (((x0.toUInt32 >>> ((1 : Int32).toUInt32 &&& Int32.toUInt32 31)).toInt32) &&& ((1431655765)))) &&& ((858993459))) + ((((x0 - (((x0.toUInt32 >>> ((1 : Int32).toUInt32 &&& Int32.toUInt32 31)).toInt32) &&& ((1431655765)))).toUInt32 >>> ((2 : Int32).toUInt32 &&& Int32.toUInt32 31)).toInt32) &&& ((858993459)))).toUInt32 >>> ((4 : Int32).toUInt32 &&& Int32.toUInt32 31)).toInt32)) &&& ((252645135))).toUInt32 >>> ((8 : Int32).toUInt32 &&& Int32.toUInt32 31)).toInt32)))]) hx hb dJ6_bitCount_0f7a4_40 rfl hl (Nat.le_of_ble_eq_true rfl) rfl (fun ls hl => ?_)
  refine lv_iload_n hx hb dJ6_bitCount_0f7a4_41 rfl (lv_at hl 0 rfl) ?_
  refine lv_iload_n hx hb dJ6_bitCount_0f7a4_42 rfl (lv_at hl 0 rfl) ?_
  refine lv_bipush (v := 16) hx hb dJ6_bitCount_0f7a4_43 (by decide) ?_
  refine lv_iushr (v := (((((((x0 - (((x0.toUInt32 >>> ((1 : Int32).toUInt32 &&& Int32.toUInt32 31)).toInt32) &&& ((1431655765)))) &&& ((858993459))) + ((((x0 - (((x0.toUInt32 >>> ((1 : Int32).toUInt32 &&& Int32.toUInt32 31)).toInt32) &&& ((1431655765)))).toUInt32 >>> ((2 : Int32).toUInt32 &&& Int32.toUInt32 31)).toInt32) &&& ((858993459)))) + (((((x0 - (((x0.toUInt32 >>> ((1 : Int32).toUInt32 &&& Int32.toUInt32 31)).toInt32) &&& ((1431655765)))) &&& ((858993459))) + ((((x0 - (((x0.toUInt32 >>> ((1 : Int32).toUInt32 &&& Int32.toUInt32 31)).toInt32) &&& ((1431655765)))).toUInt32 >>> ((2 : Int32).toUInt32 &&& Int32.toUInt32 31)).toInt32) &&& ((858993459)))).toUInt32 >>> ((4 : Int32).toUInt32 &&& Int32.toUInt32 31)).toInt32)) &&& ((252645135))) + (((((((x0 - (((x0.toUInt32 >>> ((1 : Int32).toUInt32 &&& Int32.toUInt32 31)).toInt32) &&& ((1431655765)))) &&& ((858993459))) + ((((x0 - (((x0.toUInt32 >>> ((1 : Int32).toUInt32 &&& Int32.toUInt32 31)).toInt32) &&& ((1431655765)))).toUInt32 >>> ((2 : Int32).toUInt32 &&& Int32.toUInt32 31)).toInt32) &&& ((858993459)))) + (((((x0 - (((x0.toUInt32 >>> ((1 : Int32).toUInt32 &&& Int32.toUInt32 31)).toInt32) &&& ((1431655765)))) &&& ((858993459))) + ((((x0 - (((x0.toUInt32 >>> ((1 : Int32).toUInt32 &&& Int32.toUInt32 31)).toInt32) &&& ((1431655765)))).toUInt32 >>> ((2 : Int32).toUInt32 &&& Int32.toUInt32 31)).toInt32) &&& ((858993459)))).toUInt32 >>> ((4 : Int32).toUInt32 &&& Int32.toUInt32 31)).toInt32)) &&& ((252645135))).toUInt32 >>> ((8 : Int32).toUInt32 &&& Int32.toUInt32 31)).toInt32)).toUInt32 >>> ((16 : Int32).toUInt32 &&& Int32.toUInt32 31)).toInt32) hx hb dJ6_bitCount_0f7a4_45 rfl ?_
  refine lv_iadd hx hb dJ6_bitCount_0f7a4_46 ?_
  refine lv_istore_n (lv' := [(0, .int (((((((x0 - (((x0.toUInt32 >>> ((1 : Int32).toUInt32 &&& Int32.toUInt32 31)).toInt32) &&& ((1431655765)))) &&& ((858993459))) + ((((x0 - (((x0.toUInt32 >>> ((1 : Int32).toUInt32 &&& Int32.toUInt32 31)).toInt32) &&& ((1431655765)))).toUInt32 >>> ((2 : Int32).toUInt32 &&& Int32.toUInt32 31)).toInt32) &&& ((858993459)))) + (((((x0 - (((x0.toUInt32 >>> ((1 : Int32).toUInt32 &&& Int32.toUInt32 31)).toInt32) &&& ((1431655765)))) &&& ((858993459))) + ((((x0 - (((x0.toUInt32 >>> ((1 : Int32).toUInt32 &&& Int32.toUInt32 31)).toInt32) &&& ((1431655765)))).toUInt32 >>> ((2 : Int32).toUInt32 &&& Int32.toUInt32 31)).toInt32) &&& ((858993459)))).toUInt32 >>> ((4 : Int32).toUInt32 &&& Int32.toUInt32 31)).toInt32)) &&& ((252645135))) + (((((((x0 - (((x0.toUInt32 >>> ((1 : Int32).toUInt32 &&& Int32.toUInt32 31)).toInt32) &&& ((1431655765)))) &&& ((858993459))) + ((((x0 - (((x0.toUInt32 >>> ((1 : Int32).toUInt32 &&& Int32.toUInt32 31)).toInt32) &&& ((1431655765)))).toUInt32 >>> ((2 : Int32).toUInt32 &&& Int32.toUInt32 31)).toInt32) &&& ((858993459)))) + (((((x0 - (((x0.toUInt32 >>> ((1 : Int32).toUInt32 &&& Int32.toUInt32 31)).toInt32) &&& ((1431655765)))) &&& ((858993459))) + ((((x0 - (((x0.toUInt32 >>> ((1 : Int32).toUInt32 &&& Int32.toUInt32 31)).toInt32) &&& ((1431655765)))).toUInt32 >>> ((2 : Int32).toUInt32 &&& Int32.toUInt32 31)).toInt32) &&& ((858993459)))).toUInt32 >>> ((4 : Int32).toUInt32 &&& Int32.toUInt32 31)).toInt32)) &&& ((252645135))).toUInt32 >>> ((8 : Int32).toUInt32 &&& Int32.toUInt32 31)).toInt32)) + ((((((((x0 - (((x0.toUInt32 >>> ((1 : Int32).toUInt32 &&& Int32.toUInt32 31)).toInt32) &&& ((1431655765)))) &&& ((858993459))) + ((((x0 - (((x0.toUInt32 >>> ((1 : Int32).toUInt32 &&& Int32.toUInt32 31)).toInt32) &&& ((1431655765)))).toUInt32 >>> ((2 : Int32).toUInt32 &&& Int32.toUInt32 31)).toInt32) &&& ((858993459)))) + (((((x0 - (((x0.toUInt32 >>> ((1 : Int32).toUInt32 &&& Int32.toUInt32 31)).toInt32) &&& ((1431655765)))) &&& ((858993459))) + ((((x0 - (((x0.toUInt32 >>> ((1 : Int32).toUInt32 &&& Int32.toUInt32 31)).toInt32) &&& ((1431655765)))).toUInt32 >>> ((2 : Int32).toUInt32 &&& Int32.toUInt32 31)).toInt32) &&& ((858993459)))).toUInt32 >>> ((4 : Int32).toUInt32 &&& Int32.toUInt32 31)).toInt32)) &&& ((252645135))) + (((((((x0 - (((x0.toUInt32 >>> ((1 : Int32).toUInt32 &&& Int32.toUInt32 31)).toInt32) &&& ((1431655765)))) &&& ((858993459))) + ((((x0 - (((x0.toUInt32 >>> ((1 : Int32).toUInt32 &&& Int32.toUInt32 31)).toInt32) &&& ((1431655765)))).toUInt32 >>> ((2 : Int32).toUInt32 &&& Int32.toUInt32 31)).toInt32) &&& ((858993459)))) + (((((x0 - (((x0.toUInt32 >>> ((1 : Int32).toUInt32 &&& Int32.toUInt32 31)).toInt32) &&& ((1431655765)))) &&& ((858993459))) + ((((x0 - (((x0.toUInt32 >>> ((1 : Int32).toUInt32 &&& Int32.toUInt32 31)).toInt32) &&& ((1431655765)))).toUInt32 >>> ((2 : Int32).toUInt32 &&& Int32.toUInt32 31)).toInt32) &&& ((858993459)))).toUInt32 >>> ((4 : Int32).toUInt32 &&& Int32.toUInt32 31)).toInt32)) &&& ((252645135))).toUInt32 >>> ((8 : Int32).toUInt32 &&& Int32.toUInt32 31)).toInt32)).toUInt32 >>> ((16 : Int32).toUInt32 &&& Int32.toUInt32 31)).toInt32)))]) hx hb dJ6_bitCount_0f7a4_47 rfl hl (Nat.le_of_ble_eq_true rfl) rfl (fun ls hl => ?_)
  refine lv_iload_n hx hb dJ6_bitCount_0f7a4_48 rfl (lv_at hl 0 rfl) ?_
  refine lv_bipush (v := 63) hx hb dJ6_bitCount_0f7a4_49 (by decide) ?_
  refine lv_iand hx hb dJ6_bitCount_0f7a4_51 ?_
  have hz := Option.some.inj hf
  exact aw_iret C0 hW hz rfl rfl dJ6_bitCount_0f7a4_52
theorem cw_X8_179 {Rm : Room} {s : State} {args : Array Value} (ht : ∀ w ∈ GT, w.before args s = true) (hR : rmJ6_bitCount_0f7a4.frames + 1 ≤ Rm.frames ∧ 8 + (1 + 11) + rmJ6_bitCount_0f7a4.locals ≤ Rm.locals) : CallB Rm s args RX8 179 yJ6_bitCount_0f7a4 cJ6_bitCount_0f7a4 1 (some .int) (Cond.code yJ6_bitCount_0f7a4 cJ6_bitCount_0f7a4 1 (some .int) :: GT) rmJ6_bitCount_0f7a4 0 0 1 ∧ (Cond.static yJ6_bitCount_0f7a4).before args s = true := va_cwS 1 ht (goodS wd263 wd264 wd265 wd266) rfl rfl rfl ⟨by decide +kernel, by decide +kernel, by decide +kernel⟩ hR
def f_X6_takeOver_L20 (p : Nat) (o1 : Option Nat) (P : Pool) : Nat → Int32 → Mem → Rem → Option (Mem × Rem)
  | 0, _, _, _ => none
  | n + 1, w2, I, R =>
    if 2 ≤ w2 then (
      some (I, R)
    ) else (
      o1.bind fun k3 =>
      (rd I (k3 + 2) 2 w2).bind fun v4 =>
      (wr I (p + 2) 2 w2 v4).bind fun I5 =>
      o1.bind fun k6 =>
      (rdq R P (k6 + 4) 2 2 w2).bind fun o7 =>
      (wrq R (p + 4) 2 w2 o7).bind fun R8 =>
      f_X6_takeOver_L20 p o1 P n (w2 + 1) I5 R8
    )
def f_X6_takeOver_L57 (p : Nat) (o1 : Option Nat) (P : Pool) (I : Mem) : Nat → Int32 → Rem → Option (Rem)
  | 0, _, _ => none
  | n + 1, w2, R =>
    if 6 ≤ w2 then (
      some R
    ) else (
      o1.bind fun k10 =>
      (rdq R P (k10 + 3) 6 2 w2).bind fun o11 =>
      (wrq R (p + 3) 6 w2 o11).bind fun R12 =>
      f_X6_takeOver_L57 p o1 P I n (w2 + 1) R12
    )
def f_X6_takeOver (p : Nat) (o1 : Option Nat) (P : Pool) (R : Rem) (I : Mem) : Option (Mem × Rem) :=
  o1.bind fun k1 =>
  (cpy I (k1 + 1) 128 (p + 1) 128 0 0 128).bind fun I2 =>
  (f_X6_takeOver_L20 p o1 P fuel 0 I2 R).bind fun q9 =>
  (f_X6_takeOver_L57 p o1 P q9.1 fuel 0 q9.2).bind fun q13 =>
  o1.bind fun k14 =>
  some ((up q9.1 p 4 (q9.1 k14 4)), q13)
abbrev rmX6_takeOver : Room := { frames := 1, cells := 0, slots := 0, locals := 26 }
set_option maxHeartbeats 4000000 in
set_option maxRecDepth 100000 in
theorem c_X6_takeOver {l : Launch} {g : Gam} {I : Mem} {R : Rem} {P : Pool} {Z : Zed} (p : Nat) (o1 : Option Nat) (hp : Kd P p = 6) (ho1 : ∀ k, o1 = some k → Kd P k = 6) {z : Mem × Rem} (hf : f_X6_takeOver p o1 P R I = some z) : Met l yX6_takeOver (Cond.code yX6_takeOver cX6_takeOver 3 none :: GT) rmX6_takeOver (va_Pc [.ref (g.2.2 + p), va_rf (o1.map (fun y => g.2.2 + y))] (PW g I R P Z)) (QV g z.1 z.2 P Z) 0 0 (AA g) := by
  refine aw_ofW (lv0 := [(0, .ref (g.2.2 + p)), (1, va_rf (o1.map (fun y => g.2.2 + y)))]) (by decide) (by cases o1 <;> exact Nat.le_of_ble_eq_true rfl) (by cases o1 <;> rfl) (fun p0 e s m args below meth c ls C0 hl hW => ?_)
  have C0 : CX g p0 s m args meth c RX6 cX6_takeOver 3 none := C0
  have hx := C0.1; have hb := C0.2.1; have hown := C0.2.2.2.2.1; have hts := C0.2.2.2.2.2.1; have hKS := C0.2.2.2.2.2.2.1
  have L20 : ∀ (n : Nat) (w2 : Int32) (I : Mem) (R : Rem) (H : Heap) (locs : List Loc) (ls : Array Slot) (o : Mem × Rem), f_X6_takeOver_L20 p o1 P n w2 I R = some o → Wd g I R P Z s.heap H locs → lv_has ls 3 [(0, .ref (g.2.2 + p)), (1, va_rf (o1.map (fun y => g.2.2 + y))), (2, .int w2)] → (∀ (H : Heap) (locs : List Loc) (ls : Array Slot), Wd g o.1 o.2 P Z s.heap H locs → lv_has ls 3 [(0, .ref (g.2.2 + p)), (1, va_rf (o1.map (fun y => g.2.2 + y)))] → W p0 l e rmX6_takeOver s m args below meth c H locs 0 0 (MQ below (QV g z.1 z.2 P Z) args s 0 0 (AA g)) (F0 m 55 ls [])) → W p0 l e rmX6_takeOver s m args below meth c H locs 0 0 (MQ below (QV g z.1 z.2 P Z) args s 0 0 (AA g)) (F0 m 20 ls []) := by
    intro n
    induction n with
    | zero => intro w2 I R H locs ls o hf; cases hf
    | succ n ih =>
      intro w2 I R H locs ls o hf hW hl hK
      rw [f_X6_takeOver_L20] at hf
      refine lv_iload_n hx hb dX6_takeOver_20 rfl (lv_at hl 2 rfl) ?_
      refine lv_iconst (v := 2) hx hb dX6_takeOver_21 (by decide) ?_
      refine lv_icmp_ge (tgt := 55) hx hb dX6_takeOver_22 rfl (fun hc => ?_) (fun hc => ?_)
      · have hf := ift hc hf
        have ho := Option.some.inj hf
        subst ho
        exact hK H locs ls hW (lv_sub hl [0, 1] rfl)
      · have hf := iff_ hc hf
        refine lv_aload_n hx hb dX6_takeOver_25 rfl (lv_at hl 0 rfl) ?_
        refine aw_get (v := .ref (g.2.2 + (p + 2))) C0 hW (lv_kd hW.1.2.2 hp (by decide)) (cel_6 hp) rfl inG6 1 (by decide) wd8 rfl rfl dX6_takeOver_26 ?_
        refine lv_iload_n hx hb dX6_takeOver_29 rfl (lv_at hl 2 rfl) ?_
        refine aw_ald_n (x := o1) C0 dX6_takeOver_30 rfl (lv_at hl 1 rfl) ?_
        obtain ⟨k3, ek3, hf⟩ := bnd hf
        have hk3 := ho1 k3 ek3
        refine W.eq (g2 := F0 m 31 ls ([.ref (g.2.2 + k3), .int w2, .ref (g.2.2 + (p + 2))])) (by rw [ek3]; rfl) ?_
        refine aw_get (v := .ref (g.2.2 + (k3 + 2))) C0 hW (lv_kd hW.1.2.2 hk3 (by decide)) (cel_6 hk3) rfl inG6 1 (by decide) wd8 rfl rfl dX6_takeOver_31 ?_
        refine lv_iload_n hx hb dX6_takeOver_34 rfl (lv_at hl 2 rfl) ?_
        obtain ⟨v4, hv4, hf⟩ := bnd hf
        refine aw_iald C0 hW (state_k hW.1.2.2 hk3).2.1.1 (state_k hW.1.2.2 hk3).2.1.2 hv4 dX6_takeOver_35 ?_
        obtain ⟨I5, hI5, hf⟩ := bnd hf
        refine aw_iast C0 hW (state_k hW.1.2.2 hp).2.1.1 (state_k hW.1.2.2 hp).2.1.2 hI5 dX6_takeOver_36 (fun H locs hW => ?_)
        refine lv_aload_n hx hb dX6_takeOver_37 rfl (lv_at hl 0 rfl) ?_
        refine aw_get (v := .ref (g.2.2 + (p + 4))) C0 hW (lv_kd hW.1.2.2 hp (by decide)) (cel_6 hp) rfl inG6 3 (by decide) wd9 rfl rfl dX6_takeOver_38 ?_
        refine lv_iload_n hx hb dX6_takeOver_41 rfl (lv_at hl 2 rfl) ?_
        refine aw_ald_n (x := o1) C0 dX6_takeOver_42 rfl (lv_at hl 1 rfl) ?_
        obtain ⟨k6, ek6, hf⟩ := bnd hf
        have hk6 := ho1 k6 ek6
        refine W.eq (g2 := F0 m 43 ls ([.ref (g.2.2 + k6), .int w2, .ref (g.2.2 + (p + 4))])) (by rw [ek6]; rfl) ?_
        refine aw_get (v := .ref (g.2.2 + (k6 + 4))) C0 hW (lv_kd hW.1.2.2 hk6 (by decide)) (cel_6 hk6) rfl inG6 3 (by decide) wd9 rfl rfl dX6_takeOver_43 ?_
        refine lv_iload_n hx hb dX6_takeOver_46 rfl (lv_at hl 2 rfl) ?_
        obtain ⟨o7, ho7, hf⟩ := bnd hf
        refine aw_aald (Or.inl ⟨rfl, rfl, rfl⟩) C0 hW (state_k hW.1.2.2 hk6).2.2.2.1 (state_k hW.1.2.2 hk6).2.2.2.2 ho7 dX6_takeOver_47 ?_
        obtain ⟨R8, hR8, hf⟩ := bnd hf
        refine aw_aast12 C0 hW (state_k hW.1.2.2 hp).2.2.2.1 (state_k hW.1.2.2 hp).2.2.2.2 (rdq_in ho7).2.2 hR8 dX6_takeOver_48 (fun H locs hW => ?_)
        refine lv_iinc (k := 2) (v := w2 + 1) (lv' := [(2, .int (w2 + 1)), (0, .ref (g.2.2 + p)), (1, va_rf (o1.map (fun y => g.2.2 + y)))]) hx hb dX6_takeOver_49 hl rfl (congrArg (fun t => w2 + t) (by decide : Int32.ofInt 1 = 1)) (Nat.le_of_ble_eq_true rfl) (by cases o1 <;> rfl) (fun ls hl => ?_)
        refine lv_goto (tgt := 20) hx hb dX6_takeOver_52 rfl ?_
        exact ih _ _ _ H locs ls o hf hW (lv_sub hl [1, 2, 0] rfl) hK
  have L57 : ∀ (I : Mem) (n : Nat) (w2 : Int32) (R : Rem) (H : Heap) (locs : List Loc) (ls : Array Slot) (o : Rem), f_X6_takeOver_L57 p o1 P I n w2 R = some o → Wd g I R P Z s.heap H locs → lv_has ls 3 [(0, .ref (g.2.2 + p)), (1, va_rf (o1.map (fun y => g.2.2 + y))), (2, .int w2)] → (∀ (H : Heap) (locs : List Loc) (ls : Array Slot), Wd g I o P Z s.heap H locs → lv_has ls 3 [(0, .ref (g.2.2 + p)), (1, va_rf (o1.map (fun y => g.2.2 + y)))] → W p0 l e rmX6_takeOver s m args below meth c H locs 0 0 (MQ below (QV g z.1 z.2 P Z) args s 0 0 (AA g)) (F0 m 81 ls [])) → W p0 l e rmX6_takeOver s m args below meth c H locs 0 0 (MQ below (QV g z.1 z.2 P Z) args s 0 0 (AA g)) (F0 m 57 ls []) := by
    intro I n
    induction n with
    | zero => intro w2 R H locs ls o hf; cases hf
    | succ n ih =>
      intro w2 R H locs ls o hf hW hl hK
      rw [f_X6_takeOver_L57] at hf
      refine lv_iload_n hx hb dX6_takeOver_57 rfl (lv_at hl 2 rfl) ?_
      refine lv_bipush (v := 6) hx hb dX6_takeOver_58 (by decide) ?_
      refine lv_icmp_ge (tgt := 81) hx hb dX6_takeOver_60 rfl (fun hc => ?_) (fun hc => ?_)
      · have hf := ift hc hf
        have ho := Option.some.inj hf
        subst ho
        exact hK H locs ls hW (lv_sub hl [0, 1] rfl)
      · have hf := iff_ hc hf
        refine lv_aload_n hx hb dX6_takeOver_63 rfl (lv_at hl 0 rfl) ?_
        refine aw_get (v := .ref (g.2.2 + (p + 3))) C0 hW (lv_kd hW.1.2.2 hp (by decide)) (cel_6 hp) rfl inG6 2 (by decide) wd10 rfl rfl dX6_takeOver_64 ?_
        refine lv_iload_n hx hb dX6_takeOver_67 rfl (lv_at hl 2 rfl) ?_
        refine aw_ald_n (x := o1) C0 dX6_takeOver_68 rfl (lv_at hl 1 rfl) ?_
        obtain ⟨k10, ek10, hf⟩ := bnd hf
        have hk10 := ho1 k10 ek10
        refine W.eq (g2 := F0 m 69 ls ([.ref (g.2.2 + k10), .int w2, .ref (g.2.2 + (p + 3))])) (by rw [ek10]; rfl) ?_
        refine aw_get (v := .ref (g.2.2 + (k10 + 3))) C0 hW (lv_kd hW.1.2.2 hk10 (by decide)) (cel_6 hk10) rfl inG6 2 (by decide) wd10 rfl rfl dX6_takeOver_69 ?_
        refine lv_iload_n hx hb dX6_takeOver_72 rfl (lv_at hl 2 rfl) ?_
        obtain ⟨o11, ho11, hf⟩ := bnd hf
        refine aw_aald (Or.inl ⟨rfl, rfl, rfl⟩) C0 hW (state_k hW.1.2.2 hk10).2.2.1.1 (state_k hW.1.2.2 hk10).2.2.1.2 ho11 dX6_takeOver_73 ?_
        obtain ⟨R12, hR12, hf⟩ := bnd hf
        refine aw_aast12 C0 hW (state_k hW.1.2.2 hp).2.2.1.1 (state_k hW.1.2.2 hp).2.2.1.2 (rdq_in ho11).2.2 hR12 dX6_takeOver_74 (fun H locs hW => ?_)
        refine lv_iinc (k := 2) (v := w2 + 1) (lv' := [(2, .int (w2 + 1)), (0, .ref (g.2.2 + p)), (1, va_rf (o1.map (fun y => g.2.2 + y)))]) hx hb dX6_takeOver_75 hl rfl (congrArg (fun t => w2 + t) (by decide : Int32.ofInt 1 = 1)) (Nat.le_of_ble_eq_true rfl) (by cases o1 <;> rfl) (fun ls hl => ?_)
        refine lv_goto (tgt := 57) hx hb dX6_takeOver_78 rfl ?_
        exact ih _ _ H locs ls o hf hW (lv_sub hl [1, 2, 0] rfl) hK
  unfold f_X6_takeOver at hf
  obtain ⟨H, hH⟩ : ∃ H, H = s.heap := ⟨_, rfl⟩
  obtain ⟨locs, hlc⟩ : ∃ q : List Loc, q = [] := ⟨_, rfl⟩
  rw [show W p0 l e rmX6_takeOver s m args below meth c s.heap [] 0 0 (MQ below (QV g z.1 z.2 P Z) args s 0 0 (AA g)) (F0 m 0 ls []) = W p0 l e rmX6_takeOver s m args below meth c H locs 0 0 (MQ below (QV g z.1 z.2 P Z) args s 0 0 (AA g)) (F0 m 0 ls []) by rw [hH, hlc]]
  have hW : Wd g I R P Z s.heap H locs := by rw [hH, hlc]; exact hW
  refine aw_ald_n (x := o1) C0 dX6_takeOver_0 rfl (lv_at hl 1 rfl) ?_
  obtain ⟨k1, ek1, hf⟩ := bnd hf
  have hk1 := ho1 k1 ek1
  refine W.eq (g2 := F0 m 1 ls ([.ref (g.2.2 + k1)])) (by rw [ek1]; rfl) ?_
  refine aw_get (v := .ref (g.2.2 + (k1 + 1))) C0 hW (lv_kd hW.1.2.2 hk1 (by decide)) (cel_6 hk1) rfl inG6 0 (by decide) wd3 rfl rfl dX6_takeOver_1 ?_
  refine lv_iconst (v := 0) hx hb dX6_takeOver_4 (by decide) ?_
  refine lv_aload_n hx hb dX6_takeOver_5 rfl (lv_at hl 0 rfl) ?_
  refine aw_get (v := .ref (g.2.2 + (p + 1))) C0 hW (lv_kd hW.1.2.2 hp (by decide)) (cel_6 hp) rfl inG6 0 (by decide) wd3 rfl rfl dX6_takeOver_6 ?_
  refine lv_iconst (v := 0) hx hb dX6_takeOver_9 (by decide) ?_
  refine lv_aload_n hx hb dX6_takeOver_10 rfl (lv_at hl 0 rfl) ?_
  refine aw_get (v := .ref (g.2.2 + (p + 1))) C0 hW (lv_kd hW.1.2.2 hp (by decide)) (cel_6 hp) rfl inG6 0 (by decide) wd3 rfl rfl dX6_takeOver_11 ?_
  refine aw_alen (v := 128) C0 hW (state_k hW.1.2.2 hp).1.1 (state_k hW.1.2.2 hp).1.2 (by decide) dX6_takeOver_14 ?_
  obtain ⟨I2, hI2, hf⟩ := bnd hf
  refine aw_cpy (rest := []) C0 hl.1 hW (state_k hW.1.2.2 hk1).1.1 (state_k hW.1.2.2 hk1).1.2 (state_k hW.1.2.2 hp).1.1 (state_k hW.1.2.2 hp).1.2 hI2 wd4 wd5 wd6 wd7 (Nat.le_of_ble_eq_true rfl) (Nat.le_of_ble_eq_true rfl) dX6_takeOver_15 (fun H locs hW => ?_)
  refine lv_iconst (v := 0) hx hb dX6_takeOver_18 (by decide) ?_
  refine lv_istore_n (lv' := [(2, .int 0), (0, .ref (g.2.2 + p)), (1, va_rf (o1.map (fun y => g.2.2 + y)))]) hx hb dX6_takeOver_19 rfl hl (Nat.le_of_ble_eq_true rfl) (by cases o1 <;> rfl) (fun ls hl => ?_)
  obtain ⟨q9, hq9, hf⟩ := bnd hf
  refine L20  fuel 0 I2 R H locs ls _ hq9 hW (lv_sub hl [1, 2, 0] rfl) (fun H locs ls hW hl => ?_)
  refine lv_iconst (v := 0) hx hb dX6_takeOver_55 (by decide) ?_
  refine lv_istore_n (lv' := [(2, .int 0), (0, .ref (g.2.2 + p)), (1, va_rf (o1.map (fun y => g.2.2 + y)))]) hx hb dX6_takeOver_56 rfl hl (Nat.le_of_ble_eq_true rfl) (by cases o1 <;> rfl) (fun ls hl => ?_)
  obtain ⟨q13, hq13, hf⟩ := bnd hf
  refine L57 q9.1 fuel 0 q9.2 H locs ls _ hq13 hW (lv_sub hl [1, 2, 0] rfl) (fun H locs ls hW hl => ?_)
  refine lv_aload_n hx hb dX6_takeOver_81 rfl (lv_at hl 0 rfl) ?_
  refine aw_ald_n (x := o1) C0 dX6_takeOver_82 rfl (lv_at hl 1 rfl) ?_
  obtain ⟨k14, ek14, hf⟩ := bnd hf
  have hk14 := ho1 k14 ek14
  refine W.eq (g2 := F0 m 83 ls ([.ref (g.2.2 + k14), .ref (g.2.2 + p)])) (by rw [ek14]; rfl) ?_
  refine aw_get (v := .int (q9.1 k14 4)) C0 hW (lv_kd hW.1.2.2 hk14 (by decide)) (cel_6 hk14) rfl inG6 4 (by decide) wd11 rfl rfl dX6_takeOver_83 ?_
  refine aw_put C0 hW (lv_kd hW.1.2.2 hp (by decide)) (cel_6 hp) rfl inG6 tyX6 tyX6_ok nmX6 4 (by decide) wd11 rfl rfl (ty := .int) rfl rfl rfl (Nat.le_of_ble_eq_true rfl) (pu_6_4 hp) dX6_takeOver_86 (fun H locs hW => ?_)
  have hz := Option.some.inj hf
  have hzI := congrArg (fun z : Mem × Rem => z.1) hz
  have hzR := congrArg (fun z : Mem × Rem => z.2) hz
  exact aw_vret C0 hW hzI hzR dX6_takeOver_89
theorem cw_X8_304 {Rm : Room} {s : State} {args : Array Value} (ht : ∀ w ∈ GT, w.before args s = true) (hR : rmX6_takeOver.frames + 1 ≤ Rm.frames ∧ 8 + (3 + 11) + rmX6_takeOver.locals ≤ Rm.locals) : CallW Rm s args RX8 RX6 304 yX6_takeOver cX6_takeOver 3 none (Cond.code yX6_takeOver cX6_takeOver 3 none :: GT) rmX6_takeOver 0 0 1 := cwV 1 ht (goodV wd286 wd287 wd288 wd289 wd290) rfl rfl rfl ⟨rfl, by decide +kernel, by decide +kernel, by decide +kernel⟩ hR
def f_X8_copyState (o0 : Option Nat) (o1 : Option Nat) (P : Pool) (R : Rem) (I : Mem) : Option (Mem × Rem) :=
  oq o0 (
    some (I, R)
  ) fun k1 => (
    oq o1 (
      some (I, R)
    ) fun k2 => (
      (f_X6_takeOver k2 ((some k1)) P R I).bind fun q3 =>
      some (q3.1, q3.2)
    )
  )
abbrev rmX8_copyState : Room := { frames := 2, cells := 0, slots := 0, locals := 48 }
set_option maxHeartbeats 4000000 in
set_option maxRecDepth 100000 in
theorem c_X8_copyState {l : Launch} {g : Gam} {I : Mem} {R : Rem} {P : Pool} {Z : Zed} (o0 : Option Nat) (o1 : Option Nat) (ho0 : ∀ k, o0 = some k → Kd P k = 6) (ho1 : ∀ k, o1 = some k → Kd P k = 6) {z : Mem × Rem} (hf : f_X8_copyState o0 o1 P R I = some z) : Met l yX8_copyState (Cond.code yX8_copyState cX8_copyState 2 none :: GT) rmX8_copyState (va_Pc [va_rf (o0.map (fun y => g.2.2 + y)), va_rf (o1.map (fun y => g.2.2 + y))] (PW g I R P Z)) (QV g z.1 z.2 P Z) 0 0 (AA g) := by
  refine aw_ofW (lv0 := [(0, va_rf (o0.map (fun y => g.2.2 + y))), (1, va_rf (o1.map (fun y => g.2.2 + y)))]) (by decide) (by cases o0 <;> cases o1 <;> exact Nat.le_of_ble_eq_true rfl) (by cases o0 <;> cases o1 <;> rfl) (fun p0 e s m args below meth c ls C0 hl hW => ?_)
  have C0 : CX g p0 s m args meth c RX8 cX8_copyState 2 none := C0
  have hx := C0.1; have hb := C0.2.1; have hown := C0.2.2.2.2.1; have hts := C0.2.2.2.2.2.1; have hKS := C0.2.2.2.2.2.2.1
  unfold f_X8_copyState at hf
  obtain ⟨H, hH⟩ : ∃ H, H = s.heap := ⟨_, rfl⟩
  obtain ⟨locs, hlc⟩ : ∃ q : List Loc, q = [] := ⟨_, rfl⟩
  rw [show W p0 l e rmX8_copyState s m args below meth c s.heap [] 0 0 (MQ below (QV g z.1 z.2 P Z) args s 0 0 (AA g)) (F0 m 0 ls []) = W p0 l e rmX8_copyState s m args below meth c H locs 0 0 (MQ below (QV g z.1 z.2 P Z) args s 0 0 (AA g)) (F0 m 0 ls []) by rw [hH, hlc]]
  have hW : Wd g I R P Z s.heap H locs := by rw [hH, hlc]; exact hW
  refine aw_ald_n (x := o0) C0 dX8_copyState_0 rfl (lv_at hl 0 rfl) ?_
  rcases hkk1 : o0 with _ | k1
  · rw [hkk1] at hf
    have hf := (oq_n.symm.trans hf)
    have hl : lv_has ls 2 [(0, va_rf (((none : Option Nat)).map (fun y => g.2.2 + y))), (1, va_rf (o1.map (fun y => g.2.2 + y)))] := by first | exact hl | (rw [hkk1] at hl; exact hl)
    refine W.eq (g2 := F0 m 1 ls ([.null])) (by first | rfl | (rw [hkk1]; rfl)) ?_
    refine lv_ifnullN (tgt := 13) hx hb dX8_copyState_1 rfl ?_
    have hz := Option.some.inj hf
    have hzI := congrArg (fun z : Mem × Rem => z.1) hz
    have hzR := congrArg (fun z : Mem × Rem => z.2) hz
    exact aw_vret C0 hW hzI hzR dX8_copyState_13
  · rw [hkk1] at hf
    have hf := (oq_s.symm.trans hf)
    have hk1 := ho0 k1 hkk1
    have hl : lv_has ls 2 [(0, .ref (g.2.2 + k1)), (1, va_rf (o1.map (fun y => g.2.2 + y)))] := by first | exact hl | (rw [hkk1] at hl; exact hl)
    refine W.eq (g2 := F0 m 1 ls ([.ref (g.2.2 + k1)])) (by first | rfl | (rw [hkk1]; rfl)) ?_
    refine lv_ifnull hx hb dX8_copyState_1 ?_
    refine aw_ald_n (x := o1) C0 dX8_copyState_4 rfl (lv_at hl 1 rfl) ?_
    rcases hkk2 : o1 with _ | k2
    · rw [hkk2] at hf
      have hf := (oq_n.symm.trans hf)
      have hl : lv_has ls 2 [(0, .ref (g.2.2 + k1)), (1, va_rf (((none : Option Nat)).map (fun y => g.2.2 + y)))] := by first | exact hl | (rw [hkk2] at hl; exact hl)
      refine W.eq (g2 := F0 m 5 ls ([.null])) (by first | rfl | (rw [hkk2]; rfl)) ?_
      refine lv_ifnullN (tgt := 13) hx hb dX8_copyState_5 rfl ?_
      have hz := Option.some.inj hf
      have hzI := congrArg (fun z : Mem × Rem => z.1) hz
      have hzR := congrArg (fun z : Mem × Rem => z.2) hz
      exact aw_vret C0 hW hzI hzR dX8_copyState_13
    · rw [hkk2] at hf
      have hf := (oq_s.symm.trans hf)
      have hk2 := ho1 k2 hkk2
      have hl : lv_has ls 2 [(0, .ref (g.2.2 + k1)), (1, .ref (g.2.2 + k2))] := by first | exact hl | (rw [hkk2] at hl; exact hl)
      refine W.eq (g2 := F0 m 5 ls ([.ref (g.2.2 + k2)])) (by first | rfl | (rw [hkk2]; rfl)) ?_
      refine lv_ifnull hx hb dX8_copyState_5 ?_
      refine lv_aload_n hx hb dX8_copyState_8 rfl (lv_at hl 1 rfl) ?_
      refine lv_aload_n hx hb dX8_copyState_9 rfl (lv_at hl 0 rfl) ?_
      obtain ⟨q3, hq3, hf⟩ := bnd hf
      refine aw_cVv (rest := []) C0 hW (lv_kd hW.1.2.2 hk2 (by decide)) (cel_6 hk2) rfl (c_X6_takeOver k2 ((some k1)) hk2 (fun k h => by cases h; exact hk1) hq3) (cw_X8_304 hts ⟨Nat.le_of_ble_eq_true rfl, Nat.le_of_ble_eq_true rfl⟩) rfl hl.1 rfl (Nat.le_of_ble_eq_true rfl) ⟨Nat.zero_le _, Nat.zero_le _⟩ dX8_copyState_10 (fun H locs hW => ?_)
      have hz := Option.some.inj hf
      have hzI := congrArg (fun z : Mem × Rem => z.1) hz
      have hzR := congrArg (fun z : Mem × Rem => z.2) hz
      exact aw_vret C0 hW hzI hzR dX8_copyState_13
theorem cw_X8_195 {Rm : Room} {s : State} {args : Array Value} (ht : ∀ w ∈ GT, w.before args s = true) (hR : rmX8_copyState.frames + 1 ≤ Rm.frames ∧ 8 + (2 + 11) + rmX8_copyState.locals ≤ Rm.locals) : CallB Rm s args RX8 195 yX8_copyState cX8_copyState 2 none (Cond.code yX8_copyState cX8_copyState 2 none :: GT) rmX8_copyState 0 0 2 ∧ (Cond.static yX8_copyState).before args s = true := va_cwS 2 ht (goodS wd268 wd269 wd243 wd270) rfl rfl rfl ⟨by decide +kernel, by decide +kernel, by decide +kernel⟩ hR
def f_X8_save_L18 (P : Pool) (y1 : Option Nat) (I : Mem) : Nat → Int32 → Rem → Option (Rem)
  | 0, _, _ => none
  | n + 1, w2, R =>
    if 6 ≤ w2 then (
      some R
    ) else (
      (rdq R P 6 6 6 w2).bind fun o4 =>
      (wrq R 6 6 (w2 - 1) o4).bind fun R5 =>
      f_X8_save_L18 P y1 I n (w2 + 1) R5
    )
def f_X8_save (P : Pool) (R : Rem) (I : Mem) : Option (Mem × Rem) :=
  if (I 0 2) < 6 then (
    (rdq R P 6 6 6 (I 0 2)).bind fun o1 =>
    (f_X8_copyState ((some 1)) o1 P R I).bind fun q2 =>
    some ((up q2.1 0 2 ((q2.1 0 2) + 1)), q2.2)
  ) else (
    (rdq R P 6 6 6 0).bind fun o3 =>
    (f_X8_save_L18 P o3 I fuel 1 R).bind fun q6 =>
    (wrq q6 6 6 5 o3).bind fun R7 =>
    (rdq R7 P 6 6 6 ((up I 0 2 5) 0 2)).bind fun o8 =>
    (f_X8_copyState ((some 1)) o8 P R7 ((up I 0 2 5))).bind fun q9 =>
    some ((up q9.1 0 2 ((q9.1 0 2) + 1)), q9.2)
  )
abbrev rmX8_save : Room := { frames := 3, cells := 0, slots := 0, locals := 69 }
set_option maxHeartbeats 4000000 in
set_option maxRecDepth 100000 in
theorem c_X8_save {l : Launch} {g : Gam} {I : Mem} {R : Rem} {P : Pool} {Z : Zed}   {z : Mem × Rem} (hf : f_X8_save P R I = some z) : Met l yX8_save (Cond.code yX8_save cX8_save 3 none :: GT) rmX8_save (va_Pc [.ref (g.2.2 + 0)] (PW g I R P Z)) (QV g z.1 z.2 P Z) 0 0 (AA g) := by
  refine aw_ofW (lv0 := [(0, .ref (g.2.2 + 0))]) (by decide) (by exact Nat.le_of_ble_eq_true rfl) (by rfl) (fun p0 e s m args below meth c ls C0 hl hW => ?_)
  have C0 : CX g p0 s m args meth c RX8 cX8_save 3 none := C0
  have hx := C0.1; have hb := C0.2.1; have hown := C0.2.2.2.2.1; have hts := C0.2.2.2.2.2.1; have hKS := C0.2.2.2.2.2.2.1
  have L18 : ∀ (y1 : Option Nat) (hy1 : ∀ k, y1 = some k → Kd P k = 6) (I : Mem) (n : Nat) (w2 : Int32) (R : Rem) (H : Heap) (locs : List Loc) (ls : Array Slot) (o : Rem), f_X8_save_L18 P y1 I n w2 R = some o → Wd g I R P Z s.heap H locs → lv_has ls 3 [(0, .ref (g.2.2 + 0)), (1, va_rf (y1.map (fun y => g.2.2 + y))), (2, .int w2)] → (∀ (H : Heap) (locs : List Loc) (ls : Array Slot), Wd g I o P Z s.heap H locs → lv_has ls 3 [(0, .ref (g.2.2 + 0)), (1, va_rf (y1.map (fun y => g.2.2 + y)))] → W p0 l e rmX8_save s m args below meth c H locs 0 0 (MQ below (QV g z.1 z.2 P Z) args s 0 0 (AA g)) (F0 m 44 ls [])) → W p0 l e rmX8_save s m args below meth c H locs 0 0 (MQ below (QV g z.1 z.2 P Z) args s 0 0 (AA g)) (F0 m 18 ls []) := by
    intro y1 hy1 I n
    induction n with
    | zero => intro w2 R H locs ls o hf; cases hf
    | succ n ih =>
      intro w2 R H locs ls o hf hW hl hK
      rw [f_X8_save_L18] at hf
      refine lv_iload_n hx hb dX8_save_18 rfl (lv_at hl 2 rfl) ?_
      refine lv_bipush (v := 6) hx hb dX8_save_19 (by decide) ?_
      refine lv_icmp_ge (tgt := 44) hx hb dX8_save_21 rfl (fun hc => ?_) (fun hc => ?_)
      · have hf := ift hc hf
        have ho := Option.some.inj hf
        subst ho
        exact hK H locs ls hW (lv_sub hl [0, 1] rfl)
      · have hf := iff_ hc hf
        refine lv_aload_n hx hb dX8_save_24 rfl (lv_at hl 0 rfl) ?_
        refine aw_get (v := .ref (g.2.2 + 6)) C0 hW (lv_fix (by decide)) (cel_7 kd0) rfl inG7 1 (by decide) wd14 rfl rfl dX8_save_25 ?_
        refine lv_iload_n hx hb dX8_save_28 rfl (lv_at hl 2 rfl) ?_
        refine lv_iconst (v := 1) hx hb dX8_save_29 (by decide) ?_
        refine lv_isub hx hb dX8_save_30 ?_
        refine lv_aload_n hx hb dX8_save_31 rfl (lv_at hl 0 rfl) ?_
        refine aw_get (v := .ref (g.2.2 + 6)) C0 hW (lv_fix (by decide)) (cel_7 kd0) rfl inG7 1 (by decide) wd14 rfl rfl dX8_save_32 ?_
        refine lv_iload_n hx hb dX8_save_35 rfl (lv_at hl 2 rfl) ?_
        obtain ⟨o4, ho4, hf⟩ := bnd hf
        refine aw_aald (Or.inr ⟨rfl, rfl, rfl⟩) C0 hW kd6 ln6 ho4 dX8_save_36 ?_
        obtain ⟨R5, hR5, hf⟩ := bnd hf
        refine aw_aast13 C0 hW kd6 ln6 (rdq_in ho4).2.2 hR5 dX8_save_37 (fun H locs hW => ?_)
        refine lv_iinc (k := 2) (v := w2 + 1) (lv' := [(2, .int (w2 + 1)), (0, .ref (g.2.2 + 0)), (1, va_rf (y1.map (fun y => g.2.2 + y)))]) hx hb dX8_save_38 hl rfl (congrArg (fun t => w2 + t) (by decide : Int32.ofInt 1 = 1)) (Nat.le_of_ble_eq_true rfl) (by cases y1 <;> rfl) (fun ls hl => ?_)
        refine lv_goto (tgt := 18) hx hb dX8_save_41 rfl ?_
        exact ih _ _ H locs ls o hf hW (lv_sub hl [1, 2, 0] rfl) hK
  unfold f_X8_save at hf
  obtain ⟨H, hH⟩ : ∃ H, H = s.heap := ⟨_, rfl⟩
  obtain ⟨locs, hlc⟩ : ∃ q : List Loc, q = [] := ⟨_, rfl⟩
  rw [show W p0 l e rmX8_save s m args below meth c s.heap [] 0 0 (MQ below (QV g z.1 z.2 P Z) args s 0 0 (AA g)) (F0 m 0 ls []) = W p0 l e rmX8_save s m args below meth c H locs 0 0 (MQ below (QV g z.1 z.2 P Z) args s 0 0 (AA g)) (F0 m 0 ls []) by rw [hH, hlc]]
  have hW : Wd g I R P Z s.heap H locs := by rw [hH, hlc]; exact hW
  refine lv_aload_n hx hb dX8_save_0 rfl (lv_at hl 0 rfl) ?_
  refine aw_get (v := .int (I 0 2)) C0 hW (lv_fix (by decide)) (cel_7 kd0) rfl inG7 2 (by decide) wd12 rfl rfl dX8_save_1 ?_
  refine lv_bipush (v := 6) hx hb dX8_save_4 (by decide) ?_
  refine lv_icmp_lt (tgt := 56) hx hb dX8_save_6 rfl (fun hc => ?_) (fun hc => ?_)
  · have hf := ift hc hf
    refine lv_aload_n hx hb dX8_save_56 rfl (lv_at hl 0 rfl) ?_
    refine aw_get (v := .ref (g.2.2 + 1)) C0 hW (lv_fix (by decide)) (cel_7 kd0) rfl inG7 0 (by decide) wd13 rfl rfl dX8_save_57 ?_
    refine lv_aload_n hx hb dX8_save_60 rfl (lv_at hl 0 rfl) ?_
    refine aw_get (v := .ref (g.2.2 + 6)) C0 hW (lv_fix (by decide)) (cel_7 kd0) rfl inG7 1 (by decide) wd14 rfl rfl dX8_save_61 ?_
    refine lv_aload_n hx hb dX8_save_64 rfl (lv_at hl 0 rfl) ?_
    refine aw_get (v := .int (I 0 2)) C0 hW (lv_fix (by decide)) (cel_7 kd0) rfl inG7 2 (by decide) wd12 rfl rfl dX8_save_65 ?_
    obtain ⟨o1, ho1, hf⟩ := bnd hf
    refine aw_aald (Or.inr ⟨rfl, rfl, rfl⟩) C0 hW kd6 ln6 ho1 dX8_save_68 ?_
    obtain ⟨q2, hq2, hf⟩ := bnd hf
    refine aw_cSv (rest := []) C0 hW (c_X8_copyState ((some 1)) o1 (fun k h => by cases h; exact kd1) (rdq_in ho1).2.2 hq2) (cw_X8_195 hts ⟨Nat.le_of_ble_eq_true rfl, Nat.le_of_ble_eq_true rfl⟩) rfl hl.1 rfl (Nat.le_of_ble_eq_true rfl) ⟨Nat.zero_le _, Nat.zero_le _⟩ dX8_save_69 (fun H locs hW => ?_)
    refine lv_aload_n hx hb dX8_save_72 rfl (lv_at hl 0 rfl) ?_
    refine lv_dup hx hb dX8_save_73 rfl ?_
    refine aw_get (v := .int (q2.1 0 2)) C0 hW (lv_fix (by decide)) (cel_7 kd0) rfl inG7 2 (by decide) wd12 rfl rfl dX8_save_74 ?_
    refine lv_iconst (v := 1) hx hb dX8_save_77 (by decide) ?_
    refine lv_iadd hx hb dX8_save_78 ?_
    refine aw_put C0 hW (lv_fix (by decide)) (cel_7 kd0) rfl inG7 tyX8 tyX8_ok nmX8 2 (by decide) wd12 rfl rfl (ty := .int) rfl rfl rfl (Nat.le_of_ble_eq_true rfl) (pu_7_2 kd0) dX8_save_79 (fun H locs hW => ?_)
    have hz := Option.some.inj hf
    have hzI := congrArg (fun z : Mem × Rem => z.1) hz
    have hzR := congrArg (fun z : Mem × Rem => z.2) hz
    exact aw_vret C0 hW hzI hzR dX8_save_82
  · have hf := iff_ hc hf
    refine lv_aload_n hx hb dX8_save_9 rfl (lv_at hl 0 rfl) ?_
    refine aw_get (v := .ref (g.2.2 + 6)) C0 hW (lv_fix (by decide)) (cel_7 kd0) rfl inG7 1 (by decide) wd14 rfl rfl dX8_save_10 ?_
    refine lv_iconst (v := 0) hx hb dX8_save_13 (by decide) ?_
    obtain ⟨o3, ho3, hf⟩ := bnd hf
    refine aw_aald (Or.inr ⟨rfl, rfl, rfl⟩) C0 hW kd6 ln6 ho3 dX8_save_14 ?_
    refine aw_ast_n (x := o3) (lv' := [(1, va_rf (o3.map (fun y => g.2.2 + y))), (0, .ref (g.2.2 + 0))]) C0 dX8_save_15 rfl hl (Nat.le_of_ble_eq_true rfl) rfl (fun ls hl => ?_)
    refine lv_iconst (v := 1) hx hb dX8_save_16 (by decide) ?_
    refine lv_istore_n (lv' := [(2, .int 1), (1, va_rf (o3.map (fun y => g.2.2 + y))), (0, .ref (g.2.2 + 0))]) hx hb dX8_save_17 rfl hl (Nat.le_of_ble_eq_true rfl) (by cases o3 <;> rfl) (fun ls hl => ?_)
    obtain ⟨q6, hq6, hf⟩ := bnd hf
    refine L18 o3 (rdq_in ho3).2.2 I fuel 1 R H locs ls _ hq6 hW (lv_sub hl [2, 1, 0] rfl) (fun H locs ls hW hl => ?_)
    refine lv_aload_n hx hb dX8_save_44 rfl (lv_at hl 0 rfl) ?_
    refine aw_get (v := .ref (g.2.2 + 6)) C0 hW (lv_fix (by decide)) (cel_7 kd0) rfl inG7 1 (by decide) wd14 rfl rfl dX8_save_45 ?_
    refine lv_iconst (v := 5) hx hb dX8_save_48 (by decide) ?_
    refine aw_ald_n (x := o3) C0 dX8_save_49 rfl (lv_at hl 1 rfl) ?_
    obtain ⟨R7, hR7, hf⟩ := bnd hf
    refine aw_aast13 C0 hW kd6 ln6 (rdq_in ho3).2.2 hR7 dX8_save_50 (fun H locs hW => ?_)
    refine lv_aload_n hx hb dX8_save_51 rfl (lv_at hl 0 rfl) ?_
    refine lv_iconst (v := 5) hx hb dX8_save_52 (by decide) ?_
    refine aw_put C0 hW (lv_fix (by decide)) (cel_7 kd0) rfl inG7 tyX8 tyX8_ok nmX8 2 (by decide) wd12 rfl rfl (ty := .int) rfl rfl rfl (Nat.le_of_ble_eq_true rfl) (pu_7_2 kd0) dX8_save_53 (fun H locs hW => ?_)
    refine lv_aload_n hx hb dX8_save_56 rfl (lv_at hl 0 rfl) ?_
    refine aw_get (v := .ref (g.2.2 + 1)) C0 hW (lv_fix (by decide)) (cel_7 kd0) rfl inG7 0 (by decide) wd13 rfl rfl dX8_save_57 ?_
    refine lv_aload_n hx hb dX8_save_60 rfl (lv_at hl 0 rfl) ?_
    refine aw_get (v := .ref (g.2.2 + 6)) C0 hW (lv_fix (by decide)) (cel_7 kd0) rfl inG7 1 (by decide) wd14 rfl rfl dX8_save_61 ?_
    refine lv_aload_n hx hb dX8_save_64 rfl (lv_at hl 0 rfl) ?_
    refine aw_get (v := .int ((up I 0 2 5) 0 2)) C0 hW (lv_fix (by decide)) (cel_7 kd0) rfl inG7 2 (by decide) wd12 rfl rfl dX8_save_65 ?_
    obtain ⟨o8, ho8, hf⟩ := bnd hf
    refine aw_aald (Or.inr ⟨rfl, rfl, rfl⟩) C0 hW kd6 ln6 ho8 dX8_save_68 ?_
    obtain ⟨q9, hq9, hf⟩ := bnd hf
    refine aw_cSv (rest := []) C0 hW (c_X8_copyState ((some 1)) o8 (fun k h => by cases h; exact kd1) (rdq_in ho8).2.2 hq9) (cw_X8_195 hts ⟨Nat.le_of_ble_eq_true rfl, Nat.le_of_ble_eq_true rfl⟩) rfl hl.1 rfl (Nat.le_of_ble_eq_true rfl) ⟨Nat.zero_le _, Nat.zero_le _⟩ dX8_save_69 (fun H locs hW => ?_)
    refine lv_aload_n hx hb dX8_save_72 rfl (lv_at hl 0 rfl) ?_
    refine lv_dup hx hb dX8_save_73 rfl ?_
    refine aw_get (v := .int (q9.1 0 2)) C0 hW (lv_fix (by decide)) (cel_7 kd0) rfl inG7 2 (by decide) wd12 rfl rfl dX8_save_74 ?_
    refine lv_iconst (v := 1) hx hb dX8_save_77 (by decide) ?_
    refine lv_iadd hx hb dX8_save_78 ?_
    refine aw_put C0 hW (lv_fix (by decide)) (cel_7 kd0) rfl inG7 tyX8 tyX8_ok nmX8 2 (by decide) wd12 rfl rfl (ty := .int) rfl rfl rfl (Nat.le_of_ble_eq_true rfl) (pu_7_2 kd0) dX8_save_79 (fun H locs hW => ?_)
    have hz := Option.some.inj hf
    have hzI := congrArg (fun z : Mem × Rem => z.1) hz
    have hzR := congrArg (fun z : Mem × Rem => z.2) hz
    exact aw_vret C0 hW hzI hzR dX8_save_82
def f_X8_unknownsOf_L4 (a0 : Nat) (P : Pool) (I : Mem) : Nat → Int32 → Int32 → Option (Int32)
  | 0, _, _ => none
  | n + 1, w1, w2 =>
    if (Int32.ofNat (Ln P a0)) ≤ w2 then (
      some w1
    ) else (
      (rd I a0 (Ln P a0) w2).bind fun v1 =>
      if v1 = ((-1)) then (
        f_X8_unknownsOf_L4 a0 P I n (w1 ||| (1 <<< (w2 &&& 31))) (w2 + 1)
      ) else (
        f_X8_unknownsOf_L4 a0 P I n w1 (w2 + 1)
      )
    )
def f_X8_unknownsOf (a0 : Nat) (P : Pool) (I : Mem) : Option (Int32) :=
  (f_X8_unknownsOf_L4 a0 P I fuel 0 0).bind fun q2 =>
  some q2
abbrev rmX8_unknownsOf : Room := { frames := 0, cells := 0, slots := 0, locals := 0 }
set_option maxHeartbeats 4000000 in
set_option maxRecDepth 100000 in
theorem c_X8_unknownsOf {l : Launch} {g : Gam} {I : Mem} {R : Rem} {P : Pool} {Z : Zed} (a0 : Nat) (ha0 : Kd P a0 = 10) {z : Int32} (hf : f_X8_unknownsOf a0 P I = some z) : Met l yX8_unknownsOf (Cond.code yX8_unknownsOf cX8_unknownsOf 3 (some .int) :: GT) rmX8_unknownsOf (va_Pc [.ref (g.2.2 + a0)] (PW g I R P Z)) (QI g z I R P Z) 0 0 (AA g) := by
  refine aw_ofW (lv0 := [(0, .ref (g.2.2 + a0))]) (by decide) (by exact Nat.le_of_ble_eq_true rfl) (by rfl) (fun p0 e s m args below meth c ls C0 hl hW => ?_)
  have C0 : CX g p0 s m args meth c RX8 cX8_unknownsOf 3 (some .int) := C0
  have hx := C0.1; have hb := C0.2.1; have hown := C0.2.2.2.2.1; have hts := C0.2.2.2.2.2.1; have hKS := C0.2.2.2.2.2.2.1
  have L4 : ∀ (I : Mem) (n : Nat) (w1 : Int32) (w2 : Int32) (H : Heap) (locs : List Loc) (ls : Array Slot) (o : Int32), f_X8_unknownsOf_L4 a0 P I n w1 w2 = some o → Wd g I R P Z s.heap H locs → lv_has ls 3 [(0, .ref (g.2.2 + a0)), (1, .int w1), (2, .int w2)] → (∀ (H : Heap) (locs : List Loc) (ls : Array Slot), Wd g I R P Z s.heap H locs → lv_has ls 3 [(1, .int o)] → W p0 l e rmX8_unknownsOf s m args below meth c H locs 0 0 (MQ below (QI g z I R P Z) args s 0 0 (AA g)) (F0 m 29 ls [])) → W p0 l e rmX8_unknownsOf s m args below meth c H locs 0 0 (MQ below (QI g z I R P Z) args s 0 0 (AA g)) (F0 m 4 ls []) := by
    intro I n
    induction n with
    | zero => intro w1 w2 H locs ls o hf; cases hf
    | succ n ih =>
      intro w1 w2 H locs ls o hf hW hl hK
      rw [f_X8_unknownsOf_L4] at hf
      refine lv_iload_n hx hb dX8_unknownsOf_4 rfl (lv_at hl 2 rfl) ?_
      refine lv_aload_n hx hb dX8_unknownsOf_5 rfl (lv_at hl 0 rfl) ?_
      refine aw_alen (v := Int32.ofNat (Ln P a0)) C0 hW ha0 rfl rfl dX8_unknownsOf_6 ?_
      refine lv_icmp_ge (tgt := 29) hx hb dX8_unknownsOf_7 rfl (fun hc => ?_) (fun hc => ?_)
      · have hf := ift hc hf
        have ho := Option.some.inj hf
        subst ho
        exact hK H locs ls hW (lv_sub hl [1] rfl)
      · have hf := iff_ hc hf
        refine lv_aload_n hx hb dX8_unknownsOf_10 rfl (lv_at hl 0 rfl) ?_
        refine lv_iload_n hx hb dX8_unknownsOf_11 rfl (lv_at hl 2 rfl) ?_
        obtain ⟨v1, hv1, hf⟩ := bnd hf
        refine aw_iald C0 hW ha0 rfl hv1 dX8_unknownsOf_12 ?_
        refine lv_iconst (v := (-1)) hx hb dX8_unknownsOf_13 (by decide) ?_
        refine lv_icmp_ne (tgt := 23) hx hb dX8_unknownsOf_14 rfl (fun hc => ?_) (fun hc => ?_)
        · have hf := iff_ hc hf
          refine lv_iinc (k := 2) (v := w2 + 1) (lv' := [(2, .int (w2 + 1)), (0, .ref (g.2.2 + a0)), (1, .int w1)]) hx hb dX8_unknownsOf_23 hl rfl (congrArg (fun t => w2 + t) (by decide : Int32.ofInt 1 = 1)) (Nat.le_of_ble_eq_true rfl) rfl (fun ls hl => ?_)
          refine lv_goto (tgt := 4) hx hb dX8_unknownsOf_26 rfl ?_
          exact ih _ _ H locs ls o hf hW (lv_sub hl [1, 2, 0] rfl) hK
        · have hf := ift hc hf
          refine lv_iload_n hx hb dX8_unknownsOf_17 rfl (lv_at hl 1 rfl) ?_
          refine lv_iconst (v := 1) hx hb dX8_unknownsOf_18 (by decide) ?_
          refine lv_iload_n hx hb dX8_unknownsOf_19 rfl (lv_at hl 2 rfl) ?_
          refine lv_ishl hx hb dX8_unknownsOf_20 ?_
          refine lv_ior hx hb dX8_unknownsOf_21 ?_
          refine lv_istore_n (lv' := [(1, .int (w1 ||| (1 <<< (w2 &&& 31)))), (0, .ref (g.2.2 + a0)), (2, .int w2)]) hx hb dX8_unknownsOf_22 rfl hl (Nat.le_of_ble_eq_true rfl) rfl (fun ls hl => ?_)
          refine lv_iinc (k := 2) (v := w2 + 1) (lv' := [(2, .int (w2 + 1)), (1, .int (w1 ||| (1 <<< (w2 &&& 31)))), (0, .ref (g.2.2 + a0))]) hx hb dX8_unknownsOf_23 hl rfl (congrArg (fun t => w2 + t) (by decide : Int32.ofInt 1 = 1)) (Nat.le_of_ble_eq_true rfl) rfl (fun ls hl => ?_)
          refine lv_goto (tgt := 4) hx hb dX8_unknownsOf_26 rfl ?_
          exact ih _ _ H locs ls o hf hW (lv_sub hl [2, 1, 0] rfl) hK
  unfold f_X8_unknownsOf at hf
  obtain ⟨H, hH⟩ : ∃ H, H = s.heap := ⟨_, rfl⟩
  obtain ⟨locs, hlc⟩ : ∃ q : List Loc, q = [] := ⟨_, rfl⟩
  rw [show W p0 l e rmX8_unknownsOf s m args below meth c s.heap [] 0 0 (MQ below (QI g z I R P Z) args s 0 0 (AA g)) (F0 m 0 ls []) = W p0 l e rmX8_unknownsOf s m args below meth c H locs 0 0 (MQ below (QI g z I R P Z) args s 0 0 (AA g)) (F0 m 0 ls []) by rw [hH, hlc]]
  have hW : Wd g I R P Z s.heap H locs := by rw [hH, hlc]; exact hW
  refine lv_iconst (v := 0) hx hb dX8_unknownsOf_0 (by decide) ?_
  refine lv_istore_n (lv' := [(1, .int 0), (0, .ref (g.2.2 + a0))]) hx hb dX8_unknownsOf_1 rfl hl (Nat.le_of_ble_eq_true rfl) rfl (fun ls hl => ?_)
  refine lv_iconst (v := 0) hx hb dX8_unknownsOf_2 (by decide) ?_
  refine lv_istore_n (lv' := [(2, .int 0), (1, .int 0), (0, .ref (g.2.2 + a0))]) hx hb dX8_unknownsOf_3 rfl hl (Nat.le_of_ble_eq_true rfl) rfl (fun ls hl => ?_)
  obtain ⟨q2, hq2, hf⟩ := bnd hf
  refine L4 I fuel 0 0 H locs ls _ hq2 hW (lv_sub hl [2, 1, 0] rfl) (fun H locs ls hW hl => ?_)
  refine lv_iload_n hx hb dX8_unknownsOf_29 rfl (lv_at hl 0 rfl) ?_
  have hz := Option.some.inj hf
  exact aw_iret C0 hW hz rfl rfl dX8_unknownsOf_30
theorem cw_X8_261 {Rm : Room} {s : State} {args : Array Value} (ht : ∀ w ∈ GT, w.before args s = true) (hR : rmX8_unknownsOf.frames + 1 ≤ Rm.frames ∧ 8 + (3 + 11) + rmX8_unknownsOf.locals ≤ Rm.locals) : CallB Rm s args RX8 261 yX8_unknownsOf cX8_unknownsOf 3 (some .int) (Cond.code yX8_unknownsOf cX8_unknownsOf 3 (some .int) :: GT) rmX8_unknownsOf 0 0 1 ∧ (Cond.static yX8_unknownsOf).before args s = true := va_cwS 1 ht (goodS wd283 wd284 wd243 wd285) rfl rfl rfl ⟨by decide +kernel, by decide +kernel, by decide +kernel⟩ hR
def f_X3_clear (p : Nat) (I : Mem) : Option (Mem) :=
  some ((up I p 1 0))
abbrev rmX3_clear : Room := { frames := 0, cells := 0, slots := 0, locals := 0 }
set_option maxHeartbeats 4000000 in
set_option maxRecDepth 100000 in
theorem c_X3_clear {l : Launch} {g : Gam} {I : Mem} {R : Rem} {P : Pool} {Z : Zed} (p : Nat) (hp : Kd P p = 3) {z : Mem} (hf : f_X3_clear p I = some z) : Met l yX3_clear (Cond.code yX3_clear cX3_clear 1 none :: GT) rmX3_clear (va_Pc [.ref (g.2.2 + p)] (PW g I R P Z)) (QV g z R P Z) 0 0 (AA g) := by
  refine aw_ofW (lv0 := [(0, .ref (g.2.2 + p))]) (by decide) (by exact Nat.le_of_ble_eq_true rfl) (by rfl) (fun p0 e s m args below meth c ls C0 hl hW => ?_)
  have C0 : CX g p0 s m args meth c RX3 cX3_clear 1 none := C0
  have hx := C0.1; have hb := C0.2.1; have hown := C0.2.2.2.2.1; have hts := C0.2.2.2.2.2.1; have hKS := C0.2.2.2.2.2.2.1
  unfold f_X3_clear at hf
  obtain ⟨H, hH⟩ : ∃ H, H = s.heap := ⟨_, rfl⟩
  obtain ⟨locs, hlc⟩ : ∃ q : List Loc, q = [] := ⟨_, rfl⟩
  rw [show W p0 l e rmX3_clear s m args below meth c s.heap [] 0 0 (MQ below (QV g z R P Z) args s 0 0 (AA g)) (F0 m 0 ls []) = W p0 l e rmX3_clear s m args below meth c H locs 0 0 (MQ below (QV g z R P Z) args s 0 0 (AA g)) (F0 m 0 ls []) by rw [hH, hlc]]
  have hW : Wd g I R P Z s.heap H locs := by rw [hH, hlc]; exact hW
  refine lv_aload_n hx hb dX3_clear_0 rfl (lv_at hl 0 rfl) ?_
  refine lv_iconst (v := 0) hx hb dX3_clear_1 (by decide) ?_
  refine aw_put C0 hW (lv_kd hW.1.2.2 hp (by decide)) (cel_3 hp) rfl inG3 tyX3 tyX3_ok nmX3 1 (by decide) wd15 rfl rfl (ty := .int) rfl rfl rfl (Nat.le_of_ble_eq_true rfl) (pu_3_1 hp) dX3_clear_2 (fun H locs hW => ?_)
  have hz := Option.some.inj hf
  exact aw_vret C0 hW hz rfl dX3_clear_5
theorem cw_X1_61 {Rm : Room} {s : State} {args : Array Value} (ht : ∀ w ∈ GT, w.before args s = true) (hR : rmX3_clear.frames + 1 ≤ Rm.frames ∧ 8 + (1 + 11) + rmX3_clear.locals ≤ Rm.locals) : CallW Rm s args RX1 RX3 61 yX3_clear cX3_clear 1 none (Cond.code yX3_clear cX3_clear 1 none :: GT) rmX3_clear 0 0 0 := cwV 0 ht (goodV wd122 wd123 wd124 wd109 wd125) rfl rfl rfl ⟨rfl, by decide +kernel, by decide +kernel, by decide +kernel⟩ hR
theorem cw_X4_36 {Rm : Room} {s : State} {args : Array Value} (ht : ∀ w ∈ GT, w.before args s = true) (hR : rmX3_clear.frames + 1 ≤ Rm.frames ∧ 8 + (1 + 11) + rmX3_clear.locals ≤ Rm.locals) : CallW Rm s args RX4 RX3 36 yX3_clear cX3_clear 1 none (Cond.code yX3_clear cX3_clear 1 none :: GT) rmX3_clear 0 0 0 := cwV 0 ht (goodV wd145 wd123 wd124 wd109 wd125) rfl rfl rfl ⟨rfl, by decide +kernel, by decide +kernel, by decide +kernel⟩ hR
theorem cw_X5_29 {Rm : Room} {s : State} {args : Array Value} (ht : ∀ w ∈ GT, w.before args s = true) (hR : rmX3_clear.frames + 1 ≤ Rm.frames ∧ 8 + (1 + 11) + rmX3_clear.locals ≤ Rm.locals) : CallW Rm s args RX5 RX3 29 yX3_clear cX3_clear 1 none (Cond.code yX3_clear cX3_clear 1 none :: GT) rmX3_clear 0 0 0 := cwV 0 ht (goodV wd202 wd123 wd124 wd109 wd125) rfl rfl rfl ⟨rfl, by decide +kernel, by decide +kernel, by decide +kernel⟩ hR
def f_X1_start (I : Mem) : Option (Mem) :=
  (f_X3_clear 12 I).bind fun q1 =>
  (f_X3_clear 14 q1).bind fun q2 =>
  some q2
abbrev rmX1_start : Room := { frames := 1, cells := 0, slots := 0, locals := 20 }
set_option maxHeartbeats 4000000 in
set_option maxRecDepth 100000 in
theorem c_X1_start {l : Launch} {g : Gam} {I : Mem} {R : Rem} {P : Pool} {Z : Zed}   {z : Mem} (hf : f_X1_start I = some z) : Met l yX1_start (Cond.code yX1_start cX1_start 1 none :: GT) rmX1_start (va_Pc [.ref (g.2.2 + 11)] (PW g I R P Z)) (QV g z R P Z) 0 0 (AA g) := by
  refine aw_ofW (lv0 := [(0, .ref (g.2.2 + 11))]) (by decide) (by exact Nat.le_of_ble_eq_true rfl) (by rfl) (fun p0 e s m args below meth c ls C0 hl hW => ?_)
  have C0 : CX g p0 s m args meth c RX1 cX1_start 1 none := C0
  have hx := C0.1; have hb := C0.2.1; have hown := C0.2.2.2.2.1; have hts := C0.2.2.2.2.2.1; have hKS := C0.2.2.2.2.2.2.1
  unfold f_X1_start at hf
  obtain ⟨H, hH⟩ : ∃ H, H = s.heap := ⟨_, rfl⟩
  obtain ⟨locs, hlc⟩ : ∃ q : List Loc, q = [] := ⟨_, rfl⟩
  rw [show W p0 l e rmX1_start s m args below meth c s.heap [] 0 0 (MQ below (QV g z R P Z) args s 0 0 (AA g)) (F0 m 0 ls []) = W p0 l e rmX1_start s m args below meth c H locs 0 0 (MQ below (QV g z R P Z) args s 0 0 (AA g)) (F0 m 0 ls []) by rw [hH, hlc]]
  have hW : Wd g I R P Z s.heap H locs := by rw [hH, hlc]; exact hW
  refine lv_aload_n hx hb dX1_start_0 rfl (lv_at hl 0 rfl) ?_
  refine aw_get (v := .ref (g.2.2 + 12)) C0 hW (lv_fix (by decide)) (cel_1 kd11) rfl inG1 0 (by decide) wd16 rfl rfl dX1_start_1 ?_
  obtain ⟨q1, hq1, hf⟩ := bnd hf
  refine aw_cVv (rest := []) C0 hW (lv_fix (by decide)) (cel_3 kd12) rfl (c_X3_clear 12 kd12 hq1) (cw_X1_61 hts ⟨Nat.le_of_ble_eq_true rfl, Nat.le_of_ble_eq_true rfl⟩) rfl hl.1 rfl (Nat.le_of_ble_eq_true rfl) ⟨Nat.zero_le _, Nat.zero_le _⟩ dX1_start_4 (fun H locs hW => ?_)
  refine lv_aload_n hx hb dX1_start_7 rfl (lv_at hl 0 rfl) ?_
  refine aw_get (v := .ref (g.2.2 + 14)) C0 hW (lv_fix (by decide)) (cel_1 kd11) rfl inG1 1 (by decide) wd17 rfl rfl dX1_start_8 ?_
  obtain ⟨q2, hq2, hf⟩ := bnd hf
  refine aw_cVv (rest := []) C0 hW (lv_fix (by decide)) (cel_3 kd14) rfl (c_X3_clear 14 kd14 hq2) (cw_X1_61 hts ⟨Nat.le_of_ble_eq_true rfl, Nat.le_of_ble_eq_true rfl⟩) rfl hl.1 rfl (Nat.le_of_ble_eq_true rfl) ⟨Nat.zero_le _, Nat.zero_le _⟩ dX1_start_11 (fun H locs hW => ?_)
  have hz := Option.some.inj hf
  exact aw_vret C0 hW hz rfl dX1_start_14
theorem cw_X1_19 {Rm : Room} {s : State} {args : Array Value} (ht : ∀ w ∈ GT, w.before args s = true) (hR : rmX1_start.frames + 1 ≤ Rm.frames ∧ 8 + (1 + 11) + rmX1_start.locals ≤ Rm.locals) : CallW Rm s args RX1 RX1 19 yX1_start cX1_start 1 none (Cond.code yX1_start cX1_start 1 none :: GT) rmX1_start 0 0 0 := cwV 0 ht (goodV wd96 wd97 wd98 wd99 wd100) rfl rfl rfl ⟨rfl, by decide +kernel, by decide +kernel, by decide +kernel⟩ hR
theorem cw_X8_322 {Rm : Room} {s : State} {args : Array Value} (ht : ∀ w ∈ GT, w.before args s = true) (hR : rmX1_start.frames + 1 ≤ Rm.frames ∧ 8 + (1 + 11) + rmX1_start.locals ≤ Rm.locals) : CallW Rm s args RX8 RX1 322 yX1_start cX1_start 1 none (Cond.code yX1_start cX1_start 1 none :: GT) rmX1_start 0 0 0 := cwV 0 ht (goodV wd307 wd97 wd98 wd99 wd100) rfl rfl rfl ⟨rfl, by decide +kernel, by decide +kernel, by decide +kernel⟩ hR
def f_X2_size (p : Nat) (P : Pool) (R : Rem) : Option (Int32) :=
  (rdn R P p 0 10).bind fun k1 =>
  some (Int32.ofNat (Ln P k1))
abbrev rmX2_size : Room := { frames := 0, cells := 0, slots := 0, locals := 0 }
set_option maxHeartbeats 4000000 in
set_option maxRecDepth 100000 in
theorem c_X2_size {l : Launch} {g : Gam} {I : Mem} {R : Rem} {P : Pool} {Z : Zed} (p : Nat) (hp : Kd P p = 2) {z : Int32} (hf : f_X2_size p P R = some z) : Met l yX2_size (Cond.code yX2_size cX2_size 1 (some .int) :: GT) rmX2_size (va_Pc [.ref (g.2.2 + p)] (PW g I R P Z)) (QI g z I R P Z) 0 0 (AA g) := by
  refine aw_ofW (lv0 := [(0, .ref (g.2.2 + p))]) (by decide) (by exact Nat.le_of_ble_eq_true rfl) (by rfl) (fun p0 e s m args below meth c ls C0 hl hW => ?_)
  have C0 : CX g p0 s m args meth c RX2 cX2_size 1 (some .int) := C0
  have hx := C0.1; have hb := C0.2.1; have hown := C0.2.2.2.2.1; have hts := C0.2.2.2.2.2.1; have hKS := C0.2.2.2.2.2.2.1
  unfold f_X2_size at hf
  obtain ⟨H, hH⟩ : ∃ H, H = s.heap := ⟨_, rfl⟩
  obtain ⟨locs, hlc⟩ : ∃ q : List Loc, q = [] := ⟨_, rfl⟩
  rw [show W p0 l e rmX2_size s m args below meth c s.heap [] 0 0 (MQ below (QI g z I R P Z) args s 0 0 (AA g)) (F0 m 0 ls []) = W p0 l e rmX2_size s m args below meth c H locs 0 0 (MQ below (QI g z I R P Z) args s 0 0 (AA g)) (F0 m 0 ls []) by rw [hH, hlc]]
  have hW : Wd g I R P Z s.heap H locs := by rw [hH, hlc]; exact hW
  refine lv_aload_n hx hb dX2_size_0 rfl (lv_at hl 0 rfl) ?_
  obtain ⟨k1, ek1, hf⟩ := bnd hf
  obtain ⟨rk1, hk1⟩ := rdn_in ek1
  refine aw_get (v := .ref (g.2.2 + k1)) C0 hW (lv_kd hW.1.2.2 hp (by decide)) (cel_2 hp) rfl inG2 0 (by decide) wd18 rfl (by rw [rk1]; rfl) dX2_size_1 ?_
  refine aw_alen (v := Int32.ofNat (Ln P k1)) C0 hW hk1 rfl rfl dX2_size_4 ?_
  have hz := Option.some.inj hf
  exact aw_iret C0 hW hz rfl rfl dX2_size_5
theorem cw_X0_27 {Rm : Room} {s : State} {args : Array Value} (ht : ∀ w ∈ GT, w.before args s = true) (hR : rmX2_size.frames + 1 ≤ Rm.frames ∧ 8 + (1 + 11) + rmX2_size.locals ≤ Rm.locals) : CallW Rm s args RX0 RX2 27 yX2_size cX2_size 1 (some .int) (Cond.code yX2_size cX2_size 1 (some .int) :: GT) rmX2_size 0 0 0 := cwV 0 ht (goodV wd80 wd81 wd82 wd83 wd84) rfl rfl rfl ⟨rfl, by decide +kernel, by decide +kernel, by decide +kernel⟩ hR
theorem cw_X1_22 {Rm : Room} {s : State} {args : Array Value} (ht : ∀ w ∈ GT, w.before args s = true) (hR : rmX2_size.frames + 1 ≤ Rm.frames ∧ 8 + (1 + 11) + rmX2_size.locals ≤ Rm.locals) : CallW Rm s args RX1 RX2 22 yX2_size cX2_size 1 (some .int) (Cond.code yX2_size cX2_size 1 (some .int) :: GT) rmX2_size 0 0 0 := cwV 0 ht (goodV wd101 wd81 wd82 wd83 wd84) rfl rfl rfl ⟨rfl, by decide +kernel, by decide +kernel, by decide +kernel⟩ hR
theorem cw_X5_32 {Rm : Room} {s : State} {args : Array Value} (ht : ∀ w ∈ GT, w.before args s = true) (hR : rmX2_size.frames + 1 ≤ Rm.frames ∧ 8 + (1 + 11) + rmX2_size.locals ≤ Rm.locals) : CallW Rm s args RX5 RX2 32 yX2_size cX2_size 1 (some .int) (Cond.code yX2_size cX2_size 1 (some .int) :: GT) rmX2_size 0 0 0 := cwV 0 ht (goodV wd203 wd81 wd82 wd83 wd84) rfl rfl rfl ⟨rfl, by decide +kernel, by decide +kernel, by decide +kernel⟩ hR
theorem cw_X8_151 {Rm : Room} {s : State} {args : Array Value} (ht : ∀ w ∈ GT, w.before args s = true) (hR : rmX2_size.frames + 1 ≤ Rm.frames ∧ 8 + (1 + 11) + rmX2_size.locals ≤ Rm.locals) : CallW Rm s args RX8 RX2 151 yX2_size cX2_size 1 (some .int) (Cond.code yX2_size cX2_size 1 (some .int) :: GT) rmX2_size 0 0 0 := cwV 0 ht (goodV wd258 wd81 wd82 wd83 wd84) rfl rfl rfl ⟨rfl, by decide +kernel, by decide +kernel, by decide +kernel⟩ hR
def f_X2_step (p : Nat) (x1 : Int32) (P : Pool) (R : Rem) (I : Mem) : Option (Int32) :=
  if x1 < 0 then (
    some 0
  ) else (
    (rdn R P p 0 10).bind fun k1 =>
    if (Int32.ofNat (Ln P k1)) ≤ x1 then (
      some 0
    ) else (
      (rdn R P p 0 10).bind fun k2 =>
      (rd I k2 (Ln P k2) x1).bind fun v3 =>
      some v3
    )
  )
abbrev rmX2_step : Room := { frames := 0, cells := 0, slots := 0, locals := 0 }
set_option maxHeartbeats 4000000 in
set_option maxRecDepth 100000 in
theorem c_X2_step {l : Launch} {g : Gam} {I : Mem} {R : Rem} {P : Pool} {Z : Zed} (p : Nat) (x1 : Int32) (hp : Kd P p = 2) {z : Int32} (hf : f_X2_step p x1 P R I = some z) : Met l yX2_step (Cond.code yX2_step cX2_step 2 (some .int) :: GT) rmX2_step (va_Pc [.ref (g.2.2 + p), .int x1] (PW g I R P Z)) (QI g z I R P Z) 0 0 (AA g) := by
  refine aw_ofW (lv0 := [(0, .ref (g.2.2 + p)), (1, .int x1)]) (by decide) (by exact Nat.le_of_ble_eq_true rfl) (by rfl) (fun p0 e s m args below meth c ls C0 hl hW => ?_)
  have C0 : CX g p0 s m args meth c RX2 cX2_step 2 (some .int) := C0
  have hx := C0.1; have hb := C0.2.1; have hown := C0.2.2.2.2.1; have hts := C0.2.2.2.2.2.1; have hKS := C0.2.2.2.2.2.2.1
  unfold f_X2_step at hf
  obtain ⟨H, hH⟩ : ∃ H, H = s.heap := ⟨_, rfl⟩
  obtain ⟨locs, hlc⟩ : ∃ q : List Loc, q = [] := ⟨_, rfl⟩
  rw [show W p0 l e rmX2_step s m args below meth c s.heap [] 0 0 (MQ below (QI g z I R P Z) args s 0 0 (AA g)) (F0 m 0 ls []) = W p0 l e rmX2_step s m args below meth c H locs 0 0 (MQ below (QI g z I R P Z) args s 0 0 (AA g)) (F0 m 0 ls []) by rw [hH, hlc]]
  have hW : Wd g I R P Z s.heap H locs := by rw [hH, hlc]; exact hW
  refine lv_iload_n hx hb dX2_step_0 rfl (lv_at hl 1 rfl) ?_
  refine lv_if_lt (tgt := 22) hx hb dX2_step_1 rfl (fun hc => ?_) (fun hc => ?_)
  · have hf := ift hc hf
    refine lv_iconst (v := 0) hx hb dX2_step_22 (by decide) ?_
    have hz := Option.some.inj hf
    exact aw_iret C0 hW hz rfl rfl dX2_step_23
  · have hf := iff_ hc hf
    refine lv_iload_n hx hb dX2_step_4 rfl (lv_at hl 1 rfl) ?_
    refine lv_aload_n hx hb dX2_step_5 rfl (lv_at hl 0 rfl) ?_
    obtain ⟨k1, ek1, hf⟩ := bnd hf
    obtain ⟨rk1, hk1⟩ := rdn_in ek1
    refine aw_get (v := .ref (g.2.2 + k1)) C0 hW (lv_kd hW.1.2.2 hp (by decide)) (cel_2 hp) rfl inG2 0 (by decide) wd18 rfl (by rw [rk1]; rfl) dX2_step_6 ?_
    refine aw_alen (v := Int32.ofNat (Ln P k1)) C0 hW hk1 rfl rfl dX2_step_9 ?_
    refine lv_icmp_ge (tgt := 22) hx hb dX2_step_10 rfl (fun hc => ?_) (fun hc => ?_)
    · have hf := ift hc hf
      refine lv_iconst (v := 0) hx hb dX2_step_22 (by decide) ?_
      have hz := Option.some.inj hf
      exact aw_iret C0 hW hz rfl rfl dX2_step_23
    · have hf := iff_ hc hf
      refine lv_aload_n hx hb dX2_step_13 rfl (lv_at hl 0 rfl) ?_
      obtain ⟨k2, ek2, hf⟩ := bnd hf
      obtain ⟨rk2, hk2⟩ := rdn_in ek2
      refine aw_get (v := .ref (g.2.2 + k2)) C0 hW (lv_kd hW.1.2.2 hp (by decide)) (cel_2 hp) rfl inG2 0 (by decide) wd18 rfl (by rw [rk2]; rfl) dX2_step_14 ?_
      refine lv_iload_n hx hb dX2_step_17 rfl (lv_at hl 1 rfl) ?_
      obtain ⟨v3, hv3, hf⟩ := bnd hf
      refine aw_iald C0 hW hk2 rfl hv3 dX2_step_18 ?_
      refine lv_goto (tgt := 23) hx hb dX2_step_19 rfl ?_
      have hz := Option.some.inj hf
      exact aw_iret C0 hW hz rfl rfl dX2_step_23
theorem cw_X0_32 {Rm : Room} {s : State} {args : Array Value} (ht : ∀ w ∈ GT, w.before args s = true) (hR : rmX2_step.frames + 1 ≤ Rm.frames ∧ 8 + (2 + 11) + rmX2_step.locals ≤ Rm.locals) : CallW Rm s args RX0 RX2 32 yX2_step cX2_step 2 (some .int) (Cond.code yX2_step cX2_step 2 (some .int) :: GT) rmX2_step 0 0 1 := cwV 1 ht (goodV wd85 wd86 wd87 wd83 wd88) rfl rfl rfl ⟨rfl, by decide +kernel, by decide +kernel, by decide +kernel⟩ hR
theorem cw_X1_28 {Rm : Room} {s : State} {args : Array Value} (ht : ∀ w ∈ GT, w.before args s = true) (hR : rmX2_step.frames + 1 ≤ Rm.frames ∧ 8 + (2 + 11) + rmX2_step.locals ≤ Rm.locals) : CallW Rm s args RX1 RX2 28 yX2_step cX2_step 2 (some .int) (Cond.code yX2_step cX2_step 2 (some .int) :: GT) rmX2_step 0 0 1 := cwV 1 ht (goodV wd102 wd86 wd87 wd83 wd88) rfl rfl rfl ⟨rfl, by decide +kernel, by decide +kernel, by decide +kernel⟩ hR
theorem cw_X5_38 {Rm : Room} {s : State} {args : Array Value} (ht : ∀ w ∈ GT, w.before args s = true) (hR : rmX2_step.frames + 1 ≤ Rm.frames ∧ 8 + (2 + 11) + rmX2_step.locals ≤ Rm.locals) : CallW Rm s args RX5 RX2 38 yX2_step cX2_step 2 (some .int) (Cond.code yX2_step cX2_step 2 (some .int) :: GT) rmX2_step 0 0 1 := cwV 1 ht (goodV wd204 wd86 wd87 wd83 wd88) rfl rfl rfl ⟨rfl, by decide +kernel, by decide +kernel, by decide +kernel⟩ hR
theorem cw_X8_325 {Rm : Room} {s : State} {args : Array Value} (ht : ∀ w ∈ GT, w.before args s = true) (hR : rmX2_step.frames + 1 ≤ Rm.frames ∧ 8 + (2 + 11) + rmX2_step.locals ≤ Rm.locals) : CallW Rm s args RX8 RX2 325 yX2_step cX2_step 2 (some .int) (Cond.code yX2_step cX2_step 2 (some .int) :: GT) rmX2_step 0 0 1 := cwV 1 ht (goodV wd308 wd86 wd87 wd83 wd88) rfl rfl rfl ⟨rfl, by decide +kernel, by decide +kernel, by decide +kernel⟩ hR
def f_X7_signOf (x0 : Int32) : Option (Int32) :=
  if narrow .char (.int (((x0 &&& 127).toUInt32 % 65536).toInt32)) = .int (((x0 &&& 127).toUInt32 % 65536).toInt32) then
  some (((x0 &&& 127).toUInt32 % 65536).toInt32)
  else none
abbrev rmX7_signOf : Room := { frames := 0, cells := 0, slots := 0, locals := 0 }
set_option maxHeartbeats 4000000 in
set_option maxRecDepth 100000 in
theorem c_X7_signOf {l : Launch} {g : Gam} {I : Mem} {R : Rem} {P : Pool} {Z : Zed} (x0 : Int32)  {z : Int32} (hf : f_X7_signOf x0 = some z) : Met l yX7_signOf (Cond.code yX7_signOf cX7_signOf 1 (some .char) :: GT) rmX7_signOf (va_Pc [.int x0] (PW g I R P Z)) (QI g z I R P Z) 0 0 (AA g) := by
  refine aw_ofW (lv0 := [(0, .int x0)]) (by decide) (by exact Nat.le_of_ble_eq_true rfl) (by rfl) (fun p0 e s m args below meth c ls C0 hl hW => ?_)
  have C0 : CX g p0 s m args meth c RX7 cX7_signOf 1 (some .char) := C0
  have hx := C0.1; have hb := C0.2.1; have hown := C0.2.2.2.2.1; have hts := C0.2.2.2.2.2.1; have hKS := C0.2.2.2.2.2.2.1
  unfold f_X7_signOf at hf
  obtain ⟨H, hH⟩ : ∃ H, H = s.heap := ⟨_, rfl⟩
  obtain ⟨locs, hlc⟩ : ∃ q : List Loc, q = [] := ⟨_, rfl⟩
  rw [show W p0 l e rmX7_signOf s m args below meth c s.heap [] 0 0 (MQ below (QI g z I R P Z) args s 0 0 (AA g)) (F0 m 0 ls []) = W p0 l e rmX7_signOf s m args below meth c H locs 0 0 (MQ below (QI g z I R P Z) args s 0 0 (AA g)) (F0 m 0 ls []) by rw [hH, hlc]]
  have hW : Wd g I R P Z s.heap H locs := by rw [hH, hlc]; exact hW
  refine lv_iload_n hx hb dX7_signOf_0 rfl (lv_at hl 0 rfl) ?_
  refine lv_bipush (v := 127) hx hb dX7_signOf_1 (by decide) ?_
  refine lv_iand hx hb dX7_signOf_3 ?_
  refine lv_i2c (v := ((x0 &&& 127).toUInt32 % 65536).toInt32) hx hb dX7_signOf_4 rfl ?_
  obtain ⟨hnw, hf⟩ := ifn hf
  have hz := Option.some.inj hf
  exact aw_zret C0 hW hnw hz rfl rfl dX7_signOf_5
theorem cw_X1_32 {Rm : Room} {s : State} {args : Array Value} (ht : ∀ w ∈ GT, w.before args s = true) (hR : rmX7_signOf.frames + 1 ≤ Rm.frames ∧ 8 + (1 + 11) + rmX7_signOf.locals ≤ Rm.locals) : CallB Rm s args RX1 32 yX7_signOf cX7_signOf 1 (some .char) (Cond.code yX7_signOf cX7_signOf 1 (some .char) :: GT) rmX7_signOf 0 0 1 ∧ (Cond.static yX7_signOf).before args s = true := va_cwS 1 ht (goodS wd103 wd104 wd91 wd105) rfl rfl rfl ⟨by decide +kernel, by decide +kernel, by decide +kernel⟩ hR
theorem cw_X5_42 {Rm : Room} {s : State} {args : Array Value} (ht : ∀ w ∈ GT, w.before args s = true) (hR : rmX7_signOf.frames + 1 ≤ Rm.frames ∧ 8 + (1 + 11) + rmX7_signOf.locals ≤ Rm.locals) : CallB Rm s args RX5 42 yX7_signOf cX7_signOf 1 (some .char) (Cond.code yX7_signOf cX7_signOf 1 (some .char) :: GT) rmX7_signOf 0 0 1 ∧ (Cond.static yX7_signOf).before args s = true := va_cwS 1 ht (goodS wd205 wd104 wd91 wd105) rfl rfl rfl ⟨by decide +kernel, by decide +kernel, by decide +kernel⟩ hR
theorem cw_X7_9 {Rm : Room} {s : State} {args : Array Value} (ht : ∀ w ∈ GT, w.before args s = true) (hR : rmX7_signOf.frames + 1 ≤ Rm.frames ∧ 8 + (1 + 11) + rmX7_signOf.locals ≤ Rm.locals) : CallB Rm s args RX7 9 yX7_signOf cX7_signOf 1 (some .char) (Cond.code yX7_signOf cX7_signOf 1 (some .char) :: GT) rmX7_signOf 0 0 1 ∧ (Cond.static yX7_signOf).before args s = true := va_cwS 1 ht (goodS wd250 wd104 wd91 wd105) rfl rfl rfl ⟨by decide +kernel, by decide +kernel, by decide +kernel⟩ hR
theorem cw_X8_337 {Rm : Room} {s : State} {args : Array Value} (ht : ∀ w ∈ GT, w.before args s = true) (hR : rmX7_signOf.frames + 1 ≤ Rm.frames ∧ 8 + (1 + 11) + rmX7_signOf.locals ≤ Rm.locals) : CallB Rm s args RX8 337 yX7_signOf cX7_signOf 1 (some .char) (Cond.code yX7_signOf cX7_signOf 1 (some .char) :: GT) rmX7_signOf 0 0 1 ∧ (Cond.static yX7_signOf).before args s = true := va_cwS 1 ht (goodS wd314 wd104 wd91 wd105) rfl rfl rfl ⟨by decide +kernel, by decide +kernel, by decide +kernel⟩ hR
def f_X3_pop (p : Nat) (I : Mem) : Option (Int32 × Mem) :=
  if 0 < (I p 1) then (
    (rd (up I p 1 ((I p 1) - 1)) (p + 1) 64 ((up I p 1 ((I p 1) - 1)) p 1)).bind fun v1 =>
    some (v1, (up I p 1 ((I p 1) - 1)))
  ) else (
    some (0, I)
  )
abbrev rmX3_pop : Room := { frames := 0, cells := 0, slots := 0, locals := 0 }
set_option maxHeartbeats 4000000 in
set_option maxRecDepth 100000 in
theorem c_X3_pop {l : Launch} {g : Gam} {I : Mem} {R : Rem} {P : Pool} {Z : Zed} (p : Nat) (hp : Kd P p = 3) {z : Int32 × Mem} (hf : f_X3_pop p I = some z) : Met l yX3_pop (Cond.code yX3_pop cX3_pop 1 (some .int) :: GT) rmX3_pop (va_Pc [.ref (g.2.2 + p)] (PW g I R P Z)) (QI g z.1 z.2 R P Z) 0 0 (AA g) := by
  refine aw_ofW (lv0 := [(0, .ref (g.2.2 + p))]) (by decide) (by exact Nat.le_of_ble_eq_true rfl) (by rfl) (fun p0 e s m args below meth c ls C0 hl hW => ?_)
  have C0 : CX g p0 s m args meth c RX3 cX3_pop 1 (some .int) := C0
  have hx := C0.1; have hb := C0.2.1; have hown := C0.2.2.2.2.1; have hts := C0.2.2.2.2.2.1; have hKS := C0.2.2.2.2.2.2.1
  unfold f_X3_pop at hf
  obtain ⟨H, hH⟩ : ∃ H, H = s.heap := ⟨_, rfl⟩
  obtain ⟨locs, hlc⟩ : ∃ q : List Loc, q = [] := ⟨_, rfl⟩
  rw [show W p0 l e rmX3_pop s m args below meth c s.heap [] 0 0 (MQ below (QI g z.1 z.2 R P Z) args s 0 0 (AA g)) (F0 m 0 ls []) = W p0 l e rmX3_pop s m args below meth c H locs 0 0 (MQ below (QI g z.1 z.2 R P Z) args s 0 0 (AA g)) (F0 m 0 ls []) by rw [hH, hlc]]
  have hW : Wd g I R P Z s.heap H locs := by rw [hH, hlc]; exact hW
  refine lv_aload_n hx hb dX3_pop_0 rfl (lv_at hl 0 rfl) ?_
  refine aw_get (v := .int (I p 1)) C0 hW (lv_kd hW.1.2.2 hp (by decide)) (cel_3 hp) rfl inG3 1 (by decide) wd15 rfl rfl dX3_pop_1 ?_
  refine lv_if_gt (tgt := 9) hx hb dX3_pop_4 rfl (fun hc => ?_) (fun hc => ?_)
  · have hf := ift hc hf
    refine lv_aload_n hx hb dX3_pop_9 rfl (lv_at hl 0 rfl) ?_
    refine lv_dup hx hb dX3_pop_10 rfl ?_
    refine aw_get (v := .int (I p 1)) C0 hW (lv_kd hW.1.2.2 hp (by decide)) (cel_3 hp) rfl inG3 1 (by decide) wd15 rfl rfl dX3_pop_11 ?_
    refine lv_iconst (v := 1) hx hb dX3_pop_14 (by decide) ?_
    refine lv_isub hx hb dX3_pop_15 ?_
    refine aw_put C0 hW (lv_kd hW.1.2.2 hp (by decide)) (cel_3 hp) rfl inG3 tyX3 tyX3_ok nmX3 1 (by decide) wd15 rfl rfl (ty := .int) rfl rfl rfl (Nat.le_of_ble_eq_true rfl) (pu_3_1 hp) dX3_pop_16 (fun H locs hW => ?_)
    refine lv_aload_n hx hb dX3_pop_19 rfl (lv_at hl 0 rfl) ?_
    refine aw_get (v := .ref (g.2.2 + (p + 1))) C0 hW (lv_kd hW.1.2.2 hp (by decide)) (cel_3 hp) rfl inG3 0 (by decide) wd19 rfl rfl dX3_pop_20 ?_
    refine lv_aload_n hx hb dX3_pop_23 rfl (lv_at hl 0 rfl) ?_
    refine aw_get (v := .int ((up I p 1 ((I p 1) - 1)) p 1)) C0 hW (lv_kd hW.1.2.2 hp (by decide)) (cel_3 hp) rfl inG3 1 (by decide) wd15 rfl rfl dX3_pop_24 ?_
    obtain ⟨v1, hv1, hf⟩ := bnd hf
    refine aw_iald C0 hW (pile_k hW.1.2.2 hp).1 (pile_k hW.1.2.2 hp).2 hv1 dX3_pop_27 ?_
    have hz := Option.some.inj hf
    have hzV := congrArg (fun z : Int32 × Mem => z.1) hz
    have hzI := congrArg (fun z : Int32 × Mem => z.2) hz
    exact aw_iret C0 hW hzV hzI rfl dX3_pop_28
  · have hf := iff_ hc hf
    refine lv_iconst (v := 0) hx hb dX3_pop_7 (by decide) ?_
    have hz := Option.some.inj hf
    have hzV := congrArg (fun z : Int32 × Mem => z.1) hz
    have hzI := congrArg (fun z : Int32 × Mem => z.2) hz
    exact aw_iret C0 hW hzV hzI rfl dX3_pop_8
theorem cw_X1_38 {Rm : Room} {s : State} {args : Array Value} (ht : ∀ w ∈ GT, w.before args s = true) (hR : rmX3_pop.frames + 1 ≤ Rm.frames ∧ 8 + (1 + 11) + rmX3_pop.locals ≤ Rm.locals) : CallW Rm s args RX1 RX3 38 yX3_pop cX3_pop 1 (some .int) (Cond.code yX3_pop cX3_pop 1 (some .int) :: GT) rmX3_pop 0 0 0 := cwV 0 ht (goodV wd106 wd107 wd108 wd109 wd110) rfl rfl rfl ⟨rfl, by decide +kernel, by decide +kernel, by decide +kernel⟩ hR
theorem cw_X4_82 {Rm : Room} {s : State} {args : Array Value} (ht : ∀ w ∈ GT, w.before args s = true) (hR : rmX3_pop.frames + 1 ≤ Rm.frames ∧ 8 + (1 + 11) + rmX3_pop.locals ≤ Rm.locals) : CallW Rm s args RX4 RX3 82 yX3_pop cX3_pop 1 (some .int) (Cond.code yX3_pop cX3_pop 1 (some .int) :: GT) rmX3_pop 0 0 0 := cwV 0 ht (goodV wd190 wd107 wd108 wd109 wd110) rfl rfl rfl ⟨rfl, by decide +kernel, by decide +kernel, by decide +kernel⟩ hR
theorem cw_X5_85 {Rm : Room} {s : State} {args : Array Value} (ht : ∀ w ∈ GT, w.before args s = true) (hR : rmX3_pop.frames + 1 ≤ Rm.frames ∧ 8 + (1 + 11) + rmX3_pop.locals ≤ Rm.locals) : CallW Rm s args RX5 RX3 85 yX3_pop cX3_pop 1 (some .int) (Cond.code yX3_pop cX3_pop 1 (some .int) :: GT) rmX3_pop 0 0 0 := cwV 0 ht (goodV wd233 wd107 wd108 wd109 wd110) rfl rfl rfl ⟨rfl, by decide +kernel, by decide +kernel, by decide +kernel⟩ hR
def f_X3_push (p : Nat) (x1 : Int32) (P : Pool) (I : Mem) : Option (Mem) :=
  if 64 ≤ (I p 1) then (
    some I
  ) else (
    (wr I (p + 1) 64 (I p 1) x1).bind fun I1 =>
    some ((up I1 p 1 ((I1 p 1) + 1)))
  )
abbrev rmX3_push : Room := { frames := 0, cells := 0, slots := 0, locals := 0 }
set_option maxHeartbeats 4000000 in
set_option maxRecDepth 100000 in
theorem c_X3_push {l : Launch} {g : Gam} {I : Mem} {R : Rem} {P : Pool} {Z : Zed} (p : Nat) (x1 : Int32) (hp : Kd P p = 3) {z : Mem} (hf : f_X3_push p x1 P I = some z) : Met l yX3_push (Cond.code yX3_push cX3_push 2 none :: GT) rmX3_push (va_Pc [.ref (g.2.2 + p), .int x1] (PW g I R P Z)) (QV g z R P Z) 0 0 (AA g) := by
  refine aw_ofW (lv0 := [(0, .ref (g.2.2 + p)), (1, .int x1)]) (by decide) (by exact Nat.le_of_ble_eq_true rfl) (by rfl) (fun p0 e s m args below meth c ls C0 hl hW => ?_)
  have C0 : CX g p0 s m args meth c RX3 cX3_push 2 none := C0
  have hx := C0.1; have hb := C0.2.1; have hown := C0.2.2.2.2.1; have hts := C0.2.2.2.2.2.1; have hKS := C0.2.2.2.2.2.2.1
  unfold f_X3_push at hf
  obtain ⟨H, hH⟩ : ∃ H, H = s.heap := ⟨_, rfl⟩
  obtain ⟨locs, hlc⟩ : ∃ q : List Loc, q = [] := ⟨_, rfl⟩
  rw [show W p0 l e rmX3_push s m args below meth c s.heap [] 0 0 (MQ below (QV g z R P Z) args s 0 0 (AA g)) (F0 m 0 ls []) = W p0 l e rmX3_push s m args below meth c H locs 0 0 (MQ below (QV g z R P Z) args s 0 0 (AA g)) (F0 m 0 ls []) by rw [hH, hlc]]
  have hW : Wd g I R P Z s.heap H locs := by rw [hH, hlc]; exact hW
  refine lv_aload_n hx hb dX3_push_0 rfl (lv_at hl 0 rfl) ?_
  refine aw_get (v := .int (I p 1)) C0 hW (lv_kd hW.1.2.2 hp (by decide)) (cel_3 hp) rfl inG3 1 (by decide) wd15 rfl rfl dX3_push_1 ?_
  refine lv_aload_n hx hb dX3_push_4 rfl (lv_at hl 0 rfl) ?_
  refine aw_get (v := .ref (g.2.2 + (p + 1))) C0 hW (lv_kd hW.1.2.2 hp (by decide)) (cel_3 hp) rfl inG3 0 (by decide) wd19 rfl rfl dX3_push_5 ?_
  refine aw_alen (v := 64) C0 hW (pile_k hW.1.2.2 hp).1 (pile_k hW.1.2.2 hp).2 (by decide) dX3_push_8 ?_
  refine lv_icmp_ge (tgt := 32) hx hb dX3_push_9 rfl (fun hc => ?_) (fun hc => ?_)
  · have hf := ift hc hf
    have hz := Option.some.inj hf
    exact aw_vret C0 hW hz rfl dX3_push_32
  · have hf := iff_ hc hf
    refine lv_aload_n hx hb dX3_push_12 rfl (lv_at hl 0 rfl) ?_
    refine aw_get (v := .ref (g.2.2 + (p + 1))) C0 hW (lv_kd hW.1.2.2 hp (by decide)) (cel_3 hp) rfl inG3 0 (by decide) wd19 rfl rfl dX3_push_13 ?_
    refine lv_aload_n hx hb dX3_push_16 rfl (lv_at hl 0 rfl) ?_
    refine aw_get (v := .int (I p 1)) C0 hW (lv_kd hW.1.2.2 hp (by decide)) (cel_3 hp) rfl inG3 1 (by decide) wd15 rfl rfl dX3_push_17 ?_
    refine lv_iload_n hx hb dX3_push_20 rfl (lv_at hl 1 rfl) ?_
    obtain ⟨I1, hI1, hf⟩ := bnd hf
    refine aw_iast C0 hW (pile_k hW.1.2.2 hp).1 (pile_k hW.1.2.2 hp).2 hI1 dX3_push_21 (fun H locs hW => ?_)
    refine lv_aload_n hx hb dX3_push_22 rfl (lv_at hl 0 rfl) ?_
    refine lv_dup hx hb dX3_push_23 rfl ?_
    refine aw_get (v := .int (I1 p 1)) C0 hW (lv_kd hW.1.2.2 hp (by decide)) (cel_3 hp) rfl inG3 1 (by decide) wd15 rfl rfl dX3_push_24 ?_
    refine lv_iconst (v := 1) hx hb dX3_push_27 (by decide) ?_
    refine lv_iadd hx hb dX3_push_28 ?_
    refine aw_put C0 hW (lv_kd hW.1.2.2 hp (by decide)) (cel_3 hp) rfl inG3 tyX3 tyX3_ok nmX3 1 (by decide) wd15 rfl rfl (ty := .int) rfl rfl rfl (Nat.le_of_ble_eq_true rfl) (pu_3_1 hp) dX3_push_29 (fun H locs hW => ?_)
    have hz := Option.some.inj hf
    exact aw_vret C0 hW hz rfl dX3_push_32
theorem cw_X1_41 {Rm : Room} {s : State} {args : Array Value} (ht : ∀ w ∈ GT, w.before args s = true) (hR : rmX3_push.frames + 1 ≤ Rm.frames ∧ 8 + (2 + 11) + rmX3_push.locals ≤ Rm.locals) : CallW Rm s args RX1 RX3 41 yX3_push cX3_push 2 none (Cond.code yX3_push cX3_push 2 none :: GT) rmX3_push 0 0 1 := cwV 1 ht (goodV wd111 wd112 wd113 wd109 wd114) rfl rfl rfl ⟨rfl, by decide +kernel, by decide +kernel, by decide +kernel⟩ hR
theorem cw_X4_69 {Rm : Room} {s : State} {args : Array Value} (ht : ∀ w ∈ GT, w.before args s = true) (hR : rmX3_push.frames + 1 ≤ Rm.frames ∧ 8 + (2 + 11) + rmX3_push.locals ≤ Rm.locals) : CallW Rm s args RX4 RX3 69 yX3_push cX3_push 2 none (Cond.code yX3_push cX3_push 2 none :: GT) rmX3_push 0 0 1 := cwV 1 ht (goodV wd179 wd112 wd113 wd109 wd114) rfl rfl rfl ⟨rfl, by decide +kernel, by decide +kernel, by decide +kernel⟩ hR
theorem cw_X5_59 {Rm : Room} {s : State} {args : Array Value} (ht : ∀ w ∈ GT, w.before args s = true) (hR : rmX3_push.frames + 1 ≤ Rm.frames ∧ 8 + (2 + 11) + rmX3_push.locals ≤ Rm.locals) : CallW Rm s args RX5 RX3 59 yX3_push cX3_push 2 none (Cond.code yX3_push cX3_push 2 none :: GT) rmX3_push 0 0 1 := cwV 1 ht (goodV wd219 wd112 wd113 wd109 wd114) rfl rfl rfl ⟨rfl, by decide +kernel, by decide +kernel, by decide +kernel⟩ hR
def f_X7_columnOf (x0 : Int32) : Option (Int32) :=
  some ((x0 >>> (7 &&& 31)) &&& 3)
abbrev rmX7_columnOf : Room := { frames := 0, cells := 0, slots := 0, locals := 0 }
set_option maxHeartbeats 4000000 in
set_option maxRecDepth 100000 in
theorem c_X7_columnOf {l : Launch} {g : Gam} {I : Mem} {R : Rem} {P : Pool} {Z : Zed} (x0 : Int32)  {z : Int32} (hf : f_X7_columnOf x0 = some z) : Met l yX7_columnOf (Cond.code yX7_columnOf cX7_columnOf 1 (some .int) :: GT) rmX7_columnOf (va_Pc [.int x0] (PW g I R P Z)) (QI g z I R P Z) 0 0 (AA g) := by
  refine aw_ofW (lv0 := [(0, .int x0)]) (by decide) (by exact Nat.le_of_ble_eq_true rfl) (by rfl) (fun p0 e s m args below meth c ls C0 hl hW => ?_)
  have C0 : CX g p0 s m args meth c RX7 cX7_columnOf 1 (some .int) := C0
  have hx := C0.1; have hb := C0.2.1; have hown := C0.2.2.2.2.1; have hts := C0.2.2.2.2.2.1; have hKS := C0.2.2.2.2.2.2.1
  unfold f_X7_columnOf at hf
  obtain ⟨H, hH⟩ : ∃ H, H = s.heap := ⟨_, rfl⟩
  obtain ⟨locs, hlc⟩ : ∃ q : List Loc, q = [] := ⟨_, rfl⟩
  rw [show W p0 l e rmX7_columnOf s m args below meth c s.heap [] 0 0 (MQ below (QI g z I R P Z) args s 0 0 (AA g)) (F0 m 0 ls []) = W p0 l e rmX7_columnOf s m args below meth c H locs 0 0 (MQ below (QI g z I R P Z) args s 0 0 (AA g)) (F0 m 0 ls []) by rw [hH, hlc]]
  have hW : Wd g I R P Z s.heap H locs := by rw [hH, hlc]; exact hW
  refine lv_iload_n hx hb dX7_columnOf_0 rfl (lv_at hl 0 rfl) ?_
  refine lv_bipush (v := 7) hx hb dX7_columnOf_1 (by decide) ?_
  refine lv_ishr hx hb dX7_columnOf_3 ?_
  refine lv_iconst (v := 3) hx hb dX7_columnOf_4 (by decide) ?_
  refine lv_iand hx hb dX7_columnOf_5 ?_
  have hz := Option.some.inj hf
  exact aw_iret C0 hW hz rfl rfl dX7_columnOf_6
theorem cw_X2_19 {Rm : Room} {s : State} {args : Array Value} (ht : ∀ w ∈ GT, w.before args s = true) (hR : rmX7_columnOf.frames + 1 ≤ Rm.frames ∧ 8 + (1 + 11) + rmX7_columnOf.locals ≤ Rm.locals) : CallB Rm s args RX2 19 yX7_columnOf cX7_columnOf 1 (some .int) (Cond.code yX7_columnOf cX7_columnOf 1 (some .int) :: GT) rmX7_columnOf 0 0 1 ∧ (Cond.static yX7_columnOf).before args s = true := va_cwS 1 ht (goodS wd133 wd134 wd91 wd135) rfl rfl rfl ⟨by decide +kernel, by decide +kernel, by decide +kernel⟩ hR
theorem cw_X5_62 {Rm : Room} {s : State} {args : Array Value} (ht : ∀ w ∈ GT, w.before args s = true) (hR : rmX7_columnOf.frames + 1 ≤ Rm.frames ∧ 8 + (1 + 11) + rmX7_columnOf.locals ≤ Rm.locals) : CallB Rm s args RX5 62 yX7_columnOf cX7_columnOf 1 (some .int) (Cond.code yX7_columnOf cX7_columnOf 1 (some .int) :: GT) rmX7_columnOf 0 0 1 ∧ (Cond.static yX7_columnOf).before args s = true := va_cwS 1 ht (goodS wd220 wd134 wd91 wd135) rfl rfl rfl ⟨by decide +kernel, by decide +kernel, by decide +kernel⟩ hR
theorem cw_X7_22 {Rm : Room} {s : State} {args : Array Value} (ht : ∀ w ∈ GT, w.before args s = true) (hR : rmX7_columnOf.frames + 1 ≤ Rm.frames ∧ 8 + (1 + 11) + rmX7_columnOf.locals ≤ Rm.locals) : CallB Rm s args RX7 22 yX7_columnOf cX7_columnOf 1 (some .int) (Cond.code yX7_columnOf cX7_columnOf 1 (some .int) :: GT) rmX7_columnOf 0 0 1 ∧ (Cond.static yX7_columnOf).before args s = true := va_cwS 1 ht (goodS wd241 wd134 wd91 wd135) rfl rfl rfl ⟨by decide +kernel, by decide +kernel, by decide +kernel⟩ hR
def f_X8_hasBit (x0 : Int32) (x1 : Int32) : Option (Int32) :=
  if ((x0 >>> (x1 &&& 31)) &&& 1) = 1 then (
    some 1
  ) else (
    some 0
  )
abbrev rmX8_hasBit : Room := { frames := 0, cells := 0, slots := 0, locals := 0 }
set_option maxHeartbeats 4000000 in
set_option maxRecDepth 100000 in
theorem c_X8_hasBit {l : Launch} {g : Gam} {I : Mem} {R : Rem} {P : Pool} {Z : Zed} (x0 : Int32) (x1 : Int32)  {z : Int32} (hf : f_X8_hasBit x0 x1 = some z) : Met l yX8_hasBit (Cond.code yX8_hasBit cX8_hasBit 2 (some .boolean) :: GT) rmX8_hasBit (va_Pc [.int x0, .int x1] (PW g I R P Z)) (QI g z I R P Z) 0 0 (AA g) := by
  refine aw_ofW (lv0 := [(0, .int x0), (1, .int x1)]) (by decide) (by exact Nat.le_of_ble_eq_true rfl) (by rfl) (fun p0 e s m args below meth c ls C0 hl hW => ?_)
  have C0 : CX g p0 s m args meth c RX8 cX8_hasBit 2 (some .boolean) := C0
  have hx := C0.1; have hb := C0.2.1; have hown := C0.2.2.2.2.1; have hts := C0.2.2.2.2.2.1; have hKS := C0.2.2.2.2.2.2.1
  unfold f_X8_hasBit at hf
  obtain ⟨H, hH⟩ : ∃ H, H = s.heap := ⟨_, rfl⟩
  obtain ⟨locs, hlc⟩ : ∃ q : List Loc, q = [] := ⟨_, rfl⟩
  rw [show W p0 l e rmX8_hasBit s m args below meth c s.heap [] 0 0 (MQ below (QI g z I R P Z) args s 0 0 (AA g)) (F0 m 0 ls []) = W p0 l e rmX8_hasBit s m args below meth c H locs 0 0 (MQ below (QI g z I R P Z) args s 0 0 (AA g)) (F0 m 0 ls []) by rw [hH, hlc]]
  have hW : Wd g I R P Z s.heap H locs := by rw [hH, hlc]; exact hW
  refine lv_iload_n hx hb dX8_hasBit_0 rfl (lv_at hl 0 rfl) ?_
  refine lv_iload_n hx hb dX8_hasBit_1 rfl (lv_at hl 1 rfl) ?_
  refine lv_ishr hx hb dX8_hasBit_2 ?_
  refine lv_iconst (v := 1) hx hb dX8_hasBit_3 (by decide) ?_
  refine lv_iand hx hb dX8_hasBit_4 ?_
  refine lv_iconst (v := 1) hx hb dX8_hasBit_5 (by decide) ?_
  refine lv_icmp_ne (tgt := 13) hx hb dX8_hasBit_6 rfl (fun hc => ?_) (fun hc => ?_)
  · have hf := iff_ hc hf
    refine lv_iconst (v := 0) hx hb dX8_hasBit_13 (by decide) ?_
    have hz := Option.some.inj hf
    exact aw_zret C0 hW rfl hz rfl rfl dX8_hasBit_14
  · have hf := ift hc hf
    refine lv_iconst (v := 1) hx hb dX8_hasBit_9 (by decide) ?_
    refine lv_goto (tgt := 14) hx hb dX8_hasBit_10 rfl ?_
    have hz := Option.some.inj hf
    exact aw_zret C0 hW rfl hz rfl rfl dX8_hasBit_14
theorem cn_X7_26 {g : Gam} {Rm : Room} {s : State} {args : Array Value} (hKS : KS g s) (ht : ∀ w ∈ GT, w.before args s = true) (hR : rmX8_hasBit.frames + 1 ≤ Rm.frames ∧ 8 + (2 + 11) + rmX8_hasBit.locals ≤ Rm.locals) : va_CN Rm s args RX7 26 yX8_hasBit RX8 cX8_hasBit 2 (some .boolean) (Cond.code yX8_hasBit cX8_hasBit 2 (some .boolean) :: GT) rmX8_hasBit 0 0 2 ∧ (Cond.static yX8_hasBit).before args s = true ∧ True := ⟨va_cnB 2 ht (GT_code wd242) rfl rfl rfl (hKS.2.2.1 (RX7, 26, yX8_hasBit, RX8) (List.mem_of_getElem? (i := 8) (by decide +kernel))) (ht _ wd243) ⟨by decide +kernel, by decide +kernel, by decide +kernel⟩ hR, ht _ wd244, trivial⟩
theorem cw_X8_185 {Rm : Room} {s : State} {args : Array Value} (ht : ∀ w ∈ GT, w.before args s = true) (hR : rmX8_hasBit.frames + 1 ≤ Rm.frames ∧ 8 + (2 + 11) + rmX8_hasBit.locals ≤ Rm.locals) : CallB Rm s args RX8 185 yX8_hasBit cX8_hasBit 2 (some .boolean) (Cond.code yX8_hasBit cX8_hasBit 2 (some .boolean) :: GT) rmX8_hasBit 0 0 2 ∧ (Cond.static yX8_hasBit).before args s = true := va_cwS 2 ht (goodS wd267 wd244 wd243 wd242) rfl rfl rfl ⟨by decide +kernel, by decide +kernel, by decide +kernel⟩ hR
def f_X7_cellOf (a0 : Nat) (x1 : Int32) (P : Pool) (I : Mem) : Option (Int32) :=
  if (Int32.ofNat (Ln P a0)) ≤ x1 then (
    some ((-1))
  ) else (
    (rd I a0 (Ln P a0) x1).bind fun v1 =>
    some v1
  )
abbrev rmX7_cellOf : Room := { frames := 0, cells := 0, slots := 0, locals := 0 }
set_option maxHeartbeats 4000000 in
set_option maxRecDepth 100000 in
theorem c_X7_cellOf {l : Launch} {g : Gam} {I : Mem} {R : Rem} {P : Pool} {Z : Zed} (a0 : Nat) (x1 : Int32) (ha0 : Kd P a0 = 10) {z : Int32} (hf : f_X7_cellOf a0 x1 P I = some z) : Met l yX7_cellOf (Cond.code yX7_cellOf cX7_cellOf 2 (some .int) :: GT) rmX7_cellOf (va_Pc [.ref (g.2.2 + a0), .int x1] (PW g I R P Z)) (QI g z I R P Z) 0 0 (AA g) := by
  refine aw_ofW (lv0 := [(0, .ref (g.2.2 + a0)), (1, .int x1)]) (by decide) (by exact Nat.le_of_ble_eq_true rfl) (by rfl) (fun p0 e s m args below meth c ls C0 hl hW => ?_)
  have C0 : CX g p0 s m args meth c RX7 cX7_cellOf 2 (some .int) := C0
  have hx := C0.1; have hb := C0.2.1; have hown := C0.2.2.2.2.1; have hts := C0.2.2.2.2.2.1; have hKS := C0.2.2.2.2.2.2.1
  unfold f_X7_cellOf at hf
  obtain ⟨H, hH⟩ : ∃ H, H = s.heap := ⟨_, rfl⟩
  obtain ⟨locs, hlc⟩ : ∃ q : List Loc, q = [] := ⟨_, rfl⟩
  rw [show W p0 l e rmX7_cellOf s m args below meth c s.heap [] 0 0 (MQ below (QI g z I R P Z) args s 0 0 (AA g)) (F0 m 0 ls []) = W p0 l e rmX7_cellOf s m args below meth c H locs 0 0 (MQ below (QI g z I R P Z) args s 0 0 (AA g)) (F0 m 0 ls []) by rw [hH, hlc]]
  have hW : Wd g I R P Z s.heap H locs := by rw [hH, hlc]; exact hW
  refine lv_iload_n hx hb dX7_cellOf_0 rfl (lv_at hl 1 rfl) ?_
  refine lv_aload_n hx hb dX7_cellOf_1 rfl (lv_at hl 0 rfl) ?_
  refine aw_alen (v := Int32.ofNat (Ln P a0)) C0 hW ha0 rfl rfl dX7_cellOf_2 ?_
  refine lv_icmp_ge (tgt := 12) hx hb dX7_cellOf_3 rfl (fun hc => ?_) (fun hc => ?_)
  · have hf := ift hc hf
    refine lv_iconst (v := (-1)) hx hb dX7_cellOf_12 (by decide) ?_
    have hz := Option.some.inj hf
    exact aw_iret C0 hW hz rfl rfl dX7_cellOf_13
  · have hf := iff_ hc hf
    refine lv_aload_n hx hb dX7_cellOf_6 rfl (lv_at hl 0 rfl) ?_
    refine lv_iload_n hx hb dX7_cellOf_7 rfl (lv_at hl 1 rfl) ?_
    obtain ⟨v1, hv1, hf⟩ := bnd hf
    refine aw_iald C0 hW ha0 rfl hv1 dX7_cellOf_8 ?_
    refine lv_goto (tgt := 13) hx hb dX7_cellOf_9 rfl ?_
    have hz := Option.some.inj hf
    exact aw_iret C0 hW hz rfl rfl dX7_cellOf_13
theorem cw_X7_30 {Rm : Room} {s : State} {args : Array Value} (ht : ∀ w ∈ GT, w.before args s = true) (hR : rmX7_cellOf.frames + 1 ≤ Rm.frames ∧ 8 + (2 + 11) + rmX7_cellOf.locals ≤ Rm.locals) : CallB Rm s args RX7 30 yX7_cellOf cX7_cellOf 2 (some .int) (Cond.code yX7_cellOf cX7_cellOf 2 (some .int) :: GT) rmX7_cellOf 0 0 2 ∧ (Cond.static yX7_cellOf).before args s = true := va_cwS 2 ht (goodS wd245 wd246 wd91 wd247) rfl rfl rfl ⟨by decide +kernel, by decide +kernel, by decide +kernel⟩ hR
def f_X7_comparesColumns (x0 : Int32) : Option (Int32) :=
  if ((x0 >>> (9 &&& 31)) &&& 1) = 1 then (
    some 1
  ) else (
    some 0
  )
abbrev rmX7_comparesColumns : Room := { frames := 0, cells := 0, slots := 0, locals := 0 }
set_option maxHeartbeats 4000000 in
set_option maxRecDepth 100000 in
theorem c_X7_comparesColumns {l : Launch} {g : Gam} {I : Mem} {R : Rem} {P : Pool} {Z : Zed} (x0 : Int32)  {z : Int32} (hf : f_X7_comparesColumns x0 = some z) : Met l yX7_comparesColumns (Cond.code yX7_comparesColumns cX7_comparesColumns 1 (some .boolean) :: GT) rmX7_comparesColumns (va_Pc [.int x0] (PW g I R P Z)) (QI g z I R P Z) 0 0 (AA g) := by
  refine aw_ofW (lv0 := [(0, .int x0)]) (by decide) (by exact Nat.le_of_ble_eq_true rfl) (by rfl) (fun p0 e s m args below meth c ls C0 hl hW => ?_)
  have C0 : CX g p0 s m args meth c RX7 cX7_comparesColumns 1 (some .boolean) := C0
  have hx := C0.1; have hb := C0.2.1; have hown := C0.2.2.2.2.1; have hts := C0.2.2.2.2.2.1; have hKS := C0.2.2.2.2.2.2.1
  unfold f_X7_comparesColumns at hf
  obtain ⟨H, hH⟩ : ∃ H, H = s.heap := ⟨_, rfl⟩
  obtain ⟨locs, hlc⟩ : ∃ q : List Loc, q = [] := ⟨_, rfl⟩
  rw [show W p0 l e rmX7_comparesColumns s m args below meth c s.heap [] 0 0 (MQ below (QI g z I R P Z) args s 0 0 (AA g)) (F0 m 0 ls []) = W p0 l e rmX7_comparesColumns s m args below meth c H locs 0 0 (MQ below (QI g z I R P Z) args s 0 0 (AA g)) (F0 m 0 ls []) by rw [hH, hlc]]
  have hW : Wd g I R P Z s.heap H locs := by rw [hH, hlc]; exact hW
  refine lv_iload_n hx hb dX7_comparesColumns_0 rfl (lv_at hl 0 rfl) ?_
  refine lv_bipush (v := 9) hx hb dX7_comparesColumns_1 (by decide) ?_
  refine lv_ishr hx hb dX7_comparesColumns_3 ?_
  refine lv_iconst (v := 1) hx hb dX7_comparesColumns_4 (by decide) ?_
  refine lv_iand hx hb dX7_comparesColumns_5 ?_
  refine lv_iconst (v := 1) hx hb dX7_comparesColumns_6 (by decide) ?_
  refine lv_icmp_ne (tgt := 14) hx hb dX7_comparesColumns_7 rfl (fun hc => ?_) (fun hc => ?_)
  · have hf := iff_ hc hf
    refine lv_iconst (v := 0) hx hb dX7_comparesColumns_14 (by decide) ?_
    have hz := Option.some.inj hf
    exact aw_zret C0 hW rfl hz rfl rfl dX7_comparesColumns_15
  · have hf := ift hc hf
    refine lv_iconst (v := 1) hx hb dX7_comparesColumns_10 (by decide) ?_
    refine lv_goto (tgt := 15) hx hb dX7_comparesColumns_11 rfl ?_
    have hz := Option.some.inj hf
    exact aw_zret C0 hW rfl hz rfl rfl dX7_comparesColumns_15
theorem cw_X2_23 {Rm : Room} {s : State} {args : Array Value} (ht : ∀ w ∈ GT, w.before args s = true) (hR : rmX7_comparesColumns.frames + 1 ≤ Rm.frames ∧ 8 + (1 + 11) + rmX7_comparesColumns.locals ≤ Rm.locals) : CallB Rm s args RX2 23 yX7_comparesColumns cX7_comparesColumns 1 (some .boolean) (Cond.code yX7_comparesColumns cX7_comparesColumns 1 (some .boolean) :: GT) rmX7_comparesColumns 0 0 1 ∧ (Cond.static yX7_comparesColumns).before args s = true := va_cwS 1 ht (goodS wd136 wd137 wd91 wd138) rfl rfl rfl ⟨by decide +kernel, by decide +kernel, by decide +kernel⟩ hR
theorem cw_X5_69 {Rm : Room} {s : State} {args : Array Value} (ht : ∀ w ∈ GT, w.before args s = true) (hR : rmX7_comparesColumns.frames + 1 ≤ Rm.frames ∧ 8 + (1 + 11) + rmX7_comparesColumns.locals ≤ Rm.locals) : CallB Rm s args RX5 69 yX7_comparesColumns cX7_comparesColumns 1 (some .boolean) (Cond.code yX7_comparesColumns cX7_comparesColumns 1 (some .boolean) :: GT) rmX7_comparesColumns 0 0 1 ∧ (Cond.static yX7_comparesColumns).before args s = true := va_cwS 1 ht (goodS wd225 wd137 wd91 wd138) rfl rfl rfl ⟨by decide +kernel, by decide +kernel, by decide +kernel⟩ hR
theorem cw_X7_19 {Rm : Room} {s : State} {args : Array Value} (ht : ∀ w ∈ GT, w.before args s = true) (hR : rmX7_comparesColumns.frames + 1 ≤ Rm.frames ∧ 8 + (1 + 11) + rmX7_comparesColumns.locals ≤ Rm.locals) : CallB Rm s args RX7 19 yX7_comparesColumns cX7_comparesColumns 1 (some .boolean) (Cond.code yX7_comparesColumns cX7_comparesColumns 1 (some .boolean) :: GT) rmX7_comparesColumns 0 0 1 ∧ (Cond.static yX7_comparesColumns).before args s = true := va_cwS 1 ht (goodS wd240 wd137 wd91 wd138) rfl rfl rfl ⟨by decide +kernel, by decide +kernel, by decide +kernel⟩ hR
def f_X7_otherColumnOf (x0 : Int32) : Option (Int32) :=
  some ((x0 >>> (10 &&& 31)) &&& 3)
abbrev rmX7_otherColumnOf : Room := { frames := 0, cells := 0, slots := 0, locals := 0 }
set_option maxHeartbeats 4000000 in
set_option maxRecDepth 100000 in
theorem c_X7_otherColumnOf {l : Launch} {g : Gam} {I : Mem} {R : Rem} {P : Pool} {Z : Zed} (x0 : Int32)  {z : Int32} (hf : f_X7_otherColumnOf x0 = some z) : Met l yX7_otherColumnOf (Cond.code yX7_otherColumnOf cX7_otherColumnOf 1 (some .int) :: GT) rmX7_otherColumnOf (va_Pc [.int x0] (PW g I R P Z)) (QI g z I R P Z) 0 0 (AA g) := by
  refine aw_ofW (lv0 := [(0, .int x0)]) (by decide) (by exact Nat.le_of_ble_eq_true rfl) (by rfl) (fun p0 e s m args below meth c ls C0 hl hW => ?_)
  have C0 : CX g p0 s m args meth c RX7 cX7_otherColumnOf 1 (some .int) := C0
  have hx := C0.1; have hb := C0.2.1; have hown := C0.2.2.2.2.1; have hts := C0.2.2.2.2.2.1; have hKS := C0.2.2.2.2.2.2.1
  unfold f_X7_otherColumnOf at hf
  obtain ⟨H, hH⟩ : ∃ H, H = s.heap := ⟨_, rfl⟩
  obtain ⟨locs, hlc⟩ : ∃ q : List Loc, q = [] := ⟨_, rfl⟩
  rw [show W p0 l e rmX7_otherColumnOf s m args below meth c s.heap [] 0 0 (MQ below (QI g z I R P Z) args s 0 0 (AA g)) (F0 m 0 ls []) = W p0 l e rmX7_otherColumnOf s m args below meth c H locs 0 0 (MQ below (QI g z I R P Z) args s 0 0 (AA g)) (F0 m 0 ls []) by rw [hH, hlc]]
  have hW : Wd g I R P Z s.heap H locs := by rw [hH, hlc]; exact hW
  refine lv_iload_n hx hb dX7_otherColumnOf_0 rfl (lv_at hl 0 rfl) ?_
  refine lv_bipush (v := 10) hx hb dX7_otherColumnOf_1 (by decide) ?_
  refine lv_ishr hx hb dX7_otherColumnOf_3 ?_
  refine lv_iconst (v := 3) hx hb dX7_otherColumnOf_4 (by decide) ?_
  refine lv_iand hx hb dX7_otherColumnOf_5 ?_
  have hz := Option.some.inj hf
  exact aw_iret C0 hW hz rfl rfl dX7_otherColumnOf_6
theorem cw_X2_26 {Rm : Room} {s : State} {args : Array Value} (ht : ∀ w ∈ GT, w.before args s = true) (hR : rmX7_otherColumnOf.frames + 1 ≤ Rm.frames ∧ 8 + (1 + 11) + rmX7_otherColumnOf.locals ≤ Rm.locals) : CallB Rm s args RX2 26 yX7_otherColumnOf cX7_otherColumnOf 1 (some .int) (Cond.code yX7_otherColumnOf cX7_otherColumnOf 1 (some .int) :: GT) rmX7_otherColumnOf 0 0 1 ∧ (Cond.static yX7_otherColumnOf).before args s = true := va_cwS 1 ht (goodS wd139 wd140 wd91 wd141) rfl rfl rfl ⟨by decide +kernel, by decide +kernel, by decide +kernel⟩ hR
theorem cw_X5_73 {Rm : Room} {s : State} {args : Array Value} (ht : ∀ w ∈ GT, w.before args s = true) (hR : rmX7_otherColumnOf.frames + 1 ≤ Rm.frames ∧ 8 + (1 + 11) + rmX7_otherColumnOf.locals ≤ Rm.locals) : CallB Rm s args RX5 73 yX7_otherColumnOf cX7_otherColumnOf 1 (some .int) (Cond.code yX7_otherColumnOf cX7_otherColumnOf 1 (some .int) :: GT) rmX7_otherColumnOf 0 0 1 ∧ (Cond.static yX7_otherColumnOf).before args s = true := va_cwS 1 ht (goodS wd226 wd140 wd91 wd141) rfl rfl rfl ⟨by decide +kernel, by decide +kernel, by decide +kernel⟩ hR
theorem cw_X7_34 {Rm : Room} {s : State} {args : Array Value} (ht : ∀ w ∈ GT, w.before args s = true) (hR : rmX7_otherColumnOf.frames + 1 ≤ Rm.frames ∧ 8 + (1 + 11) + rmX7_otherColumnOf.locals ≤ Rm.locals) : CallB Rm s args RX7 34 yX7_otherColumnOf cX7_otherColumnOf 1 (some .int) (Cond.code yX7_otherColumnOf cX7_otherColumnOf 1 (some .int) :: GT) rmX7_otherColumnOf 0 0 1 ∧ (Cond.static yX7_otherColumnOf).before args s = true := va_cwS 1 ht (goodS wd248 wd140 wd91 wd141) rfl rfl rfl ⟨by decide +kernel, by decide +kernel, by decide +kernel⟩ hR
def f_X7_valueOf (x0 : Int32) : Option (Int32) :=
  some (x0 >>> (10 &&& 31))
abbrev rmX7_valueOf : Room := { frames := 0, cells := 0, slots := 0, locals := 0 }
set_option maxHeartbeats 4000000 in
set_option maxRecDepth 100000 in
theorem c_X7_valueOf {l : Launch} {g : Gam} {I : Mem} {R : Rem} {P : Pool} {Z : Zed} (x0 : Int32)  {z : Int32} (hf : f_X7_valueOf x0 = some z) : Met l yX7_valueOf (Cond.code yX7_valueOf cX7_valueOf 1 (some .int) :: GT) rmX7_valueOf (va_Pc [.int x0] (PW g I R P Z)) (QI g z I R P Z) 0 0 (AA g) := by
  refine aw_ofW (lv0 := [(0, .int x0)]) (by decide) (by exact Nat.le_of_ble_eq_true rfl) (by rfl) (fun p0 e s m args below meth c ls C0 hl hW => ?_)
  have C0 : CX g p0 s m args meth c RX7 cX7_valueOf 1 (some .int) := C0
  have hx := C0.1; have hb := C0.2.1; have hown := C0.2.2.2.2.1; have hts := C0.2.2.2.2.2.1; have hKS := C0.2.2.2.2.2.2.1
  unfold f_X7_valueOf at hf
  obtain ⟨H, hH⟩ : ∃ H, H = s.heap := ⟨_, rfl⟩
  obtain ⟨locs, hlc⟩ : ∃ q : List Loc, q = [] := ⟨_, rfl⟩
  rw [show W p0 l e rmX7_valueOf s m args below meth c s.heap [] 0 0 (MQ below (QI g z I R P Z) args s 0 0 (AA g)) (F0 m 0 ls []) = W p0 l e rmX7_valueOf s m args below meth c H locs 0 0 (MQ below (QI g z I R P Z) args s 0 0 (AA g)) (F0 m 0 ls []) by rw [hH, hlc]]
  have hW : Wd g I R P Z s.heap H locs := by rw [hH, hlc]; exact hW
  refine lv_iload_n hx hb dX7_valueOf_0 rfl (lv_at hl 0 rfl) ?_
  refine lv_bipush (v := 10) hx hb dX7_valueOf_1 (by decide) ?_
  refine lv_ishr hx hb dX7_valueOf_3 ?_
  have hz := Option.some.inj hf
  exact aw_iret C0 hW hz rfl rfl dX7_valueOf_4
theorem cw_X0_42 {Rm : Room} {s : State} {args : Array Value} (ht : ∀ w ∈ GT, w.before args s = true) (hR : rmX7_valueOf.frames + 1 ≤ Rm.frames ∧ 8 + (1 + 11) + rmX7_valueOf.locals ≤ Rm.locals) : CallB Rm s args RX0 42 yX7_valueOf cX7_valueOf 1 (some .int) (Cond.code yX7_valueOf cX7_valueOf 1 (some .int) :: GT) rmX7_valueOf 0 0 1 ∧ (Cond.static yX7_valueOf).before args s = true := va_cwS 1 ht (goodS wd93 wd94 wd91 wd95) rfl rfl rfl ⟨by decide +kernel, by decide +kernel, by decide +kernel⟩ hR
theorem cw_X5_79 {Rm : Room} {s : State} {args : Array Value} (ht : ∀ w ∈ GT, w.before args s = true) (hR : rmX7_valueOf.frames + 1 ≤ Rm.frames ∧ 8 + (1 + 11) + rmX7_valueOf.locals ≤ Rm.locals) : CallB Rm s args RX5 79 yX7_valueOf cX7_valueOf 1 (some .int) (Cond.code yX7_valueOf cX7_valueOf 1 (some .int) :: GT) rmX7_valueOf 0 0 1 ∧ (Cond.static yX7_valueOf).before args s = true := va_cwS 1 ht (goodS wd228 wd94 wd91 wd95) rfl rfl rfl ⟨by decide +kernel, by decide +kernel, by decide +kernel⟩ hR
theorem cw_X7_37 {Rm : Room} {s : State} {args : Array Value} (ht : ∀ w ∈ GT, w.before args s = true) (hR : rmX7_valueOf.frames + 1 ≤ Rm.frames ∧ 8 + (1 + 11) + rmX7_valueOf.locals ≤ Rm.locals) : CallB Rm s args RX7 37 yX7_valueOf cX7_valueOf 1 (some .int) (Cond.code yX7_valueOf cX7_valueOf 1 (some .int) :: GT) rmX7_valueOf 0 0 1 ∧ (Cond.static yX7_valueOf).before args s = true := va_cwS 1 ht (goodS wd249 wd94 wd91 wd95) rfl rfl rfl ⟨by decide +kernel, by decide +kernel, by decide +kernel⟩ hR
def f_X7_truthOf (x0 : Int32) (a1 : Nat) (x2 : Int32) (P : Pool) (I : Mem) : Option (Int32) :=
  (f_X7_signOf x0).bind fun q1 =>
  (f_X7_columnOf x0).bind fun q2 =>
  if q1 = 63 then (
    (f_X8_hasBit x2 q2).bind fun q9 =>
    if q9 = 0 then (
      some 0
    ) else (
      some 2
    )
  ) else (
    (f_X7_cellOf a1 q2 P I).bind fun q3 =>
    (f_X7_comparesColumns x0).bind fun q4 =>
    ((
      if q4 = 0 then (
        (f_X7_valueOf x0).bind fun q6 =>
        some q6
      ) else (
        (f_X7_otherColumnOf x0).bind fun q7 =>
        (f_X7_cellOf a1 q7 P I).bind fun q8 =>
        some q8
      )
    ) : Option (Int32)).bind fun q5 =>
    if q3 = ((-1)) then (
      some 1
    ) else (
      if q5 = ((-1)) then (
        some 1
      ) else (
        if q1 = 61 then (
          if q3 = q5 then (
            some 2
          ) else (
            some 0
          )
        ) else (
          if q1 = 60 then (
            if q5 ≤ q3 then (
              some 0
            ) else (
              some 2
            )
          ) else (
            if q3 ≤ q5 then (
              some 0
            ) else (
              some 2
            )
          )
        )
      )
    )
  )
abbrev rmX7_truthOf : Room := { frames := 1, cells := 0, slots := 0, locals := 21 }
set_option maxHeartbeats 4000000 in
set_option maxRecDepth 100000 in
theorem c_X7_truthOf {l : Launch} {g : Gam} {I : Mem} {R : Rem} {P : Pool} {Z : Zed} (x0 : Int32) (a1 : Nat) (x2 : Int32) (ha1 : Kd P a1 = 10) {z : Int32} (hf : f_X7_truthOf x0 a1 x2 P I = some z) : Met l yX7_truthOf (Cond.code yX7_truthOf cX7_truthOf 8 (some .int) :: GT) rmX7_truthOf (va_Pc [.int x0, .ref (g.2.2 + a1), .int x2] (PW g I R P Z)) (QI g z I R P Z) 0 0 (AA g) := by
  refine aw_ofW (lv0 := [(0, .int x0), (1, .ref (g.2.2 + a1)), (2, .int x2)]) (by decide) (by exact Nat.le_of_ble_eq_true rfl) (by rfl) (fun p0 e s m args below meth c ls C0 hl hW => ?_)
  have C0 : CX g p0 s m args meth c RX7 cX7_truthOf 8 (some .int) := C0
  have hx := C0.1; have hb := C0.2.1; have hown := C0.2.2.2.2.1; have hts := C0.2.2.2.2.2.1; have hKS := C0.2.2.2.2.2.2.1
  unfold f_X7_truthOf at hf
  obtain ⟨H, hH⟩ : ∃ H, H = s.heap := ⟨_, rfl⟩
  obtain ⟨locs, hlc⟩ : ∃ q : List Loc, q = [] := ⟨_, rfl⟩
  rw [show W p0 l e rmX7_truthOf s m args below meth c s.heap [] 0 0 (MQ below (QI g z I R P Z) args s 0 0 (AA g)) (F0 m 0 ls []) = W p0 l e rmX7_truthOf s m args below meth c H locs 0 0 (MQ below (QI g z I R P Z) args s 0 0 (AA g)) (F0 m 0 ls []) by rw [hH, hlc]]
  have hW : Wd g I R P Z s.heap H locs := by rw [hH, hlc]; exact hW
  refine lv_iload_n hx hb dX7_truthOf_0 rfl (lv_at hl 0 rfl) ?_
  obtain ⟨q1, hq1, hf⟩ := bnd hf
  refine aw_cSi (rest := []) C0 hW (c_X7_signOf x0  hq1) (cw_X7_9 hts ⟨Nat.le_of_ble_eq_true rfl, Nat.le_of_ble_eq_true rfl⟩) rfl hl.1 rfl (Nat.le_of_ble_eq_true rfl) ⟨Nat.zero_le _, Nat.zero_le _⟩ dX7_truthOf_1 (fun H locs hW => ?_)
  refine lv_istore_n (lv' := [(3, .int q1), (0, .int x0), (1, .ref (g.2.2 + a1)), (2, .int x2)]) hx hb dX7_truthOf_4 rfl hl (Nat.le_of_ble_eq_true rfl) rfl (fun ls hl => ?_)
  refine lv_iload_n hx hb dX7_truthOf_5 rfl (lv_at hl 1 rfl) ?_
  obtain ⟨q2, hq2, hf⟩ := bnd hf
  refine aw_cSi (rest := []) C0 hW (c_X7_columnOf x0  hq2) (cw_X7_22 hts ⟨Nat.le_of_ble_eq_true rfl, Nat.le_of_ble_eq_true rfl⟩) rfl hl.1 rfl (Nat.le_of_ble_eq_true rfl) ⟨Nat.zero_le _, Nat.zero_le _⟩ dX7_truthOf_6 (fun H locs hW => ?_)
  refine lv_istore (lv' := [(4, .int q2), (3, .int q1), (0, .int x0), (1, .ref (g.2.2 + a1)), (2, .int x2)]) hx hb dX7_truthOf_9 hl (Nat.le_of_ble_eq_true rfl) rfl (fun ls hl => ?_)
  refine lv_iload_n hx hb dX7_truthOf_11 rfl (lv_at hl 1 rfl) ?_
  refine lv_bipush (v := 63) hx hb dX7_truthOf_12 (by decide) ?_
  refine lv_icmp_ne (tgt := 32) hx hb dX7_truthOf_14 rfl (fun hc => ?_) (fun hc => ?_)
  · have hf := iff_ hc hf
    refine lv_aload_n hx hb dX7_truthOf_32 rfl (lv_at hl 3 rfl) ?_
    refine lv_iload hx hb dX7_truthOf_33 (lv_at hl 0 rfl) ?_
    obtain ⟨q3, hq3, hf⟩ := bnd hf
    refine aw_cSi (rest := []) C0 hW (c_X7_cellOf a1 q2 ha1 hq3) (cw_X7_30 hts ⟨Nat.le_of_ble_eq_true rfl, Nat.le_of_ble_eq_true rfl⟩) rfl hl.1 rfl (Nat.le_of_ble_eq_true rfl) ⟨Nat.zero_le _, Nat.zero_le _⟩ dX7_truthOf_35 (fun H locs hW => ?_)
    refine lv_istore (lv' := [(5, .int q3), (4, .int q2), (3, .int q1), (0, .int x0), (1, .ref (g.2.2 + a1)), (2, .int x2)]) hx hb dX7_truthOf_38 hl (Nat.le_of_ble_eq_true rfl) rfl (fun ls hl => ?_)
    refine lv_iload_n hx hb dX7_truthOf_40 rfl (lv_at hl 3 rfl) ?_
    obtain ⟨q4, hq4, hf⟩ := bnd hf
    refine aw_cSi (rest := []) C0 hW (c_X7_comparesColumns x0  hq4) (cw_X7_19 hts ⟨Nat.le_of_ble_eq_true rfl, Nat.le_of_ble_eq_true rfl⟩) rfl hl.1 rfl (Nat.le_of_ble_eq_true rfl) ⟨Nat.zero_le _, Nat.zero_le _⟩ dX7_truthOf_41 (fun H locs hW => ?_)
    obtain ⟨q5, hq5, hf⟩ := bnd hf
    have J62_q5 : ∀ (H : Heap) (locs : List Loc) (ls : Array Slot), Wd g I R P Z s.heap H locs → lv_has ls 8 [(3, .int q1), (5, .int q3)] → W p0 l e rmX7_truthOf s m args below meth c H locs 0 0 (MQ below (QI g z I R P Z) args s 0 0 (AA g)) (F0 m 62 ls ([.int q5])) := by
      intro H locs ls hW hl
      refine lv_istore (lv' := [(6, .int q5), (3, .int q1), (5, .int q3)]) hx hb dX7_truthOf_62 hl (Nat.le_of_ble_eq_true rfl) rfl (fun ls hl => ?_)
      refine lv_iload hx hb dX7_truthOf_64 (lv_at hl 2 rfl) ?_
      refine lv_iconst (v := (-1)) hx hb dX7_truthOf_66 (by decide) ?_
      refine lv_icmp_eq (tgt := 76) hx hb dX7_truthOf_67 rfl (fun hc => ?_) (fun hc => ?_)
      · have hf := ift hc hf
        refine lv_iconst (v := 1) hx hb dX7_truthOf_76 (by decide) ?_
        have hz := Option.some.inj hf
        exact aw_iret C0 hW hz rfl rfl dX7_truthOf_77
      · have hf := iff_ hc hf
        refine lv_iload hx hb dX7_truthOf_70 (lv_at hl 0 rfl) ?_
        refine lv_iconst (v := (-1)) hx hb dX7_truthOf_72 (by decide) ?_
        refine lv_icmp_ne (tgt := 78) hx hb dX7_truthOf_73 rfl (fun hc => ?_) (fun hc => ?_)
        · have hf := iff_ hc hf
          refine lv_iload_n hx hb dX7_truthOf_78 rfl (lv_at hl 1 rfl) ?_
          refine lv_bipush (v := 61) hx hb dX7_truthOf_79 (by decide) ?_
          refine lv_icmp_ne (tgt := 99) hx hb dX7_truthOf_81 rfl (fun hc => ?_) (fun hc => ?_)
          · have hf := iff_ hc hf
            refine lv_iload_n hx hb dX7_truthOf_99 rfl (lv_at hl 1 rfl) ?_
            refine lv_bipush (v := 60) hx hb dX7_truthOf_100 (by decide) ?_
            refine lv_icmp_ne (tgt := 120) hx hb dX7_truthOf_102 rfl (fun hc => ?_) (fun hc => ?_)
            · have hf := iff_ hc hf
              refine lv_iload hx hb dX7_truthOf_120 (lv_at hl 2 rfl) ?_
              refine lv_iload hx hb dX7_truthOf_122 (lv_at hl 0 rfl) ?_
              refine lv_icmp_le (tgt := 131) hx hb dX7_truthOf_124 rfl (fun hc => ?_) (fun hc => ?_)
              · have hf := ift hc hf
                refine lv_iconst (v := 0) hx hb dX7_truthOf_131 (by decide) ?_
                refine lv_istore (lv' := [(7, .int 0), (6, .int q5), (3, .int q1), (5, .int q3)]) hx hb dX7_truthOf_132 hl (Nat.le_of_ble_eq_true rfl) rfl (fun ls hl => ?_)
                refine lv_iload hx hb dX7_truthOf_134 (lv_at hl 0 rfl) ?_
                refine lv_if_eq (tgt := 143) hx hb dX7_truthOf_136 rfl (fun _ => ?_) (fun hc => absurd (by decide) hc)
                refine lv_iconst (v := 0) hx hb dX7_truthOf_143 (by decide) ?_
                have hz := Option.some.inj hf
                exact aw_iret C0 hW hz rfl rfl dX7_truthOf_144
              · have hf := iff_ hc hf
                refine lv_iconst (v := 1) hx hb dX7_truthOf_127 (by decide) ?_
                refine lv_goto (tgt := 132) hx hb dX7_truthOf_128 rfl ?_
                refine lv_istore (lv' := [(7, .int 1), (6, .int q5), (3, .int q1), (5, .int q3)]) hx hb dX7_truthOf_132 hl (Nat.le_of_ble_eq_true rfl) rfl (fun ls hl => ?_)
                refine lv_iload hx hb dX7_truthOf_134 (lv_at hl 0 rfl) ?_
                refine lv_if_eq (tgt := 143) hx hb dX7_truthOf_136 rfl (fun hc => absurd hc (by decide)) (fun _ => ?_)
                refine lv_iconst (v := 2) hx hb dX7_truthOf_139 (by decide) ?_
                refine lv_goto (tgt := 144) hx hb dX7_truthOf_140 rfl ?_
                have hz := Option.some.inj hf
                exact aw_iret C0 hW hz rfl rfl dX7_truthOf_144
            · have hf := ift hc hf
              refine lv_iload hx hb dX7_truthOf_105 (lv_at hl 2 rfl) ?_
              refine lv_iload hx hb dX7_truthOf_107 (lv_at hl 0 rfl) ?_
              refine lv_icmp_ge (tgt := 116) hx hb dX7_truthOf_109 rfl (fun hc => ?_) (fun hc => ?_)
              · have hf := ift hc hf
                refine lv_iconst (v := 0) hx hb dX7_truthOf_116 (by decide) ?_
                refine lv_goto (tgt := 132) hx hb dX7_truthOf_117 rfl ?_
                refine lv_istore (lv' := [(7, .int 0), (6, .int q5), (3, .int q1), (5, .int q3)]) hx hb dX7_truthOf_132 hl (Nat.le_of_ble_eq_true rfl) rfl (fun ls hl => ?_)
                refine lv_iload hx hb dX7_truthOf_134 (lv_at hl 0 rfl) ?_
                refine lv_if_eq (tgt := 143) hx hb dX7_truthOf_136 rfl (fun _ => ?_) (fun hc => absurd (by decide) hc)
                refine lv_iconst (v := 0) hx hb dX7_truthOf_143 (by decide) ?_
                have hz := Option.some.inj hf
                exact aw_iret C0 hW hz rfl rfl dX7_truthOf_144
              · have hf := iff_ hc hf
                refine lv_iconst (v := 1) hx hb dX7_truthOf_112 (by decide) ?_
                refine lv_goto (tgt := 132) hx hb dX7_truthOf_113 rfl ?_
                refine lv_istore (lv' := [(7, .int 1), (6, .int q5), (3, .int q1), (5, .int q3)]) hx hb dX7_truthOf_132 hl (Nat.le_of_ble_eq_true rfl) rfl (fun ls hl => ?_)
                refine lv_iload hx hb dX7_truthOf_134 (lv_at hl 0 rfl) ?_
                refine lv_if_eq (tgt := 143) hx hb dX7_truthOf_136 rfl (fun hc => absurd hc (by decide)) (fun _ => ?_)
                refine lv_iconst (v := 2) hx hb dX7_truthOf_139 (by decide) ?_
                refine lv_goto (tgt := 144) hx hb dX7_truthOf_140 rfl ?_
                have hz := Option.some.inj hf
                exact aw_iret C0 hW hz rfl rfl dX7_truthOf_144
          · have hf := ift hc hf
            refine lv_iload hx hb dX7_truthOf_84 (lv_at hl 2 rfl) ?_
            refine lv_iload hx hb dX7_truthOf_86 (lv_at hl 0 rfl) ?_
            refine lv_icmp_ne (tgt := 95) hx hb dX7_truthOf_88 rfl (fun hc => ?_) (fun hc => ?_)
            · have hf := iff_ hc hf
              refine lv_iconst (v := 0) hx hb dX7_truthOf_95 (by decide) ?_
              refine lv_goto (tgt := 132) hx hb dX7_truthOf_96 rfl ?_
              refine lv_istore (lv' := [(7, .int 0), (6, .int q5), (3, .int q1), (5, .int q3)]) hx hb dX7_truthOf_132 hl (Nat.le_of_ble_eq_true rfl) rfl (fun ls hl => ?_)
              refine lv_iload hx hb dX7_truthOf_134 (lv_at hl 0 rfl) ?_
              refine lv_if_eq (tgt := 143) hx hb dX7_truthOf_136 rfl (fun _ => ?_) (fun hc => absurd (by decide) hc)
              refine lv_iconst (v := 0) hx hb dX7_truthOf_143 (by decide) ?_
              have hz := Option.some.inj hf
              exact aw_iret C0 hW hz rfl rfl dX7_truthOf_144
            · have hf := ift hc hf
              refine lv_iconst (v := 1) hx hb dX7_truthOf_91 (by decide) ?_
              refine lv_goto (tgt := 132) hx hb dX7_truthOf_92 rfl ?_
              refine lv_istore (lv' := [(7, .int 1), (6, .int q5), (3, .int q1), (5, .int q3)]) hx hb dX7_truthOf_132 hl (Nat.le_of_ble_eq_true rfl) rfl (fun ls hl => ?_)
              refine lv_iload hx hb dX7_truthOf_134 (lv_at hl 0 rfl) ?_
              refine lv_if_eq (tgt := 143) hx hb dX7_truthOf_136 rfl (fun hc => absurd hc (by decide)) (fun _ => ?_)
              refine lv_iconst (v := 2) hx hb dX7_truthOf_139 (by decide) ?_
              refine lv_goto (tgt := 144) hx hb dX7_truthOf_140 rfl ?_
              have hz := Option.some.inj hf
              exact aw_iret C0 hW hz rfl rfl dX7_truthOf_144
        · have hf := ift hc hf
          refine lv_iconst (v := 1) hx hb dX7_truthOf_76 (by decide) ?_
          have hz := Option.some.inj hf
          exact aw_iret C0 hW hz rfl rfl dX7_truthOf_77
    have hf := hq5
    refine lv_if_eq (tgt := 58) hx hb dX7_truthOf_44 rfl (fun hc => ?_) (fun hc => ?_)
    · have hf := ift hc hf
      refine lv_iload_n hx hb dX7_truthOf_58 rfl (lv_at hl 3 rfl) ?_
      obtain ⟨q6, hq6, hf⟩ := bnd hf
      refine aw_cSi (rest := []) C0 hW (c_X7_valueOf x0  hq6) (cw_X7_37 hts ⟨Nat.le_of_ble_eq_true rfl, Nat.le_of_ble_eq_true rfl⟩) rfl hl.1 rfl (Nat.le_of_ble_eq_true rfl) ⟨Nat.zero_le _, Nat.zero_le _⟩ dX7_truthOf_59 (fun H locs hW => ?_)
      have ho := Option.some.inj hf
      subst ho
      exact J62_q5 H locs ls hW (lv_sub hl [2, 0] rfl)
    · have hf := iff_ hc hf
      refine lv_aload_n hx hb dX7_truthOf_47 rfl (lv_at hl 4 rfl) ?_
      refine lv_iload_n hx hb dX7_truthOf_48 rfl (lv_at hl 3 rfl) ?_
      obtain ⟨q7, hq7, hf⟩ := bnd hf
      refine aw_cSi (rest := [.ref (g.2.2 + a1)]) C0 hW (c_X7_otherColumnOf x0  hq7) (cw_X7_34 hts ⟨Nat.le_of_ble_eq_true rfl, Nat.le_of_ble_eq_true rfl⟩) rfl hl.1 rfl (Nat.le_of_ble_eq_true rfl) ⟨Nat.zero_le _, Nat.zero_le _⟩ dX7_truthOf_49 (fun H locs hW => ?_)
      obtain ⟨q8, hq8, hf⟩ := bnd hf
      refine aw_cSi (rest := []) C0 hW (c_X7_cellOf a1 q7 ha1 hq8) (cw_X7_30 hts ⟨Nat.le_of_ble_eq_true rfl, Nat.le_of_ble_eq_true rfl⟩) rfl hl.1 rfl (Nat.le_of_ble_eq_true rfl) ⟨Nat.zero_le _, Nat.zero_le _⟩ dX7_truthOf_52 (fun H locs hW => ?_)
      refine lv_goto (tgt := 62) hx hb dX7_truthOf_55 rfl ?_
      have ho := Option.some.inj hf
      subst ho
      exact J62_q5 H locs ls hW (lv_sub hl [2, 0] rfl)
  · have hf := ift hc hf
    refine lv_iload_n hx hb dX7_truthOf_17 rfl (lv_at hl 4 rfl) ?_
    refine lv_iload hx hb dX7_truthOf_18 (lv_at hl 0 rfl) ?_
    obtain ⟨q9, hq9, hf⟩ := bnd hf
    refine aw_cSNi (rest := []) C0 hW (c_X8_hasBit x2 q2  hq9) (cn_X7_26 hKS hts ⟨Nat.le_of_ble_eq_true rfl, Nat.le_of_ble_eq_true rfl⟩) rfl hl.1 rfl (Nat.le_of_ble_eq_true rfl) ⟨Nat.zero_le _, Nat.zero_le _⟩ dX7_truthOf_20 (fun H locs hW => ?_)
    refine lv_if_eq (tgt := 30) hx hb dX7_truthOf_23 rfl (fun hc => ?_) (fun hc => ?_)
    · have hf := ift hc hf
      refine lv_iconst (v := 0) hx hb dX7_truthOf_30 (by decide) ?_
      have hz := Option.some.inj hf
      exact aw_iret C0 hW hz rfl rfl dX7_truthOf_31
    · have hf := iff_ hc hf
      refine lv_iconst (v := 2) hx hb dX7_truthOf_26 (by decide) ?_
      refine lv_goto (tgt := 31) hx hb dX7_truthOf_27 rfl ?_
      have hz := Option.some.inj hf
      exact aw_iret C0 hW hz rfl rfl dX7_truthOf_31
theorem cw_X1_54 {Rm : Room} {s : State} {args : Array Value} (ht : ∀ w ∈ GT, w.before args s = true) (hR : rmX7_truthOf.frames + 1 ≤ Rm.frames ∧ 8 + (8 + 11) + rmX7_truthOf.locals ≤ Rm.locals) : CallB Rm s args RX1 54 yX7_truthOf cX7_truthOf 8 (some .int) (Cond.code yX7_truthOf cX7_truthOf 8 (some .int) :: GT) rmX7_truthOf 0 0 3 ∧ (Cond.static yX7_truthOf).before args s = true := va_cwS 3 ht (goodS wd115 wd116 wd91 wd117) rfl rfl rfl ⟨by decide +kernel, by decide +kernel, by decide +kernel⟩ hR
theorem cw_X8_351 {Rm : Room} {s : State} {args : Array Value} (ht : ∀ w ∈ GT, w.before args s = true) (hR : rmX7_truthOf.frames + 1 ≤ Rm.frames ∧ 8 + (8 + 11) + rmX7_truthOf.locals ≤ Rm.locals) : CallB Rm s args RX8 351 yX7_truthOf cX7_truthOf 8 (some .int) (Cond.code yX7_truthOf cX7_truthOf 8 (some .int) :: GT) rmX7_truthOf 0 0 3 ∧ (Cond.static yX7_truthOf).before args s = true := va_cwS 3 ht (goodS wd327 wd116 wd91 wd117) rfl rfl rfl ⟨by decide +kernel, by decide +kernel, by decide +kernel⟩ hR
def f_X3_top (p : Nat) (I : Mem) : Option (Int32) :=
  if 0 < (I p 1) then (
    (rd I (p + 1) 64 ((I p 1) - 1)).bind fun v1 =>
    some v1
  ) else (
    some 0
  )
abbrev rmX3_top : Room := { frames := 0, cells := 0, slots := 0, locals := 0 }
set_option maxHeartbeats 4000000 in
set_option maxRecDepth 100000 in
theorem c_X3_top {l : Launch} {g : Gam} {I : Mem} {R : Rem} {P : Pool} {Z : Zed} (p : Nat) (hp : Kd P p = 3) {z : Int32} (hf : f_X3_top p I = some z) : Met l yX3_top (Cond.code yX3_top cX3_top 1 (some .int) :: GT) rmX3_top (va_Pc [.ref (g.2.2 + p)] (PW g I R P Z)) (QI g z I R P Z) 0 0 (AA g) := by
  refine aw_ofW (lv0 := [(0, .ref (g.2.2 + p))]) (by decide) (by exact Nat.le_of_ble_eq_true rfl) (by rfl) (fun p0 e s m args below meth c ls C0 hl hW => ?_)
  have C0 : CX g p0 s m args meth c RX3 cX3_top 1 (some .int) := C0
  have hx := C0.1; have hb := C0.2.1; have hown := C0.2.2.2.2.1; have hts := C0.2.2.2.2.2.1; have hKS := C0.2.2.2.2.2.2.1
  unfold f_X3_top at hf
  obtain ⟨H, hH⟩ : ∃ H, H = s.heap := ⟨_, rfl⟩
  obtain ⟨locs, hlc⟩ : ∃ q : List Loc, q = [] := ⟨_, rfl⟩
  rw [show W p0 l e rmX3_top s m args below meth c s.heap [] 0 0 (MQ below (QI g z I R P Z) args s 0 0 (AA g)) (F0 m 0 ls []) = W p0 l e rmX3_top s m args below meth c H locs 0 0 (MQ below (QI g z I R P Z) args s 0 0 (AA g)) (F0 m 0 ls []) by rw [hH, hlc]]
  have hW : Wd g I R P Z s.heap H locs := by rw [hH, hlc]; exact hW
  refine lv_aload_n hx hb dX3_top_0 rfl (lv_at hl 0 rfl) ?_
  refine aw_get (v := .int (I p 1)) C0 hW (lv_kd hW.1.2.2 hp (by decide)) (cel_3 hp) rfl inG3 1 (by decide) wd15 rfl rfl dX3_top_1 ?_
  refine lv_if_gt (tgt := 11) hx hb dX3_top_4 rfl (fun hc => ?_) (fun hc => ?_)
  · have hf := ift hc hf
    refine lv_aload_n hx hb dX3_top_11 rfl (lv_at hl 0 rfl) ?_
    refine aw_get (v := .ref (g.2.2 + (p + 1))) C0 hW (lv_kd hW.1.2.2 hp (by decide)) (cel_3 hp) rfl inG3 0 (by decide) wd19 rfl rfl dX3_top_12 ?_
    refine lv_aload_n hx hb dX3_top_15 rfl (lv_at hl 0 rfl) ?_
    refine aw_get (v := .int (I p 1)) C0 hW (lv_kd hW.1.2.2 hp (by decide)) (cel_3 hp) rfl inG3 1 (by decide) wd15 rfl rfl dX3_top_16 ?_
    refine lv_iconst (v := 1) hx hb dX3_top_19 (by decide) ?_
    refine lv_isub hx hb dX3_top_20 ?_
    obtain ⟨v1, hv1, hf⟩ := bnd hf
    refine aw_iald C0 hW (pile_k hW.1.2.2 hp).1 (pile_k hW.1.2.2 hp).2 hv1 dX3_top_21 ?_
    have hz := Option.some.inj hf
    exact aw_iret C0 hW hz rfl rfl dX3_top_22
  · have hf := iff_ hc hf
    refine lv_iconst (v := 0) hx hb dX3_top_7 (by decide) ?_
    refine lv_goto (tgt := 22) hx hb dX3_top_8 rfl ?_
    have hz := Option.some.inj hf
    exact aw_iret C0 hW hz rfl rfl dX3_top_22
theorem cw_X1_58 {Rm : Room} {s : State} {args : Array Value} (ht : ∀ w ∈ GT, w.before args s = true) (hR : rmX3_top.frames + 1 ≤ Rm.frames ∧ 8 + (1 + 11) + rmX3_top.locals ≤ Rm.locals) : CallW Rm s args RX1 RX3 58 yX3_top cX3_top 1 (some .int) (Cond.code yX3_top cX3_top 1 (some .int) :: GT) rmX3_top 0 0 0 := cwV 0 ht (goodV wd118 wd119 wd120 wd109 wd121) rfl rfl rfl ⟨rfl, by decide +kernel, by decide +kernel, by decide +kernel⟩ hR
theorem cw_X4_99 {Rm : Room} {s : State} {args : Array Value} (ht : ∀ w ∈ GT, w.before args s = true) (hR : rmX3_top.frames + 1 ≤ Rm.frames ∧ 8 + (1 + 11) + rmX3_top.locals ≤ Rm.locals) : CallW Rm s args RX4 RX3 99 yX3_top cX3_top 1 (some .int) (Cond.code yX3_top cX3_top 1 (some .int) :: GT) rmX3_top 0 0 0 := cwV 0 ht (goodV wd201 wd119 wd120 wd109 wd121) rfl rfl rfl ⟨rfl, by decide +kernel, by decide +kernel, by decide +kernel⟩ hR
theorem cw_X5_88 {Rm : Room} {s : State} {args : Array Value} (ht : ∀ w ∈ GT, w.before args s = true) (hR : rmX3_top.frames + 1 ≤ Rm.frames ∧ 8 + (1 + 11) + rmX3_top.locals ≤ Rm.locals) : CallW Rm s args RX5 RX3 88 yX3_top cX3_top 1 (some .int) (Cond.code yX3_top cX3_top 1 (some .int) :: GT) rmX3_top 0 0 0 := cwV 0 ht (goodV wd234 wd119 wd120 wd109 wd121) rfl rfl rfl ⟨rfl, by decide +kernel, by decide +kernel, by decide +kernel⟩ hR
def f_X1_truthOf_L7 (o1 : Option Nat) (a2 : Nat) (x3 : Int32) (P : Pool) (R : Rem) : Nat → Int32 → Mem → Option (Mem)
  | 0, _, _ => none
  | n + 1, w4, I =>
    o1.bind fun k2 =>
    (f_X2_size k2 P R).bind fun q3 =>
    if q3 ≤ w4 then (
      some I
    ) else (
      o1.bind fun k4 =>
      (f_X2_step k4 w4 P R I).bind fun q5 =>
      (f_X7_signOf q5).bind fun q6 =>
      if q6 = 33 then (
        (f_X3_pop 12 I).bind fun q7 =>
        (f_X3_push 12 (2 - q7.1) P q7.2).bind fun q8 =>
        f_X1_truthOf_L7 o1 a2 x3 P R n (w4 + 1) q8
      ) else (
      if q6 = 38 then (
        (f_X3_pop 12 I).bind fun q9 =>
        (f_X3_pop 12 q9.2).bind fun q10 =>
        (f_X3_push 12 (jmin q9.1 q10.1) P q10.2).bind fun q11 =>
        f_X1_truthOf_L7 o1 a2 x3 P R n (w4 + 1) q11
      ) else (
      if q6 = 124 then (
        (f_X3_pop 12 I).bind fun q12 =>
        (f_X3_pop 12 q12.2).bind fun q13 =>
        (f_X3_push 12 (jmax q12.1 q13.1) P q13.2).bind fun q14 =>
        f_X1_truthOf_L7 o1 a2 x3 P R n (w4 + 1) q14
      ) else (
        (f_X7_truthOf q5 a2 x3 P I).bind fun q15 =>
        (f_X3_push 12 q15 P I).bind fun q16 =>
        f_X1_truthOf_L7 o1 a2 x3 P R n (w4 + 1) q16
      )))
    )
def f_X1_truthOf (o1 : Option Nat) (a2 : Nat) (x3 : Int32) (P : Pool) (R : Rem) (I : Mem) : Option (Int32 × Mem) :=
  (f_X1_start I).bind fun q1 =>
  (f_X1_truthOf_L7 o1 a2 x3 P R fuel 0 q1).bind fun q17 =>
  (f_X3_top 12 q17).bind fun q18 =>
  some (q18, q17)
abbrev rmX1_truthOf : Room := { frames := 2, cells := 0, slots := 0, locals := 48 }
set_option maxHeartbeats 4000000 in
set_option maxRecDepth 100000 in
theorem c_X1_truthOf {l : Launch} {g : Gam} {I : Mem} {R : Rem} {P : Pool} {Z : Zed} (o1 : Option Nat) (a2 : Nat) (x3 : Int32) (ho1 : ∀ k, o1 = some k → Kd P k = 2) (ha2 : Kd P a2 = 10) {z : Int32 × Mem} (hf : f_X1_truthOf o1 a2 x3 P R I = some z) : Met l yX1_truthOf (Cond.code yX1_truthOf cX1_truthOf 6 (some .int) :: GT) rmX1_truthOf (va_Pc [.ref (g.2.2 + 11), va_rf (o1.map (fun y => g.2.2 + y)), .ref (g.2.2 + a2), .int x3] (PW g I R P Z)) (QI g z.1 z.2 R P Z) 0 0 (AA g) := by
  refine aw_ofW (lv0 := [(0, .ref (g.2.2 + 11)), (1, va_rf (o1.map (fun y => g.2.2 + y))), (2, .ref (g.2.2 + a2)), (3, .int x3)]) (by decide) (by cases o1 <;> exact Nat.le_of_ble_eq_true rfl) (by cases o1 <;> rfl) (fun p0 e s m args below meth c ls C0 hl hW => ?_)
  have C0 : CX g p0 s m args meth c RX1 cX1_truthOf 6 (some .int) := C0
  have hx := C0.1; have hb := C0.2.1; have hown := C0.2.2.2.2.1; have hts := C0.2.2.2.2.2.1; have hKS := C0.2.2.2.2.2.2.1
  have L7 : ∀ (R : Rem) (n : Nat) (w4 : Int32) (I : Mem) (H : Heap) (locs : List Loc) (ls : Array Slot) (o : Mem), f_X1_truthOf_L7 o1 a2 x3 P R n w4 I = some o → Wd g I R P Z s.heap H locs → lv_has ls 6 [(0, .ref (g.2.2 + 11)), (1, va_rf (o1.map (fun y => g.2.2 + y))), (2, .ref (g.2.2 + a2)), (3, .int x3), (4, .int w4)] → (∀ (H : Heap) (locs : List Loc) (ls : Array Slot), Wd g o R P Z s.heap H locs → lv_has ls 6 [(0, .ref (g.2.2 + 11))] → W p0 l e rmX1_truthOf s m args below meth c H locs 0 0 (MQ below (QI g z.1 z.2 R P Z) args s 0 0 (AA g)) (F0 m 157 ls [])) → W p0 l e rmX1_truthOf s m args below meth c H locs 0 0 (MQ below (QI g z.1 z.2 R P Z) args s 0 0 (AA g)) (F0 m 7 ls []) := by
    intro R n
    induction n with
    | zero => intro w4 I H locs ls o hf; cases hf
    | succ n ih =>
      intro w4 I H locs ls o hf hW hl hK
      rw [f_X1_truthOf_L7] at hf
      refine lv_iload hx hb dX1_truthOf_7 (lv_at hl 4 rfl) ?_
      refine aw_ald_n (x := o1) C0 dX1_truthOf_9 rfl (lv_at hl 1 rfl) ?_
      obtain ⟨k2, ek2, hf⟩ := bnd hf
      have hk2 := ho1 k2 ek2
      refine W.eq (g2 := F0 m 10 ls ([.ref (g.2.2 + k2), .int w4])) (by rw [ek2]; rfl) ?_
      obtain ⟨q3, hq3, hf⟩ := bnd hf
      refine aw_cVi (rest := [.int w4]) C0 hW (lv_kd hW.1.2.2 hk2 (by decide)) (cel_2 hk2) rfl (c_X2_size k2 hk2 hq3) (cw_X1_22 hts ⟨Nat.le_of_ble_eq_true rfl, Nat.le_of_ble_eq_true rfl⟩) rfl hl.1 rfl (Nat.le_of_ble_eq_true rfl) ⟨Nat.zero_le _, Nat.zero_le _⟩ dX1_truthOf_10 (fun H locs hW => ?_)
      refine lv_icmp_ge (tgt := 157) hx hb dX1_truthOf_13 rfl (fun hc => ?_) (fun hc => ?_)
      · have hf := ift hc hf
        have ho := Option.some.inj hf
        subst ho
        exact hK H locs ls hW (lv_sub hl [0] rfl)
      · have hf := iff_ hc hf
        refine aw_ald_n (x := o1) C0 dX1_truthOf_16 rfl (lv_at hl 1 rfl) ?_
        refine lv_iload hx hb dX1_truthOf_17 (lv_at hl 4 rfl) ?_
        obtain ⟨k4, ek4, hf⟩ := bnd hf
        have hk4 := ho1 k4 ek4
        refine W.eq (g2 := F0 m 19 ls ([.int w4, .ref (g.2.2 + k4)])) (by rw [ek4]; rfl) ?_
        obtain ⟨q5, hq5, hf⟩ := bnd hf
        refine aw_cVi (rest := []) C0 hW (lv_kd hW.1.2.2 hk4 (by decide)) (cel_2 hk4) rfl (c_X2_step k4 w4 hk4 hq5) (cw_X1_28 hts ⟨Nat.le_of_ble_eq_true rfl, Nat.le_of_ble_eq_true rfl⟩) rfl hl.1 rfl (Nat.le_of_ble_eq_true rfl) ⟨Nat.zero_le _, Nat.zero_le _⟩ dX1_truthOf_19 (fun H locs hW => ?_)
        refine lv_istore (lv' := [(5, .int q5), (0, .ref (g.2.2 + 11)), (1, va_rf (o1.map (fun y => g.2.2 + y))), (2, .ref (g.2.2 + a2)), (3, .int x3), (4, .int w4)]) hx hb dX1_truthOf_22 hl (Nat.le_of_ble_eq_true rfl) rfl (fun ls hl => ?_)
        refine lv_iload hx hb dX1_truthOf_24 (lv_at hl 0 rfl) ?_
        obtain ⟨q6, hq6, hf⟩ := bnd hf
        refine aw_cSi (rest := []) C0 hW (c_X7_signOf q5  hq6) (cw_X1_32 hts ⟨Nat.le_of_ble_eq_true rfl, Nat.le_of_ble_eq_true rfl⟩) rfl hl.1 rfl (Nat.le_of_ble_eq_true rfl) ⟨Nat.zero_le _, Nat.zero_le _⟩ dX1_truthOf_26 (fun H locs hW => ?_)
        by_cases hs1 : q6 = 33
        · have hf := ift hs1 hf
          refine lv_lookup (off := 35) (tgt := 64) hx hb dX1_truthOf_29 (by decide) (by rw [hs1]; decide) rfl ?_
          refine lv_aload_n hx hb dX1_truthOf_64 rfl (lv_at hl 1 rfl) ?_
          refine aw_get (v := .ref (g.2.2 + 12)) C0 hW (lv_fix (by decide)) (cel_1 kd11) rfl inG1 0 (by decide) wd16 rfl rfl dX1_truthOf_65 ?_
          refine lv_iconst (v := 2) hx hb dX1_truthOf_68 (by decide) ?_
          refine lv_aload_n hx hb dX1_truthOf_69 rfl (lv_at hl 1 rfl) ?_
          refine aw_get (v := .ref (g.2.2 + 12)) C0 hW (lv_fix (by decide)) (cel_1 kd11) rfl inG1 0 (by decide) wd16 rfl rfl dX1_truthOf_70 ?_
          obtain ⟨q7, hq7, hf⟩ := bnd hf
          refine aw_cVi (rest := [.int 2, .ref (g.2.2 + 12)]) C0 hW (lv_fix (by decide)) (cel_3 kd12) rfl (c_X3_pop 12 kd12 hq7) (cw_X1_38 hts ⟨Nat.le_of_ble_eq_true rfl, Nat.le_of_ble_eq_true rfl⟩) rfl hl.1 rfl (Nat.le_of_ble_eq_true rfl) ⟨Nat.zero_le _, Nat.zero_le _⟩ dX1_truthOf_73 (fun H locs hW => ?_)
          refine lv_isub hx hb dX1_truthOf_76 ?_
          obtain ⟨q8, hq8, hf⟩ := bnd hf
          refine aw_cVv (rest := []) C0 hW (lv_fix (by decide)) (cel_3 kd12) rfl (c_X3_push 12 (2 - q7.1) kd12 hq8) (cw_X1_41 hts ⟨Nat.le_of_ble_eq_true rfl, Nat.le_of_ble_eq_true rfl⟩) rfl hl.1 rfl (Nat.le_of_ble_eq_true rfl) ⟨Nat.zero_le _, Nat.zero_le _⟩ dX1_truthOf_77 (fun H locs hW => ?_)
          refine lv_goto (tgt := 151) hx hb dX1_truthOf_80 rfl ?_
          refine lv_iinc (k := 5) (v := w4 + 1) (lv' := [(4, .int (w4 + 1)), (5, .int q5), (0, .ref (g.2.2 + 11)), (1, va_rf (o1.map (fun y => g.2.2 + y))), (2, .ref (g.2.2 + a2)), (3, .int x3)]) hx hb dX1_truthOf_151 hl rfl (congrArg (fun t => w4 + t) (by decide : Int32.ofInt 1 = 1)) (Nat.le_of_ble_eq_true rfl) rfl (fun ls hl => ?_)
          refine lv_goto (tgt := 7) hx hb dX1_truthOf_154 rfl ?_
          exact ih _ _ H locs ls o hf hW (lv_sub hl [2, 3, 4, 5, 0] rfl) hK
        have hf := iff_ hs1 hf
        by_cases hs2 : q6 = 38
        · have hf := ift hs2 hf
          refine lv_lookup (off := 54) (tgt := 83) hx hb dX1_truthOf_29 (by decide) (by rw [hs2]; decide) rfl ?_
          refine lv_aload_n hx hb dX1_truthOf_83 rfl (lv_at hl 1 rfl) ?_
          refine aw_get (v := .ref (g.2.2 + 12)) C0 hW (lv_fix (by decide)) (cel_1 kd11) rfl inG1 0 (by decide) wd16 rfl rfl dX1_truthOf_84 ?_
          refine lv_aload_n hx hb dX1_truthOf_87 rfl (lv_at hl 1 rfl) ?_
          refine aw_get (v := .ref (g.2.2 + 12)) C0 hW (lv_fix (by decide)) (cel_1 kd11) rfl inG1 0 (by decide) wd16 rfl rfl dX1_truthOf_88 ?_
          obtain ⟨q9, hq9, hf⟩ := bnd hf
          refine aw_cVi (rest := [.ref (g.2.2 + 12)]) C0 hW (lv_fix (by decide)) (cel_3 kd12) rfl (c_X3_pop 12 kd12 hq9) (cw_X1_38 hts ⟨Nat.le_of_ble_eq_true rfl, Nat.le_of_ble_eq_true rfl⟩) rfl hl.1 rfl (Nat.le_of_ble_eq_true rfl) ⟨Nat.zero_le _, Nat.zero_le _⟩ dX1_truthOf_91 (fun H locs hW => ?_)
          refine lv_aload_n hx hb dX1_truthOf_94 rfl (lv_at hl 1 rfl) ?_
          refine aw_get (v := .ref (g.2.2 + 12)) C0 hW (lv_fix (by decide)) (cel_1 kd11) rfl inG1 0 (by decide) wd16 rfl rfl dX1_truthOf_95 ?_
          obtain ⟨q10, hq10, hf⟩ := bnd hf
          refine aw_cVi (rest := [.int q9.1, .ref (g.2.2 + 12)]) C0 hW (lv_fix (by decide)) (cel_3 kd12) rfl (c_X3_pop 12 kd12 hq10) (cw_X1_38 hts ⟨Nat.le_of_ble_eq_true rfl, Nat.le_of_ble_eq_true rfl⟩) rfl hl.1 rfl (Nat.le_of_ble_eq_true rfl) ⟨Nat.zero_le _, Nat.zero_le _⟩ dX1_truthOf_98 (fun H locs hW => ?_)
          refine aw_jmin (rest := [.ref (g.2.2 + 12)]) C0 hl.1 wd20 wd21 wd22 wd23 (Nat.le_of_ble_eq_true rfl) (Nat.le_of_ble_eq_true rfl) (Nat.zero_le _) (Nat.zero_le _) dX1_truthOf_101 ?_
          obtain ⟨q11, hq11, hf⟩ := bnd hf
          refine aw_cVv (rest := []) C0 hW (lv_fix (by decide)) (cel_3 kd12) rfl (c_X3_push 12 (jmin q9.1 q10.1) kd12 hq11) (cw_X1_41 hts ⟨Nat.le_of_ble_eq_true rfl, Nat.le_of_ble_eq_true rfl⟩) rfl hl.1 rfl (Nat.le_of_ble_eq_true rfl) ⟨Nat.zero_le _, Nat.zero_le _⟩ dX1_truthOf_104 (fun H locs hW => ?_)
          refine lv_goto (tgt := 151) hx hb dX1_truthOf_107 rfl ?_
          refine lv_iinc (k := 5) (v := w4 + 1) (lv' := [(4, .int (w4 + 1)), (5, .int q5), (0, .ref (g.2.2 + 11)), (1, va_rf (o1.map (fun y => g.2.2 + y))), (2, .ref (g.2.2 + a2)), (3, .int x3)]) hx hb dX1_truthOf_151 hl rfl (congrArg (fun t => w4 + t) (by decide : Int32.ofInt 1 = 1)) (Nat.le_of_ble_eq_true rfl) rfl (fun ls hl => ?_)
          refine lv_goto (tgt := 7) hx hb dX1_truthOf_154 rfl ?_
          exact ih _ _ H locs ls o hf hW (lv_sub hl [2, 3, 4, 5, 0] rfl) hK
        have hf := iff_ hs2 hf
        by_cases hs3 : q6 = 124
        · have hf := ift hs3 hf
          refine lv_lookup (off := 81) (tgt := 110) hx hb dX1_truthOf_29 (by decide) (by rw [hs3]; decide) rfl ?_
          refine lv_aload_n hx hb dX1_truthOf_110 rfl (lv_at hl 1 rfl) ?_
          refine aw_get (v := .ref (g.2.2 + 12)) C0 hW (lv_fix (by decide)) (cel_1 kd11) rfl inG1 0 (by decide) wd16 rfl rfl dX1_truthOf_111 ?_
          refine lv_aload_n hx hb dX1_truthOf_114 rfl (lv_at hl 1 rfl) ?_
          refine aw_get (v := .ref (g.2.2 + 12)) C0 hW (lv_fix (by decide)) (cel_1 kd11) rfl inG1 0 (by decide) wd16 rfl rfl dX1_truthOf_115 ?_
          obtain ⟨q12, hq12, hf⟩ := bnd hf
          refine aw_cVi (rest := [.ref (g.2.2 + 12)]) C0 hW (lv_fix (by decide)) (cel_3 kd12) rfl (c_X3_pop 12 kd12 hq12) (cw_X1_38 hts ⟨Nat.le_of_ble_eq_true rfl, Nat.le_of_ble_eq_true rfl⟩) rfl hl.1 rfl (Nat.le_of_ble_eq_true rfl) ⟨Nat.zero_le _, Nat.zero_le _⟩ dX1_truthOf_118 (fun H locs hW => ?_)
          refine lv_aload_n hx hb dX1_truthOf_121 rfl (lv_at hl 1 rfl) ?_
          refine aw_get (v := .ref (g.2.2 + 12)) C0 hW (lv_fix (by decide)) (cel_1 kd11) rfl inG1 0 (by decide) wd16 rfl rfl dX1_truthOf_122 ?_
          obtain ⟨q13, hq13, hf⟩ := bnd hf
          refine aw_cVi (rest := [.int q12.1, .ref (g.2.2 + 12)]) C0 hW (lv_fix (by decide)) (cel_3 kd12) rfl (c_X3_pop 12 kd12 hq13) (cw_X1_38 hts ⟨Nat.le_of_ble_eq_true rfl, Nat.le_of_ble_eq_true rfl⟩) rfl hl.1 rfl (Nat.le_of_ble_eq_true rfl) ⟨Nat.zero_le _, Nat.zero_le _⟩ dX1_truthOf_125 (fun H locs hW => ?_)
          refine aw_jmax (rest := [.ref (g.2.2 + 12)]) C0 hl.1 wd24 wd25 wd22 wd26 (Nat.le_of_ble_eq_true rfl) (Nat.le_of_ble_eq_true rfl) (Nat.zero_le _) (Nat.zero_le _) dX1_truthOf_128 ?_
          obtain ⟨q14, hq14, hf⟩ := bnd hf
          refine aw_cVv (rest := []) C0 hW (lv_fix (by decide)) (cel_3 kd12) rfl (c_X3_push 12 (jmax q12.1 q13.1) kd12 hq14) (cw_X1_41 hts ⟨Nat.le_of_ble_eq_true rfl, Nat.le_of_ble_eq_true rfl⟩) rfl hl.1 rfl (Nat.le_of_ble_eq_true rfl) ⟨Nat.zero_le _, Nat.zero_le _⟩ dX1_truthOf_131 (fun H locs hW => ?_)
          refine lv_goto (tgt := 151) hx hb dX1_truthOf_134 rfl ?_
          refine lv_iinc (k := 5) (v := w4 + 1) (lv' := [(4, .int (w4 + 1)), (5, .int q5), (0, .ref (g.2.2 + 11)), (1, va_rf (o1.map (fun y => g.2.2 + y))), (2, .ref (g.2.2 + a2)), (3, .int x3)]) hx hb dX1_truthOf_151 hl rfl (congrArg (fun t => w4 + t) (by decide : Int32.ofInt 1 = 1)) (Nat.le_of_ble_eq_true rfl) rfl (fun ls hl => ?_)
          refine lv_goto (tgt := 7) hx hb dX1_truthOf_154 rfl ?_
          exact ih _ _ H locs ls o hf hW (lv_sub hl [2, 3, 4, 5, 0] rfl) hK
        have hf := iff_ hs3 hf
        refine lv_lookup (off := 108) (tgt := 137) hx hb dX1_truthOf_29 (by decide) (lko_c (i32_ne (n := 33) (by decide) hs1) (lko_c (i32_ne (n := 38) (by decide) hs2) (lko_c (i32_ne (n := 124) (by decide) hs3) rfl))) rfl ?_
        refine lv_aload_n hx hb dX1_truthOf_137 rfl (lv_at hl 1 rfl) ?_
        refine aw_get (v := .ref (g.2.2 + 12)) C0 hW (lv_fix (by decide)) (cel_1 kd11) rfl inG1 0 (by decide) wd16 rfl rfl dX1_truthOf_138 ?_
        refine lv_iload hx hb dX1_truthOf_141 (lv_at hl 0 rfl) ?_
        refine lv_aload_n hx hb dX1_truthOf_143 rfl (lv_at hl 3 rfl) ?_
        refine lv_iload_n hx hb dX1_truthOf_144 rfl (lv_at hl 4 rfl) ?_
        obtain ⟨q15, hq15, hf⟩ := bnd hf
        refine aw_cSi (rest := [.ref (g.2.2 + 12)]) C0 hW (c_X7_truthOf q5 a2 x3 ha2 hq15) (cw_X1_54 hts ⟨Nat.le_of_ble_eq_true rfl, Nat.le_of_ble_eq_true rfl⟩) rfl hl.1 rfl (Nat.le_of_ble_eq_true rfl) ⟨Nat.zero_le _, Nat.zero_le _⟩ dX1_truthOf_145 (fun H locs hW => ?_)
        obtain ⟨q16, hq16, hf⟩ := bnd hf
        refine aw_cVv (rest := []) C0 hW (lv_fix (by decide)) (cel_3 kd12) rfl (c_X3_push 12 q15 kd12 hq16) (cw_X1_41 hts ⟨Nat.le_of_ble_eq_true rfl, Nat.le_of_ble_eq_true rfl⟩) rfl hl.1 rfl (Nat.le_of_ble_eq_true rfl) ⟨Nat.zero_le _, Nat.zero_le _⟩ dX1_truthOf_148 (fun H locs hW => ?_)
        refine lv_iinc (k := 5) (v := w4 + 1) (lv' := [(4, .int (w4 + 1)), (5, .int q5), (0, .ref (g.2.2 + 11)), (1, va_rf (o1.map (fun y => g.2.2 + y))), (2, .ref (g.2.2 + a2)), (3, .int x3)]) hx hb dX1_truthOf_151 hl rfl (congrArg (fun t => w4 + t) (by decide : Int32.ofInt 1 = 1)) (Nat.le_of_ble_eq_true rfl) rfl (fun ls hl => ?_)
        refine lv_goto (tgt := 7) hx hb dX1_truthOf_154 rfl ?_
        exact ih _ _ H locs ls o hf hW (lv_sub hl [2, 3, 4, 5, 0] rfl) hK
  unfold f_X1_truthOf at hf
  obtain ⟨H, hH⟩ : ∃ H, H = s.heap := ⟨_, rfl⟩
  obtain ⟨locs, hlc⟩ : ∃ q : List Loc, q = [] := ⟨_, rfl⟩
  rw [show W p0 l e rmX1_truthOf s m args below meth c s.heap [] 0 0 (MQ below (QI g z.1 z.2 R P Z) args s 0 0 (AA g)) (F0 m 0 ls []) = W p0 l e rmX1_truthOf s m args below meth c H locs 0 0 (MQ below (QI g z.1 z.2 R P Z) args s 0 0 (AA g)) (F0 m 0 ls []) by rw [hH, hlc]]
  have hW : Wd g I R P Z s.heap H locs := by rw [hH, hlc]; exact hW
  refine lv_aload_n hx hb dX1_truthOf_0 rfl (lv_at hl 0 rfl) ?_
  obtain ⟨q1, hq1, hf⟩ := bnd hf
  refine aw_cVv (rest := []) C0 hW (lv_fix (by decide)) (cel_1 kd11) rfl (c_X1_start  hq1) (cw_X1_19 hts ⟨Nat.le_of_ble_eq_true rfl, Nat.le_of_ble_eq_true rfl⟩) rfl hl.1 rfl (Nat.le_of_ble_eq_true rfl) ⟨Nat.zero_le _, Nat.zero_le _⟩ dX1_truthOf_1 (fun H locs hW => ?_)
  refine lv_iconst (v := 0) hx hb dX1_truthOf_4 (by decide) ?_
  refine lv_istore (lv' := [(4, .int 0), (0, .ref (g.2.2 + 11)), (1, va_rf (o1.map (fun y => g.2.2 + y))), (2, .ref (g.2.2 + a2)), (3, .int x3)]) hx hb dX1_truthOf_5 hl (Nat.le_of_ble_eq_true rfl) rfl (fun ls hl => ?_)
  obtain ⟨q17, hq17, hf⟩ := bnd hf
  refine L7 R fuel 0 q1 H locs ls _ hq17 hW (lv_sub hl [1, 2, 3, 4, 0] rfl) (fun H locs ls hW hl => ?_)
  refine lv_aload_n hx hb dX1_truthOf_157 rfl (lv_at hl 0 rfl) ?_
  refine aw_get (v := .ref (g.2.2 + 12)) C0 hW (lv_fix (by decide)) (cel_1 kd11) rfl inG1 0 (by decide) wd16 rfl rfl dX1_truthOf_158 ?_
  obtain ⟨q18, hq18, hf⟩ := bnd hf
  refine aw_cVi (rest := []) C0 hW (lv_fix (by decide)) (cel_3 kd12) rfl (c_X3_top 12 kd12 hq18) (cw_X1_58 hts ⟨Nat.le_of_ble_eq_true rfl, Nat.le_of_ble_eq_true rfl⟩) rfl hl.1 rfl (Nat.le_of_ble_eq_true rfl) ⟨Nat.zero_le _, Nat.zero_le _⟩ dX1_truthOf_161 (fun H locs hW => ?_)
  have hz := Option.some.inj hf
  have hzV := congrArg (fun z : Int32 × Mem => z.1) hz
  have hzI := congrArg (fun z : Int32 × Mem => z.2) hz
  exact aw_iret C0 hW hzV hzI rfl dX1_truthOf_164
theorem cw_X8_318 {Rm : Room} {s : State} {args : Array Value} (ht : ∀ w ∈ GT, w.before args s = true) (hR : rmX1_truthOf.frames + 1 ≤ Rm.frames ∧ 8 + (6 + 11) + rmX1_truthOf.locals ≤ Rm.locals) : CallW Rm s args RX8 RX1 318 yX1_truthOf cX1_truthOf 6 (some .int) (Cond.code yX1_truthOf cX1_truthOf 6 (some .int) :: GT) rmX1_truthOf 0 0 3 := cwV 3 ht (goodV wd303 wd304 wd305 wd99 wd306) rfl rfl rfl ⟨rfl, by decide +kernel, by decide +kernel, by decide +kernel⟩ hR
def f_X8_rowViolates (o1 : Option Nat) (P : Pool) (R : Rem) (I : Mem) : Option (Int32 × Mem) :=
  oq o1 (
    some (0, I)
  ) fun k1 => (
    (f_X8_unknownsOf 10 P I).bind fun q2 =>
    (f_X1_truthOf ((some k1)) 10 q2 P R I).bind fun q3 =>
    if q3.1 = 0 then (
      some (1, q3.2)
    ) else (
      some (0, q3.2)
    )
  )
abbrev rmX8_rowViolates : Room := { frames := 3, cells := 0, slots := 0, locals := 73 }
set_option maxHeartbeats 4000000 in
set_option maxRecDepth 100000 in
theorem c_X8_rowViolates {l : Launch} {g : Gam} {I : Mem} {R : Rem} {P : Pool} {Z : Zed} (o1 : Option Nat) (ho1 : ∀ k, o1 = some k → Kd P k = 2) {z : Int32 × Mem} (hf : f_X8_rowViolates o1 P R I = some z) : Met l yX8_rowViolates (Cond.code yX8_rowViolates cX8_rowViolates 2 (some .boolean) :: GT) rmX8_rowViolates (va_Pc [.ref (g.2.2 + 0), va_rf (o1.map (fun y => g.2.2 + y))] (PW g I R P Z)) (QI g z.1 z.2 R P Z) 0 0 (AA g) := by
  refine aw_ofW (lv0 := [(0, .ref (g.2.2 + 0)), (1, va_rf (o1.map (fun y => g.2.2 + y)))]) (by decide) (by cases o1 <;> exact Nat.le_of_ble_eq_true rfl) (by cases o1 <;> rfl) (fun p0 e s m args below meth c ls C0 hl hW => ?_)
  have C0 : CX g p0 s m args meth c RX8 cX8_rowViolates 2 (some .boolean) := C0
  have hx := C0.1; have hb := C0.2.1; have hown := C0.2.2.2.2.1; have hts := C0.2.2.2.2.2.1; have hKS := C0.2.2.2.2.2.2.1
  unfold f_X8_rowViolates at hf
  obtain ⟨H, hH⟩ : ∃ H, H = s.heap := ⟨_, rfl⟩
  obtain ⟨locs, hlc⟩ : ∃ q : List Loc, q = [] := ⟨_, rfl⟩
  rw [show W p0 l e rmX8_rowViolates s m args below meth c s.heap [] 0 0 (MQ below (QI g z.1 z.2 R P Z) args s 0 0 (AA g)) (F0 m 0 ls []) = W p0 l e rmX8_rowViolates s m args below meth c H locs 0 0 (MQ below (QI g z.1 z.2 R P Z) args s 0 0 (AA g)) (F0 m 0 ls []) by rw [hH, hlc]]
  have hW : Wd g I R P Z s.heap H locs := by rw [hH, hlc]; exact hW
  refine aw_ald_n (x := o1) C0 dX8_rowViolates_0 rfl (lv_at hl 1 rfl) ?_
  rcases hkk1 : o1 with _ | k1
  · rw [hkk1] at hf
    have hf := (oq_n.symm.trans hf)
    have hl : lv_has ls 2 [(0, .ref (g.2.2 + 0)), (1, va_rf (((none : Option Nat)).map (fun y => g.2.2 + y)))] := by first | exact hl | (rw [hkk1] at hl; exact hl)
    refine W.eq (g2 := F0 m 1 ls ([.null])) (by first | rfl | (rw [hkk1]; rfl)) ?_
    refine lv_ifnullN (tgt := 30) hx hb dX8_rowViolates_1 rfl ?_
    refine lv_iconst (v := 0) hx hb dX8_rowViolates_30 (by decide) ?_
    have hz := Option.some.inj hf
    have hzV := congrArg (fun z : Int32 × Mem => z.1) hz
    have hzI := congrArg (fun z : Int32 × Mem => z.2) hz
    exact aw_zret C0 hW rfl hzV hzI rfl dX8_rowViolates_31
  · rw [hkk1] at hf
    have hf := (oq_s.symm.trans hf)
    have hk1 := ho1 k1 hkk1
    have hl : lv_has ls 2 [(0, .ref (g.2.2 + 0)), (1, .ref (g.2.2 + k1))] := by first | exact hl | (rw [hkk1] at hl; exact hl)
    refine W.eq (g2 := F0 m 1 ls ([.ref (g.2.2 + k1)])) (by first | rfl | (rw [hkk1]; rfl)) ?_
    refine lv_ifnull hx hb dX8_rowViolates_1 ?_
    refine lv_aload_n hx hb dX8_rowViolates_4 rfl (lv_at hl 0 rfl) ?_
    refine aw_get (v := .ref (g.2.2 + 11)) C0 hW (lv_fix (by decide)) (cel_7 kd0) rfl inG7 8 (by decide) wd27 rfl rfl dX8_rowViolates_5 ?_
    refine lv_aload_n hx hb dX8_rowViolates_8 rfl (lv_at hl 1 rfl) ?_
    refine lv_aload_n hx hb dX8_rowViolates_9 rfl (lv_at hl 0 rfl) ?_
    refine aw_get (v := .ref (g.2.2 + 10)) C0 hW (lv_fix (by decide)) (cel_7 kd0) rfl inG7 7 (by decide) wd28 rfl rfl dX8_rowViolates_10 ?_
    refine lv_aload_n hx hb dX8_rowViolates_13 rfl (lv_at hl 0 rfl) ?_
    refine aw_get (v := .ref (g.2.2 + 10)) C0 hW (lv_fix (by decide)) (cel_7 kd0) rfl inG7 7 (by decide) wd28 rfl rfl dX8_rowViolates_14 ?_
    obtain ⟨q2, hq2, hf⟩ := bnd hf
    refine aw_cSi (rest := [.ref (g.2.2 + 10), .ref (g.2.2 + k1), .ref (g.2.2 + 11)]) C0 hW (c_X8_unknownsOf 10 kd10 hq2) (cw_X8_261 hts ⟨Nat.le_of_ble_eq_true rfl, Nat.le_of_ble_eq_true rfl⟩) rfl hl.1 rfl (Nat.le_of_ble_eq_true rfl) ⟨Nat.zero_le _, Nat.zero_le _⟩ dX8_rowViolates_17 (fun H locs hW => ?_)
    obtain ⟨q3, hq3, hf⟩ := bnd hf
    refine aw_cVi (rest := []) C0 hW (lv_fix (by decide)) (cel_1 kd11) rfl (c_X1_truthOf ((some k1)) 10 q2 (fun k h => by cases h; exact hk1) kd10 hq3) (cw_X8_318 hts ⟨Nat.le_of_ble_eq_true rfl, Nat.le_of_ble_eq_true rfl⟩) rfl hl.1 rfl (Nat.le_of_ble_eq_true rfl) ⟨Nat.zero_le _, Nat.zero_le _⟩ dX8_rowViolates_20 (fun H locs hW => ?_)
    refine lv_if_ne (tgt := 30) hx hb dX8_rowViolates_23 rfl (fun hc => ?_) (fun hc => ?_)
    · have hf := iff_ hc hf
      refine lv_iconst (v := 0) hx hb dX8_rowViolates_30 (by decide) ?_
      have hz := Option.some.inj hf
      have hzV := congrArg (fun z : Int32 × Mem => z.1) hz
      have hzI := congrArg (fun z : Int32 × Mem => z.2) hz
      exact aw_zret C0 hW rfl hzV hzI rfl dX8_rowViolates_31
    · have hf := ift hc hf
      refine lv_iconst (v := 1) hx hb dX8_rowViolates_26 (by decide) ?_
      refine lv_goto (tgt := 31) hx hb dX8_rowViolates_27 rfl ?_
      have hz := Option.some.inj hf
      have hzV := congrArg (fun z : Int32 × Mem => z.1) hz
      have hzI := congrArg (fun z : Int32 × Mem => z.2) hz
      exact aw_zret C0 hW rfl hzV hzI rfl dX8_rowViolates_31
theorem cw_X8_94 {Rm : Room} {s : State} {args : Array Value} (ht : ∀ w ∈ GT, w.before args s = true) (hR : rmX8_rowViolates.frames + 1 ≤ Rm.frames ∧ 8 + (2 + 11) + rmX8_rowViolates.locals ≤ Rm.locals) : CallW Rm s args RX8 RX8 94 yX8_rowViolates cX8_rowViolates 2 (some .boolean) (Cond.code yX8_rowViolates cX8_rowViolates 2 (some .boolean) :: GT) rmX8_rowViolates 0 0 1 := cwV 1 ht (goodV wd340 wd341 wd342 wd243 wd343) rfl rfl rfl ⟨rfl, by decide +kernel, by decide +kernel, by decide +kernel⟩ hR
def f_X8_refuse (I : Mem) : Option (Int32 × Mem) :=
  some ((-2), (up I 1 4 ((I 1 4) + 1)))
abbrev rmX8_refuse : Room := { frames := 0, cells := 0, slots := 0, locals := 0 }
set_option maxHeartbeats 4000000 in
set_option maxRecDepth 100000 in
theorem c_X8_refuse {l : Launch} {g : Gam} {I : Mem} {R : Rem} {P : Pool} {Z : Zed}   {z : Int32 × Mem} (hf : f_X8_refuse I = some z) : Met l yX8_refuse (Cond.code yX8_refuse cX8_refuse 1 (some .int) :: GT) rmX8_refuse (va_Pc [.ref (g.2.2 + 0)] (PW g I R P Z)) (QI g z.1 z.2 R P Z) 0 0 (AA g) := by
  refine aw_ofW (lv0 := [(0, .ref (g.2.2 + 0))]) (by decide) (by exact Nat.le_of_ble_eq_true rfl) (by rfl) (fun p0 e s m args below meth c ls C0 hl hW => ?_)
  have C0 : CX g p0 s m args meth c RX8 cX8_refuse 1 (some .int) := C0
  have hx := C0.1; have hb := C0.2.1; have hown := C0.2.2.2.2.1; have hts := C0.2.2.2.2.2.1; have hKS := C0.2.2.2.2.2.2.1
  unfold f_X8_refuse at hf
  obtain ⟨H, hH⟩ : ∃ H, H = s.heap := ⟨_, rfl⟩
  obtain ⟨locs, hlc⟩ : ∃ q : List Loc, q = [] := ⟨_, rfl⟩
  rw [show W p0 l e rmX8_refuse s m args below meth c s.heap [] 0 0 (MQ below (QI g z.1 z.2 R P Z) args s 0 0 (AA g)) (F0 m 0 ls []) = W p0 l e rmX8_refuse s m args below meth c H locs 0 0 (MQ below (QI g z.1 z.2 R P Z) args s 0 0 (AA g)) (F0 m 0 ls []) by rw [hH, hlc]]
  have hW : Wd g I R P Z s.heap H locs := by rw [hH, hlc]; exact hW
  refine lv_aload_n hx hb dX8_refuse_0 rfl (lv_at hl 0 rfl) ?_
  refine aw_get (v := .ref (g.2.2 + 1)) C0 hW (lv_fix (by decide)) (cel_7 kd0) rfl inG7 0 (by decide) wd13 rfl rfl dX8_refuse_1 ?_
  refine lv_dup hx hb dX8_refuse_4 rfl ?_
  refine aw_get (v := .int (I 1 4)) C0 hW (lv_fix (by decide)) (cel_6 kd1) rfl inG6 4 (by decide) wd29 rfl rfl dX8_refuse_5 ?_
  refine lv_iconst (v := 1) hx hb dX8_refuse_8 (by decide) ?_
  refine lv_iadd hx hb dX8_refuse_9 ?_
  refine aw_put C0 hW (lv_fix (by decide)) (cel_6 kd1) rfl inG6 tyX6 tyX6_ok nmX6 4 (by decide) wd29 rfl rfl (ty := .int) rfl rfl rfl (Nat.le_of_ble_eq_true rfl) (pu_6_4 kd1) dX8_refuse_10 (fun H locs hW => ?_)
  refine lv_bipush (v := (-2)) hx hb dX8_refuse_13 (by decide) ?_
  have hz := Option.some.inj hf
  have hzV := congrArg (fun z : Int32 × Mem => z.1) hz
  have hzI := congrArg (fun z : Int32 × Mem => z.2) hz
  exact aw_iret C0 hW hzV hzI rfl dX8_refuse_15
def f_X8_place (x0 : Int32) (x1 : Int32) (x2 : Int32) : Option (Int32) :=
  some ((((x0 * 16) + x1) * 4) + x2)
abbrev rmX8_place : Room := { frames := 0, cells := 0, slots := 0, locals := 0 }
set_option maxHeartbeats 4000000 in
set_option maxRecDepth 100000 in
theorem c_X8_place {l : Launch} {g : Gam} {I : Mem} {R : Rem} {P : Pool} {Z : Zed} (x0 : Int32) (x1 : Int32) (x2 : Int32)  {z : Int32} (hf : f_X8_place x0 x1 x2 = some z) : Met l yX8_place (Cond.code yX8_place cX8_place 3 (some .int) :: GT) rmX8_place (va_Pc [.int x0, .int x1, .int x2] (PW g I R P Z)) (QI g z I R P Z) 0 0 (AA g) := by
  refine aw_ofW (lv0 := [(0, .int x0), (1, .int x1), (2, .int x2)]) (by decide) (by exact Nat.le_of_ble_eq_true rfl) (by rfl) (fun p0 e s m args below meth c ls C0 hl hW => ?_)
  have C0 : CX g p0 s m args meth c RX8 cX8_place 3 (some .int) := C0
  have hx := C0.1; have hb := C0.2.1; have hown := C0.2.2.2.2.1; have hts := C0.2.2.2.2.2.1; have hKS := C0.2.2.2.2.2.2.1
  unfold f_X8_place at hf
  obtain ⟨H, hH⟩ : ∃ H, H = s.heap := ⟨_, rfl⟩
  obtain ⟨locs, hlc⟩ : ∃ q : List Loc, q = [] := ⟨_, rfl⟩
  rw [show W p0 l e rmX8_place s m args below meth c s.heap [] 0 0 (MQ below (QI g z I R P Z) args s 0 0 (AA g)) (F0 m 0 ls []) = W p0 l e rmX8_place s m args below meth c H locs 0 0 (MQ below (QI g z I R P Z) args s 0 0 (AA g)) (F0 m 0 ls []) by rw [hH, hlc]]
  have hW : Wd g I R P Z s.heap H locs := by rw [hH, hlc]; exact hW
  refine lv_iload_n hx hb dX8_place_0 rfl (lv_at hl 0 rfl) ?_
  refine lv_bipush (v := 16) hx hb dX8_place_1 (by decide) ?_
  refine lv_imul hx hb dX8_place_3 ?_
  refine lv_iload_n hx hb dX8_place_4 rfl (lv_at hl 1 rfl) ?_
  refine lv_iadd hx hb dX8_place_5 ?_
  refine lv_iconst (v := 4) hx hb dX8_place_6 (by decide) ?_
  refine lv_imul hx hb dX8_place_7 ?_
  refine lv_iload_n hx hb dX8_place_8 rfl (lv_at hl 2 rfl) ?_
  refine lv_iadd hx hb dX8_place_9 ?_
  have hz := Option.some.inj hf
  exact aw_iret C0 hW hz rfl rfl dX8_place_10
theorem cw_X8_105 {Rm : Room} {s : State} {args : Array Value} (ht : ∀ w ∈ GT, w.before args s = true) (hR : rmX8_place.frames + 1 ≤ Rm.frames ∧ 8 + (3 + 11) + rmX8_place.locals ≤ Rm.locals) : CallB Rm s args RX8 105 yX8_place cX8_place 3 (some .int) (Cond.code yX8_place cX8_place 3 (some .int) :: GT) rmX8_place 0 0 3 ∧ (Cond.static yX8_place).before args s = true := va_cwS 3 ht (goodS wd251 wd252 wd243 wd253) rfl rfl rfl ⟨by decide +kernel, by decide +kernel, by decide +kernel⟩ hR
def f_X8_loadRow_L2 (x1 : Int32) (x2 : Int32) : Nat → Int32 → Mem → Option (Mem)
  | 0, _, _ => none
  | n + 1, w3, I =>
    if 4 ≤ w3 then (
      some I
    ) else (
      (f_X8_place x1 x2 w3).bind fun q1 =>
      (rd I 2 128 q1).bind fun v2 =>
      (wr I 10 4 w3 v2).bind fun I3 =>
      f_X8_loadRow_L2 x1 x2 n (w3 + 1) I3
    )
def f_X8_loadRow (x1 : Int32) (x2 : Int32) (I : Mem) : Option (Mem) :=
  (f_X8_loadRow_L2 x1 x2 fuel 0 I).bind fun q4 =>
  some q4
abbrev rmX8_loadRow : Room := { frames := 1, cells := 0, slots := 0, locals := 22 }
set_option maxHeartbeats 4000000 in
set_option maxRecDepth 100000 in
theorem c_X8_loadRow {l : Launch} {g : Gam} {I : Mem} {R : Rem} {P : Pool} {Z : Zed} (x1 : Int32) (x2 : Int32)  {z : Mem} (hf : f_X8_loadRow x1 x2 I = some z) : Met l yX8_loadRow (Cond.code yX8_loadRow cX8_loadRow 4 none :: GT) rmX8_loadRow (va_Pc [.ref (g.2.2 + 0), .int x1, .int x2] (PW g I R P Z)) (QV g z R P Z) 0 0 (AA g) := by
  refine aw_ofW (lv0 := [(0, .ref (g.2.2 + 0)), (1, .int x1), (2, .int x2)]) (by decide) (by exact Nat.le_of_ble_eq_true rfl) (by rfl) (fun p0 e s m args below meth c ls C0 hl hW => ?_)
  have C0 : CX g p0 s m args meth c RX8 cX8_loadRow 4 none := C0
  have hx := C0.1; have hb := C0.2.1; have hown := C0.2.2.2.2.1; have hts := C0.2.2.2.2.2.1; have hKS := C0.2.2.2.2.2.2.1
  have L2 : ∀ (n : Nat) (w3 : Int32) (I : Mem) (H : Heap) (locs : List Loc) (ls : Array Slot) (o : Mem), f_X8_loadRow_L2 x1 x2 n w3 I = some o → Wd g I R P Z s.heap H locs → lv_has ls 4 [(0, .ref (g.2.2 + 0)), (1, .int x1), (2, .int x2), (3, .int w3)] → (∀ (H : Heap) (locs : List Loc) (ls : Array Slot), Wd g o R P Z s.heap H locs → lv_has ls 4 [] → W p0 l e rmX8_loadRow s m args below meth c H locs 0 0 (MQ below (QV g z R P Z) args s 0 0 (AA g)) (F0 m 33 ls [])) → W p0 l e rmX8_loadRow s m args below meth c H locs 0 0 (MQ below (QV g z R P Z) args s 0 0 (AA g)) (F0 m 2 ls []) := by
    intro n
    induction n with
    | zero => intro w3 I H locs ls o hf; cases hf
    | succ n ih =>
      intro w3 I H locs ls o hf hW hl hK
      rw [f_X8_loadRow_L2] at hf
      refine lv_iload_n hx hb dX8_loadRow_2 rfl (lv_at hl 3 rfl) ?_
      refine lv_iconst (v := 4) hx hb dX8_loadRow_3 (by decide) ?_
      refine lv_icmp_ge (tgt := 33) hx hb dX8_loadRow_4 rfl (fun hc => ?_) (fun hc => ?_)
      · have hf := ift hc hf
        have ho := Option.some.inj hf
        subst ho
        exact hK H locs ls hW (lv_sub hl [] rfl)
      · have hf := iff_ hc hf
        refine lv_aload_n hx hb dX8_loadRow_7 rfl (lv_at hl 0 rfl) ?_
        refine aw_get (v := .ref (g.2.2 + 10)) C0 hW (lv_fix (by decide)) (cel_7 kd0) rfl inG7 7 (by decide) wd28 rfl rfl dX8_loadRow_8 ?_
        refine lv_iload_n hx hb dX8_loadRow_11 rfl (lv_at hl 3 rfl) ?_
        refine lv_aload_n hx hb dX8_loadRow_12 rfl (lv_at hl 0 rfl) ?_
        refine aw_get (v := .ref (g.2.2 + 1)) C0 hW (lv_fix (by decide)) (cel_7 kd0) rfl inG7 0 (by decide) wd13 rfl rfl dX8_loadRow_13 ?_
        refine aw_get (v := .ref (g.2.2 + 2)) C0 hW (lv_fix (by decide)) (cel_6 kd1) rfl inG6 0 (by decide) wd30 rfl rfl dX8_loadRow_16 ?_
        refine lv_iload_n hx hb dX8_loadRow_19 rfl (lv_at hl 1 rfl) ?_
        refine lv_iload_n hx hb dX8_loadRow_20 rfl (lv_at hl 2 rfl) ?_
        refine lv_iload_n hx hb dX8_loadRow_21 rfl (lv_at hl 3 rfl) ?_
        obtain ⟨q1, hq1, hf⟩ := bnd hf
        refine aw_cSi (rest := [.ref (g.2.2 + 2), .int w3, .ref (g.2.2 + 10)]) C0 hW (c_X8_place x1 x2 w3  hq1) (cw_X8_105 hts ⟨Nat.le_of_ble_eq_true rfl, Nat.le_of_ble_eq_true rfl⟩) rfl hl.1 rfl (Nat.le_of_ble_eq_true rfl) ⟨Nat.zero_le _, Nat.zero_le _⟩ dX8_loadRow_22 (fun H locs hW => ?_)
        obtain ⟨v2, hv2, hf⟩ := bnd hf
        refine aw_iald C0 hW kd2 ln2 hv2 dX8_loadRow_25 ?_
        obtain ⟨I3, hI3, hf⟩ := bnd hf
        refine aw_iast C0 hW kd10 ln10 hI3 dX8_loadRow_26 (fun H locs hW => ?_)
        refine lv_iinc (k := 3) (v := w3 + 1) (lv' := [(3, .int (w3 + 1)), (0, .ref (g.2.2 + 0)), (1, .int x1), (2, .int x2)]) hx hb dX8_loadRow_27 hl rfl (congrArg (fun t => w3 + t) (by decide : Int32.ofInt 1 = 1)) (Nat.le_of_ble_eq_true rfl) rfl (fun ls hl => ?_)
        refine lv_goto (tgt := 2) hx hb dX8_loadRow_30 rfl ?_
        exact ih _ _ H locs ls o hf hW (lv_sub hl [1, 2, 3, 0] rfl) hK
  unfold f_X8_loadRow at hf
  obtain ⟨H, hH⟩ : ∃ H, H = s.heap := ⟨_, rfl⟩
  obtain ⟨locs, hlc⟩ : ∃ q : List Loc, q = [] := ⟨_, rfl⟩
  rw [show W p0 l e rmX8_loadRow s m args below meth c s.heap [] 0 0 (MQ below (QV g z R P Z) args s 0 0 (AA g)) (F0 m 0 ls []) = W p0 l e rmX8_loadRow s m args below meth c H locs 0 0 (MQ below (QV g z R P Z) args s 0 0 (AA g)) (F0 m 0 ls []) by rw [hH, hlc]]
  have hW : Wd g I R P Z s.heap H locs := by rw [hH, hlc]; exact hW
  refine lv_iconst (v := 0) hx hb dX8_loadRow_0 (by decide) ?_
  refine lv_istore_n (lv' := [(3, .int 0), (0, .ref (g.2.2 + 0)), (1, .int x1), (2, .int x2)]) hx hb dX8_loadRow_1 rfl hl (Nat.le_of_ble_eq_true rfl) rfl (fun ls hl => ?_)
  obtain ⟨q4, hq4, hf⟩ := bnd hf
  refine L2  fuel 0 I H locs ls _ hq4 hW (lv_sub hl [1, 2, 3, 0] rfl) (fun H locs ls hW hl => ?_)
  have hz := Option.some.inj hf
  exact aw_vret C0 hW hz rfl dX8_loadRow_33
theorem cw_X8_258 {Rm : Room} {s : State} {args : Array Value} (ht : ∀ w ∈ GT, w.before args s = true) (hR : rmX8_loadRow.frames + 1 ≤ Rm.frames ∧ 8 + (4 + 11) + rmX8_loadRow.locals ≤ Rm.locals) : CallW Rm s args RX8 RX8 258 yX8_loadRow cX8_loadRow 4 none (Cond.code yX8_loadRow cX8_loadRow 4 none :: GT) rmX8_loadRow 0 0 2 := cwV 2 ht (goodV wd279 wd280 wd281 wd243 wd282) rfl rfl rfl ⟨rfl, by decide +kernel, by decide +kernel, by decide +kernel⟩ hR
def f_X7_isTest (x0 : Int32) : Option (Int32) :=
  (f_X7_signOf x0).bind fun q1 =>
  if q1 = 33 then (
    some 0
  ) else (
    if q1 = 38 then (
      some 0
    ) else (
      if q1 = 124 then (
        some 0
      ) else (
        some 1
      )
    )
  )
abbrev rmX7_isTest : Room := { frames := 1, cells := 0, slots := 0, locals := 20 }
set_option maxHeartbeats 4000000 in
set_option maxRecDepth 100000 in
theorem c_X7_isTest {l : Launch} {g : Gam} {I : Mem} {R : Rem} {P : Pool} {Z : Zed} (x0 : Int32)  {z : Int32} (hf : f_X7_isTest x0 = some z) : Met l yX7_isTest (Cond.code yX7_isTest cX7_isTest 2 (some .boolean) :: GT) rmX7_isTest (va_Pc [.int x0] (PW g I R P Z)) (QI g z I R P Z) 0 0 (AA g) := by
  refine aw_ofW (lv0 := [(0, .int x0)]) (by decide) (by exact Nat.le_of_ble_eq_true rfl) (by rfl) (fun p0 e s m args below meth c ls C0 hl hW => ?_)
  have C0 : CX g p0 s m args meth c RX7 cX7_isTest 2 (some .boolean) := C0
  have hx := C0.1; have hb := C0.2.1; have hown := C0.2.2.2.2.1; have hts := C0.2.2.2.2.2.1; have hKS := C0.2.2.2.2.2.2.1
  unfold f_X7_isTest at hf
  obtain ⟨H, hH⟩ : ∃ H, H = s.heap := ⟨_, rfl⟩
  obtain ⟨locs, hlc⟩ : ∃ q : List Loc, q = [] := ⟨_, rfl⟩
  rw [show W p0 l e rmX7_isTest s m args below meth c s.heap [] 0 0 (MQ below (QI g z I R P Z) args s 0 0 (AA g)) (F0 m 0 ls []) = W p0 l e rmX7_isTest s m args below meth c H locs 0 0 (MQ below (QI g z I R P Z) args s 0 0 (AA g)) (F0 m 0 ls []) by rw [hH, hlc]]
  have hW : Wd g I R P Z s.heap H locs := by rw [hH, hlc]; exact hW
  refine lv_iload_n hx hb dX7_isTest_0 rfl (lv_at hl 0 rfl) ?_
  obtain ⟨q1, hq1, hf⟩ := bnd hf
  refine aw_cSi (rest := []) C0 hW (c_X7_signOf x0  hq1) (cw_X7_9 hts ⟨Nat.le_of_ble_eq_true rfl, Nat.le_of_ble_eq_true rfl⟩) rfl hl.1 rfl (Nat.le_of_ble_eq_true rfl) ⟨Nat.zero_le _, Nat.zero_le _⟩ dX7_isTest_1 (fun H locs hW => ?_)
  refine lv_istore_n (lv' := [(1, .int q1), (0, .int x0)]) hx hb dX7_isTest_4 rfl hl (Nat.le_of_ble_eq_true rfl) rfl (fun ls hl => ?_)
  refine lv_iload_n hx hb dX7_isTest_5 rfl (lv_at hl 0 rfl) ?_
  refine lv_bipush (v := 33) hx hb dX7_isTest_6 (by decide) ?_
  refine lv_icmp_eq (tgt := 27) hx hb dX7_isTest_8 rfl (fun hc => ?_) (fun hc => ?_)
  · have hf := ift hc hf
    refine lv_iconst (v := 0) hx hb dX7_isTest_27 (by decide) ?_
    have hz := Option.some.inj hf
    exact aw_zret C0 hW rfl hz rfl rfl dX7_isTest_28
  · have hf := iff_ hc hf
    refine lv_iload_n hx hb dX7_isTest_11 rfl (lv_at hl 0 rfl) ?_
    refine lv_bipush (v := 38) hx hb dX7_isTest_12 (by decide) ?_
    refine lv_icmp_eq (tgt := 27) hx hb dX7_isTest_14 rfl (fun hc => ?_) (fun hc => ?_)
    · have hf := ift hc hf
      refine lv_iconst (v := 0) hx hb dX7_isTest_27 (by decide) ?_
      have hz := Option.some.inj hf
      exact aw_zret C0 hW rfl hz rfl rfl dX7_isTest_28
    · have hf := iff_ hc hf
      refine lv_iload_n hx hb dX7_isTest_17 rfl (lv_at hl 0 rfl) ?_
      refine lv_bipush (v := 124) hx hb dX7_isTest_18 (by decide) ?_
      refine lv_icmp_eq (tgt := 27) hx hb dX7_isTest_20 rfl (fun hc => ?_) (fun hc => ?_)
      · have hf := ift hc hf
        refine lv_iconst (v := 0) hx hb dX7_isTest_27 (by decide) ?_
        have hz := Option.some.inj hf
        exact aw_zret C0 hW rfl hz rfl rfl dX7_isTest_28
      · have hf := iff_ hc hf
        refine lv_iconst (v := 1) hx hb dX7_isTest_23 (by decide) ?_
        refine lv_goto (tgt := 28) hx hb dX7_isTest_24 rfl ?_
        have hz := Option.some.inj hf
        exact aw_zret C0 hW rfl hz rfl rfl dX7_isTest_28
theorem cw_X2_13 {Rm : Room} {s : State} {args : Array Value} (ht : ∀ w ∈ GT, w.before args s = true) (hR : rmX7_isTest.frames + 1 ≤ Rm.frames ∧ 8 + (2 + 11) + rmX7_isTest.locals ≤ Rm.locals) : CallB Rm s args RX2 13 yX7_isTest cX7_isTest 2 (some .boolean) (Cond.code yX7_isTest cX7_isTest 2 (some .boolean) :: GT) rmX7_isTest 0 0 1 ∧ (Cond.static yX7_isTest).before args s = true := va_cwS 1 ht (goodS wd130 wd131 wd91 wd132) rfl rfl rfl ⟨by decide +kernel, by decide +kernel, by decide +kernel⟩ hR
theorem cw_X7_15 {Rm : Room} {s : State} {args : Array Value} (ht : ∀ w ∈ GT, w.before args s = true) (hR : rmX7_isTest.frames + 1 ≤ Rm.frames ∧ 8 + (2 + 11) + rmX7_isTest.locals ≤ Rm.locals) : CallB Rm s args RX7 15 yX7_isTest cX7_isTest 2 (some .boolean) (Cond.code yX7_isTest cX7_isTest 2 (some .boolean) :: GT) rmX7_isTest 0 0 1 ∧ (Cond.static yX7_isTest).before args s = true := va_cwS 1 ht (goodS wd239 wd131 wd91 wd132) rfl rfl rfl ⟨by decide +kernel, by decide +kernel, by decide +kernel⟩ hR
theorem cw_X8_328 {Rm : Room} {s : State} {args : Array Value} (ht : ∀ w ∈ GT, w.before args s = true) (hR : rmX7_isTest.frames + 1 ≤ Rm.frames ∧ 8 + (2 + 11) + rmX7_isTest.locals ≤ Rm.locals) : CallB Rm s args RX8 328 yX7_isTest cX7_isTest 2 (some .boolean) (Cond.code yX7_isTest cX7_isTest 2 (some .boolean) :: GT) rmX7_isTest 0 0 1 ∧ (Cond.static yX7_isTest).before args s = true := va_cwS 1 ht (goodS wd309 wd131 wd91 wd132) rfl rfl rfl ⟨by decide +kernel, by decide +kernel, by decide +kernel⟩ hR
def f_X2_columnSet_L4 (p : Nat) (P : Pool) (R : Rem) (I : Mem) : Nat → Int32 → Int32 → Option (Int32)
  | 0, _, _ => none
  | n + 1, w1, w2 =>
    (rdn R P p 0 10).bind fun k1 =>
    if (Int32.ofNat (Ln P k1)) ≤ w2 then (
      some w1
    ) else (
      (rdn R P p 0 10).bind fun k2 =>
      (rd I k2 (Ln P k2) w2).bind fun v3 =>
      (f_X7_isTest v3).bind fun q4 =>
      if q4 = 0 then (
        f_X2_columnSet_L4 p P R I n w1 (w2 + 1)
      ) else (
        (rdn R P p 0 10).bind fun k5 =>
        (rd I k5 (Ln P k5) w2).bind fun v6 =>
        (f_X7_columnOf v6).bind fun q7 =>
        (rdn R P p 0 10).bind fun k8 =>
        (rd I k8 (Ln P k8) w2).bind fun v9 =>
        (f_X7_comparesColumns v9).bind fun q10 =>
        if q10 = 0 then (
          f_X2_columnSet_L4 p P R I n (w1 ||| (1 <<< (q7 &&& 31))) (w2 + 1)
        ) else (
          (rdn R P p 0 10).bind fun k11 =>
          (rd I k11 (Ln P k11) w2).bind fun v12 =>
          (f_X7_otherColumnOf v12).bind fun q13 =>
          f_X2_columnSet_L4 p P R I n ((w1 ||| (1 <<< (q7 &&& 31))) ||| (1 <<< (q13 &&& 31))) (w2 + 1)
        )
      )
    )
def f_X2_columnSet (p : Nat) (P : Pool) (R : Rem) (I : Mem) : Option (Int32) :=
  (f_X2_columnSet_L4 p P R I fuel 0 0).bind fun q14 =>
  some q14
abbrev rmX2_columnSet : Room := { frames := 2, cells := 0, slots := 0, locals := 41 }
set_option maxHeartbeats 4000000 in
set_option maxRecDepth 100000 in
theorem c_X2_columnSet {l : Launch} {g : Gam} {I : Mem} {R : Rem} {P : Pool} {Z : Zed} (p : Nat) (hp : Kd P p = 2) {z : Int32} (hf : f_X2_columnSet p P R I = some z) : Met l yX2_columnSet (Cond.code yX2_columnSet cX2_columnSet 3 (some .int) :: GT) rmX2_columnSet (va_Pc [.ref (g.2.2 + p)] (PW g I R P Z)) (QI g z I R P Z) 0 0 (AA g) := by
  refine aw_ofW (lv0 := [(0, .ref (g.2.2 + p))]) (by decide) (by exact Nat.le_of_ble_eq_true rfl) (by rfl) (fun p0 e s m args below meth c ls C0 hl hW => ?_)
  have C0 : CX g p0 s m args meth c RX2 cX2_columnSet 3 (some .int) := C0
  have hx := C0.1; have hb := C0.2.1; have hown := C0.2.2.2.2.1; have hts := C0.2.2.2.2.2.1; have hKS := C0.2.2.2.2.2.2.1
  have L4 : ∀ (R : Rem) (I : Mem) (n : Nat) (w1 : Int32) (w2 : Int32) (H : Heap) (locs : List Loc) (ls : Array Slot) (o : Int32), f_X2_columnSet_L4 p P R I n w1 w2 = some o → Wd g I R P Z s.heap H locs → lv_has ls 3 [(0, .ref (g.2.2 + p)), (1, .int w1), (2, .int w2)] → (∀ (H : Heap) (locs : List Loc) (ls : Array Slot), Wd g I R P Z s.heap H locs → lv_has ls 3 [(1, .int o)] → W p0 l e rmX2_columnSet s m args below meth c H locs 0 0 (MQ below (QI g z I R P Z) args s 0 0 (AA g)) (F0 m 71 ls [])) → W p0 l e rmX2_columnSet s m args below meth c H locs 0 0 (MQ below (QI g z I R P Z) args s 0 0 (AA g)) (F0 m 4 ls []) := by
    intro R I n
    induction n with
    | zero => intro w1 w2 H locs ls o hf; cases hf
    | succ n ih =>
      intro w1 w2 H locs ls o hf hW hl hK
      rw [f_X2_columnSet_L4] at hf
      refine lv_iload_n hx hb dX2_columnSet_4 rfl (lv_at hl 2 rfl) ?_
      refine lv_aload_n hx hb dX2_columnSet_5 rfl (lv_at hl 0 rfl) ?_
      obtain ⟨k1, ek1, hf⟩ := bnd hf
      obtain ⟨rk1, hk1⟩ := rdn_in ek1
      refine aw_get (v := .ref (g.2.2 + k1)) C0 hW (lv_kd hW.1.2.2 hp (by decide)) (cel_2 hp) rfl inG2 0 (by decide) wd18 rfl (by rw [rk1]; rfl) dX2_columnSet_6 ?_
      refine aw_alen (v := Int32.ofNat (Ln P k1)) C0 hW hk1 rfl rfl dX2_columnSet_9 ?_
      refine lv_icmp_ge (tgt := 71) hx hb dX2_columnSet_10 rfl (fun hc => ?_) (fun hc => ?_)
      · have hf := ift hc hf
        have ho := Option.some.inj hf
        subst ho
        exact hK H locs ls hW (lv_sub hl [1] rfl)
      · have hf := iff_ hc hf
        refine lv_aload_n hx hb dX2_columnSet_13 rfl (lv_at hl 0 rfl) ?_
        obtain ⟨k2, ek2, hf⟩ := bnd hf
        obtain ⟨rk2, hk2⟩ := rdn_in ek2
        refine aw_get (v := .ref (g.2.2 + k2)) C0 hW (lv_kd hW.1.2.2 hp (by decide)) (cel_2 hp) rfl inG2 0 (by decide) wd18 rfl (by rw [rk2]; rfl) dX2_columnSet_14 ?_
        refine lv_iload_n hx hb dX2_columnSet_17 rfl (lv_at hl 2 rfl) ?_
        obtain ⟨v3, hv3, hf⟩ := bnd hf
        refine aw_iald C0 hW hk2 rfl hv3 dX2_columnSet_18 ?_
        obtain ⟨q4, hq4, hf⟩ := bnd hf
        refine aw_cSi (rest := []) C0 hW (c_X7_isTest v3  hq4) (cw_X2_13 hts ⟨Nat.le_of_ble_eq_true rfl, Nat.le_of_ble_eq_true rfl⟩) rfl hl.1 rfl (Nat.le_of_ble_eq_true rfl) ⟨Nat.zero_le _, Nat.zero_le _⟩ dX2_columnSet_19 (fun H locs hW => ?_)
        refine lv_if_eq (tgt := 65) hx hb dX2_columnSet_22 rfl (fun hc => ?_) (fun hc => ?_)
        · have hf := ift hc hf
          refine lv_iinc (k := 2) (v := w2 + 1) (lv' := [(2, .int (w2 + 1)), (0, .ref (g.2.2 + p)), (1, .int w1)]) hx hb dX2_columnSet_65 hl rfl (congrArg (fun t => w2 + t) (by decide : Int32.ofInt 1 = 1)) (Nat.le_of_ble_eq_true rfl) rfl (fun ls hl => ?_)
          refine lv_goto (tgt := 4) hx hb dX2_columnSet_68 rfl ?_
          exact ih _ _ H locs ls o hf hW (lv_sub hl [1, 2, 0] rfl) hK
        · have hf := iff_ hc hf
          refine lv_iload_n hx hb dX2_columnSet_25 rfl (lv_at hl 1 rfl) ?_
          refine lv_iconst (v := 1) hx hb dX2_columnSet_26 (by decide) ?_
          refine lv_aload_n hx hb dX2_columnSet_27 rfl (lv_at hl 0 rfl) ?_
          obtain ⟨k5, ek5, hf⟩ := bnd hf
          obtain ⟨rk5, hk5⟩ := rdn_in ek5
          refine aw_get (v := .ref (g.2.2 + k5)) C0 hW (lv_kd hW.1.2.2 hp (by decide)) (cel_2 hp) rfl inG2 0 (by decide) wd18 rfl (by rw [rk5]; rfl) dX2_columnSet_28 ?_
          refine lv_iload_n hx hb dX2_columnSet_31 rfl (lv_at hl 2 rfl) ?_
          obtain ⟨v6, hv6, hf⟩ := bnd hf
          refine aw_iald C0 hW hk5 rfl hv6 dX2_columnSet_32 ?_
          obtain ⟨q7, hq7, hf⟩ := bnd hf
          refine aw_cSi (rest := [.int 1, .int w1]) C0 hW (c_X7_columnOf v6  hq7) (cw_X2_19 hts ⟨Nat.le_of_ble_eq_true rfl, Nat.le_of_ble_eq_true rfl⟩) rfl hl.1 rfl (Nat.le_of_ble_eq_true rfl) ⟨Nat.zero_le _, Nat.zero_le _⟩ dX2_columnSet_33 (fun H locs hW => ?_)
          refine lv_ishl hx hb dX2_columnSet_36 ?_
          refine lv_ior hx hb dX2_columnSet_37 ?_
          refine lv_istore_n (lv' := [(1, .int (w1 ||| (1 <<< (q7 &&& 31)))), (0, .ref (g.2.2 + p)), (2, .int w2)]) hx hb dX2_columnSet_38 rfl hl (Nat.le_of_ble_eq_true rfl) rfl (fun ls hl => ?_)
          refine lv_aload_n hx hb dX2_columnSet_39 rfl (lv_at hl 1 rfl) ?_
          obtain ⟨k8, ek8, hf⟩ := bnd hf
          obtain ⟨rk8, hk8⟩ := rdn_in ek8
          refine aw_get (v := .ref (g.2.2 + k8)) C0 hW (lv_kd hW.1.2.2 hp (by decide)) (cel_2 hp) rfl inG2 0 (by decide) wd18 rfl (by rw [rk8]; rfl) dX2_columnSet_40 ?_
          refine lv_iload_n hx hb dX2_columnSet_43 rfl (lv_at hl 2 rfl) ?_
          obtain ⟨v9, hv9, hf⟩ := bnd hf
          refine aw_iald C0 hW hk8 rfl hv9 dX2_columnSet_44 ?_
          obtain ⟨q10, hq10, hf⟩ := bnd hf
          refine aw_cSi (rest := []) C0 hW (c_X7_comparesColumns v9  hq10) (cw_X2_23 hts ⟨Nat.le_of_ble_eq_true rfl, Nat.le_of_ble_eq_true rfl⟩) rfl hl.1 rfl (Nat.le_of_ble_eq_true rfl) ⟨Nat.zero_le _, Nat.zero_le _⟩ dX2_columnSet_45 (fun H locs hW => ?_)
          refine lv_if_eq (tgt := 65) hx hb dX2_columnSet_48 rfl (fun hc => ?_) (fun hc => ?_)
          · have hf := ift hc hf
            refine lv_iinc (k := 2) (v := w2 + 1) (lv' := [(2, .int (w2 + 1)), (1, .int (w1 ||| (1 <<< (q7 &&& 31)))), (0, .ref (g.2.2 + p))]) hx hb dX2_columnSet_65 hl rfl (congrArg (fun t => w2 + t) (by decide : Int32.ofInt 1 = 1)) (Nat.le_of_ble_eq_true rfl) rfl (fun ls hl => ?_)
            refine lv_goto (tgt := 4) hx hb dX2_columnSet_68 rfl ?_
            exact ih _ _ H locs ls o hf hW (lv_sub hl [2, 1, 0] rfl) hK
          · have hf := iff_ hc hf
            refine lv_iload_n hx hb dX2_columnSet_51 rfl (lv_at hl 0 rfl) ?_
            refine lv_iconst (v := 1) hx hb dX2_columnSet_52 (by decide) ?_
            refine lv_aload_n hx hb dX2_columnSet_53 rfl (lv_at hl 1 rfl) ?_
            obtain ⟨k11, ek11, hf⟩ := bnd hf
            obtain ⟨rk11, hk11⟩ := rdn_in ek11
            refine aw_get (v := .ref (g.2.2 + k11)) C0 hW (lv_kd hW.1.2.2 hp (by decide)) (cel_2 hp) rfl inG2 0 (by decide) wd18 rfl (by rw [rk11]; rfl) dX2_columnSet_54 ?_
            refine lv_iload_n hx hb dX2_columnSet_57 rfl (lv_at hl 2 rfl) ?_
            obtain ⟨v12, hv12, hf⟩ := bnd hf
            refine aw_iald C0 hW hk11 rfl hv12 dX2_columnSet_58 ?_
            obtain ⟨q13, hq13, hf⟩ := bnd hf
            refine aw_cSi (rest := [.int 1, .int (w1 ||| (1 <<< (q7 &&& 31)))]) C0 hW (c_X7_otherColumnOf v12  hq13) (cw_X2_26 hts ⟨Nat.le_of_ble_eq_true rfl, Nat.le_of_ble_eq_true rfl⟩) rfl hl.1 rfl (Nat.le_of_ble_eq_true rfl) ⟨Nat.zero_le _, Nat.zero_le _⟩ dX2_columnSet_59 (fun H locs hW => ?_)
            refine lv_ishl hx hb dX2_columnSet_62 ?_
            refine lv_ior hx hb dX2_columnSet_63 ?_
            refine lv_istore_n (lv' := [(1, .int ((w1 ||| (1 <<< (q7 &&& 31))) ||| (1 <<< (q13 &&& 31)))), (0, .ref (g.2.2 + p)), (2, .int w2)]) hx hb dX2_columnSet_64 rfl hl (Nat.le_of_ble_eq_true rfl) rfl (fun ls hl => ?_)
            refine lv_iinc (k := 2) (v := w2 + 1) (lv' := [(2, .int (w2 + 1)), (1, .int ((w1 ||| (1 <<< (q7 &&& 31))) ||| (1 <<< (q13 &&& 31)))), (0, .ref (g.2.2 + p))]) hx hb dX2_columnSet_65 hl rfl (congrArg (fun t => w2 + t) (by decide : Int32.ofInt 1 = 1)) (Nat.le_of_ble_eq_true rfl) rfl (fun ls hl => ?_)
            refine lv_goto (tgt := 4) hx hb dX2_columnSet_68 rfl ?_
            exact ih _ _ H locs ls o hf hW (lv_sub hl [2, 1, 0] rfl) hK
  unfold f_X2_columnSet at hf
  obtain ⟨H, hH⟩ : ∃ H, H = s.heap := ⟨_, rfl⟩
  obtain ⟨locs, hlc⟩ : ∃ q : List Loc, q = [] := ⟨_, rfl⟩
  rw [show W p0 l e rmX2_columnSet s m args below meth c s.heap [] 0 0 (MQ below (QI g z I R P Z) args s 0 0 (AA g)) (F0 m 0 ls []) = W p0 l e rmX2_columnSet s m args below meth c H locs 0 0 (MQ below (QI g z I R P Z) args s 0 0 (AA g)) (F0 m 0 ls []) by rw [hH, hlc]]
  have hW : Wd g I R P Z s.heap H locs := by rw [hH, hlc]; exact hW
  refine lv_iconst (v := 0) hx hb dX2_columnSet_0 (by decide) ?_
  refine lv_istore_n (lv' := [(1, .int 0), (0, .ref (g.2.2 + p))]) hx hb dX2_columnSet_1 rfl hl (Nat.le_of_ble_eq_true rfl) rfl (fun ls hl => ?_)
  refine lv_iconst (v := 0) hx hb dX2_columnSet_2 (by decide) ?_
  refine lv_istore_n (lv' := [(2, .int 0), (1, .int 0), (0, .ref (g.2.2 + p))]) hx hb dX2_columnSet_3 rfl hl (Nat.le_of_ble_eq_true rfl) rfl (fun ls hl => ?_)
  obtain ⟨q14, hq14, hf⟩ := bnd hf
  refine L4 R I fuel 0 0 H locs ls _ hq14 hW (lv_sub hl [2, 1, 0] rfl) (fun H locs ls hW hl => ?_)
  refine lv_iload_n hx hb dX2_columnSet_71 rfl (lv_at hl 0 rfl) ?_
  have hz := Option.some.inj hf
  exact aw_iret C0 hW hz rfl rfl dX2_columnSet_72
def f_X0_mark_L6 (x1 : Int32) : Nat → Int32 → Mem → Option (Mem)
  | 0, _, _ => none
  | n + 1, w2, I =>
    if 100 ≤ w2 then (
      some I
    ) else (
      if (x1 + 2) < w2 then (
        some I
      ) else (
        (wr I 17 100 w2 (vp_nar .boolean 1)).bind fun I1 =>
        f_X0_mark_L6 x1 n (w2 + 1) I1
      )
    )
def f_X0_mark (x1 : Int32) (I : Mem) : Option (Mem) :=
  (f_X0_mark_L6 x1 fuel (jmax x1 0) I).bind fun q2 =>
  some q2
abbrev rmX0_mark : Room := { frames := 1, cells := 0, slots := 0, locals := 21 }
set_option maxHeartbeats 4000000 in
set_option maxRecDepth 100000 in
theorem c_X0_mark {l : Launch} {g : Gam} {I : Mem} {R : Rem} {P : Pool} {Z : Zed} (x1 : Int32)  {z : Mem} (hf : f_X0_mark x1 I = some z) : Met l yX0_mark (Cond.code yX0_mark cX0_mark 3 none :: GT) rmX0_mark (va_Pc [.ref (g.2.2 + 16), .int x1] (PW g I R P Z)) (QV g z R P Z) 0 0 (AA g) := by
  refine aw_ofW (lv0 := [(0, .ref (g.2.2 + 16)), (1, .int x1)]) (by decide) (by exact Nat.le_of_ble_eq_true rfl) (by rfl) (fun p0 e s m args below meth c ls C0 hl hW => ?_)
  have C0 : CX g p0 s m args meth c RX0 cX0_mark 3 none := C0
  have hx := C0.1; have hb := C0.2.1; have hown := C0.2.2.2.2.1; have hts := C0.2.2.2.2.2.1; have hKS := C0.2.2.2.2.2.2.1
  have L6 : ∀ (n : Nat) (w2 : Int32) (I : Mem) (H : Heap) (locs : List Loc) (ls : Array Slot) (o : Mem), f_X0_mark_L6 x1 n w2 I = some o → Wd g I R P Z s.heap H locs → lv_has ls 3 [(0, .ref (g.2.2 + 16)), (1, .int x1), (2, .int w2)] → (∀ (H : Heap) (locs : List Loc) (ls : Array Slot), Wd g o R P Z s.heap H locs → lv_has ls 3 [] → W p0 l e rmX0_mark s m args below meth c H locs 0 0 (MQ below (QV g z R P Z) args s 0 0 (AA g)) (F0 m 32 ls [])) → W p0 l e rmX0_mark s m args below meth c H locs 0 0 (MQ below (QV g z R P Z) args s 0 0 (AA g)) (F0 m 6 ls []) := by
    intro n
    induction n with
    | zero => intro w2 I H locs ls o hf; cases hf
    | succ n ih =>
      intro w2 I H locs ls o hf hW hl hK
      rw [f_X0_mark_L6] at hf
      refine lv_iload_n hx hb dX0_mark_6 rfl (lv_at hl 2 rfl) ?_
      refine lv_bipush (v := 100) hx hb dX0_mark_7 (by decide) ?_
      refine lv_icmp_ge (tgt := 32) hx hb dX0_mark_9 rfl (fun hc => ?_) (fun hc => ?_)
      · have hf := ift hc hf
        have ho := Option.some.inj hf
        subst ho
        exact hK H locs ls hW (lv_sub hl [] rfl)
      · have hf := iff_ hc hf
        refine lv_iload_n hx hb dX0_mark_12 rfl (lv_at hl 2 rfl) ?_
        refine lv_iload_n hx hb dX0_mark_13 rfl (lv_at hl 1 rfl) ?_
        refine lv_iconst (v := 2) hx hb dX0_mark_14 (by decide) ?_
        refine lv_iadd hx hb dX0_mark_15 ?_
        refine lv_icmp_gt (tgt := 32) hx hb dX0_mark_16 rfl (fun hc => ?_) (fun hc => ?_)
        · have hf := ift hc hf
          have ho := Option.some.inj hf
          subst ho
          exact hK H locs ls hW (lv_sub hl [] rfl)
        · have hf := iff_ hc hf
          refine lv_aload_n hx hb dX0_mark_19 rfl (lv_at hl 0 rfl) ?_
          refine aw_get (v := .ref (g.2.2 + 17)) C0 hW (lv_fix (by decide)) (cel_0 kd16) rfl inG0 0 (by decide) wd32 rfl rfl dX0_mark_20 ?_
          refine lv_iload_n hx hb dX0_mark_23 rfl (lv_at hl 2 rfl) ?_
          refine lv_iconst (v := 1) hx hb dX0_mark_24 (by decide) ?_
          obtain ⟨I1, hI1, hf⟩ := bnd hf
          refine aw_zast C0 hW kd17 ln17 hI1 dX0_mark_25 (fun H locs hW => ?_)
          refine lv_iinc (k := 2) (v := w2 + 1) (lv' := [(2, .int (w2 + 1)), (0, .ref (g.2.2 + 16)), (1, .int x1)]) hx hb dX0_mark_26 hl rfl (congrArg (fun t => w2 + t) (by decide : Int32.ofInt 1 = 1)) (Nat.le_of_ble_eq_true rfl) rfl (fun ls hl => ?_)
          refine lv_goto (tgt := 6) hx hb dX0_mark_29 rfl ?_
          exact ih _ _ H locs ls o hf hW (lv_sub hl [1, 2, 0] rfl) hK
  unfold f_X0_mark at hf
  obtain ⟨H, hH⟩ : ∃ H, H = s.heap := ⟨_, rfl⟩
  obtain ⟨locs, hlc⟩ : ∃ q : List Loc, q = [] := ⟨_, rfl⟩
  rw [show W p0 l e rmX0_mark s m args below meth c s.heap [] 0 0 (MQ below (QV g z R P Z) args s 0 0 (AA g)) (F0 m 0 ls []) = W p0 l e rmX0_mark s m args below meth c H locs 0 0 (MQ below (QV g z R P Z) args s 0 0 (AA g)) (F0 m 0 ls []) by rw [hH, hlc]]
  have hW : Wd g I R P Z s.heap H locs := by rw [hH, hlc]; exact hW
  refine lv_iload_n hx hb dX0_mark_0 rfl (lv_at hl 1 rfl) ?_
  refine lv_iconst (v := 0) hx hb dX0_mark_1 (by decide) ?_
  refine aw_jmax (rest := []) C0 hl.1 wd31 wd25 wd22 wd26 (Nat.le_of_ble_eq_true rfl) (Nat.le_of_ble_eq_true rfl) (Nat.zero_le _) (Nat.zero_le _) dX0_mark_2 ?_
  refine lv_istore_n (lv' := [(2, .int (jmax x1 0)), (0, .ref (g.2.2 + 16)), (1, .int x1)]) hx hb dX0_mark_5 rfl hl (Nat.le_of_ble_eq_true rfl) rfl (fun ls hl => ?_)
  obtain ⟨q2, hq2, hf⟩ := bnd hf
  refine L6  fuel (jmax x1 0) I H locs ls _ hq2 hW (lv_sub hl [1, 2, 0] rfl) (fun H locs ls hW hl => ?_)
  have hz := Option.some.inj hf
  exact aw_vret C0 hW hz rfl dX0_mark_32
theorem cw_X0_23 {Rm : Room} {s : State} {args : Array Value} (ht : ∀ w ∈ GT, w.before args s = true) (hR : rmX0_mark.frames + 1 ≤ Rm.frames ∧ 8 + (3 + 11) + rmX0_mark.locals ≤ Rm.locals) : CallW Rm s args RX0 RX0 23 yX0_mark cX0_mark 3 none (Cond.code yX0_mark cX0_mark 3 none :: GT) rmX0_mark 0 0 1 := cwV 1 ht (goodV wd75 wd76 wd77 wd78 wd79) rfl rfl rfl ⟨rfl, by decide +kernel, by decide +kernel, by decide +kernel⟩ hR
def f_X7_comparesWithValue (x0 : Int32) : Option (Int32) :=
  (f_X7_isTest x0).bind fun q1 =>
  if q1 = 0 then (
    some 0
  ) else (
    (f_X7_signOf x0).bind fun q2 =>
    if q2 = 63 then (
      some 0
    ) else (
      (f_X7_comparesColumns x0).bind fun q3 =>
      if q3 = 0 then (
        some 1
      ) else (
        some 0
      )
    )
  )
abbrev rmX7_comparesWithValue : Room := { frames := 2, cells := 0, slots := 0, locals := 41 }
set_option maxHeartbeats 4000000 in
set_option maxRecDepth 100000 in
theorem c_X7_comparesWithValue {l : Launch} {g : Gam} {I : Mem} {R : Rem} {P : Pool} {Z : Zed} (x0 : Int32)  {z : Int32} (hf : f_X7_comparesWithValue x0 = some z) : Met l yX7_comparesWithValue (Cond.code yX7_comparesWithValue cX7_comparesWithValue 1 (some .boolean) :: GT) rmX7_comparesWithValue (va_Pc [.int x0] (PW g I R P Z)) (QI g z I R P Z) 0 0 (AA g) := by
  refine aw_ofW (lv0 := [(0, .int x0)]) (by decide) (by exact Nat.le_of_ble_eq_true rfl) (by rfl) (fun p0 e s m args below meth c ls C0 hl hW => ?_)
  have C0 : CX g p0 s m args meth c RX7 cX7_comparesWithValue 1 (some .boolean) := C0
  have hx := C0.1; have hb := C0.2.1; have hown := C0.2.2.2.2.1; have hts := C0.2.2.2.2.2.1; have hKS := C0.2.2.2.2.2.2.1
  unfold f_X7_comparesWithValue at hf
  obtain ⟨H, hH⟩ : ∃ H, H = s.heap := ⟨_, rfl⟩
  obtain ⟨locs, hlc⟩ : ∃ q : List Loc, q = [] := ⟨_, rfl⟩
  rw [show W p0 l e rmX7_comparesWithValue s m args below meth c s.heap [] 0 0 (MQ below (QI g z I R P Z) args s 0 0 (AA g)) (F0 m 0 ls []) = W p0 l e rmX7_comparesWithValue s m args below meth c H locs 0 0 (MQ below (QI g z I R P Z) args s 0 0 (AA g)) (F0 m 0 ls []) by rw [hH, hlc]]
  have hW : Wd g I R P Z s.heap H locs := by rw [hH, hlc]; exact hW
  refine lv_iload_n hx hb dX7_comparesWithValue_0 rfl (lv_at hl 0 rfl) ?_
  obtain ⟨q1, hq1, hf⟩ := bnd hf
  refine aw_cSi (rest := []) C0 hW (c_X7_isTest x0  hq1) (cw_X7_15 hts ⟨Nat.le_of_ble_eq_true rfl, Nat.le_of_ble_eq_true rfl⟩) rfl hl.1 rfl (Nat.le_of_ble_eq_true rfl) ⟨Nat.zero_le _, Nat.zero_le _⟩ dX7_comparesWithValue_1 (fun H locs hW => ?_)
  refine lv_if_eq (tgt := 27) hx hb dX7_comparesWithValue_4 rfl (fun hc => ?_) (fun hc => ?_)
  · have hf := ift hc hf
    refine lv_iconst (v := 0) hx hb dX7_comparesWithValue_27 (by decide) ?_
    have hz := Option.some.inj hf
    exact aw_zret C0 hW rfl hz rfl rfl dX7_comparesWithValue_28
  · have hf := iff_ hc hf
    refine lv_iload_n hx hb dX7_comparesWithValue_7 rfl (lv_at hl 0 rfl) ?_
    obtain ⟨q2, hq2, hf⟩ := bnd hf
    refine aw_cSi (rest := []) C0 hW (c_X7_signOf x0  hq2) (cw_X7_9 hts ⟨Nat.le_of_ble_eq_true rfl, Nat.le_of_ble_eq_true rfl⟩) rfl hl.1 rfl (Nat.le_of_ble_eq_true rfl) ⟨Nat.zero_le _, Nat.zero_le _⟩ dX7_comparesWithValue_8 (fun H locs hW => ?_)
    refine lv_bipush (v := 63) hx hb dX7_comparesWithValue_11 (by decide) ?_
    refine lv_icmp_eq (tgt := 27) hx hb dX7_comparesWithValue_13 rfl (fun hc => ?_) (fun hc => ?_)
    · have hf := ift hc hf
      refine lv_iconst (v := 0) hx hb dX7_comparesWithValue_27 (by decide) ?_
      have hz := Option.some.inj hf
      exact aw_zret C0 hW rfl hz rfl rfl dX7_comparesWithValue_28
    · have hf := iff_ hc hf
      refine lv_iload_n hx hb dX7_comparesWithValue_16 rfl (lv_at hl 0 rfl) ?_
      obtain ⟨q3, hq3, hf⟩ := bnd hf
      refine aw_cSi (rest := []) C0 hW (c_X7_comparesColumns x0  hq3) (cw_X7_19 hts ⟨Nat.le_of_ble_eq_true rfl, Nat.le_of_ble_eq_true rfl⟩) rfl hl.1 rfl (Nat.le_of_ble_eq_true rfl) ⟨Nat.zero_le _, Nat.zero_le _⟩ dX7_comparesWithValue_17 (fun H locs hW => ?_)
      refine lv_if_ne (tgt := 27) hx hb dX7_comparesWithValue_20 rfl (fun hc => ?_) (fun hc => ?_)
      · have hf := iff_ hc hf
        refine lv_iconst (v := 0) hx hb dX7_comparesWithValue_27 (by decide) ?_
        have hz := Option.some.inj hf
        exact aw_zret C0 hW rfl hz rfl rfl dX7_comparesWithValue_28
      · have hf := ift hc hf
        refine lv_iconst (v := 1) hx hb dX7_comparesWithValue_23 (by decide) ?_
        refine lv_goto (tgt := 28) hx hb dX7_comparesWithValue_24 rfl ?_
        have hz := Option.some.inj hf
        exact aw_zret C0 hW rfl hz rfl rfl dX7_comparesWithValue_28
theorem cw_X0_36 {Rm : Room} {s : State} {args : Array Value} (ht : ∀ w ∈ GT, w.before args s = true) (hR : rmX7_comparesWithValue.frames + 1 ≤ Rm.frames ∧ 8 + (1 + 11) + rmX7_comparesWithValue.locals ≤ Rm.locals) : CallB Rm s args RX0 36 yX7_comparesWithValue cX7_comparesWithValue 1 (some .boolean) (Cond.code yX7_comparesWithValue cX7_comparesWithValue 1 (some .boolean) :: GT) rmX7_comparesWithValue 0 0 1 ∧ (Cond.static yX7_comparesWithValue).before args s = true := va_cwS 1 ht (goodS wd89 wd90 wd91 wd92) rfl rfl rfl ⟨by decide +kernel, by decide +kernel, by decide +kernel⟩ hR
theorem cw_X5_76 {Rm : Room} {s : State} {args : Array Value} (ht : ∀ w ∈ GT, w.before args s = true) (hR : rmX7_comparesWithValue.frames + 1 ≤ Rm.frames ∧ 8 + (1 + 11) + rmX7_comparesWithValue.locals ≤ Rm.locals) : CallB Rm s args RX5 76 yX7_comparesWithValue cX7_comparesWithValue 1 (some .boolean) (Cond.code yX7_comparesWithValue cX7_comparesWithValue 1 (some .boolean) :: GT) rmX7_comparesWithValue 0 0 1 ∧ (Cond.static yX7_comparesWithValue).before args s = true := va_cwS 1 ht (goodS wd227 wd90 wd91 wd92) rfl rfl rfl ⟨by decide +kernel, by decide +kernel, by decide +kernel⟩ hR
def f_X0_list_L2 (o1 : Option Nat) (a2 : Nat) (P : Pool) (R : Rem) : Nat → Int32 → Mem → Option (Mem)
  | 0, _, _ => none
  | n + 1, w3, I =>
    if 100 ≤ w3 then (
      some I
    ) else (
      (wr I 17 100 w3 (vp_nar .boolean 0)).bind fun I1 =>
      f_X0_list_L2 o1 a2 P R n (w3 + 1) I1
    )
def f_X0_list_L28 (o1 : Option Nat) (a2 : Nat) (P : Pool) (R : Rem) : Nat → Int32 → Mem → Option (Mem)
  | 0, _, _ => none
  | n + 1, w3, I =>
    o1.bind fun k4 =>
    (f_X2_size k4 P R).bind fun q5 =>
    if q5 ≤ w3 then (
      some I
    ) else (
      o1.bind fun k6 =>
      (f_X2_step k6 w3 P R I).bind fun q7 =>
      (f_X7_comparesWithValue q7).bind fun q8 =>
      if q8 = 0 then (
        f_X0_list_L28 o1 a2 P R n (w3 + 1) I
      ) else (
        o1.bind fun k9 =>
        (f_X2_step k9 w3 P R I).bind fun q10 =>
        (f_X7_valueOf q10).bind fun q11 =>
        (f_X0_mark q11 I).bind fun q12 =>
        f_X0_list_L28 o1 a2 P R n (w3 + 1) q12
      )
    )
def f_X0_list_L67 (o1 : Option Nat) (a2 : Nat) (P : Pool) (R : Rem) : Nat → Int32 → Mem → Option (Mem)
  | 0, _, _ => none
  | n + 1, w3, I =>
    if (Int32.ofNat (Ln P a2)) ≤ w3 then (
      some I
    ) else (
      (rd I a2 (Ln P a2) w3).bind fun v14 =>
      if v14 = ((-1)) then (
        f_X0_list_L67 o1 a2 P R n (w3 + 1) I
      ) else (
        (rd I a2 (Ln P a2) w3).bind fun v15 =>
        (f_X0_mark v15 I).bind fun q16 =>
        f_X0_list_L67 o1 a2 P R n (w3 + 1) q16
      )
    )
def f_X0_list_L100 (o1 : Option Nat) (a2 : Nat) (P : Pool) (R : Rem) : Nat → Int32 → Mem → Option (Mem)
  | 0, _, _ => none
  | n + 1, w3, I =>
    if 100 ≤ w3 then (
      some I
    ) else (
      (rd I 17 100 w3).bind fun v18 =>
      if v18 = 0 then (
        f_X0_list_L100 o1 a2 P R n (w3 + 1) I
      ) else (
        (wr I 18 100 (I 16 2) w3).bind fun I19 =>
        f_X0_list_L100 o1 a2 P R n (w3 + 1) ((up I19 16 2 ((I19 16 2) + 1)))
      )
    )
def f_X0_list (o1 : Option Nat) (a2 : Nat) (P : Pool) (R : Rem) (I : Mem) : Option (Mem) :=
  (f_X0_list_L2 o1 a2 P R fuel 0 I).bind fun q2 =>
  (f_X0_mark 0 q2).bind fun q3 =>
  (f_X0_list_L28 o1 a2 P R fuel 0 q3).bind fun q13 =>
  (f_X0_list_L67 o1 a2 P R fuel 0 q13).bind fun q17 =>
  (f_X0_list_L100 o1 a2 P R fuel 0 ((up q17 16 2 0))).bind fun q20 =>
  some q20
abbrev rmX0_list : Room := { frames := 3, cells := 0, slots := 0, locals := 61 }
set_option maxHeartbeats 4000000 in
set_option maxRecDepth 100000 in
theorem c_X0_list {l : Launch} {g : Gam} {I : Mem} {R : Rem} {P : Pool} {Z : Zed} (o1 : Option Nat) (a2 : Nat) (ho1 : ∀ k, o1 = some k → Kd P k = 2) (ha2 : Kd P a2 = 10) {z : Mem} (hf : f_X0_list o1 a2 P R I = some z) : Met l yX0_list (Cond.code yX0_list cX0_list 4 none :: GT) rmX0_list (va_Pc [.ref (g.2.2 + 16), va_rf (o1.map (fun y => g.2.2 + y)), .ref (g.2.2 + a2)] (PW g I R P Z)) (QV g z R P Z) 0 0 (AA g) := by
  refine aw_ofW (lv0 := [(0, .ref (g.2.2 + 16)), (1, va_rf (o1.map (fun y => g.2.2 + y))), (2, .ref (g.2.2 + a2))]) (by decide) (by cases o1 <;> exact Nat.le_of_ble_eq_true rfl) (by cases o1 <;> rfl) (fun p0 e s m args below meth c ls C0 hl hW => ?_)
  have C0 : CX g p0 s m args meth c RX0 cX0_list 4 none := C0
  have hx := C0.1; have hb := C0.2.1; have hown := C0.2.2.2.2.1; have hts := C0.2.2.2.2.2.1; have hKS := C0.2.2.2.2.2.2.1
  have L2 : ∀ (R : Rem) (n : Nat) (w3 : Int32) (I : Mem) (H : Heap) (locs : List Loc) (ls : Array Slot) (o : Mem), f_X0_list_L2 o1 a2 P R n w3 I = some o → Wd g I R P Z s.heap H locs → lv_has ls 4 [(0, .ref (g.2.2 + 16)), (1, va_rf (o1.map (fun y => g.2.2 + y))), (2, .ref (g.2.2 + a2)), (3, .int w3)] → (∀ (H : Heap) (locs : List Loc) (ls : Array Slot), Wd g o R P Z s.heap H locs → lv_has ls 4 [(0, .ref (g.2.2 + 16)), (1, va_rf (o1.map (fun y => g.2.2 + y))), (2, .ref (g.2.2 + a2))] → W p0 l e rmX0_list s m args below meth c H locs 0 0 (MQ below (QV g z R P Z) args s 0 0 (AA g)) (F0 m 21 ls [])) → W p0 l e rmX0_list s m args below meth c H locs 0 0 (MQ below (QV g z R P Z) args s 0 0 (AA g)) (F0 m 2 ls []) := by
    intro R n
    induction n with
    | zero => intro w3 I H locs ls o hf; cases hf
    | succ n ih =>
      intro w3 I H locs ls o hf hW hl hK
      rw [f_X0_list_L2] at hf
      refine lv_iload_n hx hb dX0_list_2 rfl (lv_at hl 3 rfl) ?_
      refine lv_bipush (v := 100) hx hb dX0_list_3 (by decide) ?_
      refine lv_icmp_ge (tgt := 21) hx hb dX0_list_5 rfl (fun hc => ?_) (fun hc => ?_)
      · have hf := ift hc hf
        have ho := Option.some.inj hf
        subst ho
        exact hK H locs ls hW (lv_sub hl [0, 1, 2] rfl)
      · have hf := iff_ hc hf
        refine lv_aload_n hx hb dX0_list_8 rfl (lv_at hl 0 rfl) ?_
        refine aw_get (v := .ref (g.2.2 + 17)) C0 hW (lv_fix (by decide)) (cel_0 kd16) rfl inG0 0 (by decide) wd32 rfl rfl dX0_list_9 ?_
        refine lv_iload_n hx hb dX0_list_12 rfl (lv_at hl 3 rfl) ?_
        refine lv_iconst (v := 0) hx hb dX0_list_13 (by decide) ?_
        obtain ⟨I1, hI1, hf⟩ := bnd hf
        refine aw_zast C0 hW kd17 ln17 hI1 dX0_list_14 (fun H locs hW => ?_)
        refine lv_iinc (k := 3) (v := w3 + 1) (lv' := [(3, .int (w3 + 1)), (0, .ref (g.2.2 + 16)), (1, va_rf (o1.map (fun y => g.2.2 + y))), (2, .ref (g.2.2 + a2))]) hx hb dX0_list_15 hl rfl (congrArg (fun t => w3 + t) (by decide : Int32.ofInt 1 = 1)) (Nat.le_of_ble_eq_true rfl) rfl (fun ls hl => ?_)
        refine lv_goto (tgt := 2) hx hb dX0_list_18 rfl ?_
        exact ih _ _ H locs ls o hf hW (lv_sub hl [1, 2, 3, 0] rfl) hK
  have L28 : ∀ (R : Rem) (n : Nat) (w3 : Int32) (I : Mem) (H : Heap) (locs : List Loc) (ls : Array Slot) (o : Mem), f_X0_list_L28 o1 a2 P R n w3 I = some o → Wd g I R P Z s.heap H locs → lv_has ls 4 [(0, .ref (g.2.2 + 16)), (1, va_rf (o1.map (fun y => g.2.2 + y))), (2, .ref (g.2.2 + a2)), (3, .int w3)] → (∀ (H : Heap) (locs : List Loc) (ls : Array Slot), Wd g o R P Z s.heap H locs → lv_has ls 4 [(0, .ref (g.2.2 + 16)), (2, .ref (g.2.2 + a2))] → W p0 l e rmX0_list s m args below meth c H locs 0 0 (MQ below (QV g z R P Z) args s 0 0 (AA g)) (F0 m 65 ls [])) → W p0 l e rmX0_list s m args below meth c H locs 0 0 (MQ below (QV g z R P Z) args s 0 0 (AA g)) (F0 m 28 ls []) := by
    intro R n
    induction n with
    | zero => intro w3 I H locs ls o hf; cases hf
    | succ n ih =>
      intro w3 I H locs ls o hf hW hl hK
      rw [f_X0_list_L28] at hf
      refine lv_iload_n hx hb dX0_list_28 rfl (lv_at hl 3 rfl) ?_
      refine aw_ald_n (x := o1) C0 dX0_list_29 rfl (lv_at hl 1 rfl) ?_
      obtain ⟨k4, ek4, hf⟩ := bnd hf
      have hk4 := ho1 k4 ek4
      refine W.eq (g2 := F0 m 30 ls ([.ref (g.2.2 + k4), .int w3])) (by rw [ek4]; rfl) ?_
      obtain ⟨q5, hq5, hf⟩ := bnd hf
      refine aw_cVi (rest := [.int w3]) C0 hW (lv_kd hW.1.2.2 hk4 (by decide)) (cel_2 hk4) rfl (c_X2_size k4 hk4 hq5) (cw_X0_27 hts ⟨Nat.le_of_ble_eq_true rfl, Nat.le_of_ble_eq_true rfl⟩) rfl hl.1 rfl (Nat.le_of_ble_eq_true rfl) ⟨Nat.zero_le _, Nat.zero_le _⟩ dX0_list_30 (fun H locs hW => ?_)
      refine lv_icmp_ge (tgt := 65) hx hb dX0_list_33 rfl (fun hc => ?_) (fun hc => ?_)
      · have hf := ift hc hf
        have ho := Option.some.inj hf
        subst ho
        exact hK H locs ls hW (lv_sub hl [0, 2] rfl)
      · have hf := iff_ hc hf
        refine aw_ald_n (x := o1) C0 dX0_list_36 rfl (lv_at hl 1 rfl) ?_
        refine lv_iload_n hx hb dX0_list_37 rfl (lv_at hl 3 rfl) ?_
        obtain ⟨k6, ek6, hf⟩ := bnd hf
        have hk6 := ho1 k6 ek6
        refine W.eq (g2 := F0 m 38 ls ([.int w3, .ref (g.2.2 + k6)])) (by rw [ek6]; rfl) ?_
        obtain ⟨q7, hq7, hf⟩ := bnd hf
        refine aw_cVi (rest := []) C0 hW (lv_kd hW.1.2.2 hk6 (by decide)) (cel_2 hk6) rfl (c_X2_step k6 w3 hk6 hq7) (cw_X0_32 hts ⟨Nat.le_of_ble_eq_true rfl, Nat.le_of_ble_eq_true rfl⟩) rfl hl.1 rfl (Nat.le_of_ble_eq_true rfl) ⟨Nat.zero_le _, Nat.zero_le _⟩ dX0_list_38 (fun H locs hW => ?_)
        obtain ⟨q8, hq8, hf⟩ := bnd hf
        refine aw_cSi (rest := []) C0 hW (c_X7_comparesWithValue q7  hq8) (cw_X0_36 hts ⟨Nat.le_of_ble_eq_true rfl, Nat.le_of_ble_eq_true rfl⟩) rfl hl.1 rfl (Nat.le_of_ble_eq_true rfl) ⟨Nat.zero_le _, Nat.zero_le _⟩ dX0_list_41 (fun H locs hW => ?_)
        refine lv_if_eq (tgt := 59) hx hb dX0_list_44 rfl (fun hc => ?_) (fun hc => ?_)
        · have hf := ift hc hf
          refine lv_iinc (k := 3) (v := w3 + 1) (lv' := [(3, .int (w3 + 1)), (0, .ref (g.2.2 + 16)), (1, va_rf (o1.map (fun y => g.2.2 + y))), (2, .ref (g.2.2 + a2))]) hx hb dX0_list_59 hl rfl (congrArg (fun t => w3 + t) (by decide : Int32.ofInt 1 = 1)) (Nat.le_of_ble_eq_true rfl) rfl (fun ls hl => ?_)
          refine lv_goto (tgt := 28) hx hb dX0_list_62 rfl ?_
          exact ih _ _ H locs ls o hf hW (lv_sub hl [1, 2, 3, 0] rfl) hK
        · have hf := iff_ hc hf
          refine lv_aload_n hx hb dX0_list_47 rfl (lv_at hl 0 rfl) ?_
          refine aw_ald_n (x := o1) C0 dX0_list_48 rfl (lv_at hl 1 rfl) ?_
          refine lv_iload_n hx hb dX0_list_49 rfl (lv_at hl 3 rfl) ?_
          obtain ⟨k9, ek9, hf⟩ := bnd hf
          have hk9 := ho1 k9 ek9
          refine W.eq (g2 := F0 m 50 ls ([.int w3, .ref (g.2.2 + k9), .ref (g.2.2 + 16)])) (by rw [ek9]; rfl) ?_
          obtain ⟨q10, hq10, hf⟩ := bnd hf
          refine aw_cVi (rest := [.ref (g.2.2 + 16)]) C0 hW (lv_kd hW.1.2.2 hk9 (by decide)) (cel_2 hk9) rfl (c_X2_step k9 w3 hk9 hq10) (cw_X0_32 hts ⟨Nat.le_of_ble_eq_true rfl, Nat.le_of_ble_eq_true rfl⟩) rfl hl.1 rfl (Nat.le_of_ble_eq_true rfl) ⟨Nat.zero_le _, Nat.zero_le _⟩ dX0_list_50 (fun H locs hW => ?_)
          obtain ⟨q11, hq11, hf⟩ := bnd hf
          refine aw_cSi (rest := [.ref (g.2.2 + 16)]) C0 hW (c_X7_valueOf q10  hq11) (cw_X0_42 hts ⟨Nat.le_of_ble_eq_true rfl, Nat.le_of_ble_eq_true rfl⟩) rfl hl.1 rfl (Nat.le_of_ble_eq_true rfl) ⟨Nat.zero_le _, Nat.zero_le _⟩ dX0_list_53 (fun H locs hW => ?_)
          obtain ⟨q12, hq12, hf⟩ := bnd hf
          refine aw_cVv (rest := []) C0 hW (lv_fix (by decide)) (cel_0 kd16) rfl (c_X0_mark q11  hq12) (cw_X0_23 hts ⟨Nat.le_of_ble_eq_true rfl, Nat.le_of_ble_eq_true rfl⟩) rfl hl.1 rfl (Nat.le_of_ble_eq_true rfl) ⟨Nat.zero_le _, Nat.zero_le _⟩ dX0_list_56 (fun H locs hW => ?_)
          refine lv_iinc (k := 3) (v := w3 + 1) (lv' := [(3, .int (w3 + 1)), (0, .ref (g.2.2 + 16)), (1, va_rf (o1.map (fun y => g.2.2 + y))), (2, .ref (g.2.2 + a2))]) hx hb dX0_list_59 hl rfl (congrArg (fun t => w3 + t) (by decide : Int32.ofInt 1 = 1)) (Nat.le_of_ble_eq_true rfl) rfl (fun ls hl => ?_)
          refine lv_goto (tgt := 28) hx hb dX0_list_62 rfl ?_
          exact ih _ _ H locs ls o hf hW (lv_sub hl [1, 2, 3, 0] rfl) hK
  have L67 : ∀ (R : Rem) (n : Nat) (w3 : Int32) (I : Mem) (H : Heap) (locs : List Loc) (ls : Array Slot) (o : Mem), f_X0_list_L67 o1 a2 P R n w3 I = some o → Wd g I R P Z s.heap H locs → lv_has ls 4 [(0, .ref (g.2.2 + 16)), (2, .ref (g.2.2 + a2)), (3, .int w3)] → (∀ (H : Heap) (locs : List Loc) (ls : Array Slot), Wd g o R P Z s.heap H locs → lv_has ls 4 [(0, .ref (g.2.2 + 16))] → W p0 l e rmX0_list s m args below meth c H locs 0 0 (MQ below (QV g z R P Z) args s 0 0 (AA g)) (F0 m 93 ls [])) → W p0 l e rmX0_list s m args below meth c H locs 0 0 (MQ below (QV g z R P Z) args s 0 0 (AA g)) (F0 m 67 ls []) := by
    intro R n
    induction n with
    | zero => intro w3 I H locs ls o hf; cases hf
    | succ n ih =>
      intro w3 I H locs ls o hf hW hl hK
      rw [f_X0_list_L67] at hf
      refine lv_iload_n hx hb dX0_list_67 rfl (lv_at hl 2 rfl) ?_
      refine lv_aload_n hx hb dX0_list_68 rfl (lv_at hl 1 rfl) ?_
      refine aw_alen (v := Int32.ofNat (Ln P a2)) C0 hW ha2 rfl rfl dX0_list_69 ?_
      refine lv_icmp_ge (tgt := 93) hx hb dX0_list_70 rfl (fun hc => ?_) (fun hc => ?_)
      · have hf := ift hc hf
        have ho := Option.some.inj hf
        subst ho
        exact hK H locs ls hW (lv_sub hl [0] rfl)
      · have hf := iff_ hc hf
        refine lv_aload_n hx hb dX0_list_73 rfl (lv_at hl 1 rfl) ?_
        refine lv_iload_n hx hb dX0_list_74 rfl (lv_at hl 2 rfl) ?_
        obtain ⟨v14, hv14, hf⟩ := bnd hf
        refine aw_iald C0 hW ha2 rfl hv14 dX0_list_75 ?_
        refine lv_iconst (v := (-1)) hx hb dX0_list_76 (by decide) ?_
        refine lv_icmp_eq (tgt := 87) hx hb dX0_list_77 rfl (fun hc => ?_) (fun hc => ?_)
        · have hf := ift hc hf
          refine lv_iinc (k := 2) (v := w3 + 1) (lv' := [(3, .int (w3 + 1)), (0, .ref (g.2.2 + 16)), (2, .ref (g.2.2 + a2))]) hx hb dX0_list_87 hl rfl (congrArg (fun t => w3 + t) (by decide : Int32.ofInt 1 = 1)) (Nat.le_of_ble_eq_true rfl) rfl (fun ls hl => ?_)
          refine lv_goto (tgt := 67) hx hb dX0_list_90 rfl ?_
          exact ih _ _ H locs ls o hf hW (lv_sub hl [1, 2, 0] rfl) hK
        · have hf := iff_ hc hf
          refine lv_aload_n hx hb dX0_list_80 rfl (lv_at hl 0 rfl) ?_
          refine lv_aload_n hx hb dX0_list_81 rfl (lv_at hl 1 rfl) ?_
          refine lv_iload_n hx hb dX0_list_82 rfl (lv_at hl 2 rfl) ?_
          obtain ⟨v15, hv15, hf⟩ := bnd hf
          refine aw_iald C0 hW ha2 rfl hv15 dX0_list_83 ?_
          obtain ⟨q16, hq16, hf⟩ := bnd hf
          refine aw_cVv (rest := []) C0 hW (lv_fix (by decide)) (cel_0 kd16) rfl (c_X0_mark v15  hq16) (cw_X0_23 hts ⟨Nat.le_of_ble_eq_true rfl, Nat.le_of_ble_eq_true rfl⟩) rfl hl.1 rfl (Nat.le_of_ble_eq_true rfl) ⟨Nat.zero_le _, Nat.zero_le _⟩ dX0_list_84 (fun H locs hW => ?_)
          refine lv_iinc (k := 2) (v := w3 + 1) (lv' := [(3, .int (w3 + 1)), (0, .ref (g.2.2 + 16)), (2, .ref (g.2.2 + a2))]) hx hb dX0_list_87 hl rfl (congrArg (fun t => w3 + t) (by decide : Int32.ofInt 1 = 1)) (Nat.le_of_ble_eq_true rfl) rfl (fun ls hl => ?_)
          refine lv_goto (tgt := 67) hx hb dX0_list_90 rfl ?_
          exact ih _ _ H locs ls o hf hW (lv_sub hl [1, 2, 0] rfl) hK
  have L100 : ∀ (R : Rem) (n : Nat) (w3 : Int32) (I : Mem) (H : Heap) (locs : List Loc) (ls : Array Slot) (o : Mem), f_X0_list_L100 o1 a2 P R n w3 I = some o → Wd g I R P Z s.heap H locs → lv_has ls 4 [(0, .ref (g.2.2 + 16)), (3, .int w3)] → (∀ (H : Heap) (locs : List Loc) (ls : Array Slot), Wd g o R P Z s.heap H locs → lv_has ls 4 [] → W p0 l e rmX0_list s m args below meth c H locs 0 0 (MQ below (QV g z R P Z) args s 0 0 (AA g)) (F0 m 141 ls [])) → W p0 l e rmX0_list s m args below meth c H locs 0 0 (MQ below (QV g z R P Z) args s 0 0 (AA g)) (F0 m 100 ls []) := by
    intro R n
    induction n with
    | zero => intro w3 I H locs ls o hf; cases hf
    | succ n ih =>
      intro w3 I H locs ls o hf hW hl hK
      rw [f_X0_list_L100] at hf
      refine lv_iload_n hx hb dX0_list_100 rfl (lv_at hl 1 rfl) ?_
      refine lv_bipush (v := 100) hx hb dX0_list_101 (by decide) ?_
      refine lv_icmp_ge (tgt := 141) hx hb dX0_list_103 rfl (fun hc => ?_) (fun hc => ?_)
      · have hf := ift hc hf
        have ho := Option.some.inj hf
        subst ho
        exact hK H locs ls hW (lv_sub hl [] rfl)
      · have hf := iff_ hc hf
        refine lv_aload_n hx hb dX0_list_106 rfl (lv_at hl 0 rfl) ?_
        refine aw_get (v := .ref (g.2.2 + 17)) C0 hW (lv_fix (by decide)) (cel_0 kd16) rfl inG0 0 (by decide) wd32 rfl rfl dX0_list_107 ?_
        refine lv_iload_n hx hb dX0_list_110 rfl (lv_at hl 1 rfl) ?_
        obtain ⟨v18, hv18, hf⟩ := bnd hf
        refine aw_zald C0 hW kd17 ln17 hv18 dX0_list_111 ?_
        refine lv_if_eq (tgt := 135) hx hb dX0_list_112 rfl (fun hc => ?_) (fun hc => ?_)
        · have hf := ift hc hf
          refine lv_iinc (k := 1) (v := w3 + 1) (lv' := [(3, .int (w3 + 1)), (0, .ref (g.2.2 + 16))]) hx hb dX0_list_135 hl rfl (congrArg (fun t => w3 + t) (by decide : Int32.ofInt 1 = 1)) (Nat.le_of_ble_eq_true rfl) rfl (fun ls hl => ?_)
          refine lv_goto (tgt := 100) hx hb dX0_list_138 rfl ?_
          exact ih _ _ H locs ls o hf hW (lv_sub hl [1, 0] rfl) hK
        · have hf := iff_ hc hf
          refine lv_aload_n hx hb dX0_list_115 rfl (lv_at hl 0 rfl) ?_
          refine aw_get (v := .ref (g.2.2 + 18)) C0 hW (lv_fix (by decide)) (cel_0 kd16) rfl inG0 1 (by decide) wd34 rfl rfl dX0_list_116 ?_
          refine lv_aload_n hx hb dX0_list_119 rfl (lv_at hl 0 rfl) ?_
          refine aw_get (v := .int (I 16 2)) C0 hW (lv_fix (by decide)) (cel_0 kd16) rfl inG0 2 (by decide) wd33 rfl rfl dX0_list_120 ?_
          refine lv_iload_n hx hb dX0_list_123 rfl (lv_at hl 1 rfl) ?_
          obtain ⟨I19, hI19, hf⟩ := bnd hf
          refine aw_iast C0 hW kd18 ln18 hI19 dX0_list_124 (fun H locs hW => ?_)
          refine lv_aload_n hx hb dX0_list_125 rfl (lv_at hl 0 rfl) ?_
          refine lv_dup hx hb dX0_list_126 rfl ?_
          refine aw_get (v := .int (I19 16 2)) C0 hW (lv_fix (by decide)) (cel_0 kd16) rfl inG0 2 (by decide) wd33 rfl rfl dX0_list_127 ?_
          refine lv_iconst (v := 1) hx hb dX0_list_130 (by decide) ?_
          refine lv_iadd hx hb dX0_list_131 ?_
          refine aw_put C0 hW (lv_fix (by decide)) (cel_0 kd16) rfl inG0 tyX0 tyX0_ok nmX0 2 (by decide) wd33 rfl rfl (ty := .int) rfl rfl rfl (Nat.le_of_ble_eq_true rfl) (pu_0_2 kd16) dX0_list_132 (fun H locs hW => ?_)
          refine lv_iinc (k := 1) (v := w3 + 1) (lv' := [(3, .int (w3 + 1)), (0, .ref (g.2.2 + 16))]) hx hb dX0_list_135 hl rfl (congrArg (fun t => w3 + t) (by decide : Int32.ofInt 1 = 1)) (Nat.le_of_ble_eq_true rfl) rfl (fun ls hl => ?_)
          refine lv_goto (tgt := 100) hx hb dX0_list_138 rfl ?_
          exact ih _ _ H locs ls o hf hW (lv_sub hl [1, 0] rfl) hK
  unfold f_X0_list at hf
  obtain ⟨H, hH⟩ : ∃ H, H = s.heap := ⟨_, rfl⟩
  obtain ⟨locs, hlc⟩ : ∃ q : List Loc, q = [] := ⟨_, rfl⟩
  rw [show W p0 l e rmX0_list s m args below meth c s.heap [] 0 0 (MQ below (QV g z R P Z) args s 0 0 (AA g)) (F0 m 0 ls []) = W p0 l e rmX0_list s m args below meth c H locs 0 0 (MQ below (QV g z R P Z) args s 0 0 (AA g)) (F0 m 0 ls []) by rw [hH, hlc]]
  have hW : Wd g I R P Z s.heap H locs := by rw [hH, hlc]; exact hW
  refine lv_iconst (v := 0) hx hb dX0_list_0 (by decide) ?_
  refine lv_istore_n (lv' := [(3, .int 0), (0, .ref (g.2.2 + 16)), (1, va_rf (o1.map (fun y => g.2.2 + y))), (2, .ref (g.2.2 + a2))]) hx hb dX0_list_1 rfl hl (Nat.le_of_ble_eq_true rfl) rfl (fun ls hl => ?_)
  obtain ⟨q2, hq2, hf⟩ := bnd hf
  refine L2 R fuel 0 I H locs ls _ hq2 hW (lv_sub hl [1, 2, 3, 0] rfl) (fun H locs ls hW hl => ?_)
  refine lv_aload_n hx hb dX0_list_21 rfl (lv_at hl 0 rfl) ?_
  refine lv_iconst (v := 0) hx hb dX0_list_22 (by decide) ?_
  obtain ⟨q3, hq3, hf⟩ := bnd hf
  refine aw_cVv (rest := []) C0 hW (lv_fix (by decide)) (cel_0 kd16) rfl (c_X0_mark 0  hq3) (cw_X0_23 hts ⟨Nat.le_of_ble_eq_true rfl, Nat.le_of_ble_eq_true rfl⟩) rfl hl.1 rfl (Nat.le_of_ble_eq_true rfl) ⟨Nat.zero_le _, Nat.zero_le _⟩ dX0_list_23 (fun H locs hW => ?_)
  refine lv_iconst (v := 0) hx hb dX0_list_26 (by decide) ?_
  refine lv_istore_n (lv' := [(3, .int 0), (0, .ref (g.2.2 + 16)), (1, va_rf (o1.map (fun y => g.2.2 + y))), (2, .ref (g.2.2 + a2))]) hx hb dX0_list_27 rfl hl (Nat.le_of_ble_eq_true rfl) rfl (fun ls hl => ?_)
  obtain ⟨q13, hq13, hf⟩ := bnd hf
  refine L28 R fuel 0 q3 H locs ls _ hq13 hW (lv_sub hl [1, 2, 3, 0] rfl) (fun H locs ls hW hl => ?_)
  refine lv_iconst (v := 0) hx hb dX0_list_65 (by decide) ?_
  refine lv_istore_n (lv' := [(3, .int 0), (0, .ref (g.2.2 + 16)), (2, .ref (g.2.2 + a2))]) hx hb dX0_list_66 rfl hl (Nat.le_of_ble_eq_true rfl) rfl (fun ls hl => ?_)
  obtain ⟨q17, hq17, hf⟩ := bnd hf
  refine L67 R fuel 0 q13 H locs ls _ hq17 hW (lv_sub hl [1, 2, 0] rfl) (fun H locs ls hW hl => ?_)
  refine lv_aload_n hx hb dX0_list_93 rfl (lv_at hl 0 rfl) ?_
  refine lv_iconst (v := 0) hx hb dX0_list_94 (by decide) ?_
  refine aw_put C0 hW (lv_fix (by decide)) (cel_0 kd16) rfl inG0 tyX0 tyX0_ok nmX0 2 (by decide) wd33 rfl rfl (ty := .int) rfl rfl rfl (Nat.le_of_ble_eq_true rfl) (pu_0_2 kd16) dX0_list_95 (fun H locs hW => ?_)
  refine lv_iconst (v := 0) hx hb dX0_list_98 (by decide) ?_
  refine lv_istore_n (lv' := [(3, .int 0), (0, .ref (g.2.2 + 16))]) hx hb dX0_list_99 rfl hl (Nat.le_of_ble_eq_true rfl) rfl (fun ls hl => ?_)
  obtain ⟨q20, hq20, hf⟩ := bnd hf
  refine L100 R fuel 0 ((up q17 16 2 0)) H locs ls _ hq20 hW (lv_sub hl [1, 0] rfl) (fun H locs ls hW hl => ?_)
  have hz := Option.some.inj hf
  exact aw_vret C0 hW hz rfl dX0_list_141
def f_X8_lowestBit_L2 (x0 : Int32) : Nat → Int32 → Option (Int32)
  | 0, _ => none
  | n + 1, w1 =>
    if 4 ≤ w1 then (
      some w1
    ) else (
      (f_X8_hasBit x0 w1).bind fun q1 =>
      if q1 = 0 then (
        f_X8_lowestBit_L2 x0 n (w1 + 1)
      ) else (
        some w1
      )
    )
def f_X8_lowestBit (x0 : Int32) : Option (Int32) :=
  (f_X8_lowestBit_L2 x0 fuel 0).bind fun q2 =>
  some q2
abbrev rmX8_lowestBit : Room := { frames := 1, cells := 0, slots := 0, locals := 21 }
set_option maxHeartbeats 4000000 in
set_option maxRecDepth 100000 in
theorem c_X8_lowestBit {l : Launch} {g : Gam} {I : Mem} {R : Rem} {P : Pool} {Z : Zed} (x0 : Int32)  {z : Int32} (hf : f_X8_lowestBit x0 = some z) : Met l yX8_lowestBit (Cond.code yX8_lowestBit cX8_lowestBit 2 (some .int) :: GT) rmX8_lowestBit (va_Pc [.int x0] (PW g I R P Z)) (QI g z I R P Z) 0 0 (AA g) := by
  refine aw_ofW (lv0 := [(0, .int x0)]) (by decide) (by exact Nat.le_of_ble_eq_true rfl) (by rfl) (fun p0 e s m args below meth c ls C0 hl hW => ?_)
  have C0 : CX g p0 s m args meth c RX8 cX8_lowestBit 2 (some .int) := C0
  have hx := C0.1; have hb := C0.2.1; have hown := C0.2.2.2.2.1; have hts := C0.2.2.2.2.2.1; have hKS := C0.2.2.2.2.2.2.1
  have L2 : ∀ (n : Nat) (w1 : Int32) (H : Heap) (locs : List Loc) (ls : Array Slot) (o : Int32), f_X8_lowestBit_L2 x0 n w1 = some o → Wd g I R P Z s.heap H locs → lv_has ls 2 [(0, .int x0), (1, .int w1)] → (∀ (H : Heap) (locs : List Loc) (ls : Array Slot), Wd g I R P Z s.heap H locs → lv_has ls 2 [(1, .int o)] → W p0 l e rmX8_lowestBit s m args below meth c H locs 0 0 (MQ below (QI g z I R P Z) args s 0 0 (AA g)) (F0 m 21 ls [])) → W p0 l e rmX8_lowestBit s m args below meth c H locs 0 0 (MQ below (QI g z I R P Z) args s 0 0 (AA g)) (F0 m 2 ls []) := by
    intro n
    induction n with
    | zero => intro w1 H locs ls o hf; cases hf
    | succ n ih =>
      intro w1 H locs ls o hf hW hl hK
      rw [f_X8_lowestBit_L2] at hf
      refine lv_iload_n hx hb dX8_lowestBit_2 rfl (lv_at hl 1 rfl) ?_
      refine lv_iconst (v := 4) hx hb dX8_lowestBit_3 (by decide) ?_
      refine lv_icmp_ge (tgt := 21) hx hb dX8_lowestBit_4 rfl (fun hc => ?_) (fun hc => ?_)
      · have hf := ift hc hf
        have ho := Option.some.inj hf
        subst ho
        exact hK H locs ls hW (lv_sub hl [1] rfl)
      · have hf := iff_ hc hf
        refine lv_iload_n hx hb dX8_lowestBit_7 rfl (lv_at hl 0 rfl) ?_
        refine lv_iload_n hx hb dX8_lowestBit_8 rfl (lv_at hl 1 rfl) ?_
        obtain ⟨q1, hq1, hf⟩ := bnd hf
        refine aw_cSi (rest := []) C0 hW (c_X8_hasBit x0 w1  hq1) (cw_X8_185 hts ⟨Nat.le_of_ble_eq_true rfl, Nat.le_of_ble_eq_true rfl⟩) rfl hl.1 rfl (Nat.le_of_ble_eq_true rfl) ⟨Nat.zero_le _, Nat.zero_le _⟩ dX8_lowestBit_9 (fun H locs hW => ?_)
        refine lv_if_ne (tgt := 21) hx hb dX8_lowestBit_12 rfl (fun hc => ?_) (fun hc => ?_)
        · have hf := iff_ hc hf
          have ho := Option.some.inj hf
          subst ho
          exact hK H locs ls hW (lv_sub hl [1] rfl)
        · have hf := ift hc hf
          refine lv_iinc (k := 1) (v := w1 + 1) (lv' := [(1, .int (w1 + 1)), (0, .int x0)]) hx hb dX8_lowestBit_15 hl rfl (congrArg (fun t => w1 + t) (by decide : Int32.ofInt 1 = 1)) (Nat.le_of_ble_eq_true rfl) rfl (fun ls hl => ?_)
          refine lv_goto (tgt := 2) hx hb dX8_lowestBit_18 rfl ?_
          exact ih _ H locs ls o hf hW (lv_sub hl [1, 0] rfl) hK
  unfold f_X8_lowestBit at hf
  obtain ⟨H, hH⟩ : ∃ H, H = s.heap := ⟨_, rfl⟩
  obtain ⟨locs, hlc⟩ : ∃ q : List Loc, q = [] := ⟨_, rfl⟩
  rw [show W p0 l e rmX8_lowestBit s m args below meth c s.heap [] 0 0 (MQ below (QI g z I R P Z) args s 0 0 (AA g)) (F0 m 0 ls []) = W p0 l e rmX8_lowestBit s m args below meth c H locs 0 0 (MQ below (QI g z I R P Z) args s 0 0 (AA g)) (F0 m 0 ls []) by rw [hH, hlc]]
  have hW : Wd g I R P Z s.heap H locs := by rw [hH, hlc]; exact hW
  refine lv_iconst (v := 0) hx hb dX8_lowestBit_0 (by decide) ?_
  refine lv_istore_n (lv' := [(1, .int 0), (0, .int x0)]) hx hb dX8_lowestBit_1 rfl hl (Nat.le_of_ble_eq_true rfl) rfl (fun ls hl => ?_)
  obtain ⟨q2, hq2, hf⟩ := bnd hf
  refine L2  fuel 0 H locs ls _ hq2 hW (lv_sub hl [1, 0] rfl) (fun H locs ls hW hl => ?_)
  refine lv_iload_n hx hb dX8_lowestBit_21 rfl (lv_at hl 0 rfl) ?_
  have hz := Option.some.inj hf
  exact aw_iret C0 hW hz rfl rfl dX8_lowestBit_22
theorem cw_X8_357 {Rm : Room} {s : State} {args : Array Value} (ht : ∀ w ∈ GT, w.before args s = true) (hR : rmX8_lowestBit.frames + 1 ≤ Rm.frames ∧ 8 + (2 + 11) + rmX8_lowestBit.locals ≤ Rm.locals) : CallB Rm s args RX8 357 yX8_lowestBit cX8_lowestBit 2 (some .int) (Cond.code yX8_lowestBit cX8_lowestBit 2 (some .int) :: GT) rmX8_lowestBit 0 0 1 ∧ (Cond.static yX8_lowestBit).before args s = true := va_cwS 1 ht (goodS wd329 wd330 wd243 wd331) rfl rfl rfl ⟨by decide +kernel, by decide +kernel, by decide +kernel⟩ hR
def f_X0_size (I : Mem) : Option (Int32) :=
  some (I 16 2)
abbrev rmX0_size : Room := { frames := 0, cells := 0, slots := 0, locals := 0 }
set_option maxHeartbeats 4000000 in
set_option maxRecDepth 100000 in
theorem c_X0_size {l : Launch} {g : Gam} {I : Mem} {R : Rem} {P : Pool} {Z : Zed}   {z : Int32} (hf : f_X0_size I = some z) : Met l yX0_size (Cond.code yX0_size cX0_size 1 (some .int) :: GT) rmX0_size (va_Pc [.ref (g.2.2 + 16)] (PW g I R P Z)) (QI g z I R P Z) 0 0 (AA g) := by
  refine aw_ofW (lv0 := [(0, .ref (g.2.2 + 16))]) (by decide) (by exact Nat.le_of_ble_eq_true rfl) (by rfl) (fun p0 e s m args below meth c ls C0 hl hW => ?_)
  have C0 : CX g p0 s m args meth c RX0 cX0_size 1 (some .int) := C0
  have hx := C0.1; have hb := C0.2.1; have hown := C0.2.2.2.2.1; have hts := C0.2.2.2.2.2.1; have hKS := C0.2.2.2.2.2.2.1
  unfold f_X0_size at hf
  obtain ⟨H, hH⟩ : ∃ H, H = s.heap := ⟨_, rfl⟩
  obtain ⟨locs, hlc⟩ : ∃ q : List Loc, q = [] := ⟨_, rfl⟩
  rw [show W p0 l e rmX0_size s m args below meth c s.heap [] 0 0 (MQ below (QI g z I R P Z) args s 0 0 (AA g)) (F0 m 0 ls []) = W p0 l e rmX0_size s m args below meth c H locs 0 0 (MQ below (QI g z I R P Z) args s 0 0 (AA g)) (F0 m 0 ls []) by rw [hH, hlc]]
  have hW : Wd g I R P Z s.heap H locs := by rw [hH, hlc]; exact hW
  refine lv_aload_n hx hb dX0_size_0 rfl (lv_at hl 0 rfl) ?_
  refine aw_get (v := .int (I 16 2)) C0 hW (lv_fix (by decide)) (cel_0 kd16) rfl inG0 2 (by decide) wd33 rfl rfl dX0_size_1 ?_
  have hz := Option.some.inj hf
  exact aw_iret C0 hW hz rfl rfl dX0_size_4
theorem cw_X8_360 {Rm : Room} {s : State} {args : Array Value} (ht : ∀ w ∈ GT, w.before args s = true) (hR : rmX0_size.frames + 1 ≤ Rm.frames ∧ 8 + (1 + 11) + rmX0_size.locals ≤ Rm.locals) : CallW Rm s args RX8 RX0 360 yX0_size cX0_size 1 (some .int) (Cond.code yX0_size cX0_size 1 (some .int) :: GT) rmX0_size 0 0 0 := cwV 0 ht (goodV wd332 wd333 wd334 wd78 wd335) rfl rfl rfl ⟨rfl, by decide +kernel, by decide +kernel, by decide +kernel⟩ hR
def f_X0_valueAt (x1 : Int32) (I : Mem) : Option (Int32) :=
  if x1 < 0 then (
    some 0
  ) else (
    if (I 16 2) ≤ x1 then (
      some 0
    ) else (
      (rd I 18 100 x1).bind fun v1 =>
      some v1
    )
  )
abbrev rmX0_valueAt : Room := { frames := 0, cells := 0, slots := 0, locals := 0 }
set_option maxHeartbeats 4000000 in
set_option maxRecDepth 100000 in
theorem c_X0_valueAt {l : Launch} {g : Gam} {I : Mem} {R : Rem} {P : Pool} {Z : Zed} (x1 : Int32)  {z : Int32} (hf : f_X0_valueAt x1 I = some z) : Met l yX0_valueAt (Cond.code yX0_valueAt cX0_valueAt 2 (some .int) :: GT) rmX0_valueAt (va_Pc [.ref (g.2.2 + 16), .int x1] (PW g I R P Z)) (QI g z I R P Z) 0 0 (AA g) := by
  refine aw_ofW (lv0 := [(0, .ref (g.2.2 + 16)), (1, .int x1)]) (by decide) (by exact Nat.le_of_ble_eq_true rfl) (by rfl) (fun p0 e s m args below meth c ls C0 hl hW => ?_)
  have C0 : CX g p0 s m args meth c RX0 cX0_valueAt 2 (some .int) := C0
  have hx := C0.1; have hb := C0.2.1; have hown := C0.2.2.2.2.1; have hts := C0.2.2.2.2.2.1; have hKS := C0.2.2.2.2.2.2.1
  unfold f_X0_valueAt at hf
  obtain ⟨H, hH⟩ : ∃ H, H = s.heap := ⟨_, rfl⟩
  obtain ⟨locs, hlc⟩ : ∃ q : List Loc, q = [] := ⟨_, rfl⟩
  rw [show W p0 l e rmX0_valueAt s m args below meth c s.heap [] 0 0 (MQ below (QI g z I R P Z) args s 0 0 (AA g)) (F0 m 0 ls []) = W p0 l e rmX0_valueAt s m args below meth c H locs 0 0 (MQ below (QI g z I R P Z) args s 0 0 (AA g)) (F0 m 0 ls []) by rw [hH, hlc]]
  have hW : Wd g I R P Z s.heap H locs := by rw [hH, hlc]; exact hW
  refine lv_iload_n hx hb dX0_valueAt_0 rfl (lv_at hl 1 rfl) ?_
  refine lv_if_lt (tgt := 21) hx hb dX0_valueAt_1 rfl (fun hc => ?_) (fun hc => ?_)
  · have hf := ift hc hf
    refine lv_iconst (v := 0) hx hb dX0_valueAt_21 (by decide) ?_
    have hz := Option.some.inj hf
    exact aw_iret C0 hW hz rfl rfl dX0_valueAt_22
  · have hf := iff_ hc hf
    refine lv_iload_n hx hb dX0_valueAt_4 rfl (lv_at hl 1 rfl) ?_
    refine lv_aload_n hx hb dX0_valueAt_5 rfl (lv_at hl 0 rfl) ?_
    refine aw_get (v := .int (I 16 2)) C0 hW (lv_fix (by decide)) (cel_0 kd16) rfl inG0 2 (by decide) wd33 rfl rfl dX0_valueAt_6 ?_
    refine lv_icmp_ge (tgt := 21) hx hb dX0_valueAt_9 rfl (fun hc => ?_) (fun hc => ?_)
    · have hf := ift hc hf
      refine lv_iconst (v := 0) hx hb dX0_valueAt_21 (by decide) ?_
      have hz := Option.some.inj hf
      exact aw_iret C0 hW hz rfl rfl dX0_valueAt_22
    · have hf := iff_ hc hf
      refine lv_aload_n hx hb dX0_valueAt_12 rfl (lv_at hl 0 rfl) ?_
      refine aw_get (v := .ref (g.2.2 + 18)) C0 hW (lv_fix (by decide)) (cel_0 kd16) rfl inG0 1 (by decide) wd34 rfl rfl dX0_valueAt_13 ?_
      refine lv_iload_n hx hb dX0_valueAt_16 rfl (lv_at hl 1 rfl) ?_
      obtain ⟨v1, hv1, hf⟩ := bnd hf
      refine aw_iald C0 hW kd18 ln18 hv1 dX0_valueAt_17 ?_
      refine lv_goto (tgt := 22) hx hb dX0_valueAt_18 rfl ?_
      have hz := Option.some.inj hf
      exact aw_iret C0 hW hz rfl rfl dX0_valueAt_22
theorem cw_X8_361 {Rm : Room} {s : State} {args : Array Value} (ht : ∀ w ∈ GT, w.before args s = true) (hR : rmX0_valueAt.frames + 1 ≤ Rm.frames ∧ 8 + (2 + 11) + rmX0_valueAt.locals ≤ Rm.locals) : CallW Rm s args RX8 RX0 361 yX0_valueAt cX0_valueAt 2 (some .int) (Cond.code yX0_valueAt cX0_valueAt 2 (some .int) :: GT) rmX0_valueAt 0 0 1 := cwV 1 ht (goodV wd336 wd337 wd338 wd78 wd339) rfl rfl rfl ⟨rfl, by decide +kernel, by decide +kernel, by decide +kernel⟩ hR
def f_X8_certainty_L105 (o1 : Option Nat) (x2 : Int32) (x3 : Int32) (P : Pool) (y4 : Int32) (y5 : Int32) (y6 : Int32) (y7 : Int32) (y10 : Int32) (R : Rem) : Nat → Int32 → Int32 → Int32 → Mem → Option (Int32 × Int32 × Mem)
  | 0, _, _, _, _ => none
  | n + 1, w8, w9, w11, I =>
    if y7 ≤ w11 then (
      some (w8, w9, I)
    ) else (
      if w8 = 0 then (
        ((
          if 4 ≤ y5 then (
            some I
          ) else (
            (f_X0_valueAt w11 I).bind fun q11 =>
            (wr I 10 4 y5 q11).bind fun I12 =>
            some I12
          )
        ) : Option (Mem)).bind fun q10 =>
        (f_X1_truthOf o1 10 x2 P R q10).bind fun q13 =>
        if q13.1 = 2 then (
          f_X8_certainty_L105 o1 x2 x3 P y4 y5 y6 y7 y10 R n 1 w9 (w11 + 1) q13.2
        ) else (
          f_X8_certainty_L105 o1 x2 x3 P y4 y5 y6 y7 y10 R n w8 1 (w11 + 1) q13.2
        )
      ) else (
        if w9 = 0 then (
          ((
            if 4 ≤ y5 then (
              some I
            ) else (
              (f_X0_valueAt w11 I).bind fun q15 =>
              (wr I 10 4 y5 q15).bind fun I16 =>
              some I16
            )
          ) : Option (Mem)).bind fun q14 =>
          (f_X1_truthOf o1 10 x2 P R q14).bind fun q17 =>
          if q17.1 = 2 then (
            f_X8_certainty_L105 o1 x2 x3 P y4 y5 y6 y7 y10 R n 1 w9 (w11 + 1) q17.2
          ) else (
            f_X8_certainty_L105 o1 x2 x3 P y4 y5 y6 y7 y10 R n w8 1 (w11 + 1) q17.2
          )
        ) else (
          some (w8, w9, I)
        )
      )
    )
def f_X8_certainty_L63 (o1 : Option Nat) (x2 : Int32) (x3 : Int32) (P : Pool) (y4 : Int32) (y5 : Int32) (y6 : Int32) (y7 : Int32) (R : Rem) : Nat → Int32 → Int32 → Int32 → Mem → Option (Int32 × Int32 × Mem)
  | 0, _, _, _, _ => none
  | n + 1, w8, w9, w10, I =>
    if y6 ≤ w10 then (
      some (w8, w9, I)
    ) else (
      if w8 = 0 then (
        ((
          if 4 ≤ y4 then (
            some I
          ) else (
            (f_X0_valueAt w10 I).bind fun q8 =>
            (wr I 10 4 y4 q8).bind fun I9 =>
            some I9
          )
        ) : Option (Mem)).bind fun q7 =>
        (f_X8_certainty_L105 o1 x2 x3 P y4 y5 y6 y7 w10 R fuel w8 w9 0 q7).bind fun q18 =>
        f_X8_certainty_L63 o1 x2 x3 P y4 y5 y6 y7 R n q18.1 q18.2.1 (w10 + 1) q18.2.2
      ) else (
        if w9 = 0 then (
          ((
            if 4 ≤ y4 then (
              some I
            ) else (
              (f_X0_valueAt w10 I).bind fun q20 =>
              (wr I 10 4 y4 q20).bind fun I21 =>
              some I21
            )
          ) : Option (Mem)).bind fun q19 =>
          (f_X8_certainty_L105 o1 x2 x3 P y4 y5 y6 y7 w10 R fuel w8 w9 0 q19).bind fun q22 =>
          f_X8_certainty_L63 o1 x2 x3 P y4 y5 y6 y7 R n q22.1 q22.2.1 (w10 + 1) q22.2.2
        ) else (
          some (w8, w9, I)
        )
      )
    )
def f_X8_certainty (o1 : Option Nat) (x2 : Int32) (x3 : Int32) (P : Pool) (R : Rem) (I : Mem) : Option (Int32 × Mem) :=
  (f_X8_lowestBit x3).bind fun q1 =>
  (f_X8_lowestBit (x3 &&& (x3 - 1))).bind fun q2 =>
  ((
    if 4 ≤ q1 then (
      some 1
    ) else (
      (f_X0_size I).bind fun q4 =>
      some q4
    )
  ) : Option (Int32)).bind fun q3 =>
  ((
    if 4 ≤ q2 then (
      some 1
    ) else (
      (f_X0_size I).bind fun q6 =>
      some q6
    )
  ) : Option (Int32)).bind fun q5 =>
  (f_X8_certainty_L63 o1 x2 x3 P q1 q2 q3 q5 R fuel 0 0 0 I).bind fun q23 =>
  if q23.1 = 0 then (
    if q23.1 = 0 then (
      some (0, q23.2.2)
    ) else (
      some (2, q23.2.2)
    )
  ) else (
    if q23.2.1 = 0 then (
      if q23.1 = 0 then (
        some (0, q23.2.2)
      ) else (
        some (2, q23.2.2)
      )
    ) else (
      some (1, q23.2.2)
    )
  )
abbrev rmX8_certainty : Room := { frames := 3, cells := 0, slots := 0, locals := 73 }
set_option maxHeartbeats 4000000 in
set_option maxRecDepth 100000 in
theorem c_X8_certainty {l : Launch} {g : Gam} {I : Mem} {R : Rem} {P : Pool} {Z : Zed} (o1 : Option Nat) (x2 : Int32) (x3 : Int32) (ho1 : ∀ k, o1 = some k → Kd P k = 2) {z : Int32 × Mem} (hf : f_X8_certainty o1 x2 x3 P R I = some z) : Met l yX8_certainty (Cond.code yX8_certainty cX8_certainty 12 (some .int) :: GT) rmX8_certainty (va_Pc [.ref (g.2.2 + 0), va_rf (o1.map (fun y => g.2.2 + y)), .int x2, .int x3] (PW g I R P Z)) (QI g z.1 z.2 R P Z) 0 0 (AA g) := by
  refine aw_ofW (lv0 := [(0, .ref (g.2.2 + 0)), (1, va_rf (o1.map (fun y => g.2.2 + y))), (2, .int x2), (3, .int x3)]) (by decide) (by cases o1 <;> exact Nat.le_of_ble_eq_true rfl) (by cases o1 <;> rfl) (fun p0 e s m args below meth c ls C0 hl hW => ?_)
  have C0 : CX g p0 s m args meth c RX8 cX8_certainty 12 (some .int) := C0
  have hx := C0.1; have hb := C0.2.1; have hown := C0.2.2.2.2.1; have hts := C0.2.2.2.2.2.1; have hKS := C0.2.2.2.2.2.2.1
  have L105 : ∀ (y4 : Int32) (y5 : Int32) (y6 : Int32) (y7 : Int32) (y10 : Int32) (R : Rem) (n : Nat) (w8 : Int32) (w9 : Int32) (w11 : Int32) (I : Mem) (H : Heap) (locs : List Loc) (ls : Array Slot) (o : Int32 × Int32 × Mem), f_X8_certainty_L105 o1 x2 x3 P y4 y5 y6 y7 y10 R n w8 w9 w11 I = some o → Wd g I R P Z s.heap H locs → lv_has ls 12 [(0, .ref (g.2.2 + 0)), (1, va_rf (o1.map (fun y => g.2.2 + y))), (2, .int x2), (4, .int y4), (5, .int y5), (6, .int y6), (7, .int y7), (8, .int w8), (9, .int w9), (10, .int y10), (11, .int w11)] → (∀ (H : Heap) (locs : List Loc) (ls : Array Slot), Wd g o.2.2 R P Z s.heap H locs → lv_has ls 12 [(0, .ref (g.2.2 + 0)), (1, va_rf (o1.map (fun y => g.2.2 + y))), (2, .int x2), (4, .int y4), (5, .int y5), (6, .int y6), (7, .int y7), (8, .int o.1), (9, .int o.2.1), (10, .int y10)] → W p0 l e rmX8_certainty s m args below meth c H locs 0 0 (MQ below (QI g z.1 z.2 R P Z) args s 0 0 (AA g)) (F0 m 176 ls [])) → W p0 l e rmX8_certainty s m args below meth c H locs 0 0 (MQ below (QI g z.1 z.2 R P Z) args s 0 0 (AA g)) (F0 m 105 ls []) := by
    intro y4 y5 y6 y7 y10 R n
    induction n with
    | zero => intro w8 w9 w11 I H locs ls o hf; cases hf
    | succ n ih =>
      intro w8 w9 w11 I H locs ls o hf hW hl hK
      rw [f_X8_certainty_L105] at hf
      refine lv_iload hx hb dX8_certainty_105 (lv_at hl 10 rfl) ?_
      refine lv_iload hx hb dX8_certainty_107 (lv_at hl 6 rfl) ?_
      refine lv_icmp_ge (tgt := 176) hx hb dX8_certainty_109 rfl (fun hc => ?_) (fun hc => ?_)
      · have hf := ift hc hf
        have ho := Option.some.inj hf
        subst ho
        exact hK H locs ls hW (lv_sub hl [0, 1, 2, 3, 4, 5, 6, 7, 8, 9] rfl)
      · have hf := iff_ hc hf
        refine lv_iload hx hb dX8_certainty_112 (lv_at hl 7 rfl) ?_
        refine lv_if_eq (tgt := 122) hx hb dX8_certainty_114 rfl (fun hc => ?_) (fun hc => ?_)
        · have hf := ift hc hf
          refine lv_iload hx hb dX8_certainty_122 (lv_at hl 4 rfl) ?_
          refine lv_iconst (v := 4) hx hb dX8_certainty_124 (by decide) ?_
          obtain ⟨q10, hq10, hf⟩ := bnd hf
          have J144_q10 : ∀ (H : Heap) (locs : List Loc) (ls : Array Slot), Wd g q10 R P Z s.heap H locs → lv_has ls 12 [(0, .ref (g.2.2 + 0)), (1, va_rf (o1.map (fun y => g.2.2 + y))), (2, .int x2), (4, .int y4), (5, .int y5), (6, .int y6), (7, .int y7), (8, .int w8), (9, .int w9), (10, .int y10), (11, .int w11)] → W p0 l e rmX8_certainty s m args below meth c H locs 0 0 (MQ below (QI g z.1 z.2 R P Z) args s 0 0 (AA g)) (F0 m 144 ls ([])) := by
            intro H locs ls hW hl
            refine lv_aload_n hx hb dX8_certainty_144 rfl (lv_at hl 0 rfl) ?_
            refine aw_get (v := .ref (g.2.2 + 11)) C0 hW (lv_fix (by decide)) (cel_7 kd0) rfl inG7 8 (by decide) wd27 rfl rfl dX8_certainty_145 ?_
            refine aw_ald_n (x := o1) C0 dX8_certainty_148 rfl (lv_at hl 1 rfl) ?_
            refine lv_aload_n hx hb dX8_certainty_149 rfl (lv_at hl 0 rfl) ?_
            refine aw_get (v := .ref (g.2.2 + 10)) C0 hW (lv_fix (by decide)) (cel_7 kd0) rfl inG7 7 (by decide) wd28 rfl rfl dX8_certainty_150 ?_
            refine lv_iload_n hx hb dX8_certainty_153 rfl (lv_at hl 2 rfl) ?_
            obtain ⟨q13, hq13, hf⟩ := bnd hf
            refine aw_cVi (rest := []) C0 hW (lv_fix (by decide)) (cel_1 kd11) rfl (c_X1_truthOf o1 10 x2 ho1 kd10 hq13) (cw_X8_318 hts ⟨Nat.le_of_ble_eq_true rfl, Nat.le_of_ble_eq_true rfl⟩) rfl hl.1 rfl (Nat.le_of_ble_eq_true rfl) ⟨Nat.zero_le _, Nat.zero_le _⟩ dX8_certainty_154 (fun H locs hW => ?_)
            refine lv_iconst (v := 2) hx hb dX8_certainty_157 (by decide) ?_
            refine lv_icmp_ne (tgt := 167) hx hb dX8_certainty_158 rfl (fun hc => ?_) (fun hc => ?_)
            · have hf := iff_ hc hf
              refine lv_iconst (v := 1) hx hb dX8_certainty_167 (by decide) ?_
              refine lv_istore (lv' := [(9, .int 1), (0, .ref (g.2.2 + 0)), (1, va_rf (o1.map (fun y => g.2.2 + y))), (2, .int x2), (4, .int y4), (5, .int y5), (6, .int y6), (7, .int y7), (8, .int w8), (10, .int y10), (11, .int w11)]) hx hb dX8_certainty_168 hl (Nat.le_of_ble_eq_true rfl) rfl (fun ls hl => ?_)
              refine lv_iinc (k := 10) (v := w11 + 1) (lv' := [(11, .int (w11 + 1)), (9, .int 1), (0, .ref (g.2.2 + 0)), (1, va_rf (o1.map (fun y => g.2.2 + y))), (2, .int x2), (4, .int y4), (5, .int y5), (6, .int y6), (7, .int y7), (8, .int w8), (10, .int y10)]) hx hb dX8_certainty_170 hl rfl (congrArg (fun t => w11 + t) (by decide : Int32.ofInt 1 = 1)) (Nat.le_of_ble_eq_true rfl) rfl (fun ls hl => ?_)
              refine lv_goto (tgt := 105) hx hb dX8_certainty_173 rfl ?_
              exact ih _ _ _ _ H locs ls o hf hW (lv_sub hl [2, 3, 4, 5, 6, 7, 8, 9, 1, 10, 0] rfl) hK
            · have hf := ift hc hf
              refine lv_iconst (v := 1) hx hb dX8_certainty_161 (by decide) ?_
              refine lv_istore (lv' := [(8, .int 1), (0, .ref (g.2.2 + 0)), (1, va_rf (o1.map (fun y => g.2.2 + y))), (2, .int x2), (4, .int y4), (5, .int y5), (6, .int y6), (7, .int y7), (9, .int w9), (10, .int y10), (11, .int w11)]) hx hb dX8_certainty_162 hl (Nat.le_of_ble_eq_true rfl) rfl (fun ls hl => ?_)
              refine lv_goto (tgt := 170) hx hb dX8_certainty_164 rfl ?_
              refine lv_iinc (k := 10) (v := w11 + 1) (lv' := [(11, .int (w11 + 1)), (8, .int 1), (0, .ref (g.2.2 + 0)), (1, va_rf (o1.map (fun y => g.2.2 + y))), (2, .int x2), (4, .int y4), (5, .int y5), (6, .int y6), (7, .int y7), (9, .int w9), (10, .int y10)]) hx hb dX8_certainty_170 hl rfl (congrArg (fun t => w11 + t) (by decide : Int32.ofInt 1 = 1)) (Nat.le_of_ble_eq_true rfl) rfl (fun ls hl => ?_)
              refine lv_goto (tgt := 105) hx hb dX8_certainty_173 rfl ?_
              exact ih _ _ _ _ H locs ls o hf hW (lv_sub hl [2, 3, 4, 5, 6, 7, 8, 1, 9, 10, 0] rfl) hK
          have hf := hq10
          refine lv_icmp_ge (tgt := 144) hx hb dX8_certainty_125 rfl (fun hc => ?_) (fun hc => ?_)
          · have hf := ift hc hf
            have ho := Option.some.inj hf
            subst ho
            exact J144_q10 H locs ls hW (lv_sub hl [0, 1, 2, 3, 4, 5, 6, 7, 8, 9, 10] rfl)
          · have hf := iff_ hc hf
            refine lv_aload_n hx hb dX8_certainty_128 rfl (lv_at hl 0 rfl) ?_
            refine aw_get (v := .ref (g.2.2 + 10)) C0 hW (lv_fix (by decide)) (cel_7 kd0) rfl inG7 7 (by decide) wd28 rfl rfl dX8_certainty_129 ?_
            refine lv_iload hx hb dX8_certainty_132 (lv_at hl 4 rfl) ?_
            refine lv_aload_n hx hb dX8_certainty_134 rfl (lv_at hl 0 rfl) ?_
            refine aw_get (v := .ref (g.2.2 + 16)) C0 hW (lv_fix (by decide)) (cel_7 kd0) rfl inG7 9 (by decide) wd35 rfl rfl dX8_certainty_135 ?_
            refine lv_iload hx hb dX8_certainty_138 (lv_at hl 10 rfl) ?_
            obtain ⟨q11, hq11, hf⟩ := bnd hf
            refine aw_cVi (rest := [.int y5, .ref (g.2.2 + 10)]) C0 hW (lv_fix (by decide)) (cel_0 kd16) rfl (c_X0_valueAt w11  hq11) (cw_X8_361 hts ⟨Nat.le_of_ble_eq_true rfl, Nat.le_of_ble_eq_true rfl⟩) rfl hl.1 rfl (Nat.le_of_ble_eq_true rfl) ⟨Nat.zero_le _, Nat.zero_le _⟩ dX8_certainty_140 (fun H locs hW => ?_)
            obtain ⟨I12, hI12, hf⟩ := bnd hf
            refine aw_iast C0 hW kd10 ln10 hI12 dX8_certainty_143 (fun H locs hW => ?_)
            have ho := Option.some.inj hf
            subst ho
            exact J144_q10 H locs ls hW (lv_sub hl [0, 1, 2, 3, 4, 5, 6, 7, 8, 9, 10] rfl)
        · have hf := iff_ hc hf
          refine lv_iload hx hb dX8_certainty_117 (lv_at hl 8 rfl) ?_
          refine lv_if_ne (tgt := 176) hx hb dX8_certainty_119 rfl (fun hc => ?_) (fun hc => ?_)
          · have hf := iff_ hc hf
            have ho := Option.some.inj hf
            subst ho
            exact hK H locs ls hW (lv_sub hl [0, 1, 2, 3, 4, 5, 6, 7, 8, 9] rfl)
          · have hf := ift hc hf
            refine lv_iload hx hb dX8_certainty_122 (lv_at hl 4 rfl) ?_
            refine lv_iconst (v := 4) hx hb dX8_certainty_124 (by decide) ?_
            obtain ⟨q14, hq14, hf⟩ := bnd hf
            have J144_q14 : ∀ (H : Heap) (locs : List Loc) (ls : Array Slot), Wd g q14 R P Z s.heap H locs → lv_has ls 12 [(0, .ref (g.2.2 + 0)), (1, va_rf (o1.map (fun y => g.2.2 + y))), (2, .int x2), (4, .int y4), (5, .int y5), (6, .int y6), (7, .int y7), (8, .int w8), (9, .int w9), (10, .int y10), (11, .int w11)] → W p0 l e rmX8_certainty s m args below meth c H locs 0 0 (MQ below (QI g z.1 z.2 R P Z) args s 0 0 (AA g)) (F0 m 144 ls ([])) := by
              intro H locs ls hW hl
              refine lv_aload_n hx hb dX8_certainty_144 rfl (lv_at hl 0 rfl) ?_
              refine aw_get (v := .ref (g.2.2 + 11)) C0 hW (lv_fix (by decide)) (cel_7 kd0) rfl inG7 8 (by decide) wd27 rfl rfl dX8_certainty_145 ?_
              refine aw_ald_n (x := o1) C0 dX8_certainty_148 rfl (lv_at hl 1 rfl) ?_
              refine lv_aload_n hx hb dX8_certainty_149 rfl (lv_at hl 0 rfl) ?_
              refine aw_get (v := .ref (g.2.2 + 10)) C0 hW (lv_fix (by decide)) (cel_7 kd0) rfl inG7 7 (by decide) wd28 rfl rfl dX8_certainty_150 ?_
              refine lv_iload_n hx hb dX8_certainty_153 rfl (lv_at hl 2 rfl) ?_
              obtain ⟨q17, hq17, hf⟩ := bnd hf
              refine aw_cVi (rest := []) C0 hW (lv_fix (by decide)) (cel_1 kd11) rfl (c_X1_truthOf o1 10 x2 ho1 kd10 hq17) (cw_X8_318 hts ⟨Nat.le_of_ble_eq_true rfl, Nat.le_of_ble_eq_true rfl⟩) rfl hl.1 rfl (Nat.le_of_ble_eq_true rfl) ⟨Nat.zero_le _, Nat.zero_le _⟩ dX8_certainty_154 (fun H locs hW => ?_)
              refine lv_iconst (v := 2) hx hb dX8_certainty_157 (by decide) ?_
              refine lv_icmp_ne (tgt := 167) hx hb dX8_certainty_158 rfl (fun hc => ?_) (fun hc => ?_)
              · have hf := iff_ hc hf
                refine lv_iconst (v := 1) hx hb dX8_certainty_167 (by decide) ?_
                refine lv_istore (lv' := [(9, .int 1), (0, .ref (g.2.2 + 0)), (1, va_rf (o1.map (fun y => g.2.2 + y))), (2, .int x2), (4, .int y4), (5, .int y5), (6, .int y6), (7, .int y7), (8, .int w8), (10, .int y10), (11, .int w11)]) hx hb dX8_certainty_168 hl (Nat.le_of_ble_eq_true rfl) rfl (fun ls hl => ?_)
                refine lv_iinc (k := 10) (v := w11 + 1) (lv' := [(11, .int (w11 + 1)), (9, .int 1), (0, .ref (g.2.2 + 0)), (1, va_rf (o1.map (fun y => g.2.2 + y))), (2, .int x2), (4, .int y4), (5, .int y5), (6, .int y6), (7, .int y7), (8, .int w8), (10, .int y10)]) hx hb dX8_certainty_170 hl rfl (congrArg (fun t => w11 + t) (by decide : Int32.ofInt 1 = 1)) (Nat.le_of_ble_eq_true rfl) rfl (fun ls hl => ?_)
                refine lv_goto (tgt := 105) hx hb dX8_certainty_173 rfl ?_
                exact ih _ _ _ _ H locs ls o hf hW (lv_sub hl [2, 3, 4, 5, 6, 7, 8, 9, 1, 10, 0] rfl) hK
              · have hf := ift hc hf
                refine lv_iconst (v := 1) hx hb dX8_certainty_161 (by decide) ?_
                refine lv_istore (lv' := [(8, .int 1), (0, .ref (g.2.2 + 0)), (1, va_rf (o1.map (fun y => g.2.2 + y))), (2, .int x2), (4, .int y4), (5, .int y5), (6, .int y6), (7, .int y7), (9, .int w9), (10, .int y10), (11, .int w11)]) hx hb dX8_certainty_162 hl (Nat.le_of_ble_eq_true rfl) rfl (fun ls hl => ?_)
                refine lv_goto (tgt := 170) hx hb dX8_certainty_164 rfl ?_
                refine lv_iinc (k := 10) (v := w11 + 1) (lv' := [(11, .int (w11 + 1)), (8, .int 1), (0, .ref (g.2.2 + 0)), (1, va_rf (o1.map (fun y => g.2.2 + y))), (2, .int x2), (4, .int y4), (5, .int y5), (6, .int y6), (7, .int y7), (9, .int w9), (10, .int y10)]) hx hb dX8_certainty_170 hl rfl (congrArg (fun t => w11 + t) (by decide : Int32.ofInt 1 = 1)) (Nat.le_of_ble_eq_true rfl) rfl (fun ls hl => ?_)
                refine lv_goto (tgt := 105) hx hb dX8_certainty_173 rfl ?_
                exact ih _ _ _ _ H locs ls o hf hW (lv_sub hl [2, 3, 4, 5, 6, 7, 8, 1, 9, 10, 0] rfl) hK
            have hf := hq14
            refine lv_icmp_ge (tgt := 144) hx hb dX8_certainty_125 rfl (fun hc => ?_) (fun hc => ?_)
            · have hf := ift hc hf
              have ho := Option.some.inj hf
              subst ho
              exact J144_q14 H locs ls hW (lv_sub hl [0, 1, 2, 3, 4, 5, 6, 7, 8, 9, 10] rfl)
            · have hf := iff_ hc hf
              refine lv_aload_n hx hb dX8_certainty_128 rfl (lv_at hl 0 rfl) ?_
              refine aw_get (v := .ref (g.2.2 + 10)) C0 hW (lv_fix (by decide)) (cel_7 kd0) rfl inG7 7 (by decide) wd28 rfl rfl dX8_certainty_129 ?_
              refine lv_iload hx hb dX8_certainty_132 (lv_at hl 4 rfl) ?_
              refine lv_aload_n hx hb dX8_certainty_134 rfl (lv_at hl 0 rfl) ?_
              refine aw_get (v := .ref (g.2.2 + 16)) C0 hW (lv_fix (by decide)) (cel_7 kd0) rfl inG7 9 (by decide) wd35 rfl rfl dX8_certainty_135 ?_
              refine lv_iload hx hb dX8_certainty_138 (lv_at hl 10 rfl) ?_
              obtain ⟨q15, hq15, hf⟩ := bnd hf
              refine aw_cVi (rest := [.int y5, .ref (g.2.2 + 10)]) C0 hW (lv_fix (by decide)) (cel_0 kd16) rfl (c_X0_valueAt w11  hq15) (cw_X8_361 hts ⟨Nat.le_of_ble_eq_true rfl, Nat.le_of_ble_eq_true rfl⟩) rfl hl.1 rfl (Nat.le_of_ble_eq_true rfl) ⟨Nat.zero_le _, Nat.zero_le _⟩ dX8_certainty_140 (fun H locs hW => ?_)
              obtain ⟨I16, hI16, hf⟩ := bnd hf
              refine aw_iast C0 hW kd10 ln10 hI16 dX8_certainty_143 (fun H locs hW => ?_)
              have ho := Option.some.inj hf
              subst ho
              exact J144_q14 H locs ls hW (lv_sub hl [0, 1, 2, 3, 4, 5, 6, 7, 8, 9, 10] rfl)
  have L63 : ∀ (y4 : Int32) (y5 : Int32) (y6 : Int32) (y7 : Int32) (R : Rem) (n : Nat) (w8 : Int32) (w9 : Int32) (w10 : Int32) (I : Mem) (H : Heap) (locs : List Loc) (ls : Array Slot) (o : Int32 × Int32 × Mem), f_X8_certainty_L63 o1 x2 x3 P y4 y5 y6 y7 R n w8 w9 w10 I = some o → Wd g I R P Z s.heap H locs → lv_has ls 12 [(0, .ref (g.2.2 + 0)), (1, va_rf (o1.map (fun y => g.2.2 + y))), (2, .int x2), (4, .int y4), (5, .int y5), (6, .int y6), (7, .int y7), (8, .int w8), (9, .int w9), (10, .int w10)] → (∀ (H : Heap) (locs : List Loc) (ls : Array Slot), Wd g o.2.2 R P Z s.heap H locs → lv_has ls 12 [(8, .int o.1), (9, .int o.2.1)] → W p0 l e rmX8_certainty s m args below meth c H locs 0 0 (MQ below (QI g z.1 z.2 R P Z) args s 0 0 (AA g)) (F0 m 182 ls [])) → W p0 l e rmX8_certainty s m args below meth c H locs 0 0 (MQ below (QI g z.1 z.2 R P Z) args s 0 0 (AA g)) (F0 m 63 ls []) := by
    intro y4 y5 y6 y7 R n
    induction n with
    | zero => intro w8 w9 w10 I H locs ls o hf; cases hf
    | succ n ih =>
      intro w8 w9 w10 I H locs ls o hf hW hl hK
      rw [f_X8_certainty_L63] at hf
      refine lv_iload hx hb dX8_certainty_63 (lv_at hl 9 rfl) ?_
      refine lv_iload hx hb dX8_certainty_65 (lv_at hl 5 rfl) ?_
      refine lv_icmp_ge (tgt := 182) hx hb dX8_certainty_67 rfl (fun hc => ?_) (fun hc => ?_)
      · have hf := ift hc hf
        have ho := Option.some.inj hf
        subst ho
        exact hK H locs ls hW (lv_sub hl [7, 8] rfl)
      · have hf := iff_ hc hf
        refine lv_iload hx hb dX8_certainty_70 (lv_at hl 7 rfl) ?_
        refine lv_if_eq (tgt := 80) hx hb dX8_certainty_72 rfl (fun hc => ?_) (fun hc => ?_)
        · have hf := ift hc hf
          refine lv_iload hx hb dX8_certainty_80 (lv_at hl 3 rfl) ?_
          refine lv_iconst (v := 4) hx hb dX8_certainty_82 (by decide) ?_
          obtain ⟨q7, hq7, hf⟩ := bnd hf
          have J102_q7 : ∀ (H : Heap) (locs : List Loc) (ls : Array Slot), Wd g q7 R P Z s.heap H locs → lv_has ls 12 [(0, .ref (g.2.2 + 0)), (1, va_rf (o1.map (fun y => g.2.2 + y))), (2, .int x2), (4, .int y4), (5, .int y5), (6, .int y6), (7, .int y7), (8, .int w8), (9, .int w9), (10, .int w10)] → W p0 l e rmX8_certainty s m args below meth c H locs 0 0 (MQ below (QI g z.1 z.2 R P Z) args s 0 0 (AA g)) (F0 m 102 ls ([])) := by
            intro H locs ls hW hl
            refine lv_iconst (v := 0) hx hb dX8_certainty_102 (by decide) ?_
            refine lv_istore (lv' := [(11, .int 0), (0, .ref (g.2.2 + 0)), (1, va_rf (o1.map (fun y => g.2.2 + y))), (2, .int x2), (4, .int y4), (5, .int y5), (6, .int y6), (7, .int y7), (8, .int w8), (9, .int w9), (10, .int w10)]) hx hb dX8_certainty_103 hl (Nat.le_of_ble_eq_true rfl) rfl (fun ls hl => ?_)
            obtain ⟨q18, hq18, hf⟩ := bnd hf
            refine L105 y4 y5 y6 y7 w10 R fuel w8 w9 0 q7 H locs ls _ hq18 hW (lv_sub hl [1, 2, 3, 4, 5, 6, 7, 8, 9, 10, 0] rfl) (fun H locs ls hW hl => ?_)
            refine lv_iinc (k := 9) (v := w10 + 1) (lv' := [(10, .int (w10 + 1)), (0, .ref (g.2.2 + 0)), (1, va_rf (o1.map (fun y => g.2.2 + y))), (2, .int x2), (4, .int y4), (5, .int y5), (6, .int y6), (7, .int y7), (8, .int q18.1), (9, .int q18.2.1)]) hx hb dX8_certainty_176 hl rfl (congrArg (fun t => w10 + t) (by decide : Int32.ofInt 1 = 1)) (Nat.le_of_ble_eq_true rfl) rfl (fun ls hl => ?_)
            refine lv_goto (tgt := 63) hx hb dX8_certainty_179 rfl ?_
            exact ih _ _ _ _ H locs ls o hf hW (lv_sub hl [1, 2, 3, 4, 5, 6, 7, 8, 9, 0] rfl) hK
          have hf := hq7
          refine lv_icmp_ge (tgt := 102) hx hb dX8_certainty_83 rfl (fun hc => ?_) (fun hc => ?_)
          · have hf := ift hc hf
            have ho := Option.some.inj hf
            subst ho
            exact J102_q7 H locs ls hW (lv_sub hl [0, 1, 2, 3, 4, 5, 6, 7, 8, 9] rfl)
          · have hf := iff_ hc hf
            refine lv_aload_n hx hb dX8_certainty_86 rfl (lv_at hl 0 rfl) ?_
            refine aw_get (v := .ref (g.2.2 + 10)) C0 hW (lv_fix (by decide)) (cel_7 kd0) rfl inG7 7 (by decide) wd28 rfl rfl dX8_certainty_87 ?_
            refine lv_iload hx hb dX8_certainty_90 (lv_at hl 3 rfl) ?_
            refine lv_aload_n hx hb dX8_certainty_92 rfl (lv_at hl 0 rfl) ?_
            refine aw_get (v := .ref (g.2.2 + 16)) C0 hW (lv_fix (by decide)) (cel_7 kd0) rfl inG7 9 (by decide) wd35 rfl rfl dX8_certainty_93 ?_
            refine lv_iload hx hb dX8_certainty_96 (lv_at hl 9 rfl) ?_
            obtain ⟨q8, hq8, hf⟩ := bnd hf
            refine aw_cVi (rest := [.int y4, .ref (g.2.2 + 10)]) C0 hW (lv_fix (by decide)) (cel_0 kd16) rfl (c_X0_valueAt w10  hq8) (cw_X8_361 hts ⟨Nat.le_of_ble_eq_true rfl, Nat.le_of_ble_eq_true rfl⟩) rfl hl.1 rfl (Nat.le_of_ble_eq_true rfl) ⟨Nat.zero_le _, Nat.zero_le _⟩ dX8_certainty_98 (fun H locs hW => ?_)
            obtain ⟨I9, hI9, hf⟩ := bnd hf
            refine aw_iast C0 hW kd10 ln10 hI9 dX8_certainty_101 (fun H locs hW => ?_)
            have ho := Option.some.inj hf
            subst ho
            exact J102_q7 H locs ls hW (lv_sub hl [0, 1, 2, 3, 4, 5, 6, 7, 8, 9] rfl)
        · have hf := iff_ hc hf
          refine lv_iload hx hb dX8_certainty_75 (lv_at hl 8 rfl) ?_
          refine lv_if_ne (tgt := 182) hx hb dX8_certainty_77 rfl (fun hc => ?_) (fun hc => ?_)
          · have hf := iff_ hc hf
            have ho := Option.some.inj hf
            subst ho
            exact hK H locs ls hW (lv_sub hl [7, 8] rfl)
          · have hf := ift hc hf
            refine lv_iload hx hb dX8_certainty_80 (lv_at hl 3 rfl) ?_
            refine lv_iconst (v := 4) hx hb dX8_certainty_82 (by decide) ?_
            obtain ⟨q19, hq19, hf⟩ := bnd hf
            have J102_q19 : ∀ (H : Heap) (locs : List Loc) (ls : Array Slot), Wd g q19 R P Z s.heap H locs → lv_has ls 12 [(0, .ref (g.2.2 + 0)), (1, va_rf (o1.map (fun y => g.2.2 + y))), (2, .int x2), (4, .int y4), (5, .int y5), (6, .int y6), (7, .int y7), (8, .int w8), (9, .int w9), (10, .int w10)] → W p0 l e rmX8_certainty s m args below meth c H locs 0 0 (MQ below (QI g z.1 z.2 R P Z) args s 0 0 (AA g)) (F0 m 102 ls ([])) := by
              intro H locs ls hW hl
              refine lv_iconst (v := 0) hx hb dX8_certainty_102 (by decide) ?_
              refine lv_istore (lv' := [(11, .int 0), (0, .ref (g.2.2 + 0)), (1, va_rf (o1.map (fun y => g.2.2 + y))), (2, .int x2), (4, .int y4), (5, .int y5), (6, .int y6), (7, .int y7), (8, .int w8), (9, .int w9), (10, .int w10)]) hx hb dX8_certainty_103 hl (Nat.le_of_ble_eq_true rfl) rfl (fun ls hl => ?_)
              obtain ⟨q22, hq22, hf⟩ := bnd hf
              refine L105 y4 y5 y6 y7 w10 R fuel w8 w9 0 q19 H locs ls _ hq22 hW (lv_sub hl [1, 2, 3, 4, 5, 6, 7, 8, 9, 10, 0] rfl) (fun H locs ls hW hl => ?_)
              refine lv_iinc (k := 9) (v := w10 + 1) (lv' := [(10, .int (w10 + 1)), (0, .ref (g.2.2 + 0)), (1, va_rf (o1.map (fun y => g.2.2 + y))), (2, .int x2), (4, .int y4), (5, .int y5), (6, .int y6), (7, .int y7), (8, .int q22.1), (9, .int q22.2.1)]) hx hb dX8_certainty_176 hl rfl (congrArg (fun t => w10 + t) (by decide : Int32.ofInt 1 = 1)) (Nat.le_of_ble_eq_true rfl) rfl (fun ls hl => ?_)
              refine lv_goto (tgt := 63) hx hb dX8_certainty_179 rfl ?_
              exact ih _ _ _ _ H locs ls o hf hW (lv_sub hl [1, 2, 3, 4, 5, 6, 7, 8, 9, 0] rfl) hK
            have hf := hq19
            refine lv_icmp_ge (tgt := 102) hx hb dX8_certainty_83 rfl (fun hc => ?_) (fun hc => ?_)
            · have hf := ift hc hf
              have ho := Option.some.inj hf
              subst ho
              exact J102_q19 H locs ls hW (lv_sub hl [0, 1, 2, 3, 4, 5, 6, 7, 8, 9] rfl)
            · have hf := iff_ hc hf
              refine lv_aload_n hx hb dX8_certainty_86 rfl (lv_at hl 0 rfl) ?_
              refine aw_get (v := .ref (g.2.2 + 10)) C0 hW (lv_fix (by decide)) (cel_7 kd0) rfl inG7 7 (by decide) wd28 rfl rfl dX8_certainty_87 ?_
              refine lv_iload hx hb dX8_certainty_90 (lv_at hl 3 rfl) ?_
              refine lv_aload_n hx hb dX8_certainty_92 rfl (lv_at hl 0 rfl) ?_
              refine aw_get (v := .ref (g.2.2 + 16)) C0 hW (lv_fix (by decide)) (cel_7 kd0) rfl inG7 9 (by decide) wd35 rfl rfl dX8_certainty_93 ?_
              refine lv_iload hx hb dX8_certainty_96 (lv_at hl 9 rfl) ?_
              obtain ⟨q20, hq20, hf⟩ := bnd hf
              refine aw_cVi (rest := [.int y4, .ref (g.2.2 + 10)]) C0 hW (lv_fix (by decide)) (cel_0 kd16) rfl (c_X0_valueAt w10  hq20) (cw_X8_361 hts ⟨Nat.le_of_ble_eq_true rfl, Nat.le_of_ble_eq_true rfl⟩) rfl hl.1 rfl (Nat.le_of_ble_eq_true rfl) ⟨Nat.zero_le _, Nat.zero_le _⟩ dX8_certainty_98 (fun H locs hW => ?_)
              obtain ⟨I21, hI21, hf⟩ := bnd hf
              refine aw_iast C0 hW kd10 ln10 hI21 dX8_certainty_101 (fun H locs hW => ?_)
              have ho := Option.some.inj hf
              subst ho
              exact J102_q19 H locs ls hW (lv_sub hl [0, 1, 2, 3, 4, 5, 6, 7, 8, 9] rfl)
  unfold f_X8_certainty at hf
  obtain ⟨H, hH⟩ : ∃ H, H = s.heap := ⟨_, rfl⟩
  obtain ⟨locs, hlc⟩ : ∃ q : List Loc, q = [] := ⟨_, rfl⟩
  rw [show W p0 l e rmX8_certainty s m args below meth c s.heap [] 0 0 (MQ below (QI g z.1 z.2 R P Z) args s 0 0 (AA g)) (F0 m 0 ls []) = W p0 l e rmX8_certainty s m args below meth c H locs 0 0 (MQ below (QI g z.1 z.2 R P Z) args s 0 0 (AA g)) (F0 m 0 ls []) by rw [hH, hlc]]
  have hW : Wd g I R P Z s.heap H locs := by rw [hH, hlc]; exact hW
  refine lv_iload_n hx hb dX8_certainty_0 rfl (lv_at hl 3 rfl) ?_
  obtain ⟨q1, hq1, hf⟩ := bnd hf
  refine aw_cSi (rest := []) C0 hW (c_X8_lowestBit x3  hq1) (cw_X8_357 hts ⟨Nat.le_of_ble_eq_true rfl, Nat.le_of_ble_eq_true rfl⟩) rfl hl.1 rfl (Nat.le_of_ble_eq_true rfl) ⟨Nat.zero_le _, Nat.zero_le _⟩ dX8_certainty_1 (fun H locs hW => ?_)
  refine lv_istore (lv' := [(4, .int q1), (0, .ref (g.2.2 + 0)), (1, va_rf (o1.map (fun y => g.2.2 + y))), (2, .int x2), (3, .int x3)]) hx hb dX8_certainty_4 hl (Nat.le_of_ble_eq_true rfl) rfl (fun ls hl => ?_)
  refine lv_iload_n hx hb dX8_certainty_6 rfl (lv_at hl 4 rfl) ?_
  refine lv_iload_n hx hb dX8_certainty_7 rfl (lv_at hl 4 rfl) ?_
  refine lv_iconst (v := 1) hx hb dX8_certainty_8 (by decide) ?_
  refine lv_isub hx hb dX8_certainty_9 ?_
  refine lv_iand hx hb dX8_certainty_10 ?_
  obtain ⟨q2, hq2, hf⟩ := bnd hf
  refine aw_cSi (rest := []) C0 hW (c_X8_lowestBit (x3 &&& (x3 - 1))  hq2) (cw_X8_357 hts ⟨Nat.le_of_ble_eq_true rfl, Nat.le_of_ble_eq_true rfl⟩) rfl hl.1 rfl (Nat.le_of_ble_eq_true rfl) ⟨Nat.zero_le _, Nat.zero_le _⟩ dX8_certainty_11 (fun H locs hW => ?_)
  refine lv_istore (lv' := [(5, .int q2), (4, .int q1), (0, .ref (g.2.2 + 0)), (1, va_rf (o1.map (fun y => g.2.2 + y))), (2, .int x2), (3, .int x3)]) hx hb dX8_certainty_14 hl (Nat.le_of_ble_eq_true rfl) rfl (fun ls hl => ?_)
  refine lv_iload hx hb dX8_certainty_16 (lv_at hl 1 rfl) ?_
  refine lv_iconst (v := 4) hx hb dX8_certainty_18 (by decide) ?_
  obtain ⟨q3, hq3, hf⟩ := bnd hf
  have J33_q3 : ∀ (H : Heap) (locs : List Loc) (ls : Array Slot), Wd g I R P Z s.heap H locs → lv_has ls 12 [(0, .ref (g.2.2 + 0)), (1, va_rf (o1.map (fun y => g.2.2 + y))), (2, .int x2), (4, .int q1), (5, .int q2)] → W p0 l e rmX8_certainty s m args below meth c H locs 0 0 (MQ below (QI g z.1 z.2 R P Z) args s 0 0 (AA g)) (F0 m 33 ls ([.int q3])) := by
    intro H locs ls hW hl
    refine lv_istore (lv' := [(6, .int q3), (0, .ref (g.2.2 + 0)), (1, va_rf (o1.map (fun y => g.2.2 + y))), (2, .int x2), (4, .int q1), (5, .int q2)]) hx hb dX8_certainty_33 hl (Nat.le_of_ble_eq_true rfl) rfl (fun ls hl => ?_)
    refine lv_iload hx hb dX8_certainty_35 (lv_at hl 5 rfl) ?_
    refine lv_iconst (v := 4) hx hb dX8_certainty_37 (by decide) ?_
    obtain ⟨q5, hq5, hf⟩ := bnd hf
    have J52_q5 : ∀ (H : Heap) (locs : List Loc) (ls : Array Slot), Wd g I R P Z s.heap H locs → lv_has ls 12 [(0, .ref (g.2.2 + 0)), (1, va_rf (o1.map (fun y => g.2.2 + y))), (2, .int x2), (4, .int q1), (5, .int q2), (6, .int q3)] → W p0 l e rmX8_certainty s m args below meth c H locs 0 0 (MQ below (QI g z.1 z.2 R P Z) args s 0 0 (AA g)) (F0 m 52 ls ([.int q5])) := by
      intro H locs ls hW hl
      refine lv_istore (lv' := [(7, .int q5), (0, .ref (g.2.2 + 0)), (1, va_rf (o1.map (fun y => g.2.2 + y))), (2, .int x2), (4, .int q1), (5, .int q2), (6, .int q3)]) hx hb dX8_certainty_52 hl (Nat.le_of_ble_eq_true rfl) rfl (fun ls hl => ?_)
      refine lv_iconst (v := 0) hx hb dX8_certainty_54 (by decide) ?_
      refine lv_istore (lv' := [(8, .int 0), (7, .int q5), (0, .ref (g.2.2 + 0)), (1, va_rf (o1.map (fun y => g.2.2 + y))), (2, .int x2), (4, .int q1), (5, .int q2), (6, .int q3)]) hx hb dX8_certainty_55 hl (Nat.le_of_ble_eq_true rfl) rfl (fun ls hl => ?_)
      refine lv_iconst (v := 0) hx hb dX8_certainty_57 (by decide) ?_
      refine lv_istore (lv' := [(9, .int 0), (8, .int 0), (7, .int q5), (0, .ref (g.2.2 + 0)), (1, va_rf (o1.map (fun y => g.2.2 + y))), (2, .int x2), (4, .int q1), (5, .int q2), (6, .int q3)]) hx hb dX8_certainty_58 hl (Nat.le_of_ble_eq_true rfl) rfl (fun ls hl => ?_)
      refine lv_iconst (v := 0) hx hb dX8_certainty_60 (by decide) ?_
      refine lv_istore (lv' := [(10, .int 0), (9, .int 0), (8, .int 0), (7, .int q5), (0, .ref (g.2.2 + 0)), (1, va_rf (o1.map (fun y => g.2.2 + y))), (2, .int x2), (4, .int q1), (5, .int q2), (6, .int q3)]) hx hb dX8_certainty_61 hl (Nat.le_of_ble_eq_true rfl) rfl (fun ls hl => ?_)
      obtain ⟨q23, hq23, hf⟩ := bnd hf
      refine L63 q1 q2 q3 q5 R fuel 0 0 0 I H locs ls _ hq23 hW (lv_sub hl [4, 5, 6, 7, 8, 9, 3, 2, 1, 0] rfl) (fun H locs ls hW hl => ?_)
      refine lv_iload hx hb dX8_certainty_182 (lv_at hl 0 rfl) ?_
      refine lv_if_eq (tgt := 194) hx hb dX8_certainty_184 rfl (fun hc => ?_) (fun hc => ?_)
      · have hf := ift hc hf
        refine lv_iload hx hb dX8_certainty_194 (lv_at hl 0 rfl) ?_
        refine lv_if_eq (tgt := 203) hx hb dX8_certainty_196 rfl (fun hc => ?_) (fun hc => ?_)
        · have hf := ift hc hf
          refine lv_iconst (v := 0) hx hb dX8_certainty_203 (by decide) ?_
          have hz := Option.some.inj hf
          have hzV := congrArg (fun z : Int32 × Mem => z.1) hz
          have hzI := congrArg (fun z : Int32 × Mem => z.2) hz
          exact aw_iret C0 hW hzV hzI rfl dX8_certainty_204
        · have hf := iff_ hc hf
          refine lv_iconst (v := 2) hx hb dX8_certainty_199 (by decide) ?_
          refine lv_goto (tgt := 204) hx hb dX8_certainty_200 rfl ?_
          have hz := Option.some.inj hf
          have hzV := congrArg (fun z : Int32 × Mem => z.1) hz
          have hzI := congrArg (fun z : Int32 × Mem => z.2) hz
          exact aw_iret C0 hW hzV hzI rfl dX8_certainty_204
      · have hf := iff_ hc hf
        refine lv_iload hx hb dX8_certainty_187 (lv_at hl 1 rfl) ?_
        refine lv_if_eq (tgt := 194) hx hb dX8_certainty_189 rfl (fun hc => ?_) (fun hc => ?_)
        · have hf := ift hc hf
          refine lv_iload hx hb dX8_certainty_194 (lv_at hl 0 rfl) ?_
          refine lv_if_eq (tgt := 203) hx hb dX8_certainty_196 rfl (fun hc => ?_) (fun hc => ?_)
          · have hf := ift hc hf
            refine lv_iconst (v := 0) hx hb dX8_certainty_203 (by decide) ?_
            have hz := Option.some.inj hf
            have hzV := congrArg (fun z : Int32 × Mem => z.1) hz
            have hzI := congrArg (fun z : Int32 × Mem => z.2) hz
            exact aw_iret C0 hW hzV hzI rfl dX8_certainty_204
          · have hf := iff_ hc hf
            refine lv_iconst (v := 2) hx hb dX8_certainty_199 (by decide) ?_
            refine lv_goto (tgt := 204) hx hb dX8_certainty_200 rfl ?_
            have hz := Option.some.inj hf
            have hzV := congrArg (fun z : Int32 × Mem => z.1) hz
            have hzI := congrArg (fun z : Int32 × Mem => z.2) hz
            exact aw_iret C0 hW hzV hzI rfl dX8_certainty_204
        · have hf := iff_ hc hf
          refine lv_iconst (v := 1) hx hb dX8_certainty_192 (by decide) ?_
          have hz := Option.some.inj hf
          have hzV := congrArg (fun z : Int32 × Mem => z.1) hz
          have hzI := congrArg (fun z : Int32 × Mem => z.2) hz
          exact aw_iret C0 hW hzV hzI rfl dX8_certainty_193
    have hf := hq5
    refine lv_icmp_ge (tgt := 51) hx hb dX8_certainty_38 rfl (fun hc => ?_) (fun hc => ?_)
    · have hf := ift hc hf
      refine lv_iconst (v := 1) hx hb dX8_certainty_51 (by decide) ?_
      have ho := Option.some.inj hf
      subst ho
      exact J52_q5 H locs ls hW (lv_sub hl [1, 2, 3, 4, 5, 0] rfl)
    · have hf := iff_ hc hf
      refine lv_aload_n hx hb dX8_certainty_41 rfl (lv_at hl 1 rfl) ?_
      refine aw_get (v := .ref (g.2.2 + 16)) C0 hW (lv_fix (by decide)) (cel_7 kd0) rfl inG7 9 (by decide) wd35 rfl rfl dX8_certainty_42 ?_
      obtain ⟨q6, hq6, hf⟩ := bnd hf
      refine aw_cVi (rest := []) C0 hW (lv_fix (by decide)) (cel_0 kd16) rfl (c_X0_size  hq6) (cw_X8_360 hts ⟨Nat.le_of_ble_eq_true rfl, Nat.le_of_ble_eq_true rfl⟩) rfl hl.1 rfl (Nat.le_of_ble_eq_true rfl) ⟨Nat.zero_le _, Nat.zero_le _⟩ dX8_certainty_45 (fun H locs hW => ?_)
      refine lv_goto (tgt := 52) hx hb dX8_certainty_48 rfl ?_
      have ho := Option.some.inj hf
      subst ho
      exact J52_q5 H locs ls hW (lv_sub hl [1, 2, 3, 4, 5, 0] rfl)
  have hf := hq3
  refine lv_icmp_ge (tgt := 32) hx hb dX8_certainty_19 rfl (fun hc => ?_) (fun hc => ?_)
  · have hf := ift hc hf
    refine lv_iconst (v := 1) hx hb dX8_certainty_32 (by decide) ?_
    have ho := Option.some.inj hf
    subst ho
    exact J33_q3 H locs ls hW (lv_sub hl [2, 3, 4, 1, 0] rfl)
  · have hf := iff_ hc hf
    refine lv_aload_n hx hb dX8_certainty_22 rfl (lv_at hl 2 rfl) ?_
    refine aw_get (v := .ref (g.2.2 + 16)) C0 hW (lv_fix (by decide)) (cel_7 kd0) rfl inG7 9 (by decide) wd35 rfl rfl dX8_certainty_23 ?_
    obtain ⟨q4, hq4, hf⟩ := bnd hf
    refine aw_cVi (rest := []) C0 hW (lv_fix (by decide)) (cel_0 kd16) rfl (c_X0_size  hq4) (cw_X8_360 hts ⟨Nat.le_of_ble_eq_true rfl, Nat.le_of_ble_eq_true rfl⟩) rfl hl.1 rfl (Nat.le_of_ble_eq_true rfl) ⟨Nat.zero_le _, Nat.zero_le _⟩ dX8_certainty_26 (fun H locs hW => ?_)
    refine lv_goto (tgt := 33) hx hb dX8_certainty_29 rfl ?_
    have ho := Option.some.inj hf
    subst ho
    exact J33_q3 H locs ls hW (lv_sub hl [2, 3, 4, 1, 0] rfl)
def f_X8_wouldViolate (x1 : Int32) (x2 : Int32) (x3 : Int32) (x4 : Int32) (P : Pool) (R : Rem) (I : Mem) : Option (Int32 × Mem) :=
  (f_X8_loadRow x1 x2 I).bind fun q1 =>
  (wr q1 10 4 x3 x4).bind fun I2 =>
  (rdq R P 5 2 2 x1).bind fun o3 =>
  (f_X8_rowViolates o3 P R I2).bind fun q4 =>
  if narrow .boolean (.int q4.1) = .int q4.1 then
  some (q4.1, q4.2)
  else none
abbrev rmX8_wouldViolate : Room := { frames := 4, cells := 0, slots := 0, locals := 94 }
set_option maxHeartbeats 4000000 in
set_option maxRecDepth 100000 in
theorem c_X8_wouldViolate {l : Launch} {g : Gam} {I : Mem} {R : Rem} {P : Pool} {Z : Zed} (x1 : Int32) (x2 : Int32) (x3 : Int32) (x4 : Int32)  {z : Int32 × Mem} (hf : f_X8_wouldViolate x1 x2 x3 x4 P R I = some z) : Met l yX8_wouldViolate (Cond.code yX8_wouldViolate cX8_wouldViolate 5 (some .boolean) :: GT) rmX8_wouldViolate (va_Pc [.ref (g.2.2 + 0), .int x1, .int x2, .int x3, .int x4] (PW g I R P Z)) (QI g z.1 z.2 R P Z) 0 0 (AA g) := by
  refine aw_ofW (lv0 := [(0, .ref (g.2.2 + 0)), (1, .int x1), (2, .int x2), (3, .int x3), (4, .int x4)]) (by decide) (by exact Nat.le_of_ble_eq_true rfl) (by rfl) (fun p0 e s m args below meth c ls C0 hl hW => ?_)
  have C0 : CX g p0 s m args meth c RX8 cX8_wouldViolate 5 (some .boolean) := C0
  have hx := C0.1; have hb := C0.2.1; have hown := C0.2.2.2.2.1; have hts := C0.2.2.2.2.2.1; have hKS := C0.2.2.2.2.2.2.1
  unfold f_X8_wouldViolate at hf
  obtain ⟨H, hH⟩ : ∃ H, H = s.heap := ⟨_, rfl⟩
  obtain ⟨locs, hlc⟩ : ∃ q : List Loc, q = [] := ⟨_, rfl⟩
  rw [show W p0 l e rmX8_wouldViolate s m args below meth c s.heap [] 0 0 (MQ below (QI g z.1 z.2 R P Z) args s 0 0 (AA g)) (F0 m 0 ls []) = W p0 l e rmX8_wouldViolate s m args below meth c H locs 0 0 (MQ below (QI g z.1 z.2 R P Z) args s 0 0 (AA g)) (F0 m 0 ls []) by rw [hH, hlc]]
  have hW : Wd g I R P Z s.heap H locs := by rw [hH, hlc]; exact hW
  refine lv_aload_n hx hb dX8_wouldViolate_0 rfl (lv_at hl 0 rfl) ?_
  refine lv_iload_n hx hb dX8_wouldViolate_1 rfl (lv_at hl 1 rfl) ?_
  refine lv_iload_n hx hb dX8_wouldViolate_2 rfl (lv_at hl 2 rfl) ?_
  obtain ⟨q1, hq1, hf⟩ := bnd hf
  refine aw_cVv (rest := []) C0 hW (lv_fix (by decide)) (cel_7 kd0) rfl (c_X8_loadRow x1 x2  hq1) (cw_X8_258 hts ⟨Nat.le_of_ble_eq_true rfl, Nat.le_of_ble_eq_true rfl⟩) rfl hl.1 rfl (Nat.le_of_ble_eq_true rfl) ⟨Nat.zero_le _, Nat.zero_le _⟩ dX8_wouldViolate_3 (fun H locs hW => ?_)
  refine lv_aload_n hx hb dX8_wouldViolate_6 rfl (lv_at hl 0 rfl) ?_
  refine aw_get (v := .ref (g.2.2 + 10)) C0 hW (lv_fix (by decide)) (cel_7 kd0) rfl inG7 7 (by decide) wd28 rfl rfl dX8_wouldViolate_7 ?_
  refine lv_iload_n hx hb dX8_wouldViolate_10 rfl (lv_at hl 3 rfl) ?_
  refine lv_iload hx hb dX8_wouldViolate_11 (lv_at hl 4 rfl) ?_
  obtain ⟨I2, hI2, hf⟩ := bnd hf
  refine aw_iast C0 hW kd10 ln10 hI2 dX8_wouldViolate_13 (fun H locs hW => ?_)
  refine lv_aload_n hx hb dX8_wouldViolate_14 rfl (lv_at hl 0 rfl) ?_
  refine lv_aload_n hx hb dX8_wouldViolate_15 rfl (lv_at hl 0 rfl) ?_
  refine aw_get (v := .ref (g.2.2 + 1)) C0 hW (lv_fix (by decide)) (cel_7 kd0) rfl inG7 0 (by decide) wd13 rfl rfl dX8_wouldViolate_16 ?_
  refine aw_get (v := .ref (g.2.2 + 5)) C0 hW (lv_fix (by decide)) (cel_6 kd1) rfl inG6 3 (by decide) wd36 rfl rfl dX8_wouldViolate_19 ?_
  refine lv_iload_n hx hb dX8_wouldViolate_22 rfl (lv_at hl 1 rfl) ?_
  obtain ⟨o3, ho3, hf⟩ := bnd hf
  refine aw_aald (Or.inl ⟨rfl, rfl, rfl⟩) C0 hW kd5 ln5 ho3 dX8_wouldViolate_23 ?_
  obtain ⟨q4, hq4, hf⟩ := bnd hf
  refine aw_cVi (rest := []) C0 hW (lv_fix (by decide)) (cel_7 kd0) rfl (c_X8_rowViolates o3 (rdq_in ho3).2.2 hq4) (cw_X8_94 hts ⟨Nat.le_of_ble_eq_true rfl, Nat.le_of_ble_eq_true rfl⟩) rfl hl.1 rfl (Nat.le_of_ble_eq_true rfl) ⟨Nat.zero_le _, Nat.zero_le _⟩ dX8_wouldViolate_24 (fun H locs hW => ?_)
  obtain ⟨hnw, hf⟩ := ifn hf
  have hz := Option.some.inj hf
  have hzV := congrArg (fun z : Int32 × Mem => z.1) hz
  have hzI := congrArg (fun z : Int32 × Mem => z.2) hz
  exact aw_zret C0 hW hnw hzV hzI rfl dX8_wouldViolate_27
def f_X8_truthFor (x1 : Int32) (x2 : Int32) (o3 : Option Nat) (P : Pool) (R : Rem) (I : Mem) : Option (Int32 × Mem) :=
  (f_X8_loadRow x1 x2 I).bind fun q1 =>
  (f_X8_unknownsOf 10 P q1).bind fun q2 =>
  (f_X1_truthOf o3 10 q2 P R q1).bind fun q3 =>
  some (q3.1, q3.2)
abbrev rmX8_truthFor : Room := { frames := 3, cells := 0, slots := 0, locals := 73 }
set_option maxHeartbeats 4000000 in
set_option maxRecDepth 100000 in
theorem c_X8_truthFor {l : Launch} {g : Gam} {I : Mem} {R : Rem} {P : Pool} {Z : Zed} (x1 : Int32) (x2 : Int32) (o3 : Option Nat) (ho3 : ∀ k, o3 = some k → Kd P k = 2) {z : Int32 × Mem} (hf : f_X8_truthFor x1 x2 o3 P R I = some z) : Met l yX8_truthFor (Cond.code yX8_truthFor cX8_truthFor 4 (some .int) :: GT) rmX8_truthFor (va_Pc [.ref (g.2.2 + 0), .int x1, .int x2, va_rf (o3.map (fun y => g.2.2 + y))] (PW g I R P Z)) (QI g z.1 z.2 R P Z) 0 0 (AA g) := by
  refine aw_ofW (lv0 := [(0, .ref (g.2.2 + 0)), (1, .int x1), (2, .int x2), (3, va_rf (o3.map (fun y => g.2.2 + y)))]) (by decide) (by cases o3 <;> exact Nat.le_of_ble_eq_true rfl) (by cases o3 <;> rfl) (fun p0 e s m args below meth c ls C0 hl hW => ?_)
  have C0 : CX g p0 s m args meth c RX8 cX8_truthFor 4 (some .int) := C0
  have hx := C0.1; have hb := C0.2.1; have hown := C0.2.2.2.2.1; have hts := C0.2.2.2.2.2.1; have hKS := C0.2.2.2.2.2.2.1
  unfold f_X8_truthFor at hf
  obtain ⟨H, hH⟩ : ∃ H, H = s.heap := ⟨_, rfl⟩
  obtain ⟨locs, hlc⟩ : ∃ q : List Loc, q = [] := ⟨_, rfl⟩
  rw [show W p0 l e rmX8_truthFor s m args below meth c s.heap [] 0 0 (MQ below (QI g z.1 z.2 R P Z) args s 0 0 (AA g)) (F0 m 0 ls []) = W p0 l e rmX8_truthFor s m args below meth c H locs 0 0 (MQ below (QI g z.1 z.2 R P Z) args s 0 0 (AA g)) (F0 m 0 ls []) by rw [hH, hlc]]
  have hW : Wd g I R P Z s.heap H locs := by rw [hH, hlc]; exact hW
  refine lv_aload_n hx hb dX8_truthFor_0 rfl (lv_at hl 0 rfl) ?_
  refine lv_iload_n hx hb dX8_truthFor_1 rfl (lv_at hl 1 rfl) ?_
  refine lv_iload_n hx hb dX8_truthFor_2 rfl (lv_at hl 2 rfl) ?_
  obtain ⟨q1, hq1, hf⟩ := bnd hf
  refine aw_cVv (rest := []) C0 hW (lv_fix (by decide)) (cel_7 kd0) rfl (c_X8_loadRow x1 x2  hq1) (cw_X8_258 hts ⟨Nat.le_of_ble_eq_true rfl, Nat.le_of_ble_eq_true rfl⟩) rfl hl.1 rfl (Nat.le_of_ble_eq_true rfl) ⟨Nat.zero_le _, Nat.zero_le _⟩ dX8_truthFor_3 (fun H locs hW => ?_)
  refine lv_aload_n hx hb dX8_truthFor_6 rfl (lv_at hl 0 rfl) ?_
  refine aw_get (v := .ref (g.2.2 + 11)) C0 hW (lv_fix (by decide)) (cel_7 kd0) rfl inG7 8 (by decide) wd27 rfl rfl dX8_truthFor_7 ?_
  refine aw_ald_n (x := o3) C0 dX8_truthFor_10 rfl (lv_at hl 3 rfl) ?_
  refine lv_aload_n hx hb dX8_truthFor_11 rfl (lv_at hl 0 rfl) ?_
  refine aw_get (v := .ref (g.2.2 + 10)) C0 hW (lv_fix (by decide)) (cel_7 kd0) rfl inG7 7 (by decide) wd28 rfl rfl dX8_truthFor_12 ?_
  refine lv_aload_n hx hb dX8_truthFor_15 rfl (lv_at hl 0 rfl) ?_
  refine aw_get (v := .ref (g.2.2 + 10)) C0 hW (lv_fix (by decide)) (cel_7 kd0) rfl inG7 7 (by decide) wd28 rfl rfl dX8_truthFor_16 ?_
  obtain ⟨q2, hq2, hf⟩ := bnd hf
  refine aw_cSi (rest := [.ref (g.2.2 + 10), va_rf (o3.map (fun y => g.2.2 + y)), .ref (g.2.2 + 11)]) C0 hW (c_X8_unknownsOf 10 kd10 hq2) (cw_X8_261 hts ⟨Nat.le_of_ble_eq_true rfl, Nat.le_of_ble_eq_true rfl⟩) rfl hl.1 rfl (by cases o3 <;> exact Nat.le_of_ble_eq_true rfl) ⟨Nat.zero_le _, Nat.zero_le _⟩ dX8_truthFor_19 (fun H locs hW => ?_)
  obtain ⟨q3, hq3, hf⟩ := bnd hf
  refine aw_cVi (rest := []) C0 hW (lv_fix (by decide)) (cel_1 kd11) rfl (c_X1_truthOf o3 10 q2 ho3 kd10 hq3) (cw_X8_318 hts ⟨Nat.le_of_ble_eq_true rfl, Nat.le_of_ble_eq_true rfl⟩) rfl hl.1 rfl (Nat.le_of_ble_eq_true rfl) ⟨Nat.zero_le _, Nat.zero_le _⟩ dX8_truthFor_22 (fun H locs hW => ?_)
  have hz := Option.some.inj hf
  have hzV := congrArg (fun z : Int32 × Mem => z.1) hz
  have hzI := congrArg (fun z : Int32 × Mem => z.2) hz
  exact aw_iret C0 hW hzV hzI rfl dX8_truthFor_25
theorem cw_X8_225 {Rm : Room} {s : State} {args : Array Value} (ht : ∀ w ∈ GT, w.before args s = true) (hR : rmX8_truthFor.frames + 1 ≤ Rm.frames ∧ 8 + (4 + 11) + rmX8_truthFor.locals ≤ Rm.locals) : CallW Rm s args RX8 RX8 225 yX8_truthFor cX8_truthFor 4 (some .int) (Cond.code yX8_truthFor cX8_truthFor 4 (some .int) :: GT) rmX8_truthFor 0 0 3 := cwV 3 ht (goodV wd275 wd276 wd277 wd243 wd278) rfl rfl rfl ⟨rfl, by decide +kernel, by decide +kernel, by decide +kernel⟩ hR
def f_X8_rowsWith_L6 (x1 : Int32) (o2 : Option Nat) (x3 : Int32) (P : Pool) (R : Rem) : Nat → Int32 → Int32 → Mem → Option (Int32 × Mem)
  | 0, _, _, _ => none
  | n + 1, w4, w5, I =>
    (rd I 3 2 x1).bind fun v1 =>
    if v1 ≤ w5 then (
      some (w4, I)
    ) else (
      (f_X8_truthFor x1 w5 o2 P R I).bind fun q2 =>
      if q2.1 = x3 then (
        f_X8_rowsWith_L6 x1 o2 x3 P R n (w4 ||| (1 <<< (w5 &&& 31))) (w5 + 1) q2.2
      ) else (
        f_X8_rowsWith_L6 x1 o2 x3 P R n w4 (w5 + 1) q2.2
      )
    )
def f_X8_rowsWith (x1 : Int32) (o2 : Option Nat) (x3 : Int32) (P : Pool) (R : Rem) (I : Mem) : Option (Int32 × Mem) :=
  (f_X8_rowsWith_L6 x1 o2 x3 P R fuel 0 0 I).bind fun q3 =>
  some (q3.1, q3.2)
abbrev rmX8_rowsWith : Room := { frames := 4, cells := 0, slots := 0, locals := 96 }
set_option maxHeartbeats 4000000 in
set_option maxRecDepth 100000 in
theorem c_X8_rowsWith {l : Launch} {g : Gam} {I : Mem} {R : Rem} {P : Pool} {Z : Zed} (x1 : Int32) (o2 : Option Nat) (x3 : Int32) (ho2 : ∀ k, o2 = some k → Kd P k = 2) {z : Int32 × Mem} (hf : f_X8_rowsWith x1 o2 x3 P R I = some z) : Met l yX8_rowsWith (Cond.code yX8_rowsWith cX8_rowsWith 6 (some .int) :: GT) rmX8_rowsWith (va_Pc [.ref (g.2.2 + 0), .int x1, va_rf (o2.map (fun y => g.2.2 + y)), .int x3] (PW g I R P Z)) (QI g z.1 z.2 R P Z) 0 0 (AA g) := by
  refine aw_ofW (lv0 := [(0, .ref (g.2.2 + 0)), (1, .int x1), (2, va_rf (o2.map (fun y => g.2.2 + y))), (3, .int x3)]) (by decide) (by cases o2 <;> exact Nat.le_of_ble_eq_true rfl) (by cases o2 <;> rfl) (fun p0 e s m args below meth c ls C0 hl hW => ?_)
  have C0 : CX g p0 s m args meth c RX8 cX8_rowsWith 6 (some .int) := C0
  have hx := C0.1; have hb := C0.2.1; have hown := C0.2.2.2.2.1; have hts := C0.2.2.2.2.2.1; have hKS := C0.2.2.2.2.2.2.1
  have L6 : ∀ (R : Rem) (n : Nat) (w4 : Int32) (w5 : Int32) (I : Mem) (H : Heap) (locs : List Loc) (ls : Array Slot) (o : Int32 × Mem), f_X8_rowsWith_L6 x1 o2 x3 P R n w4 w5 I = some o → Wd g I R P Z s.heap H locs → lv_has ls 6 [(0, .ref (g.2.2 + 0)), (1, .int x1), (2, va_rf (o2.map (fun y => g.2.2 + y))), (3, .int x3), (4, .int w4), (5, .int w5)] → (∀ (H : Heap) (locs : List Loc) (ls : Array Slot), Wd g o.2 R P Z s.heap H locs → lv_has ls 6 [(4, .int o.1)] → W p0 l e rmX8_rowsWith s m args below meth c H locs 0 0 (MQ below (QI g z.1 z.2 R P Z) args s 0 0 (AA g)) (F0 m 47 ls [])) → W p0 l e rmX8_rowsWith s m args below meth c H locs 0 0 (MQ below (QI g z.1 z.2 R P Z) args s 0 0 (AA g)) (F0 m 6 ls []) := by
    intro R n
    induction n with
    | zero => intro w4 w5 I H locs ls o hf; cases hf
    | succ n ih =>
      intro w4 w5 I H locs ls o hf hW hl hK
      rw [f_X8_rowsWith_L6] at hf
      refine lv_iload hx hb dX8_rowsWith_6 (lv_at hl 5 rfl) ?_
      refine lv_aload_n hx hb dX8_rowsWith_8 rfl (lv_at hl 0 rfl) ?_
      refine aw_get (v := .ref (g.2.2 + 1)) C0 hW (lv_fix (by decide)) (cel_7 kd0) rfl inG7 0 (by decide) wd13 rfl rfl dX8_rowsWith_9 ?_
      refine aw_get (v := .ref (g.2.2 + 3)) C0 hW (lv_fix (by decide)) (cel_6 kd1) rfl inG6 1 (by decide) wd37 rfl rfl dX8_rowsWith_12 ?_
      refine lv_iload_n hx hb dX8_rowsWith_15 rfl (lv_at hl 1 rfl) ?_
      obtain ⟨v1, hv1, hf⟩ := bnd hf
      refine aw_iald C0 hW kd3 ln3 hv1 dX8_rowsWith_16 ?_
      refine lv_icmp_ge (tgt := 47) hx hb dX8_rowsWith_17 rfl (fun hc => ?_) (fun hc => ?_)
      · have hf := ift hc hf
        have ho := Option.some.inj hf
        subst ho
        exact hK H locs ls hW (lv_sub hl [4] rfl)
      · have hf := iff_ hc hf
        refine lv_aload_n hx hb dX8_rowsWith_20 rfl (lv_at hl 0 rfl) ?_
        refine lv_iload_n hx hb dX8_rowsWith_21 rfl (lv_at hl 1 rfl) ?_
        refine lv_iload hx hb dX8_rowsWith_22 (lv_at hl 5 rfl) ?_
        refine aw_ald_n (x := o2) C0 dX8_rowsWith_24 rfl (lv_at hl 2 rfl) ?_
        obtain ⟨q2, hq2, hf⟩ := bnd hf
        refine aw_cVi (rest := []) C0 hW (lv_fix (by decide)) (cel_7 kd0) rfl (c_X8_truthFor x1 w5 o2 ho2 hq2) (cw_X8_225 hts ⟨Nat.le_of_ble_eq_true rfl, Nat.le_of_ble_eq_true rfl⟩) rfl hl.1 rfl (Nat.le_of_ble_eq_true rfl) ⟨Nat.zero_le _, Nat.zero_le _⟩ dX8_rowsWith_25 (fun H locs hW => ?_)
        refine lv_iload_n hx hb dX8_rowsWith_28 rfl (lv_at hl 3 rfl) ?_
        refine lv_icmp_ne (tgt := 41) hx hb dX8_rowsWith_29 rfl (fun hc => ?_) (fun hc => ?_)
        · have hf := iff_ hc hf
          refine lv_iinc (k := 5) (v := w5 + 1) (lv' := [(5, .int (w5 + 1)), (0, .ref (g.2.2 + 0)), (1, .int x1), (2, va_rf (o2.map (fun y => g.2.2 + y))), (3, .int x3), (4, .int w4)]) hx hb dX8_rowsWith_41 hl rfl (congrArg (fun t => w5 + t) (by decide : Int32.ofInt 1 = 1)) (Nat.le_of_ble_eq_true rfl) rfl (fun ls hl => ?_)
          refine lv_goto (tgt := 6) hx hb dX8_rowsWith_44 rfl ?_
          exact ih _ _ _ H locs ls o hf hW (lv_sub hl [1, 2, 3, 4, 5, 0] rfl) hK
        · have hf := ift hc hf
          refine lv_iload hx hb dX8_rowsWith_32 (lv_at hl 4 rfl) ?_
          refine lv_iconst (v := 1) hx hb dX8_rowsWith_34 (by decide) ?_
          refine lv_iload hx hb dX8_rowsWith_35 (lv_at hl 5 rfl) ?_
          refine lv_ishl hx hb dX8_rowsWith_37 ?_
          refine lv_ior hx hb dX8_rowsWith_38 ?_
          refine lv_istore (lv' := [(4, .int (w4 ||| (1 <<< (w5 &&& 31)))), (0, .ref (g.2.2 + 0)), (1, .int x1), (2, va_rf (o2.map (fun y => g.2.2 + y))), (3, .int x3), (5, .int w5)]) hx hb dX8_rowsWith_39 hl (Nat.le_of_ble_eq_true rfl) rfl (fun ls hl => ?_)
          refine lv_iinc (k := 5) (v := w5 + 1) (lv' := [(5, .int (w5 + 1)), (4, .int (w4 ||| (1 <<< (w5 &&& 31)))), (0, .ref (g.2.2 + 0)), (1, .int x1), (2, va_rf (o2.map (fun y => g.2.2 + y))), (3, .int x3)]) hx hb dX8_rowsWith_41 hl rfl (congrArg (fun t => w5 + t) (by decide : Int32.ofInt 1 = 1)) (Nat.le_of_ble_eq_true rfl) rfl (fun ls hl => ?_)
          refine lv_goto (tgt := 6) hx hb dX8_rowsWith_44 rfl ?_
          exact ih _ _ _ H locs ls o hf hW (lv_sub hl [2, 3, 4, 5, 1, 0] rfl) hK
  unfold f_X8_rowsWith at hf
  obtain ⟨H, hH⟩ : ∃ H, H = s.heap := ⟨_, rfl⟩
  obtain ⟨locs, hlc⟩ : ∃ q : List Loc, q = [] := ⟨_, rfl⟩
  rw [show W p0 l e rmX8_rowsWith s m args below meth c s.heap [] 0 0 (MQ below (QI g z.1 z.2 R P Z) args s 0 0 (AA g)) (F0 m 0 ls []) = W p0 l e rmX8_rowsWith s m args below meth c H locs 0 0 (MQ below (QI g z.1 z.2 R P Z) args s 0 0 (AA g)) (F0 m 0 ls []) by rw [hH, hlc]]
  have hW : Wd g I R P Z s.heap H locs := by rw [hH, hlc]; exact hW
  refine lv_iconst (v := 0) hx hb dX8_rowsWith_0 (by decide) ?_
  refine lv_istore (lv' := [(4, .int 0), (0, .ref (g.2.2 + 0)), (1, .int x1), (2, va_rf (o2.map (fun y => g.2.2 + y))), (3, .int x3)]) hx hb dX8_rowsWith_1 hl (Nat.le_of_ble_eq_true rfl) rfl (fun ls hl => ?_)
  refine lv_iconst (v := 0) hx hb dX8_rowsWith_3 (by decide) ?_
  refine lv_istore (lv' := [(5, .int 0), (4, .int 0), (0, .ref (g.2.2 + 0)), (1, .int x1), (2, va_rf (o2.map (fun y => g.2.2 + y))), (3, .int x3)]) hx hb dX8_rowsWith_4 hl (Nat.le_of_ble_eq_true rfl) rfl (fun ls hl => ?_)
  obtain ⟨q3, hq3, hf⟩ := bnd hf
  refine L6 R fuel 0 0 I H locs ls _ hq3 hW (lv_sub hl [2, 3, 4, 5, 1, 0] rfl) (fun H locs ls hW hl => ?_)
  refine lv_iload hx hb dX8_rowsWith_47 (lv_at hl 0 rfl) ?_
  have hz := Option.some.inj hf
  have hzV := congrArg (fun z : Int32 × Mem => z.1) hz
  have hzI := congrArg (fun z : Int32 × Mem => z.2) hz
  exact aw_iret C0 hW hzV hzI rfl dX8_rowsWith_49
theorem cw_X8_176 {Rm : Room} {s : State} {args : Array Value} (ht : ∀ w ∈ GT, w.before args s = true) (hR : rmX8_rowsWith.frames + 1 ≤ Rm.frames ∧ 8 + (6 + 11) + rmX8_rowsWith.locals ≤ Rm.locals) : CallW Rm s args RX8 RX8 176 yX8_rowsWith cX8_rowsWith 6 (some .int) (Cond.code yX8_rowsWith cX8_rowsWith 6 (some .int) :: GT) rmX8_rowsWith 0 0 3 := cwV 3 ht (goodV wd259 wd260 wd261 wd243 wd262) rfl rfl rfl ⟨rfl, by decide +kernel, by decide +kernel, by decide +kernel⟩ hR
def f_X8_countRows (x1 : Int32) (o2 : Option Nat) (x3 : Int32) (P : Pool) (R : Rem) (I : Mem) : Option (Int32 × Mem) :=
  oq o2 (
    some (0, I)
  ) fun k1 => (
    (f_X8_rowsWith x1 ((some k1)) x3 P R I).bind fun q2 =>
    (f_J6_bitCount_0f7a4 q2.1).bind fun q3 =>
    some (q3, q2.2)
  )
abbrev rmX8_countRows : Room := { frames := 5, cells := 0, slots := 0, locals := 121 }
set_option maxHeartbeats 4000000 in
set_option maxRecDepth 100000 in
theorem c_X8_countRows {l : Launch} {g : Gam} {I : Mem} {R : Rem} {P : Pool} {Z : Zed} (x1 : Int32) (o2 : Option Nat) (x3 : Int32) (ho2 : ∀ k, o2 = some k → Kd P k = 2) {z : Int32 × Mem} (hf : f_X8_countRows x1 o2 x3 P R I = some z) : Met l yX8_countRows (Cond.code yX8_countRows cX8_countRows 4 (some .int) :: GT) rmX8_countRows (va_Pc [.ref (g.2.2 + 0), .int x1, va_rf (o2.map (fun y => g.2.2 + y)), .int x3] (PW g I R P Z)) (QI g z.1 z.2 R P Z) 0 0 (AA g) := by
  refine aw_ofW (lv0 := [(0, .ref (g.2.2 + 0)), (1, .int x1), (2, va_rf (o2.map (fun y => g.2.2 + y))), (3, .int x3)]) (by decide) (by cases o2 <;> exact Nat.le_of_ble_eq_true rfl) (by cases o2 <;> rfl) (fun p0 e s m args below meth c ls C0 hl hW => ?_)
  have C0 : CX g p0 s m args meth c RX8 cX8_countRows 4 (some .int) := C0
  have hx := C0.1; have hb := C0.2.1; have hown := C0.2.2.2.2.1; have hts := C0.2.2.2.2.2.1; have hKS := C0.2.2.2.2.2.2.1
  unfold f_X8_countRows at hf
  obtain ⟨H, hH⟩ : ∃ H, H = s.heap := ⟨_, rfl⟩
  obtain ⟨locs, hlc⟩ : ∃ q : List Loc, q = [] := ⟨_, rfl⟩
  rw [show W p0 l e rmX8_countRows s m args below meth c s.heap [] 0 0 (MQ below (QI g z.1 z.2 R P Z) args s 0 0 (AA g)) (F0 m 0 ls []) = W p0 l e rmX8_countRows s m args below meth c H locs 0 0 (MQ below (QI g z.1 z.2 R P Z) args s 0 0 (AA g)) (F0 m 0 ls []) by rw [hH, hlc]]
  have hW : Wd g I R P Z s.heap H locs := by rw [hH, hlc]; exact hW
  refine aw_ald_n (x := o2) C0 dX8_countRows_0 rfl (lv_at hl 2 rfl) ?_
  rcases hkk1 : o2 with _ | k1
  · rw [hkk1] at hf
    have hf := (oq_n.symm.trans hf)
    have hl : lv_has ls 4 [(0, .ref (g.2.2 + 0)), (1, .int x1), (2, va_rf (((none : Option Nat)).map (fun y => g.2.2 + y))), (3, .int x3)] := by first | exact hl | (rw [hkk1] at hl; exact hl)
    refine W.eq (g2 := F0 m 1 ls ([.null])) (by first | rfl | (rw [hkk1]; rfl)) ?_
    refine lv_ifnonnullN hx hb dX8_countRows_1 ?_
    refine lv_iconst (v := 0) hx hb dX8_countRows_4 (by decide) ?_
    refine lv_goto (tgt := 18) hx hb dX8_countRows_5 rfl ?_
    have hz := Option.some.inj hf
    have hzV := congrArg (fun z : Int32 × Mem => z.1) hz
    have hzI := congrArg (fun z : Int32 × Mem => z.2) hz
    exact aw_iret C0 hW hzV hzI rfl dX8_countRows_18
  · rw [hkk1] at hf
    have hf := (oq_s.symm.trans hf)
    have hk1 := ho2 k1 hkk1
    have hl : lv_has ls 4 [(0, .ref (g.2.2 + 0)), (1, .int x1), (2, .ref (g.2.2 + k1)), (3, .int x3)] := by first | exact hl | (rw [hkk1] at hl; exact hl)
    refine W.eq (g2 := F0 m 1 ls ([.ref (g.2.2 + k1)])) (by first | rfl | (rw [hkk1]; rfl)) ?_
    refine lv_ifnonnull (tgt := 8) hx hb dX8_countRows_1 rfl ?_
    refine lv_aload_n hx hb dX8_countRows_8 rfl (lv_at hl 0 rfl) ?_
    refine lv_iload_n hx hb dX8_countRows_9 rfl (lv_at hl 1 rfl) ?_
    refine lv_aload_n hx hb dX8_countRows_10 rfl (lv_at hl 2 rfl) ?_
    refine lv_iload_n hx hb dX8_countRows_11 rfl (lv_at hl 3 rfl) ?_
    obtain ⟨q2, hq2, hf⟩ := bnd hf
    refine aw_cVi (rest := []) C0 hW (lv_fix (by decide)) (cel_7 kd0) rfl (c_X8_rowsWith x1 ((some k1)) x3 (fun k h => by cases h; exact hk1) hq2) (cw_X8_176 hts ⟨Nat.le_of_ble_eq_true rfl, Nat.le_of_ble_eq_true rfl⟩) rfl hl.1 rfl (Nat.le_of_ble_eq_true rfl) ⟨Nat.zero_le _, Nat.zero_le _⟩ dX8_countRows_12 (fun H locs hW => ?_)
    obtain ⟨q3, hq3, hf⟩ := bnd hf
    refine aw_cSi (rest := []) C0 hW (c_J6_bitCount_0f7a4 q2.1  hq3) (cw_X8_179 hts ⟨Nat.le_of_ble_eq_true rfl, Nat.le_of_ble_eq_true rfl⟩) rfl hl.1 rfl (Nat.le_of_ble_eq_true rfl) ⟨Nat.zero_le _, Nat.zero_le _⟩ dX8_countRows_15 (fun H locs hW => ?_)
    have hz := Option.some.inj hf
    have hzV := congrArg (fun z : Int32 × Mem => z.1) hz
    have hzI := congrArg (fun z : Int32 × Mem => z.2) hz
    exact aw_iret C0 hW hzV hzI rfl dX8_countRows_18
def f_X8_rowsWithCell_L6 (x1 : Int32) (x2 : Int32) (x3 : Int32) (I : Mem) : Nat → Int32 → Int32 → Option (Int32)
  | 0, _, _ => none
  | n + 1, w4, w5 =>
    (rd I 3 2 x1).bind fun v1 =>
    if v1 ≤ w5 then (
      some w4
    ) else (
      (f_X8_place x1 w5 x2).bind fun q2 =>
      (rd I 2 128 q2).bind fun v3 =>
      if v3 = x3 then (
        f_X8_rowsWithCell_L6 x1 x2 x3 I n (w4 ||| (1 <<< (w5 &&& 31))) (w5 + 1)
      ) else (
        f_X8_rowsWithCell_L6 x1 x2 x3 I n w4 (w5 + 1)
      )
    )
def f_X8_rowsWithCell (x1 : Int32) (x2 : Int32) (x3 : Int32) (I : Mem) : Option (Int32) :=
  (f_X8_rowsWithCell_L6 x1 x2 x3 I fuel 0 0).bind fun q4 =>
  some q4
abbrev rmX8_rowsWithCell : Room := { frames := 1, cells := 0, slots := 0, locals := 22 }
set_option maxHeartbeats 4000000 in
set_option maxRecDepth 100000 in
theorem c_X8_rowsWithCell {l : Launch} {g : Gam} {I : Mem} {R : Rem} {P : Pool} {Z : Zed} (x1 : Int32) (x2 : Int32) (x3 : Int32)  {z : Int32} (hf : f_X8_rowsWithCell x1 x2 x3 I = some z) : Met l yX8_rowsWithCell (Cond.code yX8_rowsWithCell cX8_rowsWithCell 6 (some .int) :: GT) rmX8_rowsWithCell (va_Pc [.ref (g.2.2 + 0), .int x1, .int x2, .int x3] (PW g I R P Z)) (QI g z I R P Z) 0 0 (AA g) := by
  refine aw_ofW (lv0 := [(0, .ref (g.2.2 + 0)), (1, .int x1), (2, .int x2), (3, .int x3)]) (by decide) (by exact Nat.le_of_ble_eq_true rfl) (by rfl) (fun p0 e s m args below meth c ls C0 hl hW => ?_)
  have C0 : CX g p0 s m args meth c RX8 cX8_rowsWithCell 6 (some .int) := C0
  have hx := C0.1; have hb := C0.2.1; have hown := C0.2.2.2.2.1; have hts := C0.2.2.2.2.2.1; have hKS := C0.2.2.2.2.2.2.1
  have L6 : ∀ (I : Mem) (n : Nat) (w4 : Int32) (w5 : Int32) (H : Heap) (locs : List Loc) (ls : Array Slot) (o : Int32), f_X8_rowsWithCell_L6 x1 x2 x3 I n w4 w5 = some o → Wd g I R P Z s.heap H locs → lv_has ls 6 [(0, .ref (g.2.2 + 0)), (1, .int x1), (2, .int x2), (3, .int x3), (4, .int w4), (5, .int w5)] → (∀ (H : Heap) (locs : List Loc) (ls : Array Slot), Wd g I R P Z s.heap H locs → lv_has ls 6 [(4, .int o)] → W p0 l e rmX8_rowsWithCell s m args below meth c H locs 0 0 (MQ below (QI g z I R P Z) args s 0 0 (AA g)) (F0 m 54 ls [])) → W p0 l e rmX8_rowsWithCell s m args below meth c H locs 0 0 (MQ below (QI g z I R P Z) args s 0 0 (AA g)) (F0 m 6 ls []) := by
    intro I n
    induction n with
    | zero => intro w4 w5 H locs ls o hf; cases hf
    | succ n ih =>
      intro w4 w5 H locs ls o hf hW hl hK
      rw [f_X8_rowsWithCell_L6] at hf
      refine lv_iload hx hb dX8_rowsWithCell_6 (lv_at hl 5 rfl) ?_
      refine lv_aload_n hx hb dX8_rowsWithCell_8 rfl (lv_at hl 0 rfl) ?_
      refine aw_get (v := .ref (g.2.2 + 1)) C0 hW (lv_fix (by decide)) (cel_7 kd0) rfl inG7 0 (by decide) wd13 rfl rfl dX8_rowsWithCell_9 ?_
      refine aw_get (v := .ref (g.2.2 + 3)) C0 hW (lv_fix (by decide)) (cel_6 kd1) rfl inG6 1 (by decide) wd37 rfl rfl dX8_rowsWithCell_12 ?_
      refine lv_iload_n hx hb dX8_rowsWithCell_15 rfl (lv_at hl 1 rfl) ?_
      obtain ⟨v1, hv1, hf⟩ := bnd hf
      refine aw_iald C0 hW kd3 ln3 hv1 dX8_rowsWithCell_16 ?_
      refine lv_icmp_ge (tgt := 54) hx hb dX8_rowsWithCell_17 rfl (fun hc => ?_) (fun hc => ?_)
      · have hf := ift hc hf
        have ho := Option.some.inj hf
        subst ho
        exact hK H locs ls hW (lv_sub hl [4] rfl)
      · have hf := iff_ hc hf
        refine lv_aload_n hx hb dX8_rowsWithCell_20 rfl (lv_at hl 0 rfl) ?_
        refine aw_get (v := .ref (g.2.2 + 1)) C0 hW (lv_fix (by decide)) (cel_7 kd0) rfl inG7 0 (by decide) wd13 rfl rfl dX8_rowsWithCell_21 ?_
        refine aw_get (v := .ref (g.2.2 + 2)) C0 hW (lv_fix (by decide)) (cel_6 kd1) rfl inG6 0 (by decide) wd30 rfl rfl dX8_rowsWithCell_24 ?_
        refine lv_iload_n hx hb dX8_rowsWithCell_27 rfl (lv_at hl 1 rfl) ?_
        refine lv_iload hx hb dX8_rowsWithCell_28 (lv_at hl 5 rfl) ?_
        refine lv_iload_n hx hb dX8_rowsWithCell_30 rfl (lv_at hl 2 rfl) ?_
        obtain ⟨q2, hq2, hf⟩ := bnd hf
        refine aw_cSi (rest := [.ref (g.2.2 + 2)]) C0 hW (c_X8_place x1 w5 x2  hq2) (cw_X8_105 hts ⟨Nat.le_of_ble_eq_true rfl, Nat.le_of_ble_eq_true rfl⟩) rfl hl.1 rfl (Nat.le_of_ble_eq_true rfl) ⟨Nat.zero_le _, Nat.zero_le _⟩ dX8_rowsWithCell_31 (fun H locs hW => ?_)
        obtain ⟨v3, hv3, hf⟩ := bnd hf
        refine aw_iald C0 hW kd2 ln2 hv3 dX8_rowsWithCell_34 ?_
        refine lv_iload_n hx hb dX8_rowsWithCell_35 rfl (lv_at hl 3 rfl) ?_
        refine lv_icmp_ne (tgt := 48) hx hb dX8_rowsWithCell_36 rfl (fun hc => ?_) (fun hc => ?_)
        · have hf := iff_ hc hf
          refine lv_iinc (k := 5) (v := w5 + 1) (lv' := [(5, .int (w5 + 1)), (0, .ref (g.2.2 + 0)), (1, .int x1), (2, .int x2), (3, .int x3), (4, .int w4)]) hx hb dX8_rowsWithCell_48 hl rfl (congrArg (fun t => w5 + t) (by decide : Int32.ofInt 1 = 1)) (Nat.le_of_ble_eq_true rfl) rfl (fun ls hl => ?_)
          refine lv_goto (tgt := 6) hx hb dX8_rowsWithCell_51 rfl ?_
          exact ih _ _ H locs ls o hf hW (lv_sub hl [1, 2, 3, 4, 5, 0] rfl) hK
        · have hf := ift hc hf
          refine lv_iload hx hb dX8_rowsWithCell_39 (lv_at hl 4 rfl) ?_
          refine lv_iconst (v := 1) hx hb dX8_rowsWithCell_41 (by decide) ?_
          refine lv_iload hx hb dX8_rowsWithCell_42 (lv_at hl 5 rfl) ?_
          refine lv_ishl hx hb dX8_rowsWithCell_44 ?_
          refine lv_ior hx hb dX8_rowsWithCell_45 ?_
          refine lv_istore (lv' := [(4, .int (w4 ||| (1 <<< (w5 &&& 31)))), (0, .ref (g.2.2 + 0)), (1, .int x1), (2, .int x2), (3, .int x3), (5, .int w5)]) hx hb dX8_rowsWithCell_46 hl (Nat.le_of_ble_eq_true rfl) rfl (fun ls hl => ?_)
          refine lv_iinc (k := 5) (v := w5 + 1) (lv' := [(5, .int (w5 + 1)), (4, .int (w4 ||| (1 <<< (w5 &&& 31)))), (0, .ref (g.2.2 + 0)), (1, .int x1), (2, .int x2), (3, .int x3)]) hx hb dX8_rowsWithCell_48 hl rfl (congrArg (fun t => w5 + t) (by decide : Int32.ofInt 1 = 1)) (Nat.le_of_ble_eq_true rfl) rfl (fun ls hl => ?_)
          refine lv_goto (tgt := 6) hx hb dX8_rowsWithCell_51 rfl ?_
          exact ih _ _ H locs ls o hf hW (lv_sub hl [2, 3, 4, 5, 1, 0] rfl) hK
  unfold f_X8_rowsWithCell at hf
  obtain ⟨H, hH⟩ : ∃ H, H = s.heap := ⟨_, rfl⟩
  obtain ⟨locs, hlc⟩ : ∃ q : List Loc, q = [] := ⟨_, rfl⟩
  rw [show W p0 l e rmX8_rowsWithCell s m args below meth c s.heap [] 0 0 (MQ below (QI g z I R P Z) args s 0 0 (AA g)) (F0 m 0 ls []) = W p0 l e rmX8_rowsWithCell s m args below meth c H locs 0 0 (MQ below (QI g z I R P Z) args s 0 0 (AA g)) (F0 m 0 ls []) by rw [hH, hlc]]
  have hW : Wd g I R P Z s.heap H locs := by rw [hH, hlc]; exact hW
  refine lv_iconst (v := 0) hx hb dX8_rowsWithCell_0 (by decide) ?_
  refine lv_istore (lv' := [(4, .int 0), (0, .ref (g.2.2 + 0)), (1, .int x1), (2, .int x2), (3, .int x3)]) hx hb dX8_rowsWithCell_1 hl (Nat.le_of_ble_eq_true rfl) rfl (fun ls hl => ?_)
  refine lv_iconst (v := 0) hx hb dX8_rowsWithCell_3 (by decide) ?_
  refine lv_istore (lv' := [(5, .int 0), (4, .int 0), (0, .ref (g.2.2 + 0)), (1, .int x1), (2, .int x2), (3, .int x3)]) hx hb dX8_rowsWithCell_4 hl (Nat.le_of_ble_eq_true rfl) rfl (fun ls hl => ?_)
  obtain ⟨q4, hq4, hf⟩ := bnd hf
  refine L6 I fuel 0 0 H locs ls _ hq4 hW (lv_sub hl [2, 3, 4, 5, 1, 0] rfl) (fun H locs ls hW hl => ?_)
  refine lv_iload hx hb dX8_rowsWithCell_54 (lv_at hl 0 rfl) ?_
  have hz := Option.some.inj hf
  exact aw_iret C0 hW hz rfl rfl dX8_rowsWithCell_56
theorem cw_X8_218 {Rm : Room} {s : State} {args : Array Value} (ht : ∀ w ∈ GT, w.before args s = true) (hR : rmX8_rowsWithCell.frames + 1 ≤ Rm.frames ∧ 8 + (6 + 11) + rmX8_rowsWithCell.locals ≤ Rm.locals) : CallW Rm s args RX8 RX8 218 yX8_rowsWithCell cX8_rowsWithCell 6 (some .int) (Cond.code yX8_rowsWithCell cX8_rowsWithCell 6 (some .int) :: GT) rmX8_rowsWithCell 0 0 3 := cwV 3 ht (goodV wd271 wd272 wd273 wd243 wd274) rfl rfl rfl ⟨rfl, by decide +kernel, by decide +kernel, by decide +kernel⟩ hR
def f_X8_differentValues_L5 (x1 : Int32) (x2 : Int32) (I : Mem) : Nat → Int32 → Int32 → Option (Int32)
  | 0, _, _ => none
  | n + 1, w3, w4 =>
    if 100 ≤ w4 then (
      some w3
    ) else (
      (f_X8_rowsWithCell x1 x2 w4 I).bind fun q1 =>
      if q1 = 0 then (
        f_X8_differentValues_L5 x1 x2 I n w3 (w4 + 1)
      ) else (
        f_X8_differentValues_L5 x1 x2 I n (w3 + 1) (w4 + 1)
      )
    )
def f_X8_differentValues (x1 : Int32) (x2 : Int32) (I : Mem) : Option (Int32) :=
  (f_X8_differentValues_L5 x1 x2 I fuel 0 0).bind fun q2 =>
  some q2
abbrev rmX8_differentValues : Room := { frames := 2, cells := 0, slots := 0, locals := 47 }
set_option maxHeartbeats 4000000 in
set_option maxRecDepth 100000 in
theorem c_X8_differentValues {l : Launch} {g : Gam} {I : Mem} {R : Rem} {P : Pool} {Z : Zed} (x1 : Int32) (x2 : Int32)  {z : Int32} (hf : f_X8_differentValues x1 x2 I = some z) : Met l yX8_differentValues (Cond.code yX8_differentValues cX8_differentValues 5 (some .int) :: GT) rmX8_differentValues (va_Pc [.ref (g.2.2 + 0), .int x1, .int x2] (PW g I R P Z)) (QI g z I R P Z) 0 0 (AA g) := by
  refine aw_ofW (lv0 := [(0, .ref (g.2.2 + 0)), (1, .int x1), (2, .int x2)]) (by decide) (by exact Nat.le_of_ble_eq_true rfl) (by rfl) (fun p0 e s m args below meth c ls C0 hl hW => ?_)
  have C0 : CX g p0 s m args meth c RX8 cX8_differentValues 5 (some .int) := C0
  have hx := C0.1; have hb := C0.2.1; have hown := C0.2.2.2.2.1; have hts := C0.2.2.2.2.2.1; have hKS := C0.2.2.2.2.2.2.1
  have L5 : ∀ (I : Mem) (n : Nat) (w3 : Int32) (w4 : Int32) (H : Heap) (locs : List Loc) (ls : Array Slot) (o : Int32), f_X8_differentValues_L5 x1 x2 I n w3 w4 = some o → Wd g I R P Z s.heap H locs → lv_has ls 5 [(0, .ref (g.2.2 + 0)), (1, .int x1), (2, .int x2), (3, .int w3), (4, .int w4)] → (∀ (H : Heap) (locs : List Loc) (ls : Array Slot), Wd g I R P Z s.heap H locs → lv_has ls 5 [(3, .int o)] → W p0 l e rmX8_differentValues s m args below meth c H locs 0 0 (MQ below (QI g z I R P Z) args s 0 0 (AA g)) (F0 m 32 ls [])) → W p0 l e rmX8_differentValues s m args below meth c H locs 0 0 (MQ below (QI g z I R P Z) args s 0 0 (AA g)) (F0 m 5 ls []) := by
    intro I n
    induction n with
    | zero => intro w3 w4 H locs ls o hf; cases hf
    | succ n ih =>
      intro w3 w4 H locs ls o hf hW hl hK
      rw [f_X8_differentValues_L5] at hf
      refine lv_iload hx hb dX8_differentValues_5 (lv_at hl 4 rfl) ?_
      refine lv_bipush (v := 100) hx hb dX8_differentValues_7 (by decide) ?_
      refine lv_icmp_ge (tgt := 32) hx hb dX8_differentValues_9 rfl (fun hc => ?_) (fun hc => ?_)
      · have hf := ift hc hf
        have ho := Option.some.inj hf
        subst ho
        exact hK H locs ls hW (lv_sub hl [3] rfl)
      · have hf := iff_ hc hf
        refine lv_aload_n hx hb dX8_differentValues_12 rfl (lv_at hl 0 rfl) ?_
        refine lv_iload_n hx hb dX8_differentValues_13 rfl (lv_at hl 1 rfl) ?_
        refine lv_iload_n hx hb dX8_differentValues_14 rfl (lv_at hl 2 rfl) ?_
        refine lv_iload hx hb dX8_differentValues_15 (lv_at hl 4 rfl) ?_
        obtain ⟨q1, hq1, hf⟩ := bnd hf
        refine aw_cVi (rest := []) C0 hW (lv_fix (by decide)) (cel_7 kd0) rfl (c_X8_rowsWithCell x1 x2 w4  hq1) (cw_X8_218 hts ⟨Nat.le_of_ble_eq_true rfl, Nat.le_of_ble_eq_true rfl⟩) rfl hl.1 rfl (Nat.le_of_ble_eq_true rfl) ⟨Nat.zero_le _, Nat.zero_le _⟩ dX8_differentValues_17 (fun H locs hW => ?_)
        refine lv_if_eq (tgt := 26) hx hb dX8_differentValues_20 rfl (fun hc => ?_) (fun hc => ?_)
        · have hf := ift hc hf
          refine lv_iinc (k := 4) (v := w4 + 1) (lv' := [(4, .int (w4 + 1)), (0, .ref (g.2.2 + 0)), (1, .int x1), (2, .int x2), (3, .int w3)]) hx hb dX8_differentValues_26 hl rfl (congrArg (fun t => w4 + t) (by decide : Int32.ofInt 1 = 1)) (Nat.le_of_ble_eq_true rfl) rfl (fun ls hl => ?_)
          refine lv_goto (tgt := 5) hx hb dX8_differentValues_29 rfl ?_
          exact ih _ _ H locs ls o hf hW (lv_sub hl [1, 2, 3, 4, 0] rfl) hK
        · have hf := iff_ hc hf
          refine lv_iinc (k := 3) (v := w3 + 1) (lv' := [(3, .int (w3 + 1)), (0, .ref (g.2.2 + 0)), (1, .int x1), (2, .int x2), (4, .int w4)]) hx hb dX8_differentValues_23 hl rfl (congrArg (fun t => w3 + t) (by decide : Int32.ofInt 1 = 1)) (Nat.le_of_ble_eq_true rfl) rfl (fun ls hl => ?_)
          refine lv_iinc (k := 4) (v := w4 + 1) (lv' := [(4, .int (w4 + 1)), (3, .int (w3 + 1)), (0, .ref (g.2.2 + 0)), (1, .int x1), (2, .int x2)]) hx hb dX8_differentValues_26 hl rfl (congrArg (fun t => w4 + t) (by decide : Int32.ofInt 1 = 1)) (Nat.le_of_ble_eq_true rfl) rfl (fun ls hl => ?_)
          refine lv_goto (tgt := 5) hx hb dX8_differentValues_29 rfl ?_
          exact ih _ _ H locs ls o hf hW (lv_sub hl [2, 3, 4, 1, 0] rfl) hK
  unfold f_X8_differentValues at hf
  obtain ⟨H, hH⟩ : ∃ H, H = s.heap := ⟨_, rfl⟩
  obtain ⟨locs, hlc⟩ : ∃ q : List Loc, q = [] := ⟨_, rfl⟩
  rw [show W p0 l e rmX8_differentValues s m args below meth c s.heap [] 0 0 (MQ below (QI g z I R P Z) args s 0 0 (AA g)) (F0 m 0 ls []) = W p0 l e rmX8_differentValues s m args below meth c H locs 0 0 (MQ below (QI g z I R P Z) args s 0 0 (AA g)) (F0 m 0 ls []) by rw [hH, hlc]]
  have hW : Wd g I R P Z s.heap H locs := by rw [hH, hlc]; exact hW
  refine lv_iconst (v := 0) hx hb dX8_differentValues_0 (by decide) ?_
  refine lv_istore_n (lv' := [(3, .int 0), (0, .ref (g.2.2 + 0)), (1, .int x1), (2, .int x2)]) hx hb dX8_differentValues_1 rfl hl (Nat.le_of_ble_eq_true rfl) rfl (fun ls hl => ?_)
  refine lv_iconst (v := 0) hx hb dX8_differentValues_2 (by decide) ?_
  refine lv_istore (lv' := [(4, .int 0), (3, .int 0), (0, .ref (g.2.2 + 0)), (1, .int x1), (2, .int x2)]) hx hb dX8_differentValues_3 hl (Nat.le_of_ble_eq_true rfl) rfl (fun ls hl => ?_)
  obtain ⟨q2, hq2, hf⟩ := bnd hf
  refine L5 I fuel 0 0 H locs ls _ hq2 hW (lv_sub hl [2, 3, 4, 1, 0] rfl) (fun H locs ls hW hl => ?_)
  refine lv_iload_n hx hb dX8_differentValues_32 rfl (lv_at hl 0 rfl) ?_
  have hz := Option.some.inj hf
  exact aw_iret C0 hW hz rfl rfl dX8_differentValues_33
def f_X2_copySteps (p : Nat) (a1 : Nat) (x2 : Int32) (P : Pool) (R : Rem) (I : Mem) : Option (Mem) :=
  if x2 < 0 then (
    some I
  ) else (
    (rdn R P p 0 10).bind fun k1 =>
    if (Int32.ofNat (Ln P a1)) < (x2 + (Int32.ofNat (Ln P k1))) then (
      some I
    ) else (
      (rdn R P p 0 10).bind fun k2 =>
      (rdn R P p 0 10).bind fun k3 =>
      (cpy I k2 (Ln P k2) a1 (Ln P a1) 0 x2 (Int32.ofNat (Ln P k3))).bind fun I4 =>
      some I4
    )
  )
abbrev rmX2_copySteps : Room := { frames := 1, cells := 0, slots := 0, locals := 26 }
set_option maxHeartbeats 4000000 in
set_option maxRecDepth 100000 in
theorem c_X2_copySteps {l : Launch} {g : Gam} {I : Mem} {R : Rem} {P : Pool} {Z : Zed} (p : Nat) (a1 : Nat) (x2 : Int32) (hp : Kd P p = 2) (ha1 : Kd P a1 = 10) {z : Mem} (hf : f_X2_copySteps p a1 x2 P R I = some z) : Met l yX2_copySteps (Cond.code yX2_copySteps cX2_copySteps 3 none :: GT) rmX2_copySteps (va_Pc [.ref (g.2.2 + p), .ref (g.2.2 + a1), .int x2] (PW g I R P Z)) (QV g z R P Z) 0 0 (AA g) := by
  refine aw_ofW (lv0 := [(0, .ref (g.2.2 + p)), (1, .ref (g.2.2 + a1)), (2, .int x2)]) (by decide) (by exact Nat.le_of_ble_eq_true rfl) (by rfl) (fun p0 e s m args below meth c ls C0 hl hW => ?_)
  have C0 : CX g p0 s m args meth c RX2 cX2_copySteps 3 none := C0
  have hx := C0.1; have hb := C0.2.1; have hown := C0.2.2.2.2.1; have hts := C0.2.2.2.2.2.1; have hKS := C0.2.2.2.2.2.2.1
  unfold f_X2_copySteps at hf
  obtain ⟨H, hH⟩ : ∃ H, H = s.heap := ⟨_, rfl⟩
  obtain ⟨locs, hlc⟩ : ∃ q : List Loc, q = [] := ⟨_, rfl⟩
  rw [show W p0 l e rmX2_copySteps s m args below meth c s.heap [] 0 0 (MQ below (QV g z R P Z) args s 0 0 (AA g)) (F0 m 0 ls []) = W p0 l e rmX2_copySteps s m args below meth c H locs 0 0 (MQ below (QV g z R P Z) args s 0 0 (AA g)) (F0 m 0 ls []) by rw [hH, hlc]]
  have hW : Wd g I R P Z s.heap H locs := by rw [hH, hlc]; exact hW
  refine lv_iload_n hx hb dX2_copySteps_0 rfl (lv_at hl 2 rfl) ?_
  refine lv_if_lt (tgt := 31) hx hb dX2_copySteps_1 rfl (fun hc => ?_) (fun hc => ?_)
  · have hf := ift hc hf
    have hz := Option.some.inj hf
    exact aw_vret C0 hW hz rfl dX2_copySteps_31
  · have hf := iff_ hc hf
    refine lv_iload_n hx hb dX2_copySteps_4 rfl (lv_at hl 2 rfl) ?_
    refine lv_aload_n hx hb dX2_copySteps_5 rfl (lv_at hl 0 rfl) ?_
    obtain ⟨k1, ek1, hf⟩ := bnd hf
    obtain ⟨rk1, hk1⟩ := rdn_in ek1
    refine aw_get (v := .ref (g.2.2 + k1)) C0 hW (lv_kd hW.1.2.2 hp (by decide)) (cel_2 hp) rfl inG2 0 (by decide) wd18 rfl (by rw [rk1]; rfl) dX2_copySteps_6 ?_
    refine aw_alen (v := Int32.ofNat (Ln P k1)) C0 hW hk1 rfl rfl dX2_copySteps_9 ?_
    refine lv_iadd hx hb dX2_copySteps_10 ?_
    refine lv_aload_n hx hb dX2_copySteps_11 rfl (lv_at hl 1 rfl) ?_
    refine aw_alen (v := Int32.ofNat (Ln P a1)) C0 hW ha1 rfl rfl dX2_copySteps_12 ?_
    refine lv_icmp_gt (tgt := 31) hx hb dX2_copySteps_13 rfl (fun hc => ?_) (fun hc => ?_)
    · have hf := ift hc hf
      have hz := Option.some.inj hf
      exact aw_vret C0 hW hz rfl dX2_copySteps_31
    · have hf := iff_ hc hf
      refine lv_aload_n hx hb dX2_copySteps_16 rfl (lv_at hl 0 rfl) ?_
      obtain ⟨k2, ek2, hf⟩ := bnd hf
      obtain ⟨rk2, hk2⟩ := rdn_in ek2
      refine aw_get (v := .ref (g.2.2 + k2)) C0 hW (lv_kd hW.1.2.2 hp (by decide)) (cel_2 hp) rfl inG2 0 (by decide) wd18 rfl (by rw [rk2]; rfl) dX2_copySteps_17 ?_
      refine lv_iconst (v := 0) hx hb dX2_copySteps_20 (by decide) ?_
      refine lv_aload_n hx hb dX2_copySteps_21 rfl (lv_at hl 1 rfl) ?_
      refine lv_iload_n hx hb dX2_copySteps_22 rfl (lv_at hl 2 rfl) ?_
      refine lv_aload_n hx hb dX2_copySteps_23 rfl (lv_at hl 0 rfl) ?_
      obtain ⟨k3, ek3, hf⟩ := bnd hf
      obtain ⟨rk3, hk3⟩ := rdn_in ek3
      refine aw_get (v := .ref (g.2.2 + k3)) C0 hW (lv_kd hW.1.2.2 hp (by decide)) (cel_2 hp) rfl inG2 0 (by decide) wd18 rfl (by rw [rk3]; rfl) dX2_copySteps_24 ?_
      refine aw_alen (v := Int32.ofNat (Ln P k3)) C0 hW hk3 rfl rfl dX2_copySteps_27 ?_
      obtain ⟨I4, hI4, hf⟩ := bnd hf
      refine aw_cpy (rest := []) C0 hl.1 hW hk2 rfl ha1 rfl hI4 wd38 wd5 wd6 wd7 (Nat.le_of_ble_eq_true rfl) (Nat.le_of_ble_eq_true rfl) dX2_copySteps_28 (fun H locs hW => ?_)
      have hz := Option.some.inj hf
      exact aw_vret C0 hW hz rfl dX2_copySteps_31
def f_X7_joint (x0 : Int32) : Option (Int32) :=
  some x0
abbrev rmX7_joint : Room := { frames := 0, cells := 0, slots := 0, locals := 0 }
set_option maxHeartbeats 4000000 in
set_option maxRecDepth 100000 in
theorem c_X7_joint {l : Launch} {g : Gam} {I : Mem} {R : Rem} {P : Pool} {Z : Zed} (x0 : Int32)  {z : Int32} (hf : f_X7_joint x0 = some z) : Met l yX7_joint (Cond.code yX7_joint cX7_joint 1 (some .int) :: GT) rmX7_joint (va_Pc [.int x0] (PW g I R P Z)) (QI g z I R P Z) 0 0 (AA g) := by
  refine aw_ofW (lv0 := [(0, .int x0)]) (by decide) (by exact Nat.le_of_ble_eq_true rfl) (by rfl) (fun p0 e s m args below meth c ls C0 hl hW => ?_)
  have C0 : CX g p0 s m args meth c RX7 cX7_joint 1 (some .int) := C0
  have hx := C0.1; have hb := C0.2.1; have hown := C0.2.2.2.2.1; have hts := C0.2.2.2.2.2.1; have hKS := C0.2.2.2.2.2.2.1
  unfold f_X7_joint at hf
  obtain ⟨H, hH⟩ : ∃ H, H = s.heap := ⟨_, rfl⟩
  obtain ⟨locs, hlc⟩ : ∃ q : List Loc, q = [] := ⟨_, rfl⟩
  rw [show W p0 l e rmX7_joint s m args below meth c s.heap [] 0 0 (MQ below (QI g z I R P Z) args s 0 0 (AA g)) (F0 m 0 ls []) = W p0 l e rmX7_joint s m args below meth c H locs 0 0 (MQ below (QI g z I R P Z) args s 0 0 (AA g)) (F0 m 0 ls []) by rw [hH, hlc]]
  have hW : Wd g I R P Z s.heap H locs := by rw [hH, hlc]; exact hW
  refine lv_iload_n hx hb dX7_joint_0 rfl (lv_at hl 0 rfl) ?_
  have hz := Option.some.inj hf
  exact aw_iret C0 hW hz rfl rfl dX7_joint_1
theorem cw_X4_102 {Rm : Room} {s : State} {args : Array Value} (ht : ∀ w ∈ GT, w.before args s = true) (hR : rmX7_joint.frames + 1 ≤ Rm.frames ∧ 8 + (1 + 11) + rmX7_joint.locals ≤ Rm.locals) : CallB Rm s args RX4 102 yX7_joint cX7_joint 1 (some .int) (Cond.code yX7_joint cX7_joint 1 (some .int) :: GT) rmX7_joint 0 0 1 ∧ (Cond.static yX7_joint).before args s = true := va_cwS 1 ht (goodS wd142 wd143 wd91 wd144) rfl rfl rfl ⟨by decide +kernel, by decide +kernel, by decide +kernel⟩ hR
def f_X8_related (x0 : Int32) (x1 : Int32) (x2 : Int32) : Option (Int32) :=
  if x2 = 0 then (
    if x0 = x1 then (
      some 1
    ) else (
      some 0
    )
  ) else (
  if x2 = 1 then (
    if x0 = 2 then (
      if x1 = 2 then (
        some 0
      ) else (
        some 1
      )
    ) else (
      some 0
    )
  ) else (
    if x1 ≤ x0 then (
      some 0
    ) else (
      some 1
    )
  ))
abbrev rmX8_related : Room := { frames := 0, cells := 0, slots := 0, locals := 0 }
set_option maxHeartbeats 4000000 in
set_option maxRecDepth 100000 in
theorem c_X8_related {l : Launch} {g : Gam} {I : Mem} {R : Rem} {P : Pool} {Z : Zed} (x0 : Int32) (x1 : Int32) (x2 : Int32)  {z : Int32} (hf : f_X8_related x0 x1 x2 = some z) : Met l yX8_related (Cond.code yX8_related cX8_related 3 (some .boolean) :: GT) rmX8_related (va_Pc [.int x0, .int x1, .int x2] (PW g I R P Z)) (QI g z I R P Z) 0 0 (AA g) := by
  refine aw_ofW (lv0 := [(0, .int x0), (1, .int x1), (2, .int x2)]) (by decide) (by exact Nat.le_of_ble_eq_true rfl) (by rfl) (fun p0 e s m args below meth c ls C0 hl hW => ?_)
  have C0 : CX g p0 s m args meth c RX8 cX8_related 3 (some .boolean) := C0
  have hx := C0.1; have hb := C0.2.1; have hown := C0.2.2.2.2.1; have hts := C0.2.2.2.2.2.1; have hKS := C0.2.2.2.2.2.2.1
  unfold f_X8_related at hf
  obtain ⟨H, hH⟩ : ∃ H, H = s.heap := ⟨_, rfl⟩
  obtain ⟨locs, hlc⟩ : ∃ q : List Loc, q = [] := ⟨_, rfl⟩
  rw [show W p0 l e rmX8_related s m args below meth c s.heap [] 0 0 (MQ below (QI g z I R P Z) args s 0 0 (AA g)) (F0 m 0 ls []) = W p0 l e rmX8_related s m args below meth c H locs 0 0 (MQ below (QI g z I R P Z) args s 0 0 (AA g)) (F0 m 0 ls []) by rw [hH, hlc]]
  have hW : Wd g I R P Z s.heap H locs := by rw [hH, hlc]; exact hW
  refine lv_iload_n hx hb dX8_related_0 rfl (lv_at hl 2 rfl) ?_
  by_cases hs1 : x2 = 0
  · have hf := ift hs1 hf
    refine lv_lookup (off := 27) (tgt := 28) hx hb dX8_related_1 (by decide) (by rw [hs1]; decide) rfl ?_
    refine lv_iload_n hx hb dX8_related_28 rfl (lv_at hl 0 rfl) ?_
    refine lv_iload_n hx hb dX8_related_29 rfl (lv_at hl 1 rfl) ?_
    refine lv_icmp_ne (tgt := 37) hx hb dX8_related_30 rfl (fun hc => ?_) (fun hc => ?_)
    · have hf := iff_ hc hf
      refine lv_iconst (v := 0) hx hb dX8_related_37 (by decide) ?_
      have hz := Option.some.inj hf
      exact aw_zret C0 hW rfl hz rfl rfl dX8_related_38
    · have hf := ift hc hf
      refine lv_iconst (v := 1) hx hb dX8_related_33 (by decide) ?_
      refine lv_goto (tgt := 38) hx hb dX8_related_34 rfl ?_
      have hz := Option.some.inj hf
      exact aw_zret C0 hW rfl hz rfl rfl dX8_related_38
  have hf := iff_ hs1 hf
  by_cases hs2 : x2 = 1
  · have hf := ift hs2 hf
    refine lv_lookup (off := 38) (tgt := 39) hx hb dX8_related_1 (by decide) (by rw [hs2]; decide) rfl ?_
    refine lv_iload_n hx hb dX8_related_39 rfl (lv_at hl 0 rfl) ?_
    refine lv_iconst (v := 2) hx hb dX8_related_40 (by decide) ?_
    refine lv_icmp_ne (tgt := 53) hx hb dX8_related_41 rfl (fun hc => ?_) (fun hc => ?_)
    · have hf := iff_ hc hf
      refine lv_iconst (v := 0) hx hb dX8_related_53 (by decide) ?_
      have hz := Option.some.inj hf
      exact aw_zret C0 hW rfl hz rfl rfl dX8_related_54
    · have hf := ift hc hf
      refine lv_iload_n hx hb dX8_related_44 rfl (lv_at hl 1 rfl) ?_
      refine lv_iconst (v := 2) hx hb dX8_related_45 (by decide) ?_
      refine lv_icmp_eq (tgt := 53) hx hb dX8_related_46 rfl (fun hc => ?_) (fun hc => ?_)
      · have hf := ift hc hf
        refine lv_iconst (v := 0) hx hb dX8_related_53 (by decide) ?_
        have hz := Option.some.inj hf
        exact aw_zret C0 hW rfl hz rfl rfl dX8_related_54
      · have hf := iff_ hc hf
        refine lv_iconst (v := 1) hx hb dX8_related_49 (by decide) ?_
        refine lv_goto (tgt := 54) hx hb dX8_related_50 rfl ?_
        have hz := Option.some.inj hf
        exact aw_zret C0 hW rfl hz rfl rfl dX8_related_54
  have hf := iff_ hs2 hf
  refine lv_lookup (off := 54) (tgt := 55) hx hb dX8_related_1 (by decide) (lko_c (i32_ne (n := 0) (by decide) hs1) (lko_c (i32_ne (n := 1) (by decide) hs2) rfl)) rfl ?_
  refine lv_iload_n hx hb dX8_related_55 rfl (lv_at hl 0 rfl) ?_
  refine lv_iload_n hx hb dX8_related_56 rfl (lv_at hl 1 rfl) ?_
  refine lv_icmp_ge (tgt := 64) hx hb dX8_related_57 rfl (fun hc => ?_) (fun hc => ?_)
  · have hf := ift hc hf
    refine lv_iconst (v := 0) hx hb dX8_related_64 (by decide) ?_
    have hz := Option.some.inj hf
    exact aw_zret C0 hW rfl hz rfl rfl dX8_related_65
  · have hf := iff_ hc hf
    refine lv_iconst (v := 1) hx hb dX8_related_60 (by decide) ?_
    refine lv_goto (tgt := 65) hx hb dX8_related_61 rfl ?_
    have hz := Option.some.inj hf
    exact aw_zret C0 hW rfl hz rfl rfl dX8_related_65
def f_X8_filledSlots_L4 (P : Pool) (R : Rem) : Nat → Int32 → Int32 → Option (Int32)
  | 0, _, _ => none
  | n + 1, w1, w2 =>
    if 6 ≤ w2 then (
      some w1
    ) else (
      (rdq R P 4 6 2 w2).bind fun o1 =>
      oq o1 (
        f_X8_filledSlots_L4 P R n w1 (w2 + 1)
      ) fun k2 => (
        f_X8_filledSlots_L4 P R n (w1 + 1) (w2 + 1)
      )
    )
def f_X8_filledSlots (P : Pool) (R : Rem) : Option (Int32) :=
  (f_X8_filledSlots_L4 P R fuel 0 0).bind fun q3 =>
  some q3
abbrev rmX8_filledSlots : Room := { frames := 0, cells := 0, slots := 0, locals := 0 }
set_option maxHeartbeats 4000000 in
set_option maxRecDepth 100000 in
theorem c_X8_filledSlots {l : Launch} {g : Gam} {I : Mem} {R : Rem} {P : Pool} {Z : Zed}   {z : Int32} (hf : f_X8_filledSlots P R = some z) : Met l yX8_filledSlots (Cond.code yX8_filledSlots cX8_filledSlots 3 (some .int) :: GT) rmX8_filledSlots (va_Pc [.ref (g.2.2 + 0)] (PW g I R P Z)) (QI g z I R P Z) 0 0 (AA g) := by
  refine aw_ofW (lv0 := [(0, .ref (g.2.2 + 0))]) (by decide) (by exact Nat.le_of_ble_eq_true rfl) (by rfl) (fun p0 e s m args below meth c ls C0 hl hW => ?_)
  have C0 : CX g p0 s m args meth c RX8 cX8_filledSlots 3 (some .int) := C0
  have hx := C0.1; have hb := C0.2.1; have hown := C0.2.2.2.2.1; have hts := C0.2.2.2.2.2.1; have hKS := C0.2.2.2.2.2.2.1
  have L4 : ∀ (R : Rem) (n : Nat) (w1 : Int32) (w2 : Int32) (H : Heap) (locs : List Loc) (ls : Array Slot) (o : Int32), f_X8_filledSlots_L4 P R n w1 w2 = some o → Wd g I R P Z s.heap H locs → lv_has ls 3 [(0, .ref (g.2.2 + 0)), (1, .int w1), (2, .int w2)] → (∀ (H : Heap) (locs : List Loc) (ls : Array Slot), Wd g I R P Z s.heap H locs → lv_has ls 3 [(1, .int o)] → W p0 l e rmX8_filledSlots s m args below meth c H locs 0 0 (MQ below (QI g z I R P Z) args s 0 0 (AA g)) (F0 m 31 ls [])) → W p0 l e rmX8_filledSlots s m args below meth c H locs 0 0 (MQ below (QI g z I R P Z) args s 0 0 (AA g)) (F0 m 4 ls []) := by
    intro R n
    induction n with
    | zero => intro w1 w2 H locs ls o hf; cases hf
    | succ n ih =>
      intro w1 w2 H locs ls o hf hW hl hK
      rw [f_X8_filledSlots_L4] at hf
      refine lv_iload_n hx hb dX8_filledSlots_4 rfl (lv_at hl 2 rfl) ?_
      refine lv_bipush (v := 6) hx hb dX8_filledSlots_5 (by decide) ?_
      refine lv_icmp_ge (tgt := 31) hx hb dX8_filledSlots_7 rfl (fun hc => ?_) (fun hc => ?_)
      · have hf := ift hc hf
        have ho := Option.some.inj hf
        subst ho
        exact hK H locs ls hW (lv_sub hl [1] rfl)
      · have hf := iff_ hc hf
        refine lv_aload_n hx hb dX8_filledSlots_10 rfl (lv_at hl 0 rfl) ?_
        refine aw_get (v := .ref (g.2.2 + 1)) C0 hW (lv_fix (by decide)) (cel_7 kd0) rfl inG7 0 (by decide) wd13 rfl rfl dX8_filledSlots_11 ?_
        refine aw_get (v := .ref (g.2.2 + 4)) C0 hW (lv_fix (by decide)) (cel_6 kd1) rfl inG6 2 (by decide) wd39 rfl rfl dX8_filledSlots_14 ?_
        refine lv_iload_n hx hb dX8_filledSlots_17 rfl (lv_at hl 2 rfl) ?_
        obtain ⟨o1, ho1, hf⟩ := bnd hf
        refine aw_aald (Or.inl ⟨rfl, rfl, rfl⟩) C0 hW kd4 ln4 ho1 dX8_filledSlots_18 ?_
        rcases hkk2 : o1 with _ | k2
        · rw [hkk2] at hf
          have hf := (oq_n.symm.trans hf)
          have hl : lv_has ls 3 [(0, .ref (g.2.2 + 0)), (1, .int w1), (2, .int w2)] := by first | exact hl | (rw [hkk2] at hl; exact hl)
          refine W.eq (g2 := F0 m 19 ls ([.null])) (by first | rfl | (rw [hkk2]; rfl)) ?_
          refine lv_ifnullN (tgt := 25) hx hb dX8_filledSlots_19 rfl ?_
          refine lv_iinc (k := 2) (v := w2 + 1) (lv' := [(2, .int (w2 + 1)), (0, .ref (g.2.2 + 0)), (1, .int w1)]) hx hb dX8_filledSlots_25 hl rfl (congrArg (fun t => w2 + t) (by decide : Int32.ofInt 1 = 1)) (Nat.le_of_ble_eq_true rfl) rfl (fun ls hl => ?_)
          refine lv_goto (tgt := 4) hx hb dX8_filledSlots_28 rfl ?_
          exact ih _ _ H locs ls o hf hW (lv_sub hl [1, 2, 0] rfl) hK
        · rw [hkk2] at hf
          have hf := (oq_s.symm.trans hf)
          have hk2 := (rdq_in ho1).2.2 k2 hkk2
          have hl : lv_has ls 3 [(0, .ref (g.2.2 + 0)), (1, .int w1), (2, .int w2)] := by first | exact hl | (rw [hkk2] at hl; exact hl)
          refine W.eq (g2 := F0 m 19 ls ([.ref (g.2.2 + k2)])) (by first | rfl | (rw [hkk2]; rfl)) ?_
          refine lv_ifnull hx hb dX8_filledSlots_19 ?_
          refine lv_iinc (k := 1) (v := w1 + 1) (lv' := [(1, .int (w1 + 1)), (0, .ref (g.2.2 + 0)), (2, .int w2)]) hx hb dX8_filledSlots_22 hl rfl (congrArg (fun t => w1 + t) (by decide : Int32.ofInt 1 = 1)) (Nat.le_of_ble_eq_true rfl) rfl (fun ls hl => ?_)
          refine lv_iinc (k := 2) (v := w2 + 1) (lv' := [(2, .int (w2 + 1)), (1, .int (w1 + 1)), (0, .ref (g.2.2 + 0))]) hx hb dX8_filledSlots_25 hl rfl (congrArg (fun t => w2 + t) (by decide : Int32.ofInt 1 = 1)) (Nat.le_of_ble_eq_true rfl) rfl (fun ls hl => ?_)
          refine lv_goto (tgt := 4) hx hb dX8_filledSlots_28 rfl ?_
          exact ih _ _ H locs ls o hf hW (lv_sub hl [2, 1, 0] rfl) hK
  unfold f_X8_filledSlots at hf
  obtain ⟨H, hH⟩ : ∃ H, H = s.heap := ⟨_, rfl⟩
  obtain ⟨locs, hlc⟩ : ∃ q : List Loc, q = [] := ⟨_, rfl⟩
  rw [show W p0 l e rmX8_filledSlots s m args below meth c s.heap [] 0 0 (MQ below (QI g z I R P Z) args s 0 0 (AA g)) (F0 m 0 ls []) = W p0 l e rmX8_filledSlots s m args below meth c H locs 0 0 (MQ below (QI g z I R P Z) args s 0 0 (AA g)) (F0 m 0 ls []) by rw [hH, hlc]]
  have hW : Wd g I R P Z s.heap H locs := by rw [hH, hlc]; exact hW
  refine lv_iconst (v := 0) hx hb dX8_filledSlots_0 (by decide) ?_
  refine lv_istore_n (lv' := [(1, .int 0), (0, .ref (g.2.2 + 0))]) hx hb dX8_filledSlots_1 rfl hl (Nat.le_of_ble_eq_true rfl) rfl (fun ls hl => ?_)
  refine lv_iconst (v := 0) hx hb dX8_filledSlots_2 (by decide) ?_
  refine lv_istore_n (lv' := [(2, .int 0), (1, .int 0), (0, .ref (g.2.2 + 0))]) hx hb dX8_filledSlots_3 rfl hl (Nat.le_of_ble_eq_true rfl) rfl (fun ls hl => ?_)
  obtain ⟨q3, hq3, hf⟩ := bnd hf
  refine L4 R fuel 0 0 H locs ls _ hq3 hW (lv_sub hl [2, 1, 0] rfl) (fun H locs ls hW hl => ?_)
  refine lv_iload_n hx hb dX8_filledSlots_31 rfl (lv_at hl 0 rfl) ?_
  have hz := Option.some.inj hf
  exact aw_iret C0 hW hz rfl rfl dX8_filledSlots_32
def f_X4_isColumn (x0 : Int32) : Option (Int32) :=
  if x0 < 97 then (
    some 0
  ) else (
    if 100 < x0 then (
      some 0
    ) else (
      some 1
    )
  )
abbrev rmX4_isColumn : Room := { frames := 0, cells := 0, slots := 0, locals := 0 }
set_option maxHeartbeats 4000000 in
set_option maxRecDepth 100000 in
theorem c_X4_isColumn {l : Launch} {g : Gam} {I : Mem} {R : Rem} {P : Pool} {Z : Zed} (x0 : Int32)  {z : Int32} (hf : f_X4_isColumn x0 = some z) : Met l yX4_isColumn (Cond.code yX4_isColumn cX4_isColumn 1 (some .boolean) :: GT) rmX4_isColumn (va_Pc [.int x0] (PW g I R P Z)) (QI g z I R P Z) 0 0 (AA g) := by
  refine aw_ofW (lv0 := [(0, .int x0)]) (by decide) (by exact Nat.le_of_ble_eq_true rfl) (by rfl) (fun p0 e s m args below meth c ls C0 hl hW => ?_)
  have C0 : CX g p0 s m args meth c RX4 cX4_isColumn 1 (some .boolean) := C0
  have hx := C0.1; have hb := C0.2.1; have hown := C0.2.2.2.2.1; have hts := C0.2.2.2.2.2.1; have hKS := C0.2.2.2.2.2.2.1
  unfold f_X4_isColumn at hf
  obtain ⟨H, hH⟩ : ∃ H, H = s.heap := ⟨_, rfl⟩
  obtain ⟨locs, hlc⟩ : ∃ q : List Loc, q = [] := ⟨_, rfl⟩
  rw [show W p0 l e rmX4_isColumn s m args below meth c s.heap [] 0 0 (MQ below (QI g z I R P Z) args s 0 0 (AA g)) (F0 m 0 ls []) = W p0 l e rmX4_isColumn s m args below meth c H locs 0 0 (MQ below (QI g z I R P Z) args s 0 0 (AA g)) (F0 m 0 ls []) by rw [hH, hlc]]
  have hW : Wd g I R P Z s.heap H locs := by rw [hH, hlc]; exact hW
  refine lv_iload_n hx hb dX4_isColumn_0 rfl (lv_at hl 0 rfl) ?_
  refine lv_bipush (v := 97) hx hb dX4_isColumn_1 (by decide) ?_
  refine lv_icmp_lt (tgt := 16) hx hb dX4_isColumn_3 rfl (fun hc => ?_) (fun hc => ?_)
  · have hf := ift hc hf
    refine lv_iconst (v := 0) hx hb dX4_isColumn_16 (by decide) ?_
    have hz := Option.some.inj hf
    exact aw_zret C0 hW rfl hz rfl rfl dX4_isColumn_17
  · have hf := iff_ hc hf
    refine lv_iload_n hx hb dX4_isColumn_6 rfl (lv_at hl 0 rfl) ?_
    refine lv_bipush (v := 100) hx hb dX4_isColumn_7 (by decide) ?_
    refine lv_icmp_gt (tgt := 16) hx hb dX4_isColumn_9 rfl (fun hc => ?_) (fun hc => ?_)
    · have hf := ift hc hf
      refine lv_iconst (v := 0) hx hb dX4_isColumn_16 (by decide) ?_
      have hz := Option.some.inj hf
      exact aw_zret C0 hW rfl hz rfl rfl dX4_isColumn_17
    · have hf := iff_ hc hf
      refine lv_iconst (v := 1) hx hb dX4_isColumn_12 (by decide) ?_
      refine lv_goto (tgt := 17) hx hb dX4_isColumn_13 rfl ?_
      have hz := Option.some.inj hf
      exact aw_zret C0 hW rfl hz rfl rfl dX4_isColumn_17
theorem cw_X4_72 {Rm : Room} {s : State} {args : Array Value} (ht : ∀ w ∈ GT, w.before args s = true) (hR : rmX4_isColumn.frames + 1 ≤ Rm.frames ∧ 8 + (1 + 11) + rmX4_isColumn.locals ≤ Rm.locals) : CallB Rm s args RX4 72 yX4_isColumn cX4_isColumn 1 (some .boolean) (Cond.code yX4_isColumn cX4_isColumn 1 (some .boolean) :: GT) rmX4_isColumn 0 0 1 ∧ (Cond.static yX4_isColumn).before args s = true := va_cwS 1 ht (goodS wd180 wd181 wd149 wd182) rfl rfl rfl ⟨by decide +kernel, by decide +kernel, by decide +kernel⟩ hR
def f_X4_takesFactor (x1 : Int32) (P : Pool) (I : Mem) : Option (Int32 × Mem) :=
  if x1 = 33 then (
    (f_X3_push 22 x1 P I).bind fun q1 =>
    if x1 = 40 then (
      some (1, (up q1 19 3 ((q1 19 3) + 1)))
    ) else (
      some (1, (up q1 19 3 ((q1 19 3) + 0)))
    )
  ) else (
    if x1 = 40 then (
      (f_X3_push 22 x1 P I).bind fun q3 =>
      if x1 = 40 then (
        some (1, (up q3 19 3 ((q3 19 3) + 1)))
      ) else (
        some (1, (up q3 19 3 ((q3 19 3) + 0)))
      )
    ) else (
      (f_X4_isColumn x1).bind fun q2 =>
      if q2 = 0 then (
        some (0, I)
      ) else (
        some (1, (up (up I 19 4 (x1 - 97)) 19 2 1))
      )
    )
  )
abbrev rmX4_takesFactor : Room := { frames := 1, cells := 0, slots := 0, locals := 21 }
set_option maxHeartbeats 4000000 in
set_option maxRecDepth 100000 in
theorem c_X4_takesFactor {l : Launch} {g : Gam} {I : Mem} {R : Rem} {P : Pool} {Z : Zed} (x1 : Int32)  {z : Int32 × Mem} (hf : f_X4_takesFactor x1 P I = some z) : Met l yX4_takesFactor (Cond.code yX4_takesFactor cX4_takesFactor 2 (some .boolean) :: GT) rmX4_takesFactor (va_Pc [.ref (g.2.2 + 19), .int x1] (PW g I R P Z)) (QI g z.1 z.2 R P Z) 0 0 (AA g) := by
  refine aw_ofW (lv0 := [(0, .ref (g.2.2 + 19)), (1, .int x1)]) (by decide) (by exact Nat.le_of_ble_eq_true rfl) (by rfl) (fun p0 e s m args below meth c ls C0 hl hW => ?_)
  have C0 : CX g p0 s m args meth c RX4 cX4_takesFactor 2 (some .boolean) := C0
  have hx := C0.1; have hb := C0.2.1; have hown := C0.2.2.2.2.1; have hts := C0.2.2.2.2.2.1; have hKS := C0.2.2.2.2.2.2.1
  unfold f_X4_takesFactor at hf
  obtain ⟨H, hH⟩ : ∃ H, H = s.heap := ⟨_, rfl⟩
  obtain ⟨locs, hlc⟩ : ∃ q : List Loc, q = [] := ⟨_, rfl⟩
  rw [show W p0 l e rmX4_takesFactor s m args below meth c s.heap [] 0 0 (MQ below (QI g z.1 z.2 R P Z) args s 0 0 (AA g)) (F0 m 0 ls []) = W p0 l e rmX4_takesFactor s m args below meth c H locs 0 0 (MQ below (QI g z.1 z.2 R P Z) args s 0 0 (AA g)) (F0 m 0 ls []) by rw [hH, hlc]]
  have hW : Wd g I R P Z s.heap H locs := by rw [hH, hlc]; exact hW
  refine lv_iload_n hx hb dX4_takesFactor_0 rfl (lv_at hl 1 rfl) ?_
  refine lv_bipush (v := 33) hx hb dX4_takesFactor_1 (by decide) ?_
  refine lv_icmp_eq (tgt := 12) hx hb dX4_takesFactor_3 rfl (fun hc => ?_) (fun hc => ?_)
  · have hf := ift hc hf
    refine lv_aload_n hx hb dX4_takesFactor_12 rfl (lv_at hl 0 rfl) ?_
    refine aw_get (v := .ref (g.2.2 + 22)) C0 hW (lv_fix (by decide)) (cel_4 kd19) rfl inG4 1 (by decide) wd40 rfl rfl dX4_takesFactor_13 ?_
    refine lv_iload_n hx hb dX4_takesFactor_16 rfl (lv_at hl 1 rfl) ?_
    obtain ⟨q1, hq1, hf⟩ := bnd hf
    refine aw_cVv (rest := []) C0 hW (lv_fix (by decide)) (cel_3 kd22) rfl (c_X3_push 22 x1 kd22 hq1) (cw_X4_69 hts ⟨Nat.le_of_ble_eq_true rfl, Nat.le_of_ble_eq_true rfl⟩) rfl hl.1 rfl (Nat.le_of_ble_eq_true rfl) ⟨Nat.zero_le _, Nat.zero_le _⟩ dX4_takesFactor_17 (fun H locs hW => ?_)
    refine lv_aload_n hx hb dX4_takesFactor_20 rfl (lv_at hl 0 rfl) ?_
    refine lv_dup hx hb dX4_takesFactor_21 rfl ?_
    refine aw_get (v := .int (q1 19 3)) C0 hW (lv_fix (by decide)) (cel_4 kd19) rfl inG4 3 (by decide) wd41 rfl rfl dX4_takesFactor_22 ?_
    refine lv_iload_n hx hb dX4_takesFactor_25 rfl (lv_at hl 1 rfl) ?_
    refine lv_bipush (v := 40) hx hb dX4_takesFactor_26 (by decide) ?_
    refine lv_icmp_ne (tgt := 35) hx hb dX4_takesFactor_28 rfl (fun hc => ?_) (fun hc => ?_)
    · have hf := iff_ hc hf
      refine lv_iconst (v := 0) hx hb dX4_takesFactor_35 (by decide) ?_
      refine lv_iadd hx hb dX4_takesFactor_36 ?_
      refine aw_put C0 hW (lv_fix (by decide)) (cel_4 kd19) rfl inG4 tyX4 tyX4_ok nmX4 3 (by decide) wd41 rfl rfl (ty := .int) rfl rfl rfl (Nat.le_of_ble_eq_true rfl) (pu_4_3 kd19) dX4_takesFactor_37 (fun H locs hW => ?_)
      refine lv_iconst (v := 1) hx hb dX4_takesFactor_40 (by decide) ?_
      have hz := Option.some.inj hf
      have hzV := congrArg (fun z : Int32 × Mem => z.1) hz
      have hzI := congrArg (fun z : Int32 × Mem => z.2) hz
      exact aw_zret C0 hW rfl hzV hzI rfl dX4_takesFactor_41
    · have hf := ift hc hf
      refine lv_iconst (v := 1) hx hb dX4_takesFactor_31 (by decide) ?_
      refine lv_goto (tgt := 36) hx hb dX4_takesFactor_32 rfl ?_
      refine lv_iadd hx hb dX4_takesFactor_36 ?_
      refine aw_put C0 hW (lv_fix (by decide)) (cel_4 kd19) rfl inG4 tyX4 tyX4_ok nmX4 3 (by decide) wd41 rfl rfl (ty := .int) rfl rfl rfl (Nat.le_of_ble_eq_true rfl) (pu_4_3 kd19) dX4_takesFactor_37 (fun H locs hW => ?_)
      refine lv_iconst (v := 1) hx hb dX4_takesFactor_40 (by decide) ?_
      have hz := Option.some.inj hf
      have hzV := congrArg (fun z : Int32 × Mem => z.1) hz
      have hzI := congrArg (fun z : Int32 × Mem => z.2) hz
      exact aw_zret C0 hW rfl hzV hzI rfl dX4_takesFactor_41
  · have hf := iff_ hc hf
    refine lv_iload_n hx hb dX4_takesFactor_6 rfl (lv_at hl 1 rfl) ?_
    refine lv_bipush (v := 40) hx hb dX4_takesFactor_7 (by decide) ?_
    refine lv_icmp_ne (tgt := 42) hx hb dX4_takesFactor_9 rfl (fun hc => ?_) (fun hc => ?_)
    · have hf := iff_ hc hf
      refine lv_iload_n hx hb dX4_takesFactor_42 rfl (lv_at hl 1 rfl) ?_
      obtain ⟨q2, hq2, hf⟩ := bnd hf
      refine aw_cSi (rest := []) C0 hW (c_X4_isColumn x1  hq2) (cw_X4_72 hts ⟨Nat.le_of_ble_eq_true rfl, Nat.le_of_ble_eq_true rfl⟩) rfl hl.1 rfl (Nat.le_of_ble_eq_true rfl) ⟨Nat.zero_le _, Nat.zero_le _⟩ dX4_takesFactor_43 (fun H locs hW => ?_)
      refine lv_if_ne (tgt := 51) hx hb dX4_takesFactor_46 rfl (fun hc => ?_) (fun hc => ?_)
      · have hf := iff_ hc hf
        refine lv_aload_n hx hb dX4_takesFactor_51 rfl (lv_at hl 0 rfl) ?_
        refine lv_iload_n hx hb dX4_takesFactor_52 rfl (lv_at hl 1 rfl) ?_
        refine lv_bipush (v := 97) hx hb dX4_takesFactor_53 (by decide) ?_
        refine lv_isub hx hb dX4_takesFactor_55 ?_
        refine aw_put C0 hW (lv_fix (by decide)) (cel_4 kd19) rfl inG4 tyX4 tyX4_ok nmX4 4 (by decide) wd42 rfl rfl (ty := .int) rfl rfl rfl (Nat.le_of_ble_eq_true rfl) (pu_4_4 kd19) dX4_takesFactor_56 (fun H locs hW => ?_)
        refine lv_aload_n hx hb dX4_takesFactor_59 rfl (lv_at hl 0 rfl) ?_
        refine lv_iconst (v := 1) hx hb dX4_takesFactor_60 (by decide) ?_
        refine aw_put C0 hW (lv_fix (by decide)) (cel_4 kd19) rfl inG4 tyX4 tyX4_ok nmX4 2 (by decide) wd43 rfl rfl (ty := .int) rfl rfl rfl (Nat.le_of_ble_eq_true rfl) (pu_4_2 kd19) dX4_takesFactor_61 (fun H locs hW => ?_)
        refine lv_iconst (v := 1) hx hb dX4_takesFactor_64 (by decide) ?_
        have hz := Option.some.inj hf
        have hzV := congrArg (fun z : Int32 × Mem => z.1) hz
        have hzI := congrArg (fun z : Int32 × Mem => z.2) hz
        exact aw_zret C0 hW rfl hzV hzI rfl dX4_takesFactor_65
      · have hf := ift hc hf
        refine lv_iconst (v := 0) hx hb dX4_takesFactor_49 (by decide) ?_
        have hz := Option.some.inj hf
        have hzV := congrArg (fun z : Int32 × Mem => z.1) hz
        have hzI := congrArg (fun z : Int32 × Mem => z.2) hz
        exact aw_zret C0 hW rfl hzV hzI rfl dX4_takesFactor_50
    · have hf := ift hc hf
      refine lv_aload_n hx hb dX4_takesFactor_12 rfl (lv_at hl 0 rfl) ?_
      refine aw_get (v := .ref (g.2.2 + 22)) C0 hW (lv_fix (by decide)) (cel_4 kd19) rfl inG4 1 (by decide) wd40 rfl rfl dX4_takesFactor_13 ?_
      refine lv_iload_n hx hb dX4_takesFactor_16 rfl (lv_at hl 1 rfl) ?_
      obtain ⟨q3, hq3, hf⟩ := bnd hf
      refine aw_cVv (rest := []) C0 hW (lv_fix (by decide)) (cel_3 kd22) rfl (c_X3_push 22 x1 kd22 hq3) (cw_X4_69 hts ⟨Nat.le_of_ble_eq_true rfl, Nat.le_of_ble_eq_true rfl⟩) rfl hl.1 rfl (Nat.le_of_ble_eq_true rfl) ⟨Nat.zero_le _, Nat.zero_le _⟩ dX4_takesFactor_17 (fun H locs hW => ?_)
      refine lv_aload_n hx hb dX4_takesFactor_20 rfl (lv_at hl 0 rfl) ?_
      refine lv_dup hx hb dX4_takesFactor_21 rfl ?_
      refine aw_get (v := .int (q3 19 3)) C0 hW (lv_fix (by decide)) (cel_4 kd19) rfl inG4 3 (by decide) wd41 rfl rfl dX4_takesFactor_22 ?_
      refine lv_iload_n hx hb dX4_takesFactor_25 rfl (lv_at hl 1 rfl) ?_
      refine lv_bipush (v := 40) hx hb dX4_takesFactor_26 (by decide) ?_
      refine lv_icmp_ne (tgt := 35) hx hb dX4_takesFactor_28 rfl (fun hc => ?_) (fun hc => ?_)
      · have hf := iff_ hc hf
        refine lv_iconst (v := 0) hx hb dX4_takesFactor_35 (by decide) ?_
        refine lv_iadd hx hb dX4_takesFactor_36 ?_
        refine aw_put C0 hW (lv_fix (by decide)) (cel_4 kd19) rfl inG4 tyX4 tyX4_ok nmX4 3 (by decide) wd41 rfl rfl (ty := .int) rfl rfl rfl (Nat.le_of_ble_eq_true rfl) (pu_4_3 kd19) dX4_takesFactor_37 (fun H locs hW => ?_)
        refine lv_iconst (v := 1) hx hb dX4_takesFactor_40 (by decide) ?_
        have hz := Option.some.inj hf
        have hzV := congrArg (fun z : Int32 × Mem => z.1) hz
        have hzI := congrArg (fun z : Int32 × Mem => z.2) hz
        exact aw_zret C0 hW rfl hzV hzI rfl dX4_takesFactor_41
      · have hf := ift hc hf
        refine lv_iconst (v := 1) hx hb dX4_takesFactor_31 (by decide) ?_
        refine lv_goto (tgt := 36) hx hb dX4_takesFactor_32 rfl ?_
        refine lv_iadd hx hb dX4_takesFactor_36 ?_
        refine aw_put C0 hW (lv_fix (by decide)) (cel_4 kd19) rfl inG4 tyX4 tyX4_ok nmX4 3 (by decide) wd41 rfl rfl (ty := .int) rfl rfl rfl (Nat.le_of_ble_eq_true rfl) (pu_4_3 kd19) dX4_takesFactor_37 (fun H locs hW => ?_)
        refine lv_iconst (v := 1) hx hb dX4_takesFactor_40 (by decide) ?_
        have hz := Option.some.inj hf
        have hzV := congrArg (fun z : Int32 × Mem => z.1) hz
        have hzI := congrArg (fun z : Int32 × Mem => z.2) hz
        exact aw_zret C0 hW rfl hzV hzI rfl dX4_takesFactor_41
theorem cw_X4_54 {Rm : Room} {s : State} {args : Array Value} (ht : ∀ w ∈ GT, w.before args s = true) (hR : rmX4_takesFactor.frames + 1 ≤ Rm.frames ∧ 8 + (2 + 11) + rmX4_takesFactor.locals ≤ Rm.locals) : CallW Rm s args RX4 RX4 54 yX4_takesFactor cX4_takesFactor 2 (some .boolean) (Cond.code yX4_takesFactor cX4_takesFactor 2 (some .boolean) :: GT) rmX4_takesFactor 0 0 1 := cwV 1 ht (goodV wd159 wd160 wd161 wd149 wd162) rfl rfl rfl ⟨rfl, by decide +kernel, by decide +kernel, by decide +kernel⟩ hR
def f_X7_test (x0 : Int32) (x1 : Int32) (x2 : Int32) (x3 : Int32) : Option (Int32) :=
  ((
    if x2 = 0 then (
      some 0
    ) else (
      some 1
    )
  ) : Option (Int32)).bind fun q1 =>
  some (((x0 ||| (x1 <<< (7 &&& 31))) ||| (q1 <<< (9 &&& 31))) ||| (x3 <<< (10 &&& 31)))
abbrev rmX7_test : Room := { frames := 0, cells := 0, slots := 0, locals := 0 }
set_option maxHeartbeats 4000000 in
set_option maxRecDepth 100000 in
theorem c_X7_test {l : Launch} {g : Gam} {I : Mem} {R : Rem} {P : Pool} {Z : Zed} (x0 : Int32) (x1 : Int32) (x2 : Int32) (x3 : Int32)  {z : Int32} (hf : f_X7_test x0 x1 x2 x3 = some z) : Met l yX7_test (Cond.code yX7_test cX7_test 4 (some .int) :: GT) rmX7_test (va_Pc [.int x0, .int x1, .int x2, .int x3] (PW g I R P Z)) (QI g z I R P Z) 0 0 (AA g) := by
  refine aw_ofW (lv0 := [(0, .int x0), (1, .int x1), (2, .int x2), (3, .int x3)]) (by decide) (by exact Nat.le_of_ble_eq_true rfl) (by rfl) (fun p0 e s m args below meth c ls C0 hl hW => ?_)
  have C0 : CX g p0 s m args meth c RX7 cX7_test 4 (some .int) := C0
  have hx := C0.1; have hb := C0.2.1; have hown := C0.2.2.2.2.1; have hts := C0.2.2.2.2.2.1; have hKS := C0.2.2.2.2.2.2.1
  unfold f_X7_test at hf
  obtain ⟨H, hH⟩ : ∃ H, H = s.heap := ⟨_, rfl⟩
  obtain ⟨locs, hlc⟩ : ∃ q : List Loc, q = [] := ⟨_, rfl⟩
  rw [show W p0 l e rmX7_test s m args below meth c s.heap [] 0 0 (MQ below (QI g z I R P Z) args s 0 0 (AA g)) (F0 m 0 ls []) = W p0 l e rmX7_test s m args below meth c H locs 0 0 (MQ below (QI g z I R P Z) args s 0 0 (AA g)) (F0 m 0 ls []) by rw [hH, hlc]]
  have hW : Wd g I R P Z s.heap H locs := by rw [hH, hlc]; exact hW
  refine lv_iload_n hx hb dX7_test_0 rfl (lv_at hl 0 rfl) ?_
  refine lv_iload_n hx hb dX7_test_1 rfl (lv_at hl 1 rfl) ?_
  refine lv_bipush (v := 7) hx hb dX7_test_2 (by decide) ?_
  refine lv_ishl hx hb dX7_test_4 ?_
  refine lv_ior hx hb dX7_test_5 ?_
  refine lv_iload_n hx hb dX7_test_6 rfl (lv_at hl 2 rfl) ?_
  obtain ⟨q1, hq1, hf⟩ := bnd hf
  have J15_q1 : ∀ (H : Heap) (locs : List Loc) (ls : Array Slot), Wd g I R P Z s.heap H locs → lv_has ls 4 [(3, .int x3)] → W p0 l e rmX7_test s m args below meth c H locs 0 0 (MQ below (QI g z I R P Z) args s 0 0 (AA g)) (F0 m 15 ls ([.int q1, .int (x0 ||| (x1 <<< (7 &&& 31)))])) := by
    intro H locs ls hW hl
    refine lv_bipush (v := 9) hx hb dX7_test_15 (by decide) ?_
    refine lv_ishl hx hb dX7_test_17 ?_
    refine lv_ior hx hb dX7_test_18 ?_
    refine lv_iload_n hx hb dX7_test_19 rfl (lv_at hl 0 rfl) ?_
    refine lv_bipush (v := 10) hx hb dX7_test_20 (by decide) ?_
    refine lv_ishl hx hb dX7_test_22 ?_
    refine lv_ior hx hb dX7_test_23 ?_
    have hz := Option.some.inj hf
    exact aw_iret C0 hW hz rfl rfl dX7_test_24
  have hf := hq1
  refine lv_if_eq (tgt := 14) hx hb dX7_test_7 rfl (fun hc => ?_) (fun hc => ?_)
  · have hf := ift hc hf
    refine lv_iconst (v := 0) hx hb dX7_test_14 (by decide) ?_
    have ho := Option.some.inj hf
    subst ho
    exact J15_q1 H locs ls hW (lv_sub hl [3] rfl)
  · have hf := iff_ hc hf
    refine lv_iconst (v := 1) hx hb dX7_test_10 (by decide) ?_
    refine lv_goto (tgt := 15) hx hb dX7_test_11 rfl ?_
    have ho := Option.some.inj hf
    subst ho
    exact J15_q1 H locs ls hW (lv_sub hl [3] rfl)
theorem cw_X4_90 {Rm : Room} {s : State} {args : Array Value} (ht : ∀ w ∈ GT, w.before args s = true) (hR : rmX7_test.frames + 1 ≤ Rm.frames ∧ 8 + (4 + 11) + rmX7_test.locals ≤ Rm.locals) : CallB Rm s args RX4 90 yX7_test cX7_test 4 (some .int) (Cond.code yX7_test cX7_test 4 (some .int) :: GT) rmX7_test 0 0 4 ∧ (Cond.static yX7_test).before args s = true := va_cwS 4 ht (goodS wd194 wd195 wd91 wd196) rfl rfl rfl ⟨by decide +kernel, by decide +kernel, by decide +kernel⟩ hR
def f_X4_endTest (x1 : Int32) (x2 : Int32) (x3 : Int32) (P : Pool) (I : Mem) : Option (Mem) :=
  (f_X7_test x1 (I 19 4) x2 x3).bind fun q1 =>
  (f_X3_push 20 q1 P I).bind fun q2 =>
  some ((up q2 19 2 4))
abbrev rmX4_endTest : Room := { frames := 1, cells := 0, slots := 0, locals := 23 }
set_option maxHeartbeats 4000000 in
set_option maxRecDepth 100000 in
theorem c_X4_endTest {l : Launch} {g : Gam} {I : Mem} {R : Rem} {P : Pool} {Z : Zed} (x1 : Int32) (x2 : Int32) (x3 : Int32)  {z : Mem} (hf : f_X4_endTest x1 x2 x3 P I = some z) : Met l yX4_endTest (Cond.code yX4_endTest cX4_endTest 4 none :: GT) rmX4_endTest (va_Pc [.ref (g.2.2 + 19), .int x1, .int x2, .int x3] (PW g I R P Z)) (QV g z R P Z) 0 0 (AA g) := by
  refine aw_ofW (lv0 := [(0, .ref (g.2.2 + 19)), (1, .int x1), (2, .int x2), (3, .int x3)]) (by decide) (by exact Nat.le_of_ble_eq_true rfl) (by rfl) (fun p0 e s m args below meth c ls C0 hl hW => ?_)
  have C0 : CX g p0 s m args meth c RX4 cX4_endTest 4 none := C0
  have hx := C0.1; have hb := C0.2.1; have hown := C0.2.2.2.2.1; have hts := C0.2.2.2.2.2.1; have hKS := C0.2.2.2.2.2.2.1
  unfold f_X4_endTest at hf
  obtain ⟨H, hH⟩ : ∃ H, H = s.heap := ⟨_, rfl⟩
  obtain ⟨locs, hlc⟩ : ∃ q : List Loc, q = [] := ⟨_, rfl⟩
  rw [show W p0 l e rmX4_endTest s m args below meth c s.heap [] 0 0 (MQ below (QV g z R P Z) args s 0 0 (AA g)) (F0 m 0 ls []) = W p0 l e rmX4_endTest s m args below meth c H locs 0 0 (MQ below (QV g z R P Z) args s 0 0 (AA g)) (F0 m 0 ls []) by rw [hH, hlc]]
  have hW : Wd g I R P Z s.heap H locs := by rw [hH, hlc]; exact hW
  refine lv_aload_n hx hb dX4_endTest_0 rfl (lv_at hl 0 rfl) ?_
  refine aw_get (v := .ref (g.2.2 + 20)) C0 hW (lv_fix (by decide)) (cel_4 kd19) rfl inG4 0 (by decide) wd44 rfl rfl dX4_endTest_1 ?_
  refine lv_iload_n hx hb dX4_endTest_4 rfl (lv_at hl 1 rfl) ?_
  refine lv_aload_n hx hb dX4_endTest_5 rfl (lv_at hl 0 rfl) ?_
  refine aw_get (v := .int (I 19 4)) C0 hW (lv_fix (by decide)) (cel_4 kd19) rfl inG4 4 (by decide) wd42 rfl rfl dX4_endTest_6 ?_
  refine lv_iload_n hx hb dX4_endTest_9 rfl (lv_at hl 2 rfl) ?_
  refine lv_iload_n hx hb dX4_endTest_10 rfl (lv_at hl 3 rfl) ?_
  obtain ⟨q1, hq1, hf⟩ := bnd hf
  refine aw_cSi (rest := [.ref (g.2.2 + 20)]) C0 hW (c_X7_test x1 (I 19 4) x2 x3  hq1) (cw_X4_90 hts ⟨Nat.le_of_ble_eq_true rfl, Nat.le_of_ble_eq_true rfl⟩) rfl hl.1 rfl (Nat.le_of_ble_eq_true rfl) ⟨Nat.zero_le _, Nat.zero_le _⟩ dX4_endTest_11 (fun H locs hW => ?_)
  obtain ⟨q2, hq2, hf⟩ := bnd hf
  refine aw_cVv (rest := []) C0 hW (lv_fix (by decide)) (cel_3 kd20) rfl (c_X3_push 20 q1 kd20 hq2) (cw_X4_69 hts ⟨Nat.le_of_ble_eq_true rfl, Nat.le_of_ble_eq_true rfl⟩) rfl hl.1 rfl (Nat.le_of_ble_eq_true rfl) ⟨Nat.zero_le _, Nat.zero_le _⟩ dX4_endTest_14 (fun H locs hW => ?_)
  refine lv_aload_n hx hb dX4_endTest_17 rfl (lv_at hl 0 rfl) ?_
  refine lv_iconst (v := 4) hx hb dX4_endTest_18 (by decide) ?_
  refine aw_put C0 hW (lv_fix (by decide)) (cel_4 kd19) rfl inG4 tyX4 tyX4_ok nmX4 2 (by decide) wd43 rfl rfl (ty := .int) rfl rfl rfl (Nat.le_of_ble_eq_true rfl) (pu_4_2 kd19) dX4_endTest_19 (fun H locs hW => ?_)
  have hz := Option.some.inj hf
  exact aw_vret C0 hW hz rfl dX4_endTest_22
theorem cw_X4_75 {Rm : Room} {s : State} {args : Array Value} (ht : ∀ w ∈ GT, w.before args s = true) (hR : rmX4_endTest.frames + 1 ≤ Rm.frames ∧ 8 + (4 + 11) + rmX4_endTest.locals ≤ Rm.locals) : CallW Rm s args RX4 RX4 75 yX4_endTest cX4_endTest 4 none (Cond.code yX4_endTest cX4_endTest 4 none :: GT) rmX4_endTest 0 0 3 := cwV 3 ht (goodV wd183 wd184 wd185 wd149 wd186) rfl rfl rfl ⟨rfl, by decide +kernel, by decide +kernel, by decide +kernel⟩ hR
def f_X4_takesSign (x1 : Int32) (P : Pool) (I : Mem) : Option (Int32 × Mem) :=
  if x1 = 63 then (
    (f_X4_endTest x1 0 0 P I).bind fun q1 =>
    some (1, q1)
  ) else (
    if x1 = 61 then (
      if narrow .char (.int x1) = .int x1 then
      some (1, (up (up I 19 5 x1) 19 2 2))
      else none
    ) else (
      if x1 = 60 then (
        if narrow .char (.int x1) = .int x1 then
        some (1, (up (up I 19 5 x1) 19 2 2))
        else none
      ) else (
        if x1 = 62 then (
          if narrow .char (.int x1) = .int x1 then
          some (1, (up (up I 19 5 x1) 19 2 2))
          else none
        ) else (
          some (0, I)
        )
      )
    )
  )
abbrev rmX4_takesSign : Room := { frames := 2, cells := 0, slots := 0, locals := 46 }
set_option maxHeartbeats 4000000 in
set_option maxRecDepth 100000 in
theorem c_X4_takesSign {l : Launch} {g : Gam} {I : Mem} {R : Rem} {P : Pool} {Z : Zed} (x1 : Int32)  {z : Int32 × Mem} (hf : f_X4_takesSign x1 P I = some z) : Met l yX4_takesSign (Cond.code yX4_takesSign cX4_takesSign 2 (some .boolean) :: GT) rmX4_takesSign (va_Pc [.ref (g.2.2 + 19), .int x1] (PW g I R P Z)) (QI g z.1 z.2 R P Z) 0 0 (AA g) := by
  refine aw_ofW (lv0 := [(0, .ref (g.2.2 + 19)), (1, .int x1)]) (by decide) (by exact Nat.le_of_ble_eq_true rfl) (by rfl) (fun p0 e s m args below meth c ls C0 hl hW => ?_)
  have C0 : CX g p0 s m args meth c RX4 cX4_takesSign 2 (some .boolean) := C0
  have hx := C0.1; have hb := C0.2.1; have hown := C0.2.2.2.2.1; have hts := C0.2.2.2.2.2.1; have hKS := C0.2.2.2.2.2.2.1
  unfold f_X4_takesSign at hf
  obtain ⟨H, hH⟩ : ∃ H, H = s.heap := ⟨_, rfl⟩
  obtain ⟨locs, hlc⟩ : ∃ q : List Loc, q = [] := ⟨_, rfl⟩
  rw [show W p0 l e rmX4_takesSign s m args below meth c s.heap [] 0 0 (MQ below (QI g z.1 z.2 R P Z) args s 0 0 (AA g)) (F0 m 0 ls []) = W p0 l e rmX4_takesSign s m args below meth c H locs 0 0 (MQ below (QI g z.1 z.2 R P Z) args s 0 0 (AA g)) (F0 m 0 ls []) by rw [hH, hlc]]
  have hW : Wd g I R P Z s.heap H locs := by rw [hH, hlc]; exact hW
  refine lv_iload_n hx hb dX4_takesSign_0 rfl (lv_at hl 1 rfl) ?_
  refine lv_bipush (v := 63) hx hb dX4_takesSign_1 (by decide) ?_
  refine lv_icmp_ne (tgt := 15) hx hb dX4_takesSign_3 rfl (fun hc => ?_) (fun hc => ?_)
  · have hf := iff_ hc hf
    refine lv_iload_n hx hb dX4_takesSign_15 rfl (lv_at hl 1 rfl) ?_
    refine lv_bipush (v := 61) hx hb dX4_takesSign_16 (by decide) ?_
    refine lv_icmp_eq (tgt := 35) hx hb dX4_takesSign_18 rfl (fun hc => ?_) (fun hc => ?_)
    · have hf := ift hc hf
      refine lv_aload_n hx hb dX4_takesSign_35 rfl (lv_at hl 0 rfl) ?_
      refine lv_iload_n hx hb dX4_takesSign_36 rfl (lv_at hl 1 rfl) ?_
      obtain ⟨hnw, hf⟩ := ifn hf
      refine aw_put C0 hW (lv_fix (by decide)) (cel_4 kd19) rfl inG4 tyX4 tyX4_ok nmX4 5 (by decide) wd45 rfl rfl (ty := .char) rfl hnw (fits_of_narrow hnw) (Nat.le_of_ble_eq_true rfl) (pu_4_5 kd19) dX4_takesSign_37 (fun H locs hW => ?_)
      refine lv_aload_n hx hb dX4_takesSign_40 rfl (lv_at hl 0 rfl) ?_
      refine lv_iconst (v := 2) hx hb dX4_takesSign_41 (by decide) ?_
      refine aw_put C0 hW (lv_fix (by decide)) (cel_4 kd19) rfl inG4 tyX4 tyX4_ok nmX4 2 (by decide) wd43 rfl rfl (ty := .int) rfl rfl rfl (Nat.le_of_ble_eq_true rfl) (pu_4_2 kd19) dX4_takesSign_42 (fun H locs hW => ?_)
      refine lv_iconst (v := 1) hx hb dX4_takesSign_45 (by decide) ?_
      have hz := Option.some.inj hf
      have hzV := congrArg (fun z : Int32 × Mem => z.1) hz
      have hzI := congrArg (fun z : Int32 × Mem => z.2) hz
      exact aw_zret C0 hW rfl hzV hzI rfl dX4_takesSign_46
    · have hf := iff_ hc hf
      refine lv_iload_n hx hb dX4_takesSign_21 rfl (lv_at hl 1 rfl) ?_
      refine lv_bipush (v := 60) hx hb dX4_takesSign_22 (by decide) ?_
      refine lv_icmp_eq (tgt := 35) hx hb dX4_takesSign_24 rfl (fun hc => ?_) (fun hc => ?_)
      · have hf := ift hc hf
        refine lv_aload_n hx hb dX4_takesSign_35 rfl (lv_at hl 0 rfl) ?_
        refine lv_iload_n hx hb dX4_takesSign_36 rfl (lv_at hl 1 rfl) ?_
        obtain ⟨hnw, hf⟩ := ifn hf
        refine aw_put C0 hW (lv_fix (by decide)) (cel_4 kd19) rfl inG4 tyX4 tyX4_ok nmX4 5 (by decide) wd45 rfl rfl (ty := .char) rfl hnw (fits_of_narrow hnw) (Nat.le_of_ble_eq_true rfl) (pu_4_5 kd19) dX4_takesSign_37 (fun H locs hW => ?_)
        refine lv_aload_n hx hb dX4_takesSign_40 rfl (lv_at hl 0 rfl) ?_
        refine lv_iconst (v := 2) hx hb dX4_takesSign_41 (by decide) ?_
        refine aw_put C0 hW (lv_fix (by decide)) (cel_4 kd19) rfl inG4 tyX4 tyX4_ok nmX4 2 (by decide) wd43 rfl rfl (ty := .int) rfl rfl rfl (Nat.le_of_ble_eq_true rfl) (pu_4_2 kd19) dX4_takesSign_42 (fun H locs hW => ?_)
        refine lv_iconst (v := 1) hx hb dX4_takesSign_45 (by decide) ?_
        have hz := Option.some.inj hf
        have hzV := congrArg (fun z : Int32 × Mem => z.1) hz
        have hzI := congrArg (fun z : Int32 × Mem => z.2) hz
        exact aw_zret C0 hW rfl hzV hzI rfl dX4_takesSign_46
      · have hf := iff_ hc hf
        refine lv_iload_n hx hb dX4_takesSign_27 rfl (lv_at hl 1 rfl) ?_
        refine lv_bipush (v := 62) hx hb dX4_takesSign_28 (by decide) ?_
        refine lv_icmp_eq (tgt := 35) hx hb dX4_takesSign_30 rfl (fun hc => ?_) (fun hc => ?_)
        · have hf := ift hc hf
          refine lv_aload_n hx hb dX4_takesSign_35 rfl (lv_at hl 0 rfl) ?_
          refine lv_iload_n hx hb dX4_takesSign_36 rfl (lv_at hl 1 rfl) ?_
          obtain ⟨hnw, hf⟩ := ifn hf
          refine aw_put C0 hW (lv_fix (by decide)) (cel_4 kd19) rfl inG4 tyX4 tyX4_ok nmX4 5 (by decide) wd45 rfl rfl (ty := .char) rfl hnw (fits_of_narrow hnw) (Nat.le_of_ble_eq_true rfl) (pu_4_5 kd19) dX4_takesSign_37 (fun H locs hW => ?_)
          refine lv_aload_n hx hb dX4_takesSign_40 rfl (lv_at hl 0 rfl) ?_
          refine lv_iconst (v := 2) hx hb dX4_takesSign_41 (by decide) ?_
          refine aw_put C0 hW (lv_fix (by decide)) (cel_4 kd19) rfl inG4 tyX4 tyX4_ok nmX4 2 (by decide) wd43 rfl rfl (ty := .int) rfl rfl rfl (Nat.le_of_ble_eq_true rfl) (pu_4_2 kd19) dX4_takesSign_42 (fun H locs hW => ?_)
          refine lv_iconst (v := 1) hx hb dX4_takesSign_45 (by decide) ?_
          have hz := Option.some.inj hf
          have hzV := congrArg (fun z : Int32 × Mem => z.1) hz
          have hzI := congrArg (fun z : Int32 × Mem => z.2) hz
          exact aw_zret C0 hW rfl hzV hzI rfl dX4_takesSign_46
        · have hf := iff_ hc hf
          refine lv_iconst (v := 0) hx hb dX4_takesSign_33 (by decide) ?_
          have hz := Option.some.inj hf
          have hzV := congrArg (fun z : Int32 × Mem => z.1) hz
          have hzI := congrArg (fun z : Int32 × Mem => z.2) hz
          exact aw_zret C0 hW rfl hzV hzI rfl dX4_takesSign_34
  · have hf := ift hc hf
    refine lv_aload_n hx hb dX4_takesSign_6 rfl (lv_at hl 0 rfl) ?_
    refine lv_iload_n hx hb dX4_takesSign_7 rfl (lv_at hl 1 rfl) ?_
    refine lv_iconst (v := 0) hx hb dX4_takesSign_8 (by decide) ?_
    refine lv_iconst (v := 0) hx hb dX4_takesSign_9 (by decide) ?_
    obtain ⟨q1, hq1, hf⟩ := bnd hf
    refine aw_cVv (rest := []) C0 hW (lv_fix (by decide)) (cel_4 kd19) rfl (c_X4_endTest x1 0 0  hq1) (cw_X4_75 hts ⟨Nat.le_of_ble_eq_true rfl, Nat.le_of_ble_eq_true rfl⟩) rfl hl.1 rfl (Nat.le_of_ble_eq_true rfl) ⟨Nat.zero_le _, Nat.zero_le _⟩ dX4_takesSign_10 (fun H locs hW => ?_)
    refine lv_iconst (v := 1) hx hb dX4_takesSign_13 (by decide) ?_
    have hz := Option.some.inj hf
    have hzV := congrArg (fun z : Int32 × Mem => z.1) hz
    have hzI := congrArg (fun z : Int32 × Mem => z.2) hz
    exact aw_zret C0 hW rfl hzV hzI rfl dX4_takesSign_14
theorem cw_X4_57 {Rm : Room} {s : State} {args : Array Value} (ht : ∀ w ∈ GT, w.before args s = true) (hR : rmX4_takesSign.frames + 1 ≤ Rm.frames ∧ 8 + (2 + 11) + rmX4_takesSign.locals ≤ Rm.locals) : CallW Rm s args RX4 RX4 57 yX4_takesSign cX4_takesSign 2 (some .boolean) (Cond.code yX4_takesSign cX4_takesSign 2 (some .boolean) :: GT) rmX4_takesSign 0 0 1 := cwV 1 ht (goodV wd163 wd164 wd165 wd149 wd166) rfl rfl rfl ⟨rfl, by decide +kernel, by decide +kernel, by decide +kernel⟩ hR
def f_X4_isDigit (x0 : Int32) : Option (Int32) :=
  if x0 < 48 then (
    some 0
  ) else (
    if 57 < x0 then (
      some 0
    ) else (
      some 1
    )
  )
abbrev rmX4_isDigit : Room := { frames := 0, cells := 0, slots := 0, locals := 0 }
set_option maxHeartbeats 4000000 in
set_option maxRecDepth 100000 in
theorem c_X4_isDigit {l : Launch} {g : Gam} {I : Mem} {R : Rem} {P : Pool} {Z : Zed} (x0 : Int32)  {z : Int32} (hf : f_X4_isDigit x0 = some z) : Met l yX4_isDigit (Cond.code yX4_isDigit cX4_isDigit 1 (some .boolean) :: GT) rmX4_isDigit (va_Pc [.int x0] (PW g I R P Z)) (QI g z I R P Z) 0 0 (AA g) := by
  refine aw_ofW (lv0 := [(0, .int x0)]) (by decide) (by exact Nat.le_of_ble_eq_true rfl) (by rfl) (fun p0 e s m args below meth c ls C0 hl hW => ?_)
  have C0 : CX g p0 s m args meth c RX4 cX4_isDigit 1 (some .boolean) := C0
  have hx := C0.1; have hb := C0.2.1; have hown := C0.2.2.2.2.1; have hts := C0.2.2.2.2.2.1; have hKS := C0.2.2.2.2.2.2.1
  unfold f_X4_isDigit at hf
  obtain ⟨H, hH⟩ : ∃ H, H = s.heap := ⟨_, rfl⟩
  obtain ⟨locs, hlc⟩ : ∃ q : List Loc, q = [] := ⟨_, rfl⟩
  rw [show W p0 l e rmX4_isDigit s m args below meth c s.heap [] 0 0 (MQ below (QI g z I R P Z) args s 0 0 (AA g)) (F0 m 0 ls []) = W p0 l e rmX4_isDigit s m args below meth c H locs 0 0 (MQ below (QI g z I R P Z) args s 0 0 (AA g)) (F0 m 0 ls []) by rw [hH, hlc]]
  have hW : Wd g I R P Z s.heap H locs := by rw [hH, hlc]; exact hW
  refine lv_iload_n hx hb dX4_isDigit_0 rfl (lv_at hl 0 rfl) ?_
  refine lv_bipush (v := 48) hx hb dX4_isDigit_1 (by decide) ?_
  refine lv_icmp_lt (tgt := 16) hx hb dX4_isDigit_3 rfl (fun hc => ?_) (fun hc => ?_)
  · have hf := ift hc hf
    refine lv_iconst (v := 0) hx hb dX4_isDigit_16 (by decide) ?_
    have hz := Option.some.inj hf
    exact aw_zret C0 hW rfl hz rfl rfl dX4_isDigit_17
  · have hf := iff_ hc hf
    refine lv_iload_n hx hb dX4_isDigit_6 rfl (lv_at hl 0 rfl) ?_
    refine lv_bipush (v := 57) hx hb dX4_isDigit_7 (by decide) ?_
    refine lv_icmp_gt (tgt := 16) hx hb dX4_isDigit_9 rfl (fun hc => ?_) (fun hc => ?_)
    · have hf := ift hc hf
      refine lv_iconst (v := 0) hx hb dX4_isDigit_16 (by decide) ?_
      have hz := Option.some.inj hf
      exact aw_zret C0 hW rfl hz rfl rfl dX4_isDigit_17
    · have hf := iff_ hc hf
      refine lv_iconst (v := 1) hx hb dX4_isDigit_12 (by decide) ?_
      refine lv_goto (tgt := 17) hx hb dX4_isDigit_13 rfl ?_
      have hz := Option.some.inj hf
      exact aw_zret C0 hW rfl hz rfl rfl dX4_isDigit_17
theorem cw_X4_79 {Rm : Room} {s : State} {args : Array Value} (ht : ∀ w ∈ GT, w.before args s = true) (hR : rmX4_isDigit.frames + 1 ≤ Rm.frames ∧ 8 + (1 + 11) + rmX4_isDigit.locals ≤ Rm.locals) : CallB Rm s args RX4 79 yX4_isDigit cX4_isDigit 1 (some .boolean) (Cond.code yX4_isDigit cX4_isDigit 1 (some .boolean) :: GT) rmX4_isDigit 0 0 1 ∧ (Cond.static yX4_isDigit).before args s = true := va_cwS 1 ht (goodS wd187 wd188 wd149 wd189) rfl rfl rfl ⟨by decide +kernel, by decide +kernel, by decide +kernel⟩ hR
def f_X4_endValue (P : Pool) (I : Mem) : Option (Mem) :=
  if (I 19 2) = 3 then (
    (f_X4_endTest (I 19 5) 0 (I 19 6) P I).bind fun q1 =>
    some q1
  ) else (
    some I
  )
abbrev rmX4_endValue : Room := { frames := 2, cells := 0, slots := 0, locals := 46 }
set_option maxHeartbeats 4000000 in
set_option maxRecDepth 100000 in
theorem c_X4_endValue {l : Launch} {g : Gam} {I : Mem} {R : Rem} {P : Pool} {Z : Zed}   {z : Mem} (hf : f_X4_endValue P I = some z) : Met l yX4_endValue (Cond.code yX4_endValue cX4_endValue 1 none :: GT) rmX4_endValue (va_Pc [.ref (g.2.2 + 19)] (PW g I R P Z)) (QV g z R P Z) 0 0 (AA g) := by
  refine aw_ofW (lv0 := [(0, .ref (g.2.2 + 19))]) (by decide) (by exact Nat.le_of_ble_eq_true rfl) (by rfl) (fun p0 e s m args below meth c ls C0 hl hW => ?_)
  have C0 : CX g p0 s m args meth c RX4 cX4_endValue 1 none := C0
  have hx := C0.1; have hb := C0.2.1; have hown := C0.2.2.2.2.1; have hts := C0.2.2.2.2.2.1; have hKS := C0.2.2.2.2.2.2.1
  unfold f_X4_endValue at hf
  obtain ⟨H, hH⟩ : ∃ H, H = s.heap := ⟨_, rfl⟩
  obtain ⟨locs, hlc⟩ : ∃ q : List Loc, q = [] := ⟨_, rfl⟩
  rw [show W p0 l e rmX4_endValue s m args below meth c s.heap [] 0 0 (MQ below (QV g z R P Z) args s 0 0 (AA g)) (F0 m 0 ls []) = W p0 l e rmX4_endValue s m args below meth c H locs 0 0 (MQ below (QV g z R P Z) args s 0 0 (AA g)) (F0 m 0 ls []) by rw [hH, hlc]]
  have hW : Wd g I R P Z s.heap H locs := by rw [hH, hlc]; exact hW
  refine lv_aload_n hx hb dX4_endValue_0 rfl (lv_at hl 0 rfl) ?_
  refine aw_get (v := .int (I 19 2)) C0 hW (lv_fix (by decide)) (cel_4 kd19) rfl inG4 2 (by decide) wd43 rfl rfl dX4_endValue_1 ?_
  refine lv_iconst (v := 3) hx hb dX4_endValue_4 (by decide) ?_
  refine lv_icmp_ne (tgt := 21) hx hb dX4_endValue_5 rfl (fun hc => ?_) (fun hc => ?_)
  · have hf := iff_ hc hf
    have hz := Option.some.inj hf
    exact aw_vret C0 hW hz rfl dX4_endValue_21
  · have hf := ift hc hf
    refine lv_aload_n hx hb dX4_endValue_8 rfl (lv_at hl 0 rfl) ?_
    refine lv_aload_n hx hb dX4_endValue_9 rfl (lv_at hl 0 rfl) ?_
    refine aw_get (v := .int (I 19 5)) C0 hW (lv_fix (by decide)) (cel_4 kd19) rfl inG4 5 (by decide) wd45 rfl rfl dX4_endValue_10 ?_
    refine lv_iconst (v := 0) hx hb dX4_endValue_13 (by decide) ?_
    refine lv_aload_n hx hb dX4_endValue_14 rfl (lv_at hl 0 rfl) ?_
    refine aw_get (v := .int (I 19 6)) C0 hW (lv_fix (by decide)) (cel_4 kd19) rfl inG4 6 (by decide) wd46 rfl rfl dX4_endValue_15 ?_
    obtain ⟨q1, hq1, hf⟩ := bnd hf
    refine aw_cVv (rest := []) C0 hW (lv_fix (by decide)) (cel_4 kd19) rfl (c_X4_endTest (I 19 5) 0 (I 19 6)  hq1) (cw_X4_75 hts ⟨Nat.le_of_ble_eq_true rfl, Nat.le_of_ble_eq_true rfl⟩) rfl hl.1 rfl (Nat.le_of_ble_eq_true rfl) ⟨Nat.zero_le _, Nat.zero_le _⟩ dX4_endValue_18 (fun H locs hW => ?_)
    have hz := Option.some.inj hf
    exact aw_vret C0 hW hz rfl dX4_endValue_21
theorem cw_X4_43 {Rm : Room} {s : State} {args : Array Value} (ht : ∀ w ∈ GT, w.before args s = true) (hR : rmX4_endValue.frames + 1 ≤ Rm.frames ∧ 8 + (1 + 11) + rmX4_endValue.locals ≤ Rm.locals) : CallW Rm s args RX4 RX4 43 yX4_endValue cX4_endValue 1 none (Cond.code yX4_endValue cX4_endValue 1 none :: GT) rmX4_endValue 0 0 0 := cwV 0 ht (goodV wd151 wd152 wd153 wd149 wd154) rfl rfl rfl ⟨rfl, by decide +kernel, by decide +kernel, by decide +kernel⟩ hR
def f_X4_takesOperand (x1 : Int32) (P : Pool) (I : Mem) : Option (Int32 × Mem) :=
  (f_X4_isColumn x1).bind fun q1 =>
  if q1 = 0 then (
    (f_X4_isDigit x1).bind fun q2 =>
    if q2 = 0 then (
      some (0, I)
    ) else (
      if ((up (up I 19 6 (x1 - 48)) 19 2 3) 19 6) = 0 then (
        (f_X4_endValue P ((up (up I 19 6 (x1 - 48)) 19 2 3))).bind fun q3 =>
        some (1, q3)
      ) else (
        some (1, (up (up I 19 6 (x1 - 48)) 19 2 3))
      )
    )
  ) else (
    (f_X4_endTest (I 19 5) 1 (x1 - 97) P I).bind fun q4 =>
    some (1, q4)
  )
abbrev rmX4_takesOperand : Room := { frames := 3, cells := 0, slots := 0, locals := 66 }
set_option maxHeartbeats 4000000 in
set_option maxRecDepth 100000 in
theorem c_X4_takesOperand {l : Launch} {g : Gam} {I : Mem} {R : Rem} {P : Pool} {Z : Zed} (x1 : Int32)  {z : Int32 × Mem} (hf : f_X4_takesOperand x1 P I = some z) : Met l yX4_takesOperand (Cond.code yX4_takesOperand cX4_takesOperand 2 (some .boolean) :: GT) rmX4_takesOperand (va_Pc [.ref (g.2.2 + 19), .int x1] (PW g I R P Z)) (QI g z.1 z.2 R P Z) 0 0 (AA g) := by
  refine aw_ofW (lv0 := [(0, .ref (g.2.2 + 19)), (1, .int x1)]) (by decide) (by exact Nat.le_of_ble_eq_true rfl) (by rfl) (fun p0 e s m args below meth c ls C0 hl hW => ?_)
  have C0 : CX g p0 s m args meth c RX4 cX4_takesOperand 2 (some .boolean) := C0
  have hx := C0.1; have hb := C0.2.1; have hown := C0.2.2.2.2.1; have hts := C0.2.2.2.2.2.1; have hKS := C0.2.2.2.2.2.2.1
  unfold f_X4_takesOperand at hf
  obtain ⟨H, hH⟩ : ∃ H, H = s.heap := ⟨_, rfl⟩
  obtain ⟨locs, hlc⟩ : ∃ q : List Loc, q = [] := ⟨_, rfl⟩
  rw [show W p0 l e rmX4_takesOperand s m args below meth c s.heap [] 0 0 (MQ below (QI g z.1 z.2 R P Z) args s 0 0 (AA g)) (F0 m 0 ls []) = W p0 l e rmX4_takesOperand s m args below meth c H locs 0 0 (MQ below (QI g z.1 z.2 R P Z) args s 0 0 (AA g)) (F0 m 0 ls []) by rw [hH, hlc]]
  have hW : Wd g I R P Z s.heap H locs := by rw [hH, hlc]; exact hW
  refine lv_iload_n hx hb dX4_takesOperand_0 rfl (lv_at hl 1 rfl) ?_
  obtain ⟨q1, hq1, hf⟩ := bnd hf
  refine aw_cSi (rest := []) C0 hW (c_X4_isColumn x1  hq1) (cw_X4_72 hts ⟨Nat.le_of_ble_eq_true rfl, Nat.le_of_ble_eq_true rfl⟩) rfl hl.1 rfl (Nat.le_of_ble_eq_true rfl) ⟨Nat.zero_le _, Nat.zero_le _⟩ dX4_takesOperand_1 (fun H locs hW => ?_)
  refine lv_if_eq (tgt := 22) hx hb dX4_takesOperand_4 rfl (fun hc => ?_) (fun hc => ?_)
  · have hf := ift hc hf
    refine lv_iload_n hx hb dX4_takesOperand_22 rfl (lv_at hl 1 rfl) ?_
    obtain ⟨q2, hq2, hf⟩ := bnd hf
    refine aw_cSi (rest := []) C0 hW (c_X4_isDigit x1  hq2) (cw_X4_79 hts ⟨Nat.le_of_ble_eq_true rfl, Nat.le_of_ble_eq_true rfl⟩) rfl hl.1 rfl (Nat.le_of_ble_eq_true rfl) ⟨Nat.zero_le _, Nat.zero_le _⟩ dX4_takesOperand_23 (fun H locs hW => ?_)
    refine lv_if_ne (tgt := 31) hx hb dX4_takesOperand_26 rfl (fun hc => ?_) (fun hc => ?_)
    · have hf := iff_ hc hf
      refine lv_aload_n hx hb dX4_takesOperand_31 rfl (lv_at hl 0 rfl) ?_
      refine lv_iload_n hx hb dX4_takesOperand_32 rfl (lv_at hl 1 rfl) ?_
      refine lv_bipush (v := 48) hx hb dX4_takesOperand_33 (by decide) ?_
      refine lv_isub hx hb dX4_takesOperand_35 ?_
      refine aw_put C0 hW (lv_fix (by decide)) (cel_4 kd19) rfl inG4 tyX4 tyX4_ok nmX4 6 (by decide) wd46 rfl rfl (ty := .int) rfl rfl rfl (Nat.le_of_ble_eq_true rfl) (pu_4_6 kd19) dX4_takesOperand_36 (fun H locs hW => ?_)
      refine lv_aload_n hx hb dX4_takesOperand_39 rfl (lv_at hl 0 rfl) ?_
      refine lv_iconst (v := 3) hx hb dX4_takesOperand_40 (by decide) ?_
      refine aw_put C0 hW (lv_fix (by decide)) (cel_4 kd19) rfl inG4 tyX4 tyX4_ok nmX4 2 (by decide) wd43 rfl rfl (ty := .int) rfl rfl rfl (Nat.le_of_ble_eq_true rfl) (pu_4_2 kd19) dX4_takesOperand_41 (fun H locs hW => ?_)
      refine lv_aload_n hx hb dX4_takesOperand_44 rfl (lv_at hl 0 rfl) ?_
      refine aw_get (v := .int ((up (up I 19 6 (x1 - 48)) 19 2 3) 19 6)) C0 hW (lv_fix (by decide)) (cel_4 kd19) rfl inG4 6 (by decide) wd46 rfl rfl dX4_takesOperand_45 ?_
      refine lv_if_ne (tgt := 55) hx hb dX4_takesOperand_48 rfl (fun hc => ?_) (fun hc => ?_)
      · have hf := iff_ hc hf
        refine lv_iconst (v := 1) hx hb dX4_takesOperand_55 (by decide) ?_
        have hz := Option.some.inj hf
        have hzV := congrArg (fun z : Int32 × Mem => z.1) hz
        have hzI := congrArg (fun z : Int32 × Mem => z.2) hz
        exact aw_zret C0 hW rfl hzV hzI rfl dX4_takesOperand_56
      · have hf := ift hc hf
        refine lv_aload_n hx hb dX4_takesOperand_51 rfl (lv_at hl 0 rfl) ?_
        obtain ⟨q3, hq3, hf⟩ := bnd hf
        refine aw_cVv (rest := []) C0 hW (lv_fix (by decide)) (cel_4 kd19) rfl (c_X4_endValue  hq3) (cw_X4_43 hts ⟨Nat.le_of_ble_eq_true rfl, Nat.le_of_ble_eq_true rfl⟩) rfl hl.1 rfl (Nat.le_of_ble_eq_true rfl) ⟨Nat.zero_le _, Nat.zero_le _⟩ dX4_takesOperand_52 (fun H locs hW => ?_)
        refine lv_iconst (v := 1) hx hb dX4_takesOperand_55 (by decide) ?_
        have hz := Option.some.inj hf
        have hzV := congrArg (fun z : Int32 × Mem => z.1) hz
        have hzI := congrArg (fun z : Int32 × Mem => z.2) hz
        exact aw_zret C0 hW rfl hzV hzI rfl dX4_takesOperand_56
    · have hf := ift hc hf
      refine lv_iconst (v := 0) hx hb dX4_takesOperand_29 (by decide) ?_
      have hz := Option.some.inj hf
      have hzV := congrArg (fun z : Int32 × Mem => z.1) hz
      have hzI := congrArg (fun z : Int32 × Mem => z.2) hz
      exact aw_zret C0 hW rfl hzV hzI rfl dX4_takesOperand_30
  · have hf := iff_ hc hf
    refine lv_aload_n hx hb dX4_takesOperand_7 rfl (lv_at hl 0 rfl) ?_
    refine lv_aload_n hx hb dX4_takesOperand_8 rfl (lv_at hl 0 rfl) ?_
    refine aw_get (v := .int (I 19 5)) C0 hW (lv_fix (by decide)) (cel_4 kd19) rfl inG4 5 (by decide) wd45 rfl rfl dX4_takesOperand_9 ?_
    refine lv_iconst (v := 1) hx hb dX4_takesOperand_12 (by decide) ?_
    refine lv_iload_n hx hb dX4_takesOperand_13 rfl (lv_at hl 1 rfl) ?_
    refine lv_bipush (v := 97) hx hb dX4_takesOperand_14 (by decide) ?_
    refine lv_isub hx hb dX4_takesOperand_16 ?_
    obtain ⟨q4, hq4, hf⟩ := bnd hf
    refine aw_cVv (rest := []) C0 hW (lv_fix (by decide)) (cel_4 kd19) rfl (c_X4_endTest (I 19 5) 1 (x1 - 97)  hq4) (cw_X4_75 hts ⟨Nat.le_of_ble_eq_true rfl, Nat.le_of_ble_eq_true rfl⟩) rfl hl.1 rfl (Nat.le_of_ble_eq_true rfl) ⟨Nat.zero_le _, Nat.zero_le _⟩ dX4_takesOperand_17 (fun H locs hW => ?_)
    refine lv_iconst (v := 1) hx hb dX4_takesOperand_20 (by decide) ?_
    have hz := Option.some.inj hf
    have hzV := congrArg (fun z : Int32 × Mem => z.1) hz
    have hzI := congrArg (fun z : Int32 × Mem => z.2) hz
    exact aw_zret C0 hW rfl hzV hzI rfl dX4_takesOperand_21
theorem cw_X4_60 {Rm : Room} {s : State} {args : Array Value} (ht : ∀ w ∈ GT, w.before args s = true) (hR : rmX4_takesOperand.frames + 1 ≤ Rm.frames ∧ 8 + (2 + 11) + rmX4_takesOperand.locals ≤ Rm.locals) : CallW Rm s args RX4 RX4 60 yX4_takesOperand cX4_takesOperand 2 (some .boolean) (Cond.code yX4_takesOperand cX4_takesOperand 2 (some .boolean) :: GT) rmX4_takesOperand 0 0 1 := cwV 1 ht (goodV wd167 wd168 wd169 wd149 wd170) rfl rfl rfl ⟨rfl, by decide +kernel, by decide +kernel, by decide +kernel⟩ hR
def f_X3_height (p : Nat) (I : Mem) : Option (Int32) :=
  some (I p 1)
abbrev rmX3_height : Room := { frames := 0, cells := 0, slots := 0, locals := 0 }
set_option maxHeartbeats 4000000 in
set_option maxRecDepth 100000 in
theorem c_X3_height {l : Launch} {g : Gam} {I : Mem} {R : Rem} {P : Pool} {Z : Zed} (p : Nat) (hp : Kd P p = 3) {z : Int32} (hf : f_X3_height p I = some z) : Met l yX3_height (Cond.code yX3_height cX3_height 1 (some .int) :: GT) rmX3_height (va_Pc [.ref (g.2.2 + p)] (PW g I R P Z)) (QI g z I R P Z) 0 0 (AA g) := by
  refine aw_ofW (lv0 := [(0, .ref (g.2.2 + p))]) (by decide) (by exact Nat.le_of_ble_eq_true rfl) (by rfl) (fun p0 e s m args below meth c ls C0 hl hW => ?_)
  have C0 : CX g p0 s m args meth c RX3 cX3_height 1 (some .int) := C0
  have hx := C0.1; have hb := C0.2.1; have hown := C0.2.2.2.2.1; have hts := C0.2.2.2.2.2.1; have hKS := C0.2.2.2.2.2.2.1
  unfold f_X3_height at hf
  obtain ⟨H, hH⟩ : ∃ H, H = s.heap := ⟨_, rfl⟩
  obtain ⟨locs, hlc⟩ : ∃ q : List Loc, q = [] := ⟨_, rfl⟩
  rw [show W p0 l e rmX3_height s m args below meth c s.heap [] 0 0 (MQ below (QI g z I R P Z) args s 0 0 (AA g)) (F0 m 0 ls []) = W p0 l e rmX3_height s m args below meth c H locs 0 0 (MQ below (QI g z I R P Z) args s 0 0 (AA g)) (F0 m 0 ls []) by rw [hH, hlc]]
  have hW : Wd g I R P Z s.heap H locs := by rw [hH, hlc]; exact hW
  refine lv_aload_n hx hb dX3_height_0 rfl (lv_at hl 0 rfl) ?_
  refine aw_get (v := .int (I p 1)) C0 hW (lv_kd hW.1.2.2 hp (by decide)) (cel_3 hp) rfl inG3 1 (by decide) wd15 rfl rfl dX3_height_1 ?_
  have hz := Option.some.inj hf
  exact aw_iret C0 hW hz rfl rfl dX3_height_4
theorem cw_X4_96 {Rm : Room} {s : State} {args : Array Value} (ht : ∀ w ∈ GT, w.before args s = true) (hR : rmX3_height.frames + 1 ≤ Rm.frames ∧ 8 + (1 + 11) + rmX3_height.locals ≤ Rm.locals) : CallW Rm s args RX4 RX3 96 yX3_height cX3_height 1 (some .int) (Cond.code yX3_height cX3_height 1 (some .int) :: GT) rmX3_height 0 0 0 := cwV 0 ht (goodV wd197 wd198 wd199 wd109 wd200) rfl rfl rfl ⟨rfl, by decide +kernel, by decide +kernel, by decide +kernel⟩ hR
def f_X4_strength (x0 : Int32) : Option (Int32) :=
  if x0 = 33 then (
    some 3
  ) else (
  if x0 = 38 then (
    some 2
  ) else (
  if x0 = 124 then (
    some 1
  ) else (
    some 0
  )))
abbrev rmX4_strength : Room := { frames := 0, cells := 0, slots := 0, locals := 0 }
set_option maxHeartbeats 4000000 in
set_option maxRecDepth 100000 in
theorem c_X4_strength {l : Launch} {g : Gam} {I : Mem} {R : Rem} {P : Pool} {Z : Zed} (x0 : Int32)  {z : Int32} (hf : f_X4_strength x0 = some z) : Met l yX4_strength (Cond.code yX4_strength cX4_strength 1 (some .int) :: GT) rmX4_strength (va_Pc [.int x0] (PW g I R P Z)) (QI g z I R P Z) 0 0 (AA g) := by
  refine aw_ofW (lv0 := [(0, .int x0)]) (by decide) (by exact Nat.le_of_ble_eq_true rfl) (by rfl) (fun p0 e s m args below meth c ls C0 hl hW => ?_)
  have C0 : CX g p0 s m args meth c RX4 cX4_strength 1 (some .int) := C0
  have hx := C0.1; have hb := C0.2.1; have hown := C0.2.2.2.2.1; have hts := C0.2.2.2.2.2.1; have hKS := C0.2.2.2.2.2.2.1
  unfold f_X4_strength at hf
  obtain ⟨H, hH⟩ : ∃ H, H = s.heap := ⟨_, rfl⟩
  obtain ⟨locs, hlc⟩ : ∃ q : List Loc, q = [] := ⟨_, rfl⟩
  rw [show W p0 l e rmX4_strength s m args below meth c s.heap [] 0 0 (MQ below (QI g z I R P Z) args s 0 0 (AA g)) (F0 m 0 ls []) = W p0 l e rmX4_strength s m args below meth c H locs 0 0 (MQ below (QI g z I R P Z) args s 0 0 (AA g)) (F0 m 0 ls []) by rw [hH, hlc]]
  have hW : Wd g I R P Z s.heap H locs := by rw [hH, hlc]; exact hW
  refine lv_iload_n hx hb dX4_strength_0 rfl (lv_at hl 0 rfl) ?_
  by_cases hs1 : x0 = 33
  · have hf := ift hs1 hf
    refine lv_lookup (off := 35) (tgt := 36) hx hb dX4_strength_1 (by decide) (by rw [hs1]; decide) rfl ?_
    refine lv_iconst (v := 3) hx hb dX4_strength_36 (by decide) ?_
    have hz := Option.some.inj hf
    exact aw_iret C0 hW hz rfl rfl dX4_strength_37
  have hf := iff_ hs1 hf
  by_cases hs2 : x0 = 38
  · have hf := ift hs2 hf
    refine lv_lookup (off := 37) (tgt := 38) hx hb dX4_strength_1 (by decide) (by rw [hs2]; decide) rfl ?_
    refine lv_iconst (v := 2) hx hb dX4_strength_38 (by decide) ?_
    have hz := Option.some.inj hf
    exact aw_iret C0 hW hz rfl rfl dX4_strength_39
  have hf := iff_ hs2 hf
  by_cases hs3 : x0 = 124
  · have hf := ift hs3 hf
    refine lv_lookup (off := 39) (tgt := 40) hx hb dX4_strength_1 (by decide) (by rw [hs3]; decide) rfl ?_
    refine lv_iconst (v := 1) hx hb dX4_strength_40 (by decide) ?_
    have hz := Option.some.inj hf
    exact aw_iret C0 hW hz rfl rfl dX4_strength_41
  have hf := iff_ hs3 hf
  refine lv_lookup (off := 41) (tgt := 42) hx hb dX4_strength_1 (by decide) (lko_c (i32_ne (n := 33) (by decide) hs1) (lko_c (i32_ne (n := 38) (by decide) hs2) (lko_c (i32_ne (n := 124) (by decide) hs3) rfl))) rfl ?_
  refine lv_iconst (v := 0) hx hb dX4_strength_42 (by decide) ?_
  have hz := Option.some.inj hf
  exact aw_iret C0 hW hz rfl rfl dX4_strength_43
theorem cw_X4_86 {Rm : Room} {s : State} {args : Array Value} (ht : ∀ w ∈ GT, w.before args s = true) (hR : rmX4_strength.frames + 1 ≤ Rm.frames ∧ 8 + (1 + 11) + rmX4_strength.locals ≤ Rm.locals) : CallB Rm s args RX4 86 yX4_strength cX4_strength 1 (some .int) (Cond.code yX4_strength cX4_strength 1 (some .int) :: GT) rmX4_strength 0 0 1 ∧ (Cond.static yX4_strength).before args s = true := va_cwS 1 ht (goodS wd191 wd192 wd149 wd193) rfl rfl rfl ⟨by decide +kernel, by decide +kernel, by decide +kernel⟩ hR
def f_X4_release_L8 (x1 : Int32) (P : Pool) : Nat → Int32 → Mem → Option (Mem)
  | 0, _, _ => none
  | n + 1, w2, I =>
    if w2 ≤ 0 then (
      some I
    ) else (
      (f_X3_top 22 I).bind fun q2 =>
      (f_X4_strength ((q2.toUInt32 % 65536).toInt32)).bind fun q3 =>
      if q3 < x1 then (
        some I
      ) else (
        (f_X3_pop 22 I).bind fun q4 =>
        (f_X7_joint ((q4.1.toUInt32 % 65536).toInt32)).bind fun q5 =>
        (f_X3_push 20 q5 P q4.2).bind fun q6 =>
        f_X4_release_L8 x1 P n (w2 + (-1)) q6
      )
    )
def f_X4_release (x1 : Int32) (P : Pool) (I : Mem) : Option (Mem) :=
  (f_X3_height 22 I).bind fun q1 =>
  (f_X4_release_L8 x1 P fuel q1 I).bind fun q7 =>
  some q7
abbrev rmX4_release : Room := { frames := 1, cells := 0, slots := 0, locals := 21 }
set_option maxHeartbeats 4000000 in
set_option maxRecDepth 100000 in
theorem c_X4_release {l : Launch} {g : Gam} {I : Mem} {R : Rem} {P : Pool} {Z : Zed} (x1 : Int32)  {z : Mem} (hf : f_X4_release x1 P I = some z) : Met l yX4_release (Cond.code yX4_release cX4_release 3 none :: GT) rmX4_release (va_Pc [.ref (g.2.2 + 19), .int x1] (PW g I R P Z)) (QV g z R P Z) 0 0 (AA g) := by
  refine aw_ofW (lv0 := [(0, .ref (g.2.2 + 19)), (1, .int x1)]) (by decide) (by exact Nat.le_of_ble_eq_true rfl) (by rfl) (fun p0 e s m args below meth c ls C0 hl hW => ?_)
  have C0 : CX g p0 s m args meth c RX4 cX4_release 3 none := C0
  have hx := C0.1; have hb := C0.2.1; have hown := C0.2.2.2.2.1; have hts := C0.2.2.2.2.2.1; have hKS := C0.2.2.2.2.2.2.1
  have L8 : ∀ (n : Nat) (w2 : Int32) (I : Mem) (H : Heap) (locs : List Loc) (ls : Array Slot) (o : Mem), f_X4_release_L8 x1 P n w2 I = some o → Wd g I R P Z s.heap H locs → lv_has ls 3 [(0, .ref (g.2.2 + 19)), (1, .int x1), (2, .int w2)] → (∀ (H : Heap) (locs : List Loc) (ls : Array Slot), Wd g o R P Z s.heap H locs → lv_has ls 3 [] → W p0 l e rmX4_release s m args below meth c H locs 0 0 (MQ below (QV g z R P Z) args s 0 0 (AA g)) (F0 m 51 ls [])) → W p0 l e rmX4_release s m args below meth c H locs 0 0 (MQ below (QV g z R P Z) args s 0 0 (AA g)) (F0 m 8 ls []) := by
    intro n
    induction n with
    | zero => intro w2 I H locs ls o hf; cases hf
    | succ n ih =>
      intro w2 I H locs ls o hf hW hl hK
      rw [f_X4_release_L8] at hf
      refine lv_iload_n hx hb dX4_release_8 rfl (lv_at hl 2 rfl) ?_
      refine lv_if_le (tgt := 51) hx hb dX4_release_9 rfl (fun hc => ?_) (fun hc => ?_)
      · have hf := ift hc hf
        have ho := Option.some.inj hf
        subst ho
        exact hK H locs ls hW (lv_sub hl [] rfl)
      · have hf := iff_ hc hf
        refine lv_aload_n hx hb dX4_release_12 rfl (lv_at hl 0 rfl) ?_
        refine aw_get (v := .ref (g.2.2 + 22)) C0 hW (lv_fix (by decide)) (cel_4 kd19) rfl inG4 1 (by decide) wd40 rfl rfl dX4_release_13 ?_
        obtain ⟨q2, hq2, hf⟩ := bnd hf
        refine aw_cVi (rest := []) C0 hW (lv_fix (by decide)) (cel_3 kd22) rfl (c_X3_top 22 kd22 hq2) (cw_X4_99 hts ⟨Nat.le_of_ble_eq_true rfl, Nat.le_of_ble_eq_true rfl⟩) rfl hl.1 rfl (Nat.le_of_ble_eq_true rfl) ⟨Nat.zero_le _, Nat.zero_le _⟩ dX4_release_16 (fun H locs hW => ?_)
        refine lv_i2c (v := (q2.toUInt32 % 65536).toInt32) hx hb dX4_release_19 rfl ?_
        obtain ⟨q3, hq3, hf⟩ := bnd hf
        refine aw_cSi (rest := []) C0 hW (c_X4_strength ((q2.toUInt32 % 65536).toInt32)  hq3) (cw_X4_86 hts ⟨Nat.le_of_ble_eq_true rfl, Nat.le_of_ble_eq_true rfl⟩) rfl hl.1 rfl (Nat.le_of_ble_eq_true rfl) ⟨Nat.zero_le _, Nat.zero_le _⟩ dX4_release_20 (fun H locs hW => ?_)
        refine lv_iload_n hx hb dX4_release_23 rfl (lv_at hl 1 rfl) ?_
        refine lv_icmp_lt (tgt := 51) hx hb dX4_release_24 rfl (fun hc => ?_) (fun hc => ?_)
        · have hf := ift hc hf
          have ho := Option.some.inj hf
          subst ho
          exact hK H locs ls hW (lv_sub hl [] rfl)
        · have hf := iff_ hc hf
          refine lv_aload_n hx hb dX4_release_27 rfl (lv_at hl 0 rfl) ?_
          refine aw_get (v := .ref (g.2.2 + 20)) C0 hW (lv_fix (by decide)) (cel_4 kd19) rfl inG4 0 (by decide) wd44 rfl rfl dX4_release_28 ?_
          refine lv_aload_n hx hb dX4_release_31 rfl (lv_at hl 0 rfl) ?_
          refine aw_get (v := .ref (g.2.2 + 22)) C0 hW (lv_fix (by decide)) (cel_4 kd19) rfl inG4 1 (by decide) wd40 rfl rfl dX4_release_32 ?_
          obtain ⟨q4, hq4, hf⟩ := bnd hf
          refine aw_cVi (rest := [.ref (g.2.2 + 20)]) C0 hW (lv_fix (by decide)) (cel_3 kd22) rfl (c_X3_pop 22 kd22 hq4) (cw_X4_82 hts ⟨Nat.le_of_ble_eq_true rfl, Nat.le_of_ble_eq_true rfl⟩) rfl hl.1 rfl (Nat.le_of_ble_eq_true rfl) ⟨Nat.zero_le _, Nat.zero_le _⟩ dX4_release_35 (fun H locs hW => ?_)
          refine lv_i2c (v := (q4.1.toUInt32 % 65536).toInt32) hx hb dX4_release_38 rfl ?_
          obtain ⟨q5, hq5, hf⟩ := bnd hf
          refine aw_cSi (rest := [.ref (g.2.2 + 20)]) C0 hW (c_X7_joint ((q4.1.toUInt32 % 65536).toInt32)  hq5) (cw_X4_102 hts ⟨Nat.le_of_ble_eq_true rfl, Nat.le_of_ble_eq_true rfl⟩) rfl hl.1 rfl (Nat.le_of_ble_eq_true rfl) ⟨Nat.zero_le _, Nat.zero_le _⟩ dX4_release_39 (fun H locs hW => ?_)
          obtain ⟨q6, hq6, hf⟩ := bnd hf
          refine aw_cVv (rest := []) C0 hW (lv_fix (by decide)) (cel_3 kd20) rfl (c_X3_push 20 q5 kd20 hq6) (cw_X4_69 hts ⟨Nat.le_of_ble_eq_true rfl, Nat.le_of_ble_eq_true rfl⟩) rfl hl.1 rfl (Nat.le_of_ble_eq_true rfl) ⟨Nat.zero_le _, Nat.zero_le _⟩ dX4_release_42 (fun H locs hW => ?_)
          refine lv_iinc (k := 2) (v := w2 + (-1)) (lv' := [(2, .int (w2 + (-1))), (0, .ref (g.2.2 + 19)), (1, .int x1)]) hx hb dX4_release_45 hl rfl (congrArg (fun t => w2 + t) (by decide : Int32.ofInt (-1) = (-1))) (Nat.le_of_ble_eq_true rfl) rfl (fun ls hl => ?_)
          refine lv_goto (tgt := 8) hx hb dX4_release_48 rfl ?_
          exact ih _ _ H locs ls o hf hW (lv_sub hl [1, 2, 0] rfl) hK
  unfold f_X4_release at hf
  obtain ⟨H, hH⟩ : ∃ H, H = s.heap := ⟨_, rfl⟩
  obtain ⟨locs, hlc⟩ : ∃ q : List Loc, q = [] := ⟨_, rfl⟩
  rw [show W p0 l e rmX4_release s m args below meth c s.heap [] 0 0 (MQ below (QV g z R P Z) args s 0 0 (AA g)) (F0 m 0 ls []) = W p0 l e rmX4_release s m args below meth c H locs 0 0 (MQ below (QV g z R P Z) args s 0 0 (AA g)) (F0 m 0 ls []) by rw [hH, hlc]]
  have hW : Wd g I R P Z s.heap H locs := by rw [hH, hlc]; exact hW
  refine lv_aload_n hx hb dX4_release_0 rfl (lv_at hl 0 rfl) ?_
  refine aw_get (v := .ref (g.2.2 + 22)) C0 hW (lv_fix (by decide)) (cel_4 kd19) rfl inG4 1 (by decide) wd40 rfl rfl dX4_release_1 ?_
  obtain ⟨q1, hq1, hf⟩ := bnd hf
  refine aw_cVi (rest := []) C0 hW (lv_fix (by decide)) (cel_3 kd22) rfl (c_X3_height 22 kd22 hq1) (cw_X4_96 hts ⟨Nat.le_of_ble_eq_true rfl, Nat.le_of_ble_eq_true rfl⟩) rfl hl.1 rfl (Nat.le_of_ble_eq_true rfl) ⟨Nat.zero_le _, Nat.zero_le _⟩ dX4_release_4 (fun H locs hW => ?_)
  refine lv_istore_n (lv' := [(2, .int q1), (0, .ref (g.2.2 + 19)), (1, .int x1)]) hx hb dX4_release_7 rfl hl (Nat.le_of_ble_eq_true rfl) rfl (fun ls hl => ?_)
  obtain ⟨q7, hq7, hf⟩ := bnd hf
  refine L8  fuel q1 I H locs ls _ hq7 hW (lv_sub hl [1, 2, 0] rfl) (fun H locs ls hW hl => ?_)
  have hz := Option.some.inj hf
  exact aw_vret C0 hW hz rfl dX4_release_51
theorem cw_X4_46 {Rm : Room} {s : State} {args : Array Value} (ht : ∀ w ∈ GT, w.before args s = true) (hR : rmX4_release.frames + 1 ≤ Rm.frames ∧ 8 + (3 + 11) + rmX4_release.locals ≤ Rm.locals) : CallW Rm s args RX4 RX4 46 yX4_release cX4_release 3 none (Cond.code yX4_release cX4_release 3 none :: GT) rmX4_release 0 0 1 := cwV 1 ht (goodV wd155 wd156 wd157 wd149 wd158) rfl rfl rfl ⟨rfl, by decide +kernel, by decide +kernel, by decide +kernel⟩ hR
def f_X4_takesJoint (x1 : Int32) (P : Pool) (I : Mem) : Option (Int32 × Mem) :=
  if x1 = 41 then (
    if (I 19 3) ≤ 0 then (
      if x1 = 38 then (
        (f_X4_strength x1).bind fun q7 =>
        (f_X4_release q7 P I).bind fun q8 =>
        (f_X3_push 22 x1 P q8).bind fun q9 =>
        some (1, (up q9 19 2 0))
      ) else (
        if x1 = 124 then (
          (f_X4_strength x1).bind fun q10 =>
          (f_X4_release q10 P I).bind fun q11 =>
          (f_X3_push 22 x1 P q11).bind fun q12 =>
          some (1, (up q12 19 2 0))
        ) else (
          some (0, I)
        )
      )
    ) else (
      (f_X4_release 1 P I).bind fun q13 =>
      (f_X3_pop 22 q13).bind fun q14 =>
      some (1, (up q14.2 19 3 ((q14.2 19 3) - 1)))
    )
  ) else (
    if x1 = 38 then (
      (f_X4_strength x1).bind fun q1 =>
      (f_X4_release q1 P I).bind fun q2 =>
      (f_X3_push 22 x1 P q2).bind fun q3 =>
      some (1, (up q3 19 2 0))
    ) else (
      if x1 = 124 then (
        (f_X4_strength x1).bind fun q4 =>
        (f_X4_release q4 P I).bind fun q5 =>
        (f_X3_push 22 x1 P q5).bind fun q6 =>
        some (1, (up q6 19 2 0))
      ) else (
        some (0, I)
      )
    )
  )
abbrev rmX4_takesJoint : Room := { frames := 2, cells := 0, slots := 0, locals := 43 }
set_option maxHeartbeats 4000000 in
set_option maxRecDepth 100000 in
theorem c_X4_takesJoint {l : Launch} {g : Gam} {I : Mem} {R : Rem} {P : Pool} {Z : Zed} (x1 : Int32)  {z : Int32 × Mem} (hf : f_X4_takesJoint x1 P I = some z) : Met l yX4_takesJoint (Cond.code yX4_takesJoint cX4_takesJoint 2 (some .boolean) :: GT) rmX4_takesJoint (va_Pc [.ref (g.2.2 + 19), .int x1] (PW g I R P Z)) (QI g z.1 z.2 R P Z) 0 0 (AA g) := by
  refine aw_ofW (lv0 := [(0, .ref (g.2.2 + 19)), (1, .int x1)]) (by decide) (by exact Nat.le_of_ble_eq_true rfl) (by rfl) (fun p0 e s m args below meth c ls C0 hl hW => ?_)
  have C0 : CX g p0 s m args meth c RX4 cX4_takesJoint 2 (some .boolean) := C0
  have hx := C0.1; have hb := C0.2.1; have hown := C0.2.2.2.2.1; have hts := C0.2.2.2.2.2.1; have hKS := C0.2.2.2.2.2.2.1
  unfold f_X4_takesJoint at hf
  obtain ⟨H, hH⟩ : ∃ H, H = s.heap := ⟨_, rfl⟩
  obtain ⟨locs, hlc⟩ : ∃ q : List Loc, q = [] := ⟨_, rfl⟩
  rw [show W p0 l e rmX4_takesJoint s m args below meth c s.heap [] 0 0 (MQ below (QI g z.1 z.2 R P Z) args s 0 0 (AA g)) (F0 m 0 ls []) = W p0 l e rmX4_takesJoint s m args below meth c H locs 0 0 (MQ below (QI g z.1 z.2 R P Z) args s 0 0 (AA g)) (F0 m 0 ls []) by rw [hH, hlc]]
  have hW : Wd g I R P Z s.heap H locs := by rw [hH, hlc]; exact hW
  refine lv_iload_n hx hb dX4_takesJoint_0 rfl (lv_at hl 1 rfl) ?_
  refine lv_bipush (v := 41) hx hb dX4_takesJoint_1 (by decide) ?_
  refine lv_icmp_ne (tgt := 38) hx hb dX4_takesJoint_3 rfl (fun hc => ?_) (fun hc => ?_)
  · have hf := iff_ hc hf
    refine lv_iload_n hx hb dX4_takesJoint_38 rfl (lv_at hl 1 rfl) ?_
    refine lv_bipush (v := 38) hx hb dX4_takesJoint_39 (by decide) ?_
    refine lv_icmp_eq (tgt := 52) hx hb dX4_takesJoint_41 rfl (fun hc => ?_) (fun hc => ?_)
    · have hf := ift hc hf
      refine lv_aload_n hx hb dX4_takesJoint_52 rfl (lv_at hl 0 rfl) ?_
      refine lv_iload_n hx hb dX4_takesJoint_53 rfl (lv_at hl 1 rfl) ?_
      obtain ⟨q1, hq1, hf⟩ := bnd hf
      refine aw_cSi (rest := [.ref (g.2.2 + 19)]) C0 hW (c_X4_strength x1  hq1) (cw_X4_86 hts ⟨Nat.le_of_ble_eq_true rfl, Nat.le_of_ble_eq_true rfl⟩) rfl hl.1 rfl (Nat.le_of_ble_eq_true rfl) ⟨Nat.zero_le _, Nat.zero_le _⟩ dX4_takesJoint_54 (fun H locs hW => ?_)
      obtain ⟨q2, hq2, hf⟩ := bnd hf
      refine aw_cVv (rest := []) C0 hW (lv_fix (by decide)) (cel_4 kd19) rfl (c_X4_release q1  hq2) (cw_X4_46 hts ⟨Nat.le_of_ble_eq_true rfl, Nat.le_of_ble_eq_true rfl⟩) rfl hl.1 rfl (Nat.le_of_ble_eq_true rfl) ⟨Nat.zero_le _, Nat.zero_le _⟩ dX4_takesJoint_57 (fun H locs hW => ?_)
      refine lv_aload_n hx hb dX4_takesJoint_60 rfl (lv_at hl 0 rfl) ?_
      refine aw_get (v := .ref (g.2.2 + 22)) C0 hW (lv_fix (by decide)) (cel_4 kd19) rfl inG4 1 (by decide) wd40 rfl rfl dX4_takesJoint_61 ?_
      refine lv_iload_n hx hb dX4_takesJoint_64 rfl (lv_at hl 1 rfl) ?_
      obtain ⟨q3, hq3, hf⟩ := bnd hf
      refine aw_cVv (rest := []) C0 hW (lv_fix (by decide)) (cel_3 kd22) rfl (c_X3_push 22 x1 kd22 hq3) (cw_X4_69 hts ⟨Nat.le_of_ble_eq_true rfl, Nat.le_of_ble_eq_true rfl⟩) rfl hl.1 rfl (Nat.le_of_ble_eq_true rfl) ⟨Nat.zero_le _, Nat.zero_le _⟩ dX4_takesJoint_65 (fun H locs hW => ?_)
      refine lv_aload_n hx hb dX4_takesJoint_68 rfl (lv_at hl 0 rfl) ?_
      refine lv_iconst (v := 0) hx hb dX4_takesJoint_69 (by decide) ?_
      refine aw_put C0 hW (lv_fix (by decide)) (cel_4 kd19) rfl inG4 tyX4 tyX4_ok nmX4 2 (by decide) wd43 rfl rfl (ty := .int) rfl rfl rfl (Nat.le_of_ble_eq_true rfl) (pu_4_2 kd19) dX4_takesJoint_70 (fun H locs hW => ?_)
      refine lv_iconst (v := 1) hx hb dX4_takesJoint_73 (by decide) ?_
      have hz := Option.some.inj hf
      have hzV := congrArg (fun z : Int32 × Mem => z.1) hz
      have hzI := congrArg (fun z : Int32 × Mem => z.2) hz
      exact aw_zret C0 hW rfl hzV hzI rfl dX4_takesJoint_74
    · have hf := iff_ hc hf
      refine lv_iload_n hx hb dX4_takesJoint_44 rfl (lv_at hl 1 rfl) ?_
      refine lv_bipush (v := 124) hx hb dX4_takesJoint_45 (by decide) ?_
      refine lv_icmp_eq (tgt := 52) hx hb dX4_takesJoint_47 rfl (fun hc => ?_) (fun hc => ?_)
      · have hf := ift hc hf
        refine lv_aload_n hx hb dX4_takesJoint_52 rfl (lv_at hl 0 rfl) ?_
        refine lv_iload_n hx hb dX4_takesJoint_53 rfl (lv_at hl 1 rfl) ?_
        obtain ⟨q4, hq4, hf⟩ := bnd hf
        refine aw_cSi (rest := [.ref (g.2.2 + 19)]) C0 hW (c_X4_strength x1  hq4) (cw_X4_86 hts ⟨Nat.le_of_ble_eq_true rfl, Nat.le_of_ble_eq_true rfl⟩) rfl hl.1 rfl (Nat.le_of_ble_eq_true rfl) ⟨Nat.zero_le _, Nat.zero_le _⟩ dX4_takesJoint_54 (fun H locs hW => ?_)
        obtain ⟨q5, hq5, hf⟩ := bnd hf
        refine aw_cVv (rest := []) C0 hW (lv_fix (by decide)) (cel_4 kd19) rfl (c_X4_release q4  hq5) (cw_X4_46 hts ⟨Nat.le_of_ble_eq_true rfl, Nat.le_of_ble_eq_true rfl⟩) rfl hl.1 rfl (Nat.le_of_ble_eq_true rfl) ⟨Nat.zero_le _, Nat.zero_le _⟩ dX4_takesJoint_57 (fun H locs hW => ?_)
        refine lv_aload_n hx hb dX4_takesJoint_60 rfl (lv_at hl 0 rfl) ?_
        refine aw_get (v := .ref (g.2.2 + 22)) C0 hW (lv_fix (by decide)) (cel_4 kd19) rfl inG4 1 (by decide) wd40 rfl rfl dX4_takesJoint_61 ?_
        refine lv_iload_n hx hb dX4_takesJoint_64 rfl (lv_at hl 1 rfl) ?_
        obtain ⟨q6, hq6, hf⟩ := bnd hf
        refine aw_cVv (rest := []) C0 hW (lv_fix (by decide)) (cel_3 kd22) rfl (c_X3_push 22 x1 kd22 hq6) (cw_X4_69 hts ⟨Nat.le_of_ble_eq_true rfl, Nat.le_of_ble_eq_true rfl⟩) rfl hl.1 rfl (Nat.le_of_ble_eq_true rfl) ⟨Nat.zero_le _, Nat.zero_le _⟩ dX4_takesJoint_65 (fun H locs hW => ?_)
        refine lv_aload_n hx hb dX4_takesJoint_68 rfl (lv_at hl 0 rfl) ?_
        refine lv_iconst (v := 0) hx hb dX4_takesJoint_69 (by decide) ?_
        refine aw_put C0 hW (lv_fix (by decide)) (cel_4 kd19) rfl inG4 tyX4 tyX4_ok nmX4 2 (by decide) wd43 rfl rfl (ty := .int) rfl rfl rfl (Nat.le_of_ble_eq_true rfl) (pu_4_2 kd19) dX4_takesJoint_70 (fun H locs hW => ?_)
        refine lv_iconst (v := 1) hx hb dX4_takesJoint_73 (by decide) ?_
        have hz := Option.some.inj hf
        have hzV := congrArg (fun z : Int32 × Mem => z.1) hz
        have hzI := congrArg (fun z : Int32 × Mem => z.2) hz
        exact aw_zret C0 hW rfl hzV hzI rfl dX4_takesJoint_74
      · have hf := iff_ hc hf
        refine lv_iconst (v := 0) hx hb dX4_takesJoint_50 (by decide) ?_
        have hz := Option.some.inj hf
        have hzV := congrArg (fun z : Int32 × Mem => z.1) hz
        have hzI := congrArg (fun z : Int32 × Mem => z.2) hz
        exact aw_zret C0 hW rfl hzV hzI rfl dX4_takesJoint_51
  · have hf := ift hc hf
    refine lv_aload_n hx hb dX4_takesJoint_6 rfl (lv_at hl 0 rfl) ?_
    refine aw_get (v := .int (I 19 3)) C0 hW (lv_fix (by decide)) (cel_4 kd19) rfl inG4 3 (by decide) wd41 rfl rfl dX4_takesJoint_7 ?_
    refine lv_if_le (tgt := 38) hx hb dX4_takesJoint_10 rfl (fun hc => ?_) (fun hc => ?_)
    · have hf := ift hc hf
      refine lv_iload_n hx hb dX4_takesJoint_38 rfl (lv_at hl 1 rfl) ?_
      refine lv_bipush (v := 38) hx hb dX4_takesJoint_39 (by decide) ?_
      refine lv_icmp_eq (tgt := 52) hx hb dX4_takesJoint_41 rfl (fun hc => ?_) (fun hc => ?_)
      · have hf := ift hc hf
        refine lv_aload_n hx hb dX4_takesJoint_52 rfl (lv_at hl 0 rfl) ?_
        refine lv_iload_n hx hb dX4_takesJoint_53 rfl (lv_at hl 1 rfl) ?_
        obtain ⟨q7, hq7, hf⟩ := bnd hf
        refine aw_cSi (rest := [.ref (g.2.2 + 19)]) C0 hW (c_X4_strength x1  hq7) (cw_X4_86 hts ⟨Nat.le_of_ble_eq_true rfl, Nat.le_of_ble_eq_true rfl⟩) rfl hl.1 rfl (Nat.le_of_ble_eq_true rfl) ⟨Nat.zero_le _, Nat.zero_le _⟩ dX4_takesJoint_54 (fun H locs hW => ?_)
        obtain ⟨q8, hq8, hf⟩ := bnd hf
        refine aw_cVv (rest := []) C0 hW (lv_fix (by decide)) (cel_4 kd19) rfl (c_X4_release q7  hq8) (cw_X4_46 hts ⟨Nat.le_of_ble_eq_true rfl, Nat.le_of_ble_eq_true rfl⟩) rfl hl.1 rfl (Nat.le_of_ble_eq_true rfl) ⟨Nat.zero_le _, Nat.zero_le _⟩ dX4_takesJoint_57 (fun H locs hW => ?_)
        refine lv_aload_n hx hb dX4_takesJoint_60 rfl (lv_at hl 0 rfl) ?_
        refine aw_get (v := .ref (g.2.2 + 22)) C0 hW (lv_fix (by decide)) (cel_4 kd19) rfl inG4 1 (by decide) wd40 rfl rfl dX4_takesJoint_61 ?_
        refine lv_iload_n hx hb dX4_takesJoint_64 rfl (lv_at hl 1 rfl) ?_
        obtain ⟨q9, hq9, hf⟩ := bnd hf
        refine aw_cVv (rest := []) C0 hW (lv_fix (by decide)) (cel_3 kd22) rfl (c_X3_push 22 x1 kd22 hq9) (cw_X4_69 hts ⟨Nat.le_of_ble_eq_true rfl, Nat.le_of_ble_eq_true rfl⟩) rfl hl.1 rfl (Nat.le_of_ble_eq_true rfl) ⟨Nat.zero_le _, Nat.zero_le _⟩ dX4_takesJoint_65 (fun H locs hW => ?_)
        refine lv_aload_n hx hb dX4_takesJoint_68 rfl (lv_at hl 0 rfl) ?_
        refine lv_iconst (v := 0) hx hb dX4_takesJoint_69 (by decide) ?_
        refine aw_put C0 hW (lv_fix (by decide)) (cel_4 kd19) rfl inG4 tyX4 tyX4_ok nmX4 2 (by decide) wd43 rfl rfl (ty := .int) rfl rfl rfl (Nat.le_of_ble_eq_true rfl) (pu_4_2 kd19) dX4_takesJoint_70 (fun H locs hW => ?_)
        refine lv_iconst (v := 1) hx hb dX4_takesJoint_73 (by decide) ?_
        have hz := Option.some.inj hf
        have hzV := congrArg (fun z : Int32 × Mem => z.1) hz
        have hzI := congrArg (fun z : Int32 × Mem => z.2) hz
        exact aw_zret C0 hW rfl hzV hzI rfl dX4_takesJoint_74
      · have hf := iff_ hc hf
        refine lv_iload_n hx hb dX4_takesJoint_44 rfl (lv_at hl 1 rfl) ?_
        refine lv_bipush (v := 124) hx hb dX4_takesJoint_45 (by decide) ?_
        refine lv_icmp_eq (tgt := 52) hx hb dX4_takesJoint_47 rfl (fun hc => ?_) (fun hc => ?_)
        · have hf := ift hc hf
          refine lv_aload_n hx hb dX4_takesJoint_52 rfl (lv_at hl 0 rfl) ?_
          refine lv_iload_n hx hb dX4_takesJoint_53 rfl (lv_at hl 1 rfl) ?_
          obtain ⟨q10, hq10, hf⟩ := bnd hf
          refine aw_cSi (rest := [.ref (g.2.2 + 19)]) C0 hW (c_X4_strength x1  hq10) (cw_X4_86 hts ⟨Nat.le_of_ble_eq_true rfl, Nat.le_of_ble_eq_true rfl⟩) rfl hl.1 rfl (Nat.le_of_ble_eq_true rfl) ⟨Nat.zero_le _, Nat.zero_le _⟩ dX4_takesJoint_54 (fun H locs hW => ?_)
          obtain ⟨q11, hq11, hf⟩ := bnd hf
          refine aw_cVv (rest := []) C0 hW (lv_fix (by decide)) (cel_4 kd19) rfl (c_X4_release q10  hq11) (cw_X4_46 hts ⟨Nat.le_of_ble_eq_true rfl, Nat.le_of_ble_eq_true rfl⟩) rfl hl.1 rfl (Nat.le_of_ble_eq_true rfl) ⟨Nat.zero_le _, Nat.zero_le _⟩ dX4_takesJoint_57 (fun H locs hW => ?_)
          refine lv_aload_n hx hb dX4_takesJoint_60 rfl (lv_at hl 0 rfl) ?_
          refine aw_get (v := .ref (g.2.2 + 22)) C0 hW (lv_fix (by decide)) (cel_4 kd19) rfl inG4 1 (by decide) wd40 rfl rfl dX4_takesJoint_61 ?_
          refine lv_iload_n hx hb dX4_takesJoint_64 rfl (lv_at hl 1 rfl) ?_
          obtain ⟨q12, hq12, hf⟩ := bnd hf
          refine aw_cVv (rest := []) C0 hW (lv_fix (by decide)) (cel_3 kd22) rfl (c_X3_push 22 x1 kd22 hq12) (cw_X4_69 hts ⟨Nat.le_of_ble_eq_true rfl, Nat.le_of_ble_eq_true rfl⟩) rfl hl.1 rfl (Nat.le_of_ble_eq_true rfl) ⟨Nat.zero_le _, Nat.zero_le _⟩ dX4_takesJoint_65 (fun H locs hW => ?_)
          refine lv_aload_n hx hb dX4_takesJoint_68 rfl (lv_at hl 0 rfl) ?_
          refine lv_iconst (v := 0) hx hb dX4_takesJoint_69 (by decide) ?_
          refine aw_put C0 hW (lv_fix (by decide)) (cel_4 kd19) rfl inG4 tyX4 tyX4_ok nmX4 2 (by decide) wd43 rfl rfl (ty := .int) rfl rfl rfl (Nat.le_of_ble_eq_true rfl) (pu_4_2 kd19) dX4_takesJoint_70 (fun H locs hW => ?_)
          refine lv_iconst (v := 1) hx hb dX4_takesJoint_73 (by decide) ?_
          have hz := Option.some.inj hf
          have hzV := congrArg (fun z : Int32 × Mem => z.1) hz
          have hzI := congrArg (fun z : Int32 × Mem => z.2) hz
          exact aw_zret C0 hW rfl hzV hzI rfl dX4_takesJoint_74
        · have hf := iff_ hc hf
          refine lv_iconst (v := 0) hx hb dX4_takesJoint_50 (by decide) ?_
          have hz := Option.some.inj hf
          have hzV := congrArg (fun z : Int32 × Mem => z.1) hz
          have hzI := congrArg (fun z : Int32 × Mem => z.2) hz
          exact aw_zret C0 hW rfl hzV hzI rfl dX4_takesJoint_51
    · have hf := iff_ hc hf
      refine lv_aload_n hx hb dX4_takesJoint_13 rfl (lv_at hl 0 rfl) ?_
      refine lv_iconst (v := 1) hx hb dX4_takesJoint_14 (by decide) ?_
      obtain ⟨q13, hq13, hf⟩ := bnd hf
      refine aw_cVv (rest := []) C0 hW (lv_fix (by decide)) (cel_4 kd19) rfl (c_X4_release 1  hq13) (cw_X4_46 hts ⟨Nat.le_of_ble_eq_true rfl, Nat.le_of_ble_eq_true rfl⟩) rfl hl.1 rfl (Nat.le_of_ble_eq_true rfl) ⟨Nat.zero_le _, Nat.zero_le _⟩ dX4_takesJoint_15 (fun H locs hW => ?_)
      refine lv_aload_n hx hb dX4_takesJoint_18 rfl (lv_at hl 0 rfl) ?_
      refine aw_get (v := .ref (g.2.2 + 22)) C0 hW (lv_fix (by decide)) (cel_4 kd19) rfl inG4 1 (by decide) wd40 rfl rfl dX4_takesJoint_19 ?_
      obtain ⟨q14, hq14, hf⟩ := bnd hf
      refine aw_cVi (rest := []) C0 hW (lv_fix (by decide)) (cel_3 kd22) rfl (c_X3_pop 22 kd22 hq14) (cw_X4_82 hts ⟨Nat.le_of_ble_eq_true rfl, Nat.le_of_ble_eq_true rfl⟩) rfl hl.1 rfl (Nat.le_of_ble_eq_true rfl) ⟨Nat.zero_le _, Nat.zero_le _⟩ dX4_takesJoint_22 (fun H locs hW => ?_)
      refine lv_pop hx hb dX4_takesJoint_25 rfl ?_
      refine lv_aload_n hx hb dX4_takesJoint_26 rfl (lv_at hl 0 rfl) ?_
      refine lv_dup hx hb dX4_takesJoint_27 rfl ?_
      refine aw_get (v := .int (q14.2 19 3)) C0 hW (lv_fix (by decide)) (cel_4 kd19) rfl inG4 3 (by decide) wd41 rfl rfl dX4_takesJoint_28 ?_
      refine lv_iconst (v := 1) hx hb dX4_takesJoint_31 (by decide) ?_
      refine lv_isub hx hb dX4_takesJoint_32 ?_
      refine aw_put C0 hW (lv_fix (by decide)) (cel_4 kd19) rfl inG4 tyX4 tyX4_ok nmX4 3 (by decide) wd41 rfl rfl (ty := .int) rfl rfl rfl (Nat.le_of_ble_eq_true rfl) (pu_4_3 kd19) dX4_takesJoint_33 (fun H locs hW => ?_)
      refine lv_iconst (v := 1) hx hb dX4_takesJoint_36 (by decide) ?_
      have hz := Option.some.inj hf
      have hzV := congrArg (fun z : Int32 × Mem => z.1) hz
      have hzI := congrArg (fun z : Int32 × Mem => z.2) hz
      exact aw_zret C0 hW rfl hzV hzI rfl dX4_takesJoint_37
theorem cw_X4_66 {Rm : Room} {s : State} {args : Array Value} (ht : ∀ w ∈ GT, w.before args s = true) (hR : rmX4_takesJoint.frames + 1 ≤ Rm.frames ∧ 8 + (2 + 11) + rmX4_takesJoint.locals ≤ Rm.locals) : CallW Rm s args RX4 RX4 66 yX4_takesJoint cX4_takesJoint 2 (some .boolean) (Cond.code yX4_takesJoint cX4_takesJoint 2 (some .boolean) :: GT) rmX4_takesJoint 0 0 1 := cwV 1 ht (goodV wd175 wd176 wd177 wd149 wd178) rfl rfl rfl ⟨rfl, by decide +kernel, by decide +kernel, by decide +kernel⟩ hR
def f_X4_takesSecondDigit (x1 : Int32) (P : Pool) (I : Mem) : Option (Int32 × Mem) :=
  (f_X4_isDigit x1).bind fun q1 =>
  if q1 = 0 then (
    (f_X4_endValue P I).bind fun q2 =>
    (f_X4_takesJoint x1 P q2).bind fun q3 =>
    if narrow .boolean (.int q3.1) = .int q3.1 then
    some (q3.1, q3.2)
    else none
  ) else (
    (f_X4_endValue P ((up I 19 6 (((I 19 6) * 10) + (x1 - 48))))).bind fun q4 =>
    some (1, q4)
  )
abbrev rmX4_takesSecondDigit : Room := { frames := 3, cells := 0, slots := 0, locals := 66 }
set_option maxHeartbeats 4000000 in
set_option maxRecDepth 100000 in
theorem c_X4_takesSecondDigit {l : Launch} {g : Gam} {I : Mem} {R : Rem} {P : Pool} {Z : Zed} (x1 : Int32)  {z : Int32 × Mem} (hf : f_X4_takesSecondDigit x1 P I = some z) : Met l yX4_takesSecondDigit (Cond.code yX4_takesSecondDigit cX4_takesSecondDigit 2 (some .boolean) :: GT) rmX4_takesSecondDigit (va_Pc [.ref (g.2.2 + 19), .int x1] (PW g I R P Z)) (QI g z.1 z.2 R P Z) 0 0 (AA g) := by
  refine aw_ofW (lv0 := [(0, .ref (g.2.2 + 19)), (1, .int x1)]) (by decide) (by exact Nat.le_of_ble_eq_true rfl) (by rfl) (fun p0 e s m args below meth c ls C0 hl hW => ?_)
  have C0 : CX g p0 s m args meth c RX4 cX4_takesSecondDigit 2 (some .boolean) := C0
  have hx := C0.1; have hb := C0.2.1; have hown := C0.2.2.2.2.1; have hts := C0.2.2.2.2.2.1; have hKS := C0.2.2.2.2.2.2.1
  unfold f_X4_takesSecondDigit at hf
  obtain ⟨H, hH⟩ : ∃ H, H = s.heap := ⟨_, rfl⟩
  obtain ⟨locs, hlc⟩ : ∃ q : List Loc, q = [] := ⟨_, rfl⟩
  rw [show W p0 l e rmX4_takesSecondDigit s m args below meth c s.heap [] 0 0 (MQ below (QI g z.1 z.2 R P Z) args s 0 0 (AA g)) (F0 m 0 ls []) = W p0 l e rmX4_takesSecondDigit s m args below meth c H locs 0 0 (MQ below (QI g z.1 z.2 R P Z) args s 0 0 (AA g)) (F0 m 0 ls []) by rw [hH, hlc]]
  have hW : Wd g I R P Z s.heap H locs := by rw [hH, hlc]; exact hW
  refine lv_iload_n hx hb dX4_takesSecondDigit_0 rfl (lv_at hl 1 rfl) ?_
  obtain ⟨q1, hq1, hf⟩ := bnd hf
  refine aw_cSi (rest := []) C0 hW (c_X4_isDigit x1  hq1) (cw_X4_79 hts ⟨Nat.le_of_ble_eq_true rfl, Nat.le_of_ble_eq_true rfl⟩) rfl hl.1 rfl (Nat.le_of_ble_eq_true rfl) ⟨Nat.zero_le _, Nat.zero_le _⟩ dX4_takesSecondDigit_1 (fun H locs hW => ?_)
  refine lv_if_eq (tgt := 29) hx hb dX4_takesSecondDigit_4 rfl (fun hc => ?_) (fun hc => ?_)
  · have hf := ift hc hf
    refine lv_aload_n hx hb dX4_takesSecondDigit_29 rfl (lv_at hl 0 rfl) ?_
    obtain ⟨q2, hq2, hf⟩ := bnd hf
    refine aw_cVv (rest := []) C0 hW (lv_fix (by decide)) (cel_4 kd19) rfl (c_X4_endValue  hq2) (cw_X4_43 hts ⟨Nat.le_of_ble_eq_true rfl, Nat.le_of_ble_eq_true rfl⟩) rfl hl.1 rfl (Nat.le_of_ble_eq_true rfl) ⟨Nat.zero_le _, Nat.zero_le _⟩ dX4_takesSecondDigit_30 (fun H locs hW => ?_)
    refine lv_aload_n hx hb dX4_takesSecondDigit_33 rfl (lv_at hl 0 rfl) ?_
    refine lv_iload_n hx hb dX4_takesSecondDigit_34 rfl (lv_at hl 1 rfl) ?_
    obtain ⟨q3, hq3, hf⟩ := bnd hf
    refine aw_cVi (rest := []) C0 hW (lv_fix (by decide)) (cel_4 kd19) rfl (c_X4_takesJoint x1  hq3) (cw_X4_66 hts ⟨Nat.le_of_ble_eq_true rfl, Nat.le_of_ble_eq_true rfl⟩) rfl hl.1 rfl (Nat.le_of_ble_eq_true rfl) ⟨Nat.zero_le _, Nat.zero_le _⟩ dX4_takesSecondDigit_35 (fun H locs hW => ?_)
    obtain ⟨hnw, hf⟩ := ifn hf
    have hz := Option.some.inj hf
    have hzV := congrArg (fun z : Int32 × Mem => z.1) hz
    have hzI := congrArg (fun z : Int32 × Mem => z.2) hz
    exact aw_zret C0 hW hnw hzV hzI rfl dX4_takesSecondDigit_38
  · have hf := iff_ hc hf
    refine lv_aload_n hx hb dX4_takesSecondDigit_7 rfl (lv_at hl 0 rfl) ?_
    refine lv_aload_n hx hb dX4_takesSecondDigit_8 rfl (lv_at hl 0 rfl) ?_
    refine aw_get (v := .int (I 19 6)) C0 hW (lv_fix (by decide)) (cel_4 kd19) rfl inG4 6 (by decide) wd46 rfl rfl dX4_takesSecondDigit_9 ?_
    refine lv_bipush (v := 10) hx hb dX4_takesSecondDigit_12 (by decide) ?_
    refine lv_imul hx hb dX4_takesSecondDigit_14 ?_
    refine lv_iload_n hx hb dX4_takesSecondDigit_15 rfl (lv_at hl 1 rfl) ?_
    refine lv_bipush (v := 48) hx hb dX4_takesSecondDigit_16 (by decide) ?_
    refine lv_isub hx hb dX4_takesSecondDigit_18 ?_
    refine lv_iadd hx hb dX4_takesSecondDigit_19 ?_
    refine aw_put C0 hW (lv_fix (by decide)) (cel_4 kd19) rfl inG4 tyX4 tyX4_ok nmX4 6 (by decide) wd46 rfl rfl (ty := .int) rfl rfl rfl (Nat.le_of_ble_eq_true rfl) (pu_4_6 kd19) dX4_takesSecondDigit_20 (fun H locs hW => ?_)
    refine lv_aload_n hx hb dX4_takesSecondDigit_23 rfl (lv_at hl 0 rfl) ?_
    obtain ⟨q4, hq4, hf⟩ := bnd hf
    refine aw_cVv (rest := []) C0 hW (lv_fix (by decide)) (cel_4 kd19) rfl (c_X4_endValue  hq4) (cw_X4_43 hts ⟨Nat.le_of_ble_eq_true rfl, Nat.le_of_ble_eq_true rfl⟩) rfl hl.1 rfl (Nat.le_of_ble_eq_true rfl) ⟨Nat.zero_le _, Nat.zero_le _⟩ dX4_takesSecondDigit_24 (fun H locs hW => ?_)
    refine lv_iconst (v := 1) hx hb dX4_takesSecondDigit_27 (by decide) ?_
    have hz := Option.some.inj hf
    have hzV := congrArg (fun z : Int32 × Mem => z.1) hz
    have hzI := congrArg (fun z : Int32 × Mem => z.2) hz
    exact aw_zret C0 hW rfl hzV hzI rfl dX4_takesSecondDigit_28
theorem cw_X4_63 {Rm : Room} {s : State} {args : Array Value} (ht : ∀ w ∈ GT, w.before args s = true) (hR : rmX4_takesSecondDigit.frames + 1 ≤ Rm.frames ∧ 8 + (2 + 11) + rmX4_takesSecondDigit.locals ≤ Rm.locals) : CallW Rm s args RX4 RX4 63 yX4_takesSecondDigit cX4_takesSecondDigit 2 (some .boolean) (Cond.code yX4_takesSecondDigit cX4_takesSecondDigit 2 (some .boolean) :: GT) rmX4_takesSecondDigit 0 0 1 := cwV 1 ht (goodV wd171 wd172 wd173 wd149 wd174) rfl rfl rfl ⟨rfl, by decide +kernel, by decide +kernel, by decide +kernel⟩ hR
def f_X4_takes (x1 : Int32) (P : Pool) (I : Mem) : Option (Int32 × Mem) :=
  if (I 19 2) = 0 then (
    (f_X4_takesFactor x1 P I).bind fun q1 =>
    if narrow .boolean (.int q1.1) = .int q1.1 then
    some (q1.1, q1.2)
    else none
  ) else (
  if (I 19 2) = 1 then (
    (f_X4_takesSign x1 P I).bind fun q2 =>
    if narrow .boolean (.int q2.1) = .int q2.1 then
    some (q2.1, q2.2)
    else none
  ) else (
  if (I 19 2) = 2 then (
    (f_X4_takesOperand x1 P I).bind fun q3 =>
    if narrow .boolean (.int q3.1) = .int q3.1 then
    some (q3.1, q3.2)
    else none
  ) else (
  if (I 19 2) = 3 then (
    (f_X4_takesSecondDigit x1 P I).bind fun q4 =>
    if narrow .boolean (.int q4.1) = .int q4.1 then
    some (q4.1, q4.2)
    else none
  ) else (
    (f_X4_takesJoint x1 P I).bind fun q5 =>
    if narrow .boolean (.int q5.1) = .int q5.1 then
    some (q5.1, q5.2)
    else none
  ))))
abbrev rmX4_takes : Room := { frames := 4, cells := 0, slots := 0, locals := 87 }
set_option maxHeartbeats 4000000 in
set_option maxRecDepth 100000 in
theorem c_X4_takes {l : Launch} {g : Gam} {I : Mem} {R : Rem} {P : Pool} {Z : Zed} (x1 : Int32)  {z : Int32 × Mem} (hf : f_X4_takes x1 P I = some z) : Met l yX4_takes (Cond.code yX4_takes cX4_takes 2 (some .boolean) :: GT) rmX4_takes (va_Pc [.ref (g.2.2 + 19), .int x1] (PW g I R P Z)) (QI g z.1 z.2 R P Z) 0 0 (AA g) := by
  refine aw_ofW (lv0 := [(0, .ref (g.2.2 + 19)), (1, .int x1)]) (by decide) (by exact Nat.le_of_ble_eq_true rfl) (by rfl) (fun p0 e s m args below meth c ls C0 hl hW => ?_)
  have C0 : CX g p0 s m args meth c RX4 cX4_takes 2 (some .boolean) := C0
  have hx := C0.1; have hb := C0.2.1; have hown := C0.2.2.2.2.1; have hts := C0.2.2.2.2.2.1; have hKS := C0.2.2.2.2.2.2.1
  unfold f_X4_takes at hf
  obtain ⟨H, hH⟩ : ∃ H, H = s.heap := ⟨_, rfl⟩
  obtain ⟨locs, hlc⟩ : ∃ q : List Loc, q = [] := ⟨_, rfl⟩
  rw [show W p0 l e rmX4_takes s m args below meth c s.heap [] 0 0 (MQ below (QI g z.1 z.2 R P Z) args s 0 0 (AA g)) (F0 m 0 ls []) = W p0 l e rmX4_takes s m args below meth c H locs 0 0 (MQ below (QI g z.1 z.2 R P Z) args s 0 0 (AA g)) (F0 m 0 ls []) by rw [hH, hlc]]
  have hW : Wd g I R P Z s.heap H locs := by rw [hH, hlc]; exact hW
  refine lv_aload_n hx hb dX4_takes_0 rfl (lv_at hl 0 rfl) ?_
  refine aw_get (v := .int (I 19 2)) C0 hW (lv_fix (by decide)) (cel_4 kd19) rfl inG4 2 (by decide) wd43 rfl rfl dX4_takes_1 ?_
  by_cases hs1 : (I 19 2) = 0
  · have hf := ift hs1 hf
    refine lv_tableIn (off := 32) (tgt := 36) hx hb dX4_takes_4 (by rw [hs1]; decide) (by rw [hs1]; decide) (by rw [hs1]; decide) rfl ?_
    refine lv_aload_n hx hb dX4_takes_36 rfl (lv_at hl 0 rfl) ?_
    refine lv_iload_n hx hb dX4_takes_37 rfl (lv_at hl 1 rfl) ?_
    obtain ⟨q1, hq1, hf⟩ := bnd hf
    refine aw_cVi (rest := []) C0 hW (lv_fix (by decide)) (cel_4 kd19) rfl (c_X4_takesFactor x1  hq1) (cw_X4_54 hts ⟨Nat.le_of_ble_eq_true rfl, Nat.le_of_ble_eq_true rfl⟩) rfl hl.1 rfl (Nat.le_of_ble_eq_true rfl) ⟨Nat.zero_le _, Nat.zero_le _⟩ dX4_takes_38 (fun H locs hW => ?_)
    obtain ⟨hnw, hf⟩ := ifn hf
    have hz := Option.some.inj hf
    have hzV := congrArg (fun z : Int32 × Mem => z.1) hz
    have hzI := congrArg (fun z : Int32 × Mem => z.2) hz
    exact aw_zret C0 hW hnw hzV hzI rfl dX4_takes_41
  have hf := iff_ hs1 hf
  by_cases hs2 : (I 19 2) = 1
  · have hf := ift hs2 hf
    refine lv_tableIn (off := 38) (tgt := 42) hx hb dX4_takes_4 (by rw [hs2]; decide) (by rw [hs2]; decide) (by rw [hs2]; decide) rfl ?_
    refine lv_aload_n hx hb dX4_takes_42 rfl (lv_at hl 0 rfl) ?_
    refine lv_iload_n hx hb dX4_takes_43 rfl (lv_at hl 1 rfl) ?_
    obtain ⟨q2, hq2, hf⟩ := bnd hf
    refine aw_cVi (rest := []) C0 hW (lv_fix (by decide)) (cel_4 kd19) rfl (c_X4_takesSign x1  hq2) (cw_X4_57 hts ⟨Nat.le_of_ble_eq_true rfl, Nat.le_of_ble_eq_true rfl⟩) rfl hl.1 rfl (Nat.le_of_ble_eq_true rfl) ⟨Nat.zero_le _, Nat.zero_le _⟩ dX4_takes_44 (fun H locs hW => ?_)
    obtain ⟨hnw, hf⟩ := ifn hf
    have hz := Option.some.inj hf
    have hzV := congrArg (fun z : Int32 × Mem => z.1) hz
    have hzI := congrArg (fun z : Int32 × Mem => z.2) hz
    exact aw_zret C0 hW hnw hzV hzI rfl dX4_takes_47
  have hf := iff_ hs2 hf
  by_cases hs3 : (I 19 2) = 2
  · have hf := ift hs3 hf
    refine lv_tableIn (off := 44) (tgt := 48) hx hb dX4_takes_4 (by rw [hs3]; decide) (by rw [hs3]; decide) (by rw [hs3]; decide) rfl ?_
    refine lv_aload_n hx hb dX4_takes_48 rfl (lv_at hl 0 rfl) ?_
    refine lv_iload_n hx hb dX4_takes_49 rfl (lv_at hl 1 rfl) ?_
    obtain ⟨q3, hq3, hf⟩ := bnd hf
    refine aw_cVi (rest := []) C0 hW (lv_fix (by decide)) (cel_4 kd19) rfl (c_X4_takesOperand x1  hq3) (cw_X4_60 hts ⟨Nat.le_of_ble_eq_true rfl, Nat.le_of_ble_eq_true rfl⟩) rfl hl.1 rfl (Nat.le_of_ble_eq_true rfl) ⟨Nat.zero_le _, Nat.zero_le _⟩ dX4_takes_50 (fun H locs hW => ?_)
    obtain ⟨hnw, hf⟩ := ifn hf
    have hz := Option.some.inj hf
    have hzV := congrArg (fun z : Int32 × Mem => z.1) hz
    have hzI := congrArg (fun z : Int32 × Mem => z.2) hz
    exact aw_zret C0 hW hnw hzV hzI rfl dX4_takes_53
  have hf := iff_ hs3 hf
  by_cases hs4 : (I 19 2) = 3
  · have hf := ift hs4 hf
    refine lv_tableIn (off := 50) (tgt := 54) hx hb dX4_takes_4 (by rw [hs4]; decide) (by rw [hs4]; decide) (by rw [hs4]; decide) rfl ?_
    refine lv_aload_n hx hb dX4_takes_54 rfl (lv_at hl 0 rfl) ?_
    refine lv_iload_n hx hb dX4_takes_55 rfl (lv_at hl 1 rfl) ?_
    obtain ⟨q4, hq4, hf⟩ := bnd hf
    refine aw_cVi (rest := []) C0 hW (lv_fix (by decide)) (cel_4 kd19) rfl (c_X4_takesSecondDigit x1  hq4) (cw_X4_63 hts ⟨Nat.le_of_ble_eq_true rfl, Nat.le_of_ble_eq_true rfl⟩) rfl hl.1 rfl (Nat.le_of_ble_eq_true rfl) ⟨Nat.zero_le _, Nat.zero_le _⟩ dX4_takes_56 (fun H locs hW => ?_)
    obtain ⟨hnw, hf⟩ := ifn hf
    have hz := Option.some.inj hf
    have hzV := congrArg (fun z : Int32 × Mem => z.1) hz
    have hzI := congrArg (fun z : Int32 × Mem => z.2) hz
    exact aw_zret C0 hW hnw hzV hzI rfl dX4_takes_59
  have hf := iff_ hs4 hf
  refine lv_tableOut (tgt := 60) hx hb dX4_takes_4 (by have zhs1 := i32_ne (n := 0) (by decide) hs1; have zhs2 := i32_ne (n := 1) (by decide) hs2; have zhs3 := i32_ne (n := 2) (by decide) hs3; have zhs4 := i32_ne (n := 3) (by decide) hs4; omega) rfl ?_
  refine lv_aload_n hx hb dX4_takes_60 rfl (lv_at hl 0 rfl) ?_
  refine lv_iload_n hx hb dX4_takes_61 rfl (lv_at hl 1 rfl) ?_
  obtain ⟨q5, hq5, hf⟩ := bnd hf
  refine aw_cVi (rest := []) C0 hW (lv_fix (by decide)) (cel_4 kd19) rfl (c_X4_takesJoint x1  hq5) (cw_X4_66 hts ⟨Nat.le_of_ble_eq_true rfl, Nat.le_of_ble_eq_true rfl⟩) rfl hl.1 rfl (Nat.le_of_ble_eq_true rfl) ⟨Nat.zero_le _, Nat.zero_le _⟩ dX4_takes_62 (fun H locs hW => ?_)
  obtain ⟨hnw, hf⟩ := ifn hf
  have hz := Option.some.inj hf
  have hzV := congrArg (fun z : Int32 × Mem => z.1) hz
  have hzI := congrArg (fun z : Int32 × Mem => z.2) hz
  exact aw_zret C0 hW hnw hzV hzI rfl dX4_takes_65
theorem cw_X4_39 {Rm : Room} {s : State} {args : Array Value} (ht : ∀ w ∈ GT, w.before args s = true) (hR : rmX4_takes.frames + 1 ≤ Rm.frames ∧ 8 + (2 + 11) + rmX4_takes.locals ≤ Rm.locals) : CallW Rm s args RX4 RX4 39 yX4_takes cX4_takes 2 (some .boolean) (Cond.code yX4_takes cX4_takes 2 (some .boolean) :: GT) rmX4_takes 0 0 1 := cwV 1 ht (goodV wd146 wd147 wd148 wd149 wd150) rfl rfl rfl ⟨rfl, by decide +kernel, by decide +kernel, by decide +kernel⟩ hR
def f_X4_read_L26 (a1 : Nat) (x2 : Int32) (P : Pool) : Nat → Int32 → Mem → Option ((Int32 × Mem) ⊕ (Mem))
  | 0, _, _ => none
  | n + 1, w3, I =>
    if x2 ≤ w3 then (
      some (.inr I)
    ) else (
      if (Int32.ofNat (Ln P a1)) ≤ w3 then (
        some (.inr I)
      ) else (
        (rd I a1 (Ln P a1) w3).bind fun v3 =>
        (f_X4_takes v3 P I).bind fun q4 =>
        if q4.1 = 0 then (
          some (.inl (w3, q4.2))
        ) else (
          f_X4_read_L26 a1 x2 P n (w3 + 1) q4.2
        )
      )
    )
def f_X4_read (a1 : Nat) (x2 : Int32) (P : Pool) (I : Mem) : Option (Int32 × Mem) :=
  (f_X3_clear 20 I).bind fun q1 =>
  (f_X3_clear 22 q1).bind fun q2 =>
  (f_X4_read_L26 a1 x2 P fuel 0 ((up (up q2 19 2 0) 19 3 0))).bind fun q5 =>
  sm q5 (fun r => some r) fun q6 =>
  some (x2, q6)
abbrev rmX4_read : Room := { frames := 5, cells := 0, slots := 0, locals := 108 }
set_option maxHeartbeats 4000000 in
set_option maxRecDepth 100000 in
theorem c_X4_read {l : Launch} {g : Gam} {I : Mem} {R : Rem} {P : Pool} {Z : Zed} (a1 : Nat) (x2 : Int32) (ha1 : Kd P a1 = 9) {z : Int32 × Mem} (hf : f_X4_read a1 x2 P I = some z) : Met l yX4_read (Cond.code yX4_read cX4_read 4 (some .int) :: GT) rmX4_read (va_Pc [.ref (g.2.2 + 19), .ref (g.2.2 + a1), .int x2] (PW g I R P Z)) (QI g z.1 z.2 R P Z) 0 0 (AA g) := by
  refine aw_ofW (lv0 := [(0, .ref (g.2.2 + 19)), (1, .ref (g.2.2 + a1)), (2, .int x2)]) (by decide) (by exact Nat.le_of_ble_eq_true rfl) (by rfl) (fun p0 e s m args below meth c ls C0 hl hW => ?_)
  have C0 : CX g p0 s m args meth c RX4 cX4_read 4 (some .int) := C0
  have hx := C0.1; have hb := C0.2.1; have hown := C0.2.2.2.2.1; have hts := C0.2.2.2.2.2.1; have hKS := C0.2.2.2.2.2.2.1
  have L26 : ∀ (n : Nat) (w3 : Int32) (I : Mem) (H : Heap) (locs : List Loc) (ls : Array Slot) (o : (Int32 × Mem) ⊕ (Mem)), f_X4_read_L26 a1 x2 P n w3 I = some o → Wd g I R P Z s.heap H locs → lv_has ls 4 [(0, .ref (g.2.2 + 19)), (1, .ref (g.2.2 + a1)), (2, .int x2), (3, .int w3)] → (∀ q, o = .inr q → ∀ (H : Heap) (locs : List Loc) (ls : Array Slot), Wd g q R P Z s.heap H locs → lv_has ls 4 [(2, .int x2)] → W p0 l e rmX4_read s m args below meth c H locs 0 0 (MQ below (QI g z.1 z.2 R P Z) args s 0 0 (AA g)) (F0 m 55 ls [])) → (∀ r, o = .inl r → r = z) → W p0 l e rmX4_read s m args below meth c H locs 0 0 (MQ below (QI g z.1 z.2 R P Z) args s 0 0 (AA g)) (F0 m 26 ls []) := by
    intro n
    induction n with
    | zero => intro w3 I H locs ls o hf; cases hf
    | succ n ih =>
      intro w3 I H locs ls o hf hW hl hK hZ
      rw [f_X4_read_L26] at hf
      refine lv_iload_n hx hb dX4_read_26 rfl (lv_at hl 3 rfl) ?_
      refine lv_iload_n hx hb dX4_read_27 rfl (lv_at hl 2 rfl) ?_
      refine lv_icmp_ge (tgt := 55) hx hb dX4_read_28 rfl (fun hc => ?_) (fun hc => ?_)
      · have hf := ift hc hf
        have ho := Option.some.inj hf
        subst ho
        exact hK _ rfl H locs ls hW (lv_sub hl [2] rfl)
      · have hf := iff_ hc hf
        refine lv_iload_n hx hb dX4_read_31 rfl (lv_at hl 3 rfl) ?_
        refine lv_aload_n hx hb dX4_read_32 rfl (lv_at hl 1 rfl) ?_
        refine aw_alenC (v := Int32.ofNat (Ln P a1)) C0 hW ha1 rfl rfl dX4_read_33 ?_
        refine lv_icmp_ge (tgt := 55) hx hb dX4_read_34 rfl (fun hc => ?_) (fun hc => ?_)
        · have hf := ift hc hf
          have ho := Option.some.inj hf
          subst ho
          exact hK _ rfl H locs ls hW (lv_sub hl [2] rfl)
        · have hf := iff_ hc hf
          refine lv_aload_n hx hb dX4_read_37 rfl (lv_at hl 0 rfl) ?_
          refine lv_aload_n hx hb dX4_read_38 rfl (lv_at hl 1 rfl) ?_
          refine lv_iload_n hx hb dX4_read_39 rfl (lv_at hl 3 rfl) ?_
          obtain ⟨v3, hv3, hf⟩ := bnd hf
          refine aw_cald C0 hW ha1 rfl hv3 dX4_read_40 ?_
          obtain ⟨q4, hq4, hf⟩ := bnd hf
          refine aw_cVi (rest := []) C0 hW (lv_fix (by decide)) (cel_4 kd19) rfl (c_X4_takes v3  hq4) (cw_X4_39 hts ⟨Nat.le_of_ble_eq_true rfl, Nat.le_of_ble_eq_true rfl⟩) rfl hl.1 rfl (Nat.le_of_ble_eq_true rfl) ⟨Nat.zero_le _, Nat.zero_le _⟩ dX4_read_41 (fun H locs hW => ?_)
          refine lv_if_ne (tgt := 49) hx hb dX4_read_44 rfl (fun hc => ?_) (fun hc => ?_)
          · have hf := iff_ hc hf
            refine lv_iinc (k := 3) (v := w3 + 1) (lv' := [(3, .int (w3 + 1)), (0, .ref (g.2.2 + 19)), (1, .ref (g.2.2 + a1)), (2, .int x2)]) hx hb dX4_read_49 hl rfl (congrArg (fun t => w3 + t) (by decide : Int32.ofInt 1 = 1)) (Nat.le_of_ble_eq_true rfl) rfl (fun ls hl => ?_)
            refine lv_goto (tgt := 26) hx hb dX4_read_52 rfl ?_
            exact ih _ _ H locs ls o hf hW (lv_sub hl [1, 2, 3, 0] rfl) hK hZ
          · have hf := ift hc hf
            refine lv_iload_n hx hb dX4_read_47 rfl (lv_at hl 3 rfl) ?_
            have hz := hZ _ (Option.some.inj hf).symm
            have hzV := congrArg (fun z : Int32 × Mem => z.1) hz
            have hzI := congrArg (fun z : Int32 × Mem => z.2) hz
            exact aw_iret C0 hW hzV hzI rfl dX4_read_48
  unfold f_X4_read at hf
  obtain ⟨H, hH⟩ : ∃ H, H = s.heap := ⟨_, rfl⟩
  obtain ⟨locs, hlc⟩ : ∃ q : List Loc, q = [] := ⟨_, rfl⟩
  rw [show W p0 l e rmX4_read s m args below meth c s.heap [] 0 0 (MQ below (QI g z.1 z.2 R P Z) args s 0 0 (AA g)) (F0 m 0 ls []) = W p0 l e rmX4_read s m args below meth c H locs 0 0 (MQ below (QI g z.1 z.2 R P Z) args s 0 0 (AA g)) (F0 m 0 ls []) by rw [hH, hlc]]
  have hW : Wd g I R P Z s.heap H locs := by rw [hH, hlc]; exact hW
  refine lv_aload_n hx hb dX4_read_0 rfl (lv_at hl 0 rfl) ?_
  refine aw_get (v := .ref (g.2.2 + 20)) C0 hW (lv_fix (by decide)) (cel_4 kd19) rfl inG4 0 (by decide) wd44 rfl rfl dX4_read_1 ?_
  obtain ⟨q1, hq1, hf⟩ := bnd hf
  refine aw_cVv (rest := []) C0 hW (lv_fix (by decide)) (cel_3 kd20) rfl (c_X3_clear 20 kd20 hq1) (cw_X4_36 hts ⟨Nat.le_of_ble_eq_true rfl, Nat.le_of_ble_eq_true rfl⟩) rfl hl.1 rfl (Nat.le_of_ble_eq_true rfl) ⟨Nat.zero_le _, Nat.zero_le _⟩ dX4_read_4 (fun H locs hW => ?_)
  refine lv_aload_n hx hb dX4_read_7 rfl (lv_at hl 0 rfl) ?_
  refine aw_get (v := .ref (g.2.2 + 22)) C0 hW (lv_fix (by decide)) (cel_4 kd19) rfl inG4 1 (by decide) wd40 rfl rfl dX4_read_8 ?_
  obtain ⟨q2, hq2, hf⟩ := bnd hf
  refine aw_cVv (rest := []) C0 hW (lv_fix (by decide)) (cel_3 kd22) rfl (c_X3_clear 22 kd22 hq2) (cw_X4_36 hts ⟨Nat.le_of_ble_eq_true rfl, Nat.le_of_ble_eq_true rfl⟩) rfl hl.1 rfl (Nat.le_of_ble_eq_true rfl) ⟨Nat.zero_le _, Nat.zero_le _⟩ dX4_read_11 (fun H locs hW => ?_)
  refine lv_aload_n hx hb dX4_read_14 rfl (lv_at hl 0 rfl) ?_
  refine lv_iconst (v := 0) hx hb dX4_read_15 (by decide) ?_
  refine aw_put C0 hW (lv_fix (by decide)) (cel_4 kd19) rfl inG4 tyX4 tyX4_ok nmX4 2 (by decide) wd43 rfl rfl (ty := .int) rfl rfl rfl (Nat.le_of_ble_eq_true rfl) (pu_4_2 kd19) dX4_read_16 (fun H locs hW => ?_)
  refine lv_aload_n hx hb dX4_read_19 rfl (lv_at hl 0 rfl) ?_
  refine lv_iconst (v := 0) hx hb dX4_read_20 (by decide) ?_
  refine aw_put C0 hW (lv_fix (by decide)) (cel_4 kd19) rfl inG4 tyX4 tyX4_ok nmX4 3 (by decide) wd41 rfl rfl (ty := .int) rfl rfl rfl (Nat.le_of_ble_eq_true rfl) (pu_4_3 kd19) dX4_read_21 (fun H locs hW => ?_)
  refine lv_iconst (v := 0) hx hb dX4_read_24 (by decide) ?_
  refine lv_istore_n (lv' := [(3, .int 0), (0, .ref (g.2.2 + 19)), (1, .ref (g.2.2 + a1)), (2, .int x2)]) hx hb dX4_read_25 rfl hl (Nat.le_of_ble_eq_true rfl) rfl (fun ls hl => ?_)
  obtain ⟨q5, hq5, hf⟩ := bnd hf
  refine L26  fuel 0 ((up (up q2 19 2 0) 19 3 0)) H locs ls _ hq5 hW (lv_sub hl [1, 2, 3, 0] rfl) (fun q6 eq6 H locs ls hW hl => ?_) (fun r er => ?_)
  rotate_left
  · rw [er] at hf
    exact Option.some.inj hf
  rw [eq6] at hf
  have hf := (sm_r.symm.trans hf)
  refine lv_iload_n hx hb dX4_read_55 rfl (lv_at hl 0 rfl) ?_
  have hz := Option.some.inj hf
  have hzV := congrArg (fun z : Int32 × Mem => z.1) hz
  have hzI := congrArg (fun z : Int32 × Mem => z.2) hz
  exact aw_iret C0 hW hzV hzI rfl dX4_read_56
theorem cw_X8_126 {Rm : Room} {s : State} {args : Array Value} (ht : ∀ w ∈ GT, w.before args s = true) (hR : rmX4_read.frames + 1 ≤ Rm.frames ∧ 8 + (4 + 11) + rmX4_read.locals ≤ Rm.locals) : CallW Rm s args RX8 RX4 126 yX4_read cX4_read 4 (some .int) (Cond.code yX4_read cX4_read 4 (some .int) :: GT) rmX4_read 0 0 2 := cwV 2 ht (goodV wd254 wd255 wd256 wd149 wd257) rfl rfl rfl ⟨rfl, by decide +kernel, by decide +kernel, by decide +kernel⟩ hR
def f_X4_finish (P : Pool) (I : Mem) : Option (Int32 × Mem) :=
  (f_X4_endValue P I).bind fun q1 =>
  if (q1 19 2) = 4 then (
    if (q1 19 3) ≤ 0 then (
      (f_X4_release 1 P q1).bind fun q2 =>
      some (1, q2)
    ) else (
      some (0, q1)
    )
  ) else (
    some (0, q1)
  )
abbrev rmX4_finish : Room := { frames := 3, cells := 0, slots := 0, locals := 66 }
set_option maxHeartbeats 4000000 in
set_option maxRecDepth 100000 in
theorem c_X4_finish {l : Launch} {g : Gam} {I : Mem} {R : Rem} {P : Pool} {Z : Zed}   {z : Int32 × Mem} (hf : f_X4_finish P I = some z) : Met l yX4_finish (Cond.code yX4_finish cX4_finish 1 (some .boolean) :: GT) rmX4_finish (va_Pc [.ref (g.2.2 + 19)] (PW g I R P Z)) (QI g z.1 z.2 R P Z) 0 0 (AA g) := by
  refine aw_ofW (lv0 := [(0, .ref (g.2.2 + 19))]) (by decide) (by exact Nat.le_of_ble_eq_true rfl) (by rfl) (fun p0 e s m args below meth c ls C0 hl hW => ?_)
  have C0 : CX g p0 s m args meth c RX4 cX4_finish 1 (some .boolean) := C0
  have hx := C0.1; have hb := C0.2.1; have hown := C0.2.2.2.2.1; have hts := C0.2.2.2.2.2.1; have hKS := C0.2.2.2.2.2.2.1
  unfold f_X4_finish at hf
  obtain ⟨H, hH⟩ : ∃ H, H = s.heap := ⟨_, rfl⟩
  obtain ⟨locs, hlc⟩ : ∃ q : List Loc, q = [] := ⟨_, rfl⟩
  rw [show W p0 l e rmX4_finish s m args below meth c s.heap [] 0 0 (MQ below (QI g z.1 z.2 R P Z) args s 0 0 (AA g)) (F0 m 0 ls []) = W p0 l e rmX4_finish s m args below meth c H locs 0 0 (MQ below (QI g z.1 z.2 R P Z) args s 0 0 (AA g)) (F0 m 0 ls []) by rw [hH, hlc]]
  have hW : Wd g I R P Z s.heap H locs := by rw [hH, hlc]; exact hW
  refine lv_aload_n hx hb dX4_finish_0 rfl (lv_at hl 0 rfl) ?_
  obtain ⟨q1, hq1, hf⟩ := bnd hf
  refine aw_cVv (rest := []) C0 hW (lv_fix (by decide)) (cel_4 kd19) rfl (c_X4_endValue  hq1) (cw_X4_43 hts ⟨Nat.le_of_ble_eq_true rfl, Nat.le_of_ble_eq_true rfl⟩) rfl hl.1 rfl (Nat.le_of_ble_eq_true rfl) ⟨Nat.zero_le _, Nat.zero_le _⟩ dX4_finish_1 (fun H locs hW => ?_)
  refine lv_aload_n hx hb dX4_finish_4 rfl (lv_at hl 0 rfl) ?_
  refine aw_get (v := .int (q1 19 2)) C0 hW (lv_fix (by decide)) (cel_4 kd19) rfl inG4 2 (by decide) wd43 rfl rfl dX4_finish_5 ?_
  refine lv_iconst (v := 4) hx hb dX4_finish_8 (by decide) ?_
  refine lv_icmp_ne (tgt := 19) hx hb dX4_finish_9 rfl (fun hc => ?_) (fun hc => ?_)
  · have hf := iff_ hc hf
    refine lv_iconst (v := 0) hx hb dX4_finish_19 (by decide) ?_
    have hz := Option.some.inj hf
    have hzV := congrArg (fun z : Int32 × Mem => z.1) hz
    have hzI := congrArg (fun z : Int32 × Mem => z.2) hz
    exact aw_zret C0 hW rfl hzV hzI rfl dX4_finish_20
  · have hf := ift hc hf
    refine lv_aload_n hx hb dX4_finish_12 rfl (lv_at hl 0 rfl) ?_
    refine aw_get (v := .int (q1 19 3)) C0 hW (lv_fix (by decide)) (cel_4 kd19) rfl inG4 3 (by decide) wd41 rfl rfl dX4_finish_13 ?_
    refine lv_if_le (tgt := 21) hx hb dX4_finish_16 rfl (fun hc => ?_) (fun hc => ?_)
    · have hf := ift hc hf
      refine lv_aload_n hx hb dX4_finish_21 rfl (lv_at hl 0 rfl) ?_
      refine lv_iconst (v := 1) hx hb dX4_finish_22 (by decide) ?_
      obtain ⟨q2, hq2, hf⟩ := bnd hf
      refine aw_cVv (rest := []) C0 hW (lv_fix (by decide)) (cel_4 kd19) rfl (c_X4_release 1  hq2) (cw_X4_46 hts ⟨Nat.le_of_ble_eq_true rfl, Nat.le_of_ble_eq_true rfl⟩) rfl hl.1 rfl (Nat.le_of_ble_eq_true rfl) ⟨Nat.zero_le _, Nat.zero_le _⟩ dX4_finish_23 (fun H locs hW => ?_)
      refine lv_iconst (v := 1) hx hb dX4_finish_26 (by decide) ?_
      have hz := Option.some.inj hf
      have hzV := congrArg (fun z : Int32 × Mem => z.1) hz
      have hzI := congrArg (fun z : Int32 × Mem => z.2) hz
      exact aw_zret C0 hW rfl hzV hzI rfl dX4_finish_27
    · have hf := iff_ hc hf
      refine lv_iconst (v := 0) hx hb dX4_finish_19 (by decide) ?_
      have hz := Option.some.inj hf
      have hzV := congrArg (fun z : Int32 × Mem => z.1) hz
      have hzI := congrArg (fun z : Int32 × Mem => z.2) hz
      exact aw_zret C0 hW rfl hzV hzI rfl dX4_finish_20
def f_X8_removeRows_L31 (x1 : Int32) (x2 : Int32) (y3 : Int32) (y4 : Int32) : Nat → Int32 → Mem → Option (Mem)
  | 0, _, _ => none
  | n + 1, w5, I =>
    if 4 ≤ w5 then (
      some I
    ) else (
      (f_X8_place x1 y3 w5).bind fun q3 =>
      (f_X8_place x1 y4 w5).bind fun q4 =>
      (rd I 2 128 q4).bind fun v5 =>
      (wr I 2 128 q3 v5).bind fun I6 =>
      f_X8_removeRows_L31 x1 x2 y3 y4 n (w5 + 1) I6
    )
def f_X8_removeRows_L5 (x1 : Int32) (x2 : Int32) : Nat → Int32 → Int32 → Mem → Option (Int32 × Mem)
  | 0, _, _, _ => none
  | n + 1, w3, w4, I =>
    (rd I 3 2 x1).bind fun v1 =>
    if v1 ≤ w4 then (
      some (w3, I)
    ) else (
      (f_X8_hasBit x2 w4).bind fun q2 =>
      if q2 = 0 then (
        (f_X8_removeRows_L31 x1 x2 w3 w4 fuel 0 I).bind fun q7 =>
        f_X8_removeRows_L5 x1 x2 n (w3 + 1) (w4 + 1) q7
      ) else (
        f_X8_removeRows_L5 x1 x2 n w3 (w4 + 1) I
      )
    )
def f_X8_removeRows (x1 : Int32) (x2 : Int32) (I : Mem) : Option (Mem) :=
  (f_X8_removeRows_L5 x1 x2 fuel 0 0 I).bind fun q8 =>
  (wr q8.2 3 2 x1 q8.1).bind fun I9 =>
  some I9
abbrev rmX8_removeRows : Room := { frames := 1, cells := 0, slots := 0, locals := 22 }
set_option maxHeartbeats 4000000 in
set_option maxRecDepth 100000 in
theorem c_X8_removeRows {l : Launch} {g : Gam} {I : Mem} {R : Rem} {P : Pool} {Z : Zed} (x1 : Int32) (x2 : Int32)  {z : Mem} (hf : f_X8_removeRows x1 x2 I = some z) : Met l yX8_removeRows (Cond.code yX8_removeRows cX8_removeRows 6 none :: GT) rmX8_removeRows (va_Pc [.ref (g.2.2 + 0), .int x1, .int x2] (PW g I R P Z)) (QV g z R P Z) 0 0 (AA g) := by
  refine aw_ofW (lv0 := [(0, .ref (g.2.2 + 0)), (1, .int x1), (2, .int x2)]) (by decide) (by exact Nat.le_of_ble_eq_true rfl) (by rfl) (fun p0 e s m args below meth c ls C0 hl hW => ?_)
  have C0 : CX g p0 s m args meth c RX8 cX8_removeRows 6 none := C0
  have hx := C0.1; have hb := C0.2.1; have hown := C0.2.2.2.2.1; have hts := C0.2.2.2.2.2.1; have hKS := C0.2.2.2.2.2.2.1
  have L31 : ∀ (y3 : Int32) (y4 : Int32) (n : Nat) (w5 : Int32) (I : Mem) (H : Heap) (locs : List Loc) (ls : Array Slot) (o : Mem), f_X8_removeRows_L31 x1 x2 y3 y4 n w5 I = some o → Wd g I R P Z s.heap H locs → lv_has ls 6 [(0, .ref (g.2.2 + 0)), (1, .int x1), (2, .int x2), (3, .int y3), (4, .int y4), (5, .int w5)] → (∀ (H : Heap) (locs : List Loc) (ls : Array Slot), Wd g o R P Z s.heap H locs → lv_has ls 6 [(0, .ref (g.2.2 + 0)), (1, .int x1), (2, .int x2), (3, .int y3), (4, .int y4)] → W p0 l e rmX8_removeRows s m args below meth c H locs 0 0 (MQ below (QV g z R P Z) args s 0 0 (AA g)) (F0 m 74 ls [])) → W p0 l e rmX8_removeRows s m args below meth c H locs 0 0 (MQ below (QV g z R P Z) args s 0 0 (AA g)) (F0 m 31 ls []) := by
    intro y3 y4 n
    induction n with
    | zero => intro w5 I H locs ls o hf; cases hf
    | succ n ih =>
      intro w5 I H locs ls o hf hW hl hK
      rw [f_X8_removeRows_L31] at hf
      refine lv_iload hx hb dX8_removeRows_31 (lv_at hl 5 rfl) ?_
      refine lv_iconst (v := 4) hx hb dX8_removeRows_33 (by decide) ?_
      refine lv_icmp_ge (tgt := 74) hx hb dX8_removeRows_34 rfl (fun hc => ?_) (fun hc => ?_)
      · have hf := ift hc hf
        have ho := Option.some.inj hf
        subst ho
        exact hK H locs ls hW (lv_sub hl [0, 1, 2, 3, 4] rfl)
      · have hf := iff_ hc hf
        refine lv_aload_n hx hb dX8_removeRows_37 rfl (lv_at hl 0 rfl) ?_
        refine aw_get (v := .ref (g.2.2 + 1)) C0 hW (lv_fix (by decide)) (cel_7 kd0) rfl inG7 0 (by decide) wd13 rfl rfl dX8_removeRows_38 ?_
        refine aw_get (v := .ref (g.2.2 + 2)) C0 hW (lv_fix (by decide)) (cel_6 kd1) rfl inG6 0 (by decide) wd30 rfl rfl dX8_removeRows_41 ?_
        refine lv_iload_n hx hb dX8_removeRows_44 rfl (lv_at hl 1 rfl) ?_
        refine lv_iload_n hx hb dX8_removeRows_45 rfl (lv_at hl 3 rfl) ?_
        refine lv_iload hx hb dX8_removeRows_46 (lv_at hl 5 rfl) ?_
        obtain ⟨q3, hq3, hf⟩ := bnd hf
        refine aw_cSi (rest := [.ref (g.2.2 + 2)]) C0 hW (c_X8_place x1 y3 w5  hq3) (cw_X8_105 hts ⟨Nat.le_of_ble_eq_true rfl, Nat.le_of_ble_eq_true rfl⟩) rfl hl.1 rfl (Nat.le_of_ble_eq_true rfl) ⟨Nat.zero_le _, Nat.zero_le _⟩ dX8_removeRows_48 (fun H locs hW => ?_)
        refine lv_aload_n hx hb dX8_removeRows_51 rfl (lv_at hl 0 rfl) ?_
        refine aw_get (v := .ref (g.2.2 + 1)) C0 hW (lv_fix (by decide)) (cel_7 kd0) rfl inG7 0 (by decide) wd13 rfl rfl dX8_removeRows_52 ?_
        refine aw_get (v := .ref (g.2.2 + 2)) C0 hW (lv_fix (by decide)) (cel_6 kd1) rfl inG6 0 (by decide) wd30 rfl rfl dX8_removeRows_55 ?_
        refine lv_iload_n hx hb dX8_removeRows_58 rfl (lv_at hl 1 rfl) ?_
        refine lv_iload hx hb dX8_removeRows_59 (lv_at hl 4 rfl) ?_
        refine lv_iload hx hb dX8_removeRows_61 (lv_at hl 5 rfl) ?_
        obtain ⟨q4, hq4, hf⟩ := bnd hf
        refine aw_cSi (rest := [.ref (g.2.2 + 2), .int q3, .ref (g.2.2 + 2)]) C0 hW (c_X8_place x1 y4 w5  hq4) (cw_X8_105 hts ⟨Nat.le_of_ble_eq_true rfl, Nat.le_of_ble_eq_true rfl⟩) rfl hl.1 rfl (Nat.le_of_ble_eq_true rfl) ⟨Nat.zero_le _, Nat.zero_le _⟩ dX8_removeRows_63 (fun H locs hW => ?_)
        obtain ⟨v5, hv5, hf⟩ := bnd hf
        refine aw_iald C0 hW kd2 ln2 hv5 dX8_removeRows_66 ?_
        obtain ⟨I6, hI6, hf⟩ := bnd hf
        refine aw_iast C0 hW kd2 ln2 hI6 dX8_removeRows_67 (fun H locs hW => ?_)
        refine lv_iinc (k := 5) (v := w5 + 1) (lv' := [(5, .int (w5 + 1)), (0, .ref (g.2.2 + 0)), (1, .int x1), (2, .int x2), (3, .int y3), (4, .int y4)]) hx hb dX8_removeRows_68 hl rfl (congrArg (fun t => w5 + t) (by decide : Int32.ofInt 1 = 1)) (Nat.le_of_ble_eq_true rfl) rfl (fun ls hl => ?_)
        refine lv_goto (tgt := 31) hx hb dX8_removeRows_71 rfl ?_
        exact ih _ _ H locs ls o hf hW (lv_sub hl [1, 2, 3, 4, 5, 0] rfl) hK
  have L5 : ∀ (n : Nat) (w3 : Int32) (w4 : Int32) (I : Mem) (H : Heap) (locs : List Loc) (ls : Array Slot) (o : Int32 × Mem), f_X8_removeRows_L5 x1 x2 n w3 w4 I = some o → Wd g I R P Z s.heap H locs → lv_has ls 6 [(0, .ref (g.2.2 + 0)), (1, .int x1), (2, .int x2), (3, .int w3), (4, .int w4)] → (∀ (H : Heap) (locs : List Loc) (ls : Array Slot), Wd g o.2 R P Z s.heap H locs → lv_has ls 6 [(0, .ref (g.2.2 + 0)), (1, .int x1), (3, .int o.1)] → W p0 l e rmX8_removeRows s m args below meth c H locs 0 0 (MQ below (QV g z R P Z) args s 0 0 (AA g)) (F0 m 83 ls [])) → W p0 l e rmX8_removeRows s m args below meth c H locs 0 0 (MQ below (QV g z R P Z) args s 0 0 (AA g)) (F0 m 5 ls []) := by
    intro n
    induction n with
    | zero => intro w3 w4 I H locs ls o hf; cases hf
    | succ n ih =>
      intro w3 w4 I H locs ls o hf hW hl hK
      rw [f_X8_removeRows_L5] at hf
      refine lv_iload hx hb dX8_removeRows_5 (lv_at hl 4 rfl) ?_
      refine lv_aload_n hx hb dX8_removeRows_7 rfl (lv_at hl 0 rfl) ?_
      refine aw_get (v := .ref (g.2.2 + 1)) C0 hW (lv_fix (by decide)) (cel_7 kd0) rfl inG7 0 (by decide) wd13 rfl rfl dX8_removeRows_8 ?_
      refine aw_get (v := .ref (g.2.2 + 3)) C0 hW (lv_fix (by decide)) (cel_6 kd1) rfl inG6 1 (by decide) wd37 rfl rfl dX8_removeRows_11 ?_
      refine lv_iload_n hx hb dX8_removeRows_14 rfl (lv_at hl 1 rfl) ?_
      obtain ⟨v1, hv1, hf⟩ := bnd hf
      refine aw_iald C0 hW kd3 ln3 hv1 dX8_removeRows_15 ?_
      refine lv_icmp_ge (tgt := 83) hx hb dX8_removeRows_16 rfl (fun hc => ?_) (fun hc => ?_)
      · have hf := ift hc hf
        have ho := Option.some.inj hf
        subst ho
        exact hK H locs ls hW (lv_sub hl [0, 1, 3] rfl)
      · have hf := iff_ hc hf
        refine lv_iload_n hx hb dX8_removeRows_19 rfl (lv_at hl 2 rfl) ?_
        refine lv_iload hx hb dX8_removeRows_20 (lv_at hl 4 rfl) ?_
        obtain ⟨q2, hq2, hf⟩ := bnd hf
        refine aw_cSi (rest := []) C0 hW (c_X8_hasBit x2 w4  hq2) (cw_X8_185 hts ⟨Nat.le_of_ble_eq_true rfl, Nat.le_of_ble_eq_true rfl⟩) rfl hl.1 rfl (Nat.le_of_ble_eq_true rfl) ⟨Nat.zero_le _, Nat.zero_le _⟩ dX8_removeRows_22 (fun H locs hW => ?_)
        refine lv_if_ne (tgt := 77) hx hb dX8_removeRows_25 rfl (fun hc => ?_) (fun hc => ?_)
        · have hf := iff_ hc hf
          refine lv_iinc (k := 4) (v := w4 + 1) (lv' := [(4, .int (w4 + 1)), (0, .ref (g.2.2 + 0)), (1, .int x1), (2, .int x2), (3, .int w3)]) hx hb dX8_removeRows_77 hl rfl (congrArg (fun t => w4 + t) (by decide : Int32.ofInt 1 = 1)) (Nat.le_of_ble_eq_true rfl) rfl (fun ls hl => ?_)
          refine lv_goto (tgt := 5) hx hb dX8_removeRows_80 rfl ?_
          exact ih _ _ _ H locs ls o hf hW (lv_sub hl [1, 2, 3, 4, 0] rfl) hK
        · have hf := ift hc hf
          refine lv_iconst (v := 0) hx hb dX8_removeRows_28 (by decide) ?_
          refine lv_istore (lv' := [(5, .int 0), (0, .ref (g.2.2 + 0)), (1, .int x1), (2, .int x2), (3, .int w3), (4, .int w4)]) hx hb dX8_removeRows_29 hl (Nat.le_of_ble_eq_true rfl) rfl (fun ls hl => ?_)
          obtain ⟨q7, hq7, hf⟩ := bnd hf
          refine L31 w3 w4 fuel 0 I H locs ls _ hq7 hW (lv_sub hl [1, 2, 3, 4, 5, 0] rfl) (fun H locs ls hW hl => ?_)
          refine lv_iinc (k := 3) (v := w3 + 1) (lv' := [(3, .int (w3 + 1)), (0, .ref (g.2.2 + 0)), (1, .int x1), (2, .int x2), (4, .int w4)]) hx hb dX8_removeRows_74 hl rfl (congrArg (fun t => w3 + t) (by decide : Int32.ofInt 1 = 1)) (Nat.le_of_ble_eq_true rfl) rfl (fun ls hl => ?_)
          refine lv_iinc (k := 4) (v := w4 + 1) (lv' := [(4, .int (w4 + 1)), (3, .int (w3 + 1)), (0, .ref (g.2.2 + 0)), (1, .int x1), (2, .int x2)]) hx hb dX8_removeRows_77 hl rfl (congrArg (fun t => w4 + t) (by decide : Int32.ofInt 1 = 1)) (Nat.le_of_ble_eq_true rfl) rfl (fun ls hl => ?_)
          refine lv_goto (tgt := 5) hx hb dX8_removeRows_80 rfl ?_
          exact ih _ _ _ H locs ls o hf hW (lv_sub hl [2, 3, 4, 1, 0] rfl) hK
  unfold f_X8_removeRows at hf
  obtain ⟨H, hH⟩ : ∃ H, H = s.heap := ⟨_, rfl⟩
  obtain ⟨locs, hlc⟩ : ∃ q : List Loc, q = [] := ⟨_, rfl⟩
  rw [show W p0 l e rmX8_removeRows s m args below meth c s.heap [] 0 0 (MQ below (QV g z R P Z) args s 0 0 (AA g)) (F0 m 0 ls []) = W p0 l e rmX8_removeRows s m args below meth c H locs 0 0 (MQ below (QV g z R P Z) args s 0 0 (AA g)) (F0 m 0 ls []) by rw [hH, hlc]]
  have hW : Wd g I R P Z s.heap H locs := by rw [hH, hlc]; exact hW
  refine lv_iconst (v := 0) hx hb dX8_removeRows_0 (by decide) ?_
  refine lv_istore_n (lv' := [(3, .int 0), (0, .ref (g.2.2 + 0)), (1, .int x1), (2, .int x2)]) hx hb dX8_removeRows_1 rfl hl (Nat.le_of_ble_eq_true rfl) rfl (fun ls hl => ?_)
  refine lv_iconst (v := 0) hx hb dX8_removeRows_2 (by decide) ?_
  refine lv_istore (lv' := [(4, .int 0), (3, .int 0), (0, .ref (g.2.2 + 0)), (1, .int x1), (2, .int x2)]) hx hb dX8_removeRows_3 hl (Nat.le_of_ble_eq_true rfl) rfl (fun ls hl => ?_)
  obtain ⟨q8, hq8, hf⟩ := bnd hf
  refine L5  fuel 0 0 I H locs ls _ hq8 hW (lv_sub hl [2, 3, 4, 1, 0] rfl) (fun H locs ls hW hl => ?_)
  refine lv_aload_n hx hb dX8_removeRows_83 rfl (lv_at hl 0 rfl) ?_
  refine aw_get (v := .ref (g.2.2 + 1)) C0 hW (lv_fix (by decide)) (cel_7 kd0) rfl inG7 0 (by decide) wd13 rfl rfl dX8_removeRows_84 ?_
  refine aw_get (v := .ref (g.2.2 + 3)) C0 hW (lv_fix (by decide)) (cel_6 kd1) rfl inG6 1 (by decide) wd37 rfl rfl dX8_removeRows_87 ?_
  refine lv_iload_n hx hb dX8_removeRows_90 rfl (lv_at hl 1 rfl) ?_
  refine lv_iload_n hx hb dX8_removeRows_91 rfl (lv_at hl 2 rfl) ?_
  obtain ⟨I9, hI9, hf⟩ := bnd hf
  refine aw_iast C0 hW kd3 ln3 hI9 dX8_removeRows_92 (fun H locs hW => ?_)
  have hz := Option.some.inj hf
  exact aw_vret C0 hW hz rfl dX8_removeRows_93
def f_X1_depthOf_L6 (o1 : Option Nat) (P : Pool) (R : Rem) : Nat → Int32 → Mem → Option (Mem)
  | 0, _, _ => none
  | n + 1, w2, I =>
    o1.bind fun k2 =>
    (f_X2_size k2 P R).bind fun q3 =>
    if q3 ≤ w2 then (
      some I
    ) else (
      o1.bind fun k4 =>
      (f_X2_step k4 w2 P R I).bind fun q5 =>
      (f_X7_signOf q5).bind fun q6 =>
      if q6 = 33 then (
        (f_X3_pop 12 I).bind fun q7 =>
        (f_X3_push 12 (q7.1 + 1) P q7.2).bind fun q8 =>
        f_X1_depthOf_L6 o1 P R n (w2 + 1) q8
      ) else (
      if q6 = 38 then (
        (f_X3_pop 12 I).bind fun q9 =>
        (f_X3_pop 12 q9.2).bind fun q10 =>
        (f_X3_push 12 ((jmax q9.1 q10.1) + 1) P q10.2).bind fun q11 =>
        f_X1_depthOf_L6 o1 P R n (w2 + 1) q11
      ) else (
      if q6 = 124 then (
        (f_X3_pop 12 I).bind fun q12 =>
        (f_X3_pop 12 q12.2).bind fun q13 =>
        (f_X3_push 12 ((jmax q12.1 q13.1) + 1) P q13.2).bind fun q14 =>
        f_X1_depthOf_L6 o1 P R n (w2 + 1) q14
      ) else (
        (f_X3_push 12 1 P I).bind fun q15 =>
        f_X1_depthOf_L6 o1 P R n (w2 + 1) q15
      )))
    )
def f_X1_depthOf (o1 : Option Nat) (P : Pool) (R : Rem) (I : Mem) : Option (Int32 × Mem) :=
  (f_X1_start I).bind fun q1 =>
  (f_X1_depthOf_L6 o1 P R fuel 0 q1).bind fun q16 =>
  (f_X3_top 12 q16).bind fun q17 =>
  some (q17, q16)
abbrev rmX1_depthOf : Room := { frames := 2, cells := 0, slots := 0, locals := 40 }
set_option maxHeartbeats 4000000 in
set_option maxRecDepth 100000 in
theorem c_X1_depthOf {l : Launch} {g : Gam} {I : Mem} {R : Rem} {P : Pool} {Z : Zed} (o1 : Option Nat) (ho1 : ∀ k, o1 = some k → Kd P k = 2) {z : Int32 × Mem} (hf : f_X1_depthOf o1 P R I = some z) : Met l yX1_depthOf (Cond.code yX1_depthOf cX1_depthOf 3 (some .int) :: GT) rmX1_depthOf (va_Pc [.ref (g.2.2 + 11), va_rf (o1.map (fun y => g.2.2 + y))] (PW g I R P Z)) (QI g z.1 z.2 R P Z) 0 0 (AA g) := by
  refine aw_ofW (lv0 := [(0, .ref (g.2.2 + 11)), (1, va_rf (o1.map (fun y => g.2.2 + y)))]) (by decide) (by cases o1 <;> exact Nat.le_of_ble_eq_true rfl) (by cases o1 <;> rfl) (fun p0 e s m args below meth c ls C0 hl hW => ?_)
  have C0 : CX g p0 s m args meth c RX1 cX1_depthOf 3 (some .int) := C0
  have hx := C0.1; have hb := C0.2.1; have hown := C0.2.2.2.2.1; have hts := C0.2.2.2.2.2.1; have hKS := C0.2.2.2.2.2.2.1
  have L6 : ∀ (R : Rem) (n : Nat) (w2 : Int32) (I : Mem) (H : Heap) (locs : List Loc) (ls : Array Slot) (o : Mem), f_X1_depthOf_L6 o1 P R n w2 I = some o → Wd g I R P Z s.heap H locs → lv_has ls 3 [(0, .ref (g.2.2 + 11)), (1, va_rf (o1.map (fun y => g.2.2 + y))), (2, .int w2)] → (∀ (H : Heap) (locs : List Loc) (ls : Array Slot), Wd g o R P Z s.heap H locs → lv_has ls 3 [(0, .ref (g.2.2 + 11))] → W p0 l e rmX1_depthOf s m args below meth c H locs 0 0 (MQ below (QI g z.1 z.2 R P Z) args s 0 0 (AA g)) (F0 m 118 ls [])) → W p0 l e rmX1_depthOf s m args below meth c H locs 0 0 (MQ below (QI g z.1 z.2 R P Z) args s 0 0 (AA g)) (F0 m 6 ls []) := by
    intro R n
    induction n with
    | zero => intro w2 I H locs ls o hf; cases hf
    | succ n ih =>
      intro w2 I H locs ls o hf hW hl hK
      rw [f_X1_depthOf_L6] at hf
      refine lv_iload_n hx hb dX1_depthOf_6 rfl (lv_at hl 2 rfl) ?_
      refine aw_ald_n (x := o1) C0 dX1_depthOf_7 rfl (lv_at hl 1 rfl) ?_
      obtain ⟨k2, ek2, hf⟩ := bnd hf
      have hk2 := ho1 k2 ek2
      refine W.eq (g2 := F0 m 8 ls ([.ref (g.2.2 + k2), .int w2])) (by rw [ek2]; rfl) ?_
      obtain ⟨q3, hq3, hf⟩ := bnd hf
      refine aw_cVi (rest := [.int w2]) C0 hW (lv_kd hW.1.2.2 hk2 (by decide)) (cel_2 hk2) rfl (c_X2_size k2 hk2 hq3) (cw_X1_22 hts ⟨Nat.le_of_ble_eq_true rfl, Nat.le_of_ble_eq_true rfl⟩) rfl hl.1 rfl (Nat.le_of_ble_eq_true rfl) ⟨Nat.zero_le _, Nat.zero_le _⟩ dX1_depthOf_8 (fun H locs hW => ?_)
      refine lv_icmp_ge (tgt := 118) hx hb dX1_depthOf_11 rfl (fun hc => ?_) (fun hc => ?_)
      · have hf := ift hc hf
        have ho := Option.some.inj hf
        subst ho
        exact hK H locs ls hW (lv_sub hl [0] rfl)
      · have hf := iff_ hc hf
        refine aw_ald_n (x := o1) C0 dX1_depthOf_14 rfl (lv_at hl 1 rfl) ?_
        refine lv_iload_n hx hb dX1_depthOf_15 rfl (lv_at hl 2 rfl) ?_
        obtain ⟨k4, ek4, hf⟩ := bnd hf
        have hk4 := ho1 k4 ek4
        refine W.eq (g2 := F0 m 16 ls ([.int w2, .ref (g.2.2 + k4)])) (by rw [ek4]; rfl) ?_
        obtain ⟨q5, hq5, hf⟩ := bnd hf
        refine aw_cVi (rest := []) C0 hW (lv_kd hW.1.2.2 hk4 (by decide)) (cel_2 hk4) rfl (c_X2_step k4 w2 hk4 hq5) (cw_X1_28 hts ⟨Nat.le_of_ble_eq_true rfl, Nat.le_of_ble_eq_true rfl⟩) rfl hl.1 rfl (Nat.le_of_ble_eq_true rfl) ⟨Nat.zero_le _, Nat.zero_le _⟩ dX1_depthOf_16 (fun H locs hW => ?_)
        obtain ⟨q6, hq6, hf⟩ := bnd hf
        refine aw_cSi (rest := []) C0 hW (c_X7_signOf q5  hq6) (cw_X1_32 hts ⟨Nat.le_of_ble_eq_true rfl, Nat.le_of_ble_eq_true rfl⟩) rfl hl.1 rfl (Nat.le_of_ble_eq_true rfl) ⟨Nat.zero_le _, Nat.zero_le _⟩ dX1_depthOf_19 (fun H locs hW => ?_)
        by_cases hs1 : q6 = 33
        · have hf := ift hs1 hf
          refine lv_lookup (off := 34) (tgt := 56) hx hb dX1_depthOf_22 (by decide) (by rw [hs1]; decide) rfl ?_
          refine lv_aload_n hx hb dX1_depthOf_56 rfl (lv_at hl 0 rfl) ?_
          refine aw_get (v := .ref (g.2.2 + 12)) C0 hW (lv_fix (by decide)) (cel_1 kd11) rfl inG1 0 (by decide) wd16 rfl rfl dX1_depthOf_57 ?_
          refine lv_aload_n hx hb dX1_depthOf_60 rfl (lv_at hl 0 rfl) ?_
          refine aw_get (v := .ref (g.2.2 + 12)) C0 hW (lv_fix (by decide)) (cel_1 kd11) rfl inG1 0 (by decide) wd16 rfl rfl dX1_depthOf_61 ?_
          obtain ⟨q7, hq7, hf⟩ := bnd hf
          refine aw_cVi (rest := [.ref (g.2.2 + 12)]) C0 hW (lv_fix (by decide)) (cel_3 kd12) rfl (c_X3_pop 12 kd12 hq7) (cw_X1_38 hts ⟨Nat.le_of_ble_eq_true rfl, Nat.le_of_ble_eq_true rfl⟩) rfl hl.1 rfl (Nat.le_of_ble_eq_true rfl) ⟨Nat.zero_le _, Nat.zero_le _⟩ dX1_depthOf_64 (fun H locs hW => ?_)
          refine lv_iconst (v := 1) hx hb dX1_depthOf_67 (by decide) ?_
          refine lv_iadd hx hb dX1_depthOf_68 ?_
          obtain ⟨q8, hq8, hf⟩ := bnd hf
          refine aw_cVv (rest := []) C0 hW (lv_fix (by decide)) (cel_3 kd12) rfl (c_X3_push 12 (q7.1 + 1) kd12 hq8) (cw_X1_41 hts ⟨Nat.le_of_ble_eq_true rfl, Nat.le_of_ble_eq_true rfl⟩) rfl hl.1 rfl (Nat.le_of_ble_eq_true rfl) ⟨Nat.zero_le _, Nat.zero_le _⟩ dX1_depthOf_69 (fun H locs hW => ?_)
          refine lv_goto (tgt := 112) hx hb dX1_depthOf_72 rfl ?_
          refine lv_iinc (k := 2) (v := w2 + 1) (lv' := [(2, .int (w2 + 1)), (0, .ref (g.2.2 + 11)), (1, va_rf (o1.map (fun y => g.2.2 + y)))]) hx hb dX1_depthOf_112 hl rfl (congrArg (fun t => w2 + t) (by decide : Int32.ofInt 1 = 1)) (Nat.le_of_ble_eq_true rfl) (by cases o1 <;> rfl) (fun ls hl => ?_)
          refine lv_goto (tgt := 6) hx hb dX1_depthOf_115 rfl ?_
          exact ih _ _ H locs ls o hf hW (lv_sub hl [1, 2, 0] rfl) hK
        have hf := iff_ hs1 hf
        by_cases hs2 : q6 = 38
        · have hf := ift hs2 hf
          refine lv_lookup (off := 53) (tgt := 75) hx hb dX1_depthOf_22 (by decide) (by rw [hs2]; decide) rfl ?_
          refine lv_aload_n hx hb dX1_depthOf_75 rfl (lv_at hl 0 rfl) ?_
          refine aw_get (v := .ref (g.2.2 + 12)) C0 hW (lv_fix (by decide)) (cel_1 kd11) rfl inG1 0 (by decide) wd16 rfl rfl dX1_depthOf_76 ?_
          refine lv_aload_n hx hb dX1_depthOf_79 rfl (lv_at hl 0 rfl) ?_
          refine aw_get (v := .ref (g.2.2 + 12)) C0 hW (lv_fix (by decide)) (cel_1 kd11) rfl inG1 0 (by decide) wd16 rfl rfl dX1_depthOf_80 ?_
          obtain ⟨q9, hq9, hf⟩ := bnd hf
          refine aw_cVi (rest := [.ref (g.2.2 + 12)]) C0 hW (lv_fix (by decide)) (cel_3 kd12) rfl (c_X3_pop 12 kd12 hq9) (cw_X1_38 hts ⟨Nat.le_of_ble_eq_true rfl, Nat.le_of_ble_eq_true rfl⟩) rfl hl.1 rfl (Nat.le_of_ble_eq_true rfl) ⟨Nat.zero_le _, Nat.zero_le _⟩ dX1_depthOf_83 (fun H locs hW => ?_)
          refine lv_aload_n hx hb dX1_depthOf_86 rfl (lv_at hl 0 rfl) ?_
          refine aw_get (v := .ref (g.2.2 + 12)) C0 hW (lv_fix (by decide)) (cel_1 kd11) rfl inG1 0 (by decide) wd16 rfl rfl dX1_depthOf_87 ?_
          obtain ⟨q10, hq10, hf⟩ := bnd hf
          refine aw_cVi (rest := [.int q9.1, .ref (g.2.2 + 12)]) C0 hW (lv_fix (by decide)) (cel_3 kd12) rfl (c_X3_pop 12 kd12 hq10) (cw_X1_38 hts ⟨Nat.le_of_ble_eq_true rfl, Nat.le_of_ble_eq_true rfl⟩) rfl hl.1 rfl (Nat.le_of_ble_eq_true rfl) ⟨Nat.zero_le _, Nat.zero_le _⟩ dX1_depthOf_90 (fun H locs hW => ?_)
          refine aw_jmax (rest := [.ref (g.2.2 + 12)]) C0 hl.1 wd24 wd25 wd22 wd26 (Nat.le_of_ble_eq_true rfl) (Nat.le_of_ble_eq_true rfl) (Nat.zero_le _) (Nat.zero_le _) dX1_depthOf_93 ?_
          refine lv_iconst (v := 1) hx hb dX1_depthOf_96 (by decide) ?_
          refine lv_iadd hx hb dX1_depthOf_97 ?_
          obtain ⟨q11, hq11, hf⟩ := bnd hf
          refine aw_cVv (rest := []) C0 hW (lv_fix (by decide)) (cel_3 kd12) rfl (c_X3_push 12 ((jmax q9.1 q10.1) + 1) kd12 hq11) (cw_X1_41 hts ⟨Nat.le_of_ble_eq_true rfl, Nat.le_of_ble_eq_true rfl⟩) rfl hl.1 rfl (Nat.le_of_ble_eq_true rfl) ⟨Nat.zero_le _, Nat.zero_le _⟩ dX1_depthOf_98 (fun H locs hW => ?_)
          refine lv_goto (tgt := 112) hx hb dX1_depthOf_101 rfl ?_
          refine lv_iinc (k := 2) (v := w2 + 1) (lv' := [(2, .int (w2 + 1)), (0, .ref (g.2.2 + 11)), (1, va_rf (o1.map (fun y => g.2.2 + y)))]) hx hb dX1_depthOf_112 hl rfl (congrArg (fun t => w2 + t) (by decide : Int32.ofInt 1 = 1)) (Nat.le_of_ble_eq_true rfl) (by cases o1 <;> rfl) (fun ls hl => ?_)
          refine lv_goto (tgt := 6) hx hb dX1_depthOf_115 rfl ?_
          exact ih _ _ H locs ls o hf hW (lv_sub hl [1, 2, 0] rfl) hK
        have hf := iff_ hs2 hf
        by_cases hs3 : q6 = 124
        · have hf := ift hs3 hf
          refine lv_lookup (off := 53) (tgt := 75) hx hb dX1_depthOf_22 (by decide) (by rw [hs3]; decide) rfl ?_
          refine lv_aload_n hx hb dX1_depthOf_75 rfl (lv_at hl 0 rfl) ?_
          refine aw_get (v := .ref (g.2.2 + 12)) C0 hW (lv_fix (by decide)) (cel_1 kd11) rfl inG1 0 (by decide) wd16 rfl rfl dX1_depthOf_76 ?_
          refine lv_aload_n hx hb dX1_depthOf_79 rfl (lv_at hl 0 rfl) ?_
          refine aw_get (v := .ref (g.2.2 + 12)) C0 hW (lv_fix (by decide)) (cel_1 kd11) rfl inG1 0 (by decide) wd16 rfl rfl dX1_depthOf_80 ?_
          obtain ⟨q12, hq12, hf⟩ := bnd hf
          refine aw_cVi (rest := [.ref (g.2.2 + 12)]) C0 hW (lv_fix (by decide)) (cel_3 kd12) rfl (c_X3_pop 12 kd12 hq12) (cw_X1_38 hts ⟨Nat.le_of_ble_eq_true rfl, Nat.le_of_ble_eq_true rfl⟩) rfl hl.1 rfl (Nat.le_of_ble_eq_true rfl) ⟨Nat.zero_le _, Nat.zero_le _⟩ dX1_depthOf_83 (fun H locs hW => ?_)
          refine lv_aload_n hx hb dX1_depthOf_86 rfl (lv_at hl 0 rfl) ?_
          refine aw_get (v := .ref (g.2.2 + 12)) C0 hW (lv_fix (by decide)) (cel_1 kd11) rfl inG1 0 (by decide) wd16 rfl rfl dX1_depthOf_87 ?_
          obtain ⟨q13, hq13, hf⟩ := bnd hf
          refine aw_cVi (rest := [.int q12.1, .ref (g.2.2 + 12)]) C0 hW (lv_fix (by decide)) (cel_3 kd12) rfl (c_X3_pop 12 kd12 hq13) (cw_X1_38 hts ⟨Nat.le_of_ble_eq_true rfl, Nat.le_of_ble_eq_true rfl⟩) rfl hl.1 rfl (Nat.le_of_ble_eq_true rfl) ⟨Nat.zero_le _, Nat.zero_le _⟩ dX1_depthOf_90 (fun H locs hW => ?_)
          refine aw_jmax (rest := [.ref (g.2.2 + 12)]) C0 hl.1 wd24 wd25 wd22 wd26 (Nat.le_of_ble_eq_true rfl) (Nat.le_of_ble_eq_true rfl) (Nat.zero_le _) (Nat.zero_le _) dX1_depthOf_93 ?_
          refine lv_iconst (v := 1) hx hb dX1_depthOf_96 (by decide) ?_
          refine lv_iadd hx hb dX1_depthOf_97 ?_
          obtain ⟨q14, hq14, hf⟩ := bnd hf
          refine aw_cVv (rest := []) C0 hW (lv_fix (by decide)) (cel_3 kd12) rfl (c_X3_push 12 ((jmax q12.1 q13.1) + 1) kd12 hq14) (cw_X1_41 hts ⟨Nat.le_of_ble_eq_true rfl, Nat.le_of_ble_eq_true rfl⟩) rfl hl.1 rfl (Nat.le_of_ble_eq_true rfl) ⟨Nat.zero_le _, Nat.zero_le _⟩ dX1_depthOf_98 (fun H locs hW => ?_)
          refine lv_goto (tgt := 112) hx hb dX1_depthOf_101 rfl ?_
          refine lv_iinc (k := 2) (v := w2 + 1) (lv' := [(2, .int (w2 + 1)), (0, .ref (g.2.2 + 11)), (1, va_rf (o1.map (fun y => g.2.2 + y)))]) hx hb dX1_depthOf_112 hl rfl (congrArg (fun t => w2 + t) (by decide : Int32.ofInt 1 = 1)) (Nat.le_of_ble_eq_true rfl) (by cases o1 <;> rfl) (fun ls hl => ?_)
          refine lv_goto (tgt := 6) hx hb dX1_depthOf_115 rfl ?_
          exact ih _ _ H locs ls o hf hW (lv_sub hl [1, 2, 0] rfl) hK
        have hf := iff_ hs3 hf
        refine lv_lookup (off := 82) (tgt := 104) hx hb dX1_depthOf_22 (by decide) (lko_c (i32_ne (n := 33) (by decide) hs1) (lko_c (i32_ne (n := 38) (by decide) hs2) (lko_c (i32_ne (n := 124) (by decide) hs3) rfl))) rfl ?_
        refine lv_aload_n hx hb dX1_depthOf_104 rfl (lv_at hl 0 rfl) ?_
        refine aw_get (v := .ref (g.2.2 + 12)) C0 hW (lv_fix (by decide)) (cel_1 kd11) rfl inG1 0 (by decide) wd16 rfl rfl dX1_depthOf_105 ?_
        refine lv_iconst (v := 1) hx hb dX1_depthOf_108 (by decide) ?_
        obtain ⟨q15, hq15, hf⟩ := bnd hf
        refine aw_cVv (rest := []) C0 hW (lv_fix (by decide)) (cel_3 kd12) rfl (c_X3_push 12 1 kd12 hq15) (cw_X1_41 hts ⟨Nat.le_of_ble_eq_true rfl, Nat.le_of_ble_eq_true rfl⟩) rfl hl.1 rfl (Nat.le_of_ble_eq_true rfl) ⟨Nat.zero_le _, Nat.zero_le _⟩ dX1_depthOf_109 (fun H locs hW => ?_)
        refine lv_iinc (k := 2) (v := w2 + 1) (lv' := [(2, .int (w2 + 1)), (0, .ref (g.2.2 + 11)), (1, va_rf (o1.map (fun y => g.2.2 + y)))]) hx hb dX1_depthOf_112 hl rfl (congrArg (fun t => w2 + t) (by decide : Int32.ofInt 1 = 1)) (Nat.le_of_ble_eq_true rfl) (by cases o1 <;> rfl) (fun ls hl => ?_)
        refine lv_goto (tgt := 6) hx hb dX1_depthOf_115 rfl ?_
        exact ih _ _ H locs ls o hf hW (lv_sub hl [1, 2, 0] rfl) hK
  unfold f_X1_depthOf at hf
  obtain ⟨H, hH⟩ : ∃ H, H = s.heap := ⟨_, rfl⟩
  obtain ⟨locs, hlc⟩ : ∃ q : List Loc, q = [] := ⟨_, rfl⟩
  rw [show W p0 l e rmX1_depthOf s m args below meth c s.heap [] 0 0 (MQ below (QI g z.1 z.2 R P Z) args s 0 0 (AA g)) (F0 m 0 ls []) = W p0 l e rmX1_depthOf s m args below meth c H locs 0 0 (MQ below (QI g z.1 z.2 R P Z) args s 0 0 (AA g)) (F0 m 0 ls []) by rw [hH, hlc]]
  have hW : Wd g I R P Z s.heap H locs := by rw [hH, hlc]; exact hW
  refine lv_aload_n hx hb dX1_depthOf_0 rfl (lv_at hl 0 rfl) ?_
  obtain ⟨q1, hq1, hf⟩ := bnd hf
  refine aw_cVv (rest := []) C0 hW (lv_fix (by decide)) (cel_1 kd11) rfl (c_X1_start  hq1) (cw_X1_19 hts ⟨Nat.le_of_ble_eq_true rfl, Nat.le_of_ble_eq_true rfl⟩) rfl hl.1 rfl (Nat.le_of_ble_eq_true rfl) ⟨Nat.zero_le _, Nat.zero_le _⟩ dX1_depthOf_1 (fun H locs hW => ?_)
  refine lv_iconst (v := 0) hx hb dX1_depthOf_4 (by decide) ?_
  refine lv_istore_n (lv' := [(2, .int 0), (0, .ref (g.2.2 + 11)), (1, va_rf (o1.map (fun y => g.2.2 + y)))]) hx hb dX1_depthOf_5 rfl hl (Nat.le_of_ble_eq_true rfl) (by cases o1 <;> rfl) (fun ls hl => ?_)
  obtain ⟨q16, hq16, hf⟩ := bnd hf
  refine L6 R fuel 0 q1 H locs ls _ hq16 hW (lv_sub hl [1, 2, 0] rfl) (fun H locs ls hW hl => ?_)
  refine lv_aload_n hx hb dX1_depthOf_118 rfl (lv_at hl 0 rfl) ?_
  refine aw_get (v := .ref (g.2.2 + 12)) C0 hW (lv_fix (by decide)) (cel_1 kd11) rfl inG1 0 (by decide) wd16 rfl rfl dX1_depthOf_119 ?_
  obtain ⟨q17, hq17, hf⟩ := bnd hf
  refine aw_cVi (rest := []) C0 hW (lv_fix (by decide)) (cel_3 kd12) rfl (c_X3_top 12 kd12 hq17) (cw_X1_58 hts ⟨Nat.le_of_ble_eq_true rfl, Nat.le_of_ble_eq_true rfl⟩) rfl hl.1 rfl (Nat.le_of_ble_eq_true rfl) ⟨Nat.zero_le _, Nat.zero_le _⟩ dX1_depthOf_122 (fun H locs hW => ?_)
  have hz := Option.some.inj hf
  have hzV := congrArg (fun z : Int32 × Mem => z.1) hz
  have hzI := congrArg (fun z : Int32 × Mem => z.2) hz
  exact aw_iret C0 hW hzV hzI rfl dX1_depthOf_125
def f_X2_testCount_L4 (p : Nat) (P : Pool) (R : Rem) (I : Mem) : Nat → Int32 → Int32 → Option (Int32)
  | 0, _, _ => none
  | n + 1, w1, w2 =>
    (rdn R P p 0 10).bind fun k1 =>
    if (Int32.ofNat (Ln P k1)) ≤ w2 then (
      some w1
    ) else (
      (rdn R P p 0 10).bind fun k2 =>
      (rd I k2 (Ln P k2) w2).bind fun v3 =>
      (f_X7_isTest v3).bind fun q4 =>
      if q4 = 0 then (
        f_X2_testCount_L4 p P R I n w1 (w2 + 1)
      ) else (
        f_X2_testCount_L4 p P R I n (w1 + 1) (w2 + 1)
      )
    )
def f_X2_testCount (p : Nat) (P : Pool) (R : Rem) (I : Mem) : Option (Int32) :=
  (f_X2_testCount_L4 p P R I fuel 0 0).bind fun q5 =>
  some q5
abbrev rmX2_testCount : Room := { frames := 2, cells := 0, slots := 0, locals := 41 }
set_option maxHeartbeats 4000000 in
set_option maxRecDepth 100000 in
theorem c_X2_testCount {l : Launch} {g : Gam} {I : Mem} {R : Rem} {P : Pool} {Z : Zed} (p : Nat) (hp : Kd P p = 2) {z : Int32} (hf : f_X2_testCount p P R I = some z) : Met l yX2_testCount (Cond.code yX2_testCount cX2_testCount 3 (some .int) :: GT) rmX2_testCount (va_Pc [.ref (g.2.2 + p)] (PW g I R P Z)) (QI g z I R P Z) 0 0 (AA g) := by
  refine aw_ofW (lv0 := [(0, .ref (g.2.2 + p))]) (by decide) (by exact Nat.le_of_ble_eq_true rfl) (by rfl) (fun p0 e s m args below meth c ls C0 hl hW => ?_)
  have C0 : CX g p0 s m args meth c RX2 cX2_testCount 3 (some .int) := C0
  have hx := C0.1; have hb := C0.2.1; have hown := C0.2.2.2.2.1; have hts := C0.2.2.2.2.2.1; have hKS := C0.2.2.2.2.2.2.1
  have L4 : ∀ (R : Rem) (I : Mem) (n : Nat) (w1 : Int32) (w2 : Int32) (H : Heap) (locs : List Loc) (ls : Array Slot) (o : Int32), f_X2_testCount_L4 p P R I n w1 w2 = some o → Wd g I R P Z s.heap H locs → lv_has ls 3 [(0, .ref (g.2.2 + p)), (1, .int w1), (2, .int w2)] → (∀ (H : Heap) (locs : List Loc) (ls : Array Slot), Wd g I R P Z s.heap H locs → lv_has ls 3 [(1, .int o)] → W p0 l e rmX2_testCount s m args below meth c H locs 0 0 (MQ below (QI g z I R P Z) args s 0 0 (AA g)) (F0 m 34 ls [])) → W p0 l e rmX2_testCount s m args below meth c H locs 0 0 (MQ below (QI g z I R P Z) args s 0 0 (AA g)) (F0 m 4 ls []) := by
    intro R I n
    induction n with
    | zero => intro w1 w2 H locs ls o hf; cases hf
    | succ n ih =>
      intro w1 w2 H locs ls o hf hW hl hK
      rw [f_X2_testCount_L4] at hf
      refine lv_iload_n hx hb dX2_testCount_4 rfl (lv_at hl 2 rfl) ?_
      refine lv_aload_n hx hb dX2_testCount_5 rfl (lv_at hl 0 rfl) ?_
      obtain ⟨k1, ek1, hf⟩ := bnd hf
      obtain ⟨rk1, hk1⟩ := rdn_in ek1
      refine aw_get (v := .ref (g.2.2 + k1)) C0 hW (lv_kd hW.1.2.2 hp (by decide)) (cel_2 hp) rfl inG2 0 (by decide) wd18 rfl (by rw [rk1]; rfl) dX2_testCount_6 ?_
      refine aw_alen (v := Int32.ofNat (Ln P k1)) C0 hW hk1 rfl rfl dX2_testCount_9 ?_
      refine lv_icmp_ge (tgt := 34) hx hb dX2_testCount_10 rfl (fun hc => ?_) (fun hc => ?_)
      · have hf := ift hc hf
        have ho := Option.some.inj hf
        subst ho
        exact hK H locs ls hW (lv_sub hl [1] rfl)
      · have hf := iff_ hc hf
        refine lv_aload_n hx hb dX2_testCount_13 rfl (lv_at hl 0 rfl) ?_
        obtain ⟨k2, ek2, hf⟩ := bnd hf
        obtain ⟨rk2, hk2⟩ := rdn_in ek2
        refine aw_get (v := .ref (g.2.2 + k2)) C0 hW (lv_kd hW.1.2.2 hp (by decide)) (cel_2 hp) rfl inG2 0 (by decide) wd18 rfl (by rw [rk2]; rfl) dX2_testCount_14 ?_
        refine lv_iload_n hx hb dX2_testCount_17 rfl (lv_at hl 2 rfl) ?_
        obtain ⟨v3, hv3, hf⟩ := bnd hf
        refine aw_iald C0 hW hk2 rfl hv3 dX2_testCount_18 ?_
        obtain ⟨q4, hq4, hf⟩ := bnd hf
        refine aw_cSi (rest := []) C0 hW (c_X7_isTest v3  hq4) (cw_X2_13 hts ⟨Nat.le_of_ble_eq_true rfl, Nat.le_of_ble_eq_true rfl⟩) rfl hl.1 rfl (Nat.le_of_ble_eq_true rfl) ⟨Nat.zero_le _, Nat.zero_le _⟩ dX2_testCount_19 (fun H locs hW => ?_)
        refine lv_if_eq (tgt := 28) hx hb dX2_testCount_22 rfl (fun hc => ?_) (fun hc => ?_)
        · have hf := ift hc hf
          refine lv_iinc (k := 2) (v := w2 + 1) (lv' := [(2, .int (w2 + 1)), (0, .ref (g.2.2 + p)), (1, .int w1)]) hx hb dX2_testCount_28 hl rfl (congrArg (fun t => w2 + t) (by decide : Int32.ofInt 1 = 1)) (Nat.le_of_ble_eq_true rfl) rfl (fun ls hl => ?_)
          refine lv_goto (tgt := 4) hx hb dX2_testCount_31 rfl ?_
          exact ih _ _ H locs ls o hf hW (lv_sub hl [1, 2, 0] rfl) hK
        · have hf := iff_ hc hf
          refine lv_iinc (k := 1) (v := w1 + 1) (lv' := [(1, .int (w1 + 1)), (0, .ref (g.2.2 + p)), (2, .int w2)]) hx hb dX2_testCount_25 hl rfl (congrArg (fun t => w1 + t) (by decide : Int32.ofInt 1 = 1)) (Nat.le_of_ble_eq_true rfl) rfl (fun ls hl => ?_)
          refine lv_iinc (k := 2) (v := w2 + 1) (lv' := [(2, .int (w2 + 1)), (1, .int (w1 + 1)), (0, .ref (g.2.2 + p))]) hx hb dX2_testCount_28 hl rfl (congrArg (fun t => w2 + t) (by decide : Int32.ofInt 1 = 1)) (Nat.le_of_ble_eq_true rfl) rfl (fun ls hl => ?_)
          refine lv_goto (tgt := 4) hx hb dX2_testCount_31 rfl ?_
          exact ih _ _ H locs ls o hf hW (lv_sub hl [2, 1, 0] rfl) hK
  unfold f_X2_testCount at hf
  obtain ⟨H, hH⟩ : ∃ H, H = s.heap := ⟨_, rfl⟩
  obtain ⟨locs, hlc⟩ : ∃ q : List Loc, q = [] := ⟨_, rfl⟩
  rw [show W p0 l e rmX2_testCount s m args below meth c s.heap [] 0 0 (MQ below (QI g z I R P Z) args s 0 0 (AA g)) (F0 m 0 ls []) = W p0 l e rmX2_testCount s m args below meth c H locs 0 0 (MQ below (QI g z I R P Z) args s 0 0 (AA g)) (F0 m 0 ls []) by rw [hH, hlc]]
  have hW : Wd g I R P Z s.heap H locs := by rw [hH, hlc]; exact hW
  refine lv_iconst (v := 0) hx hb dX2_testCount_0 (by decide) ?_
  refine lv_istore_n (lv' := [(1, .int 0), (0, .ref (g.2.2 + p))]) hx hb dX2_testCount_1 rfl hl (Nat.le_of_ble_eq_true rfl) rfl (fun ls hl => ?_)
  refine lv_iconst (v := 0) hx hb dX2_testCount_2 (by decide) ?_
  refine lv_istore_n (lv' := [(2, .int 0), (1, .int 0), (0, .ref (g.2.2 + p))]) hx hb dX2_testCount_3 rfl hl (Nat.le_of_ble_eq_true rfl) rfl (fun ls hl => ?_)
  obtain ⟨q5, hq5, hf⟩ := bnd hf
  refine L4 R I fuel 0 0 H locs ls _ hq5 hW (lv_sub hl [2, 1, 0] rfl) (fun H locs ls hW hl => ?_)
  refine lv_iload_n hx hb dX2_testCount_34 rfl (lv_at hl 0 rfl) ?_
  have hz := Option.some.inj hf
  exact aw_iret C0 hW hz rfl rfl dX2_testCount_35
def f_X5_insert_L30 (x1 : Int32) (x2 : Int32) (P : Pool) : Nat → Int32 → Mem → Option (Mem)
  | 0, _, _ => none
  | n + 1, w3, I =>
    if w3 ≤ x1 then (
      some I
    ) else (
      (rd I 25 160 (w3 - 1)).bind fun v1 =>
      (wr I 25 160 w3 (vp_nar .char v1)).bind fun I2 =>
      f_X5_insert_L30 x1 x2 P n (w3 + (-1)) I2
    )
def f_X5_insert (x1 : Int32) (x2 : Int32) (P : Pool) (I : Mem) : Option (Mem) :=
  if x1 < 0 then (
    some I
  ) else (
    if (I 24 3) < x1 then (
      some I
    ) else (
      if (I 24 3) < 160 then (
        (f_X5_insert_L30 x1 x2 P fuel (I 24 3) I).bind fun q3 =>
        (wr q3 25 160 x1 (vp_nar .char x2)).bind fun I4 =>
        some ((up I4 24 3 ((I4 24 3) + 1)))
      ) else (
        some I
      )
    )
  )
abbrev rmX5_insert : Room := { frames := 0, cells := 0, slots := 0, locals := 0 }
set_option maxHeartbeats 4000000 in
set_option maxRecDepth 100000 in
theorem c_X5_insert {l : Launch} {g : Gam} {I : Mem} {R : Rem} {P : Pool} {Z : Zed} (x1 : Int32) (x2 : Int32)  {z : Mem} (hf : f_X5_insert x1 x2 P I = some z) : Met l yX5_insert (Cond.code yX5_insert cX5_insert 4 none :: GT) rmX5_insert (va_Pc [.ref (g.2.2 + 24), .int x1, .int x2] (PW g I R P Z)) (QV g z R P Z) 0 0 (AA g) := by
  refine aw_ofW (lv0 := [(0, .ref (g.2.2 + 24)), (1, .int x1), (2, .int x2)]) (by decide) (by exact Nat.le_of_ble_eq_true rfl) (by rfl) (fun p0 e s m args below meth c ls C0 hl hW => ?_)
  have C0 : CX g p0 s m args meth c RX5 cX5_insert 4 none := C0
  have hx := C0.1; have hb := C0.2.1; have hown := C0.2.2.2.2.1; have hts := C0.2.2.2.2.2.1; have hKS := C0.2.2.2.2.2.2.1
  have L30 : ∀ (n : Nat) (w3 : Int32) (I : Mem) (H : Heap) (locs : List Loc) (ls : Array Slot) (o : Mem), f_X5_insert_L30 x1 x2 P n w3 I = some o → Wd g I R P Z s.heap H locs → lv_has ls 4 [(0, .ref (g.2.2 + 24)), (1, .int x1), (2, .int x2), (3, .int w3)] → (∀ (H : Heap) (locs : List Loc) (ls : Array Slot), Wd g o R P Z s.heap H locs → lv_has ls 4 [(0, .ref (g.2.2 + 24)), (1, .int x1), (2, .int x2)] → W p0 l e rmX5_insert s m args below meth c H locs 0 0 (MQ below (QV g z R P Z) args s 0 0 (AA g)) (F0 m 55 ls [])) → W p0 l e rmX5_insert s m args below meth c H locs 0 0 (MQ below (QV g z R P Z) args s 0 0 (AA g)) (F0 m 30 ls []) := by
    intro n
    induction n with
    | zero => intro w3 I H locs ls o hf; cases hf
    | succ n ih =>
      intro w3 I H locs ls o hf hW hl hK
      rw [f_X5_insert_L30] at hf
      refine lv_iload_n hx hb dX5_insert_30 rfl (lv_at hl 3 rfl) ?_
      refine lv_iload_n hx hb dX5_insert_31 rfl (lv_at hl 1 rfl) ?_
      refine lv_icmp_le (tgt := 55) hx hb dX5_insert_32 rfl (fun hc => ?_) (fun hc => ?_)
      · have hf := ift hc hf
        have ho := Option.some.inj hf
        subst ho
        exact hK H locs ls hW (lv_sub hl [0, 1, 2] rfl)
      · have hf := iff_ hc hf
        refine lv_aload_n hx hb dX5_insert_35 rfl (lv_at hl 0 rfl) ?_
        refine aw_get (v := .ref (g.2.2 + 25)) C0 hW (lv_fix (by decide)) (cel_5 kd24) rfl inG5 0 (by decide) wd48 rfl rfl dX5_insert_36 ?_
        refine lv_iload_n hx hb dX5_insert_39 rfl (lv_at hl 3 rfl) ?_
        refine lv_aload_n hx hb dX5_insert_40 rfl (lv_at hl 0 rfl) ?_
        refine aw_get (v := .ref (g.2.2 + 25)) C0 hW (lv_fix (by decide)) (cel_5 kd24) rfl inG5 0 (by decide) wd48 rfl rfl dX5_insert_41 ?_
        refine lv_iload_n hx hb dX5_insert_44 rfl (lv_at hl 3 rfl) ?_
        refine lv_iconst (v := 1) hx hb dX5_insert_45 (by decide) ?_
        refine lv_isub hx hb dX5_insert_46 ?_
        obtain ⟨v1, hv1, hf⟩ := bnd hf
        refine aw_cald C0 hW kd25 ln25 hv1 dX5_insert_47 ?_
        obtain ⟨I2, hI2, hf⟩ := bnd hf
        refine aw_cast C0 hW kd25 ln25 hI2 dX5_insert_48 (fun H locs hW => ?_)
        refine lv_iinc (k := 3) (v := w3 + (-1)) (lv' := [(3, .int (w3 + (-1))), (0, .ref (g.2.2 + 24)), (1, .int x1), (2, .int x2)]) hx hb dX5_insert_49 hl rfl (congrArg (fun t => w3 + t) (by decide : Int32.ofInt (-1) = (-1))) (Nat.le_of_ble_eq_true rfl) rfl (fun ls hl => ?_)
        refine lv_goto (tgt := 30) hx hb dX5_insert_52 rfl ?_
        exact ih _ _ H locs ls o hf hW (lv_sub hl [1, 2, 3, 0] rfl) hK
  unfold f_X5_insert at hf
  obtain ⟨H, hH⟩ : ∃ H, H = s.heap := ⟨_, rfl⟩
  obtain ⟨locs, hlc⟩ : ∃ q : List Loc, q = [] := ⟨_, rfl⟩
  rw [show W p0 l e rmX5_insert s m args below meth c s.heap [] 0 0 (MQ below (QV g z R P Z) args s 0 0 (AA g)) (F0 m 0 ls []) = W p0 l e rmX5_insert s m args below meth c H locs 0 0 (MQ below (QV g z R P Z) args s 0 0 (AA g)) (F0 m 0 ls []) by rw [hH, hlc]]
  have hW : Wd g I R P Z s.heap H locs := by rw [hH, hlc]; exact hW
  refine lv_iload_n hx hb dX5_insert_0 rfl (lv_at hl 1 rfl) ?_
  refine lv_if_lt (tgt := 24) hx hb dX5_insert_1 rfl (fun hc => ?_) (fun hc => ?_)
  · have hf := ift hc hf
    have hz := Option.some.inj hf
    exact aw_vret C0 hW hz rfl dX5_insert_24
  · have hf := iff_ hc hf
    refine lv_iload_n hx hb dX5_insert_4 rfl (lv_at hl 1 rfl) ?_
    refine lv_aload_n hx hb dX5_insert_5 rfl (lv_at hl 0 rfl) ?_
    refine aw_get (v := .int (I 24 3)) C0 hW (lv_fix (by decide)) (cel_5 kd24) rfl inG5 3 (by decide) wd47 rfl rfl dX5_insert_6 ?_
    refine lv_icmp_gt (tgt := 24) hx hb dX5_insert_9 rfl (fun hc => ?_) (fun hc => ?_)
    · have hf := ift hc hf
      have hz := Option.some.inj hf
      exact aw_vret C0 hW hz rfl dX5_insert_24
    · have hf := iff_ hc hf
      refine lv_aload_n hx hb dX5_insert_12 rfl (lv_at hl 0 rfl) ?_
      refine aw_get (v := .int (I 24 3)) C0 hW (lv_fix (by decide)) (cel_5 kd24) rfl inG5 3 (by decide) wd47 rfl rfl dX5_insert_13 ?_
      refine lv_aload_n hx hb dX5_insert_16 rfl (lv_at hl 0 rfl) ?_
      refine aw_get (v := .ref (g.2.2 + 25)) C0 hW (lv_fix (by decide)) (cel_5 kd24) rfl inG5 0 (by decide) wd48 rfl rfl dX5_insert_17 ?_
      refine aw_alenC (v := 160) C0 hW kd25 ln25 (by decide) dX5_insert_20 ?_
      refine lv_icmp_lt (tgt := 25) hx hb dX5_insert_21 rfl (fun hc => ?_) (fun hc => ?_)
      · have hf := ift hc hf
        refine lv_aload_n hx hb dX5_insert_25 rfl (lv_at hl 0 rfl) ?_
        refine aw_get (v := .int (I 24 3)) C0 hW (lv_fix (by decide)) (cel_5 kd24) rfl inG5 3 (by decide) wd47 rfl rfl dX5_insert_26 ?_
        refine lv_istore_n (lv' := [(3, .int (I 24 3)), (0, .ref (g.2.2 + 24)), (1, .int x1), (2, .int x2)]) hx hb dX5_insert_29 rfl hl (Nat.le_of_ble_eq_true rfl) rfl (fun ls hl => ?_)
        obtain ⟨q3, hq3, hf⟩ := bnd hf
        refine L30  fuel (I 24 3) I H locs ls _ hq3 hW (lv_sub hl [1, 2, 3, 0] rfl) (fun H locs ls hW hl => ?_)
        refine lv_aload_n hx hb dX5_insert_55 rfl (lv_at hl 0 rfl) ?_
        refine aw_get (v := .ref (g.2.2 + 25)) C0 hW (lv_fix (by decide)) (cel_5 kd24) rfl inG5 0 (by decide) wd48 rfl rfl dX5_insert_56 ?_
        refine lv_iload_n hx hb dX5_insert_59 rfl (lv_at hl 1 rfl) ?_
        refine lv_iload_n hx hb dX5_insert_60 rfl (lv_at hl 2 rfl) ?_
        obtain ⟨I4, hI4, hf⟩ := bnd hf
        refine aw_cast C0 hW kd25 ln25 hI4 dX5_insert_61 (fun H locs hW => ?_)
        refine lv_aload_n hx hb dX5_insert_62 rfl (lv_at hl 0 rfl) ?_
        refine lv_dup hx hb dX5_insert_63 rfl ?_
        refine aw_get (v := .int (I4 24 3)) C0 hW (lv_fix (by decide)) (cel_5 kd24) rfl inG5 3 (by decide) wd47 rfl rfl dX5_insert_64 ?_
        refine lv_iconst (v := 1) hx hb dX5_insert_67 (by decide) ?_
        refine lv_iadd hx hb dX5_insert_68 ?_
        refine aw_put C0 hW (lv_fix (by decide)) (cel_5 kd24) rfl inG5 tyX5 tyX5_ok nmX5 3 (by decide) wd47 rfl rfl (ty := .int) rfl rfl rfl (Nat.le_of_ble_eq_true rfl) (pu_5_3 kd24) dX5_insert_69 (fun H locs hW => ?_)
        have hz := Option.some.inj hf
        exact aw_vret C0 hW hz rfl dX5_insert_72
      · have hf := iff_ hc hf
        have hz := Option.some.inj hf
        exact aw_vret C0 hW hz rfl dX5_insert_24
theorem cw_X5_65 {Rm : Room} {s : State} {args : Array Value} (ht : ∀ w ∈ GT, w.before args s = true) (hR : rmX5_insert.frames + 1 ≤ Rm.frames ∧ 8 + (4 + 11) + rmX5_insert.locals ≤ Rm.locals) : CallW Rm s args RX5 RX5 65 yX5_insert cX5_insert 4 none (Cond.code yX5_insert cX5_insert 4 none :: GT) rmX5_insert 0 0 2 := cwV 2 ht (goodV wd221 wd222 wd223 wd209 wd224) rfl rfl rfl ⟨rfl, by decide +kernel, by decide +kernel, by decide +kernel⟩ hR
def f_X5_wrap (x1 : Int32) (x2 : Int32) (P : Pool) (I : Mem) : Option (Mem) :=
  (f_X5_insert x2 41 P I).bind fun q1 =>
  (f_X5_insert x1 40 P q1).bind fun q2 =>
  some q2
abbrev rmX5_wrap : Room := { frames := 1, cells := 0, slots := 0, locals := 23 }
set_option maxHeartbeats 4000000 in
set_option maxRecDepth 100000 in
theorem c_X5_wrap {l : Launch} {g : Gam} {I : Mem} {R : Rem} {P : Pool} {Z : Zed} (x1 : Int32) (x2 : Int32)  {z : Mem} (hf : f_X5_wrap x1 x2 P I = some z) : Met l yX5_wrap (Cond.code yX5_wrap cX5_wrap 3 none :: GT) rmX5_wrap (va_Pc [.ref (g.2.2 + 24), .int x1, .int x2] (PW g I R P Z)) (QV g z R P Z) 0 0 (AA g) := by
  refine aw_ofW (lv0 := [(0, .ref (g.2.2 + 24)), (1, .int x1), (2, .int x2)]) (by decide) (by exact Nat.le_of_ble_eq_true rfl) (by rfl) (fun p0 e s m args below meth c ls C0 hl hW => ?_)
  have C0 : CX g p0 s m args meth c RX5 cX5_wrap 3 none := C0
  have hx := C0.1; have hb := C0.2.1; have hown := C0.2.2.2.2.1; have hts := C0.2.2.2.2.2.1; have hKS := C0.2.2.2.2.2.2.1
  unfold f_X5_wrap at hf
  obtain ⟨H, hH⟩ : ∃ H, H = s.heap := ⟨_, rfl⟩
  obtain ⟨locs, hlc⟩ : ∃ q : List Loc, q = [] := ⟨_, rfl⟩
  rw [show W p0 l e rmX5_wrap s m args below meth c s.heap [] 0 0 (MQ below (QV g z R P Z) args s 0 0 (AA g)) (F0 m 0 ls []) = W p0 l e rmX5_wrap s m args below meth c H locs 0 0 (MQ below (QV g z R P Z) args s 0 0 (AA g)) (F0 m 0 ls []) by rw [hH, hlc]]
  have hW : Wd g I R P Z s.heap H locs := by rw [hH, hlc]; exact hW
  refine lv_aload_n hx hb dX5_wrap_0 rfl (lv_at hl 0 rfl) ?_
  refine lv_iload_n hx hb dX5_wrap_1 rfl (lv_at hl 2 rfl) ?_
  refine lv_bipush (v := 41) hx hb dX5_wrap_2 (by decide) ?_
  obtain ⟨q1, hq1, hf⟩ := bnd hf
  refine aw_cVv (rest := []) C0 hW (lv_fix (by decide)) (cel_5 kd24) rfl (c_X5_insert x2 41  hq1) (cw_X5_65 hts ⟨Nat.le_of_ble_eq_true rfl, Nat.le_of_ble_eq_true rfl⟩) rfl hl.1 rfl (Nat.le_of_ble_eq_true rfl) ⟨Nat.zero_le _, Nat.zero_le _⟩ dX5_wrap_4 (fun H locs hW => ?_)
  refine lv_aload_n hx hb dX5_wrap_7 rfl (lv_at hl 0 rfl) ?_
  refine lv_iload_n hx hb dX5_wrap_8 rfl (lv_at hl 1 rfl) ?_
  refine lv_bipush (v := 40) hx hb dX5_wrap_9 (by decide) ?_
  obtain ⟨q2, hq2, hf⟩ := bnd hf
  refine aw_cVv (rest := []) C0 hW (lv_fix (by decide)) (cel_5 kd24) rfl (c_X5_insert x1 40  hq2) (cw_X5_65 hts ⟨Nat.le_of_ble_eq_true rfl, Nat.le_of_ble_eq_true rfl⟩) rfl hl.1 rfl (Nat.le_of_ble_eq_true rfl) ⟨Nat.zero_le _, Nat.zero_le _⟩ dX5_wrap_11 (fun H locs hW => ?_)
  have hz := Option.some.inj hf
  exact aw_vret C0 hW hz rfl dX5_wrap_14
theorem cw_X5_91 {Rm : Room} {s : State} {args : Array Value} (ht : ∀ w ∈ GT, w.before args s = true) (hR : rmX5_wrap.frames + 1 ≤ Rm.frames ∧ 8 + (3 + 11) + rmX5_wrap.locals ≤ Rm.locals) : CallW Rm s args RX5 RX5 91 yX5_wrap cX5_wrap 3 none (Cond.code yX5_wrap cX5_wrap 3 none :: GT) rmX5_wrap 0 0 2 := cwV 2 ht (goodV wd235 wd236 wd237 wd209 wd238) rfl rfl rfl ⟨rfl, by decide +kernel, by decide +kernel, by decide +kernel⟩ hR
def f_X5_negateLast (P : Pool) (I : Mem) : Option (Mem) :=
  (f_X3_pop 28 I).bind fun q1 =>
  ((
    if q1.1 = 38 then (
      (f_X3_top 26 q1.2).bind fun q3 =>
      (f_X5_wrap q3 (q1.2 24 3) P q1.2).bind fun q4 =>
      some q4
    ) else (
      if q1.1 = 124 then (
        (f_X3_top 26 q1.2).bind fun q5 =>
        (f_X5_wrap q5 (q1.2 24 3) P q1.2).bind fun q6 =>
        some q6
      ) else (
        some q1.2
      )
    )
  ) : Option (Mem)).bind fun q2 =>
  (f_X3_top 26 q2).bind fun q7 =>
  (f_X5_insert q7 33 P q2).bind fun q8 =>
  (f_X3_push 28 33 P q8).bind fun q9 =>
  some q9
abbrev rmX5_negateLast : Room := { frames := 2, cells := 0, slots := 0, locals := 45 }
set_option maxHeartbeats 4000000 in
set_option maxRecDepth 100000 in
theorem c_X5_negateLast {l : Launch} {g : Gam} {I : Mem} {R : Rem} {P : Pool} {Z : Zed}   {z : Mem} (hf : f_X5_negateLast P I = some z) : Met l yX5_negateLast (Cond.code yX5_negateLast cX5_negateLast 2 none :: GT) rmX5_negateLast (va_Pc [.ref (g.2.2 + 24)] (PW g I R P Z)) (QV g z R P Z) 0 0 (AA g) := by
  refine aw_ofW (lv0 := [(0, .ref (g.2.2 + 24))]) (by decide) (by exact Nat.le_of_ble_eq_true rfl) (by rfl) (fun p0 e s m args below meth c ls C0 hl hW => ?_)
  have C0 : CX g p0 s m args meth c RX5 cX5_negateLast 2 none := C0
  have hx := C0.1; have hb := C0.2.1; have hown := C0.2.2.2.2.1; have hts := C0.2.2.2.2.2.1; have hKS := C0.2.2.2.2.2.2.1
  unfold f_X5_negateLast at hf
  obtain ⟨H, hH⟩ : ∃ H, H = s.heap := ⟨_, rfl⟩
  obtain ⟨locs, hlc⟩ : ∃ q : List Loc, q = [] := ⟨_, rfl⟩
  rw [show W p0 l e rmX5_negateLast s m args below meth c s.heap [] 0 0 (MQ below (QV g z R P Z) args s 0 0 (AA g)) (F0 m 0 ls []) = W p0 l e rmX5_negateLast s m args below meth c H locs 0 0 (MQ below (QV g z R P Z) args s 0 0 (AA g)) (F0 m 0 ls []) by rw [hH, hlc]]
  have hW : Wd g I R P Z s.heap H locs := by rw [hH, hlc]; exact hW
  refine lv_aload_n hx hb dX5_negateLast_0 rfl (lv_at hl 0 rfl) ?_
  refine aw_get (v := .ref (g.2.2 + 28)) C0 hW (lv_fix (by decide)) (cel_5 kd24) rfl inG5 2 (by decide) wd49 rfl rfl dX5_negateLast_1 ?_
  obtain ⟨q1, hq1, hf⟩ := bnd hf
  refine aw_cVi (rest := []) C0 hW (lv_fix (by decide)) (cel_3 kd28) rfl (c_X3_pop 28 kd28 hq1) (cw_X5_85 hts ⟨Nat.le_of_ble_eq_true rfl, Nat.le_of_ble_eq_true rfl⟩) rfl hl.1 rfl (Nat.le_of_ble_eq_true rfl) ⟨Nat.zero_le _, Nat.zero_le _⟩ dX5_negateLast_4 (fun H locs hW => ?_)
  refine lv_istore_n (lv' := [(1, .int q1.1), (0, .ref (g.2.2 + 24))]) hx hb dX5_negateLast_7 rfl hl (Nat.le_of_ble_eq_true rfl) rfl (fun ls hl => ?_)
  refine lv_iload_n hx hb dX5_negateLast_8 rfl (lv_at hl 0 rfl) ?_
  refine lv_bipush (v := 38) hx hb dX5_negateLast_9 (by decide) ?_
  obtain ⟨q2, hq2, hf⟩ := bnd hf
  have J35_q2 : ∀ (H : Heap) (locs : List Loc) (ls : Array Slot), Wd g q2 R P Z s.heap H locs → lv_has ls 2 [(0, .ref (g.2.2 + 24))] → W p0 l e rmX5_negateLast s m args below meth c H locs 0 0 (MQ below (QV g z R P Z) args s 0 0 (AA g)) (F0 m 35 ls ([])) := by
    intro H locs ls hW hl
    refine lv_aload_n hx hb dX5_negateLast_35 rfl (lv_at hl 0 rfl) ?_
    refine lv_aload_n hx hb dX5_negateLast_36 rfl (lv_at hl 0 rfl) ?_
    refine aw_get (v := .ref (g.2.2 + 26)) C0 hW (lv_fix (by decide)) (cel_5 kd24) rfl inG5 1 (by decide) wd50 rfl rfl dX5_negateLast_37 ?_
    obtain ⟨q7, hq7, hf⟩ := bnd hf
    refine aw_cVi (rest := [.ref (g.2.2 + 24)]) C0 hW (lv_fix (by decide)) (cel_3 kd26) rfl (c_X3_top 26 kd26 hq7) (cw_X5_88 hts ⟨Nat.le_of_ble_eq_true rfl, Nat.le_of_ble_eq_true rfl⟩) rfl hl.1 rfl (Nat.le_of_ble_eq_true rfl) ⟨Nat.zero_le _, Nat.zero_le _⟩ dX5_negateLast_40 (fun H locs hW => ?_)
    refine lv_bipush (v := 33) hx hb dX5_negateLast_43 (by decide) ?_
    obtain ⟨q8, hq8, hf⟩ := bnd hf
    refine aw_cVv (rest := []) C0 hW (lv_fix (by decide)) (cel_5 kd24) rfl (c_X5_insert q7 33  hq8) (cw_X5_65 hts ⟨Nat.le_of_ble_eq_true rfl, Nat.le_of_ble_eq_true rfl⟩) rfl hl.1 rfl (Nat.le_of_ble_eq_true rfl) ⟨Nat.zero_le _, Nat.zero_le _⟩ dX5_negateLast_45 (fun H locs hW => ?_)
    refine lv_aload_n hx hb dX5_negateLast_48 rfl (lv_at hl 0 rfl) ?_
    refine aw_get (v := .ref (g.2.2 + 28)) C0 hW (lv_fix (by decide)) (cel_5 kd24) rfl inG5 2 (by decide) wd49 rfl rfl dX5_negateLast_49 ?_
    refine lv_bipush (v := 33) hx hb dX5_negateLast_52 (by decide) ?_
    obtain ⟨q9, hq9, hf⟩ := bnd hf
    refine aw_cVv (rest := []) C0 hW (lv_fix (by decide)) (cel_3 kd28) rfl (c_X3_push 28 33 kd28 hq9) (cw_X5_59 hts ⟨Nat.le_of_ble_eq_true rfl, Nat.le_of_ble_eq_true rfl⟩) rfl hl.1 rfl (Nat.le_of_ble_eq_true rfl) ⟨Nat.zero_le _, Nat.zero_le _⟩ dX5_negateLast_54 (fun H locs hW => ?_)
    have hz := Option.some.inj hf
    exact aw_vret C0 hW hz rfl dX5_negateLast_57
  have hf := hq2
  refine lv_icmp_eq (tgt := 20) hx hb dX5_negateLast_11 rfl (fun hc => ?_) (fun hc => ?_)
  · have hf := ift hc hf
    refine lv_aload_n hx hb dX5_negateLast_20 rfl (lv_at hl 1 rfl) ?_
    refine lv_aload_n hx hb dX5_negateLast_21 rfl (lv_at hl 1 rfl) ?_
    refine aw_get (v := .ref (g.2.2 + 26)) C0 hW (lv_fix (by decide)) (cel_5 kd24) rfl inG5 1 (by decide) wd50 rfl rfl dX5_negateLast_22 ?_
    obtain ⟨q3, hq3, hf⟩ := bnd hf
    refine aw_cVi (rest := [.ref (g.2.2 + 24)]) C0 hW (lv_fix (by decide)) (cel_3 kd26) rfl (c_X3_top 26 kd26 hq3) (cw_X5_88 hts ⟨Nat.le_of_ble_eq_true rfl, Nat.le_of_ble_eq_true rfl⟩) rfl hl.1 rfl (Nat.le_of_ble_eq_true rfl) ⟨Nat.zero_le _, Nat.zero_le _⟩ dX5_negateLast_25 (fun H locs hW => ?_)
    refine lv_aload_n hx hb dX5_negateLast_28 rfl (lv_at hl 1 rfl) ?_
    refine aw_get (v := .int (q1.2 24 3)) C0 hW (lv_fix (by decide)) (cel_5 kd24) rfl inG5 3 (by decide) wd47 rfl rfl dX5_negateLast_29 ?_
    obtain ⟨q4, hq4, hf⟩ := bnd hf
    refine aw_cVv (rest := []) C0 hW (lv_fix (by decide)) (cel_5 kd24) rfl (c_X5_wrap q3 (q1.2 24 3)  hq4) (cw_X5_91 hts ⟨Nat.le_of_ble_eq_true rfl, Nat.le_of_ble_eq_true rfl⟩) rfl hl.1 rfl (Nat.le_of_ble_eq_true rfl) ⟨Nat.zero_le _, Nat.zero_le _⟩ dX5_negateLast_32 (fun H locs hW => ?_)
    have ho := Option.some.inj hf
    subst ho
    exact J35_q2 H locs ls hW (lv_sub hl [1] rfl)
  · have hf := iff_ hc hf
    refine lv_iload_n hx hb dX5_negateLast_14 rfl (lv_at hl 0 rfl) ?_
    refine lv_bipush (v := 124) hx hb dX5_negateLast_15 (by decide) ?_
    refine lv_icmp_ne (tgt := 35) hx hb dX5_negateLast_17 rfl (fun hc => ?_) (fun hc => ?_)
    · have hf := iff_ hc hf
      have ho := Option.some.inj hf
      subst ho
      exact J35_q2 H locs ls hW (lv_sub hl [1] rfl)
    · have hf := ift hc hf
      refine lv_aload_n hx hb dX5_negateLast_20 rfl (lv_at hl 1 rfl) ?_
      refine lv_aload_n hx hb dX5_negateLast_21 rfl (lv_at hl 1 rfl) ?_
      refine aw_get (v := .ref (g.2.2 + 26)) C0 hW (lv_fix (by decide)) (cel_5 kd24) rfl inG5 1 (by decide) wd50 rfl rfl dX5_negateLast_22 ?_
      obtain ⟨q5, hq5, hf⟩ := bnd hf
      refine aw_cVi (rest := [.ref (g.2.2 + 24)]) C0 hW (lv_fix (by decide)) (cel_3 kd26) rfl (c_X3_top 26 kd26 hq5) (cw_X5_88 hts ⟨Nat.le_of_ble_eq_true rfl, Nat.le_of_ble_eq_true rfl⟩) rfl hl.1 rfl (Nat.le_of_ble_eq_true rfl) ⟨Nat.zero_le _, Nat.zero_le _⟩ dX5_negateLast_25 (fun H locs hW => ?_)
      refine lv_aload_n hx hb dX5_negateLast_28 rfl (lv_at hl 1 rfl) ?_
      refine aw_get (v := .int (q1.2 24 3)) C0 hW (lv_fix (by decide)) (cel_5 kd24) rfl inG5 3 (by decide) wd47 rfl rfl dX5_negateLast_29 ?_
      obtain ⟨q6, hq6, hf⟩ := bnd hf
      refine aw_cVv (rest := []) C0 hW (lv_fix (by decide)) (cel_5 kd24) rfl (c_X5_wrap q5 (q1.2 24 3)  hq6) (cw_X5_91 hts ⟨Nat.le_of_ble_eq_true rfl, Nat.le_of_ble_eq_true rfl⟩) rfl hl.1 rfl (Nat.le_of_ble_eq_true rfl) ⟨Nat.zero_le _, Nat.zero_le _⟩ dX5_negateLast_32 (fun H locs hW => ?_)
      have ho := Option.some.inj hf
      subst ho
      exact J35_q2 H locs ls hW (lv_sub hl [1] rfl)
theorem cw_X5_48 {Rm : Room} {s : State} {args : Array Value} (ht : ∀ w ∈ GT, w.before args s = true) (hR : rmX5_negateLast.frames + 1 ≤ Rm.frames ∧ 8 + (2 + 11) + rmX5_negateLast.locals ≤ Rm.locals) : CallW Rm s args RX5 RX5 48 yX5_negateLast cX5_negateLast 2 none (Cond.code yX5_negateLast cX5_negateLast 2 none :: GT) rmX5_negateLast 0 0 0 := cwV 0 ht (goodV wd206 wd207 wd208 wd209 wd210) rfl rfl rfl ⟨rfl, by decide +kernel, by decide +kernel, by decide +kernel⟩ hR
def f_X5_joinLastTwo (x1 : Int32) (P : Pool) (I : Mem) : Option (Mem) :=
  (f_X3_pop 26 I).bind fun q1 =>
  (f_X3_pop 28 q1.2).bind fun q2 =>
  (f_X3_pop 28 q2.2).bind fun q3 =>
  ((
    if q2.1 = x1 then (
      (f_X5_wrap q1.1 (q3.2 24 3) P q3.2).bind fun q5 =>
      some q5
    ) else (
      if x1 = 38 then (
        if q2.1 = 124 then (
          (f_X5_wrap q1.1 (q3.2 24 3) P q3.2).bind fun q6 =>
          some q6
        ) else (
          some q3.2
        )
      ) else (
        some q3.2
      )
    )
  ) : Option (Mem)).bind fun q4 =>
  (f_X5_insert q1.1 x1 P q4).bind fun q7 =>
  if x1 = 38 then (
    if q3.1 = 124 then (
      (f_X3_top 26 q7).bind fun q10 =>
      (f_X5_wrap q10 q1.1 P q7).bind fun q11 =>
      (f_X3_push 28 x1 P q11).bind fun q12 =>
      some q12
    ) else (
      (f_X3_push 28 x1 P q7).bind fun q9 =>
      some q9
    )
  ) else (
    (f_X3_push 28 x1 P q7).bind fun q8 =>
    some q8
  )
abbrev rmX5_joinLastTwo : Room := { frames := 2, cells := 0, slots := 0, locals := 45 }
set_option maxHeartbeats 4000000 in
set_option maxRecDepth 100000 in
theorem c_X5_joinLastTwo {l : Launch} {g : Gam} {I : Mem} {R : Rem} {P : Pool} {Z : Zed} (x1 : Int32)  {z : Mem} (hf : f_X5_joinLastTwo x1 P I = some z) : Met l yX5_joinLastTwo (Cond.code yX5_joinLastTwo cX5_joinLastTwo 5 none :: GT) rmX5_joinLastTwo (va_Pc [.ref (g.2.2 + 24), .int x1] (PW g I R P Z)) (QV g z R P Z) 0 0 (AA g) := by
  refine aw_ofW (lv0 := [(0, .ref (g.2.2 + 24)), (1, .int x1)]) (by decide) (by exact Nat.le_of_ble_eq_true rfl) (by rfl) (fun p0 e s m args below meth c ls C0 hl hW => ?_)
  have C0 : CX g p0 s m args meth c RX5 cX5_joinLastTwo 5 none := C0
  have hx := C0.1; have hb := C0.2.1; have hown := C0.2.2.2.2.1; have hts := C0.2.2.2.2.2.1; have hKS := C0.2.2.2.2.2.2.1
  unfold f_X5_joinLastTwo at hf
  obtain ⟨H, hH⟩ : ∃ H, H = s.heap := ⟨_, rfl⟩
  obtain ⟨locs, hlc⟩ : ∃ q : List Loc, q = [] := ⟨_, rfl⟩
  rw [show W p0 l e rmX5_joinLastTwo s m args below meth c s.heap [] 0 0 (MQ below (QV g z R P Z) args s 0 0 (AA g)) (F0 m 0 ls []) = W p0 l e rmX5_joinLastTwo s m args below meth c H locs 0 0 (MQ below (QV g z R P Z) args s 0 0 (AA g)) (F0 m 0 ls []) by rw [hH, hlc]]
  have hW : Wd g I R P Z s.heap H locs := by rw [hH, hlc]; exact hW
  refine lv_aload_n hx hb dX5_joinLastTwo_0 rfl (lv_at hl 0 rfl) ?_
  refine aw_get (v := .ref (g.2.2 + 26)) C0 hW (lv_fix (by decide)) (cel_5 kd24) rfl inG5 1 (by decide) wd50 rfl rfl dX5_joinLastTwo_1 ?_
  obtain ⟨q1, hq1, hf⟩ := bnd hf
  refine aw_cVi (rest := []) C0 hW (lv_fix (by decide)) (cel_3 kd26) rfl (c_X3_pop 26 kd26 hq1) (cw_X5_85 hts ⟨Nat.le_of_ble_eq_true rfl, Nat.le_of_ble_eq_true rfl⟩) rfl hl.1 rfl (Nat.le_of_ble_eq_true rfl) ⟨Nat.zero_le _, Nat.zero_le _⟩ dX5_joinLastTwo_4 (fun H locs hW => ?_)
  refine lv_istore_n (lv' := [(2, .int q1.1), (0, .ref (g.2.2 + 24)), (1, .int x1)]) hx hb dX5_joinLastTwo_7 rfl hl (Nat.le_of_ble_eq_true rfl) rfl (fun ls hl => ?_)
  refine lv_aload_n hx hb dX5_joinLastTwo_8 rfl (lv_at hl 1 rfl) ?_
  refine aw_get (v := .ref (g.2.2 + 28)) C0 hW (lv_fix (by decide)) (cel_5 kd24) rfl inG5 2 (by decide) wd49 rfl rfl dX5_joinLastTwo_9 ?_
  obtain ⟨q2, hq2, hf⟩ := bnd hf
  refine aw_cVi (rest := []) C0 hW (lv_fix (by decide)) (cel_3 kd28) rfl (c_X3_pop 28 kd28 hq2) (cw_X5_85 hts ⟨Nat.le_of_ble_eq_true rfl, Nat.le_of_ble_eq_true rfl⟩) rfl hl.1 rfl (Nat.le_of_ble_eq_true rfl) ⟨Nat.zero_le _, Nat.zero_le _⟩ dX5_joinLastTwo_12 (fun H locs hW => ?_)
  refine lv_istore_n (lv' := [(3, .int q2.1), (2, .int q1.1), (0, .ref (g.2.2 + 24)), (1, .int x1)]) hx hb dX5_joinLastTwo_15 rfl hl (Nat.le_of_ble_eq_true rfl) rfl (fun ls hl => ?_)
  refine lv_aload_n hx hb dX5_joinLastTwo_16 rfl (lv_at hl 2 rfl) ?_
  refine aw_get (v := .ref (g.2.2 + 28)) C0 hW (lv_fix (by decide)) (cel_5 kd24) rfl inG5 2 (by decide) wd49 rfl rfl dX5_joinLastTwo_17 ?_
  obtain ⟨q3, hq3, hf⟩ := bnd hf
  refine aw_cVi (rest := []) C0 hW (lv_fix (by decide)) (cel_3 kd28) rfl (c_X3_pop 28 kd28 hq3) (cw_X5_85 hts ⟨Nat.le_of_ble_eq_true rfl, Nat.le_of_ble_eq_true rfl⟩) rfl hl.1 rfl (Nat.le_of_ble_eq_true rfl) ⟨Nat.zero_le _, Nat.zero_le _⟩ dX5_joinLastTwo_20 (fun H locs hW => ?_)
  refine lv_istore (lv' := [(4, .int q3.1), (3, .int q2.1), (2, .int q1.1), (0, .ref (g.2.2 + 24)), (1, .int x1)]) hx hb dX5_joinLastTwo_23 hl (Nat.le_of_ble_eq_true rfl) rfl (fun ls hl => ?_)
  refine lv_iload_n hx hb dX5_joinLastTwo_25 rfl (lv_at hl 1 rfl) ?_
  refine lv_iload_n hx hb dX5_joinLastTwo_26 rfl (lv_at hl 4 rfl) ?_
  obtain ⟨q4, hq4, hf⟩ := bnd hf
  have J51_q4 : ∀ (H : Heap) (locs : List Loc) (ls : Array Slot), Wd g q4 R P Z s.heap H locs → lv_has ls 5 [(0, .ref (g.2.2 + 24)), (1, .int x1), (2, .int q1.1), (4, .int q3.1)] → W p0 l e rmX5_joinLastTwo s m args below meth c H locs 0 0 (MQ below (QV g z R P Z) args s 0 0 (AA g)) (F0 m 51 ls ([])) := by
    intro H locs ls hW hl
    refine lv_aload_n hx hb dX5_joinLastTwo_51 rfl (lv_at hl 0 rfl) ?_
    refine lv_iload_n hx hb dX5_joinLastTwo_52 rfl (lv_at hl 2 rfl) ?_
    refine lv_iload_n hx hb dX5_joinLastTwo_53 rfl (lv_at hl 1 rfl) ?_
    obtain ⟨q7, hq7, hf⟩ := bnd hf
    refine aw_cVv (rest := []) C0 hW (lv_fix (by decide)) (cel_5 kd24) rfl (c_X5_insert q1.1 x1  hq7) (cw_X5_65 hts ⟨Nat.le_of_ble_eq_true rfl, Nat.le_of_ble_eq_true rfl⟩) rfl hl.1 rfl (Nat.le_of_ble_eq_true rfl) ⟨Nat.zero_le _, Nat.zero_le _⟩ dX5_joinLastTwo_54 (fun H locs hW => ?_)
    refine lv_iload_n hx hb dX5_joinLastTwo_57 rfl (lv_at hl 1 rfl) ?_
    refine lv_bipush (v := 38) hx hb dX5_joinLastTwo_58 (by decide) ?_
    refine lv_icmp_ne (tgt := 82) hx hb dX5_joinLastTwo_60 rfl (fun hc => ?_) (fun hc => ?_)
    · have hf := iff_ hc hf
      refine lv_aload_n hx hb dX5_joinLastTwo_82 rfl (lv_at hl 0 rfl) ?_
      refine aw_get (v := .ref (g.2.2 + 28)) C0 hW (lv_fix (by decide)) (cel_5 kd24) rfl inG5 2 (by decide) wd49 rfl rfl dX5_joinLastTwo_83 ?_
      refine lv_iload_n hx hb dX5_joinLastTwo_86 rfl (lv_at hl 1 rfl) ?_
      obtain ⟨q8, hq8, hf⟩ := bnd hf
      refine aw_cVv (rest := []) C0 hW (lv_fix (by decide)) (cel_3 kd28) rfl (c_X3_push 28 x1 kd28 hq8) (cw_X5_59 hts ⟨Nat.le_of_ble_eq_true rfl, Nat.le_of_ble_eq_true rfl⟩) rfl hl.1 rfl (Nat.le_of_ble_eq_true rfl) ⟨Nat.zero_le _, Nat.zero_le _⟩ dX5_joinLastTwo_87 (fun H locs hW => ?_)
      have hz := Option.some.inj hf
      exact aw_vret C0 hW hz rfl dX5_joinLastTwo_90
    · have hf := ift hc hf
      refine lv_iload hx hb dX5_joinLastTwo_63 (lv_at hl 3 rfl) ?_
      refine lv_bipush (v := 124) hx hb dX5_joinLastTwo_65 (by decide) ?_
      refine lv_icmp_ne (tgt := 82) hx hb dX5_joinLastTwo_67 rfl (fun hc => ?_) (fun hc => ?_)
      · have hf := iff_ hc hf
        refine lv_aload_n hx hb dX5_joinLastTwo_82 rfl (lv_at hl 0 rfl) ?_
        refine aw_get (v := .ref (g.2.2 + 28)) C0 hW (lv_fix (by decide)) (cel_5 kd24) rfl inG5 2 (by decide) wd49 rfl rfl dX5_joinLastTwo_83 ?_
        refine lv_iload_n hx hb dX5_joinLastTwo_86 rfl (lv_at hl 1 rfl) ?_
        obtain ⟨q9, hq9, hf⟩ := bnd hf
        refine aw_cVv (rest := []) C0 hW (lv_fix (by decide)) (cel_3 kd28) rfl (c_X3_push 28 x1 kd28 hq9) (cw_X5_59 hts ⟨Nat.le_of_ble_eq_true rfl, Nat.le_of_ble_eq_true rfl⟩) rfl hl.1 rfl (Nat.le_of_ble_eq_true rfl) ⟨Nat.zero_le _, Nat.zero_le _⟩ dX5_joinLastTwo_87 (fun H locs hW => ?_)
        have hz := Option.some.inj hf
        exact aw_vret C0 hW hz rfl dX5_joinLastTwo_90
      · have hf := ift hc hf
        refine lv_aload_n hx hb dX5_joinLastTwo_70 rfl (lv_at hl 0 rfl) ?_
        refine lv_aload_n hx hb dX5_joinLastTwo_71 rfl (lv_at hl 0 rfl) ?_
        refine aw_get (v := .ref (g.2.2 + 26)) C0 hW (lv_fix (by decide)) (cel_5 kd24) rfl inG5 1 (by decide) wd50 rfl rfl dX5_joinLastTwo_72 ?_
        obtain ⟨q10, hq10, hf⟩ := bnd hf
        refine aw_cVi (rest := [.ref (g.2.2 + 24)]) C0 hW (lv_fix (by decide)) (cel_3 kd26) rfl (c_X3_top 26 kd26 hq10) (cw_X5_88 hts ⟨Nat.le_of_ble_eq_true rfl, Nat.le_of_ble_eq_true rfl⟩) rfl hl.1 rfl (Nat.le_of_ble_eq_true rfl) ⟨Nat.zero_le _, Nat.zero_le _⟩ dX5_joinLastTwo_75 (fun H locs hW => ?_)
        refine lv_iload_n hx hb dX5_joinLastTwo_78 rfl (lv_at hl 2 rfl) ?_
        obtain ⟨q11, hq11, hf⟩ := bnd hf
        refine aw_cVv (rest := []) C0 hW (lv_fix (by decide)) (cel_5 kd24) rfl (c_X5_wrap q10 q1.1  hq11) (cw_X5_91 hts ⟨Nat.le_of_ble_eq_true rfl, Nat.le_of_ble_eq_true rfl⟩) rfl hl.1 rfl (Nat.le_of_ble_eq_true rfl) ⟨Nat.zero_le _, Nat.zero_le _⟩ dX5_joinLastTwo_79 (fun H locs hW => ?_)
        refine lv_aload_n hx hb dX5_joinLastTwo_82 rfl (lv_at hl 0 rfl) ?_
        refine aw_get (v := .ref (g.2.2 + 28)) C0 hW (lv_fix (by decide)) (cel_5 kd24) rfl inG5 2 (by decide) wd49 rfl rfl dX5_joinLastTwo_83 ?_
        refine lv_iload_n hx hb dX5_joinLastTwo_86 rfl (lv_at hl 1 rfl) ?_
        obtain ⟨q12, hq12, hf⟩ := bnd hf
        refine aw_cVv (rest := []) C0 hW (lv_fix (by decide)) (cel_3 kd28) rfl (c_X3_push 28 x1 kd28 hq12) (cw_X5_59 hts ⟨Nat.le_of_ble_eq_true rfl, Nat.le_of_ble_eq_true rfl⟩) rfl hl.1 rfl (Nat.le_of_ble_eq_true rfl) ⟨Nat.zero_le _, Nat.zero_le _⟩ dX5_joinLastTwo_87 (fun H locs hW => ?_)
        have hz := Option.some.inj hf
        exact aw_vret C0 hW hz rfl dX5_joinLastTwo_90
  have hf := hq4
  refine lv_icmp_eq (tgt := 42) hx hb dX5_joinLastTwo_27 rfl (fun hc => ?_) (fun hc => ?_)
  · have hf := ift hc hf
    refine lv_aload_n hx hb dX5_joinLastTwo_42 rfl (lv_at hl 3 rfl) ?_
    refine lv_iload_n hx hb dX5_joinLastTwo_43 rfl (lv_at hl 2 rfl) ?_
    refine lv_aload_n hx hb dX5_joinLastTwo_44 rfl (lv_at hl 3 rfl) ?_
    refine aw_get (v := .int (q3.2 24 3)) C0 hW (lv_fix (by decide)) (cel_5 kd24) rfl inG5 3 (by decide) wd47 rfl rfl dX5_joinLastTwo_45 ?_
    obtain ⟨q5, hq5, hf⟩ := bnd hf
    refine aw_cVv (rest := []) C0 hW (lv_fix (by decide)) (cel_5 kd24) rfl (c_X5_wrap q1.1 (q3.2 24 3)  hq5) (cw_X5_91 hts ⟨Nat.le_of_ble_eq_true rfl, Nat.le_of_ble_eq_true rfl⟩) rfl hl.1 rfl (Nat.le_of_ble_eq_true rfl) ⟨Nat.zero_le _, Nat.zero_le _⟩ dX5_joinLastTwo_48 (fun H locs hW => ?_)
    have ho := Option.some.inj hf
    subst ho
    exact J51_q4 H locs ls hW (lv_sub hl [3, 4, 2, 0] rfl)
  · have hf := iff_ hc hf
    refine lv_iload_n hx hb dX5_joinLastTwo_30 rfl (lv_at hl 4 rfl) ?_
    refine lv_bipush (v := 38) hx hb dX5_joinLastTwo_31 (by decide) ?_
    refine lv_icmp_ne (tgt := 51) hx hb dX5_joinLastTwo_33 rfl (fun hc => ?_) (fun hc => ?_)
    · have hf := iff_ hc hf
      have ho := Option.some.inj hf
      subst ho
      exact J51_q4 H locs ls hW (lv_sub hl [3, 4, 2, 0] rfl)
    · have hf := ift hc hf
      refine lv_iload_n hx hb dX5_joinLastTwo_36 rfl (lv_at hl 1 rfl) ?_
      refine lv_bipush (v := 124) hx hb dX5_joinLastTwo_37 (by decide) ?_
      refine lv_icmp_ne (tgt := 51) hx hb dX5_joinLastTwo_39 rfl (fun hc => ?_) (fun hc => ?_)
      · have hf := iff_ hc hf
        have ho := Option.some.inj hf
        subst ho
        exact J51_q4 H locs ls hW (lv_sub hl [3, 4, 2, 0] rfl)
      · have hf := ift hc hf
        refine lv_aload_n hx hb dX5_joinLastTwo_42 rfl (lv_at hl 3 rfl) ?_
        refine lv_iload_n hx hb dX5_joinLastTwo_43 rfl (lv_at hl 2 rfl) ?_
        refine lv_aload_n hx hb dX5_joinLastTwo_44 rfl (lv_at hl 3 rfl) ?_
        refine aw_get (v := .int (q3.2 24 3)) C0 hW (lv_fix (by decide)) (cel_5 kd24) rfl inG5 3 (by decide) wd47 rfl rfl dX5_joinLastTwo_45 ?_
        obtain ⟨q6, hq6, hf⟩ := bnd hf
        refine aw_cVv (rest := []) C0 hW (lv_fix (by decide)) (cel_5 kd24) rfl (c_X5_wrap q1.1 (q3.2 24 3)  hq6) (cw_X5_91 hts ⟨Nat.le_of_ble_eq_true rfl, Nat.le_of_ble_eq_true rfl⟩) rfl hl.1 rfl (Nat.le_of_ble_eq_true rfl) ⟨Nat.zero_le _, Nat.zero_le _⟩ dX5_joinLastTwo_48 (fun H locs hW => ?_)
        have ho := Option.some.inj hf
        subst ho
        exact J51_q4 H locs ls hW (lv_sub hl [3, 4, 2, 0] rfl)
theorem cw_X5_51 {Rm : Room} {s : State} {args : Array Value} (ht : ∀ w ∈ GT, w.before args s = true) (hR : rmX5_joinLastTwo.frames + 1 ≤ Rm.frames ∧ 8 + (5 + 11) + rmX5_joinLastTwo.locals ≤ Rm.locals) : CallW Rm s args RX5 RX5 51 yX5_joinLastTwo cX5_joinLastTwo 5 none (Cond.code yX5_joinLastTwo cX5_joinLastTwo 5 none :: GT) rmX5_joinLastTwo 0 0 1 := cwV 1 ht (goodV wd211 wd212 wd213 wd209 wd214) rfl rfl rfl ⟨rfl, by decide +kernel, by decide +kernel, by decide +kernel⟩ hR
def f_X5_writeValue (x1 : Int32) (P : Pool) (I : Mem) : Option (Mem) :=
  ((
    if x1 < 10 then (
      some I
    ) else (
      (f_X5_insert (I 24 3) (((48 + (x1 / 10)).toUInt32 % 65536).toInt32) P I).bind fun q2 =>
      some q2
    )
  ) : Option (Mem)).bind fun q1 =>
  (f_X5_insert (q1 24 3) (((48 + (x1 - x1 / 10 * 10)).toUInt32 % 65536).toInt32) P q1).bind fun q3 =>
  some q3
abbrev rmX5_writeValue : Room := { frames := 1, cells := 0, slots := 0, locals := 23 }
set_option maxHeartbeats 4000000 in
set_option maxRecDepth 100000 in
theorem c_X5_writeValue {l : Launch} {g : Gam} {I : Mem} {R : Rem} {P : Pool} {Z : Zed} (x1 : Int32)  {z : Mem} (hf : f_X5_writeValue x1 P I = some z) : Met l yX5_writeValue (Cond.code yX5_writeValue cX5_writeValue 2 none :: GT) rmX5_writeValue (va_Pc [.ref (g.2.2 + 24), .int x1] (PW g I R P Z)) (QV g z R P Z) 0 0 (AA g) := by
  refine aw_ofW (lv0 := [(0, .ref (g.2.2 + 24)), (1, .int x1)]) (by decide) (by exact Nat.le_of_ble_eq_true rfl) (by rfl) (fun p0 e s m args below meth c ls C0 hl hW => ?_)
  have C0 : CX g p0 s m args meth c RX5 cX5_writeValue 2 none := C0
  have hx := C0.1; have hb := C0.2.1; have hown := C0.2.2.2.2.1; have hts := C0.2.2.2.2.2.1; have hKS := C0.2.2.2.2.2.2.1
  unfold f_X5_writeValue at hf
  obtain ⟨H, hH⟩ : ∃ H, H = s.heap := ⟨_, rfl⟩
  obtain ⟨locs, hlc⟩ : ∃ q : List Loc, q = [] := ⟨_, rfl⟩
  rw [show W p0 l e rmX5_writeValue s m args below meth c s.heap [] 0 0 (MQ below (QV g z R P Z) args s 0 0 (AA g)) (F0 m 0 ls []) = W p0 l e rmX5_writeValue s m args below meth c H locs 0 0 (MQ below (QV g z R P Z) args s 0 0 (AA g)) (F0 m 0 ls []) by rw [hH, hlc]]
  have hW : Wd g I R P Z s.heap H locs := by rw [hH, hlc]; exact hW
  refine lv_iload_n hx hb dX5_writeValue_0 rfl (lv_at hl 1 rfl) ?_
  refine lv_bipush (v := 10) hx hb dX5_writeValue_1 (by decide) ?_
  obtain ⟨q1, hq1, hf⟩ := bnd hf
  have J22_q1 : ∀ (H : Heap) (locs : List Loc) (ls : Array Slot), Wd g q1 R P Z s.heap H locs → lv_has ls 2 [(0, .ref (g.2.2 + 24)), (1, .int x1)] → W p0 l e rmX5_writeValue s m args below meth c H locs 0 0 (MQ below (QV g z R P Z) args s 0 0 (AA g)) (F0 m 22 ls ([])) := by
    intro H locs ls hW hl
    refine lv_aload_n hx hb dX5_writeValue_22 rfl (lv_at hl 0 rfl) ?_
    refine lv_aload_n hx hb dX5_writeValue_23 rfl (lv_at hl 0 rfl) ?_
    refine aw_get (v := .int (q1 24 3)) C0 hW (lv_fix (by decide)) (cel_5 kd24) rfl inG5 3 (by decide) wd47 rfl rfl dX5_writeValue_24 ?_
    refine lv_bipush (v := 48) hx hb dX5_writeValue_27 (by decide) ?_
    refine lv_iload_n hx hb dX5_writeValue_29 rfl (lv_at hl 1 rfl) ?_
    refine lv_bipush (v := 10) hx hb dX5_writeValue_30 (by decide) ?_
    refine lv_irem hx hb dX5_writeValue_32 (by decide) ?_
    refine lv_iadd hx hb dX5_writeValue_33 ?_
    refine lv_i2c (v := ((48 + (x1 - x1 / 10 * 10)).toUInt32 % 65536).toInt32) hx hb dX5_writeValue_34 rfl ?_
    obtain ⟨q3, hq3, hf⟩ := bnd hf
    refine aw_cVv (rest := []) C0 hW (lv_fix (by decide)) (cel_5 kd24) rfl (c_X5_insert (q1 24 3) (((48 + (x1 - x1 / 10 * 10)).toUInt32 % 65536).toInt32)  hq3) (cw_X5_65 hts ⟨Nat.le_of_ble_eq_true rfl, Nat.le_of_ble_eq_true rfl⟩) rfl hl.1 rfl (Nat.le_of_ble_eq_true rfl) ⟨Nat.zero_le _, Nat.zero_le _⟩ dX5_writeValue_35 (fun H locs hW => ?_)
    have hz := Option.some.inj hf
    exact aw_vret C0 hW hz rfl dX5_writeValue_38
  have hf := hq1
  refine lv_icmp_lt (tgt := 22) hx hb dX5_writeValue_3 rfl (fun hc => ?_) (fun hc => ?_)
  · have hf := ift hc hf
    have ho := Option.some.inj hf
    subst ho
    exact J22_q1 H locs ls hW (lv_sub hl [0, 1] rfl)
  · have hf := iff_ hc hf
    refine lv_aload_n hx hb dX5_writeValue_6 rfl (lv_at hl 0 rfl) ?_
    refine lv_aload_n hx hb dX5_writeValue_7 rfl (lv_at hl 0 rfl) ?_
    refine aw_get (v := .int (I 24 3)) C0 hW (lv_fix (by decide)) (cel_5 kd24) rfl inG5 3 (by decide) wd47 rfl rfl dX5_writeValue_8 ?_
    refine lv_bipush (v := 48) hx hb dX5_writeValue_11 (by decide) ?_
    refine lv_iload_n hx hb dX5_writeValue_13 rfl (lv_at hl 1 rfl) ?_
    refine lv_bipush (v := 10) hx hb dX5_writeValue_14 (by decide) ?_
    refine lv_idiv hx hb dX5_writeValue_16 (by decide) ?_
    refine lv_iadd hx hb dX5_writeValue_17 ?_
    refine lv_i2c (v := ((48 + (x1 / 10)).toUInt32 % 65536).toInt32) hx hb dX5_writeValue_18 rfl ?_
    obtain ⟨q2, hq2, hf⟩ := bnd hf
    refine aw_cVv (rest := []) C0 hW (lv_fix (by decide)) (cel_5 kd24) rfl (c_X5_insert (I 24 3) (((48 + (x1 / 10)).toUInt32 % 65536).toInt32)  hq2) (cw_X5_65 hts ⟨Nat.le_of_ble_eq_true rfl, Nat.le_of_ble_eq_true rfl⟩) rfl hl.1 rfl (Nat.le_of_ble_eq_true rfl) ⟨Nat.zero_le _, Nat.zero_le _⟩ dX5_writeValue_19 (fun H locs hW => ?_)
    have ho := Option.some.inj hf
    subst ho
    exact J22_q1 H locs ls hW (lv_sub hl [0, 1] rfl)
theorem cw_X5_82 {Rm : Room} {s : State} {args : Array Value} (ht : ∀ w ∈ GT, w.before args s = true) (hR : rmX5_writeValue.frames + 1 ≤ Rm.frames ∧ 8 + (2 + 11) + rmX5_writeValue.locals ≤ Rm.locals) : CallW Rm s args RX5 RX5 82 yX5_writeValue cX5_writeValue 2 none (Cond.code yX5_writeValue cX5_writeValue 2 none :: GT) rmX5_writeValue 0 0 1 := cwV 1 ht (goodV wd229 wd230 wd231 wd209 wd232) rfl rfl rfl ⟨rfl, by decide +kernel, by decide +kernel, by decide +kernel⟩ hR
def f_X5_writeTest (x1 : Int32) (P : Pool) (I : Mem) : Option (Mem) :=
  (f_X3_push 26 (I 24 3) P I).bind fun q1 =>
  (f_X7_signOf x1).bind fun q2 =>
  (f_X3_push 28 q2 P q1).bind fun q3 =>
  (f_X7_columnOf x1).bind fun q4 =>
  (f_X5_insert (q3 24 3) (((97 + q4).toUInt32 % 65536).toInt32) P q3).bind fun q5 =>
  (f_X7_signOf x1).bind fun q6 =>
  (f_X5_insert (q5 24 3) q6 P q5).bind fun q7 =>
  (f_X7_comparesColumns x1).bind fun q8 =>
  if q8 = 0 then (
    (f_X7_comparesWithValue x1).bind fun q9 =>
    if q9 = 0 then (
      some q7
    ) else (
      (f_X7_valueOf x1).bind fun q10 =>
      (f_X5_writeValue q10 P q7).bind fun q11 =>
      some q11
    )
  ) else (
    (f_X7_otherColumnOf x1).bind fun q12 =>
    (f_X5_insert (q7 24 3) (((97 + q12).toUInt32 % 65536).toInt32) P q7).bind fun q13 =>
    some q13
  )
abbrev rmX5_writeTest : Room := { frames := 3, cells := 0, slots := 0, locals := 61 }
set_option maxHeartbeats 4000000 in
set_option maxRecDepth 100000 in
theorem c_X5_writeTest {l : Launch} {g : Gam} {I : Mem} {R : Rem} {P : Pool} {Z : Zed} (x1 : Int32)  {z : Mem} (hf : f_X5_writeTest x1 P I = some z) : Met l yX5_writeTest (Cond.code yX5_writeTest cX5_writeTest 2 none :: GT) rmX5_writeTest (va_Pc [.ref (g.2.2 + 24), .int x1] (PW g I R P Z)) (QV g z R P Z) 0 0 (AA g) := by
  refine aw_ofW (lv0 := [(0, .ref (g.2.2 + 24)), (1, .int x1)]) (by decide) (by exact Nat.le_of_ble_eq_true rfl) (by rfl) (fun p0 e s m args below meth c ls C0 hl hW => ?_)
  have C0 : CX g p0 s m args meth c RX5 cX5_writeTest 2 none := C0
  have hx := C0.1; have hb := C0.2.1; have hown := C0.2.2.2.2.1; have hts := C0.2.2.2.2.2.1; have hKS := C0.2.2.2.2.2.2.1
  unfold f_X5_writeTest at hf
  obtain ⟨H, hH⟩ : ∃ H, H = s.heap := ⟨_, rfl⟩
  obtain ⟨locs, hlc⟩ : ∃ q : List Loc, q = [] := ⟨_, rfl⟩
  rw [show W p0 l e rmX5_writeTest s m args below meth c s.heap [] 0 0 (MQ below (QV g z R P Z) args s 0 0 (AA g)) (F0 m 0 ls []) = W p0 l e rmX5_writeTest s m args below meth c H locs 0 0 (MQ below (QV g z R P Z) args s 0 0 (AA g)) (F0 m 0 ls []) by rw [hH, hlc]]
  have hW : Wd g I R P Z s.heap H locs := by rw [hH, hlc]; exact hW
  refine lv_aload_n hx hb dX5_writeTest_0 rfl (lv_at hl 0 rfl) ?_
  refine aw_get (v := .ref (g.2.2 + 26)) C0 hW (lv_fix (by decide)) (cel_5 kd24) rfl inG5 1 (by decide) wd50 rfl rfl dX5_writeTest_1 ?_
  refine lv_aload_n hx hb dX5_writeTest_4 rfl (lv_at hl 0 rfl) ?_
  refine aw_get (v := .int (I 24 3)) C0 hW (lv_fix (by decide)) (cel_5 kd24) rfl inG5 3 (by decide) wd47 rfl rfl dX5_writeTest_5 ?_
  obtain ⟨q1, hq1, hf⟩ := bnd hf
  refine aw_cVv (rest := []) C0 hW (lv_fix (by decide)) (cel_3 kd26) rfl (c_X3_push 26 (I 24 3) kd26 hq1) (cw_X5_59 hts ⟨Nat.le_of_ble_eq_true rfl, Nat.le_of_ble_eq_true rfl⟩) rfl hl.1 rfl (Nat.le_of_ble_eq_true rfl) ⟨Nat.zero_le _, Nat.zero_le _⟩ dX5_writeTest_8 (fun H locs hW => ?_)
  refine lv_aload_n hx hb dX5_writeTest_11 rfl (lv_at hl 0 rfl) ?_
  refine aw_get (v := .ref (g.2.2 + 28)) C0 hW (lv_fix (by decide)) (cel_5 kd24) rfl inG5 2 (by decide) wd49 rfl rfl dX5_writeTest_12 ?_
  refine lv_iload_n hx hb dX5_writeTest_15 rfl (lv_at hl 1 rfl) ?_
  obtain ⟨q2, hq2, hf⟩ := bnd hf
  refine aw_cSi (rest := [.ref (g.2.2 + 28)]) C0 hW (c_X7_signOf x1  hq2) (cw_X5_42 hts ⟨Nat.le_of_ble_eq_true rfl, Nat.le_of_ble_eq_true rfl⟩) rfl hl.1 rfl (Nat.le_of_ble_eq_true rfl) ⟨Nat.zero_le _, Nat.zero_le _⟩ dX5_writeTest_16 (fun H locs hW => ?_)
  obtain ⟨q3, hq3, hf⟩ := bnd hf
  refine aw_cVv (rest := []) C0 hW (lv_fix (by decide)) (cel_3 kd28) rfl (c_X3_push 28 q2 kd28 hq3) (cw_X5_59 hts ⟨Nat.le_of_ble_eq_true rfl, Nat.le_of_ble_eq_true rfl⟩) rfl hl.1 rfl (Nat.le_of_ble_eq_true rfl) ⟨Nat.zero_le _, Nat.zero_le _⟩ dX5_writeTest_19 (fun H locs hW => ?_)
  refine lv_aload_n hx hb dX5_writeTest_22 rfl (lv_at hl 0 rfl) ?_
  refine lv_aload_n hx hb dX5_writeTest_23 rfl (lv_at hl 0 rfl) ?_
  refine aw_get (v := .int (q3 24 3)) C0 hW (lv_fix (by decide)) (cel_5 kd24) rfl inG5 3 (by decide) wd47 rfl rfl dX5_writeTest_24 ?_
  refine lv_bipush (v := 97) hx hb dX5_writeTest_27 (by decide) ?_
  refine lv_iload_n hx hb dX5_writeTest_29 rfl (lv_at hl 1 rfl) ?_
  obtain ⟨q4, hq4, hf⟩ := bnd hf
  refine aw_cSi (rest := [.int 97, .int (q3 24 3), .ref (g.2.2 + 24)]) C0 hW (c_X7_columnOf x1  hq4) (cw_X5_62 hts ⟨Nat.le_of_ble_eq_true rfl, Nat.le_of_ble_eq_true rfl⟩) rfl hl.1 rfl (Nat.le_of_ble_eq_true rfl) ⟨Nat.zero_le _, Nat.zero_le _⟩ dX5_writeTest_30 (fun H locs hW => ?_)
  refine lv_iadd hx hb dX5_writeTest_33 ?_
  refine lv_i2c (v := ((97 + q4).toUInt32 % 65536).toInt32) hx hb dX5_writeTest_34 rfl ?_
  obtain ⟨q5, hq5, hf⟩ := bnd hf
  refine aw_cVv (rest := []) C0 hW (lv_fix (by decide)) (cel_5 kd24) rfl (c_X5_insert (q3 24 3) (((97 + q4).toUInt32 % 65536).toInt32)  hq5) (cw_X5_65 hts ⟨Nat.le_of_ble_eq_true rfl, Nat.le_of_ble_eq_true rfl⟩) rfl hl.1 rfl (Nat.le_of_ble_eq_true rfl) ⟨Nat.zero_le _, Nat.zero_le _⟩ dX5_writeTest_35 (fun H locs hW => ?_)
  refine lv_aload_n hx hb dX5_writeTest_38 rfl (lv_at hl 0 rfl) ?_
  refine lv_aload_n hx hb dX5_writeTest_39 rfl (lv_at hl 0 rfl) ?_
  refine aw_get (v := .int (q5 24 3)) C0 hW (lv_fix (by decide)) (cel_5 kd24) rfl inG5 3 (by decide) wd47 rfl rfl dX5_writeTest_40 ?_
  refine lv_iload_n hx hb dX5_writeTest_43 rfl (lv_at hl 1 rfl) ?_
  obtain ⟨q6, hq6, hf⟩ := bnd hf
  refine aw_cSi (rest := [.int (q5 24 3), .ref (g.2.2 + 24)]) C0 hW (c_X7_signOf x1  hq6) (cw_X5_42 hts ⟨Nat.le_of_ble_eq_true rfl, Nat.le_of_ble_eq_true rfl⟩) rfl hl.1 rfl (Nat.le_of_ble_eq_true rfl) ⟨Nat.zero_le _, Nat.zero_le _⟩ dX5_writeTest_44 (fun H locs hW => ?_)
  obtain ⟨q7, hq7, hf⟩ := bnd hf
  refine aw_cVv (rest := []) C0 hW (lv_fix (by decide)) (cel_5 kd24) rfl (c_X5_insert (q5 24 3) q6  hq7) (cw_X5_65 hts ⟨Nat.le_of_ble_eq_true rfl, Nat.le_of_ble_eq_true rfl⟩) rfl hl.1 rfl (Nat.le_of_ble_eq_true rfl) ⟨Nat.zero_le _, Nat.zero_le _⟩ dX5_writeTest_47 (fun H locs hW => ?_)
  refine lv_iload_n hx hb dX5_writeTest_50 rfl (lv_at hl 1 rfl) ?_
  obtain ⟨q8, hq8, hf⟩ := bnd hf
  refine aw_cSi (rest := []) C0 hW (c_X7_comparesColumns x1  hq8) (cw_X5_69 hts ⟨Nat.le_of_ble_eq_true rfl, Nat.le_of_ble_eq_true rfl⟩) rfl hl.1 rfl (Nat.le_of_ble_eq_true rfl) ⟨Nat.zero_le _, Nat.zero_le _⟩ dX5_writeTest_51 (fun H locs hW => ?_)
  refine lv_if_eq (tgt := 76) hx hb dX5_writeTest_54 rfl (fun hc => ?_) (fun hc => ?_)
  · have hf := ift hc hf
    refine lv_iload_n hx hb dX5_writeTest_76 rfl (lv_at hl 1 rfl) ?_
    obtain ⟨q9, hq9, hf⟩ := bnd hf
    refine aw_cSi (rest := []) C0 hW (c_X7_comparesWithValue x1  hq9) (cw_X5_76 hts ⟨Nat.le_of_ble_eq_true rfl, Nat.le_of_ble_eq_true rfl⟩) rfl hl.1 rfl (Nat.le_of_ble_eq_true rfl) ⟨Nat.zero_le _, Nat.zero_le _⟩ dX5_writeTest_77 (fun H locs hW => ?_)
    refine lv_if_eq (tgt := 91) hx hb dX5_writeTest_80 rfl (fun hc => ?_) (fun hc => ?_)
    · have hf := ift hc hf
      have hz := Option.some.inj hf
      exact aw_vret C0 hW hz rfl dX5_writeTest_91
    · have hf := iff_ hc hf
      refine lv_aload_n hx hb dX5_writeTest_83 rfl (lv_at hl 0 rfl) ?_
      refine lv_iload_n hx hb dX5_writeTest_84 rfl (lv_at hl 1 rfl) ?_
      obtain ⟨q10, hq10, hf⟩ := bnd hf
      refine aw_cSi (rest := [.ref (g.2.2 + 24)]) C0 hW (c_X7_valueOf x1  hq10) (cw_X5_79 hts ⟨Nat.le_of_ble_eq_true rfl, Nat.le_of_ble_eq_true rfl⟩) rfl hl.1 rfl (Nat.le_of_ble_eq_true rfl) ⟨Nat.zero_le _, Nat.zero_le _⟩ dX5_writeTest_85 (fun H locs hW => ?_)
      obtain ⟨q11, hq11, hf⟩ := bnd hf
      refine aw_cVv (rest := []) C0 hW (lv_fix (by decide)) (cel_5 kd24) rfl (c_X5_writeValue q10  hq11) (cw_X5_82 hts ⟨Nat.le_of_ble_eq_true rfl, Nat.le_of_ble_eq_true rfl⟩) rfl hl.1 rfl (Nat.le_of_ble_eq_true rfl) ⟨Nat.zero_le _, Nat.zero_le _⟩ dX5_writeTest_88 (fun H locs hW => ?_)
      have hz := Option.some.inj hf
      exact aw_vret C0 hW hz rfl dX5_writeTest_91
  · have hf := iff_ hc hf
    refine lv_aload_n hx hb dX5_writeTest_57 rfl (lv_at hl 0 rfl) ?_
    refine lv_aload_n hx hb dX5_writeTest_58 rfl (lv_at hl 0 rfl) ?_
    refine aw_get (v := .int (q7 24 3)) C0 hW (lv_fix (by decide)) (cel_5 kd24) rfl inG5 3 (by decide) wd47 rfl rfl dX5_writeTest_59 ?_
    refine lv_bipush (v := 97) hx hb dX5_writeTest_62 (by decide) ?_
    refine lv_iload_n hx hb dX5_writeTest_64 rfl (lv_at hl 1 rfl) ?_
    obtain ⟨q12, hq12, hf⟩ := bnd hf
    refine aw_cSi (rest := [.int 97, .int (q7 24 3), .ref (g.2.2 + 24)]) C0 hW (c_X7_otherColumnOf x1  hq12) (cw_X5_73 hts ⟨Nat.le_of_ble_eq_true rfl, Nat.le_of_ble_eq_true rfl⟩) rfl hl.1 rfl (Nat.le_of_ble_eq_true rfl) ⟨Nat.zero_le _, Nat.zero_le _⟩ dX5_writeTest_65 (fun H locs hW => ?_)
    refine lv_iadd hx hb dX5_writeTest_68 ?_
    refine lv_i2c (v := ((97 + q12).toUInt32 % 65536).toInt32) hx hb dX5_writeTest_69 rfl ?_
    obtain ⟨q13, hq13, hf⟩ := bnd hf
    refine aw_cVv (rest := []) C0 hW (lv_fix (by decide)) (cel_5 kd24) rfl (c_X5_insert (q7 24 3) (((97 + q12).toUInt32 % 65536).toInt32)  hq13) (cw_X5_65 hts ⟨Nat.le_of_ble_eq_true rfl, Nat.le_of_ble_eq_true rfl⟩) rfl hl.1 rfl (Nat.le_of_ble_eq_true rfl) ⟨Nat.zero_le _, Nat.zero_le _⟩ dX5_writeTest_70 (fun H locs hW => ?_)
    refine lv_goto (tgt := 91) hx hb dX5_writeTest_73 rfl ?_
    have hz := Option.some.inj hf
    exact aw_vret C0 hW hz rfl dX5_writeTest_91
theorem cw_X5_55 {Rm : Room} {s : State} {args : Array Value} (ht : ∀ w ∈ GT, w.before args s = true) (hR : rmX5_writeTest.frames + 1 ≤ Rm.frames ∧ 8 + (2 + 11) + rmX5_writeTest.locals ≤ Rm.locals) : CallW Rm s args RX5 RX5 55 yX5_writeTest cX5_writeTest 2 none (Cond.code yX5_writeTest cX5_writeTest 2 none :: GT) rmX5_writeTest 0 0 1 := cwV 1 ht (goodV wd215 wd216 wd217 wd209 wd218) rfl rfl rfl ⟨rfl, by decide +kernel, by decide +kernel, by decide +kernel⟩ hR
def f_X5_write_L21 (o1 : Option Nat) (P : Pool) (R : Rem) : Nat → Int32 → Mem → Option (Mem)
  | 0, _, _ => none
  | n + 1, w2, I =>
    o1.bind fun k3 =>
    (f_X2_size k3 P R).bind fun q4 =>
    if q4 ≤ w2 then (
      some I
    ) else (
      o1.bind fun k5 =>
      (f_X2_step k5 w2 P R I).bind fun q6 =>
      (f_X7_signOf q6).bind fun q7 =>
      if q7 = 33 then (
        (f_X5_negateLast P I).bind fun q11 =>
        f_X5_write_L21 o1 P R n (w2 + 1) q11
      ) else (
        if q7 = 38 then (
          (f_X5_joinLastTwo q7 P I).bind fun q8 =>
          f_X5_write_L21 o1 P R n (w2 + 1) q8
        ) else (
          if q7 = 124 then (
            (f_X5_joinLastTwo q7 P I).bind fun q10 =>
            f_X5_write_L21 o1 P R n (w2 + 1) q10
          ) else (
            (f_X5_writeTest q6 P I).bind fun q9 =>
            f_X5_write_L21 o1 P R n (w2 + 1) q9
          )
        )
      )
    )
def f_X5_write (o1 : Option Nat) (P : Pool) (R : Rem) (I : Mem) : Option (Mem) :=
  (f_X3_clear 26 ((up I 24 3 0))).bind fun q1 =>
  (f_X3_clear 28 q1).bind fun q2 =>
  (f_X5_write_L21 o1 P R fuel 0 q2).bind fun q12 =>
  some q12
abbrev rmX5_write : Room := { frames := 4, cells := 0, slots := 0, locals := 82 }
set_option maxHeartbeats 4000000 in
set_option maxRecDepth 100000 in
theorem c_X5_write {l : Launch} {g : Gam} {I : Mem} {R : Rem} {P : Pool} {Z : Zed} (o1 : Option Nat) (ho1 : ∀ k, o1 = some k → Kd P k = 2) {z : Mem} (hf : f_X5_write o1 P R I = some z) : Met l yX5_write (Cond.code yX5_write cX5_write 5 none :: GT) rmX5_write (va_Pc [.ref (g.2.2 + 24), va_rf (o1.map (fun y => g.2.2 + y))] (PW g I R P Z)) (QV g z R P Z) 0 0 (AA g) := by
  refine aw_ofW (lv0 := [(0, .ref (g.2.2 + 24)), (1, va_rf (o1.map (fun y => g.2.2 + y)))]) (by decide) (by cases o1 <;> exact Nat.le_of_ble_eq_true rfl) (by cases o1 <;> rfl) (fun p0 e s m args below meth c ls C0 hl hW => ?_)
  have C0 : CX g p0 s m args meth c RX5 cX5_write 5 none := C0
  have hx := C0.1; have hb := C0.2.1; have hown := C0.2.2.2.2.1; have hts := C0.2.2.2.2.2.1; have hKS := C0.2.2.2.2.2.2.1
  have L21 : ∀ (R : Rem) (n : Nat) (w2 : Int32) (I : Mem) (H : Heap) (locs : List Loc) (ls : Array Slot) (o : Mem), f_X5_write_L21 o1 P R n w2 I = some o → Wd g I R P Z s.heap H locs → lv_has ls 5 [(0, .ref (g.2.2 + 24)), (1, va_rf (o1.map (fun y => g.2.2 + y))), (2, .int w2)] → (∀ (H : Heap) (locs : List Loc) (ls : Array Slot), Wd g o R P Z s.heap H locs → lv_has ls 5 [] → W p0 l e rmX5_write s m args below meth c H locs 0 0 (MQ below (QV g z R P Z) args s 0 0 (AA g)) (F0 m 89 ls [])) → W p0 l e rmX5_write s m args below meth c H locs 0 0 (MQ below (QV g z R P Z) args s 0 0 (AA g)) (F0 m 21 ls []) := by
    intro R n
    induction n with
    | zero => intro w2 I H locs ls o hf; cases hf
    | succ n ih =>
      intro w2 I H locs ls o hf hW hl hK
      rw [f_X5_write_L21] at hf
      refine lv_iload_n hx hb dX5_write_21 rfl (lv_at hl 2 rfl) ?_
      refine aw_ald_n (x := o1) C0 dX5_write_22 rfl (lv_at hl 1 rfl) ?_
      obtain ⟨k3, ek3, hf⟩ := bnd hf
      have hk3 := ho1 k3 ek3
      refine W.eq (g2 := F0 m 23 ls ([.ref (g.2.2 + k3), .int w2])) (by rw [ek3]; rfl) ?_
      obtain ⟨q4, hq4, hf⟩ := bnd hf
      refine aw_cVi (rest := [.int w2]) C0 hW (lv_kd hW.1.2.2 hk3 (by decide)) (cel_2 hk3) rfl (c_X2_size k3 hk3 hq4) (cw_X5_32 hts ⟨Nat.le_of_ble_eq_true rfl, Nat.le_of_ble_eq_true rfl⟩) rfl hl.1 rfl (Nat.le_of_ble_eq_true rfl) ⟨Nat.zero_le _, Nat.zero_le _⟩ dX5_write_23 (fun H locs hW => ?_)
      refine lv_icmp_ge (tgt := 89) hx hb dX5_write_26 rfl (fun hc => ?_) (fun hc => ?_)
      · have hf := ift hc hf
        have ho := Option.some.inj hf
        subst ho
        exact hK H locs ls hW (lv_sub hl [] rfl)
      · have hf := iff_ hc hf
        refine aw_ald_n (x := o1) C0 dX5_write_29 rfl (lv_at hl 1 rfl) ?_
        refine lv_iload_n hx hb dX5_write_30 rfl (lv_at hl 2 rfl) ?_
        obtain ⟨k5, ek5, hf⟩ := bnd hf
        have hk5 := ho1 k5 ek5
        refine W.eq (g2 := F0 m 31 ls ([.int w2, .ref (g.2.2 + k5)])) (by rw [ek5]; rfl) ?_
        obtain ⟨q6, hq6, hf⟩ := bnd hf
        refine aw_cVi (rest := []) C0 hW (lv_kd hW.1.2.2 hk5 (by decide)) (cel_2 hk5) rfl (c_X2_step k5 w2 hk5 hq6) (cw_X5_38 hts ⟨Nat.le_of_ble_eq_true rfl, Nat.le_of_ble_eq_true rfl⟩) rfl hl.1 rfl (Nat.le_of_ble_eq_true rfl) ⟨Nat.zero_le _, Nat.zero_le _⟩ dX5_write_31 (fun H locs hW => ?_)
        refine lv_istore_n (lv' := [(3, .int q6), (0, .ref (g.2.2 + 24)), (1, va_rf (o1.map (fun y => g.2.2 + y))), (2, .int w2)]) hx hb dX5_write_34 rfl hl (Nat.le_of_ble_eq_true rfl) rfl (fun ls hl => ?_)
        refine lv_iload_n hx hb dX5_write_35 rfl (lv_at hl 0 rfl) ?_
        obtain ⟨q7, hq7, hf⟩ := bnd hf
        refine aw_cSi (rest := []) C0 hW (c_X7_signOf q6  hq7) (cw_X5_42 hts ⟨Nat.le_of_ble_eq_true rfl, Nat.le_of_ble_eq_true rfl⟩) rfl hl.1 rfl (Nat.le_of_ble_eq_true rfl) ⟨Nat.zero_le _, Nat.zero_le _⟩ dX5_write_36 (fun H locs hW => ?_)
        refine lv_istore (lv' := [(4, .int q7), (3, .int q6), (0, .ref (g.2.2 + 24)), (1, va_rf (o1.map (fun y => g.2.2 + y))), (2, .int w2)]) hx hb dX5_write_39 hl (Nat.le_of_ble_eq_true rfl) rfl (fun ls hl => ?_)
        refine lv_iload hx hb dX5_write_41 (lv_at hl 0 rfl) ?_
        refine lv_bipush (v := 33) hx hb dX5_write_43 (by decide) ?_
        refine lv_icmp_ne (tgt := 55) hx hb dX5_write_45 rfl (fun hc => ?_) (fun hc => ?_)
        · have hf := iff_ hc hf
          refine lv_iload hx hb dX5_write_55 (lv_at hl 0 rfl) ?_
          refine lv_bipush (v := 38) hx hb dX5_write_57 (by decide) ?_
          refine lv_icmp_eq (tgt := 69) hx hb dX5_write_59 rfl (fun hc => ?_) (fun hc => ?_)
          · have hf := ift hc hf
            refine lv_aload_n hx hb dX5_write_69 rfl (lv_at hl 2 rfl) ?_
            refine lv_iload hx hb dX5_write_70 (lv_at hl 0 rfl) ?_
            obtain ⟨q8, hq8, hf⟩ := bnd hf
            refine aw_cVv (rest := []) C0 hW (lv_fix (by decide)) (cel_5 kd24) rfl (c_X5_joinLastTwo q7  hq8) (cw_X5_51 hts ⟨Nat.le_of_ble_eq_true rfl, Nat.le_of_ble_eq_true rfl⟩) rfl hl.1 rfl (Nat.le_of_ble_eq_true rfl) ⟨Nat.zero_le _, Nat.zero_le _⟩ dX5_write_72 (fun H locs hW => ?_)
            refine lv_goto (tgt := 83) hx hb dX5_write_75 rfl ?_
            refine lv_iinc (k := 4) (v := w2 + 1) (lv' := [(2, .int (w2 + 1)), (4, .int q7), (3, .int q6), (0, .ref (g.2.2 + 24)), (1, va_rf (o1.map (fun y => g.2.2 + y)))]) hx hb dX5_write_83 hl rfl (congrArg (fun t => w2 + t) (by decide : Int32.ofInt 1 = 1)) (Nat.le_of_ble_eq_true rfl) (by cases o1 <;> rfl) (fun ls hl => ?_)
            refine lv_goto (tgt := 21) hx hb dX5_write_86 rfl ?_
            exact ih _ _ H locs ls o hf hW (lv_sub hl [3, 4, 0] rfl) hK
          · have hf := iff_ hc hf
            refine lv_iload hx hb dX5_write_62 (lv_at hl 0 rfl) ?_
            refine lv_bipush (v := 124) hx hb dX5_write_64 (by decide) ?_
            refine lv_icmp_ne (tgt := 78) hx hb dX5_write_66 rfl (fun hc => ?_) (fun hc => ?_)
            · have hf := iff_ hc hf
              refine lv_aload_n hx hb dX5_write_78 rfl (lv_at hl 2 rfl) ?_
              refine lv_iload_n hx hb dX5_write_79 rfl (lv_at hl 1 rfl) ?_
              obtain ⟨q9, hq9, hf⟩ := bnd hf
              refine aw_cVv (rest := []) C0 hW (lv_fix (by decide)) (cel_5 kd24) rfl (c_X5_writeTest q6  hq9) (cw_X5_55 hts ⟨Nat.le_of_ble_eq_true rfl, Nat.le_of_ble_eq_true rfl⟩) rfl hl.1 rfl (Nat.le_of_ble_eq_true rfl) ⟨Nat.zero_le _, Nat.zero_le _⟩ dX5_write_80 (fun H locs hW => ?_)
              refine lv_iinc (k := 4) (v := w2 + 1) (lv' := [(2, .int (w2 + 1)), (4, .int q7), (3, .int q6), (0, .ref (g.2.2 + 24)), (1, va_rf (o1.map (fun y => g.2.2 + y)))]) hx hb dX5_write_83 hl rfl (congrArg (fun t => w2 + t) (by decide : Int32.ofInt 1 = 1)) (Nat.le_of_ble_eq_true rfl) (by cases o1 <;> rfl) (fun ls hl => ?_)
              refine lv_goto (tgt := 21) hx hb dX5_write_86 rfl ?_
              exact ih _ _ H locs ls o hf hW (lv_sub hl [3, 4, 0] rfl) hK
            · have hf := ift hc hf
              refine lv_aload_n hx hb dX5_write_69 rfl (lv_at hl 2 rfl) ?_
              refine lv_iload hx hb dX5_write_70 (lv_at hl 0 rfl) ?_
              obtain ⟨q10, hq10, hf⟩ := bnd hf
              refine aw_cVv (rest := []) C0 hW (lv_fix (by decide)) (cel_5 kd24) rfl (c_X5_joinLastTwo q7  hq10) (cw_X5_51 hts ⟨Nat.le_of_ble_eq_true rfl, Nat.le_of_ble_eq_true rfl⟩) rfl hl.1 rfl (Nat.le_of_ble_eq_true rfl) ⟨Nat.zero_le _, Nat.zero_le _⟩ dX5_write_72 (fun H locs hW => ?_)
              refine lv_goto (tgt := 83) hx hb dX5_write_75 rfl ?_
              refine lv_iinc (k := 4) (v := w2 + 1) (lv' := [(2, .int (w2 + 1)), (4, .int q7), (3, .int q6), (0, .ref (g.2.2 + 24)), (1, va_rf (o1.map (fun y => g.2.2 + y)))]) hx hb dX5_write_83 hl rfl (congrArg (fun t => w2 + t) (by decide : Int32.ofInt 1 = 1)) (Nat.le_of_ble_eq_true rfl) (by cases o1 <;> rfl) (fun ls hl => ?_)
              refine lv_goto (tgt := 21) hx hb dX5_write_86 rfl ?_
              exact ih _ _ H locs ls o hf hW (lv_sub hl [3, 4, 0] rfl) hK
        · have hf := ift hc hf
          refine lv_aload_n hx hb dX5_write_48 rfl (lv_at hl 2 rfl) ?_
          obtain ⟨q11, hq11, hf⟩ := bnd hf
          refine aw_cVv (rest := []) C0 hW (lv_fix (by decide)) (cel_5 kd24) rfl (c_X5_negateLast  hq11) (cw_X5_48 hts ⟨Nat.le_of_ble_eq_true rfl, Nat.le_of_ble_eq_true rfl⟩) rfl hl.1 rfl (Nat.le_of_ble_eq_true rfl) ⟨Nat.zero_le _, Nat.zero_le _⟩ dX5_write_49 (fun H locs hW => ?_)
          refine lv_goto (tgt := 83) hx hb dX5_write_52 rfl ?_
          refine lv_iinc (k := 4) (v := w2 + 1) (lv' := [(2, .int (w2 + 1)), (4, .int q7), (3, .int q6), (0, .ref (g.2.2 + 24)), (1, va_rf (o1.map (fun y => g.2.2 + y)))]) hx hb dX5_write_83 hl rfl (congrArg (fun t => w2 + t) (by decide : Int32.ofInt 1 = 1)) (Nat.le_of_ble_eq_true rfl) (by cases o1 <;> rfl) (fun ls hl => ?_)
          refine lv_goto (tgt := 21) hx hb dX5_write_86 rfl ?_
          exact ih _ _ H locs ls o hf hW (lv_sub hl [3, 4, 0] rfl) hK
  unfold f_X5_write at hf
  obtain ⟨H, hH⟩ : ∃ H, H = s.heap := ⟨_, rfl⟩
  obtain ⟨locs, hlc⟩ : ∃ q : List Loc, q = [] := ⟨_, rfl⟩
  rw [show W p0 l e rmX5_write s m args below meth c s.heap [] 0 0 (MQ below (QV g z R P Z) args s 0 0 (AA g)) (F0 m 0 ls []) = W p0 l e rmX5_write s m args below meth c H locs 0 0 (MQ below (QV g z R P Z) args s 0 0 (AA g)) (F0 m 0 ls []) by rw [hH, hlc]]
  have hW : Wd g I R P Z s.heap H locs := by rw [hH, hlc]; exact hW
  refine lv_aload_n hx hb dX5_write_0 rfl (lv_at hl 0 rfl) ?_
  refine lv_iconst (v := 0) hx hb dX5_write_1 (by decide) ?_
  refine aw_put C0 hW (lv_fix (by decide)) (cel_5 kd24) rfl inG5 tyX5 tyX5_ok nmX5 3 (by decide) wd47 rfl rfl (ty := .int) rfl rfl rfl (Nat.le_of_ble_eq_true rfl) (pu_5_3 kd24) dX5_write_2 (fun H locs hW => ?_)
  refine lv_aload_n hx hb dX5_write_5 rfl (lv_at hl 0 rfl) ?_
  refine aw_get (v := .ref (g.2.2 + 26)) C0 hW (lv_fix (by decide)) (cel_5 kd24) rfl inG5 1 (by decide) wd50 rfl rfl dX5_write_6 ?_
  obtain ⟨q1, hq1, hf⟩ := bnd hf
  refine aw_cVv (rest := []) C0 hW (lv_fix (by decide)) (cel_3 kd26) rfl (c_X3_clear 26 kd26 hq1) (cw_X5_29 hts ⟨Nat.le_of_ble_eq_true rfl, Nat.le_of_ble_eq_true rfl⟩) rfl hl.1 rfl (Nat.le_of_ble_eq_true rfl) ⟨Nat.zero_le _, Nat.zero_le _⟩ dX5_write_9 (fun H locs hW => ?_)
  refine lv_aload_n hx hb dX5_write_12 rfl (lv_at hl 0 rfl) ?_
  refine aw_get (v := .ref (g.2.2 + 28)) C0 hW (lv_fix (by decide)) (cel_5 kd24) rfl inG5 2 (by decide) wd49 rfl rfl dX5_write_13 ?_
  obtain ⟨q2, hq2, hf⟩ := bnd hf
  refine aw_cVv (rest := []) C0 hW (lv_fix (by decide)) (cel_3 kd28) rfl (c_X3_clear 28 kd28 hq2) (cw_X5_29 hts ⟨Nat.le_of_ble_eq_true rfl, Nat.le_of_ble_eq_true rfl⟩) rfl hl.1 rfl (Nat.le_of_ble_eq_true rfl) ⟨Nat.zero_le _, Nat.zero_le _⟩ dX5_write_16 (fun H locs hW => ?_)
  refine lv_iconst (v := 0) hx hb dX5_write_19 (by decide) ?_
  refine lv_istore_n (lv' := [(2, .int 0), (0, .ref (g.2.2 + 24)), (1, va_rf (o1.map (fun y => g.2.2 + y)))]) hx hb dX5_write_20 rfl hl (Nat.le_of_ble_eq_true rfl) (by cases o1 <;> rfl) (fun ls hl => ?_)
  obtain ⟨q12, hq12, hf⟩ := bnd hf
  refine L21 R fuel 0 q2 H locs ls _ hq12 hW (lv_sub hl [1, 2, 0] rfl) (fun H locs ls hW hl => ?_)
  have hz := Option.some.inj hf
  exact aw_vret C0 hW hz rfl dX5_write_89
def f_X5_length (I : Mem) : Option (Int32) :=
  some (I 24 3)
abbrev rmX5_length : Room := { frames := 0, cells := 0, slots := 0, locals := 0 }
set_option maxHeartbeats 4000000 in
set_option maxRecDepth 100000 in
theorem c_X5_length {l : Launch} {g : Gam} {I : Mem} {R : Rem} {P : Pool} {Z : Zed}   {z : Int32} (hf : f_X5_length I = some z) : Met l yX5_length (Cond.code yX5_length cX5_length 1 (some .int) :: GT) rmX5_length (va_Pc [.ref (g.2.2 + 24)] (PW g I R P Z)) (QI g z I R P Z) 0 0 (AA g) := by
  refine aw_ofW (lv0 := [(0, .ref (g.2.2 + 24))]) (by decide) (by exact Nat.le_of_ble_eq_true rfl) (by rfl) (fun p0 e s m args below meth c ls C0 hl hW => ?_)
  have C0 : CX g p0 s m args meth c RX5 cX5_length 1 (some .int) := C0
  have hx := C0.1; have hb := C0.2.1; have hown := C0.2.2.2.2.1; have hts := C0.2.2.2.2.2.1; have hKS := C0.2.2.2.2.2.2.1
  unfold f_X5_length at hf
  obtain ⟨H, hH⟩ : ∃ H, H = s.heap := ⟨_, rfl⟩
  obtain ⟨locs, hlc⟩ : ∃ q : List Loc, q = [] := ⟨_, rfl⟩
  rw [show W p0 l e rmX5_length s m args below meth c s.heap [] 0 0 (MQ below (QI g z I R P Z) args s 0 0 (AA g)) (F0 m 0 ls []) = W p0 l e rmX5_length s m args below meth c H locs 0 0 (MQ below (QI g z I R P Z) args s 0 0 (AA g)) (F0 m 0 ls []) by rw [hH, hlc]]
  have hW : Wd g I R P Z s.heap H locs := by rw [hH, hlc]; exact hW
  refine lv_aload_n hx hb dX5_length_0 rfl (lv_at hl 0 rfl) ?_
  refine aw_get (v := .int (I 24 3)) C0 hW (lv_fix (by decide)) (cel_5 kd24) rfl inG5 3 (by decide) wd47 rfl rfl dX5_length_1 ?_
  have hz := Option.some.inj hf
  exact aw_iret C0 hW hz rfl rfl dX5_length_4
def f_X8_allRows (I : Mem) : Option (Int32) :=
  (rd I 3 2 0).bind fun v1 =>
  (rd I 3 2 1).bind fun v2 =>
  some (v1 + v2)
abbrev rmX8_allRows : Room := { frames := 0, cells := 0, slots := 0, locals := 0 }
set_option maxHeartbeats 4000000 in
set_option maxRecDepth 100000 in
theorem c_X8_allRows {l : Launch} {g : Gam} {I : Mem} {R : Rem} {P : Pool} {Z : Zed}   {z : Int32} (hf : f_X8_allRows I = some z) : Met l yX8_allRows (Cond.code yX8_allRows cX8_allRows 1 (some .int) :: GT) rmX8_allRows (va_Pc [.ref (g.2.2 + 0)] (PW g I R P Z)) (QI g z I R P Z) 0 0 (AA g) := by
  refine aw_ofW (lv0 := [(0, .ref (g.2.2 + 0))]) (by decide) (by exact Nat.le_of_ble_eq_true rfl) (by rfl) (fun p0 e s m args below meth c ls C0 hl hW => ?_)
  have C0 : CX g p0 s m args meth c RX8 cX8_allRows 1 (some .int) := C0
  have hx := C0.1; have hb := C0.2.1; have hown := C0.2.2.2.2.1; have hts := C0.2.2.2.2.2.1; have hKS := C0.2.2.2.2.2.2.1
  unfold f_X8_allRows at hf
  obtain ⟨H, hH⟩ : ∃ H, H = s.heap := ⟨_, rfl⟩
  obtain ⟨locs, hlc⟩ : ∃ q : List Loc, q = [] := ⟨_, rfl⟩
  rw [show W p0 l e rmX8_allRows s m args below meth c s.heap [] 0 0 (MQ below (QI g z I R P Z) args s 0 0 (AA g)) (F0 m 0 ls []) = W p0 l e rmX8_allRows s m args below meth c H locs 0 0 (MQ below (QI g z I R P Z) args s 0 0 (AA g)) (F0 m 0 ls []) by rw [hH, hlc]]
  have hW : Wd g I R P Z s.heap H locs := by rw [hH, hlc]; exact hW
  refine lv_aload_n hx hb dX8_allRows_0 rfl (lv_at hl 0 rfl) ?_
  refine aw_get (v := .ref (g.2.2 + 1)) C0 hW (lv_fix (by decide)) (cel_7 kd0) rfl inG7 0 (by decide) wd13 rfl rfl dX8_allRows_1 ?_
  refine aw_get (v := .ref (g.2.2 + 3)) C0 hW (lv_fix (by decide)) (cel_6 kd1) rfl inG6 1 (by decide) wd37 rfl rfl dX8_allRows_4 ?_
  refine lv_iconst (v := 0) hx hb dX8_allRows_7 (by decide) ?_
  obtain ⟨v1, hv1, hf⟩ := bnd hf
  refine aw_iald C0 hW kd3 ln3 hv1 dX8_allRows_8 ?_
  refine lv_aload_n hx hb dX8_allRows_9 rfl (lv_at hl 0 rfl) ?_
  refine aw_get (v := .ref (g.2.2 + 1)) C0 hW (lv_fix (by decide)) (cel_7 kd0) rfl inG7 0 (by decide) wd13 rfl rfl dX8_allRows_10 ?_
  refine aw_get (v := .ref (g.2.2 + 3)) C0 hW (lv_fix (by decide)) (cel_6 kd1) rfl inG6 1 (by decide) wd37 rfl rfl dX8_allRows_13 ?_
  refine lv_iconst (v := 1) hx hb dX8_allRows_16 (by decide) ?_
  obtain ⟨v2, hv2, hf⟩ := bnd hf
  refine aw_iald C0 hW kd3 ln3 hv2 dX8_allRows_17 ?_
  refine lv_iadd hx hb dX8_allRows_18 ?_
  have hz := Option.some.inj hf
  exact aw_iret C0 hW hz rfl rfl dX8_allRows_19
def f_X8_unknownCells_L5 (x1 : Int32) (x2 : Int32) (I : Mem) : Nat → Int32 → Int32 → Option (Int32)
  | 0, _, _ => none
  | n + 1, w3, w4 =>
    if 4 ≤ w4 then (
      some w3
    ) else (
      (f_X8_rowsWithCell x1 w4 ((-1)) I).bind fun q1 =>
      (f_J6_bitCount_0f7a4 (x2 &&& q1)).bind fun q2 =>
      f_X8_unknownCells_L5 x1 x2 I n (w3 + q2) (w4 + 1)
    )
def f_X8_unknownCells (x1 : Int32) (x2 : Int32) (I : Mem) : Option (Int32) :=
  (f_X8_unknownCells_L5 x1 x2 I fuel 0 0).bind fun q3 =>
  some q3
abbrev rmX8_unknownCells : Room := { frames := 2, cells := 0, slots := 0, locals := 47 }
set_option maxHeartbeats 4000000 in
set_option maxRecDepth 100000 in
theorem c_X8_unknownCells {l : Launch} {g : Gam} {I : Mem} {R : Rem} {P : Pool} {Z : Zed} (x1 : Int32) (x2 : Int32)  {z : Int32} (hf : f_X8_unknownCells x1 x2 I = some z) : Met l yX8_unknownCells (Cond.code yX8_unknownCells cX8_unknownCells 5 (some .int) :: GT) rmX8_unknownCells (va_Pc [.ref (g.2.2 + 0), .int x1, .int x2] (PW g I R P Z)) (QI g z I R P Z) 0 0 (AA g) := by
  refine aw_ofW (lv0 := [(0, .ref (g.2.2 + 0)), (1, .int x1), (2, .int x2)]) (by decide) (by exact Nat.le_of_ble_eq_true rfl) (by rfl) (fun p0 e s m args below meth c ls C0 hl hW => ?_)
  have C0 : CX g p0 s m args meth c RX8 cX8_unknownCells 5 (some .int) := C0
  have hx := C0.1; have hb := C0.2.1; have hown := C0.2.2.2.2.1; have hts := C0.2.2.2.2.2.1; have hKS := C0.2.2.2.2.2.2.1
  have L5 : ∀ (I : Mem) (n : Nat) (w3 : Int32) (w4 : Int32) (H : Heap) (locs : List Loc) (ls : Array Slot) (o : Int32), f_X8_unknownCells_L5 x1 x2 I n w3 w4 = some o → Wd g I R P Z s.heap H locs → lv_has ls 5 [(0, .ref (g.2.2 + 0)), (1, .int x1), (2, .int x2), (3, .int w3), (4, .int w4)] → (∀ (H : Heap) (locs : List Loc) (ls : Array Slot), Wd g I R P Z s.heap H locs → lv_has ls 5 [(3, .int o)] → W p0 l e rmX8_unknownCells s m args below meth c H locs 0 0 (MQ below (QI g z I R P Z) args s 0 0 (AA g)) (F0 m 33 ls [])) → W p0 l e rmX8_unknownCells s m args below meth c H locs 0 0 (MQ below (QI g z I R P Z) args s 0 0 (AA g)) (F0 m 5 ls []) := by
    intro I n
    induction n with
    | zero => intro w3 w4 H locs ls o hf; cases hf
    | succ n ih =>
      intro w3 w4 H locs ls o hf hW hl hK
      rw [f_X8_unknownCells_L5] at hf
      refine lv_iload hx hb dX8_unknownCells_5 (lv_at hl 4 rfl) ?_
      refine lv_iconst (v := 4) hx hb dX8_unknownCells_7 (by decide) ?_
      refine lv_icmp_ge (tgt := 33) hx hb dX8_unknownCells_8 rfl (fun hc => ?_) (fun hc => ?_)
      · have hf := ift hc hf
        have ho := Option.some.inj hf
        subst ho
        exact hK H locs ls hW (lv_sub hl [3] rfl)
      · have hf := iff_ hc hf
        refine lv_iload_n hx hb dX8_unknownCells_11 rfl (lv_at hl 3 rfl) ?_
        refine lv_iload_n hx hb dX8_unknownCells_12 rfl (lv_at hl 2 rfl) ?_
        refine lv_aload_n hx hb dX8_unknownCells_13 rfl (lv_at hl 0 rfl) ?_
        refine lv_iload_n hx hb dX8_unknownCells_14 rfl (lv_at hl 1 rfl) ?_
        refine lv_iload hx hb dX8_unknownCells_15 (lv_at hl 4 rfl) ?_
        refine lv_iconst (v := (-1)) hx hb dX8_unknownCells_17 (by decide) ?_
        obtain ⟨q1, hq1, hf⟩ := bnd hf
        refine aw_cVi (rest := [.int x2, .int w3]) C0 hW (lv_fix (by decide)) (cel_7 kd0) rfl (c_X8_rowsWithCell x1 w4 ((-1))  hq1) (cw_X8_218 hts ⟨Nat.le_of_ble_eq_true rfl, Nat.le_of_ble_eq_true rfl⟩) rfl hl.1 rfl (Nat.le_of_ble_eq_true rfl) ⟨Nat.zero_le _, Nat.zero_le _⟩ dX8_unknownCells_18 (fun H locs hW => ?_)
        refine lv_iand hx hb dX8_unknownCells_21 ?_
        obtain ⟨q2, hq2, hf⟩ := bnd hf
        refine aw_cSi (rest := [.int w3]) C0 hW (c_J6_bitCount_0f7a4 (x2 &&& q1)  hq2) (cw_X8_179 hts ⟨Nat.le_of_ble_eq_true rfl, Nat.le_of_ble_eq_true rfl⟩) rfl hl.1 rfl (Nat.le_of_ble_eq_true rfl) ⟨Nat.zero_le _, Nat.zero_le _⟩ dX8_unknownCells_22 (fun H locs hW => ?_)
        refine lv_iadd hx hb dX8_unknownCells_25 ?_
        refine lv_istore_n (lv' := [(3, .int (w3 + q2)), (0, .ref (g.2.2 + 0)), (1, .int x1), (2, .int x2), (4, .int w4)]) hx hb dX8_unknownCells_26 rfl hl (Nat.le_of_ble_eq_true rfl) rfl (fun ls hl => ?_)
        refine lv_iinc (k := 4) (v := w4 + 1) (lv' := [(4, .int (w4 + 1)), (3, .int (w3 + q2)), (0, .ref (g.2.2 + 0)), (1, .int x1), (2, .int x2)]) hx hb dX8_unknownCells_27 hl rfl (congrArg (fun t => w4 + t) (by decide : Int32.ofInt 1 = 1)) (Nat.le_of_ble_eq_true rfl) rfl (fun ls hl => ?_)
        refine lv_goto (tgt := 5) hx hb dX8_unknownCells_30 rfl ?_
        exact ih _ _ H locs ls o hf hW (lv_sub hl [2, 3, 4, 1, 0] rfl) hK
  unfold f_X8_unknownCells at hf
  obtain ⟨H, hH⟩ : ∃ H, H = s.heap := ⟨_, rfl⟩
  obtain ⟨locs, hlc⟩ : ∃ q : List Loc, q = [] := ⟨_, rfl⟩
  rw [show W p0 l e rmX8_unknownCells s m args below meth c s.heap [] 0 0 (MQ below (QI g z I R P Z) args s 0 0 (AA g)) (F0 m 0 ls []) = W p0 l e rmX8_unknownCells s m args below meth c H locs 0 0 (MQ below (QI g z I R P Z) args s 0 0 (AA g)) (F0 m 0 ls []) by rw [hH, hlc]]
  have hW : Wd g I R P Z s.heap H locs := by rw [hH, hlc]; exact hW
  refine lv_iconst (v := 0) hx hb dX8_unknownCells_0 (by decide) ?_
  refine lv_istore_n (lv' := [(3, .int 0), (0, .ref (g.2.2 + 0)), (1, .int x1), (2, .int x2)]) hx hb dX8_unknownCells_1 rfl hl (Nat.le_of_ble_eq_true rfl) rfl (fun ls hl => ?_)
  refine lv_iconst (v := 0) hx hb dX8_unknownCells_2 (by decide) ?_
  refine lv_istore (lv' := [(4, .int 0), (3, .int 0), (0, .ref (g.2.2 + 0)), (1, .int x1), (2, .int x2)]) hx hb dX8_unknownCells_3 hl (Nat.le_of_ble_eq_true rfl) rfl (fun ls hl => ?_)
  obtain ⟨q3, hq3, hf⟩ := bnd hf
  refine L5 I fuel 0 0 H locs ls _ hq3 hW (lv_sub hl [2, 3, 4, 1, 0] rfl) (fun H locs ls hW hl => ?_)
  refine lv_iload_n hx hb dX8_unknownCells_33 rfl (lv_at hl 0 rfl) ?_
  have hz := Option.some.inj hf
  exact aw_iret C0 hW hz rfl rfl dX8_unknownCells_34
theorem cw_X8_308 {Rm : Room} {s : State} {args : Array Value} (ht : ∀ w ∈ GT, w.before args s = true) (hR : rmX8_unknownCells.frames + 1 ≤ Rm.frames ∧ 8 + (5 + 11) + rmX8_unknownCells.locals ≤ Rm.locals) : CallW Rm s args RX8 RX8 308 yX8_unknownCells cX8_unknownCells 5 (some .int) (Cond.code yX8_unknownCells cX8_unknownCells 5 (some .int) :: GT) rmX8_unknownCells 0 0 2 := cwV 2 ht (goodV wd291 wd292 wd293 wd243 wd294) rfl rfl rfl ⟨rfl, by decide +kernel, by decide +kernel, by decide +kernel⟩ hR
def f_X8_sumOf_L6 (x1 : Int32) (x2 : Int32) (x3 : Int32) (I : Mem) : Nat → Int32 → Int32 → Option (Int32)
  | 0, _, _ => none
  | n + 1, w4, w5 =>
    (rd I 3 2 x1).bind fun v1 =>
    if v1 ≤ w5 then (
      some w4
    ) else (
      (f_X8_place x1 w5 x3).bind fun q2 =>
      (rd I 2 128 q2).bind fun v3 =>
      (f_X8_hasBit x2 w5).bind fun q4 =>
      if q4 = 0 then (
        f_X8_sumOf_L6 x1 x2 x3 I n w4 (w5 + 1)
      ) else (
        if v3 = ((-1)) then (
          f_X8_sumOf_L6 x1 x2 x3 I n w4 (w5 + 1)
        ) else (
          f_X8_sumOf_L6 x1 x2 x3 I n (w4 + v3) (w5 + 1)
        )
      )
    )
def f_X8_sumOf (x1 : Int32) (x2 : Int32) (x3 : Int32) (I : Mem) : Option (Int32) :=
  (f_X8_sumOf_L6 x1 x2 x3 I fuel 0 0).bind fun q5 =>
  some q5
abbrev rmX8_sumOf : Room := { frames := 1, cells := 0, slots := 0, locals := 22 }
set_option maxHeartbeats 4000000 in
set_option maxRecDepth 100000 in
theorem c_X8_sumOf {l : Launch} {g : Gam} {I : Mem} {R : Rem} {P : Pool} {Z : Zed} (x1 : Int32) (x2 : Int32) (x3 : Int32)  {z : Int32} (hf : f_X8_sumOf x1 x2 x3 I = some z) : Met l yX8_sumOf (Cond.code yX8_sumOf cX8_sumOf 7 (some .int) :: GT) rmX8_sumOf (va_Pc [.ref (g.2.2 + 0), .int x1, .int x2, .int x3] (PW g I R P Z)) (QI g z I R P Z) 0 0 (AA g) := by
  refine aw_ofW (lv0 := [(0, .ref (g.2.2 + 0)), (1, .int x1), (2, .int x2), (3, .int x3)]) (by decide) (by exact Nat.le_of_ble_eq_true rfl) (by rfl) (fun p0 e s m args below meth c ls C0 hl hW => ?_)
  have C0 : CX g p0 s m args meth c RX8 cX8_sumOf 7 (some .int) := C0
  have hx := C0.1; have hb := C0.2.1; have hown := C0.2.2.2.2.1; have hts := C0.2.2.2.2.2.1; have hKS := C0.2.2.2.2.2.2.1
  have L6 : ∀ (I : Mem) (n : Nat) (w4 : Int32) (w5 : Int32) (H : Heap) (locs : List Loc) (ls : Array Slot) (o : Int32), f_X8_sumOf_L6 x1 x2 x3 I n w4 w5 = some o → Wd g I R P Z s.heap H locs → lv_has ls 7 [(0, .ref (g.2.2 + 0)), (1, .int x1), (2, .int x2), (3, .int x3), (4, .int w4), (5, .int w5)] → (∀ (H : Heap) (locs : List Loc) (ls : Array Slot), Wd g I R P Z s.heap H locs → lv_has ls 7 [(4, .int o)] → W p0 l e rmX8_sumOf s m args below meth c H locs 0 0 (MQ below (QI g z I R P Z) args s 0 0 (AA g)) (F0 m 65 ls [])) → W p0 l e rmX8_sumOf s m args below meth c H locs 0 0 (MQ below (QI g z I R P Z) args s 0 0 (AA g)) (F0 m 6 ls []) := by
    intro I n
    induction n with
    | zero => intro w4 w5 H locs ls o hf; cases hf
    | succ n ih =>
      intro w4 w5 H locs ls o hf hW hl hK
      rw [f_X8_sumOf_L6] at hf
      refine lv_iload hx hb dX8_sumOf_6 (lv_at hl 5 rfl) ?_
      refine lv_aload_n hx hb dX8_sumOf_8 rfl (lv_at hl 0 rfl) ?_
      refine aw_get (v := .ref (g.2.2 + 1)) C0 hW (lv_fix (by decide)) (cel_7 kd0) rfl inG7 0 (by decide) wd13 rfl rfl dX8_sumOf_9 ?_
      refine aw_get (v := .ref (g.2.2 + 3)) C0 hW (lv_fix (by decide)) (cel_6 kd1) rfl inG6 1 (by decide) wd37 rfl rfl dX8_sumOf_12 ?_
      refine lv_iload_n hx hb dX8_sumOf_15 rfl (lv_at hl 1 rfl) ?_
      obtain ⟨v1, hv1, hf⟩ := bnd hf
      refine aw_iald C0 hW kd3 ln3 hv1 dX8_sumOf_16 ?_
      refine lv_icmp_ge (tgt := 65) hx hb dX8_sumOf_17 rfl (fun hc => ?_) (fun hc => ?_)
      · have hf := ift hc hf
        have ho := Option.some.inj hf
        subst ho
        exact hK H locs ls hW (lv_sub hl [4] rfl)
      · have hf := iff_ hc hf
        refine lv_aload_n hx hb dX8_sumOf_20 rfl (lv_at hl 0 rfl) ?_
        refine aw_get (v := .ref (g.2.2 + 1)) C0 hW (lv_fix (by decide)) (cel_7 kd0) rfl inG7 0 (by decide) wd13 rfl rfl dX8_sumOf_21 ?_
        refine aw_get (v := .ref (g.2.2 + 2)) C0 hW (lv_fix (by decide)) (cel_6 kd1) rfl inG6 0 (by decide) wd30 rfl rfl dX8_sumOf_24 ?_
        refine lv_iload_n hx hb dX8_sumOf_27 rfl (lv_at hl 1 rfl) ?_
        refine lv_iload hx hb dX8_sumOf_28 (lv_at hl 5 rfl) ?_
        refine lv_iload_n hx hb dX8_sumOf_30 rfl (lv_at hl 3 rfl) ?_
        obtain ⟨q2, hq2, hf⟩ := bnd hf
        refine aw_cSi (rest := [.ref (g.2.2 + 2)]) C0 hW (c_X8_place x1 w5 x3  hq2) (cw_X8_105 hts ⟨Nat.le_of_ble_eq_true rfl, Nat.le_of_ble_eq_true rfl⟩) rfl hl.1 rfl (Nat.le_of_ble_eq_true rfl) ⟨Nat.zero_le _, Nat.zero_le _⟩ dX8_sumOf_31 (fun H locs hW => ?_)
        obtain ⟨v3, hv3, hf⟩ := bnd hf
        refine aw_iald C0 hW kd2 ln2 hv3 dX8_sumOf_34 ?_
        refine lv_istore (lv' := [(6, .int v3), (0, .ref (g.2.2 + 0)), (1, .int x1), (2, .int x2), (3, .int x3), (4, .int w4), (5, .int w5)]) hx hb dX8_sumOf_35 hl (Nat.le_of_ble_eq_true rfl) rfl (fun ls hl => ?_)
        refine lv_iload_n hx hb dX8_sumOf_37 rfl (lv_at hl 3 rfl) ?_
        refine lv_iload hx hb dX8_sumOf_38 (lv_at hl 6 rfl) ?_
        obtain ⟨q4, hq4, hf⟩ := bnd hf
        refine aw_cSi (rest := []) C0 hW (c_X8_hasBit x2 w5  hq4) (cw_X8_185 hts ⟨Nat.le_of_ble_eq_true rfl, Nat.le_of_ble_eq_true rfl⟩) rfl hl.1 rfl (Nat.le_of_ble_eq_true rfl) ⟨Nat.zero_le _, Nat.zero_le _⟩ dX8_sumOf_40 (fun H locs hW => ?_)
        refine lv_if_eq (tgt := 59) hx hb dX8_sumOf_43 rfl (fun hc => ?_) (fun hc => ?_)
        · have hf := ift hc hf
          refine lv_iinc (k := 6) (v := w5 + 1) (lv' := [(5, .int (w5 + 1)), (6, .int v3), (0, .ref (g.2.2 + 0)), (1, .int x1), (2, .int x2), (3, .int x3), (4, .int w4)]) hx hb dX8_sumOf_59 hl rfl (congrArg (fun t => w5 + t) (by decide : Int32.ofInt 1 = 1)) (Nat.le_of_ble_eq_true rfl) rfl (fun ls hl => ?_)
          refine lv_goto (tgt := 6) hx hb dX8_sumOf_62 rfl ?_
          exact ih _ _ H locs ls o hf hW (lv_sub hl [2, 3, 4, 5, 6, 0] rfl) hK
        · have hf := iff_ hc hf
          refine lv_iload hx hb dX8_sumOf_46 (lv_at hl 0 rfl) ?_
          refine lv_iconst (v := (-1)) hx hb dX8_sumOf_48 (by decide) ?_
          refine lv_icmp_eq (tgt := 59) hx hb dX8_sumOf_49 rfl (fun hc => ?_) (fun hc => ?_)
          · have hf := ift hc hf
            refine lv_iinc (k := 6) (v := w5 + 1) (lv' := [(5, .int (w5 + 1)), (6, .int v3), (0, .ref (g.2.2 + 0)), (1, .int x1), (2, .int x2), (3, .int x3), (4, .int w4)]) hx hb dX8_sumOf_59 hl rfl (congrArg (fun t => w5 + t) (by decide : Int32.ofInt 1 = 1)) (Nat.le_of_ble_eq_true rfl) rfl (fun ls hl => ?_)
            refine lv_goto (tgt := 6) hx hb dX8_sumOf_62 rfl ?_
            exact ih _ _ H locs ls o hf hW (lv_sub hl [2, 3, 4, 5, 6, 0] rfl) hK
          · have hf := iff_ hc hf
            refine lv_iload hx hb dX8_sumOf_52 (lv_at hl 5 rfl) ?_
            refine lv_iload hx hb dX8_sumOf_54 (lv_at hl 0 rfl) ?_
            refine lv_iadd hx hb dX8_sumOf_56 ?_
            refine lv_istore (lv' := [(4, .int (w4 + v3)), (6, .int v3), (0, .ref (g.2.2 + 0)), (1, .int x1), (2, .int x2), (3, .int x3), (5, .int w5)]) hx hb dX8_sumOf_57 hl (Nat.le_of_ble_eq_true rfl) rfl (fun ls hl => ?_)
            refine lv_iinc (k := 6) (v := w5 + 1) (lv' := [(5, .int (w5 + 1)), (4, .int (w4 + v3)), (6, .int v3), (0, .ref (g.2.2 + 0)), (1, .int x1), (2, .int x2), (3, .int x3)]) hx hb dX8_sumOf_59 hl rfl (congrArg (fun t => w5 + t) (by decide : Int32.ofInt 1 = 1)) (Nat.le_of_ble_eq_true rfl) rfl (fun ls hl => ?_)
            refine lv_goto (tgt := 6) hx hb dX8_sumOf_62 rfl ?_
            exact ih _ _ H locs ls o hf hW (lv_sub hl [3, 4, 5, 6, 1, 0] rfl) hK
  unfold f_X8_sumOf at hf
  obtain ⟨H, hH⟩ : ∃ H, H = s.heap := ⟨_, rfl⟩
  obtain ⟨locs, hlc⟩ : ∃ q : List Loc, q = [] := ⟨_, rfl⟩
  rw [show W p0 l e rmX8_sumOf s m args below meth c s.heap [] 0 0 (MQ below (QI g z I R P Z) args s 0 0 (AA g)) (F0 m 0 ls []) = W p0 l e rmX8_sumOf s m args below meth c H locs 0 0 (MQ below (QI g z I R P Z) args s 0 0 (AA g)) (F0 m 0 ls []) by rw [hH, hlc]]
  have hW : Wd g I R P Z s.heap H locs := by rw [hH, hlc]; exact hW
  refine lv_iconst (v := 0) hx hb dX8_sumOf_0 (by decide) ?_
  refine lv_istore (lv' := [(4, .int 0), (0, .ref (g.2.2 + 0)), (1, .int x1), (2, .int x2), (3, .int x3)]) hx hb dX8_sumOf_1 hl (Nat.le_of_ble_eq_true rfl) rfl (fun ls hl => ?_)
  refine lv_iconst (v := 0) hx hb dX8_sumOf_3 (by decide) ?_
  refine lv_istore (lv' := [(5, .int 0), (4, .int 0), (0, .ref (g.2.2 + 0)), (1, .int x1), (2, .int x2), (3, .int x3)]) hx hb dX8_sumOf_4 hl (Nat.le_of_ble_eq_true rfl) rfl (fun ls hl => ?_)
  obtain ⟨q5, hq5, hf⟩ := bnd hf
  refine L6 I fuel 0 0 H locs ls _ hq5 hW (lv_sub hl [2, 3, 4, 5, 1, 0] rfl) (fun H locs ls hW hl => ?_)
  refine lv_iload hx hb dX8_sumOf_65 (lv_at hl 0 rfl) ?_
  have hz := Option.some.inj hf
  exact aw_iret C0 hW hz rfl rfl dX8_sumOf_67
theorem cw_X8_311 {Rm : Room} {s : State} {args : Array Value} (ht : ∀ w ∈ GT, w.before args s = true) (hR : rmX8_sumOf.frames + 1 ≤ Rm.frames ∧ 8 + (7 + 11) + rmX8_sumOf.locals ≤ Rm.locals) : CallW Rm s args RX8 RX8 311 yX8_sumOf cX8_sumOf 7 (some .int) (Cond.code yX8_sumOf cX8_sumOf 7 (some .int) :: GT) rmX8_sumOf 0 0 3 := cwV 3 ht (goodV wd295 wd296 wd297 wd243 wd298) rfl rfl rfl ⟨rfl, by decide +kernel, by decide +kernel, by decide +kernel⟩ hR
def f_X8_groupNumber (x1 : Int32) (x2 : Int32) (x3 : Int32) (x4 : Int32) (I : Mem) : Option (Int32) :=
  if x4 = 0 then (
    some x3
  ) else (
  if x4 = 1 then (
    some x2
  ) else (
  if x4 = 2 then (
    (f_X8_sumOf x1 x2 (x4 - 2) I).bind fun q1 =>
    some q1
  ) else (
  if x4 = 3 then (
    (f_X8_sumOf x1 x2 (x4 - 2) I).bind fun q2 =>
    some q2
  ) else (
  if x4 = 4 then (
    (f_X8_sumOf x1 x2 (x4 - 2) I).bind fun q3 =>
    some q3
  ) else (
  if x4 = 5 then (
    (f_X8_sumOf x1 x2 (x4 - 2) I).bind fun q4 =>
    some q4
  ) else (
  if x4 = 6 then (
    (f_J6_bitCount_0f7a4 x2).bind fun q5 =>
    some q5
  ) else (
  if x4 = 7 then (
    (f_X8_unknownCells x1 x2 I).bind fun q6 =>
    some q6
  ) else (
    (f_X8_sumOf x1 x2 (x4 - 2) I).bind fun q7 =>
    some q7
  ))))))))
abbrev rmX8_groupNumber : Room := { frames := 3, cells := 0, slots := 0, locals := 71 }
set_option maxHeartbeats 4000000 in
set_option maxRecDepth 100000 in
theorem c_X8_groupNumber {l : Launch} {g : Gam} {I : Mem} {R : Rem} {P : Pool} {Z : Zed} (x1 : Int32) (x2 : Int32) (x3 : Int32) (x4 : Int32)  {z : Int32} (hf : f_X8_groupNumber x1 x2 x3 x4 I = some z) : Met l yX8_groupNumber (Cond.code yX8_groupNumber cX8_groupNumber 5 (some .int) :: GT) rmX8_groupNumber (va_Pc [.ref (g.2.2 + 0), .int x1, .int x2, .int x3, .int x4] (PW g I R P Z)) (QI g z I R P Z) 0 0 (AA g) := by
  refine aw_ofW (lv0 := [(0, .ref (g.2.2 + 0)), (1, .int x1), (2, .int x2), (3, .int x3), (4, .int x4)]) (by decide) (by exact Nat.le_of_ble_eq_true rfl) (by rfl) (fun p0 e s m args below meth c ls C0 hl hW => ?_)
  have C0 : CX g p0 s m args meth c RX8 cX8_groupNumber 5 (some .int) := C0
  have hx := C0.1; have hb := C0.2.1; have hown := C0.2.2.2.2.1; have hts := C0.2.2.2.2.2.1; have hKS := C0.2.2.2.2.2.2.1
  unfold f_X8_groupNumber at hf
  obtain ⟨H, hH⟩ : ∃ H, H = s.heap := ⟨_, rfl⟩
  obtain ⟨locs, hlc⟩ : ∃ q : List Loc, q = [] := ⟨_, rfl⟩
  rw [show W p0 l e rmX8_groupNumber s m args below meth c s.heap [] 0 0 (MQ below (QI g z I R P Z) args s 0 0 (AA g)) (F0 m 0 ls []) = W p0 l e rmX8_groupNumber s m args below meth c H locs 0 0 (MQ below (QI g z I R P Z) args s 0 0 (AA g)) (F0 m 0 ls []) by rw [hH, hlc]]
  have hW : Wd g I R P Z s.heap H locs := by rw [hH, hlc]; exact hW
  refine lv_iload hx hb dX8_groupNumber_0 (lv_at hl 4 rfl) ?_
  by_cases hs1 : x4 = 0
  · have hf := ift hs1 hf
    refine lv_tableIn (off := 46) (tgt := 48) hx hb dX8_groupNumber_2 (by rw [hs1]; decide) (by rw [hs1]; decide) (by rw [hs1]; decide) rfl ?_
    refine lv_iload_n hx hb dX8_groupNumber_48 rfl (lv_at hl 3 rfl) ?_
    have hz := Option.some.inj hf
    exact aw_iret C0 hW hz rfl rfl dX8_groupNumber_49
  have hf := iff_ hs1 hf
  by_cases hs2 : x4 = 1
  · have hf := ift hs2 hf
    refine lv_tableIn (off := 48) (tgt := 50) hx hb dX8_groupNumber_2 (by rw [hs2]; decide) (by rw [hs2]; decide) (by rw [hs2]; decide) rfl ?_
    refine lv_iload_n hx hb dX8_groupNumber_50 rfl (lv_at hl 2 rfl) ?_
    have hz := Option.some.inj hf
    exact aw_iret C0 hW hz rfl rfl dX8_groupNumber_51
  have hf := iff_ hs2 hf
  by_cases hs3 : x4 = 2
  · have hf := ift hs3 hf
    refine lv_tableIn (off := 62) (tgt := 64) hx hb dX8_groupNumber_2 (by rw [hs3]; decide) (by rw [hs3]; decide) (by rw [hs3]; decide) rfl ?_
    refine lv_aload_n hx hb dX8_groupNumber_64 rfl (lv_at hl 0 rfl) ?_
    refine lv_iload_n hx hb dX8_groupNumber_65 rfl (lv_at hl 1 rfl) ?_
    refine lv_iload_n hx hb dX8_groupNumber_66 rfl (lv_at hl 2 rfl) ?_
    refine lv_iload hx hb dX8_groupNumber_67 (lv_at hl 4 rfl) ?_
    refine lv_iconst (v := 2) hx hb dX8_groupNumber_69 (by decide) ?_
    refine lv_isub hx hb dX8_groupNumber_70 ?_
    obtain ⟨q1, hq1, hf⟩ := bnd hf
    refine aw_cVi (rest := []) C0 hW (lv_fix (by decide)) (cel_7 kd0) rfl (c_X8_sumOf x1 x2 (x4 - 2)  hq1) (cw_X8_311 hts ⟨Nat.le_of_ble_eq_true rfl, Nat.le_of_ble_eq_true rfl⟩) rfl hl.1 rfl (Nat.le_of_ble_eq_true rfl) ⟨Nat.zero_le _, Nat.zero_le _⟩ dX8_groupNumber_71 (fun H locs hW => ?_)
    have hz := Option.some.inj hf
    exact aw_iret C0 hW hz rfl rfl dX8_groupNumber_74
  have hf := iff_ hs3 hf
  by_cases hs4 : x4 = 3
  · have hf := ift hs4 hf
    refine lv_tableIn (off := 62) (tgt := 64) hx hb dX8_groupNumber_2 (by rw [hs4]; decide) (by rw [hs4]; decide) (by rw [hs4]; decide) rfl ?_
    refine lv_aload_n hx hb dX8_groupNumber_64 rfl (lv_at hl 0 rfl) ?_
    refine lv_iload_n hx hb dX8_groupNumber_65 rfl (lv_at hl 1 rfl) ?_
    refine lv_iload_n hx hb dX8_groupNumber_66 rfl (lv_at hl 2 rfl) ?_
    refine lv_iload hx hb dX8_groupNumber_67 (lv_at hl 4 rfl) ?_
    refine lv_iconst (v := 2) hx hb dX8_groupNumber_69 (by decide) ?_
    refine lv_isub hx hb dX8_groupNumber_70 ?_
    obtain ⟨q2, hq2, hf⟩ := bnd hf
    refine aw_cVi (rest := []) C0 hW (lv_fix (by decide)) (cel_7 kd0) rfl (c_X8_sumOf x1 x2 (x4 - 2)  hq2) (cw_X8_311 hts ⟨Nat.le_of_ble_eq_true rfl, Nat.le_of_ble_eq_true rfl⟩) rfl hl.1 rfl (Nat.le_of_ble_eq_true rfl) ⟨Nat.zero_le _, Nat.zero_le _⟩ dX8_groupNumber_71 (fun H locs hW => ?_)
    have hz := Option.some.inj hf
    exact aw_iret C0 hW hz rfl rfl dX8_groupNumber_74
  have hf := iff_ hs4 hf
  by_cases hs5 : x4 = 4
  · have hf := ift hs5 hf
    refine lv_tableIn (off := 62) (tgt := 64) hx hb dX8_groupNumber_2 (by rw [hs5]; decide) (by rw [hs5]; decide) (by rw [hs5]; decide) rfl ?_
    refine lv_aload_n hx hb dX8_groupNumber_64 rfl (lv_at hl 0 rfl) ?_
    refine lv_iload_n hx hb dX8_groupNumber_65 rfl (lv_at hl 1 rfl) ?_
    refine lv_iload_n hx hb dX8_groupNumber_66 rfl (lv_at hl 2 rfl) ?_
    refine lv_iload hx hb dX8_groupNumber_67 (lv_at hl 4 rfl) ?_
    refine lv_iconst (v := 2) hx hb dX8_groupNumber_69 (by decide) ?_
    refine lv_isub hx hb dX8_groupNumber_70 ?_
    obtain ⟨q3, hq3, hf⟩ := bnd hf
    refine aw_cVi (rest := []) C0 hW (lv_fix (by decide)) (cel_7 kd0) rfl (c_X8_sumOf x1 x2 (x4 - 2)  hq3) (cw_X8_311 hts ⟨Nat.le_of_ble_eq_true rfl, Nat.le_of_ble_eq_true rfl⟩) rfl hl.1 rfl (Nat.le_of_ble_eq_true rfl) ⟨Nat.zero_le _, Nat.zero_le _⟩ dX8_groupNumber_71 (fun H locs hW => ?_)
    have hz := Option.some.inj hf
    exact aw_iret C0 hW hz rfl rfl dX8_groupNumber_74
  have hf := iff_ hs5 hf
  by_cases hs6 : x4 = 5
  · have hf := ift hs6 hf
    refine lv_tableIn (off := 62) (tgt := 64) hx hb dX8_groupNumber_2 (by rw [hs6]; decide) (by rw [hs6]; decide) (by rw [hs6]; decide) rfl ?_
    refine lv_aload_n hx hb dX8_groupNumber_64 rfl (lv_at hl 0 rfl) ?_
    refine lv_iload_n hx hb dX8_groupNumber_65 rfl (lv_at hl 1 rfl) ?_
    refine lv_iload_n hx hb dX8_groupNumber_66 rfl (lv_at hl 2 rfl) ?_
    refine lv_iload hx hb dX8_groupNumber_67 (lv_at hl 4 rfl) ?_
    refine lv_iconst (v := 2) hx hb dX8_groupNumber_69 (by decide) ?_
    refine lv_isub hx hb dX8_groupNumber_70 ?_
    obtain ⟨q4, hq4, hf⟩ := bnd hf
    refine aw_cVi (rest := []) C0 hW (lv_fix (by decide)) (cel_7 kd0) rfl (c_X8_sumOf x1 x2 (x4 - 2)  hq4) (cw_X8_311 hts ⟨Nat.le_of_ble_eq_true rfl, Nat.le_of_ble_eq_true rfl⟩) rfl hl.1 rfl (Nat.le_of_ble_eq_true rfl) ⟨Nat.zero_le _, Nat.zero_le _⟩ dX8_groupNumber_71 (fun H locs hW => ?_)
    have hz := Option.some.inj hf
    exact aw_iret C0 hW hz rfl rfl dX8_groupNumber_74
  have hf := iff_ hs6 hf
  by_cases hs7 : x4 = 6
  · have hf := ift hs7 hf
    refine lv_tableIn (off := 50) (tgt := 52) hx hb dX8_groupNumber_2 (by rw [hs7]; decide) (by rw [hs7]; decide) (by rw [hs7]; decide) rfl ?_
    refine lv_iload_n hx hb dX8_groupNumber_52 rfl (lv_at hl 2 rfl) ?_
    obtain ⟨q5, hq5, hf⟩ := bnd hf
    refine aw_cSi (rest := []) C0 hW (c_J6_bitCount_0f7a4 x2  hq5) (cw_X8_179 hts ⟨Nat.le_of_ble_eq_true rfl, Nat.le_of_ble_eq_true rfl⟩) rfl hl.1 rfl (Nat.le_of_ble_eq_true rfl) ⟨Nat.zero_le _, Nat.zero_le _⟩ dX8_groupNumber_53 (fun H locs hW => ?_)
    have hz := Option.some.inj hf
    exact aw_iret C0 hW hz rfl rfl dX8_groupNumber_56
  have hf := iff_ hs7 hf
  by_cases hs8 : x4 = 7
  · have hf := ift hs8 hf
    refine lv_tableIn (off := 55) (tgt := 57) hx hb dX8_groupNumber_2 (by rw [hs8]; decide) (by rw [hs8]; decide) (by rw [hs8]; decide) rfl ?_
    refine lv_aload_n hx hb dX8_groupNumber_57 rfl (lv_at hl 0 rfl) ?_
    refine lv_iload_n hx hb dX8_groupNumber_58 rfl (lv_at hl 1 rfl) ?_
    refine lv_iload_n hx hb dX8_groupNumber_59 rfl (lv_at hl 2 rfl) ?_
    obtain ⟨q6, hq6, hf⟩ := bnd hf
    refine aw_cVi (rest := []) C0 hW (lv_fix (by decide)) (cel_7 kd0) rfl (c_X8_unknownCells x1 x2  hq6) (cw_X8_308 hts ⟨Nat.le_of_ble_eq_true rfl, Nat.le_of_ble_eq_true rfl⟩) rfl hl.1 rfl (Nat.le_of_ble_eq_true rfl) ⟨Nat.zero_le _, Nat.zero_le _⟩ dX8_groupNumber_60 (fun H locs hW => ?_)
    have hz := Option.some.inj hf
    exact aw_iret C0 hW hz rfl rfl dX8_groupNumber_63
  have hf := iff_ hs8 hf
  refine lv_tableOut (tgt := 64) hx hb dX8_groupNumber_2 (by have zhs1 := i32_ne (n := 0) (by decide) hs1; have zhs2 := i32_ne (n := 1) (by decide) hs2; have zhs3 := i32_ne (n := 2) (by decide) hs3; have zhs4 := i32_ne (n := 3) (by decide) hs4; have zhs5 := i32_ne (n := 4) (by decide) hs5; have zhs6 := i32_ne (n := 5) (by decide) hs6; have zhs7 := i32_ne (n := 6) (by decide) hs7; have zhs8 := i32_ne (n := 7) (by decide) hs8; omega) rfl ?_
  refine lv_aload_n hx hb dX8_groupNumber_64 rfl (lv_at hl 0 rfl) ?_
  refine lv_iload_n hx hb dX8_groupNumber_65 rfl (lv_at hl 1 rfl) ?_
  refine lv_iload_n hx hb dX8_groupNumber_66 rfl (lv_at hl 2 rfl) ?_
  refine lv_iload hx hb dX8_groupNumber_67 (lv_at hl 4 rfl) ?_
  refine lv_iconst (v := 2) hx hb dX8_groupNumber_69 (by decide) ?_
  refine lv_isub hx hb dX8_groupNumber_70 ?_
  obtain ⟨q7, hq7, hf⟩ := bnd hf
  refine aw_cVi (rest := []) C0 hW (lv_fix (by decide)) (cel_7 kd0) rfl (c_X8_sumOf x1 x2 (x4 - 2)  hq7) (cw_X8_311 hts ⟨Nat.le_of_ble_eq_true rfl, Nat.le_of_ble_eq_true rfl⟩) rfl hl.1 rfl (Nat.le_of_ble_eq_true rfl) ⟨Nat.zero_le _, Nat.zero_le _⟩ dX8_groupNumber_71 (fun H locs hW => ?_)
  have hz := Option.some.inj hf
  exact aw_iret C0 hW hz rfl rfl dX8_groupNumber_74
def f_X8_partnersOf (x1 : Int32) (x2 : Int32) (x3 : Int32) (x4 : Int32) (x5 : Int32) (I : Mem) : Option (Int32) :=
  (f_X8_place x1 x2 x3).bind fun q1 =>
  (rd I 2 128 q1).bind fun v2 =>
  if v2 = ((-1)) then (
    some 0
  ) else (
    (f_X8_rowsWithCell x4 x5 v2 I).bind fun q3 =>
    some q3
  )
abbrev rmX8_partnersOf : Room := { frames := 2, cells := 0, slots := 0, locals := 47 }
set_option maxHeartbeats 4000000 in
set_option maxRecDepth 100000 in
theorem c_X8_partnersOf {l : Launch} {g : Gam} {I : Mem} {R : Rem} {P : Pool} {Z : Zed} (x1 : Int32) (x2 : Int32) (x3 : Int32) (x4 : Int32) (x5 : Int32)  {z : Int32} (hf : f_X8_partnersOf x1 x2 x3 x4 x5 I = some z) : Met l yX8_partnersOf (Cond.code yX8_partnersOf cX8_partnersOf 7 (some .int) :: GT) rmX8_partnersOf (va_Pc [.ref (g.2.2 + 0), .int x1, .int x2, .int x3, .int x4, .int x5] (PW g I R P Z)) (QI g z I R P Z) 0 0 (AA g) := by
  refine aw_ofW (lv0 := [(0, .ref (g.2.2 + 0)), (1, .int x1), (2, .int x2), (3, .int x3), (4, .int x4), (5, .int x5)]) (by decide) (by exact Nat.le_of_ble_eq_true rfl) (by rfl) (fun p0 e s m args below meth c ls C0 hl hW => ?_)
  have C0 : CX g p0 s m args meth c RX8 cX8_partnersOf 7 (some .int) := C0
  have hx := C0.1; have hb := C0.2.1; have hown := C0.2.2.2.2.1; have hts := C0.2.2.2.2.2.1; have hKS := C0.2.2.2.2.2.2.1
  unfold f_X8_partnersOf at hf
  obtain ⟨H, hH⟩ : ∃ H, H = s.heap := ⟨_, rfl⟩
  obtain ⟨locs, hlc⟩ : ∃ q : List Loc, q = [] := ⟨_, rfl⟩
  rw [show W p0 l e rmX8_partnersOf s m args below meth c s.heap [] 0 0 (MQ below (QI g z I R P Z) args s 0 0 (AA g)) (F0 m 0 ls []) = W p0 l e rmX8_partnersOf s m args below meth c H locs 0 0 (MQ below (QI g z I R P Z) args s 0 0 (AA g)) (F0 m 0 ls []) by rw [hH, hlc]]
  have hW : Wd g I R P Z s.heap H locs := by rw [hH, hlc]; exact hW
  refine lv_aload_n hx hb dX8_partnersOf_0 rfl (lv_at hl 0 rfl) ?_
  refine aw_get (v := .ref (g.2.2 + 1)) C0 hW (lv_fix (by decide)) (cel_7 kd0) rfl inG7 0 (by decide) wd13 rfl rfl dX8_partnersOf_1 ?_
  refine aw_get (v := .ref (g.2.2 + 2)) C0 hW (lv_fix (by decide)) (cel_6 kd1) rfl inG6 0 (by decide) wd30 rfl rfl dX8_partnersOf_4 ?_
  refine lv_iload_n hx hb dX8_partnersOf_7 rfl (lv_at hl 1 rfl) ?_
  refine lv_iload_n hx hb dX8_partnersOf_8 rfl (lv_at hl 2 rfl) ?_
  refine lv_iload_n hx hb dX8_partnersOf_9 rfl (lv_at hl 3 rfl) ?_
  obtain ⟨q1, hq1, hf⟩ := bnd hf
  refine aw_cSi (rest := [.ref (g.2.2 + 2)]) C0 hW (c_X8_place x1 x2 x3  hq1) (cw_X8_105 hts ⟨Nat.le_of_ble_eq_true rfl, Nat.le_of_ble_eq_true rfl⟩) rfl hl.1 rfl (Nat.le_of_ble_eq_true rfl) ⟨Nat.zero_le _, Nat.zero_le _⟩ dX8_partnersOf_10 (fun H locs hW => ?_)
  obtain ⟨v2, hv2, hf⟩ := bnd hf
  refine aw_iald C0 hW kd2 ln2 hv2 dX8_partnersOf_13 ?_
  refine lv_istore (lv' := [(6, .int v2), (0, .ref (g.2.2 + 0)), (1, .int x1), (2, .int x2), (3, .int x3), (4, .int x4), (5, .int x5)]) hx hb dX8_partnersOf_14 hl (Nat.le_of_ble_eq_true rfl) rfl (fun ls hl => ?_)
  refine lv_iload hx hb dX8_partnersOf_16 (lv_at hl 0 rfl) ?_
  refine lv_iconst (v := (-1)) hx hb dX8_partnersOf_18 (by decide) ?_
  refine lv_icmp_ne (tgt := 26) hx hb dX8_partnersOf_19 rfl (fun hc => ?_) (fun hc => ?_)
  · have hf := iff_ hc hf
    refine lv_aload_n hx hb dX8_partnersOf_26 rfl (lv_at hl 1 rfl) ?_
    refine lv_iload hx hb dX8_partnersOf_27 (lv_at hl 5 rfl) ?_
    refine lv_iload hx hb dX8_partnersOf_29 (lv_at hl 6 rfl) ?_
    refine lv_iload hx hb dX8_partnersOf_31 (lv_at hl 0 rfl) ?_
    obtain ⟨q3, hq3, hf⟩ := bnd hf
    refine aw_cVi (rest := []) C0 hW (lv_fix (by decide)) (cel_7 kd0) rfl (c_X8_rowsWithCell x4 x5 v2  hq3) (cw_X8_218 hts ⟨Nat.le_of_ble_eq_true rfl, Nat.le_of_ble_eq_true rfl⟩) rfl hl.1 rfl (Nat.le_of_ble_eq_true rfl) ⟨Nat.zero_le _, Nat.zero_le _⟩ dX8_partnersOf_33 (fun H locs hW => ?_)
    have hz := Option.some.inj hf
    exact aw_iret C0 hW hz rfl rfl dX8_partnersOf_36
  · have hf := ift hc hf
    refine lv_iconst (v := 0) hx hb dX8_partnersOf_22 (by decide) ?_
    refine lv_goto (tgt := 36) hx hb dX8_partnersOf_23 rfl ?_
    have hz := Option.some.inj hf
    exact aw_iret C0 hW hz rfl rfl dX8_partnersOf_36
theorem cw_X8_314 {Rm : Room} {s : State} {args : Array Value} (ht : ∀ w ∈ GT, w.before args s = true) (hR : rmX8_partnersOf.frames + 1 ≤ Rm.frames ∧ 8 + (7 + 11) + rmX8_partnersOf.locals ≤ Rm.locals) : CallW Rm s args RX8 RX8 314 yX8_partnersOf cX8_partnersOf 7 (some .int) (Cond.code yX8_partnersOf cX8_partnersOf 7 (some .int) :: GT) rmX8_partnersOf 0 0 5 := cwV 5 ht (goodV wd299 wd300 wd301 wd243 wd302) rfl rfl rfl ⟨rfl, by decide +kernel, by decide +kernel, by decide +kernel⟩ hR
def f_X8_pairCount_L5 (x1 : Int32) (x2 : Int32) (I : Mem) : Nat → Int32 → Int32 → Option (Int32)
  | 0, _, _ => none
  | n + 1, w3, w4 =>
    (rd I 3 2 0).bind fun v1 =>
    if v1 ≤ w4 then (
      some w3
    ) else (
      (f_X8_partnersOf 0 w4 x1 1 x2 I).bind fun q2 =>
      (f_J6_bitCount_0f7a4 q2).bind fun q3 =>
      f_X8_pairCount_L5 x1 x2 I n (w3 + q3) (w4 + 1)
    )
def f_X8_pairCount (x1 : Int32) (x2 : Int32) (I : Mem) : Option (Int32) :=
  (f_X8_pairCount_L5 x1 x2 I fuel 0 0).bind fun q4 =>
  some q4
abbrev rmX8_pairCount : Room := { frames := 3, cells := 0, slots := 0, locals := 73 }
set_option maxHeartbeats 4000000 in
set_option maxRecDepth 100000 in
theorem c_X8_pairCount {l : Launch} {g : Gam} {I : Mem} {R : Rem} {P : Pool} {Z : Zed} (x1 : Int32) (x2 : Int32)  {z : Int32} (hf : f_X8_pairCount x1 x2 I = some z) : Met l yX8_pairCount (Cond.code yX8_pairCount cX8_pairCount 5 (some .int) :: GT) rmX8_pairCount (va_Pc [.ref (g.2.2 + 0), .int x1, .int x2] (PW g I R P Z)) (QI g z I R P Z) 0 0 (AA g) := by
  refine aw_ofW (lv0 := [(0, .ref (g.2.2 + 0)), (1, .int x1), (2, .int x2)]) (by decide) (by exact Nat.le_of_ble_eq_true rfl) (by rfl) (fun p0 e s m args below meth c ls C0 hl hW => ?_)
  have C0 : CX g p0 s m args meth c RX8 cX8_pairCount 5 (some .int) := C0
  have hx := C0.1; have hb := C0.2.1; have hown := C0.2.2.2.2.1; have hts := C0.2.2.2.2.2.1; have hKS := C0.2.2.2.2.2.2.1
  have L5 : ∀ (I : Mem) (n : Nat) (w3 : Int32) (w4 : Int32) (H : Heap) (locs : List Loc) (ls : Array Slot) (o : Int32), f_X8_pairCount_L5 x1 x2 I n w3 w4 = some o → Wd g I R P Z s.heap H locs → lv_has ls 5 [(0, .ref (g.2.2 + 0)), (1, .int x1), (2, .int x2), (3, .int w3), (4, .int w4)] → (∀ (H : Heap) (locs : List Loc) (ls : Array Slot), Wd g I R P Z s.heap H locs → lv_has ls 5 [(3, .int o)] → W p0 l e rmX8_pairCount s m args below meth c H locs 0 0 (MQ below (QI g z I R P Z) args s 0 0 (AA g)) (F0 m 41 ls [])) → W p0 l e rmX8_pairCount s m args below meth c H locs 0 0 (MQ below (QI g z I R P Z) args s 0 0 (AA g)) (F0 m 5 ls []) := by
    intro I n
    induction n with
    | zero => intro w3 w4 H locs ls o hf; cases hf
    | succ n ih =>
      intro w3 w4 H locs ls o hf hW hl hK
      rw [f_X8_pairCount_L5] at hf
      refine lv_iload hx hb dX8_pairCount_5 (lv_at hl 4 rfl) ?_
      refine lv_aload_n hx hb dX8_pairCount_7 rfl (lv_at hl 0 rfl) ?_
      refine aw_get (v := .ref (g.2.2 + 1)) C0 hW (lv_fix (by decide)) (cel_7 kd0) rfl inG7 0 (by decide) wd13 rfl rfl dX8_pairCount_8 ?_
      refine aw_get (v := .ref (g.2.2 + 3)) C0 hW (lv_fix (by decide)) (cel_6 kd1) rfl inG6 1 (by decide) wd37 rfl rfl dX8_pairCount_11 ?_
      refine lv_iconst (v := 0) hx hb dX8_pairCount_14 (by decide) ?_
      obtain ⟨v1, hv1, hf⟩ := bnd hf
      refine aw_iald C0 hW kd3 ln3 hv1 dX8_pairCount_15 ?_
      refine lv_icmp_ge (tgt := 41) hx hb dX8_pairCount_16 rfl (fun hc => ?_) (fun hc => ?_)
      · have hf := ift hc hf
        have ho := Option.some.inj hf
        subst ho
        exact hK H locs ls hW (lv_sub hl [3] rfl)
      · have hf := iff_ hc hf
        refine lv_iload_n hx hb dX8_pairCount_19 rfl (lv_at hl 3 rfl) ?_
        refine lv_aload_n hx hb dX8_pairCount_20 rfl (lv_at hl 0 rfl) ?_
        refine lv_iconst (v := 0) hx hb dX8_pairCount_21 (by decide) ?_
        refine lv_iload hx hb dX8_pairCount_22 (lv_at hl 4 rfl) ?_
        refine lv_iload_n hx hb dX8_pairCount_24 rfl (lv_at hl 1 rfl) ?_
        refine lv_iconst (v := 1) hx hb dX8_pairCount_25 (by decide) ?_
        refine lv_iload_n hx hb dX8_pairCount_26 rfl (lv_at hl 2 rfl) ?_
        obtain ⟨q2, hq2, hf⟩ := bnd hf
        refine aw_cVi (rest := [.int w3]) C0 hW (lv_fix (by decide)) (cel_7 kd0) rfl (c_X8_partnersOf 0 w4 x1 1 x2  hq2) (cw_X8_314 hts ⟨Nat.le_of_ble_eq_true rfl, Nat.le_of_ble_eq_true rfl⟩) rfl hl.1 rfl (Nat.le_of_ble_eq_true rfl) ⟨Nat.zero_le _, Nat.zero_le _⟩ dX8_pairCount_27 (fun H locs hW => ?_)
        obtain ⟨q3, hq3, hf⟩ := bnd hf
        refine aw_cSi (rest := [.int w3]) C0 hW (c_J6_bitCount_0f7a4 q2  hq3) (cw_X8_179 hts ⟨Nat.le_of_ble_eq_true rfl, Nat.le_of_ble_eq_true rfl⟩) rfl hl.1 rfl (Nat.le_of_ble_eq_true rfl) ⟨Nat.zero_le _, Nat.zero_le _⟩ dX8_pairCount_30 (fun H locs hW => ?_)
        refine lv_iadd hx hb dX8_pairCount_33 ?_
        refine lv_istore_n (lv' := [(3, .int (w3 + q3)), (0, .ref (g.2.2 + 0)), (1, .int x1), (2, .int x2), (4, .int w4)]) hx hb dX8_pairCount_34 rfl hl (Nat.le_of_ble_eq_true rfl) rfl (fun ls hl => ?_)
        refine lv_iinc (k := 4) (v := w4 + 1) (lv' := [(4, .int (w4 + 1)), (3, .int (w3 + q3)), (0, .ref (g.2.2 + 0)), (1, .int x1), (2, .int x2)]) hx hb dX8_pairCount_35 hl rfl (congrArg (fun t => w4 + t) (by decide : Int32.ofInt 1 = 1)) (Nat.le_of_ble_eq_true rfl) rfl (fun ls hl => ?_)
        refine lv_goto (tgt := 5) hx hb dX8_pairCount_38 rfl ?_
        exact ih _ _ H locs ls o hf hW (lv_sub hl [2, 3, 4, 1, 0] rfl) hK
  unfold f_X8_pairCount at hf
  obtain ⟨H, hH⟩ : ∃ H, H = s.heap := ⟨_, rfl⟩
  obtain ⟨locs, hlc⟩ : ∃ q : List Loc, q = [] := ⟨_, rfl⟩
  rw [show W p0 l e rmX8_pairCount s m args below meth c s.heap [] 0 0 (MQ below (QI g z I R P Z) args s 0 0 (AA g)) (F0 m 0 ls []) = W p0 l e rmX8_pairCount s m args below meth c H locs 0 0 (MQ below (QI g z I R P Z) args s 0 0 (AA g)) (F0 m 0 ls []) by rw [hH, hlc]]
  have hW : Wd g I R P Z s.heap H locs := by rw [hH, hlc]; exact hW
  refine lv_iconst (v := 0) hx hb dX8_pairCount_0 (by decide) ?_
  refine lv_istore_n (lv' := [(3, .int 0), (0, .ref (g.2.2 + 0)), (1, .int x1), (2, .int x2)]) hx hb dX8_pairCount_1 rfl hl (Nat.le_of_ble_eq_true rfl) rfl (fun ls hl => ?_)
  refine lv_iconst (v := 0) hx hb dX8_pairCount_2 (by decide) ?_
  refine lv_istore (lv' := [(4, .int 0), (3, .int 0), (0, .ref (g.2.2 + 0)), (1, .int x1), (2, .int x2)]) hx hb dX8_pairCount_3 hl (Nat.le_of_ble_eq_true rfl) rfl (fun ls hl => ?_)
  obtain ⟨q4, hq4, hf⟩ := bnd hf
  refine L5 I fuel 0 0 H locs ls _ hq4 hW (lv_sub hl [2, 3, 4, 1, 0] rfl) (fun H locs ls hW hl => ?_)
  refine lv_iload_n hx hb dX8_pairCount_41 rfl (lv_at hl 0 rfl) ?_
  have hz := Option.some.inj hf
  exact aw_iret C0 hW hz rfl rfl dX8_pairCount_42
def f_X8_rowsWithoutPartner_L6 (x1 : Int32) (x2 : Int32) (x3 : Int32) (x4 : Int32) (I : Mem) : Nat → Int32 → Int32 → Option (Int32)
  | 0, _, _ => none
  | n + 1, w5, w6 =>
    (rd I 3 2 x1).bind fun v1 =>
    if v1 ≤ w6 then (
      some w5
    ) else (
      (f_X8_partnersOf x1 w6 x2 x3 x4 I).bind fun q2 =>
      if q2 = 0 then (
        f_X8_rowsWithoutPartner_L6 x1 x2 x3 x4 I n (w5 ||| (1 <<< (w6 &&& 31))) (w6 + 1)
      ) else (
        f_X8_rowsWithoutPartner_L6 x1 x2 x3 x4 I n w5 (w6 + 1)
      )
    )
def f_X8_rowsWithoutPartner (x1 : Int32) (x2 : Int32) (x3 : Int32) (x4 : Int32) (I : Mem) : Option (Int32) :=
  (f_X8_rowsWithoutPartner_L6 x1 x2 x3 x4 I fuel 0 0).bind fun q3 =>
  some q3
abbrev rmX8_rowsWithoutPartner : Room := { frames := 3, cells := 0, slots := 0, locals := 73 }
set_option maxHeartbeats 4000000 in
set_option maxRecDepth 100000 in
theorem c_X8_rowsWithoutPartner {l : Launch} {g : Gam} {I : Mem} {R : Rem} {P : Pool} {Z : Zed} (x1 : Int32) (x2 : Int32) (x3 : Int32) (x4 : Int32)  {z : Int32} (hf : f_X8_rowsWithoutPartner x1 x2 x3 x4 I = some z) : Met l yX8_rowsWithoutPartner (Cond.code yX8_rowsWithoutPartner cX8_rowsWithoutPartner 7 (some .int) :: GT) rmX8_rowsWithoutPartner (va_Pc [.ref (g.2.2 + 0), .int x1, .int x2, .int x3, .int x4] (PW g I R P Z)) (QI g z I R P Z) 0 0 (AA g) := by
  refine aw_ofW (lv0 := [(0, .ref (g.2.2 + 0)), (1, .int x1), (2, .int x2), (3, .int x3), (4, .int x4)]) (by decide) (by exact Nat.le_of_ble_eq_true rfl) (by rfl) (fun p0 e s m args below meth c ls C0 hl hW => ?_)
  have C0 : CX g p0 s m args meth c RX8 cX8_rowsWithoutPartner 7 (some .int) := C0
  have hx := C0.1; have hb := C0.2.1; have hown := C0.2.2.2.2.1; have hts := C0.2.2.2.2.2.1; have hKS := C0.2.2.2.2.2.2.1
  have L6 : ∀ (I : Mem) (n : Nat) (w5 : Int32) (w6 : Int32) (H : Heap) (locs : List Loc) (ls : Array Slot) (o : Int32), f_X8_rowsWithoutPartner_L6 x1 x2 x3 x4 I n w5 w6 = some o → Wd g I R P Z s.heap H locs → lv_has ls 7 [(0, .ref (g.2.2 + 0)), (1, .int x1), (2, .int x2), (3, .int x3), (4, .int x4), (5, .int w5), (6, .int w6)] → (∀ (H : Heap) (locs : List Loc) (ls : Array Slot), Wd g I R P Z s.heap H locs → lv_has ls 7 [(5, .int o)] → W p0 l e rmX8_rowsWithoutPartner s m args below meth c H locs 0 0 (MQ below (QI g z I R P Z) args s 0 0 (AA g)) (F0 m 49 ls [])) → W p0 l e rmX8_rowsWithoutPartner s m args below meth c H locs 0 0 (MQ below (QI g z I R P Z) args s 0 0 (AA g)) (F0 m 6 ls []) := by
    intro I n
    induction n with
    | zero => intro w5 w6 H locs ls o hf; cases hf
    | succ n ih =>
      intro w5 w6 H locs ls o hf hW hl hK
      rw [f_X8_rowsWithoutPartner_L6] at hf
      refine lv_iload hx hb dX8_rowsWithoutPartner_6 (lv_at hl 6 rfl) ?_
      refine lv_aload_n hx hb dX8_rowsWithoutPartner_8 rfl (lv_at hl 0 rfl) ?_
      refine aw_get (v := .ref (g.2.2 + 1)) C0 hW (lv_fix (by decide)) (cel_7 kd0) rfl inG7 0 (by decide) wd13 rfl rfl dX8_rowsWithoutPartner_9 ?_
      refine aw_get (v := .ref (g.2.2 + 3)) C0 hW (lv_fix (by decide)) (cel_6 kd1) rfl inG6 1 (by decide) wd37 rfl rfl dX8_rowsWithoutPartner_12 ?_
      refine lv_iload_n hx hb dX8_rowsWithoutPartner_15 rfl (lv_at hl 1 rfl) ?_
      obtain ⟨v1, hv1, hf⟩ := bnd hf
      refine aw_iald C0 hW kd3 ln3 hv1 dX8_rowsWithoutPartner_16 ?_
      refine lv_icmp_ge (tgt := 49) hx hb dX8_rowsWithoutPartner_17 rfl (fun hc => ?_) (fun hc => ?_)
      · have hf := ift hc hf
        have ho := Option.some.inj hf
        subst ho
        exact hK H locs ls hW (lv_sub hl [5] rfl)
      · have hf := iff_ hc hf
        refine lv_aload_n hx hb dX8_rowsWithoutPartner_20 rfl (lv_at hl 0 rfl) ?_
        refine lv_iload_n hx hb dX8_rowsWithoutPartner_21 rfl (lv_at hl 1 rfl) ?_
        refine lv_iload hx hb dX8_rowsWithoutPartner_22 (lv_at hl 6 rfl) ?_
        refine lv_iload_n hx hb dX8_rowsWithoutPartner_24 rfl (lv_at hl 2 rfl) ?_
        refine lv_iload_n hx hb dX8_rowsWithoutPartner_25 rfl (lv_at hl 3 rfl) ?_
        refine lv_iload hx hb dX8_rowsWithoutPartner_26 (lv_at hl 4 rfl) ?_
        obtain ⟨q2, hq2, hf⟩ := bnd hf
        refine aw_cVi (rest := []) C0 hW (lv_fix (by decide)) (cel_7 kd0) rfl (c_X8_partnersOf x1 w6 x2 x3 x4  hq2) (cw_X8_314 hts ⟨Nat.le_of_ble_eq_true rfl, Nat.le_of_ble_eq_true rfl⟩) rfl hl.1 rfl (Nat.le_of_ble_eq_true rfl) ⟨Nat.zero_le _, Nat.zero_le _⟩ dX8_rowsWithoutPartner_28 (fun H locs hW => ?_)
        refine lv_if_ne (tgt := 43) hx hb dX8_rowsWithoutPartner_31 rfl (fun hc => ?_) (fun hc => ?_)
        · have hf := iff_ hc hf
          refine lv_iinc (k := 6) (v := w6 + 1) (lv' := [(6, .int (w6 + 1)), (0, .ref (g.2.2 + 0)), (1, .int x1), (2, .int x2), (3, .int x3), (4, .int x4), (5, .int w5)]) hx hb dX8_rowsWithoutPartner_43 hl rfl (congrArg (fun t => w6 + t) (by decide : Int32.ofInt 1 = 1)) (Nat.le_of_ble_eq_true rfl) rfl (fun ls hl => ?_)
          refine lv_goto (tgt := 6) hx hb dX8_rowsWithoutPartner_46 rfl ?_
          exact ih _ _ H locs ls o hf hW (lv_sub hl [1, 2, 3, 4, 5, 6, 0] rfl) hK
        · have hf := ift hc hf
          refine lv_iload hx hb dX8_rowsWithoutPartner_34 (lv_at hl 5 rfl) ?_
          refine lv_iconst (v := 1) hx hb dX8_rowsWithoutPartner_36 (by decide) ?_
          refine lv_iload hx hb dX8_rowsWithoutPartner_37 (lv_at hl 6 rfl) ?_
          refine lv_ishl hx hb dX8_rowsWithoutPartner_39 ?_
          refine lv_ior hx hb dX8_rowsWithoutPartner_40 ?_
          refine lv_istore (lv' := [(5, .int (w5 ||| (1 <<< (w6 &&& 31)))), (0, .ref (g.2.2 + 0)), (1, .int x1), (2, .int x2), (3, .int x3), (4, .int x4), (6, .int w6)]) hx hb dX8_rowsWithoutPartner_41 hl (Nat.le_of_ble_eq_true rfl) rfl (fun ls hl => ?_)
          refine lv_iinc (k := 6) (v := w6 + 1) (lv' := [(6, .int (w6 + 1)), (5, .int (w5 ||| (1 <<< (w6 &&& 31)))), (0, .ref (g.2.2 + 0)), (1, .int x1), (2, .int x2), (3, .int x3), (4, .int x4)]) hx hb dX8_rowsWithoutPartner_43 hl rfl (congrArg (fun t => w6 + t) (by decide : Int32.ofInt 1 = 1)) (Nat.le_of_ble_eq_true rfl) rfl (fun ls hl => ?_)
          refine lv_goto (tgt := 6) hx hb dX8_rowsWithoutPartner_46 rfl ?_
          exact ih _ _ H locs ls o hf hW (lv_sub hl [2, 3, 4, 5, 6, 1, 0] rfl) hK
  unfold f_X8_rowsWithoutPartner at hf
  obtain ⟨H, hH⟩ : ∃ H, H = s.heap := ⟨_, rfl⟩
  obtain ⟨locs, hlc⟩ : ∃ q : List Loc, q = [] := ⟨_, rfl⟩
  rw [show W p0 l e rmX8_rowsWithoutPartner s m args below meth c s.heap [] 0 0 (MQ below (QI g z I R P Z) args s 0 0 (AA g)) (F0 m 0 ls []) = W p0 l e rmX8_rowsWithoutPartner s m args below meth c H locs 0 0 (MQ below (QI g z I R P Z) args s 0 0 (AA g)) (F0 m 0 ls []) by rw [hH, hlc]]
  have hW : Wd g I R P Z s.heap H locs := by rw [hH, hlc]; exact hW
  refine lv_iconst (v := 0) hx hb dX8_rowsWithoutPartner_0 (by decide) ?_
  refine lv_istore (lv' := [(5, .int 0), (0, .ref (g.2.2 + 0)), (1, .int x1), (2, .int x2), (3, .int x3), (4, .int x4)]) hx hb dX8_rowsWithoutPartner_1 hl (Nat.le_of_ble_eq_true rfl) rfl (fun ls hl => ?_)
  refine lv_iconst (v := 0) hx hb dX8_rowsWithoutPartner_3 (by decide) ?_
  refine lv_istore (lv' := [(6, .int 0), (5, .int 0), (0, .ref (g.2.2 + 0)), (1, .int x1), (2, .int x2), (3, .int x3), (4, .int x4)]) hx hb dX8_rowsWithoutPartner_4 hl (Nat.le_of_ble_eq_true rfl) rfl (fun ls hl => ?_)
  obtain ⟨q3, hq3, hf⟩ := bnd hf
  refine L6 I fuel 0 0 H locs ls _ hq3 hW (lv_sub hl [2, 3, 4, 5, 6, 1, 0] rfl) (fun H locs ls hW hl => ?_)
  refine lv_iload hx hb dX8_rowsWithoutPartner_49 (lv_at hl 0 rfl) ?_
  have hz := Option.some.inj hf
  exact aw_iret C0 hW hz rfl rfl dX8_rowsWithoutPartner_51
def f_X8_pairAt_L35 (x1 : Int32) (x2 : Int32) (x3 : Int32) (y5 : Int32) (y6 : Int32) (I : Mem) : Nat → Int32 → Int32 → Option ((Int32) ⊕ (Int32))
  | 0, _, _ => none
  | n + 1, w4, w7 =>
    (rd I 3 2 1).bind fun v3 =>
    if v3 ≤ w7 then (
      some (.inr w4)
    ) else (
      (f_X8_hasBit y6 w7).bind fun q4 =>
      if q4 = 0 then (
        f_X8_pairAt_L35 x1 x2 x3 y5 y6 I n w4 (w7 + 1)
      ) else (
        if w4 = x3 then (
          some (.inl ((100 * y5) + w7))
        ) else (
          f_X8_pairAt_L35 x1 x2 x3 y5 y6 I n (w4 + 1) (w7 + 1)
        )
      )
    )
def f_X8_pairAt_L6 (x1 : Int32) (x2 : Int32) (x3 : Int32) (I : Mem) : Nat → Int32 → Int32 → Option ((Int32) ⊕ (Unit))
  | 0, _, _ => none
  | n + 1, w4, w5 =>
    (rd I 3 2 0).bind fun v1 =>
    if v1 ≤ w5 then (
      some (.inr ())
    ) else (
      (f_X8_partnersOf 0 w5 x1 1 x2 I).bind fun q2 =>
      (f_X8_pairAt_L35 x1 x2 x3 w5 q2 I fuel w4 0).bind fun q5 =>
      sm q5 (fun r => some (.inl r)) fun q6 =>
      f_X8_pairAt_L6 x1 x2 x3 I n q6 (w5 + 1)
    )
def f_X8_pairAt (x1 : Int32) (x2 : Int32) (x3 : Int32) (I : Mem) : Option (Int32) :=
  (f_X8_pairAt_L6 x1 x2 x3 I fuel 0 0).bind fun q7 =>
  sm q7 (fun r => some r) fun q8 =>
  some ((-2))
abbrev rmX8_pairAt : Room := { frames := 3, cells := 0, slots := 0, locals := 73 }
set_option maxHeartbeats 4000000 in
set_option maxRecDepth 100000 in
theorem c_X8_pairAt {l : Launch} {g : Gam} {I : Mem} {R : Rem} {P : Pool} {Z : Zed} (x1 : Int32) (x2 : Int32) (x3 : Int32)  {z : Int32} (hf : f_X8_pairAt x1 x2 x3 I = some z) : Met l yX8_pairAt (Cond.code yX8_pairAt cX8_pairAt 8 (some .int) :: GT) rmX8_pairAt (va_Pc [.ref (g.2.2 + 0), .int x1, .int x2, .int x3] (PW g I R P Z)) (QI g z I R P Z) 0 0 (AA g) := by
  refine aw_ofW (lv0 := [(0, .ref (g.2.2 + 0)), (1, .int x1), (2, .int x2), (3, .int x3)]) (by decide) (by exact Nat.le_of_ble_eq_true rfl) (by rfl) (fun p0 e s m args below meth c ls C0 hl hW => ?_)
  have C0 : CX g p0 s m args meth c RX8 cX8_pairAt 8 (some .int) := C0
  have hx := C0.1; have hb := C0.2.1; have hown := C0.2.2.2.2.1; have hts := C0.2.2.2.2.2.1; have hKS := C0.2.2.2.2.2.2.1
  have L35 : ∀ (y5 : Int32) (y6 : Int32) (I : Mem) (n : Nat) (w4 : Int32) (w7 : Int32) (H : Heap) (locs : List Loc) (ls : Array Slot) (o : (Int32) ⊕ (Int32)), f_X8_pairAt_L35 x1 x2 x3 y5 y6 I n w4 w7 = some o → Wd g I R P Z s.heap H locs → lv_has ls 8 [(0, .ref (g.2.2 + 0)), (1, .int x1), (2, .int x2), (3, .int x3), (4, .int w4), (5, .int y5), (6, .int y6), (7, .int w7)] → (∀ q, o = .inr q → ∀ (H : Heap) (locs : List Loc) (ls : Array Slot), Wd g I R P Z s.heap H locs → lv_has ls 8 [(0, .ref (g.2.2 + 0)), (1, .int x1), (2, .int x2), (3, .int x3), (4, .int q), (5, .int y5)] → W p0 l e rmX8_pairAt s m args below meth c H locs 0 0 (MQ below (QI g z I R P Z) args s 0 0 (AA g)) (F0 m 83 ls [])) → (∀ r, o = .inl r → r = z) → W p0 l e rmX8_pairAt s m args below meth c H locs 0 0 (MQ below (QI g z I R P Z) args s 0 0 (AA g)) (F0 m 35 ls []) := by
    intro y5 y6 I n
    induction n with
    | zero => intro w4 w7 H locs ls o hf; cases hf
    | succ n ih =>
      intro w4 w7 H locs ls o hf hW hl hK hZ
      rw [f_X8_pairAt_L35] at hf
      refine lv_iload hx hb dX8_pairAt_35 (lv_at hl 7 rfl) ?_
      refine lv_aload_n hx hb dX8_pairAt_37 rfl (lv_at hl 0 rfl) ?_
      refine aw_get (v := .ref (g.2.2 + 1)) C0 hW (lv_fix (by decide)) (cel_7 kd0) rfl inG7 0 (by decide) wd13 rfl rfl dX8_pairAt_38 ?_
      refine aw_get (v := .ref (g.2.2 + 3)) C0 hW (lv_fix (by decide)) (cel_6 kd1) rfl inG6 1 (by decide) wd37 rfl rfl dX8_pairAt_41 ?_
      refine lv_iconst (v := 1) hx hb dX8_pairAt_44 (by decide) ?_
      obtain ⟨v3, hv3, hf⟩ := bnd hf
      refine aw_iald C0 hW kd3 ln3 hv3 dX8_pairAt_45 ?_
      refine lv_icmp_ge (tgt := 83) hx hb dX8_pairAt_46 rfl (fun hc => ?_) (fun hc => ?_)
      · have hf := ift hc hf
        have ho := Option.some.inj hf
        subst ho
        exact hK _ rfl H locs ls hW (lv_sub hl [0, 1, 2, 3, 4, 5] rfl)
      · have hf := iff_ hc hf
        refine lv_iload hx hb dX8_pairAt_49 (lv_at hl 6 rfl) ?_
        refine lv_iload hx hb dX8_pairAt_51 (lv_at hl 7 rfl) ?_
        obtain ⟨q4, hq4, hf⟩ := bnd hf
        refine aw_cSi (rest := []) C0 hW (c_X8_hasBit y6 w7  hq4) (cw_X8_185 hts ⟨Nat.le_of_ble_eq_true rfl, Nat.le_of_ble_eq_true rfl⟩) rfl hl.1 rfl (Nat.le_of_ble_eq_true rfl) ⟨Nat.zero_le _, Nat.zero_le _⟩ dX8_pairAt_53 (fun H locs hW => ?_)
        refine lv_if_eq (tgt := 77) hx hb dX8_pairAt_56 rfl (fun hc => ?_) (fun hc => ?_)
        · have hf := ift hc hf
          refine lv_iinc (k := 7) (v := w7 + 1) (lv' := [(7, .int (w7 + 1)), (0, .ref (g.2.2 + 0)), (1, .int x1), (2, .int x2), (3, .int x3), (4, .int w4), (5, .int y5), (6, .int y6)]) hx hb dX8_pairAt_77 hl rfl (congrArg (fun t => w7 + t) (by decide : Int32.ofInt 1 = 1)) (Nat.le_of_ble_eq_true rfl) rfl (fun ls hl => ?_)
          refine lv_goto (tgt := 35) hx hb dX8_pairAt_80 rfl ?_
          exact ih _ _ H locs ls o hf hW (lv_sub hl [1, 2, 3, 4, 5, 6, 7, 0] rfl) hK hZ
        · have hf := iff_ hc hf
          refine lv_iload hx hb dX8_pairAt_59 (lv_at hl 4 rfl) ?_
          refine lv_iload_n hx hb dX8_pairAt_61 rfl (lv_at hl 3 rfl) ?_
          refine lv_icmp_ne (tgt := 74) hx hb dX8_pairAt_62 rfl (fun hc => ?_) (fun hc => ?_)
          · have hf := iff_ hc hf
            refine lv_iinc (k := 4) (v := w4 + 1) (lv' := [(4, .int (w4 + 1)), (0, .ref (g.2.2 + 0)), (1, .int x1), (2, .int x2), (3, .int x3), (5, .int y5), (6, .int y6), (7, .int w7)]) hx hb dX8_pairAt_74 hl rfl (congrArg (fun t => w4 + t) (by decide : Int32.ofInt 1 = 1)) (Nat.le_of_ble_eq_true rfl) rfl (fun ls hl => ?_)
            refine lv_iinc (k := 7) (v := w7 + 1) (lv' := [(7, .int (w7 + 1)), (4, .int (w4 + 1)), (0, .ref (g.2.2 + 0)), (1, .int x1), (2, .int x2), (3, .int x3), (5, .int y5), (6, .int y6)]) hx hb dX8_pairAt_77 hl rfl (congrArg (fun t => w7 + t) (by decide : Int32.ofInt 1 = 1)) (Nat.le_of_ble_eq_true rfl) rfl (fun ls hl => ?_)
            refine lv_goto (tgt := 35) hx hb dX8_pairAt_80 rfl ?_
            exact ih _ _ H locs ls o hf hW (lv_sub hl [2, 3, 4, 5, 1, 6, 7, 0] rfl) hK hZ
          · have hf := ift hc hf
            refine lv_bipush (v := 100) hx hb dX8_pairAt_65 (by decide) ?_
            refine lv_iload hx hb dX8_pairAt_67 (lv_at hl 5 rfl) ?_
            refine lv_imul hx hb dX8_pairAt_69 ?_
            refine lv_iload hx hb dX8_pairAt_70 (lv_at hl 7 rfl) ?_
            refine lv_iadd hx hb dX8_pairAt_72 ?_
            have hz := hZ _ (Option.some.inj hf).symm
            exact aw_iret C0 hW hz rfl rfl dX8_pairAt_73
  have L6 : ∀ (I : Mem) (n : Nat) (w4 : Int32) (w5 : Int32) (H : Heap) (locs : List Loc) (ls : Array Slot) (o : (Int32) ⊕ (Unit)), f_X8_pairAt_L6 x1 x2 x3 I n w4 w5 = some o → Wd g I R P Z s.heap H locs → lv_has ls 8 [(0, .ref (g.2.2 + 0)), (1, .int x1), (2, .int x2), (3, .int x3), (4, .int w4), (5, .int w5)] → (∀ q, o = .inr q → ∀ (H : Heap) (locs : List Loc) (ls : Array Slot), Wd g I R P Z s.heap H locs → lv_has ls 8 [] → W p0 l e rmX8_pairAt s m args below meth c H locs 0 0 (MQ below (QI g z I R P Z) args s 0 0 (AA g)) (F0 m 89 ls [])) → (∀ r, o = .inl r → r = z) → W p0 l e rmX8_pairAt s m args below meth c H locs 0 0 (MQ below (QI g z I R P Z) args s 0 0 (AA g)) (F0 m 6 ls []) := by
    intro I n
    induction n with
    | zero => intro w4 w5 H locs ls o hf; cases hf
    | succ n ih =>
      intro w4 w5 H locs ls o hf hW hl hK hZ
      rw [f_X8_pairAt_L6] at hf
      refine lv_iload hx hb dX8_pairAt_6 (lv_at hl 5 rfl) ?_
      refine lv_aload_n hx hb dX8_pairAt_8 rfl (lv_at hl 0 rfl) ?_
      refine aw_get (v := .ref (g.2.2 + 1)) C0 hW (lv_fix (by decide)) (cel_7 kd0) rfl inG7 0 (by decide) wd13 rfl rfl dX8_pairAt_9 ?_
      refine aw_get (v := .ref (g.2.2 + 3)) C0 hW (lv_fix (by decide)) (cel_6 kd1) rfl inG6 1 (by decide) wd37 rfl rfl dX8_pairAt_12 ?_
      refine lv_iconst (v := 0) hx hb dX8_pairAt_15 (by decide) ?_
      obtain ⟨v1, hv1, hf⟩ := bnd hf
      refine aw_iald C0 hW kd3 ln3 hv1 dX8_pairAt_16 ?_
      refine lv_icmp_ge (tgt := 89) hx hb dX8_pairAt_17 rfl (fun hc => ?_) (fun hc => ?_)
      · have hf := ift hc hf
        have ho := Option.some.inj hf
        subst ho
        exact hK _ rfl H locs ls hW (lv_sub hl [] rfl)
      · have hf := iff_ hc hf
        refine lv_aload_n hx hb dX8_pairAt_20 rfl (lv_at hl 0 rfl) ?_
        refine lv_iconst (v := 0) hx hb dX8_pairAt_21 (by decide) ?_
        refine lv_iload hx hb dX8_pairAt_22 (lv_at hl 5 rfl) ?_
        refine lv_iload_n hx hb dX8_pairAt_24 rfl (lv_at hl 1 rfl) ?_
        refine lv_iconst (v := 1) hx hb dX8_pairAt_25 (by decide) ?_
        refine lv_iload_n hx hb dX8_pairAt_26 rfl (lv_at hl 2 rfl) ?_
        obtain ⟨q2, hq2, hf⟩ := bnd hf
        refine aw_cVi (rest := []) C0 hW (lv_fix (by decide)) (cel_7 kd0) rfl (c_X8_partnersOf 0 w5 x1 1 x2  hq2) (cw_X8_314 hts ⟨Nat.le_of_ble_eq_true rfl, Nat.le_of_ble_eq_true rfl⟩) rfl hl.1 rfl (Nat.le_of_ble_eq_true rfl) ⟨Nat.zero_le _, Nat.zero_le _⟩ dX8_pairAt_27 (fun H locs hW => ?_)
        refine lv_istore (lv' := [(6, .int q2), (0, .ref (g.2.2 + 0)), (1, .int x1), (2, .int x2), (3, .int x3), (4, .int w4), (5, .int w5)]) hx hb dX8_pairAt_30 hl (Nat.le_of_ble_eq_true rfl) rfl (fun ls hl => ?_)
        refine lv_iconst (v := 0) hx hb dX8_pairAt_32 (by decide) ?_
        refine lv_istore (lv' := [(7, .int 0), (6, .int q2), (0, .ref (g.2.2 + 0)), (1, .int x1), (2, .int x2), (3, .int x3), (4, .int w4), (5, .int w5)]) hx hb dX8_pairAt_33 hl (Nat.le_of_ble_eq_true rfl) rfl (fun ls hl => ?_)
        obtain ⟨q5, hq5, hf⟩ := bnd hf
        refine L35 w5 q2 I fuel w4 0 H locs ls _ hq5 hW (lv_sub hl [2, 3, 4, 5, 6, 7, 1, 0] rfl) (fun q6 eq6 H locs ls hW hl => ?_) (fun r er => ?_)
        rotate_left
        · rw [er] at hf
          exact hZ r (Option.some.inj hf).symm
        rw [eq6] at hf
        have hf := (sm_r.symm.trans hf)
        refine lv_iinc (k := 5) (v := w5 + 1) (lv' := [(5, .int (w5 + 1)), (0, .ref (g.2.2 + 0)), (1, .int x1), (2, .int x2), (3, .int x3), (4, .int q6)]) hx hb dX8_pairAt_83 hl rfl (congrArg (fun t => w5 + t) (by decide : Int32.ofInt 1 = 1)) (Nat.le_of_ble_eq_true rfl) rfl (fun ls hl => ?_)
        refine lv_goto (tgt := 6) hx hb dX8_pairAt_86 rfl ?_
        exact ih _ _ H locs ls o hf hW (lv_sub hl [1, 2, 3, 4, 5, 0] rfl) hK hZ
  unfold f_X8_pairAt at hf
  obtain ⟨H, hH⟩ : ∃ H, H = s.heap := ⟨_, rfl⟩
  obtain ⟨locs, hlc⟩ : ∃ q : List Loc, q = [] := ⟨_, rfl⟩
  rw [show W p0 l e rmX8_pairAt s m args below meth c s.heap [] 0 0 (MQ below (QI g z I R P Z) args s 0 0 (AA g)) (F0 m 0 ls []) = W p0 l e rmX8_pairAt s m args below meth c H locs 0 0 (MQ below (QI g z I R P Z) args s 0 0 (AA g)) (F0 m 0 ls []) by rw [hH, hlc]]
  have hW : Wd g I R P Z s.heap H locs := by rw [hH, hlc]; exact hW
  refine lv_iconst (v := 0) hx hb dX8_pairAt_0 (by decide) ?_
  refine lv_istore (lv' := [(4, .int 0), (0, .ref (g.2.2 + 0)), (1, .int x1), (2, .int x2), (3, .int x3)]) hx hb dX8_pairAt_1 hl (Nat.le_of_ble_eq_true rfl) rfl (fun ls hl => ?_)
  refine lv_iconst (v := 0) hx hb dX8_pairAt_3 (by decide) ?_
  refine lv_istore (lv' := [(5, .int 0), (4, .int 0), (0, .ref (g.2.2 + 0)), (1, .int x1), (2, .int x2), (3, .int x3)]) hx hb dX8_pairAt_4 hl (Nat.le_of_ble_eq_true rfl) rfl (fun ls hl => ?_)
  obtain ⟨q7, hq7, hf⟩ := bnd hf
  refine L6 I fuel 0 0 H locs ls _ hq7 hW (lv_sub hl [2, 3, 4, 5, 1, 0] rfl) (fun q8 eq8 H locs ls hW hl => ?_) (fun r er => ?_)
  rotate_left
  · rw [er] at hf
    exact Option.some.inj hf
  rw [eq8] at hf
  have hf := (sm_r.symm.trans hf)
  refine lv_bipush (v := (-2)) hx hb dX8_pairAt_89 (by decide) ?_
  have hz := Option.some.inj hf
  exact aw_iret C0 hW hz rfl rfl dX8_pairAt_91
def f_X5_codeAt (x1 : Int32) (I : Mem) : Option (Int32) :=
  if x1 < 0 then (
    some ((-2))
  ) else (
    if (I 24 3) ≤ x1 then (
      some ((-2))
    ) else (
      (rd I 25 160 x1).bind fun v1 =>
      some v1
    )
  )
abbrev rmX5_codeAt : Room := { frames := 0, cells := 0, slots := 0, locals := 0 }
set_option maxHeartbeats 4000000 in
set_option maxRecDepth 100000 in
theorem c_X5_codeAt {l : Launch} {g : Gam} {I : Mem} {R : Rem} {P : Pool} {Z : Zed} (x1 : Int32)  {z : Int32} (hf : f_X5_codeAt x1 I = some z) : Met l yX5_codeAt (Cond.code yX5_codeAt cX5_codeAt 2 (some .int) :: GT) rmX5_codeAt (va_Pc [.ref (g.2.2 + 24), .int x1] (PW g I R P Z)) (QI g z I R P Z) 0 0 (AA g) := by
  refine aw_ofW (lv0 := [(0, .ref (g.2.2 + 24)), (1, .int x1)]) (by decide) (by exact Nat.le_of_ble_eq_true rfl) (by rfl) (fun p0 e s m args below meth c ls C0 hl hW => ?_)
  have C0 : CX g p0 s m args meth c RX5 cX5_codeAt 2 (some .int) := C0
  have hx := C0.1; have hb := C0.2.1; have hown := C0.2.2.2.2.1; have hts := C0.2.2.2.2.2.1; have hKS := C0.2.2.2.2.2.2.1
  unfold f_X5_codeAt at hf
  obtain ⟨H, hH⟩ : ∃ H, H = s.heap := ⟨_, rfl⟩
  obtain ⟨locs, hlc⟩ : ∃ q : List Loc, q = [] := ⟨_, rfl⟩
  rw [show W p0 l e rmX5_codeAt s m args below meth c s.heap [] 0 0 (MQ below (QI g z I R P Z) args s 0 0 (AA g)) (F0 m 0 ls []) = W p0 l e rmX5_codeAt s m args below meth c H locs 0 0 (MQ below (QI g z I R P Z) args s 0 0 (AA g)) (F0 m 0 ls []) by rw [hH, hlc]]
  have hW : Wd g I R P Z s.heap H locs := by rw [hH, hlc]; exact hW
  refine lv_iload_n hx hb dX5_codeAt_0 rfl (lv_at hl 1 rfl) ?_
  refine lv_if_lt (tgt := 21) hx hb dX5_codeAt_1 rfl (fun hc => ?_) (fun hc => ?_)
  · have hf := ift hc hf
    refine lv_bipush (v := (-2)) hx hb dX5_codeAt_21 (by decide) ?_
    have hz := Option.some.inj hf
    exact aw_iret C0 hW hz rfl rfl dX5_codeAt_23
  · have hf := iff_ hc hf
    refine lv_iload_n hx hb dX5_codeAt_4 rfl (lv_at hl 1 rfl) ?_
    refine lv_aload_n hx hb dX5_codeAt_5 rfl (lv_at hl 0 rfl) ?_
    refine aw_get (v := .int (I 24 3)) C0 hW (lv_fix (by decide)) (cel_5 kd24) rfl inG5 3 (by decide) wd47 rfl rfl dX5_codeAt_6 ?_
    refine lv_icmp_ge (tgt := 21) hx hb dX5_codeAt_9 rfl (fun hc => ?_) (fun hc => ?_)
    · have hf := ift hc hf
      refine lv_bipush (v := (-2)) hx hb dX5_codeAt_21 (by decide) ?_
      have hz := Option.some.inj hf
      exact aw_iret C0 hW hz rfl rfl dX5_codeAt_23
    · have hf := iff_ hc hf
      refine lv_aload_n hx hb dX5_codeAt_12 rfl (lv_at hl 0 rfl) ?_
      refine aw_get (v := .ref (g.2.2 + 25)) C0 hW (lv_fix (by decide)) (cel_5 kd24) rfl inG5 0 (by decide) wd48 rfl rfl dX5_codeAt_13 ?_
      refine lv_iload_n hx hb dX5_codeAt_16 rfl (lv_at hl 1 rfl) ?_
      obtain ⟨v1, hv1, hf⟩ := bnd hf
      refine aw_cald C0 hW kd25 ln25 hv1 dX5_codeAt_17 ?_
      refine lv_goto (tgt := 23) hx hb dX5_codeAt_18 rfl ?_
      have hz := Option.some.inj hf
      exact aw_iret C0 hW hz rfl rfl dX5_codeAt_23
def f_X1_pushSets (x1 : Int32) (x2 : Int32) (P : Pool) (I : Mem) : Option (Mem) :=
  (f_X3_push 12 x1 P I).bind fun q1 =>
  (f_X3_push 14 x2 P q1).bind fun q2 =>
  some q2
abbrev rmX1_pushSets : Room := { frames := 1, cells := 0, slots := 0, locals := 21 }
set_option maxHeartbeats 4000000 in
set_option maxRecDepth 100000 in
theorem c_X1_pushSets {l : Launch} {g : Gam} {I : Mem} {R : Rem} {P : Pool} {Z : Zed} (x1 : Int32) (x2 : Int32)  {z : Mem} (hf : f_X1_pushSets x1 x2 P I = some z) : Met l yX1_pushSets (Cond.code yX1_pushSets cX1_pushSets 3 none :: GT) rmX1_pushSets (va_Pc [.ref (g.2.2 + 11), .int x1, .int x2] (PW g I R P Z)) (QV g z R P Z) 0 0 (AA g) := by
  refine aw_ofW (lv0 := [(0, .ref (g.2.2 + 11)), (1, .int x1), (2, .int x2)]) (by decide) (by exact Nat.le_of_ble_eq_true rfl) (by rfl) (fun p0 e s m args below meth c ls C0 hl hW => ?_)
  have C0 : CX g p0 s m args meth c RX1 cX1_pushSets 3 none := C0
  have hx := C0.1; have hb := C0.2.1; have hown := C0.2.2.2.2.1; have hts := C0.2.2.2.2.2.1; have hKS := C0.2.2.2.2.2.2.1
  unfold f_X1_pushSets at hf
  obtain ⟨H, hH⟩ : ∃ H, H = s.heap := ⟨_, rfl⟩
  obtain ⟨locs, hlc⟩ : ∃ q : List Loc, q = [] := ⟨_, rfl⟩
  rw [show W p0 l e rmX1_pushSets s m args below meth c s.heap [] 0 0 (MQ below (QV g z R P Z) args s 0 0 (AA g)) (F0 m 0 ls []) = W p0 l e rmX1_pushSets s m args below meth c H locs 0 0 (MQ below (QV g z R P Z) args s 0 0 (AA g)) (F0 m 0 ls []) by rw [hH, hlc]]
  have hW : Wd g I R P Z s.heap H locs := by rw [hH, hlc]; exact hW
  refine lv_aload_n hx hb dX1_pushSets_0 rfl (lv_at hl 0 rfl) ?_
  refine aw_get (v := .ref (g.2.2 + 12)) C0 hW (lv_fix (by decide)) (cel_1 kd11) rfl inG1 0 (by decide) wd16 rfl rfl dX1_pushSets_1 ?_
  refine lv_iload_n hx hb dX1_pushSets_4 rfl (lv_at hl 1 rfl) ?_
  obtain ⟨q1, hq1, hf⟩ := bnd hf
  refine aw_cVv (rest := []) C0 hW (lv_fix (by decide)) (cel_3 kd12) rfl (c_X3_push 12 x1 kd12 hq1) (cw_X1_41 hts ⟨Nat.le_of_ble_eq_true rfl, Nat.le_of_ble_eq_true rfl⟩) rfl hl.1 rfl (Nat.le_of_ble_eq_true rfl) ⟨Nat.zero_le _, Nat.zero_le _⟩ dX1_pushSets_5 (fun H locs hW => ?_)
  refine lv_aload_n hx hb dX1_pushSets_8 rfl (lv_at hl 0 rfl) ?_
  refine aw_get (v := .ref (g.2.2 + 14)) C0 hW (lv_fix (by decide)) (cel_1 kd11) rfl inG1 1 (by decide) wd17 rfl rfl dX1_pushSets_9 ?_
  refine lv_iload_n hx hb dX1_pushSets_12 rfl (lv_at hl 2 rfl) ?_
  obtain ⟨q2, hq2, hf⟩ := bnd hf
  refine aw_cVv (rest := []) C0 hW (lv_fix (by decide)) (cel_3 kd14) rfl (c_X3_push 14 x2 kd14 hq2) (cw_X1_41 hts ⟨Nat.le_of_ble_eq_true rfl, Nat.le_of_ble_eq_true rfl⟩) rfl hl.1 rfl (Nat.le_of_ble_eq_true rfl) ⟨Nat.zero_le _, Nat.zero_le _⟩ dX1_pushSets_13 (fun H locs hW => ?_)
  have hz := Option.some.inj hf
  exact aw_vret C0 hW hz rfl dX1_pushSets_16
theorem cw_X1_64 {Rm : Room} {s : State} {args : Array Value} (ht : ∀ w ∈ GT, w.before args s = true) (hR : rmX1_pushSets.frames + 1 ≤ Rm.frames ∧ 8 + (3 + 11) + rmX1_pushSets.locals ≤ Rm.locals) : CallW Rm s args RX1 RX1 64 yX1_pushSets cX1_pushSets 3 none (Cond.code yX1_pushSets cX1_pushSets 3 none :: GT) rmX1_pushSets 0 0 2 := cwV 2 ht (goodV wd126 wd127 wd128 wd99 wd129) rfl rfl rfl ⟨rfl, by decide +kernel, by decide +kernel, by decide +kernel⟩ hR
theorem cw_X8_354 {Rm : Room} {s : State} {args : Array Value} (ht : ∀ w ∈ GT, w.before args s = true) (hR : rmX1_pushSets.frames + 1 ≤ Rm.frames ∧ 8 + (3 + 11) + rmX1_pushSets.locals ≤ Rm.locals) : CallW Rm s args RX8 RX1 354 yX1_pushSets cX1_pushSets 3 none (Cond.code yX1_pushSets cX1_pushSets 3 none :: GT) rmX1_pushSets 0 0 2 := cwV 2 ht (goodV wd328 wd127 wd128 wd99 wd129) rfl rfl rfl ⟨rfl, by decide +kernel, by decide +kernel, by decide +kernel⟩ hR
def f_X8_pushTestSets_L8 (x1 : Int32) (x2 : Int32) (P : Pool) : Nat → Int32 → Int32 → Int32 → Mem → Option (Int32 × Int32 × Mem)
  | 0, _, _, _, _ => none
  | n + 1, w3, w4, w5, I =>
    (rd I 3 2 x1).bind fun v1 =>
    if v1 ≤ w5 then (
      some (w3, w4, I)
    ) else (
      (f_X8_loadRow x1 w5 I).bind fun q2 =>
      (f_X8_unknownsOf 10 P q2).bind fun q3 =>
      (f_X7_truthOf x2 10 q3 P q2).bind fun q4 =>
      if q4 = 2 then (
        f_X8_pushTestSets_L8 x1 x2 P n (w3 ||| (1 <<< (w5 &&& 31))) w4 (w5 + 1) q2
      ) else (
        if q4 = 0 then (
          f_X8_pushTestSets_L8 x1 x2 P n w3 (w4 ||| (1 <<< (w5 &&& 31))) (w5 + 1) q2
        ) else (
          f_X8_pushTestSets_L8 x1 x2 P n w3 w4 (w5 + 1) q2
        )
      )
    )
def f_X8_pushTestSets (x1 : Int32) (x2 : Int32) (P : Pool) (I : Mem) : Option (Mem) :=
  (f_X8_pushTestSets_L8 x1 x2 P fuel 0 0 0 I).bind fun q5 =>
  (f_X1_pushSets q5.1 q5.2.1 P q5.2.2).bind fun q6 =>
  some q6
abbrev rmX8_pushTestSets : Room := { frames := 2, cells := 0, slots := 0, locals := 48 }
set_option maxHeartbeats 4000000 in
set_option maxRecDepth 100000 in
theorem c_X8_pushTestSets {l : Launch} {g : Gam} {I : Mem} {R : Rem} {P : Pool} {Z : Zed} (x1 : Int32) (x2 : Int32)  {z : Mem} (hf : f_X8_pushTestSets x1 x2 P I = some z) : Met l yX8_pushTestSets (Cond.code yX8_pushTestSets cX8_pushTestSets 7 none :: GT) rmX8_pushTestSets (va_Pc [.ref (g.2.2 + 0), .int x1, .int x2] (PW g I R P Z)) (QV g z R P Z) 0 0 (AA g) := by
  refine aw_ofW (lv0 := [(0, .ref (g.2.2 + 0)), (1, .int x1), (2, .int x2)]) (by decide) (by exact Nat.le_of_ble_eq_true rfl) (by rfl) (fun p0 e s m args below meth c ls C0 hl hW => ?_)
  have C0 : CX g p0 s m args meth c RX8 cX8_pushTestSets 7 none := C0
  have hx := C0.1; have hb := C0.2.1; have hown := C0.2.2.2.2.1; have hts := C0.2.2.2.2.2.1; have hKS := C0.2.2.2.2.2.2.1
  have L8 : ∀ (n : Nat) (w3 : Int32) (w4 : Int32) (w5 : Int32) (I : Mem) (H : Heap) (locs : List Loc) (ls : Array Slot) (o : Int32 × Int32 × Mem), f_X8_pushTestSets_L8 x1 x2 P n w3 w4 w5 I = some o → Wd g I R P Z s.heap H locs → lv_has ls 7 [(0, .ref (g.2.2 + 0)), (1, .int x1), (2, .int x2), (3, .int w3), (4, .int w4), (5, .int w5)] → (∀ (H : Heap) (locs : List Loc) (ls : Array Slot), Wd g o.2.2 R P Z s.heap H locs → lv_has ls 7 [(0, .ref (g.2.2 + 0)), (3, .int o.1), (4, .int o.2.1)] → W p0 l e rmX8_pushTestSets s m args below meth c H locs 0 0 (MQ below (QV g z R P Z) args s 0 0 (AA g)) (F0 m 82 ls [])) → W p0 l e rmX8_pushTestSets s m args below meth c H locs 0 0 (MQ below (QV g z R P Z) args s 0 0 (AA g)) (F0 m 8 ls []) := by
    intro n
    induction n with
    | zero => intro w3 w4 w5 I H locs ls o hf; cases hf
    | succ n ih =>
      intro w3 w4 w5 I H locs ls o hf hW hl hK
      rw [f_X8_pushTestSets_L8] at hf
      refine lv_iload hx hb dX8_pushTestSets_8 (lv_at hl 5 rfl) ?_
      refine lv_aload_n hx hb dX8_pushTestSets_10 rfl (lv_at hl 0 rfl) ?_
      refine aw_get (v := .ref (g.2.2 + 1)) C0 hW (lv_fix (by decide)) (cel_7 kd0) rfl inG7 0 (by decide) wd13 rfl rfl dX8_pushTestSets_11 ?_
      refine aw_get (v := .ref (g.2.2 + 3)) C0 hW (lv_fix (by decide)) (cel_6 kd1) rfl inG6 1 (by decide) wd37 rfl rfl dX8_pushTestSets_14 ?_
      refine lv_iload_n hx hb dX8_pushTestSets_17 rfl (lv_at hl 1 rfl) ?_
      obtain ⟨v1, hv1, hf⟩ := bnd hf
      refine aw_iald C0 hW kd3 ln3 hv1 dX8_pushTestSets_18 ?_
      refine lv_icmp_ge (tgt := 82) hx hb dX8_pushTestSets_19 rfl (fun hc => ?_) (fun hc => ?_)
      · have hf := ift hc hf
        have ho := Option.some.inj hf
        subst ho
        exact hK H locs ls hW (lv_sub hl [0, 3, 4] rfl)
      · have hf := iff_ hc hf
        refine lv_aload_n hx hb dX8_pushTestSets_22 rfl (lv_at hl 0 rfl) ?_
        refine lv_iload_n hx hb dX8_pushTestSets_23 rfl (lv_at hl 1 rfl) ?_
        refine lv_iload hx hb dX8_pushTestSets_24 (lv_at hl 5 rfl) ?_
        obtain ⟨q2, hq2, hf⟩ := bnd hf
        refine aw_cVv (rest := []) C0 hW (lv_fix (by decide)) (cel_7 kd0) rfl (c_X8_loadRow x1 w5  hq2) (cw_X8_258 hts ⟨Nat.le_of_ble_eq_true rfl, Nat.le_of_ble_eq_true rfl⟩) rfl hl.1 rfl (Nat.le_of_ble_eq_true rfl) ⟨Nat.zero_le _, Nat.zero_le _⟩ dX8_pushTestSets_26 (fun H locs hW => ?_)
        refine lv_iload_n hx hb dX8_pushTestSets_29 rfl (lv_at hl 2 rfl) ?_
        refine lv_aload_n hx hb dX8_pushTestSets_30 rfl (lv_at hl 0 rfl) ?_
        refine aw_get (v := .ref (g.2.2 + 10)) C0 hW (lv_fix (by decide)) (cel_7 kd0) rfl inG7 7 (by decide) wd28 rfl rfl dX8_pushTestSets_31 ?_
        refine lv_aload_n hx hb dX8_pushTestSets_34 rfl (lv_at hl 0 rfl) ?_
        refine aw_get (v := .ref (g.2.2 + 10)) C0 hW (lv_fix (by decide)) (cel_7 kd0) rfl inG7 7 (by decide) wd28 rfl rfl dX8_pushTestSets_35 ?_
        obtain ⟨q3, hq3, hf⟩ := bnd hf
        refine aw_cSi (rest := [.ref (g.2.2 + 10), .int x2]) C0 hW (c_X8_unknownsOf 10 kd10 hq3) (cw_X8_261 hts ⟨Nat.le_of_ble_eq_true rfl, Nat.le_of_ble_eq_true rfl⟩) rfl hl.1 rfl (Nat.le_of_ble_eq_true rfl) ⟨Nat.zero_le _, Nat.zero_le _⟩ dX8_pushTestSets_38 (fun H locs hW => ?_)
        obtain ⟨q4, hq4, hf⟩ := bnd hf
        refine aw_cSi (rest := []) C0 hW (c_X7_truthOf x2 10 q3 kd10 hq4) (cw_X8_351 hts ⟨Nat.le_of_ble_eq_true rfl, Nat.le_of_ble_eq_true rfl⟩) rfl hl.1 rfl (Nat.le_of_ble_eq_true rfl) ⟨Nat.zero_le _, Nat.zero_le _⟩ dX8_pushTestSets_41 (fun H locs hW => ?_)
        refine lv_istore (lv' := [(6, .int q4), (0, .ref (g.2.2 + 0)), (1, .int x1), (2, .int x2), (3, .int w3), (4, .int w4), (5, .int w5)]) hx hb dX8_pushTestSets_44 hl (Nat.le_of_ble_eq_true rfl) rfl (fun ls hl => ?_)
        refine lv_iload hx hb dX8_pushTestSets_46 (lv_at hl 0 rfl) ?_
        refine lv_iconst (v := 2) hx hb dX8_pushTestSets_48 (by decide) ?_
        refine lv_icmp_ne (tgt := 62) hx hb dX8_pushTestSets_49 rfl (fun hc => ?_) (fun hc => ?_)
        · have hf := iff_ hc hf
          refine lv_iload hx hb dX8_pushTestSets_62 (lv_at hl 0 rfl) ?_
          refine lv_if_ne (tgt := 76) hx hb dX8_pushTestSets_64 rfl (fun hc => ?_) (fun hc => ?_)
          · have hf := iff_ hc hf
            refine lv_iinc (k := 6) (v := w5 + 1) (lv' := [(5, .int (w5 + 1)), (6, .int q4), (0, .ref (g.2.2 + 0)), (1, .int x1), (2, .int x2), (3, .int w3), (4, .int w4)]) hx hb dX8_pushTestSets_76 hl rfl (congrArg (fun t => w5 + t) (by decide : Int32.ofInt 1 = 1)) (Nat.le_of_ble_eq_true rfl) rfl (fun ls hl => ?_)
            refine lv_goto (tgt := 8) hx hb dX8_pushTestSets_79 rfl ?_
            exact ih _ _ _ _ H locs ls o hf hW (lv_sub hl [2, 3, 4, 5, 6, 0] rfl) hK
          · have hf := ift hc hf
            refine lv_iload hx hb dX8_pushTestSets_67 (lv_at hl 5 rfl) ?_
            refine lv_iconst (v := 1) hx hb dX8_pushTestSets_69 (by decide) ?_
            refine lv_iload hx hb dX8_pushTestSets_70 (lv_at hl 6 rfl) ?_
            refine lv_ishl hx hb dX8_pushTestSets_72 ?_
            refine lv_ior hx hb dX8_pushTestSets_73 ?_
            refine lv_istore (lv' := [(4, .int (w4 ||| (1 <<< (w5 &&& 31)))), (6, .int q4), (0, .ref (g.2.2 + 0)), (1, .int x1), (2, .int x2), (3, .int w3), (5, .int w5)]) hx hb dX8_pushTestSets_74 hl (Nat.le_of_ble_eq_true rfl) rfl (fun ls hl => ?_)
            refine lv_iinc (k := 6) (v := w5 + 1) (lv' := [(5, .int (w5 + 1)), (4, .int (w4 ||| (1 <<< (w5 &&& 31)))), (6, .int q4), (0, .ref (g.2.2 + 0)), (1, .int x1), (2, .int x2), (3, .int w3)]) hx hb dX8_pushTestSets_76 hl rfl (congrArg (fun t => w5 + t) (by decide : Int32.ofInt 1 = 1)) (Nat.le_of_ble_eq_true rfl) rfl (fun ls hl => ?_)
            refine lv_goto (tgt := 8) hx hb dX8_pushTestSets_79 rfl ?_
            exact ih _ _ _ _ H locs ls o hf hW (lv_sub hl [3, 4, 5, 6, 1, 0] rfl) hK
        · have hf := ift hc hf
          refine lv_iload_n hx hb dX8_pushTestSets_52 rfl (lv_at hl 4 rfl) ?_
          refine lv_iconst (v := 1) hx hb dX8_pushTestSets_53 (by decide) ?_
          refine lv_iload hx hb dX8_pushTestSets_54 (lv_at hl 6 rfl) ?_
          refine lv_ishl hx hb dX8_pushTestSets_56 ?_
          refine lv_ior hx hb dX8_pushTestSets_57 ?_
          refine lv_istore_n (lv' := [(3, .int (w3 ||| (1 <<< (w5 &&& 31)))), (6, .int q4), (0, .ref (g.2.2 + 0)), (1, .int x1), (2, .int x2), (4, .int w4), (5, .int w5)]) hx hb dX8_pushTestSets_58 rfl hl (Nat.le_of_ble_eq_true rfl) rfl (fun ls hl => ?_)
          refine lv_goto (tgt := 76) hx hb dX8_pushTestSets_59 rfl ?_
          refine lv_iinc (k := 6) (v := w5 + 1) (lv' := [(5, .int (w5 + 1)), (3, .int (w3 ||| (1 <<< (w5 &&& 31)))), (6, .int q4), (0, .ref (g.2.2 + 0)), (1, .int x1), (2, .int x2), (4, .int w4)]) hx hb dX8_pushTestSets_76 hl rfl (congrArg (fun t => w5 + t) (by decide : Int32.ofInt 1 = 1)) (Nat.le_of_ble_eq_true rfl) rfl (fun ls hl => ?_)
          refine lv_goto (tgt := 8) hx hb dX8_pushTestSets_79 rfl ?_
          exact ih _ _ _ _ H locs ls o hf hW (lv_sub hl [3, 4, 5, 1, 6, 0] rfl) hK
  unfold f_X8_pushTestSets at hf
  obtain ⟨H, hH⟩ : ∃ H, H = s.heap := ⟨_, rfl⟩
  obtain ⟨locs, hlc⟩ : ∃ q : List Loc, q = [] := ⟨_, rfl⟩
  rw [show W p0 l e rmX8_pushTestSets s m args below meth c s.heap [] 0 0 (MQ below (QV g z R P Z) args s 0 0 (AA g)) (F0 m 0 ls []) = W p0 l e rmX8_pushTestSets s m args below meth c H locs 0 0 (MQ below (QV g z R P Z) args s 0 0 (AA g)) (F0 m 0 ls []) by rw [hH, hlc]]
  have hW : Wd g I R P Z s.heap H locs := by rw [hH, hlc]; exact hW
  refine lv_iconst (v := 0) hx hb dX8_pushTestSets_0 (by decide) ?_
  refine lv_istore_n (lv' := [(3, .int 0), (0, .ref (g.2.2 + 0)), (1, .int x1), (2, .int x2)]) hx hb dX8_pushTestSets_1 rfl hl (Nat.le_of_ble_eq_true rfl) rfl (fun ls hl => ?_)
  refine lv_iconst (v := 0) hx hb dX8_pushTestSets_2 (by decide) ?_
  refine lv_istore (lv' := [(4, .int 0), (3, .int 0), (0, .ref (g.2.2 + 0)), (1, .int x1), (2, .int x2)]) hx hb dX8_pushTestSets_3 hl (Nat.le_of_ble_eq_true rfl) rfl (fun ls hl => ?_)
  refine lv_iconst (v := 0) hx hb dX8_pushTestSets_5 (by decide) ?_
  refine lv_istore (lv' := [(5, .int 0), (4, .int 0), (3, .int 0), (0, .ref (g.2.2 + 0)), (1, .int x1), (2, .int x2)]) hx hb dX8_pushTestSets_6 hl (Nat.le_of_ble_eq_true rfl) rfl (fun ls hl => ?_)
  obtain ⟨q5, hq5, hf⟩ := bnd hf
  refine L8  fuel 0 0 0 I H locs ls _ hq5 hW (lv_sub hl [3, 4, 5, 2, 1, 0] rfl) (fun H locs ls hW hl => ?_)
  refine lv_aload_n hx hb dX8_pushTestSets_82 rfl (lv_at hl 0 rfl) ?_
  refine aw_get (v := .ref (g.2.2 + 11)) C0 hW (lv_fix (by decide)) (cel_7 kd0) rfl inG7 8 (by decide) wd27 rfl rfl dX8_pushTestSets_83 ?_
  refine lv_iload_n hx hb dX8_pushTestSets_86 rfl (lv_at hl 1 rfl) ?_
  refine lv_iload hx hb dX8_pushTestSets_87 (lv_at hl 2 rfl) ?_
  obtain ⟨q6, hq6, hf⟩ := bnd hf
  refine aw_cVv (rest := []) C0 hW (lv_fix (by decide)) (cel_1 kd11) rfl (c_X1_pushSets q5.1 q5.2.1  hq6) (cw_X8_354 hts ⟨Nat.le_of_ble_eq_true rfl, Nat.le_of_ble_eq_true rfl⟩) rfl hl.1 rfl (Nat.le_of_ble_eq_true rfl) ⟨Nat.zero_le _, Nat.zero_le _⟩ dX8_pushTestSets_89 (fun H locs hW => ?_)
  have hz := Option.some.inj hf
  exact aw_vret C0 hW hz rfl dX8_pushTestSets_92
theorem cw_X8_334 {Rm : Room} {s : State} {args : Array Value} (ht : ∀ w ∈ GT, w.before args s = true) (hR : rmX8_pushTestSets.frames + 1 ≤ Rm.frames ∧ 8 + (7 + 11) + rmX8_pushTestSets.locals ≤ Rm.locals) : CallW Rm s args RX8 RX8 334 yX8_pushTestSets cX8_pushTestSets 7 none (Cond.code yX8_pushTestSets cX8_pushTestSets 7 none :: GT) rmX8_pushTestSets 0 0 2 := cwV 2 ht (goodV wd310 wd311 wd312 wd243 wd313) rfl rfl rfl ⟨rfl, by decide +kernel, by decide +kernel, by decide +kernel⟩ hR
def f_X1_joinSets (x1 : Int32) (P : Pool) (I : Mem) : Option (Mem) :=
  (f_X3_pop 12 I).bind fun q1 =>
  (f_X3_pop 14 q1.2).bind fun q2 =>
  if x1 = 33 then (
    (f_X1_pushSets q2.1 q1.1 P q2.2).bind fun q3 =>
    some q3
  ) else (
  if x1 = 38 then (
    (f_X3_pop 12 q2.2).bind fun q4 =>
    (f_X3_pop 14 q4.2).bind fun q5 =>
    (f_X1_pushSets (q4.1 &&& q1.1) (q5.1 ||| q2.1) P q5.2).bind fun q6 =>
    some q6
  ) else (
    (f_X3_pop 12 q2.2).bind fun q7 =>
    (f_X3_pop 14 q7.2).bind fun q8 =>
    (f_X1_pushSets (q7.1 ||| q1.1) (q8.1 &&& q2.1) P q8.2).bind fun q9 =>
    some q9
  ))
abbrev rmX1_joinSets : Room := { frames := 2, cells := 0, slots := 0, locals := 43 }
set_option maxHeartbeats 4000000 in
set_option maxRecDepth 100000 in
theorem c_X1_joinSets {l : Launch} {g : Gam} {I : Mem} {R : Rem} {P : Pool} {Z : Zed} (x1 : Int32)  {z : Mem} (hf : f_X1_joinSets x1 P I = some z) : Met l yX1_joinSets (Cond.code yX1_joinSets cX1_joinSets 4 none :: GT) rmX1_joinSets (va_Pc [.ref (g.2.2 + 11), .int x1] (PW g I R P Z)) (QV g z R P Z) 0 0 (AA g) := by
  refine aw_ofW (lv0 := [(0, .ref (g.2.2 + 11)), (1, .int x1)]) (by decide) (by exact Nat.le_of_ble_eq_true rfl) (by rfl) (fun p0 e s m args below meth c ls C0 hl hW => ?_)
  have C0 : CX g p0 s m args meth c RX1 cX1_joinSets 4 none := C0
  have hx := C0.1; have hb := C0.2.1; have hown := C0.2.2.2.2.1; have hts := C0.2.2.2.2.2.1; have hKS := C0.2.2.2.2.2.2.1
  unfold f_X1_joinSets at hf
  obtain ⟨H, hH⟩ : ∃ H, H = s.heap := ⟨_, rfl⟩
  obtain ⟨locs, hlc⟩ : ∃ q : List Loc, q = [] := ⟨_, rfl⟩
  rw [show W p0 l e rmX1_joinSets s m args below meth c s.heap [] 0 0 (MQ below (QV g z R P Z) args s 0 0 (AA g)) (F0 m 0 ls []) = W p0 l e rmX1_joinSets s m args below meth c H locs 0 0 (MQ below (QV g z R P Z) args s 0 0 (AA g)) (F0 m 0 ls []) by rw [hH, hlc]]
  have hW : Wd g I R P Z s.heap H locs := by rw [hH, hlc]; exact hW
  refine lv_aload_n hx hb dX1_joinSets_0 rfl (lv_at hl 0 rfl) ?_
  refine aw_get (v := .ref (g.2.2 + 12)) C0 hW (lv_fix (by decide)) (cel_1 kd11) rfl inG1 0 (by decide) wd16 rfl rfl dX1_joinSets_1 ?_
  obtain ⟨q1, hq1, hf⟩ := bnd hf
  refine aw_cVi (rest := []) C0 hW (lv_fix (by decide)) (cel_3 kd12) rfl (c_X3_pop 12 kd12 hq1) (cw_X1_38 hts ⟨Nat.le_of_ble_eq_true rfl, Nat.le_of_ble_eq_true rfl⟩) rfl hl.1 rfl (Nat.le_of_ble_eq_true rfl) ⟨Nat.zero_le _, Nat.zero_le _⟩ dX1_joinSets_4 (fun H locs hW => ?_)
  refine lv_istore_n (lv' := [(2, .int q1.1), (0, .ref (g.2.2 + 11)), (1, .int x1)]) hx hb dX1_joinSets_7 rfl hl (Nat.le_of_ble_eq_true rfl) rfl (fun ls hl => ?_)
  refine lv_aload_n hx hb dX1_joinSets_8 rfl (lv_at hl 1 rfl) ?_
  refine aw_get (v := .ref (g.2.2 + 14)) C0 hW (lv_fix (by decide)) (cel_1 kd11) rfl inG1 1 (by decide) wd17 rfl rfl dX1_joinSets_9 ?_
  obtain ⟨q2, hq2, hf⟩ := bnd hf
  refine aw_cVi (rest := []) C0 hW (lv_fix (by decide)) (cel_3 kd14) rfl (c_X3_pop 14 kd14 hq2) (cw_X1_38 hts ⟨Nat.le_of_ble_eq_true rfl, Nat.le_of_ble_eq_true rfl⟩) rfl hl.1 rfl (Nat.le_of_ble_eq_true rfl) ⟨Nat.zero_le _, Nat.zero_le _⟩ dX1_joinSets_12 (fun H locs hW => ?_)
  refine lv_istore_n (lv' := [(3, .int q2.1), (2, .int q1.1), (0, .ref (g.2.2 + 11)), (1, .int x1)]) hx hb dX1_joinSets_15 rfl hl (Nat.le_of_ble_eq_true rfl) rfl (fun ls hl => ?_)
  refine lv_iload_n hx hb dX1_joinSets_16 rfl (lv_at hl 3 rfl) ?_
  by_cases hs1 : x1 = 33
  · have hf := ift hs1 hf
    refine lv_lookup (off := 27) (tgt := 44) hx hb dX1_joinSets_17 (by decide) (by rw [hs1]; decide) rfl ?_
    refine lv_aload_n hx hb dX1_joinSets_44 rfl (lv_at hl 2 rfl) ?_
    refine lv_iload_n hx hb dX1_joinSets_45 rfl (lv_at hl 0 rfl) ?_
    refine lv_iload_n hx hb dX1_joinSets_46 rfl (lv_at hl 1 rfl) ?_
    obtain ⟨q3, hq3, hf⟩ := bnd hf
    refine aw_cVv (rest := []) C0 hW (lv_fix (by decide)) (cel_1 kd11) rfl (c_X1_pushSets q2.1 q1.1  hq3) (cw_X1_64 hts ⟨Nat.le_of_ble_eq_true rfl, Nat.le_of_ble_eq_true rfl⟩) rfl hl.1 rfl (Nat.le_of_ble_eq_true rfl) ⟨Nat.zero_le _, Nat.zero_le _⟩ dX1_joinSets_47 (fun H locs hW => ?_)
    refine lv_goto (tgt := 100) hx hb dX1_joinSets_50 rfl ?_
    have hz := Option.some.inj hf
    exact aw_vret C0 hW hz rfl dX1_joinSets_100
  have hf := iff_ hs1 hf
  by_cases hs2 : x1 = 38
  · have hf := ift hs2 hf
    refine lv_lookup (off := 36) (tgt := 53) hx hb dX1_joinSets_17 (by decide) (by rw [hs2]; decide) rfl ?_
    refine lv_aload_n hx hb dX1_joinSets_53 rfl (lv_at hl 2 rfl) ?_
    refine lv_aload_n hx hb dX1_joinSets_54 rfl (lv_at hl 2 rfl) ?_
    refine aw_get (v := .ref (g.2.2 + 12)) C0 hW (lv_fix (by decide)) (cel_1 kd11) rfl inG1 0 (by decide) wd16 rfl rfl dX1_joinSets_55 ?_
    obtain ⟨q4, hq4, hf⟩ := bnd hf
    refine aw_cVi (rest := [.ref (g.2.2 + 11)]) C0 hW (lv_fix (by decide)) (cel_3 kd12) rfl (c_X3_pop 12 kd12 hq4) (cw_X1_38 hts ⟨Nat.le_of_ble_eq_true rfl, Nat.le_of_ble_eq_true rfl⟩) rfl hl.1 rfl (Nat.le_of_ble_eq_true rfl) ⟨Nat.zero_le _, Nat.zero_le _⟩ dX1_joinSets_58 (fun H locs hW => ?_)
    refine lv_iload_n hx hb dX1_joinSets_61 rfl (lv_at hl 1 rfl) ?_
    refine lv_iand hx hb dX1_joinSets_62 ?_
    refine lv_aload_n hx hb dX1_joinSets_63 rfl (lv_at hl 2 rfl) ?_
    refine aw_get (v := .ref (g.2.2 + 14)) C0 hW (lv_fix (by decide)) (cel_1 kd11) rfl inG1 1 (by decide) wd17 rfl rfl dX1_joinSets_64 ?_
    obtain ⟨q5, hq5, hf⟩ := bnd hf
    refine aw_cVi (rest := [.int (q4.1 &&& q1.1), .ref (g.2.2 + 11)]) C0 hW (lv_fix (by decide)) (cel_3 kd14) rfl (c_X3_pop 14 kd14 hq5) (cw_X1_38 hts ⟨Nat.le_of_ble_eq_true rfl, Nat.le_of_ble_eq_true rfl⟩) rfl hl.1 rfl (Nat.le_of_ble_eq_true rfl) ⟨Nat.zero_le _, Nat.zero_le _⟩ dX1_joinSets_67 (fun H locs hW => ?_)
    refine lv_iload_n hx hb dX1_joinSets_70 rfl (lv_at hl 0 rfl) ?_
    refine lv_ior hx hb dX1_joinSets_71 ?_
    obtain ⟨q6, hq6, hf⟩ := bnd hf
    refine aw_cVv (rest := []) C0 hW (lv_fix (by decide)) (cel_1 kd11) rfl (c_X1_pushSets (q4.1 &&& q1.1) (q5.1 ||| q2.1)  hq6) (cw_X1_64 hts ⟨Nat.le_of_ble_eq_true rfl, Nat.le_of_ble_eq_true rfl⟩) rfl hl.1 rfl (Nat.le_of_ble_eq_true rfl) ⟨Nat.zero_le _, Nat.zero_le _⟩ dX1_joinSets_72 (fun H locs hW => ?_)
    refine lv_goto (tgt := 100) hx hb dX1_joinSets_75 rfl ?_
    have hz := Option.some.inj hf
    exact aw_vret C0 hW hz rfl dX1_joinSets_100
  have hf := iff_ hs2 hf
  refine lv_lookup (off := 61) (tgt := 78) hx hb dX1_joinSets_17 (by decide) (lko_c (i32_ne (n := 33) (by decide) hs1) (lko_c (i32_ne (n := 38) (by decide) hs2) rfl)) rfl ?_
  refine lv_aload_n hx hb dX1_joinSets_78 rfl (lv_at hl 2 rfl) ?_
  refine lv_aload_n hx hb dX1_joinSets_79 rfl (lv_at hl 2 rfl) ?_
  refine aw_get (v := .ref (g.2.2 + 12)) C0 hW (lv_fix (by decide)) (cel_1 kd11) rfl inG1 0 (by decide) wd16 rfl rfl dX1_joinSets_80 ?_
  obtain ⟨q7, hq7, hf⟩ := bnd hf
  refine aw_cVi (rest := [.ref (g.2.2 + 11)]) C0 hW (lv_fix (by decide)) (cel_3 kd12) rfl (c_X3_pop 12 kd12 hq7) (cw_X1_38 hts ⟨Nat.le_of_ble_eq_true rfl, Nat.le_of_ble_eq_true rfl⟩) rfl hl.1 rfl (Nat.le_of_ble_eq_true rfl) ⟨Nat.zero_le _, Nat.zero_le _⟩ dX1_joinSets_83 (fun H locs hW => ?_)
  refine lv_iload_n hx hb dX1_joinSets_86 rfl (lv_at hl 1 rfl) ?_
  refine lv_ior hx hb dX1_joinSets_87 ?_
  refine lv_aload_n hx hb dX1_joinSets_88 rfl (lv_at hl 2 rfl) ?_
  refine aw_get (v := .ref (g.2.2 + 14)) C0 hW (lv_fix (by decide)) (cel_1 kd11) rfl inG1 1 (by decide) wd17 rfl rfl dX1_joinSets_89 ?_
  obtain ⟨q8, hq8, hf⟩ := bnd hf
  refine aw_cVi (rest := [.int (q7.1 ||| q1.1), .ref (g.2.2 + 11)]) C0 hW (lv_fix (by decide)) (cel_3 kd14) rfl (c_X3_pop 14 kd14 hq8) (cw_X1_38 hts ⟨Nat.le_of_ble_eq_true rfl, Nat.le_of_ble_eq_true rfl⟩) rfl hl.1 rfl (Nat.le_of_ble_eq_true rfl) ⟨Nat.zero_le _, Nat.zero_le _⟩ dX1_joinSets_92 (fun H locs hW => ?_)
  refine lv_iload_n hx hb dX1_joinSets_95 rfl (lv_at hl 0 rfl) ?_
  refine lv_iand hx hb dX1_joinSets_96 ?_
  obtain ⟨q9, hq9, hf⟩ := bnd hf
  refine aw_cVv (rest := []) C0 hW (lv_fix (by decide)) (cel_1 kd11) rfl (c_X1_pushSets (q7.1 ||| q1.1) (q8.1 &&& q2.1)  hq9) (cw_X1_64 hts ⟨Nat.le_of_ble_eq_true rfl, Nat.le_of_ble_eq_true rfl⟩) rfl hl.1 rfl (Nat.le_of_ble_eq_true rfl) ⟨Nat.zero_le _, Nat.zero_le _⟩ dX1_joinSets_97 (fun H locs hW => ?_)
  have hz := Option.some.inj hf
  exact aw_vret C0 hW hz rfl dX1_joinSets_100
theorem cw_X8_341 {Rm : Room} {s : State} {args : Array Value} (ht : ∀ w ∈ GT, w.before args s = true) (hR : rmX1_joinSets.frames + 1 ≤ Rm.frames ∧ 8 + (4 + 11) + rmX1_joinSets.locals ≤ Rm.locals) : CallW Rm s args RX8 RX1 341 yX1_joinSets cX1_joinSets 4 none (Cond.code yX1_joinSets cX1_joinSets 4 none :: GT) rmX1_joinSets 0 0 1 := cwV 1 ht (goodV wd315 wd316 wd317 wd99 wd318) rfl rfl rfl ⟨rfl, by decide +kernel, by decide +kernel, by decide +kernel⟩ hR
def f_X1_trueSet (I : Mem) : Option (Int32) :=
  (f_X3_top 12 I).bind fun q1 =>
  some q1
abbrev rmX1_trueSet : Room := { frames := 1, cells := 0, slots := 0, locals := 20 }
set_option maxHeartbeats 4000000 in
set_option maxRecDepth 100000 in
theorem c_X1_trueSet {l : Launch} {g : Gam} {I : Mem} {R : Rem} {P : Pool} {Z : Zed}   {z : Int32} (hf : f_X1_trueSet I = some z) : Met l yX1_trueSet (Cond.code yX1_trueSet cX1_trueSet 1 (some .int) :: GT) rmX1_trueSet (va_Pc [.ref (g.2.2 + 11)] (PW g I R P Z)) (QI g z I R P Z) 0 0 (AA g) := by
  refine aw_ofW (lv0 := [(0, .ref (g.2.2 + 11))]) (by decide) (by exact Nat.le_of_ble_eq_true rfl) (by rfl) (fun p0 e s m args below meth c ls C0 hl hW => ?_)
  have C0 : CX g p0 s m args meth c RX1 cX1_trueSet 1 (some .int) := C0
  have hx := C0.1; have hb := C0.2.1; have hown := C0.2.2.2.2.1; have hts := C0.2.2.2.2.2.1; have hKS := C0.2.2.2.2.2.2.1
  unfold f_X1_trueSet at hf
  obtain ⟨H, hH⟩ : ∃ H, H = s.heap := ⟨_, rfl⟩
  obtain ⟨locs, hlc⟩ : ∃ q : List Loc, q = [] := ⟨_, rfl⟩
  rw [show W p0 l e rmX1_trueSet s m args below meth c s.heap [] 0 0 (MQ below (QI g z I R P Z) args s 0 0 (AA g)) (F0 m 0 ls []) = W p0 l e rmX1_trueSet s m args below meth c H locs 0 0 (MQ below (QI g z I R P Z) args s 0 0 (AA g)) (F0 m 0 ls []) by rw [hH, hlc]]
  have hW : Wd g I R P Z s.heap H locs := by rw [hH, hlc]; exact hW
  refine lv_aload_n hx hb dX1_trueSet_0 rfl (lv_at hl 0 rfl) ?_
  refine aw_get (v := .ref (g.2.2 + 12)) C0 hW (lv_fix (by decide)) (cel_1 kd11) rfl inG1 0 (by decide) wd16 rfl rfl dX1_trueSet_1 ?_
  obtain ⟨q1, hq1, hf⟩ := bnd hf
  refine aw_cVi (rest := []) C0 hW (lv_fix (by decide)) (cel_3 kd12) rfl (c_X3_top 12 kd12 hq1) (cw_X1_58 hts ⟨Nat.le_of_ble_eq_true rfl, Nat.le_of_ble_eq_true rfl⟩) rfl hl.1 rfl (Nat.le_of_ble_eq_true rfl) ⟨Nat.zero_le _, Nat.zero_le _⟩ dX1_trueSet_4 (fun H locs hW => ?_)
  have hz := Option.some.inj hf
  exact aw_iret C0 hW hz rfl rfl dX1_trueSet_7
theorem cw_X8_345 {Rm : Room} {s : State} {args : Array Value} (ht : ∀ w ∈ GT, w.before args s = true) (hR : rmX1_trueSet.frames + 1 ≤ Rm.frames ∧ 8 + (1 + 11) + rmX1_trueSet.locals ≤ Rm.locals) : CallW Rm s args RX8 RX1 345 yX1_trueSet cX1_trueSet 1 (some .int) (Cond.code yX1_trueSet cX1_trueSet 1 (some .int) :: GT) rmX1_trueSet 0 0 0 := cwV 0 ht (goodV wd319 wd320 wd321 wd99 wd322) rfl rfl rfl ⟨rfl, by decide +kernel, by decide +kernel, by decide +kernel⟩ hR
def f_X1_falseSet (I : Mem) : Option (Int32) :=
  (f_X3_top 14 I).bind fun q1 =>
  some q1
abbrev rmX1_falseSet : Room := { frames := 1, cells := 0, slots := 0, locals := 20 }
set_option maxHeartbeats 4000000 in
set_option maxRecDepth 100000 in
theorem c_X1_falseSet {l : Launch} {g : Gam} {I : Mem} {R : Rem} {P : Pool} {Z : Zed}   {z : Int32} (hf : f_X1_falseSet I = some z) : Met l yX1_falseSet (Cond.code yX1_falseSet cX1_falseSet 1 (some .int) :: GT) rmX1_falseSet (va_Pc [.ref (g.2.2 + 11)] (PW g I R P Z)) (QI g z I R P Z) 0 0 (AA g) := by
  refine aw_ofW (lv0 := [(0, .ref (g.2.2 + 11))]) (by decide) (by exact Nat.le_of_ble_eq_true rfl) (by rfl) (fun p0 e s m args below meth c ls C0 hl hW => ?_)
  have C0 : CX g p0 s m args meth c RX1 cX1_falseSet 1 (some .int) := C0
  have hx := C0.1; have hb := C0.2.1; have hown := C0.2.2.2.2.1; have hts := C0.2.2.2.2.2.1; have hKS := C0.2.2.2.2.2.2.1
  unfold f_X1_falseSet at hf
  obtain ⟨H, hH⟩ : ∃ H, H = s.heap := ⟨_, rfl⟩
  obtain ⟨locs, hlc⟩ : ∃ q : List Loc, q = [] := ⟨_, rfl⟩
  rw [show W p0 l e rmX1_falseSet s m args below meth c s.heap [] 0 0 (MQ below (QI g z I R P Z) args s 0 0 (AA g)) (F0 m 0 ls []) = W p0 l e rmX1_falseSet s m args below meth c H locs 0 0 (MQ below (QI g z I R P Z) args s 0 0 (AA g)) (F0 m 0 ls []) by rw [hH, hlc]]
  have hW : Wd g I R P Z s.heap H locs := by rw [hH, hlc]; exact hW
  refine lv_aload_n hx hb dX1_falseSet_0 rfl (lv_at hl 0 rfl) ?_
  refine aw_get (v := .ref (g.2.2 + 14)) C0 hW (lv_fix (by decide)) (cel_1 kd11) rfl inG1 1 (by decide) wd17 rfl rfl dX1_falseSet_1 ?_
  obtain ⟨q1, hq1, hf⟩ := bnd hf
  refine aw_cVi (rest := []) C0 hW (lv_fix (by decide)) (cel_3 kd14) rfl (c_X3_top 14 kd14 hq1) (cw_X1_58 hts ⟨Nat.le_of_ble_eq_true rfl, Nat.le_of_ble_eq_true rfl⟩) rfl hl.1 rfl (Nat.le_of_ble_eq_true rfl) ⟨Nat.zero_le _, Nat.zero_le _⟩ dX1_falseSet_4 (fun H locs hW => ?_)
  have hz := Option.some.inj hf
  exact aw_iret C0 hW hz rfl rfl dX1_falseSet_7
theorem cw_X8_348 {Rm : Room} {s : State} {args : Array Value} (ht : ∀ w ∈ GT, w.before args s = true) (hR : rmX1_falseSet.frames + 1 ≤ Rm.frames ∧ 8 + (1 + 11) + rmX1_falseSet.locals ≤ Rm.locals) : CallW Rm s args RX8 RX1 348 yX1_falseSet cX1_falseSet 1 (some .int) (Cond.code yX1_falseSet cX1_falseSet 1 (some .int) :: GT) rmX1_falseSet 0 0 0 := cwV 0 ht (goodV wd323 wd324 wd325 wd99 wd326) rfl rfl rfl ⟨rfl, by decide +kernel, by decide +kernel, by decide +kernel⟩ hR
def f_X8_rowsByBitSets_L21 (x1 : Int32) (o2 : Option Nat) (x3 : Int32) (P : Pool) (y4 : Int32) (R : Rem) : Nat → Int32 → Mem → Option (Mem)
  | 0, _, _ => none
  | n + 1, w5, I =>
    o2.bind fun k3 =>
    (f_X2_size k3 P R).bind fun q4 =>
    if q4 ≤ w5 then (
      some I
    ) else (
      o2.bind fun k5 =>
      (f_X2_step k5 w5 P R I).bind fun q6 =>
      (f_X7_isTest q6).bind fun q7 =>
      if q7 = 0 then (
        (f_X7_signOf q6).bind fun q8 =>
        (f_X1_joinSets q8 P I).bind fun q9 =>
        f_X8_rowsByBitSets_L21 x1 o2 x3 P y4 R n (w5 + 1) q9
      ) else (
        (f_X8_pushTestSets x1 q6 P I).bind fun q10 =>
        f_X8_rowsByBitSets_L21 x1 o2 x3 P y4 R n (w5 + 1) q10
      )
    )
def f_X8_rowsByBitSets (x1 : Int32) (o2 : Option Nat) (x3 : Int32) (P : Pool) (R : Rem) (I : Mem) : Option (Int32 × Mem) :=
  (rd I 3 2 x1).bind fun v1 =>
  (f_X1_start I).bind fun q2 =>
  (f_X8_rowsByBitSets_L21 x1 o2 x3 P v1 R fuel 0 q2).bind fun q11 =>
  (f_X1_trueSet q11).bind fun q12 =>
  (f_X1_falseSet q11).bind fun q13 =>
  if x3 = 0 then (
    some (q13, q11)
  ) else (
  if x3 = 2 then (
    some (q12, q11)
  ) else (
    some (((1 <<< (v1 &&& 31)) - 1) &&& ((q12 ||| q13) ^^^ ((-1))), q11)
  ))
abbrev rmX8_rowsByBitSets : Room := { frames := 3, cells := 0, slots := 0, locals := 74 }
set_option maxHeartbeats 4000000 in
set_option maxRecDepth 100000 in
theorem c_X8_rowsByBitSets {l : Launch} {g : Gam} {I : Mem} {R : Rem} {P : Pool} {Z : Zed} (x1 : Int32) (o2 : Option Nat) (x3 : Int32) (ho2 : ∀ k, o2 = some k → Kd P k = 2) {z : Int32 × Mem} (hf : f_X8_rowsByBitSets x1 o2 x3 P R I = some z) : Met l yX8_rowsByBitSets (Cond.code yX8_rowsByBitSets cX8_rowsByBitSets 7 (some .int) :: GT) rmX8_rowsByBitSets (va_Pc [.ref (g.2.2 + 0), .int x1, va_rf (o2.map (fun y => g.2.2 + y)), .int x3] (PW g I R P Z)) (QI g z.1 z.2 R P Z) 0 0 (AA g) := by
  refine aw_ofW (lv0 := [(0, .ref (g.2.2 + 0)), (1, .int x1), (2, va_rf (o2.map (fun y => g.2.2 + y))), (3, .int x3)]) (by decide) (by cases o2 <;> exact Nat.le_of_ble_eq_true rfl) (by cases o2 <;> rfl) (fun p0 e s m args below meth c ls C0 hl hW => ?_)
  have C0 : CX g p0 s m args meth c RX8 cX8_rowsByBitSets 7 (some .int) := C0
  have hx := C0.1; have hb := C0.2.1; have hown := C0.2.2.2.2.1; have hts := C0.2.2.2.2.2.1; have hKS := C0.2.2.2.2.2.2.1
  have L21 : ∀ (y4 : Int32) (R : Rem) (n : Nat) (w5 : Int32) (I : Mem) (H : Heap) (locs : List Loc) (ls : Array Slot) (o : Mem), f_X8_rowsByBitSets_L21 x1 o2 x3 P y4 R n w5 I = some o → Wd g I R P Z s.heap H locs → lv_has ls 7 [(0, .ref (g.2.2 + 0)), (1, .int x1), (2, va_rf (o2.map (fun y => g.2.2 + y))), (3, .int x3), (4, .int y4), (5, .int w5)] → (∀ (H : Heap) (locs : List Loc) (ls : Array Slot), Wd g o R P Z s.heap H locs → lv_has ls 7 [(0, .ref (g.2.2 + 0)), (3, .int x3), (4, .int y4)] → W p0 l e rmX8_rowsByBitSets s m args below meth c H locs 0 0 (MQ below (QI g z.1 z.2 R P Z) args s 0 0 (AA g)) (F0 m 74 ls [])) → W p0 l e rmX8_rowsByBitSets s m args below meth c H locs 0 0 (MQ below (QI g z.1 z.2 R P Z) args s 0 0 (AA g)) (F0 m 21 ls []) := by
    intro y4 R n
    induction n with
    | zero => intro w5 I H locs ls o hf; cases hf
    | succ n ih =>
      intro w5 I H locs ls o hf hW hl hK
      rw [f_X8_rowsByBitSets_L21] at hf
      refine lv_iload hx hb dX8_rowsByBitSets_21 (lv_at hl 5 rfl) ?_
      refine aw_ald_n (x := o2) C0 dX8_rowsByBitSets_23 rfl (lv_at hl 2 rfl) ?_
      obtain ⟨k3, ek3, hf⟩ := bnd hf
      have hk3 := ho2 k3 ek3
      refine W.eq (g2 := F0 m 24 ls ([.ref (g.2.2 + k3), .int w5])) (by rw [ek3]; rfl) ?_
      obtain ⟨q4, hq4, hf⟩ := bnd hf
      refine aw_cVi (rest := [.int w5]) C0 hW (lv_kd hW.1.2.2 hk3 (by decide)) (cel_2 hk3) rfl (c_X2_size k3 hk3 hq4) (cw_X8_151 hts ⟨Nat.le_of_ble_eq_true rfl, Nat.le_of_ble_eq_true rfl⟩) rfl hl.1 rfl (Nat.le_of_ble_eq_true rfl) ⟨Nat.zero_le _, Nat.zero_le _⟩ dX8_rowsByBitSets_24 (fun H locs hW => ?_)
      refine lv_icmp_ge (tgt := 74) hx hb dX8_rowsByBitSets_27 rfl (fun hc => ?_) (fun hc => ?_)
      · have hf := ift hc hf
        have ho := Option.some.inj hf
        subst ho
        exact hK H locs ls hW (lv_sub hl [0, 3, 4] rfl)
      · have hf := iff_ hc hf
        refine aw_ald_n (x := o2) C0 dX8_rowsByBitSets_30 rfl (lv_at hl 2 rfl) ?_
        refine lv_iload hx hb dX8_rowsByBitSets_31 (lv_at hl 5 rfl) ?_
        obtain ⟨k5, ek5, hf⟩ := bnd hf
        have hk5 := ho2 k5 ek5
        refine W.eq (g2 := F0 m 33 ls ([.int w5, .ref (g.2.2 + k5)])) (by rw [ek5]; rfl) ?_
        obtain ⟨q6, hq6, hf⟩ := bnd hf
        refine aw_cVi (rest := []) C0 hW (lv_kd hW.1.2.2 hk5 (by decide)) (cel_2 hk5) rfl (c_X2_step k5 w5 hk5 hq6) (cw_X8_325 hts ⟨Nat.le_of_ble_eq_true rfl, Nat.le_of_ble_eq_true rfl⟩) rfl hl.1 rfl (Nat.le_of_ble_eq_true rfl) ⟨Nat.zero_le _, Nat.zero_le _⟩ dX8_rowsByBitSets_33 (fun H locs hW => ?_)
        refine lv_istore (lv' := [(6, .int q6), (0, .ref (g.2.2 + 0)), (1, .int x1), (2, va_rf (o2.map (fun y => g.2.2 + y))), (3, .int x3), (4, .int y4), (5, .int w5)]) hx hb dX8_rowsByBitSets_36 hl (Nat.le_of_ble_eq_true rfl) rfl (fun ls hl => ?_)
        refine lv_iload hx hb dX8_rowsByBitSets_38 (lv_at hl 0 rfl) ?_
        obtain ⟨q7, hq7, hf⟩ := bnd hf
        refine aw_cSi (rest := []) C0 hW (c_X7_isTest q6  hq7) (cw_X8_328 hts ⟨Nat.le_of_ble_eq_true rfl, Nat.le_of_ble_eq_true rfl⟩) rfl hl.1 rfl (Nat.le_of_ble_eq_true rfl) ⟨Nat.zero_le _, Nat.zero_le _⟩ dX8_rowsByBitSets_40 (fun H locs hW => ?_)
        refine lv_if_eq (tgt := 56) hx hb dX8_rowsByBitSets_43 rfl (fun hc => ?_) (fun hc => ?_)
        · have hf := ift hc hf
          refine lv_aload_n hx hb dX8_rowsByBitSets_56 rfl (lv_at hl 1 rfl) ?_
          refine aw_get (v := .ref (g.2.2 + 11)) C0 hW (lv_fix (by decide)) (cel_7 kd0) rfl inG7 8 (by decide) wd27 rfl rfl dX8_rowsByBitSets_57 ?_
          refine lv_iload hx hb dX8_rowsByBitSets_60 (lv_at hl 0 rfl) ?_
          obtain ⟨q8, hq8, hf⟩ := bnd hf
          refine aw_cSi (rest := [.ref (g.2.2 + 11)]) C0 hW (c_X7_signOf q6  hq8) (cw_X8_337 hts ⟨Nat.le_of_ble_eq_true rfl, Nat.le_of_ble_eq_true rfl⟩) rfl hl.1 rfl (Nat.le_of_ble_eq_true rfl) ⟨Nat.zero_le _, Nat.zero_le _⟩ dX8_rowsByBitSets_62 (fun H locs hW => ?_)
          obtain ⟨q9, hq9, hf⟩ := bnd hf
          refine aw_cVv (rest := []) C0 hW (lv_fix (by decide)) (cel_1 kd11) rfl (c_X1_joinSets q8  hq9) (cw_X8_341 hts ⟨Nat.le_of_ble_eq_true rfl, Nat.le_of_ble_eq_true rfl⟩) rfl hl.1 rfl (Nat.le_of_ble_eq_true rfl) ⟨Nat.zero_le _, Nat.zero_le _⟩ dX8_rowsByBitSets_65 (fun H locs hW => ?_)
          refine lv_iinc (k := 6) (v := w5 + 1) (lv' := [(5, .int (w5 + 1)), (6, .int q6), (0, .ref (g.2.2 + 0)), (1, .int x1), (2, va_rf (o2.map (fun y => g.2.2 + y))), (3, .int x3), (4, .int y4)]) hx hb dX8_rowsByBitSets_68 hl rfl (congrArg (fun t => w5 + t) (by decide : Int32.ofInt 1 = 1)) (Nat.le_of_ble_eq_true rfl) rfl (fun ls hl => ?_)
          refine lv_goto (tgt := 21) hx hb dX8_rowsByBitSets_71 rfl ?_
          exact ih _ _ H locs ls o hf hW (lv_sub hl [2, 3, 4, 5, 6, 0] rfl) hK
        · have hf := iff_ hc hf
          refine lv_aload_n hx hb dX8_rowsByBitSets_46 rfl (lv_at hl 1 rfl) ?_
          refine lv_iload_n hx hb dX8_rowsByBitSets_47 rfl (lv_at hl 2 rfl) ?_
          refine lv_iload hx hb dX8_rowsByBitSets_48 (lv_at hl 0 rfl) ?_
          obtain ⟨q10, hq10, hf⟩ := bnd hf
          refine aw_cVv (rest := []) C0 hW (lv_fix (by decide)) (cel_7 kd0) rfl (c_X8_pushTestSets x1 q6  hq10) (cw_X8_334 hts ⟨Nat.le_of_ble_eq_true rfl, Nat.le_of_ble_eq_true rfl⟩) rfl hl.1 rfl (Nat.le_of_ble_eq_true rfl) ⟨Nat.zero_le _, Nat.zero_le _⟩ dX8_rowsByBitSets_50 (fun H locs hW => ?_)
          refine lv_goto (tgt := 68) hx hb dX8_rowsByBitSets_53 rfl ?_
          refine lv_iinc (k := 6) (v := w5 + 1) (lv' := [(5, .int (w5 + 1)), (6, .int q6), (0, .ref (g.2.2 + 0)), (1, .int x1), (2, va_rf (o2.map (fun y => g.2.2 + y))), (3, .int x3), (4, .int y4)]) hx hb dX8_rowsByBitSets_68 hl rfl (congrArg (fun t => w5 + t) (by decide : Int32.ofInt 1 = 1)) (Nat.le_of_ble_eq_true rfl) rfl (fun ls hl => ?_)
          refine lv_goto (tgt := 21) hx hb dX8_rowsByBitSets_71 rfl ?_
          exact ih _ _ H locs ls o hf hW (lv_sub hl [2, 3, 4, 5, 6, 0] rfl) hK
  unfold f_X8_rowsByBitSets at hf
  obtain ⟨H, hH⟩ : ∃ H, H = s.heap := ⟨_, rfl⟩
  obtain ⟨locs, hlc⟩ : ∃ q : List Loc, q = [] := ⟨_, rfl⟩
  rw [show W p0 l e rmX8_rowsByBitSets s m args below meth c s.heap [] 0 0 (MQ below (QI g z.1 z.2 R P Z) args s 0 0 (AA g)) (F0 m 0 ls []) = W p0 l e rmX8_rowsByBitSets s m args below meth c H locs 0 0 (MQ below (QI g z.1 z.2 R P Z) args s 0 0 (AA g)) (F0 m 0 ls []) by rw [hH, hlc]]
  have hW : Wd g I R P Z s.heap H locs := by rw [hH, hlc]; exact hW
  refine lv_aload_n hx hb dX8_rowsByBitSets_0 rfl (lv_at hl 0 rfl) ?_
  refine aw_get (v := .ref (g.2.2 + 1)) C0 hW (lv_fix (by decide)) (cel_7 kd0) rfl inG7 0 (by decide) wd13 rfl rfl dX8_rowsByBitSets_1 ?_
  refine aw_get (v := .ref (g.2.2 + 3)) C0 hW (lv_fix (by decide)) (cel_6 kd1) rfl inG6 1 (by decide) wd37 rfl rfl dX8_rowsByBitSets_4 ?_
  refine lv_iload_n hx hb dX8_rowsByBitSets_7 rfl (lv_at hl 1 rfl) ?_
  obtain ⟨v1, hv1, hf⟩ := bnd hf
  refine aw_iald C0 hW kd3 ln3 hv1 dX8_rowsByBitSets_8 ?_
  refine lv_istore (lv' := [(4, .int v1), (0, .ref (g.2.2 + 0)), (1, .int x1), (2, va_rf (o2.map (fun y => g.2.2 + y))), (3, .int x3)]) hx hb dX8_rowsByBitSets_9 hl (Nat.le_of_ble_eq_true rfl) rfl (fun ls hl => ?_)
  refine lv_aload_n hx hb dX8_rowsByBitSets_11 rfl (lv_at hl 1 rfl) ?_
  refine aw_get (v := .ref (g.2.2 + 11)) C0 hW (lv_fix (by decide)) (cel_7 kd0) rfl inG7 8 (by decide) wd27 rfl rfl dX8_rowsByBitSets_12 ?_
  obtain ⟨q2, hq2, hf⟩ := bnd hf
  refine aw_cVv (rest := []) C0 hW (lv_fix (by decide)) (cel_1 kd11) rfl (c_X1_start  hq2) (cw_X8_322 hts ⟨Nat.le_of_ble_eq_true rfl, Nat.le_of_ble_eq_true rfl⟩) rfl hl.1 rfl (Nat.le_of_ble_eq_true rfl) ⟨Nat.zero_le _, Nat.zero_le _⟩ dX8_rowsByBitSets_15 (fun H locs hW => ?_)
  refine lv_iconst (v := 0) hx hb dX8_rowsByBitSets_18 (by decide) ?_
  refine lv_istore (lv' := [(5, .int 0), (4, .int v1), (0, .ref (g.2.2 + 0)), (1, .int x1), (2, va_rf (o2.map (fun y => g.2.2 + y))), (3, .int x3)]) hx hb dX8_rowsByBitSets_19 hl (Nat.le_of_ble_eq_true rfl) rfl (fun ls hl => ?_)
  obtain ⟨q11, hq11, hf⟩ := bnd hf
  refine L21 v1 R fuel 0 q2 H locs ls _ hq11 hW (lv_sub hl [2, 3, 4, 5, 1, 0] rfl) (fun H locs ls hW hl => ?_)
  refine lv_aload_n hx hb dX8_rowsByBitSets_74 rfl (lv_at hl 0 rfl) ?_
  refine aw_get (v := .ref (g.2.2 + 11)) C0 hW (lv_fix (by decide)) (cel_7 kd0) rfl inG7 8 (by decide) wd27 rfl rfl dX8_rowsByBitSets_75 ?_
  obtain ⟨q12, hq12, hf⟩ := bnd hf
  refine aw_cVi (rest := []) C0 hW (lv_fix (by decide)) (cel_1 kd11) rfl (c_X1_trueSet  hq12) (cw_X8_345 hts ⟨Nat.le_of_ble_eq_true rfl, Nat.le_of_ble_eq_true rfl⟩) rfl hl.1 rfl (Nat.le_of_ble_eq_true rfl) ⟨Nat.zero_le _, Nat.zero_le _⟩ dX8_rowsByBitSets_78 (fun H locs hW => ?_)
  refine lv_istore (lv' := [(5, .int q12), (0, .ref (g.2.2 + 0)), (3, .int x3), (4, .int v1)]) hx hb dX8_rowsByBitSets_81 hl (Nat.le_of_ble_eq_true rfl) rfl (fun ls hl => ?_)
  refine lv_aload_n hx hb dX8_rowsByBitSets_83 rfl (lv_at hl 1 rfl) ?_
  refine aw_get (v := .ref (g.2.2 + 11)) C0 hW (lv_fix (by decide)) (cel_7 kd0) rfl inG7 8 (by decide) wd27 rfl rfl dX8_rowsByBitSets_84 ?_
  obtain ⟨q13, hq13, hf⟩ := bnd hf
  refine aw_cVi (rest := []) C0 hW (lv_fix (by decide)) (cel_1 kd11) rfl (c_X1_falseSet  hq13) (cw_X8_348 hts ⟨Nat.le_of_ble_eq_true rfl, Nat.le_of_ble_eq_true rfl⟩) rfl hl.1 rfl (Nat.le_of_ble_eq_true rfl) ⟨Nat.zero_le _, Nat.zero_le _⟩ dX8_rowsByBitSets_87 (fun H locs hW => ?_)
  refine lv_istore (lv' := [(6, .int q13), (5, .int q12), (0, .ref (g.2.2 + 0)), (3, .int x3), (4, .int v1)]) hx hb dX8_rowsByBitSets_90 hl (Nat.le_of_ble_eq_true rfl) rfl (fun ls hl => ?_)
  refine lv_iload_n hx hb dX8_rowsByBitSets_92 rfl (lv_at hl 3 rfl) ?_
  by_cases hs1 : x3 = 0
  · have hf := ift hs1 hf
    refine lv_lookup (off := 30) (tgt := 123) hx hb dX8_rowsByBitSets_93 (by decide) (by rw [hs1]; decide) rfl ?_
    refine lv_iload hx hb dX8_rowsByBitSets_123 (lv_at hl 0 rfl) ?_
    have hz := Option.some.inj hf
    have hzV := congrArg (fun z : Int32 × Mem => z.1) hz
    have hzI := congrArg (fun z : Int32 × Mem => z.2) hz
    exact aw_iret C0 hW hzV hzI rfl dX8_rowsByBitSets_125
  have hf := iff_ hs1 hf
  by_cases hs2 : x3 = 2
  · have hf := ift hs2 hf
    refine lv_lookup (off := 27) (tgt := 120) hx hb dX8_rowsByBitSets_93 (by decide) (by rw [hs2]; decide) rfl ?_
    refine lv_iload hx hb dX8_rowsByBitSets_120 (lv_at hl 1 rfl) ?_
    have hz := Option.some.inj hf
    have hzV := congrArg (fun z : Int32 × Mem => z.1) hz
    have hzI := congrArg (fun z : Int32 × Mem => z.2) hz
    exact aw_iret C0 hW hzV hzI rfl dX8_rowsByBitSets_122
  have hf := iff_ hs2 hf
  refine lv_lookup (off := 33) (tgt := 126) hx hb dX8_rowsByBitSets_93 (by decide) (lko_c (i32_ne (n := 0) (by decide) hs1) (lko_c (i32_ne (n := 2) (by decide) hs2) rfl)) rfl ?_
  refine lv_iconst (v := 1) hx hb dX8_rowsByBitSets_126 (by decide) ?_
  refine lv_iload hx hb dX8_rowsByBitSets_127 (lv_at hl 4 rfl) ?_
  refine lv_ishl hx hb dX8_rowsByBitSets_129 ?_
  refine lv_iconst (v := 1) hx hb dX8_rowsByBitSets_130 (by decide) ?_
  refine lv_isub hx hb dX8_rowsByBitSets_131 ?_
  refine lv_iload hx hb dX8_rowsByBitSets_132 (lv_at hl 1 rfl) ?_
  refine lv_iload hx hb dX8_rowsByBitSets_134 (lv_at hl 0 rfl) ?_
  refine lv_ior hx hb dX8_rowsByBitSets_136 ?_
  refine lv_iconst (v := (-1)) hx hb dX8_rowsByBitSets_137 (by decide) ?_
  refine lv_ixor hx hb dX8_rowsByBitSets_138 ?_
  refine lv_iand hx hb dX8_rowsByBitSets_139 ?_
  have hz := Option.some.inj hf
  have hzV := congrArg (fun z : Int32 × Mem => z.1) hz
  have hzI := congrArg (fun z : Int32 × Mem => z.2) hz
  exact aw_iret C0 hW hzV hzI rfl dX8_rowsByBitSets_140
def f_X8_clearBuffer (I : Mem) : Option (Int32 × Mem) :=
  some (I 0 6, (up I 0 6 0))
abbrev rmX8_clearBuffer : Room := { frames := 0, cells := 0, slots := 0, locals := 0 }
set_option maxHeartbeats 4000000 in
set_option maxRecDepth 100000 in
theorem c_X8_clearBuffer {l : Launch} {g : Gam} {I : Mem} {R : Rem} {P : Pool} {Z : Zed}   {z : Int32 × Mem} (hf : f_X8_clearBuffer I = some z) : Met l yX8_clearBuffer (Cond.code yX8_clearBuffer cX8_clearBuffer 2 (some .int) :: GT) rmX8_clearBuffer (va_Pc [.ref (g.2.2 + 0)] (PW g I R P Z)) (QI g z.1 z.2 R P Z) 0 0 (AA g) := by
  refine aw_ofW (lv0 := [(0, .ref (g.2.2 + 0))]) (by decide) (by exact Nat.le_of_ble_eq_true rfl) (by rfl) (fun p0 e s m args below meth c ls C0 hl hW => ?_)
  have C0 : CX g p0 s m args meth c RX8 cX8_clearBuffer 2 (some .int) := C0
  have hx := C0.1; have hb := C0.2.1; have hown := C0.2.2.2.2.1; have hts := C0.2.2.2.2.2.1; have hKS := C0.2.2.2.2.2.2.1
  unfold f_X8_clearBuffer at hf
  obtain ⟨H, hH⟩ : ∃ H, H = s.heap := ⟨_, rfl⟩
  obtain ⟨locs, hlc⟩ : ∃ q : List Loc, q = [] := ⟨_, rfl⟩
  rw [show W p0 l e rmX8_clearBuffer s m args below meth c s.heap [] 0 0 (MQ below (QI g z.1 z.2 R P Z) args s 0 0 (AA g)) (F0 m 0 ls []) = W p0 l e rmX8_clearBuffer s m args below meth c H locs 0 0 (MQ below (QI g z.1 z.2 R P Z) args s 0 0 (AA g)) (F0 m 0 ls []) by rw [hH, hlc]]
  have hW : Wd g I R P Z s.heap H locs := by rw [hH, hlc]; exact hW
  refine lv_aload_n hx hb dX8_clearBuffer_0 rfl (lv_at hl 0 rfl) ?_
  refine aw_get (v := .int (I 0 6)) C0 hW (lv_fix (by decide)) (cel_7 kd0) rfl inG7 6 (by decide) wd51 rfl rfl dX8_clearBuffer_1 ?_
  refine lv_istore_n (lv' := [(1, .int (I 0 6)), (0, .ref (g.2.2 + 0))]) hx hb dX8_clearBuffer_4 rfl hl (Nat.le_of_ble_eq_true rfl) rfl (fun ls hl => ?_)
  refine lv_aload_n hx hb dX8_clearBuffer_5 rfl (lv_at hl 1 rfl) ?_
  refine lv_iconst (v := 0) hx hb dX8_clearBuffer_6 (by decide) ?_
  refine aw_put C0 hW (lv_fix (by decide)) (cel_7 kd0) rfl inG7 tyX8 tyX8_ok nmX8 6 (by decide) wd51 rfl rfl (ty := .int) rfl rfl rfl (Nat.le_of_ble_eq_true rfl) (pu_7_6 kd0) dX8_clearBuffer_7 (fun H locs hW => ?_)
  refine lv_iload_n hx hb dX8_clearBuffer_10 rfl (lv_at hl 0 rfl) ?_
  have hz := Option.some.inj hf
  have hzV := congrArg (fun z : Int32 × Mem => z.1) hz
  have hzI := congrArg (fun z : Int32 × Mem => z.2) hz
  exact aw_iret C0 hW hzV hzI rfl dX8_clearBuffer_11
def f_X8_firstError (P : Pool) (I : Mem) : Option (Int32 × Mem) :=
  (f_X4_read 9 (I 0 6) P I).bind fun q1 =>
  some (q1.1, q1.2)
abbrev rmX8_firstError : Room := { frames := 6, cells := 0, slots := 0, locals := 131 }
set_option maxHeartbeats 4000000 in
set_option maxRecDepth 100000 in
theorem c_X8_firstError {l : Launch} {g : Gam} {I : Mem} {R : Rem} {P : Pool} {Z : Zed}   {z : Int32 × Mem} (hf : f_X8_firstError P I = some z) : Met l yX8_firstError (Cond.code yX8_firstError cX8_firstError 1 (some .int) :: GT) rmX8_firstError (va_Pc [.ref (g.2.2 + 0)] (PW g I R P Z)) (QI g z.1 z.2 R P Z) 0 0 (AA g) := by
  refine aw_ofW (lv0 := [(0, .ref (g.2.2 + 0))]) (by decide) (by exact Nat.le_of_ble_eq_true rfl) (by rfl) (fun p0 e s m args below meth c ls C0 hl hW => ?_)
  have C0 : CX g p0 s m args meth c RX8 cX8_firstError 1 (some .int) := C0
  have hx := C0.1; have hb := C0.2.1; have hown := C0.2.2.2.2.1; have hts := C0.2.2.2.2.2.1; have hKS := C0.2.2.2.2.2.2.1
  unfold f_X8_firstError at hf
  obtain ⟨H, hH⟩ : ∃ H, H = s.heap := ⟨_, rfl⟩
  obtain ⟨locs, hlc⟩ : ∃ q : List Loc, q = [] := ⟨_, rfl⟩
  rw [show W p0 l e rmX8_firstError s m args below meth c s.heap [] 0 0 (MQ below (QI g z.1 z.2 R P Z) args s 0 0 (AA g)) (F0 m 0 ls []) = W p0 l e rmX8_firstError s m args below meth c H locs 0 0 (MQ below (QI g z.1 z.2 R P Z) args s 0 0 (AA g)) (F0 m 0 ls []) by rw [hH, hlc]]
  have hW : Wd g I R P Z s.heap H locs := by rw [hH, hlc]; exact hW
  refine lv_aload_n hx hb dX8_firstError_0 rfl (lv_at hl 0 rfl) ?_
  refine aw_get (v := .ref (g.2.2 + 19)) C0 hW (lv_fix (by decide)) (cel_7 kd0) rfl inG7 10 (by decide) wd52 rfl rfl dX8_firstError_1 ?_
  refine lv_aload_n hx hb dX8_firstError_4 rfl (lv_at hl 0 rfl) ?_
  refine aw_get (v := .ref (g.2.2 + 9)) C0 hW (lv_fix (by decide)) (cel_7 kd0) rfl inG7 5 (by decide) wd53 rfl rfl dX8_firstError_5 ?_
  refine lv_aload_n hx hb dX8_firstError_8 rfl (lv_at hl 0 rfl) ?_
  refine aw_get (v := .int (I 0 6)) C0 hW (lv_fix (by decide)) (cel_7 kd0) rfl inG7 6 (by decide) wd51 rfl rfl dX8_firstError_9 ?_
  obtain ⟨q1, hq1, hf⟩ := bnd hf
  refine aw_cVi (rest := []) C0 hW (lv_fix (by decide)) (cel_4 kd19) rfl (c_X4_read 9 (I 0 6) kd9 hq1) (cw_X8_126 hts ⟨Nat.le_of_ble_eq_true rfl, Nat.le_of_ble_eq_true rfl⟩) rfl hl.1 rfl (Nat.le_of_ble_eq_true rfl) ⟨Nat.zero_le _, Nat.zero_le _⟩ dX8_firstError_12 (fun H locs hW => ?_)
  have hz := Option.some.inj hf
  have hzV := congrArg (fun z : Int32 × Mem => z.1) hz
  have hzI := congrArg (fun z : Int32 × Mem => z.2) hz
  exact aw_iret C0 hW hzV hzI rfl dX8_firstError_15
end CON
