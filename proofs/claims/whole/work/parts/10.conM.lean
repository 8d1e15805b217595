section CON
def f_X9_many (x1 : Int32) (I : Mem) : Option (Int32) :=
  (rd I 71 619 (0 + x1)).bind fun v1 =>
  some v1
abbrev rmX9_many : Room := { frames := 0, cells := 0, slots := 0, locals := 0 }
set_option maxHeartbeats 4000000 in
set_option maxRecDepth 100000 in
theorem c_X9_many {l : Launch} {g : Gam} {I : Mem} {R : Rem} {P : Pool} {Z : Zed} (x1 : Int32)  {z : Int32} (hf : f_X9_many x1 I = some z) : Met l yX9_many (Cond.code yX9_many cX9_many 2 (some .int) :: GT) rmX9_many (va_Pc [.ref (g.2.2 + 70), .int x1] (PW g I R P Z)) (QI g z I R P Z) 0 0 (AA g) := by
  refine aw_ofW (lv0 := [(0, .ref (g.2.2 + 70)), (1, .int x1)]) (by decide) (by exact Nat.le_of_ble_eq_true rfl) (by rfl) (fun p0 e s m args below meth c ls C0 hl hW => ?_)
  have C0 : CX g p0 s m args meth c RX9 cX9_many 2 (some .int) := C0
  have hx := C0.1; have hb := C0.2.1; have hown := C0.2.2.2.2.1; have hts := C0.2.2.2.2.2.1; have hKS := C0.2.2.2.2.2.2.1
  unfold f_X9_many at hf
  obtain ⟨H, hH⟩ : ∃ H, H = s.heap := ⟨_, rfl⟩
  obtain ⟨locs, hlc⟩ : ∃ q : List Loc, q = [] := ⟨_, rfl⟩
  rw [show W p0 l e rmX9_many s m args below meth c s.heap [] 0 0 (MQ below (QI g z I R P Z) args s 0 0 (AA g)) (F0 m 0 ls []) = W p0 l e rmX9_many s m args below meth c H locs 0 0 (MQ below (QI g z I R P Z) args s 0 0 (AA g)) (F0 m 0 ls []) by rw [hH, hlc]]
  have hW : Wd g I R P Z s.heap H locs := by rw [hH, hlc]; exact hW
  refine lv_aload_n hx hb dX9_many_0 rfl (lv_at hl 0 rfl) ?_
  refine aw_get (v := .ref (g.2.2 + 71)) C0 hW (lv_fix (by decide)) (cel_8 kd70) rfl inG8 0 (by decide) wd73 rfl rfl dX9_many_1 ?_
  refine lv_iconst (v := 0) hx hb dX9_many_4 (by decide) ?_
  refine lv_iload_n hx hb dX9_many_5 rfl (lv_at hl 1 rfl) ?_
  refine lv_iadd hx hb dX9_many_6 ?_
  obtain ⟨v1, hv1, hf⟩ := bnd hf
  refine aw_iald C0 hW kd71 ln71 hv1 dX9_many_7 ?_
  have hz := Option.some.inj hf
  exact aw_iret C0 hW hz rfl rfl dX9_many_8
theorem cw_X9_70 {Rm : Room} {s : State} {args : Array Value} (ht : ∀ w ∈ GT, w.before args s = true) (hR : rmX9_many.frames + 1 ≤ Rm.frames ∧ 8 + (2 + 11) + rmX9_many.locals ≤ Rm.locals) : CallW Rm s args RX9 RX9 70 yX9_many cX9_many 2 (some .int) (Cond.code yX9_many cX9_many 2 (some .int) :: GT) rmX9_many 0 0 1 := cwV 1 ht (goodV wd864 wd865 wd866 wd607 wd867) rfl rfl rfl ⟨rfl, by decide +kernel, by decide +kernel, by decide +kernel⟩ hR
def f_X9_at (x0 : Int32) (x1 : Int32) (x2 : Int32) : Option (Int32) :=
  some ((2 + (4 * ((16 * x0) + x1))) + x2)
abbrev rmX9_at : Room := { frames := 0, cells := 0, slots := 0, locals := 0 }
set_option maxHeartbeats 4000000 in
set_option maxRecDepth 100000 in
theorem c_X9_at {l : Launch} {g : Gam} {I : Mem} {R : Rem} {P : Pool} {Z : Zed} (x0 : Int32) (x1 : Int32) (x2 : Int32)  {z : Int32} (hf : f_X9_at x0 x1 x2 = some z) : Met l yX9_at (Cond.code yX9_at cX9_at 3 (some .int) :: GT) rmX9_at (va_Pc [.int x0, .int x1, .int x2] (PW g I R P Z)) (QI g z I R P Z) 0 0 (AA g) := by
  refine aw_ofW (lv0 := [(0, .int x0), (1, .int x1), (2, .int x2)]) (by decide) (by exact Nat.le_of_ble_eq_true rfl) (by rfl) (fun p0 e s m args below meth c ls C0 hl hW => ?_)
  have C0 : CX g p0 s m args meth c RX9 cX9_at 3 (some .int) := C0
  have hx := C0.1; have hb := C0.2.1; have hown := C0.2.2.2.2.1; have hts := C0.2.2.2.2.2.1; have hKS := C0.2.2.2.2.2.2.1
  unfold f_X9_at at hf
  obtain ⟨H, hH⟩ : ∃ H, H = s.heap := ⟨_, rfl⟩
  obtain ⟨locs, hlc⟩ : ∃ q : List Loc, q = [] := ⟨_, rfl⟩
  rw [show W p0 l e rmX9_at s m args below meth c s.heap [] 0 0 (MQ below (QI g z I R P Z) args s 0 0 (AA g)) (F0 m 0 ls []) = W p0 l e rmX9_at s m args below meth c H locs 0 0 (MQ below (QI g z I R P Z) args s 0 0 (AA g)) (F0 m 0 ls []) by rw [hH, hlc]]
  have hW : Wd g I R P Z s.heap H locs := by rw [hH, hlc]; exact hW
  refine lv_iconst (v := 2) hx hb dX9_at_0 (by decide) ?_
  refine lv_iconst (v := 4) hx hb dX9_at_1 (by decide) ?_
  refine lv_bipush (v := 16) hx hb dX9_at_2 (by decide) ?_
  refine lv_iload_n hx hb dX9_at_4 rfl (lv_at hl 0 rfl) ?_
  refine lv_imul hx hb dX9_at_5 ?_
  refine lv_iload_n hx hb dX9_at_6 rfl (lv_at hl 1 rfl) ?_
  refine lv_iadd hx hb dX9_at_7 ?_
  refine lv_imul hx hb dX9_at_8 ?_
  refine lv_iadd hx hb dX9_at_9 ?_
  refine lv_iload_n hx hb dX9_at_10 rfl (lv_at hl 2 rfl) ?_
  refine lv_iadd hx hb dX9_at_11 ?_
  have hz := Option.some.inj hf
  exact aw_iret C0 hW hz rfl rfl dX9_at_12
theorem cw_X9_58 {Rm : Room} {s : State} {args : Array Value} (ht : ∀ w ∈ GT, w.before args s = true) (hR : rmX9_at.frames + 1 ≤ Rm.frames ∧ 8 + (3 + 11) + rmX9_at.locals ≤ Rm.locals) : CallB Rm s args RX9 58 yX9_at cX9_at 3 (some .int) (Cond.code yX9_at cX9_at 3 (some .int) :: GT) rmX9_at 0 0 3 ∧ (Cond.static yX9_at).before args s = true := va_cwS 3 ht (goodS wd855 wd856 wd607 wd857) rfl rfl rfl ⟨by decide +kernel, by decide +kernel, by decide +kernel⟩ hR
def f_X9_of (x1 : Int32) (x2 : Int32) (x3 : Int32) (I : Mem) : Option (Int32) :=
  (f_X9_at x1 x2 x3).bind fun q1 =>
  (rd I 71 619 q1).bind fun v2 =>
  some v2
abbrev rmX9_of : Room := { frames := 1, cells := 0, slots := 0, locals := 22 }
set_option maxHeartbeats 4000000 in
set_option maxRecDepth 100000 in
theorem c_X9_of {l : Launch} {g : Gam} {I : Mem} {R : Rem} {P : Pool} {Z : Zed} (x1 : Int32) (x2 : Int32) (x3 : Int32)  {z : Int32} (hf : f_X9_of x1 x2 x3 I = some z) : Met l yX9_of (Cond.code yX9_of cX9_of 4 (some .int) :: GT) rmX9_of (va_Pc [.ref (g.2.2 + 70), .int x1, .int x2, .int x3] (PW g I R P Z)) (QI g z I R P Z) 0 0 (AA g) := by
  refine aw_ofW (lv0 := [(0, .ref (g.2.2 + 70)), (1, .int x1), (2, .int x2), (3, .int x3)]) (by decide) (by exact Nat.le_of_ble_eq_true rfl) (by rfl) (fun p0 e s m args below meth c ls C0 hl hW => ?_)
  have C0 : CX g p0 s m args meth c RX9 cX9_of 4 (some .int) := C0
  have hx := C0.1; have hb := C0.2.1; have hown := C0.2.2.2.2.1; have hts := C0.2.2.2.2.2.1; have hKS := C0.2.2.2.2.2.2.1
  unfold f_X9_of at hf
  obtain ⟨H, hH⟩ : ∃ H, H = s.heap := ⟨_, rfl⟩
  obtain ⟨locs, hlc⟩ : ∃ q : List Loc, q = [] := ⟨_, rfl⟩
  rw [show W p0 l e rmX9_of s m args below meth c s.heap [] 0 0 (MQ below (QI g z I R P Z) args s 0 0 (AA g)) (F0 m 0 ls []) = W p0 l e rmX9_of s m args below meth c H locs 0 0 (MQ below (QI g z I R P Z) args s 0 0 (AA g)) (F0 m 0 ls []) by rw [hH, hlc]]
  have hW : Wd g I R P Z s.heap H locs := by rw [hH, hlc]; exact hW
  refine lv_aload_n hx hb dX9_of_0 rfl (lv_at hl 0 rfl) ?_
  refine aw_get (v := .ref (g.2.2 + 71)) C0 hW (lv_fix (by decide)) (cel_8 kd70) rfl inG8 0 (by decide) wd73 rfl rfl dX9_of_1 ?_
  refine lv_iload_n hx hb dX9_of_4 rfl (lv_at hl 1 rfl) ?_
  refine lv_iload_n hx hb dX9_of_5 rfl (lv_at hl 2 rfl) ?_
  refine lv_iload_n hx hb dX9_of_6 rfl (lv_at hl 3 rfl) ?_
  obtain ⟨q1, hq1, hf⟩ := bnd hf
  refine aw_cSi (rest := [.ref (g.2.2 + 71)]) C0 hW (c_X9_at x1 x2 x3  hq1) (cw_X9_58 hts ⟨Nat.le_of_ble_eq_true rfl, Nat.le_of_ble_eq_true rfl⟩) rfl hl.1 rfl (Nat.le_of_ble_eq_true rfl) ⟨Nat.zero_le _, Nat.zero_le _⟩ dX9_of_7 (fun H locs hW => ?_)
  obtain ⟨v2, hv2, hf⟩ := bnd hf
  refine aw_iald C0 hW kd71 ln71 hv2 dX9_of_10 ?_
  have hz := Option.some.inj hf
  exact aw_iret C0 hW hz rfl rfl dX9_of_11
theorem cw_X9_74 {Rm : Room} {s : State} {args : Array Value} (ht : ∀ w ∈ GT, w.before args s = true) (hR : rmX9_of.frames + 1 ≤ Rm.frames ∧ 8 + (4 + 11) + rmX9_of.locals ≤ Rm.locals) : CallW Rm s args RX9 RX9 74 yX9_of cX9_of 4 (some .int) (Cond.code yX9_of cX9_of 4 (some .int) :: GT) rmX9_of 0 0 3 := cwV 3 ht (goodV wd868 wd869 wd870 wd607 wd871) rfl rfl rfl ⟨rfl, by decide +kernel, by decide +kernel, by decide +kernel⟩ hR
def f_X9_known_L5 (x1 : Int32) (x2 : Int32) (I : Mem) : Nat → Int32 → Int32 → Option (Int32)
  | 0, _, _ => none
  | n + 1, w3, w4 =>
    (f_X9_many x1 I).bind fun q1 =>
    if q1 ≤ w4 then (
      some w3
    ) else (
      (f_X9_of x1 w4 x2 I).bind fun q2 =>
      if q2 = ((-1)) then (
        f_X9_known_L5 x1 x2 I n (w3 + 0) (w4 + 1)
      ) else (
        f_X9_known_L5 x1 x2 I n (w3 + 1) (w4 + 1)
      )
    )
def f_X9_known (x1 : Int32) (x2 : Int32) (I : Mem) : Option (Int32) :=
  (f_X9_known_L5 x1 x2 I fuel 0 0).bind fun q3 =>
  some q3
abbrev rmX9_known : Room := { frames := 2, cells := 0, slots := 0, locals := 45 }
set_option maxHeartbeats 4000000 in
set_option maxRecDepth 100000 in
theorem c_X9_known {l : Launch} {g : Gam} {I : Mem} {R : Rem} {P : Pool} {Z : Zed} (x1 : Int32) (x2 : Int32)  {z : Int32} (hf : f_X9_known x1 x2 I = some z) : Met l yX9_known (Cond.code yX9_known cX9_known 5 (some .int) :: GT) rmX9_known (va_Pc [.ref (g.2.2 + 70), .int x1, .int x2] (PW g I R P Z)) (QI g z I R P Z) 0 0 (AA g) := by
  refine aw_ofW (lv0 := [(0, .ref (g.2.2 + 70)), (1, .int x1), (2, .int x2)]) (by decide) (by exact Nat.le_of_ble_eq_true rfl) (by rfl) (fun p0 e s m args below meth c ls C0 hl hW => ?_)
  have C0 : CX g p0 s m args meth c RX9 cX9_known 5 (some .int) := C0
  have hx := C0.1; have hb := C0.2.1; have hown := C0.2.2.2.2.1; have hts := C0.2.2.2.2.2.1; have hKS := C0.2.2.2.2.2.2.1
  have L5 : ∀ (I : Mem) (n : Nat) (w3 : Int32) (w4 : Int32) (H : Heap) (locs : List Loc) (ls : Array Slot) (o : Int32), f_X9_known_L5 x1 x2 I n w3 w4 = some o → Wd g I R P Z s.heap H locs → lv_has ls 5 [(0, .ref (g.2.2 + 70)), (1, .int x1), (2, .int x2), (3, .int w3), (4, .int w4)] → (∀ (H : Heap) (locs : List Loc) (ls : Array Slot), Wd g I R P Z s.heap H locs → lv_has ls 5 [(3, .int o)] → W p0 l e rmX9_known s m args below meth c H locs 0 0 (MQ below (QI g z I R P Z) args s 0 0 (AA g)) (F0 m 41 ls [])) → W p0 l e rmX9_known s m args below meth c H locs 0 0 (MQ below (QI g z I R P Z) args s 0 0 (AA g)) (F0 m 5 ls []) := by
    intro I n
    induction n with
    | zero => intro w3 w4 H locs ls o hf; cases hf
    | succ n ih =>
      intro w3 w4 H locs ls o hf hW hl hK
      rw [f_X9_known_L5] at hf
      refine lv_iload hx hb dX9_known_5 (lv_at hl 4 rfl) ?_
      refine lv_aload_n hx hb dX9_known_7 rfl (lv_at hl 0 rfl) ?_
      refine lv_iload_n hx hb dX9_known_8 rfl (lv_at hl 1 rfl) ?_
      obtain ⟨q1, hq1, hf⟩ := bnd hf
      refine aw_cVi (rest := [.int w4]) C0 hW (lv_fix (by decide)) (cel_8 kd70) rfl (c_X9_many x1  hq1) (cw_X9_70 hts ⟨Nat.le_of_ble_eq_true rfl, Nat.le_of_ble_eq_true rfl⟩) rfl hl.1 rfl (Nat.le_of_ble_eq_true rfl) ⟨Nat.zero_le _, Nat.zero_le _⟩ dX9_known_9 (fun H locs hW => ?_)
      refine lv_icmp_ge (tgt := 41) hx hb dX9_known_12 rfl (fun hc => ?_) (fun hc => ?_)
      · have hf := ift hc hf
        have ho := Option.some.inj hf
        subst ho
        exact hK H locs ls hW (lv_sub hl [3] rfl)
      · have hf := iff_ hc hf
        refine lv_iload_n hx hb dX9_known_15 rfl (lv_at hl 3 rfl) ?_
        refine lv_aload_n hx hb dX9_known_16 rfl (lv_at hl 0 rfl) ?_
        refine lv_iload_n hx hb dX9_known_17 rfl (lv_at hl 1 rfl) ?_
        refine lv_iload hx hb dX9_known_18 (lv_at hl 4 rfl) ?_
        refine lv_iload_n hx hb dX9_known_20 rfl (lv_at hl 2 rfl) ?_
        obtain ⟨q2, hq2, hf⟩ := bnd hf
        refine aw_cVi (rest := [.int w3]) C0 hW (lv_fix (by decide)) (cel_8 kd70) rfl (c_X9_of x1 w4 x2  hq2) (cw_X9_74 hts ⟨Nat.le_of_ble_eq_true rfl, Nat.le_of_ble_eq_true rfl⟩) rfl hl.1 rfl (Nat.le_of_ble_eq_true rfl) ⟨Nat.zero_le _, Nat.zero_le _⟩ dX9_known_21 (fun H locs hW => ?_)
        refine lv_iconst (v := (-1)) hx hb dX9_known_24 (by decide) ?_
        refine lv_icmp_ne (tgt := 32) hx hb dX9_known_25 rfl (fun hc => ?_) (fun hc => ?_)
        · have hf := iff_ hc hf
          refine lv_iconst (v := 1) hx hb dX9_known_32 (by decide) ?_
          refine lv_iadd hx hb dX9_known_33 ?_
          refine lv_istore_n (lv' := [(3, .int (w3 + 1)), (0, .ref (g.2.2 + 70)), (1, .int x1), (2, .int x2), (4, .int w4)]) hx hb dX9_known_34 rfl hl (Nat.le_of_ble_eq_true rfl) rfl (fun ls hl => ?_)
          refine lv_iinc (k := 4) (v := w4 + 1) (lv' := [(4, .int (w4 + 1)), (3, .int (w3 + 1)), (0, .ref (g.2.2 + 70)), (1, .int x1), (2, .int x2)]) hx hb dX9_known_35 hl rfl (congrArg (fun t => w4 + t) (by decide : Int32.ofInt 1 = 1)) (Nat.le_of_ble_eq_true rfl) rfl (fun ls hl => ?_)
          refine lv_goto (tgt := 5) hx hb dX9_known_38 rfl ?_
          exact ih _ _ H locs ls o hf hW (lv_sub hl [2, 3, 4, 1, 0] rfl) hK
        · have hf := ift hc hf
          refine lv_iconst (v := 0) hx hb dX9_known_28 (by decide) ?_
          refine lv_goto (tgt := 33) hx hb dX9_known_29 rfl ?_
          refine lv_iadd hx hb dX9_known_33 ?_
          refine lv_istore_n (lv' := [(3, .int (w3 + 0)), (0, .ref (g.2.2 + 70)), (1, .int x1), (2, .int x2), (4, .int w4)]) hx hb dX9_known_34 rfl hl (Nat.le_of_ble_eq_true rfl) rfl (fun ls hl => ?_)
          refine lv_iinc (k := 4) (v := w4 + 1) (lv' := [(4, .int (w4 + 1)), (3, .int (w3 + 0)), (0, .ref (g.2.2 + 70)), (1, .int x1), (2, .int x2)]) hx hb dX9_known_35 hl rfl (congrArg (fun t => w4 + t) (by decide : Int32.ofInt 1 = 1)) (Nat.le_of_ble_eq_true rfl) rfl (fun ls hl => ?_)
          refine lv_goto (tgt := 5) hx hb dX9_known_38 rfl ?_
          exact ih _ _ H locs ls o hf hW (lv_sub hl [2, 3, 4, 1, 0] rfl) hK
  unfold f_X9_known at hf
  obtain ⟨H, hH⟩ : ∃ H, H = s.heap := ⟨_, rfl⟩
  obtain ⟨locs, hlc⟩ : ∃ q : List Loc, q = [] := ⟨_, rfl⟩
  rw [show W p0 l e rmX9_known s m args below meth c s.heap [] 0 0 (MQ below (QI g z I R P Z) args s 0 0 (AA g)) (F0 m 0 ls []) = W p0 l e rmX9_known s m args below meth c H locs 0 0 (MQ below (QI g z I R P Z) args s 0 0 (AA g)) (F0 m 0 ls []) by rw [hH, hlc]]
  have hW : Wd g I R P Z s.heap H locs := by rw [hH, hlc]; exact hW
  refine lv_iconst (v := 0) hx hb dX9_known_0 (by decide) ?_
  refine lv_istore_n (lv' := [(3, .int 0), (0, .ref (g.2.2 + 70)), (1, .int x1), (2, .int x2)]) hx hb dX9_known_1 rfl hl (Nat.le_of_ble_eq_true rfl) rfl (fun ls hl => ?_)
  refine lv_iconst (v := 0) hx hb dX9_known_2 (by decide) ?_
  refine lv_istore (lv' := [(4, .int 0), (3, .int 0), (0, .ref (g.2.2 + 70)), (1, .int x1), (2, .int x2)]) hx hb dX9_known_3 hl (Nat.le_of_ble_eq_true rfl) rfl (fun ls hl => ?_)
  obtain ⟨q3, hq3, hf⟩ := bnd hf
  refine L5 I fuel 0 0 H locs ls _ hq3 hW (lv_sub hl [2, 3, 4, 1, 0] rfl) (fun H locs ls hW hl => ?_)
  refine lv_iload_n hx hb dX9_known_41 rfl (lv_at hl 0 rfl) ?_
  have hz := Option.some.inj hf
  exact aw_iret C0 hW hz rfl rfl dX9_known_42
theorem cw_X9_231 {Rm : Room} {s : State} {args : Array Value} (ht : ∀ w ∈ GT, w.before args s = true) (hR : rmX9_known.frames + 1 ≤ Rm.frames ∧ 8 + (5 + 11) + rmX9_known.locals ≤ Rm.locals) : CallW Rm s args RX9 RX9 231 yX9_known cX9_known 5 (some .int) (Cond.code yX9_known cX9_known 5 (some .int) :: GT) rmX9_known 0 0 2 := cwV 2 ht (goodV wd744 wd745 wd746 wd607 wd747) rfl rfl rfl ⟨rfl, by decide +kernel, by decide +kernel, by decide +kernel⟩ hR
def f_X9_sum_L6 (x1 : Int32) (x2 : Int32) (x3 : Int32) (I : Mem) : Nat → Int32 → Int32 → Option (Int32)
  | 0, _, _ => none
  | n + 1, w4, w5 =>
    (f_X9_many x1 I).bind fun q1 =>
    if q1 ≤ w5 then (
      some w4
    ) else (
      (f_X9_of x1 w5 x2 I).bind fun q2 =>
      if ((x3 >>> (w5 &&& 31)) &&& 1) = 1 then (
        if q2 = ((-1)) then (
          f_X9_sum_L6 x1 x2 x3 I n (w4 + 0) (w5 + 1)
        ) else (
          f_X9_sum_L6 x1 x2 x3 I n (w4 + q2) (w5 + 1)
        )
      ) else (
        f_X9_sum_L6 x1 x2 x3 I n (w4 + 0) (w5 + 1)
      )
    )
def f_X9_sum (x1 : Int32) (x2 : Int32) (x3 : Int32) (I : Mem) : Option (Int32) :=
  (f_X9_sum_L6 x1 x2 x3 I fuel 0 0).bind fun q3 =>
  some q3
abbrev rmX9_sum : Room := { frames := 2, cells := 0, slots := 0, locals := 45 }
set_option maxHeartbeats 4000000 in
set_option maxRecDepth 100000 in
theorem c_X9_sum {l : Launch} {g : Gam} {I : Mem} {R : Rem} {P : Pool} {Z : Zed} (x1 : Int32) (x2 : Int32) (x3 : Int32)  {z : Int32} (hf : f_X9_sum x1 x2 x3 I = some z) : Met l yX9_sum (Cond.code yX9_sum cX9_sum 7 (some .int) :: GT) rmX9_sum (va_Pc [.ref (g.2.2 + 70), .int x1, .int x2, .int x3] (PW g I R P Z)) (QI g z I R P Z) 0 0 (AA g) := by
  refine aw_ofW (lv0 := [(0, .ref (g.2.2 + 70)), (1, .int x1), (2, .int x2), (3, .int x3)]) (by decide) (by exact Nat.le_of_ble_eq_true rfl) (by rfl) (fun p0 e s m args below meth c ls C0 hl hW => ?_)
  have C0 : CX g p0 s m args meth c RX9 cX9_sum 7 (some .int) := C0
  have hx := C0.1; have hb := C0.2.1; have hown := C0.2.2.2.2.1; have hts := C0.2.2.2.2.2.1; have hKS := C0.2.2.2.2.2.2.1
  have L6 : ∀ (I : Mem) (n : Nat) (w4 : Int32) (w5 : Int32) (H : Heap) (locs : List Loc) (ls : Array Slot) (o : Int32), f_X9_sum_L6 x1 x2 x3 I n w4 w5 = some o → Wd g I R P Z s.heap H locs → lv_has ls 7 [(0, .ref (g.2.2 + 70)), (1, .int x1), (2, .int x2), (3, .int x3), (4, .int w4), (5, .int w5)] → (∀ (H : Heap) (locs : List Loc) (ls : Array Slot), Wd g I R P Z s.heap H locs → lv_has ls 7 [(4, .int o)] → W p0 l e rmX9_sum s m args below meth c H locs 0 0 (MQ below (QI g z I R P Z) args s 0 0 (AA g)) (F0 m 59 ls [])) → W p0 l e rmX9_sum s m args below meth c H locs 0 0 (MQ below (QI g z I R P Z) args s 0 0 (AA g)) (F0 m 6 ls []) := by
    intro I n
    induction n with
    | zero => intro w4 w5 H locs ls o hf; cases hf
    | succ n ih =>
      intro w4 w5 H locs ls o hf hW hl hK
      rw [f_X9_sum_L6] at hf
      refine lv_iload hx hb dX9_sum_6 (lv_at hl 5 rfl) ?_
      refine lv_aload_n hx hb dX9_sum_8 rfl (lv_at hl 0 rfl) ?_
      refine lv_iload_n hx hb dX9_sum_9 rfl (lv_at hl 1 rfl) ?_
      obtain ⟨q1, hq1, hf⟩ := bnd hf
      refine aw_cVi (rest := [.int w5]) C0 hW (lv_fix (by decide)) (cel_8 kd70) rfl (c_X9_many x1  hq1) (cw_X9_70 hts ⟨Nat.le_of_ble_eq_true rfl, Nat.le_of_ble_eq_true rfl⟩) rfl hl.1 rfl (Nat.le_of_ble_eq_true rfl) ⟨Nat.zero_le _, Nat.zero_le _⟩ dX9_sum_10 (fun H locs hW => ?_)
      refine lv_icmp_ge (tgt := 59) hx hb dX9_sum_13 rfl (fun hc => ?_) (fun hc => ?_)
      · have hf := ift hc hf
        have ho := Option.some.inj hf
        subst ho
        exact hK H locs ls hW (lv_sub hl [4] rfl)
      · have hf := iff_ hc hf
        refine lv_aload_n hx hb dX9_sum_16 rfl (lv_at hl 0 rfl) ?_
        refine lv_iload_n hx hb dX9_sum_17 rfl (lv_at hl 1 rfl) ?_
        refine lv_iload hx hb dX9_sum_18 (lv_at hl 5 rfl) ?_
        refine lv_iload_n hx hb dX9_sum_20 rfl (lv_at hl 2 rfl) ?_
        obtain ⟨q2, hq2, hf⟩ := bnd hf
        refine aw_cVi (rest := []) C0 hW (lv_fix (by decide)) (cel_8 kd70) rfl (c_X9_of x1 w5 x2  hq2) (cw_X9_74 hts ⟨Nat.le_of_ble_eq_true rfl, Nat.le_of_ble_eq_true rfl⟩) rfl hl.1 rfl (Nat.le_of_ble_eq_true rfl) ⟨Nat.zero_le _, Nat.zero_le _⟩ dX9_sum_21 (fun H locs hW => ?_)
        refine lv_istore (lv' := [(6, .int q2), (0, .ref (g.2.2 + 70)), (1, .int x1), (2, .int x2), (3, .int x3), (4, .int w4), (5, .int w5)]) hx hb dX9_sum_24 hl (Nat.le_of_ble_eq_true rfl) rfl (fun ls hl => ?_)
        refine lv_iload hx hb dX9_sum_26 (lv_at hl 5 rfl) ?_
        refine lv_iload_n hx hb dX9_sum_28 rfl (lv_at hl 4 rfl) ?_
        refine lv_iload hx hb dX9_sum_29 (lv_at hl 6 rfl) ?_
        refine lv_ishr hx hb dX9_sum_31 ?_
        refine lv_iconst (v := 1) hx hb dX9_sum_32 (by decide) ?_
        refine lv_iand hx hb dX9_sum_33 ?_
        refine lv_iconst (v := 1) hx hb dX9_sum_34 (by decide) ?_
        refine lv_icmp_ne (tgt := 49) hx hb dX9_sum_35 rfl (fun hc => ?_) (fun hc => ?_)
        · have hf := iff_ hc hf
          refine lv_iconst (v := 0) hx hb dX9_sum_49 (by decide) ?_
          refine lv_iadd hx hb dX9_sum_50 ?_
          refine lv_istore (lv' := [(4, .int (w4 + 0)), (6, .int q2), (0, .ref (g.2.2 + 70)), (1, .int x1), (2, .int x2), (3, .int x3), (5, .int w5)]) hx hb dX9_sum_51 hl (Nat.le_of_ble_eq_true rfl) rfl (fun ls hl => ?_)
          refine lv_iinc (k := 6) (v := w5 + 1) (lv' := [(5, .int (w5 + 1)), (4, .int (w4 + 0)), (6, .int q2), (0, .ref (g.2.2 + 70)), (1, .int x1), (2, .int x2), (3, .int x3)]) hx hb dX9_sum_53 hl rfl (congrArg (fun t => w5 + t) (by decide : Int32.ofInt 1 = 1)) (Nat.le_of_ble_eq_true rfl) rfl (fun ls hl => ?_)
          refine lv_goto (tgt := 6) hx hb dX9_sum_56 rfl ?_
          exact ih _ _ H locs ls o hf hW (lv_sub hl [3, 4, 5, 6, 1, 0] rfl) hK
        · have hf := ift hc hf
          refine lv_iload hx hb dX9_sum_38 (lv_at hl 0 rfl) ?_
          refine lv_iconst (v := (-1)) hx hb dX9_sum_40 (by decide) ?_
          refine lv_icmp_eq (tgt := 49) hx hb dX9_sum_41 rfl (fun hc => ?_) (fun hc => ?_)
          · have hf := ift hc hf
            refine lv_iconst (v := 0) hx hb dX9_sum_49 (by decide) ?_
            refine lv_iadd hx hb dX9_sum_50 ?_
            refine lv_istore (lv' := [(4, .int (w4 + 0)), (6, .int q2), (0, .ref (g.2.2 + 70)), (1, .int x1), (2, .int x2), (3, .int x3), (5, .int w5)]) hx hb dX9_sum_51 hl (Nat.le_of_ble_eq_true rfl) rfl (fun ls hl => ?_)
            refine lv_iinc (k := 6) (v := w5 + 1) (lv' := [(5, .int (w5 + 1)), (4, .int (w4 + 0)), (6, .int q2), (0, .ref (g.2.2 + 70)), (1, .int x1), (2, .int x2), (3, .int x3)]) hx hb dX9_sum_53 hl rfl (congrArg (fun t => w5 + t) (by decide : Int32.ofInt 1 = 1)) (Nat.le_of_ble_eq_true rfl) rfl (fun ls hl => ?_)
            refine lv_goto (tgt := 6) hx hb dX9_sum_56 rfl ?_
            exact ih _ _ H locs ls o hf hW (lv_sub hl [3, 4, 5, 6, 1, 0] rfl) hK
          · have hf := iff_ hc hf
            refine lv_iload hx hb dX9_sum_44 (lv_at hl 0 rfl) ?_
            refine lv_goto (tgt := 50) hx hb dX9_sum_46 rfl ?_
            refine lv_iadd hx hb dX9_sum_50 ?_
            refine lv_istore (lv' := [(4, .int (w4 + q2)), (6, .int q2), (0, .ref (g.2.2 + 70)), (1, .int x1), (2, .int x2), (3, .int x3), (5, .int w5)]) hx hb dX9_sum_51 hl (Nat.le_of_ble_eq_true rfl) rfl (fun ls hl => ?_)
            refine lv_iinc (k := 6) (v := w5 + 1) (lv' := [(5, .int (w5 + 1)), (4, .int (w4 + q2)), (6, .int q2), (0, .ref (g.2.2 + 70)), (1, .int x1), (2, .int x2), (3, .int x3)]) hx hb dX9_sum_53 hl rfl (congrArg (fun t => w5 + t) (by decide : Int32.ofInt 1 = 1)) (Nat.le_of_ble_eq_true rfl) rfl (fun ls hl => ?_)
            refine lv_goto (tgt := 6) hx hb dX9_sum_56 rfl ?_
            exact ih _ _ H locs ls o hf hW (lv_sub hl [3, 4, 5, 6, 1, 0] rfl) hK
  unfold f_X9_sum at hf
  obtain ⟨H, hH⟩ : ∃ H, H = s.heap := ⟨_, rfl⟩
  obtain ⟨locs, hlc⟩ : ∃ q : List Loc, q = [] := ⟨_, rfl⟩
  rw [show W p0 l e rmX9_sum s m args below meth c s.heap [] 0 0 (MQ below (QI g z I R P Z) args s 0 0 (AA g)) (F0 m 0 ls []) = W p0 l e rmX9_sum s m args below meth c H locs 0 0 (MQ below (QI g z I R P Z) args s 0 0 (AA g)) (F0 m 0 ls []) by rw [hH, hlc]]
  have hW : Wd g I R P Z s.heap H locs := by rw [hH, hlc]; exact hW
  refine lv_iconst (v := 0) hx hb dX9_sum_0 (by decide) ?_
  refine lv_istore (lv' := [(4, .int 0), (0, .ref (g.2.2 + 70)), (1, .int x1), (2, .int x2), (3, .int x3)]) hx hb dX9_sum_1 hl (Nat.le_of_ble_eq_true rfl) rfl (fun ls hl => ?_)
  refine lv_iconst (v := 0) hx hb dX9_sum_3 (by decide) ?_
  refine lv_istore (lv' := [(5, .int 0), (4, .int 0), (0, .ref (g.2.2 + 70)), (1, .int x1), (2, .int x2), (3, .int x3)]) hx hb dX9_sum_4 hl (Nat.le_of_ble_eq_true rfl) rfl (fun ls hl => ?_)
  obtain ⟨q3, hq3, hf⟩ := bnd hf
  refine L6 I fuel 0 0 H locs ls _ hq3 hW (lv_sub hl [2, 3, 4, 5, 1, 0] rfl) (fun H locs ls hW hl => ?_)
  refine lv_iload hx hb dX9_sum_59 (lv_at hl 0 rfl) ?_
  have hz := Option.some.inj hf
  exact aw_iret C0 hW hz rfl rfl dX9_sum_61
theorem cw_X9_234 {Rm : Room} {s : State} {args : Array Value} (ht : ∀ w ∈ GT, w.before args s = true) (hR : rmX9_sum.frames + 1 ≤ Rm.frames ∧ 8 + (7 + 11) + rmX9_sum.locals ≤ Rm.locals) : CallW Rm s args RX9 RX9 234 yX9_sum cX9_sum 7 (some .int) (Cond.code yX9_sum cX9_sum 7 (some .int) :: GT) rmX9_sum 0 0 3 := cwV 3 ht (goodV wd748 wd749 wd750 wd607 wd751) rfl rfl rfl ⟨rfl, by decide +kernel, by decide +kernel, by decide +kernel⟩ hR
def f_X9_holds_L6 (x1 : Int32) (x2 : Int32) (x3 : Int32) (I : Mem) : Nat → Int32 → Int32 → Option (Int32)
  | 0, _, _ => none
  | n + 1, w4, w5 =>
    (f_X9_many x1 I).bind fun q1 =>
    if q1 ≤ w5 then (
      some w4
    ) else (
      (f_X9_of x1 w5 x2 I).bind fun q2 =>
      if q2 = x3 then (
        f_X9_holds_L6 x1 x2 x3 I n (w4 ||| (1 <<< (w5 &&& 31))) (w5 + 1)
      ) else (
        f_X9_holds_L6 x1 x2 x3 I n (w4 ||| 0) (w5 + 1)
      )
    )
def f_X9_holds (x1 : Int32) (x2 : Int32) (x3 : Int32) (I : Mem) : Option (Int32) :=
  (f_X9_holds_L6 x1 x2 x3 I fuel 0 0).bind fun q3 =>
  some q3
abbrev rmX9_holds : Room := { frames := 2, cells := 0, slots := 0, locals := 45 }
set_option maxHeartbeats 4000000 in
set_option maxRecDepth 100000 in
theorem c_X9_holds {l : Launch} {g : Gam} {I : Mem} {R : Rem} {P : Pool} {Z : Zed} (x1 : Int32) (x2 : Int32) (x3 : Int32)  {z : Int32} (hf : f_X9_holds x1 x2 x3 I = some z) : Met l yX9_holds (Cond.code yX9_holds cX9_holds 6 (some .int) :: GT) rmX9_holds (va_Pc [.ref (g.2.2 + 70), .int x1, .int x2, .int x3] (PW g I R P Z)) (QI g z I R P Z) 0 0 (AA g) := by
  refine aw_ofW (lv0 := [(0, .ref (g.2.2 + 70)), (1, .int x1), (2, .int x2), (3, .int x3)]) (by decide) (by exact Nat.le_of_ble_eq_true rfl) (by rfl) (fun p0 e s m args below meth c ls C0 hl hW => ?_)
  have C0 : CX g p0 s m args meth c RX9 cX9_holds 6 (some .int) := C0
  have hx := C0.1; have hb := C0.2.1; have hown := C0.2.2.2.2.1; have hts := C0.2.2.2.2.2.1; have hKS := C0.2.2.2.2.2.2.1
  have L6 : ∀ (I : Mem) (n : Nat) (w4 : Int32) (w5 : Int32) (H : Heap) (locs : List Loc) (ls : Array Slot) (o : Int32), f_X9_holds_L6 x1 x2 x3 I n w4 w5 = some o → Wd g I R P Z s.heap H locs → lv_has ls 6 [(0, .ref (g.2.2 + 70)), (1, .int x1), (2, .int x2), (3, .int x3), (4, .int w4), (5, .int w5)] → (∀ (H : Heap) (locs : List Loc) (ls : Array Slot), Wd g I R P Z s.heap H locs → lv_has ls 6 [(4, .int o)] → W p0 l e rmX9_holds s m args below meth c H locs 0 0 (MQ below (QI g z I R P Z) args s 0 0 (AA g)) (F0 m 47 ls [])) → W p0 l e rmX9_holds s m args below meth c H locs 0 0 (MQ below (QI g z I R P Z) args s 0 0 (AA g)) (F0 m 6 ls []) := by
    intro I n
    induction n with
    | zero => intro w4 w5 H locs ls o hf; cases hf
    | succ n ih =>
      intro w4 w5 H locs ls o hf hW hl hK
      rw [f_X9_holds_L6] at hf
      refine lv_iload hx hb dX9_holds_6 (lv_at hl 5 rfl) ?_
      refine lv_aload_n hx hb dX9_holds_8 rfl (lv_at hl 0 rfl) ?_
      refine lv_iload_n hx hb dX9_holds_9 rfl (lv_at hl 1 rfl) ?_
      obtain ⟨q1, hq1, hf⟩ := bnd hf
      refine aw_cVi (rest := [.int w5]) C0 hW (lv_fix (by decide)) (cel_8 kd70) rfl (c_X9_many x1  hq1) (cw_X9_70 hts ⟨Nat.le_of_ble_eq_true rfl, Nat.le_of_ble_eq_true rfl⟩) rfl hl.1 rfl (Nat.le_of_ble_eq_true rfl) ⟨Nat.zero_le _, Nat.zero_le _⟩ dX9_holds_10 (fun H locs hW => ?_)
      refine lv_icmp_ge (tgt := 47) hx hb dX9_holds_13 rfl (fun hc => ?_) (fun hc => ?_)
      · have hf := ift hc hf
        have ho := Option.some.inj hf
        subst ho
        exact hK H locs ls hW (lv_sub hl [4] rfl)
      · have hf := iff_ hc hf
        refine lv_iload hx hb dX9_holds_16 (lv_at hl 4 rfl) ?_
        refine lv_aload_n hx hb dX9_holds_18 rfl (lv_at hl 0 rfl) ?_
        refine lv_iload_n hx hb dX9_holds_19 rfl (lv_at hl 1 rfl) ?_
        refine lv_iload hx hb dX9_holds_20 (lv_at hl 5 rfl) ?_
        refine lv_iload_n hx hb dX9_holds_22 rfl (lv_at hl 2 rfl) ?_
        obtain ⟨q2, hq2, hf⟩ := bnd hf
        refine aw_cVi (rest := [.int w4]) C0 hW (lv_fix (by decide)) (cel_8 kd70) rfl (c_X9_of x1 w5 x2  hq2) (cw_X9_74 hts ⟨Nat.le_of_ble_eq_true rfl, Nat.le_of_ble_eq_true rfl⟩) rfl hl.1 rfl (Nat.le_of_ble_eq_true rfl) ⟨Nat.zero_le _, Nat.zero_le _⟩ dX9_holds_23 (fun H locs hW => ?_)
        refine lv_iload_n hx hb dX9_holds_26 rfl (lv_at hl 3 rfl) ?_
        refine lv_icmp_ne (tgt := 37) hx hb dX9_holds_27 rfl (fun hc => ?_) (fun hc => ?_)
        · have hf := iff_ hc hf
          refine lv_iconst (v := 0) hx hb dX9_holds_37 (by decide) ?_
          refine lv_ior hx hb dX9_holds_38 ?_
          refine lv_istore (lv' := [(4, .int (w4 ||| 0)), (0, .ref (g.2.2 + 70)), (1, .int x1), (2, .int x2), (3, .int x3), (5, .int w5)]) hx hb dX9_holds_39 hl (Nat.le_of_ble_eq_true rfl) rfl (fun ls hl => ?_)
          refine lv_iinc (k := 5) (v := w5 + 1) (lv' := [(5, .int (w5 + 1)), (4, .int (w4 ||| 0)), (0, .ref (g.2.2 + 70)), (1, .int x1), (2, .int x2), (3, .int x3)]) hx hb dX9_holds_41 hl rfl (congrArg (fun t => w5 + t) (by decide : Int32.ofInt 1 = 1)) (Nat.le_of_ble_eq_true rfl) rfl (fun ls hl => ?_)
          refine lv_goto (tgt := 6) hx hb dX9_holds_44 rfl ?_
          exact ih _ _ H locs ls o hf hW (lv_sub hl [2, 3, 4, 5, 1, 0] rfl) hK
        · have hf := ift hc hf
          refine lv_iconst (v := 1) hx hb dX9_holds_30 (by decide) ?_
          refine lv_iload hx hb dX9_holds_31 (lv_at hl 5 rfl) ?_
          refine lv_ishl hx hb dX9_holds_33 ?_
          refine lv_goto (tgt := 38) hx hb dX9_holds_34 rfl ?_
          refine lv_ior hx hb dX9_holds_38 ?_
          refine lv_istore (lv' := [(4, .int (w4 ||| (1 <<< (w5 &&& 31)))), (0, .ref (g.2.2 + 70)), (1, .int x1), (2, .int x2), (3, .int x3), (5, .int w5)]) hx hb dX9_holds_39 hl (Nat.le_of_ble_eq_true rfl) rfl (fun ls hl => ?_)
          refine lv_iinc (k := 5) (v := w5 + 1) (lv' := [(5, .int (w5 + 1)), (4, .int (w4 ||| (1 <<< (w5 &&& 31)))), (0, .ref (g.2.2 + 70)), (1, .int x1), (2, .int x2), (3, .int x3)]) hx hb dX9_holds_41 hl rfl (congrArg (fun t => w5 + t) (by decide : Int32.ofInt 1 = 1)) (Nat.le_of_ble_eq_true rfl) rfl (fun ls hl => ?_)
          refine lv_goto (tgt := 6) hx hb dX9_holds_44 rfl ?_
          exact ih _ _ H locs ls o hf hW (lv_sub hl [2, 3, 4, 5, 1, 0] rfl) hK
  unfold f_X9_holds at hf
  obtain ⟨H, hH⟩ : ∃ H, H = s.heap := ⟨_, rfl⟩
  obtain ⟨locs, hlc⟩ : ∃ q : List Loc, q = [] := ⟨_, rfl⟩
  rw [show W p0 l e rmX9_holds s m args below meth c s.heap [] 0 0 (MQ below (QI g z I R P Z) args s 0 0 (AA g)) (F0 m 0 ls []) = W p0 l e rmX9_holds s m args below meth c H locs 0 0 (MQ below (QI g z I R P Z) args s 0 0 (AA g)) (F0 m 0 ls []) by rw [hH, hlc]]
  have hW : Wd g I R P Z s.heap H locs := by rw [hH, hlc]; exact hW
  refine lv_iconst (v := 0) hx hb dX9_holds_0 (by decide) ?_
  refine lv_istore (lv' := [(4, .int 0), (0, .ref (g.2.2 + 70)), (1, .int x1), (2, .int x2), (3, .int x3)]) hx hb dX9_holds_1 hl (Nat.le_of_ble_eq_true rfl) rfl (fun ls hl => ?_)
  refine lv_iconst (v := 0) hx hb dX9_holds_3 (by decide) ?_
  refine lv_istore (lv' := [(5, .int 0), (4, .int 0), (0, .ref (g.2.2 + 70)), (1, .int x1), (2, .int x2), (3, .int x3)]) hx hb dX9_holds_4 hl (Nat.le_of_ble_eq_true rfl) rfl (fun ls hl => ?_)
  obtain ⟨q3, hq3, hf⟩ := bnd hf
  refine L6 I fuel 0 0 H locs ls _ hq3 hW (lv_sub hl [2, 3, 4, 5, 1, 0] rfl) (fun H locs ls hW hl => ?_)
  refine lv_iload hx hb dX9_holds_47 (lv_at hl 0 rfl) ?_
  have hz := Option.some.inj hf
  exact aw_iret C0 hW hz rfl rfl dX9_holds_49
theorem cw_X9_225 {Rm : Room} {s : State} {args : Array Value} (ht : ∀ w ∈ GT, w.before args s = true) (hR : rmX9_holds.frames + 1 ≤ Rm.frames ∧ 8 + (6 + 11) + rmX9_holds.locals ≤ Rm.locals) : CallW Rm s args RX9 RX9 225 yX9_holds cX9_holds 6 (some .int) (Cond.code yX9_holds cX9_holds 6 (some .int) :: GT) rmX9_holds 0 0 3 := cwV 3 ht (goodV wd736 wd737 wd738 wd607 wd739) rfl rfl rfl ⟨rfl, by decide +kernel, by decide +kernel, by decide +kernel⟩ hR
def f_X9_above_L5 (x1 : Int32) (x2 : Int32) (x3 : Int32) (I : Mem) : Nat → Int32 → Option ((Int32) ⊕ (Unit))
  | 0, _ => none
  | n + 1, w4 =>
    if 99 < w4 then (
      some (.inr ())
    ) else (
      (f_X9_holds x1 x2 w4 I).bind fun q1 =>
      if q1 = 0 then (
        f_X9_above_L5 x1 x2 x3 I n (w4 + 1)
      ) else (
        some (.inl w4)
      )
    )
def f_X9_above (x1 : Int32) (x2 : Int32) (x3 : Int32) (I : Mem) : Option (Int32) :=
  (f_X9_above_L5 x1 x2 x3 I fuel (x3 + 1)).bind fun q2 =>
  sm q2 (fun r => some r) fun q3 =>
  some ((-2))
abbrev rmX9_above : Room := { frames := 3, cells := 0, slots := 0, locals := 70 }
set_option maxHeartbeats 4000000 in
set_option maxRecDepth 100000 in
theorem c_X9_above {l : Launch} {g : Gam} {I : Mem} {R : Rem} {P : Pool} {Z : Zed} (x1 : Int32) (x2 : Int32) (x3 : Int32)  {z : Int32} (hf : f_X9_above x1 x2 x3 I = some z) : Met l yX9_above (Cond.code yX9_above cX9_above 5 (some .int) :: GT) rmX9_above (va_Pc [.ref (g.2.2 + 70), .int x1, .int x2, .int x3] (PW g I R P Z)) (QI g z I R P Z) 0 0 (AA g) := by
  refine aw_ofW (lv0 := [(0, .ref (g.2.2 + 70)), (1, .int x1), (2, .int x2), (3, .int x3)]) (by decide) (by exact Nat.le_of_ble_eq_true rfl) (by rfl) (fun p0 e s m args below meth c ls C0 hl hW => ?_)
  have C0 : CX g p0 s m args meth c RX9 cX9_above 5 (some .int) := C0
  have hx := C0.1; have hb := C0.2.1; have hown := C0.2.2.2.2.1; have hts := C0.2.2.2.2.2.1; have hKS := C0.2.2.2.2.2.2.1
  have L5 : ∀ (I : Mem) (n : Nat) (w4 : Int32) (H : Heap) (locs : List Loc) (ls : Array Slot) (o : (Int32) ⊕ (Unit)), f_X9_above_L5 x1 x2 x3 I n w4 = some o → Wd g I R P Z s.heap H locs → lv_has ls 5 [(0, .ref (g.2.2 + 70)), (1, .int x1), (2, .int x2), (4, .int w4)] → (∀ q, o = .inr q → ∀ (H : Heap) (locs : List Loc) (ls : Array Slot), Wd g I R P Z s.heap H locs → lv_has ls 5 [] → W p0 l e rmX9_above s m args below meth c H locs 0 0 (MQ below (QI g z I R P Z) args s 0 0 (AA g)) (F0 m 32 ls [])) → (∀ r, o = .inl r → r = z) → W p0 l e rmX9_above s m args below meth c H locs 0 0 (MQ below (QI g z I R P Z) args s 0 0 (AA g)) (F0 m 5 ls []) := by
    intro I n
    induction n with
    | zero => intro w4 H locs ls o hf; cases hf
    | succ n ih =>
      intro w4 H locs ls o hf hW hl hK hZ
      rw [f_X9_above_L5] at hf
      refine lv_iload hx hb dX9_above_5 (lv_at hl 3 rfl) ?_
      refine lv_bipush (v := 99) hx hb dX9_above_7 (by decide) ?_
      refine lv_icmp_gt (tgt := 32) hx hb dX9_above_9 rfl (fun hc => ?_) (fun hc => ?_)
      · have hf := ift hc hf
        have ho := Option.some.inj hf
        subst ho
        exact hK _ rfl H locs ls hW (lv_sub hl [] rfl)
      · have hf := iff_ hc hf
        refine lv_aload_n hx hb dX9_above_12 rfl (lv_at hl 0 rfl) ?_
        refine lv_iload_n hx hb dX9_above_13 rfl (lv_at hl 1 rfl) ?_
        refine lv_iload_n hx hb dX9_above_14 rfl (lv_at hl 2 rfl) ?_
        refine lv_iload hx hb dX9_above_15 (lv_at hl 3 rfl) ?_
        obtain ⟨q1, hq1, hf⟩ := bnd hf
        refine aw_cVi (rest := []) C0 hW (lv_fix (by decide)) (cel_8 kd70) rfl (c_X9_holds x1 x2 w4  hq1) (cw_X9_225 hts ⟨Nat.le_of_ble_eq_true rfl, Nat.le_of_ble_eq_true rfl⟩) rfl hl.1 rfl (Nat.le_of_ble_eq_true rfl) ⟨Nat.zero_le _, Nat.zero_le _⟩ dX9_above_17 (fun H locs hW => ?_)
        refine lv_if_eq (tgt := 26) hx hb dX9_above_20 rfl (fun hc => ?_) (fun hc => ?_)
        · have hf := ift hc hf
          refine lv_iinc (k := 3) (v := w4 + 1) (lv' := [(4, .int (w4 + 1)), (0, .ref (g.2.2 + 70)), (1, .int x1), (2, .int x2)]) hx hb dX9_above_26 hl rfl (congrArg (fun t => w4 + t) (by decide : Int32.ofInt 1 = 1)) (Nat.le_of_ble_eq_true rfl) rfl (fun ls hl => ?_)
          refine lv_goto (tgt := 5) hx hb dX9_above_29 rfl ?_
          exact ih _ H locs ls o hf hW (lv_sub hl [1, 2, 3, 0] rfl) hK hZ
        · have hf := iff_ hc hf
          refine lv_iload hx hb dX9_above_23 (lv_at hl 3 rfl) ?_
          have hz := hZ _ (Option.some.inj hf).symm
          exact aw_iret C0 hW hz rfl rfl dX9_above_25
  unfold f_X9_above at hf
  obtain ⟨H, hH⟩ : ∃ H, H = s.heap := ⟨_, rfl⟩
  obtain ⟨locs, hlc⟩ : ∃ q : List Loc, q = [] := ⟨_, rfl⟩
  rw [show W p0 l e rmX9_above s m args below meth c s.heap [] 0 0 (MQ below (QI g z I R P Z) args s 0 0 (AA g)) (F0 m 0 ls []) = W p0 l e rmX9_above s m args below meth c H locs 0 0 (MQ below (QI g z I R P Z) args s 0 0 (AA g)) (F0 m 0 ls []) by rw [hH, hlc]]
  have hW : Wd g I R P Z s.heap H locs := by rw [hH, hlc]; exact hW
  refine lv_iload_n hx hb dX9_above_0 rfl (lv_at hl 3 rfl) ?_
  refine lv_iconst (v := 1) hx hb dX9_above_1 (by decide) ?_
  refine lv_iadd hx hb dX9_above_2 ?_
  refine lv_istore (lv' := [(4, .int (x3 + 1)), (0, .ref (g.2.2 + 70)), (1, .int x1), (2, .int x2), (3, .int x3)]) hx hb dX9_above_3 hl (Nat.le_of_ble_eq_true rfl) rfl (fun ls hl => ?_)
  obtain ⟨q2, hq2, hf⟩ := bnd hf
  refine L5 I fuel (x3 + 1) H locs ls _ hq2 hW (lv_sub hl [1, 2, 3, 0] rfl) (fun q3 eq3 H locs ls hW hl => ?_) (fun r er => ?_)
  rotate_left
  · rw [er] at hf
    exact Option.some.inj hf
  rw [eq3] at hf
  have hf := (sm_re hf)
  refine lv_bipush (v := (-2)) hx hb dX9_above_32 (by decide) ?_
  have hz := Option.some.inj hf
  exact aw_iret C0 hW hz rfl rfl dX9_above_34
theorem cw_X9_228 {Rm : Room} {s : State} {args : Array Value} (ht : ∀ w ∈ GT, w.before args s = true) (hR : rmX9_above.frames + 1 ≤ Rm.frames ∧ 8 + (5 + 11) + rmX9_above.locals ≤ Rm.locals) : CallW Rm s args RX9 RX9 228 yX9_above cX9_above 5 (some .int) (Cond.code yX9_above cX9_above 5 (some .int) :: GT) rmX9_above 0 0 3 := cwV 3 ht (goodV wd740 wd741 wd742 wd607 wd743) rfl rfl rfl ⟨rfl, by decide +kernel, by decide +kernel, by decide +kernel⟩ hR
def f_X9_greatest_L3 (x1 : Int32) (x2 : Int32) (I : Mem) : Nat → Int32 → Option ((Int32) ⊕ (Unit))
  | 0, _ => none
  | n + 1, w3 =>
    if w3 < 0 then (
      some (.inr ())
    ) else (
      (f_X9_holds x1 x2 w3 I).bind fun q1 =>
      if q1 = 0 then (
        f_X9_greatest_L3 x1 x2 I n (w3 + (-1))
      ) else (
        some (.inl w3)
      )
    )
def f_X9_greatest (x1 : Int32) (x2 : Int32) (I : Mem) : Option (Int32) :=
  (f_X9_greatest_L3 x1 x2 I fuel 99).bind fun q2 =>
  sm q2 (fun r => some r) fun q3 =>
  some ((-2))
abbrev rmX9_greatest : Room := { frames := 3, cells := 0, slots := 0, locals := 70 }
set_option maxHeartbeats 4000000 in
set_option maxRecDepth 100000 in
theorem c_X9_greatest {l : Launch} {g : Gam} {I : Mem} {R : Rem} {P : Pool} {Z : Zed} (x1 : Int32) (x2 : Int32)  {z : Int32} (hf : f_X9_greatest x1 x2 I = some z) : Met l yX9_greatest (Cond.code yX9_greatest cX9_greatest 4 (some .int) :: GT) rmX9_greatest (va_Pc [.ref (g.2.2 + 70), .int x1, .int x2] (PW g I R P Z)) (QI g z I R P Z) 0 0 (AA g) := by
  refine aw_ofW (lv0 := [(0, .ref (g.2.2 + 70)), (1, .int x1), (2, .int x2)]) (by decide) (by exact Nat.le_of_ble_eq_true rfl) (by rfl) (fun p0 e s m args below meth c ls C0 hl hW => ?_)
  have C0 : CX g p0 s m args meth c RX9 cX9_greatest 4 (some .int) := C0
  have hx := C0.1; have hb := C0.2.1; have hown := C0.2.2.2.2.1; have hts := C0.2.2.2.2.2.1; have hKS := C0.2.2.2.2.2.2.1
  have L3 : ∀ (I : Mem) (n : Nat) (w3 : Int32) (H : Heap) (locs : List Loc) (ls : Array Slot) (o : (Int32) ⊕ (Unit)), f_X9_greatest_L3 x1 x2 I n w3 = some o → Wd g I R P Z s.heap H locs → lv_has ls 4 [(0, .ref (g.2.2 + 70)), (1, .int x1), (2, .int x2), (3, .int w3)] → (∀ q, o = .inr q → ∀ (H : Heap) (locs : List Loc) (ls : Array Slot), Wd g I R P Z s.heap H locs → lv_has ls 4 [] → W p0 l e rmX9_greatest s m args below meth c H locs 0 0 (MQ below (QI g z I R P Z) args s 0 0 (AA g)) (F0 m 25 ls [])) → (∀ r, o = .inl r → r = z) → W p0 l e rmX9_greatest s m args below meth c H locs 0 0 (MQ below (QI g z I R P Z) args s 0 0 (AA g)) (F0 m 3 ls []) := by
    intro I n
    induction n with
    | zero => intro w3 H locs ls o hf; cases hf
    | succ n ih =>
      intro w3 H locs ls o hf hW hl hK hZ
      rw [f_X9_greatest_L3] at hf
      refine lv_iload_n hx hb dX9_greatest_3 rfl (lv_at hl 3 rfl) ?_
      refine lv_if_lt (tgt := 25) hx hb dX9_greatest_4 rfl (fun hc => ?_) (fun hc => ?_)
      · have hf := ift hc hf
        have ho := Option.some.inj hf
        subst ho
        exact hK _ rfl H locs ls hW (lv_sub hl [] rfl)
      · have hf := iff_ hc hf
        refine lv_aload_n hx hb dX9_greatest_7 rfl (lv_at hl 0 rfl) ?_
        refine lv_iload_n hx hb dX9_greatest_8 rfl (lv_at hl 1 rfl) ?_
        refine lv_iload_n hx hb dX9_greatest_9 rfl (lv_at hl 2 rfl) ?_
        refine lv_iload_n hx hb dX9_greatest_10 rfl (lv_at hl 3 rfl) ?_
        obtain ⟨q1, hq1, hf⟩ := bnd hf
        refine aw_cVi (rest := []) C0 hW (lv_fix (by decide)) (cel_8 kd70) rfl (c_X9_holds x1 x2 w3  hq1) (cw_X9_225 hts ⟨Nat.le_of_ble_eq_true rfl, Nat.le_of_ble_eq_true rfl⟩) rfl hl.1 rfl (Nat.le_of_ble_eq_true rfl) ⟨Nat.zero_le _, Nat.zero_le _⟩ dX9_greatest_11 (fun H locs hW => ?_)
        refine lv_if_eq (tgt := 19) hx hb dX9_greatest_14 rfl (fun hc => ?_) (fun hc => ?_)
        · have hf := ift hc hf
          refine lv_iinc (k := 3) (v := w3 + (-1)) (lv' := [(3, .int (w3 + (-1))), (0, .ref (g.2.2 + 70)), (1, .int x1), (2, .int x2)]) hx hb dX9_greatest_19 hl rfl (congrArg (fun t => w3 + t) (by decide : Int32.ofInt (-1) = (-1))) (Nat.le_of_ble_eq_true rfl) rfl (fun ls hl => ?_)
          refine lv_goto (tgt := 3) hx hb dX9_greatest_22 rfl ?_
          exact ih _ H locs ls o hf hW (lv_sub hl [1, 2, 3, 0] rfl) hK hZ
        · have hf := iff_ hc hf
          refine lv_iload_n hx hb dX9_greatest_17 rfl (lv_at hl 3 rfl) ?_
          have hz := hZ _ (Option.some.inj hf).symm
          exact aw_iret C0 hW hz rfl rfl dX9_greatest_18
  unfold f_X9_greatest at hf
  obtain ⟨H, hH⟩ : ∃ H, H = s.heap := ⟨_, rfl⟩
  obtain ⟨locs, hlc⟩ : ∃ q : List Loc, q = [] := ⟨_, rfl⟩
  rw [show W p0 l e rmX9_greatest s m args below meth c s.heap [] 0 0 (MQ below (QI g z I R P Z) args s 0 0 (AA g)) (F0 m 0 ls []) = W p0 l e rmX9_greatest s m args below meth c H locs 0 0 (MQ below (QI g z I R P Z) args s 0 0 (AA g)) (F0 m 0 ls []) by rw [hH, hlc]]
  have hW : Wd g I R P Z s.heap H locs := by rw [hH, hlc]; exact hW
  refine lv_bipush (v := 99) hx hb dX9_greatest_0 (by decide) ?_
  refine lv_istore_n (lv' := [(3, .int 99), (0, .ref (g.2.2 + 70)), (1, .int x1), (2, .int x2)]) hx hb dX9_greatest_2 rfl hl (Nat.le_of_ble_eq_true rfl) rfl (fun ls hl => ?_)
  obtain ⟨q2, hq2, hf⟩ := bnd hf
  refine L3 I fuel 99 H locs ls _ hq2 hW (lv_sub hl [1, 2, 3, 0] rfl) (fun q3 eq3 H locs ls hW hl => ?_) (fun r er => ?_)
  rotate_left
  · rw [er] at hf
    exact Option.some.inj hf
  rw [eq3] at hf
  have hf := (sm_re hf)
  refine lv_bipush (v := (-2)) hx hb dX9_greatest_25 (by decide) ?_
  have hz := Option.some.inj hf
  exact aw_iret C0 hW hz rfl rfl dX9_greatest_27
theorem cw_X9_237 {Rm : Room} {s : State} {args : Array Value} (ht : ∀ w ∈ GT, w.before args s = true) (hR : rmX9_greatest.frames + 1 ≤ Rm.frames ∧ 8 + (4 + 11) + rmX9_greatest.locals ≤ Rm.locals) : CallW Rm s args RX9 RX9 237 yX9_greatest cX9_greatest 4 (some .int) (Cond.code yX9_greatest cX9_greatest 4 (some .int) :: GT) rmX9_greatest 0 0 2 := cwV 2 ht (goodV wd752 wd753 wd754 wd607 wd755) rfl rfl rfl ⟨rfl, by decide +kernel, by decide +kernel, by decide +kernel⟩ hR
def f_X9_unlike_L11 (x1 : Int32) (x2 : Int32) (I : Mem) : Nat → Int32 → Int32 → Option (Int32)
  | 0, _, _ => none
  | n + 1, w3, w4 =>
    if w4 = ((-2)) then (
      some w3
    ) else (
      (f_X9_above x1 x2 w4 I).bind fun q2 =>
      f_X9_unlike_L11 x1 x2 I n (w3 + 1) q2
    )
def f_X9_unlike (x1 : Int32) (x2 : Int32) (I : Mem) : Option (Int32) :=
  (f_X9_above x1 x2 ((-1)) I).bind fun q1 =>
  (f_X9_unlike_L11 x1 x2 I fuel 0 q1).bind fun q3 =>
  some q3
abbrev rmX9_unlike : Room := { frames := 4, cells := 0, slots := 0, locals := 94 }
set_option maxHeartbeats 4000000 in
set_option maxRecDepth 100000 in
theorem c_X9_unlike {l : Launch} {g : Gam} {I : Mem} {R : Rem} {P : Pool} {Z : Zed} (x1 : Int32) (x2 : Int32)  {z : Int32} (hf : f_X9_unlike x1 x2 I = some z) : Met l yX9_unlike (Cond.code yX9_unlike cX9_unlike 5 (some .int) :: GT) rmX9_unlike (va_Pc [.ref (g.2.2 + 70), .int x1, .int x2] (PW g I R P Z)) (QI g z I R P Z) 0 0 (AA g) := by
  refine aw_ofW (lv0 := [(0, .ref (g.2.2 + 70)), (1, .int x1), (2, .int x2)]) (by decide) (by exact Nat.le_of_ble_eq_true rfl) (by rfl) (fun p0 e s m args below meth c ls C0 hl hW => ?_)
  have C0 : CX g p0 s m args meth c RX9 cX9_unlike 5 (some .int) := C0
  have hx := C0.1; have hb := C0.2.1; have hown := C0.2.2.2.2.1; have hts := C0.2.2.2.2.2.1; have hKS := C0.2.2.2.2.2.2.1
  have L11 : ∀ (I : Mem) (n : Nat) (w3 : Int32) (w4 : Int32) (H : Heap) (locs : List Loc) (ls : Array Slot) (o : Int32), f_X9_unlike_L11 x1 x2 I n w3 w4 = some o → Wd g I R P Z s.heap H locs → lv_has ls 5 [(0, .ref (g.2.2 + 70)), (1, .int x1), (2, .int x2), (3, .int w3), (4, .int w4)] → (∀ (H : Heap) (locs : List Loc) (ls : Array Slot), Wd g I R P Z s.heap H locs → lv_has ls 5 [(3, .int o)] → W p0 l e rmX9_unlike s m args below meth c H locs 0 0 (MQ below (QI g z I R P Z) args s 0 0 (AA g)) (F0 m 34 ls [])) → W p0 l e rmX9_unlike s m args below meth c H locs 0 0 (MQ below (QI g z I R P Z) args s 0 0 (AA g)) (F0 m 11 ls []) := by
    intro I n
    induction n with
    | zero => intro w3 w4 H locs ls o hf; cases hf
    | succ n ih =>
      intro w3 w4 H locs ls o hf hW hl hK
      rw [f_X9_unlike_L11] at hf
      refine lv_iload hx hb dX9_unlike_11 (lv_at hl 4 rfl) ?_
      refine lv_bipush (v := (-2)) hx hb dX9_unlike_13 (by decide) ?_
      refine lv_icmp_eq (tgt := 34) hx hb dX9_unlike_15 rfl (fun hc => ?_) (fun hc => ?_)
      · have hf := ift hc hf
        have ho := Option.some.inj hf
        subst ho
        exact hK H locs ls hW (lv_sub hl [3] rfl)
      · have hf := iff_ hc hf
        refine lv_iinc (k := 3) (v := w3 + 1) (lv' := [(3, .int (w3 + 1)), (0, .ref (g.2.2 + 70)), (1, .int x1), (2, .int x2), (4, .int w4)]) hx hb dX9_unlike_18 hl rfl (congrArg (fun t => w3 + t) (by decide : Int32.ofInt 1 = 1)) (Nat.le_of_ble_eq_true rfl) rfl (fun ls hl => ?_)
        refine lv_aload_n hx hb dX9_unlike_21 rfl (lv_at hl 1 rfl) ?_
        refine lv_iload_n hx hb dX9_unlike_22 rfl (lv_at hl 2 rfl) ?_
        refine lv_iload_n hx hb dX9_unlike_23 rfl (lv_at hl 3 rfl) ?_
        refine lv_iload hx hb dX9_unlike_24 (lv_at hl 4 rfl) ?_
        obtain ⟨q2, hq2, hf⟩ := bnd hf
        refine aw_cVi (rest := []) C0 hW (lv_fix (by decide)) (cel_8 kd70) rfl (c_X9_above x1 x2 w4  hq2) (cw_X9_228 hts ⟨Nat.le_of_ble_eq_true rfl, Nat.le_of_ble_eq_true rfl⟩) rfl hl.1 rfl (Nat.le_of_ble_eq_true rfl) ⟨Nat.zero_le _, Nat.zero_le _⟩ dX9_unlike_26 (fun H locs hW => ?_)
        refine lv_istore (lv' := [(4, .int q2), (3, .int (w3 + 1)), (0, .ref (g.2.2 + 70)), (1, .int x1), (2, .int x2)]) hx hb dX9_unlike_29 hl (Nat.le_of_ble_eq_true rfl) rfl (fun ls hl => ?_)
        refine lv_goto (tgt := 11) hx hb dX9_unlike_31 rfl ?_
        exact ih _ _ H locs ls o hf hW (lv_sub hl [2, 3, 4, 1, 0] rfl) hK
  unfold f_X9_unlike at hf
  obtain ⟨H, hH⟩ : ∃ H, H = s.heap := ⟨_, rfl⟩
  obtain ⟨locs, hlc⟩ : ∃ q : List Loc, q = [] := ⟨_, rfl⟩
  rw [show W p0 l e rmX9_unlike s m args below meth c s.heap [] 0 0 (MQ below (QI g z I R P Z) args s 0 0 (AA g)) (F0 m 0 ls []) = W p0 l e rmX9_unlike s m args below meth c H locs 0 0 (MQ below (QI g z I R P Z) args s 0 0 (AA g)) (F0 m 0 ls []) by rw [hH, hlc]]
  have hW : Wd g I R P Z s.heap H locs := by rw [hH, hlc]; exact hW
  refine lv_iconst (v := 0) hx hb dX9_unlike_0 (by decide) ?_
  refine lv_istore_n (lv' := [(3, .int 0), (0, .ref (g.2.2 + 70)), (1, .int x1), (2, .int x2)]) hx hb dX9_unlike_1 rfl hl (Nat.le_of_ble_eq_true rfl) rfl (fun ls hl => ?_)
  refine lv_aload_n hx hb dX9_unlike_2 rfl (lv_at hl 1 rfl) ?_
  refine lv_iload_n hx hb dX9_unlike_3 rfl (lv_at hl 2 rfl) ?_
  refine lv_iload_n hx hb dX9_unlike_4 rfl (lv_at hl 3 rfl) ?_
  refine lv_iconst (v := (-1)) hx hb dX9_unlike_5 (by decide) ?_
  obtain ⟨q1, hq1, hf⟩ := bnd hf
  refine aw_cVi (rest := []) C0 hW (lv_fix (by decide)) (cel_8 kd70) rfl (c_X9_above x1 x2 ((-1))  hq1) (cw_X9_228 hts ⟨Nat.le_of_ble_eq_true rfl, Nat.le_of_ble_eq_true rfl⟩) rfl hl.1 rfl (Nat.le_of_ble_eq_true rfl) ⟨Nat.zero_le _, Nat.zero_le _⟩ dX9_unlike_6 (fun H locs hW => ?_)
  refine lv_istore (lv' := [(4, .int q1), (3, .int 0), (0, .ref (g.2.2 + 70)), (1, .int x1), (2, .int x2)]) hx hb dX9_unlike_9 hl (Nat.le_of_ble_eq_true rfl) rfl (fun ls hl => ?_)
  obtain ⟨q3, hq3, hf⟩ := bnd hf
  refine L11 I fuel 0 q1 H locs ls _ hq3 hW (lv_sub hl [2, 3, 4, 1, 0] rfl) (fun H locs ls hW hl => ?_)
  refine lv_iload_n hx hb dX9_unlike_34 rfl (lv_at hl 0 rfl) ?_
  have hz := Option.some.inj hf
  exact aw_iret C0 hW hz rfl rfl dX9_unlike_35
theorem cw_X9_240 {Rm : Room} {s : State} {args : Array Value} (ht : ∀ w ∈ GT, w.before args s = true) (hR : rmX9_unlike.frames + 1 ≤ Rm.frames ∧ 8 + (5 + 11) + rmX9_unlike.locals ≤ Rm.locals) : CallW Rm s args RX9 RX9 240 yX9_unlike cX9_unlike 5 (some .int) (Cond.code yX9_unlike cX9_unlike 5 (some .int) :: GT) rmX9_unlike 0 0 2 := cwV 2 ht (goodV wd756 wd757 wd758 wd607 wd759) rfl rfl rfl ⟨rfl, by decide +kernel, by decide +kernel, by decide +kernel⟩ hR
def f_X9_aboutColumn (x1 : Int32) (x2 : Int32) (x3 : Int32) (I : Mem) : Option (Int32) :=
  (f_X9_known x1 x2 I).bind fun q1 =>
  if x3 = 0 then (
    some q1
  ) else (
  if x3 = 1 then (
    (f_X9_many x1 I).bind fun q2 =>
    some (q2 - q1)
  ) else (
  if x3 = 2 then (
    (f_X9_sum x1 x2 ((-1)) I).bind fun q3 =>
    some q3
  ) else (
  if x3 = 3 then (
    (f_X9_above x1 x2 ((-1)) I).bind fun q4 =>
    some q4
  ) else (
  if x3 = 4 then (
    (f_X9_greatest x1 x2 I).bind fun q5 =>
    some q5
  ) else (
  if x3 = 5 then (
    (f_X9_unlike x1 x2 I).bind fun q6 =>
    some q6
  ) else (
    if q1 = 0 then (
      some ((-2))
    ) else (
      (f_X9_sum x1 x2 ((-1)) I).bind fun q7 =>
      if q1 = 0 then none else
      some (q7 / q1)
    )
  ))))))
abbrev rmX9_aboutColumn : Room := { frames := 5, cells := 0, slots := 0, locals := 118 }
set_option maxHeartbeats 4000000 in
set_option maxRecDepth 100000 in
theorem c_X9_aboutColumn {l : Launch} {g : Gam} {I : Mem} {R : Rem} {P : Pool} {Z : Zed} (x1 : Int32) (x2 : Int32) (x3 : Int32)  {z : Int32} (hf : f_X9_aboutColumn x1 x2 x3 I = some z) : Met l yX9_aboutColumn (Cond.code yX9_aboutColumn cX9_aboutColumn 5 (some .int) :: GT) rmX9_aboutColumn (va_Pc [.ref (g.2.2 + 70), .int x1, .int x2, .int x3] (PW g I R P Z)) (QI g z I R P Z) 0 0 (AA g) := by
  refine aw_ofW (lv0 := [(0, .ref (g.2.2 + 70)), (1, .int x1), (2, .int x2), (3, .int x3)]) (by decide) (by exact Nat.le_of_ble_eq_true rfl) (by rfl) (fun p0 e s m args below meth c ls C0 hl hW => ?_)
  have C0 : CX g p0 s m args meth c RX9 cX9_aboutColumn 5 (some .int) := C0
  have hx := C0.1; have hb := C0.2.1; have hown := C0.2.2.2.2.1; have hts := C0.2.2.2.2.2.1; have hKS := C0.2.2.2.2.2.2.1
  unfold f_X9_aboutColumn at hf
  obtain ⟨H, hH⟩ : ∃ H, H = s.heap := ⟨_, rfl⟩
  obtain ⟨locs, hlc⟩ : ∃ q : List Loc, q = [] := ⟨_, rfl⟩
  rw [show W p0 l e rmX9_aboutColumn s m args below meth c s.heap [] 0 0 (MQ below (QI g z I R P Z) args s 0 0 (AA g)) (F0 m 0 ls []) = W p0 l e rmX9_aboutColumn s m args below meth c H locs 0 0 (MQ below (QI g z I R P Z) args s 0 0 (AA g)) (F0 m 0 ls []) by rw [hH, hlc]]
  have hW : Wd g I R P Z s.heap H locs := by rw [hH, hlc]; exact hW
  refine lv_aload_n hx hb dX9_aboutColumn_0 rfl (lv_at hl 0 rfl) ?_
  refine lv_iload_n hx hb dX9_aboutColumn_1 rfl (lv_at hl 1 rfl) ?_
  refine lv_iload_n hx hb dX9_aboutColumn_2 rfl (lv_at hl 2 rfl) ?_
  obtain ⟨q1, hq1, hf⟩ := bnd hf
  refine aw_cVi (rest := []) C0 hW (lv_fix (by decide)) (cel_8 kd70) rfl (c_X9_known x1 x2  hq1) (cw_X9_231 hts ⟨Nat.le_of_ble_eq_true rfl, Nat.le_of_ble_eq_true rfl⟩) rfl hl.1 rfl (Nat.le_of_ble_eq_true rfl) ⟨Nat.zero_le _, Nat.zero_le _⟩ dX9_aboutColumn_3 (fun H locs hW => ?_)
  refine lv_istore (lv' := [(4, .int q1), (0, .ref (g.2.2 + 70)), (1, .int x1), (2, .int x2), (3, .int x3)]) hx hb dX9_aboutColumn_6 hl (Nat.le_of_ble_eq_true rfl) rfl (fun ls hl => ?_)
  refine lv_iload_n hx hb dX9_aboutColumn_8 rfl (lv_at hl 4 rfl) ?_
  by_cases hs1 : x3 = 0
  · have hf := ift hs1 hf
    refine lv_tableIn (off := 39) (tgt := 48) hx hb dX9_aboutColumn_9 (by rw [hs1]; decide) (by rw [hs1]; decide) (by rw [hs1]; decide) rfl ?_
    refine lv_iload hx hb dX9_aboutColumn_48 (lv_at hl 0 rfl) ?_
    have hz := Option.some.inj hf
    exact aw_iret C0 hW hz rfl rfl dX9_aboutColumn_50
  have hf := iff_ hs1 hf
  by_cases hs2 : x3 = 1
  · have hf := ift hs2 hf
    refine lv_tableIn (off := 42) (tgt := 51) hx hb dX9_aboutColumn_9 (by rw [hs2]; decide) (by rw [hs2]; decide) (by rw [hs2]; decide) rfl ?_
    refine lv_aload_n hx hb dX9_aboutColumn_51 rfl (lv_at hl 1 rfl) ?_
    refine lv_iload_n hx hb dX9_aboutColumn_52 rfl (lv_at hl 2 rfl) ?_
    obtain ⟨q2, hq2, hf⟩ := bnd hf
    refine aw_cVi (rest := []) C0 hW (lv_fix (by decide)) (cel_8 kd70) rfl (c_X9_many x1  hq2) (cw_X9_70 hts ⟨Nat.le_of_ble_eq_true rfl, Nat.le_of_ble_eq_true rfl⟩) rfl hl.1 rfl (Nat.le_of_ble_eq_true rfl) ⟨Nat.zero_le _, Nat.zero_le _⟩ dX9_aboutColumn_53 (fun H locs hW => ?_)
    refine lv_iload hx hb dX9_aboutColumn_56 (lv_at hl 0 rfl) ?_
    refine lv_isub hx hb dX9_aboutColumn_58 ?_
    have hz := Option.some.inj hf
    exact aw_iret C0 hW hz rfl rfl dX9_aboutColumn_59
  have hf := iff_ hs2 hf
  by_cases hs3 : x3 = 2
  · have hf := ift hs3 hf
    refine lv_tableIn (off := 51) (tgt := 60) hx hb dX9_aboutColumn_9 (by rw [hs3]; decide) (by rw [hs3]; decide) (by rw [hs3]; decide) rfl ?_
    refine lv_aload_n hx hb dX9_aboutColumn_60 rfl (lv_at hl 1 rfl) ?_
    refine lv_iload_n hx hb dX9_aboutColumn_61 rfl (lv_at hl 2 rfl) ?_
    refine lv_iload_n hx hb dX9_aboutColumn_62 rfl (lv_at hl 3 rfl) ?_
    refine lv_iconst (v := (-1)) hx hb dX9_aboutColumn_63 (by decide) ?_
    obtain ⟨q3, hq3, hf⟩ := bnd hf
    refine aw_cVi (rest := []) C0 hW (lv_fix (by decide)) (cel_8 kd70) rfl (c_X9_sum x1 x2 ((-1))  hq3) (cw_X9_234 hts ⟨Nat.le_of_ble_eq_true rfl, Nat.le_of_ble_eq_true rfl⟩) rfl hl.1 rfl (Nat.le_of_ble_eq_true rfl) ⟨Nat.zero_le _, Nat.zero_le _⟩ dX9_aboutColumn_64 (fun H locs hW => ?_)
    have hz := Option.some.inj hf
    exact aw_iret C0 hW hz rfl rfl dX9_aboutColumn_67
  have hf := iff_ hs3 hf
  by_cases hs4 : x3 = 3
  · have hf := ift hs4 hf
    refine lv_tableIn (off := 59) (tgt := 68) hx hb dX9_aboutColumn_9 (by rw [hs4]; decide) (by rw [hs4]; decide) (by rw [hs4]; decide) rfl ?_
    refine lv_aload_n hx hb dX9_aboutColumn_68 rfl (lv_at hl 1 rfl) ?_
    refine lv_iload_n hx hb dX9_aboutColumn_69 rfl (lv_at hl 2 rfl) ?_
    refine lv_iload_n hx hb dX9_aboutColumn_70 rfl (lv_at hl 3 rfl) ?_
    refine lv_iconst (v := (-1)) hx hb dX9_aboutColumn_71 (by decide) ?_
    obtain ⟨q4, hq4, hf⟩ := bnd hf
    refine aw_cVi (rest := []) C0 hW (lv_fix (by decide)) (cel_8 kd70) rfl (c_X9_above x1 x2 ((-1))  hq4) (cw_X9_228 hts ⟨Nat.le_of_ble_eq_true rfl, Nat.le_of_ble_eq_true rfl⟩) rfl hl.1 rfl (Nat.le_of_ble_eq_true rfl) ⟨Nat.zero_le _, Nat.zero_le _⟩ dX9_aboutColumn_72 (fun H locs hW => ?_)
    have hz := Option.some.inj hf
    exact aw_iret C0 hW hz rfl rfl dX9_aboutColumn_75
  have hf := iff_ hs4 hf
  by_cases hs5 : x3 = 4
  · have hf := ift hs5 hf
    refine lv_tableIn (off := 67) (tgt := 76) hx hb dX9_aboutColumn_9 (by rw [hs5]; decide) (by rw [hs5]; decide) (by rw [hs5]; decide) rfl ?_
    refine lv_aload_n hx hb dX9_aboutColumn_76 rfl (lv_at hl 1 rfl) ?_
    refine lv_iload_n hx hb dX9_aboutColumn_77 rfl (lv_at hl 2 rfl) ?_
    refine lv_iload_n hx hb dX9_aboutColumn_78 rfl (lv_at hl 3 rfl) ?_
    obtain ⟨q5, hq5, hf⟩ := bnd hf
    refine aw_cVi (rest := []) C0 hW (lv_fix (by decide)) (cel_8 kd70) rfl (c_X9_greatest x1 x2  hq5) (cw_X9_237 hts ⟨Nat.le_of_ble_eq_true rfl, Nat.le_of_ble_eq_true rfl⟩) rfl hl.1 rfl (Nat.le_of_ble_eq_true rfl) ⟨Nat.zero_le _, Nat.zero_le _⟩ dX9_aboutColumn_79 (fun H locs hW => ?_)
    have hz := Option.some.inj hf
    exact aw_iret C0 hW hz rfl rfl dX9_aboutColumn_82
  have hf := iff_ hs5 hf
  by_cases hs6 : x3 = 5
  · have hf := ift hs6 hf
    refine lv_tableIn (off := 74) (tgt := 83) hx hb dX9_aboutColumn_9 (by rw [hs6]; decide) (by rw [hs6]; decide) (by rw [hs6]; decide) rfl ?_
    refine lv_aload_n hx hb dX9_aboutColumn_83 rfl (lv_at hl 1 rfl) ?_
    refine lv_iload_n hx hb dX9_aboutColumn_84 rfl (lv_at hl 2 rfl) ?_
    refine lv_iload_n hx hb dX9_aboutColumn_85 rfl (lv_at hl 3 rfl) ?_
    obtain ⟨q6, hq6, hf⟩ := bnd hf
    refine aw_cVi (rest := []) C0 hW (lv_fix (by decide)) (cel_8 kd70) rfl (c_X9_unlike x1 x2  hq6) (cw_X9_240 hts ⟨Nat.le_of_ble_eq_true rfl, Nat.le_of_ble_eq_true rfl⟩) rfl hl.1 rfl (Nat.le_of_ble_eq_true rfl) ⟨Nat.zero_le _, Nat.zero_le _⟩ dX9_aboutColumn_86 (fun H locs hW => ?_)
    have hz := Option.some.inj hf
    exact aw_iret C0 hW hz rfl rfl dX9_aboutColumn_89
  have hf := iff_ hs6 hf
  refine lv_tableOut (tgt := 90) hx hb dX9_aboutColumn_9 (by have zhs1 := i32_ne (n := 0) (by decide) hs1; have zhs2 := i32_ne (n := 1) (by decide) hs2; have zhs3 := i32_ne (n := 2) (by decide) hs3; have zhs4 := i32_ne (n := 3) (by decide) hs4; have zhs5 := i32_ne (n := 4) (by decide) hs5; have zhs6 := i32_ne (n := 5) (by decide) hs6; omega) rfl ?_
  refine lv_iload hx hb dX9_aboutColumn_90 (lv_at hl 0 rfl) ?_
  refine lv_if_ne (tgt := 100) hx hb dX9_aboutColumn_92 rfl (fun hc => ?_) (fun hc => ?_)
  · have hf := iff_ hc hf
    refine lv_aload_n hx hb dX9_aboutColumn_100 rfl (lv_at hl 1 rfl) ?_
    refine lv_iload_n hx hb dX9_aboutColumn_101 rfl (lv_at hl 2 rfl) ?_
    refine lv_iload_n hx hb dX9_aboutColumn_102 rfl (lv_at hl 3 rfl) ?_
    refine lv_iconst (v := (-1)) hx hb dX9_aboutColumn_103 (by decide) ?_
    obtain ⟨q7, hq7, hf⟩ := bnd hf
    refine aw_cVi (rest := []) C0 hW (lv_fix (by decide)) (cel_8 kd70) rfl (c_X9_sum x1 x2 ((-1))  hq7) (cw_X9_234 hts ⟨Nat.le_of_ble_eq_true rfl, Nat.le_of_ble_eq_true rfl⟩) rfl hl.1 rfl (Nat.le_of_ble_eq_true rfl) ⟨Nat.zero_le _, Nat.zero_le _⟩ dX9_aboutColumn_104 (fun H locs hW => ?_)
    refine lv_iload hx hb dX9_aboutColumn_107 (lv_at hl 0 rfl) ?_
    obtain ⟨hd0, hf⟩ := ifz hf
    refine lv_idiv hx hb dX9_aboutColumn_109 hd0 ?_
    have hz := Option.some.inj hf
    exact aw_iret C0 hW hz rfl rfl dX9_aboutColumn_110
  · have hf := ift hc hf
    refine lv_bipush (v := (-2)) hx hb dX9_aboutColumn_95 (by decide) ?_
    refine lv_goto (tgt := 110) hx hb dX9_aboutColumn_97 rfl ?_
    have hz := Option.some.inj hf
    exact aw_iret C0 hW hz rfl rfl dX9_aboutColumn_110
theorem cw_X9_243 {Rm : Room} {s : State} {args : Array Value} (ht : ∀ w ∈ GT, w.before args s = true) (hR : rmX9_aboutColumn.frames + 1 ≤ Rm.frames ∧ 8 + (5 + 11) + rmX9_aboutColumn.locals ≤ Rm.locals) : CallW Rm s args RX9 RX9 243 yX9_aboutColumn cX9_aboutColumn 5 (some .int) (Cond.code yX9_aboutColumn cX9_aboutColumn 5 (some .int) :: GT) rmX9_aboutColumn 0 0 3 := cwV 3 ht (goodV wd760 wd761 wd762 wd607 wd763) rfl rfl rfl ⟨rfl, by decide +kernel, by decide +kernel, by decide +kernel⟩ hR
def f_X9_parts (x1 : Int32) (I : Mem) : Option (Int32) :=
  (rd I 71 619 (130 + (61 * x1))).bind fun v1 =>
  some v1
abbrev rmX9_parts : Room := { frames := 0, cells := 0, slots := 0, locals := 0 }
set_option maxHeartbeats 4000000 in
set_option maxRecDepth 100000 in
theorem c_X9_parts {l : Launch} {g : Gam} {I : Mem} {R : Rem} {P : Pool} {Z : Zed} (x1 : Int32)  {z : Int32} (hf : f_X9_parts x1 I = some z) : Met l yX9_parts (Cond.code yX9_parts cX9_parts 2 (some .int) :: GT) rmX9_parts (va_Pc [.ref (g.2.2 + 70), .int x1] (PW g I R P Z)) (QI g z I R P Z) 0 0 (AA g) := by
  refine aw_ofW (lv0 := [(0, .ref (g.2.2 + 70)), (1, .int x1)]) (by decide) (by exact Nat.le_of_ble_eq_true rfl) (by rfl) (fun p0 e s m args below meth c ls C0 hl hW => ?_)
  have C0 : CX g p0 s m args meth c RX9 cX9_parts 2 (some .int) := C0
  have hx := C0.1; have hb := C0.2.1; have hown := C0.2.2.2.2.1; have hts := C0.2.2.2.2.2.1; have hKS := C0.2.2.2.2.2.2.1
  unfold f_X9_parts at hf
  obtain ⟨H, hH⟩ : ∃ H, H = s.heap := ⟨_, rfl⟩
  obtain ⟨locs, hlc⟩ : ∃ q : List Loc, q = [] := ⟨_, rfl⟩
  rw [show W p0 l e rmX9_parts s m args below meth c s.heap [] 0 0 (MQ below (QI g z I R P Z) args s 0 0 (AA g)) (F0 m 0 ls []) = W p0 l e rmX9_parts s m args below meth c H locs 0 0 (MQ below (QI g z I R P Z) args s 0 0 (AA g)) (F0 m 0 ls []) by rw [hH, hlc]]
  have hW : Wd g I R P Z s.heap H locs := by rw [hH, hlc]; exact hW
  refine lv_aload_n hx hb dX9_parts_0 rfl (lv_at hl 0 rfl) ?_
  refine aw_get (v := .ref (g.2.2 + 71)) C0 hW (lv_fix (by decide)) (cel_8 kd70) rfl inG8 0 (by decide) wd73 rfl rfl dX9_parts_1 ?_
  refine lv_sipush (v := 130) hx hb dX9_parts_4 (by decide) ?_
  refine lv_bipush (v := 61) hx hb dX9_parts_7 (by decide) ?_
  refine lv_iload_n hx hb dX9_parts_9 rfl (lv_at hl 1 rfl) ?_
  refine lv_imul hx hb dX9_parts_10 ?_
  refine lv_iadd hx hb dX9_parts_11 ?_
  obtain ⟨v1, hv1, hf⟩ := bnd hf
  refine aw_iald C0 hW kd71 ln71 hv1 dX9_parts_12 ?_
  have hz := Option.some.inj hf
  exact aw_iret C0 hW hz rfl rfl dX9_parts_13
theorem cw_X9_92 {Rm : Room} {s : State} {args : Array Value} (ht : ∀ w ∈ GT, w.before args s = true) (hR : rmX9_parts.frames + 1 ≤ Rm.frames ∧ 8 + (2 + 11) + rmX9_parts.locals ≤ Rm.locals) : CallW Rm s args RX9 RX9 92 yX9_parts cX9_parts 2 (some .int) (Cond.code yX9_parts cX9_parts 2 (some .int) :: GT) rmX9_parts 0 0 1 := cwV 1 ht (goodV wd884 wd885 wd886 wd607 wd887) rfl rfl rfl ⟨rfl, by decide +kernel, by decide +kernel, by decide +kernel⟩ hR
def f_X9_part (x1 : Int32) (x2 : Int32) (I : Mem) : Option (Int32) :=
  (rd I 71 619 (((130 + (61 * x1)) + 1) + x2)).bind fun v1 =>
  some v1
abbrev rmX9_part : Room := { frames := 0, cells := 0, slots := 0, locals := 0 }
set_option maxHeartbeats 4000000 in
set_option maxRecDepth 100000 in
theorem c_X9_part {l : Launch} {g : Gam} {I : Mem} {R : Rem} {P : Pool} {Z : Zed} (x1 : Int32) (x2 : Int32)  {z : Int32} (hf : f_X9_part x1 x2 I = some z) : Met l yX9_part (Cond.code yX9_part cX9_part 3 (some .int) :: GT) rmX9_part (va_Pc [.ref (g.2.2 + 70), .int x1, .int x2] (PW g I R P Z)) (QI g z I R P Z) 0 0 (AA g) := by
  refine aw_ofW (lv0 := [(0, .ref (g.2.2 + 70)), (1, .int x1), (2, .int x2)]) (by decide) (by exact Nat.le_of_ble_eq_true rfl) (by rfl) (fun p0 e s m args below meth c ls C0 hl hW => ?_)
  have C0 : CX g p0 s m args meth c RX9 cX9_part 3 (some .int) := C0
  have hx := C0.1; have hb := C0.2.1; have hown := C0.2.2.2.2.1; have hts := C0.2.2.2.2.2.1; have hKS := C0.2.2.2.2.2.2.1
  unfold f_X9_part at hf
  obtain ⟨H, hH⟩ : ∃ H, H = s.heap := ⟨_, rfl⟩
  obtain ⟨locs, hlc⟩ : ∃ q : List Loc, q = [] := ⟨_, rfl⟩
  rw [show W p0 l e rmX9_part s m args below meth c s.heap [] 0 0 (MQ below (QI g z I R P Z) args s 0 0 (AA g)) (F0 m 0 ls []) = W p0 l e rmX9_part s m args below meth c H locs 0 0 (MQ below (QI g z I R P Z) args s 0 0 (AA g)) (F0 m 0 ls []) by rw [hH, hlc]]
  have hW : Wd g I R P Z s.heap H locs := by rw [hH, hlc]; exact hW
  refine lv_aload_n hx hb dX9_part_0 rfl (lv_at hl 0 rfl) ?_
  refine aw_get (v := .ref (g.2.2 + 71)) C0 hW (lv_fix (by decide)) (cel_8 kd70) rfl inG8 0 (by decide) wd73 rfl rfl dX9_part_1 ?_
  refine lv_sipush (v := 130) hx hb dX9_part_4 (by decide) ?_
  refine lv_bipush (v := 61) hx hb dX9_part_7 (by decide) ?_
  refine lv_iload_n hx hb dX9_part_9 rfl (lv_at hl 1 rfl) ?_
  refine lv_imul hx hb dX9_part_10 ?_
  refine lv_iadd hx hb dX9_part_11 ?_
  refine lv_iconst (v := 1) hx hb dX9_part_12 (by decide) ?_
  refine lv_iadd hx hb dX9_part_13 ?_
  refine lv_iload_n hx hb dX9_part_14 rfl (lv_at hl 2 rfl) ?_
  refine lv_iadd hx hb dX9_part_15 ?_
  obtain ⟨v1, hv1, hf⟩ := bnd hf
  refine aw_iald C0 hW kd71 ln71 hv1 dX9_part_16 ?_
  have hz := Option.some.inj hf
  exact aw_iret C0 hW hz rfl rfl dX9_part_17
theorem cw_X9_95 {Rm : Room} {s : State} {args : Array Value} (ht : ∀ w ∈ GT, w.before args s = true) (hR : rmX9_part.frames + 1 ≤ Rm.frames ∧ 8 + (3 + 11) + rmX9_part.locals ≤ Rm.locals) : CallW Rm s args RX9 RX9 95 yX9_part cX9_part 3 (some .int) (Cond.code yX9_part cX9_part 3 (some .int) :: GT) rmX9_part 0 0 2 := cwV 2 ht (goodV wd888 wd889 wd890 wd607 wd891) rfl rfl rfl ⟨rfl, by decide +kernel, by decide +kernel, by decide +kernel⟩ hR
def f_X9_isTest (x0 : Int32) : Option (Int32) :=
  if x0 < 4 then (
    some 0
  ) else (
    some 1
  )
abbrev rmX9_isTest : Room := { frames := 0, cells := 0, slots := 0, locals := 0 }
set_option maxHeartbeats 4000000 in
set_option maxRecDepth 100000 in
theorem c_X9_isTest {l : Launch} {g : Gam} {I : Mem} {R : Rem} {P : Pool} {Z : Zed} (x0 : Int32)  {z : Int32} (hf : f_X9_isTest x0 = some z) : Met l yX9_isTest (Cond.code yX9_isTest cX9_isTest 1 (some .boolean) :: GT) rmX9_isTest (va_Pc [.int x0] (PW g I R P Z)) (QI g z I R P Z) 0 0 (AA g) := by
  refine aw_ofW (lv0 := [(0, .int x0)]) (by decide) (by exact Nat.le_of_ble_eq_true rfl) (by rfl) (fun p0 e s m args below meth c ls C0 hl hW => ?_)
  have C0 : CX g p0 s m args meth c RX9 cX9_isTest 1 (some .boolean) := C0
  have hx := C0.1; have hb := C0.2.1; have hown := C0.2.2.2.2.1; have hts := C0.2.2.2.2.2.1; have hKS := C0.2.2.2.2.2.2.1
  unfold f_X9_isTest at hf
  obtain ⟨H, hH⟩ : ∃ H, H = s.heap := ⟨_, rfl⟩
  obtain ⟨locs, hlc⟩ : ∃ q : List Loc, q = [] := ⟨_, rfl⟩
  rw [show W p0 l e rmX9_isTest s m args below meth c s.heap [] 0 0 (MQ below (QI g z I R P Z) args s 0 0 (AA g)) (F0 m 0 ls []) = W p0 l e rmX9_isTest s m args below meth c H locs 0 0 (MQ below (QI g z I R P Z) args s 0 0 (AA g)) (F0 m 0 ls []) by rw [hH, hlc]]
  have hW : Wd g I R P Z s.heap H locs := by rw [hH, hlc]; exact hW
  refine lv_iload_n hx hb dX9_isTest_0 rfl (lv_at hl 0 rfl) ?_
  refine lv_iconst (v := 4) hx hb dX9_isTest_1 (by decide) ?_
  refine lv_icmp_lt (tgt := 9) hx hb dX9_isTest_2 rfl (fun hc => ?_) (fun hc => ?_)
  · have hf := ift hc hf
    refine lv_iconst (v := 0) hx hb dX9_isTest_9 (by decide) ?_
    have hz := Option.some.inj hf
    exact aw_zret C0 hW rfl hz rfl rfl dX9_isTest_10
  · have hf := iff_ hc hf
    refine lv_iconst (v := 1) hx hb dX9_isTest_5 (by decide) ?_
    refine lv_goto (tgt := 10) hx hb dX9_isTest_6 rfl ?_
    have hz := Option.some.inj hf
    exact aw_zret C0 hW rfl hz rfl rfl dX9_isTest_10
theorem cw_X9_99 {Rm : Room} {s : State} {args : Array Value} (ht : ∀ w ∈ GT, w.before args s = true) (hR : rmX9_isTest.frames + 1 ≤ Rm.frames ∧ 8 + (1 + 11) + rmX9_isTest.locals ≤ Rm.locals) : CallB Rm s args RX9 99 yX9_isTest cX9_isTest 1 (some .boolean) (Cond.code yX9_isTest cX9_isTest 1 (some .boolean) :: GT) rmX9_isTest 0 0 1 ∧ (Cond.static yX9_isTest).before args s = true := va_cwS 1 ht (goodS wd892 wd893 wd607 wd894) rfl rfl rfl ⟨by decide +kernel, by decide +kernel, by decide +kernel⟩ hR
def f_X9_depth_L7 (x1 : Int32) : Nat → Int32 → Mem → Option (Mem)
  | 0, _, _ => none
  | n + 1, w2, I =>
    (f_X9_parts x1 I).bind fun q1 =>
    if q1 ≤ w2 then (
      some I
    ) else (
      (f_X9_part x1 w2 I).bind fun q2 =>
      (f_X9_isTest q2).bind fun q3 =>
      if q3 = 0 then (
        (rd I 78 60 ((I 70 11) - 1)).bind fun v4 =>
        ((
          if q2 = 0 then (
            some 0
          ) else (
            some 1
          )
        ) : Option (Int32)).bind fun q5 =>
        (rd (up I 70 11 ((I 70 11) - q5)) 78 60 (((up I 70 11 ((I 70 11) - q5)) 70 11) - 1)).bind fun v6 =>
        if v6 ≤ v4 then (
          (wr (up I 70 11 ((I 70 11) - q5)) 78 60 (((up I 70 11 ((I 70 11) - q5)) 70 11) - 1) (1 + v4)).bind fun I7 =>
          f_X9_depth_L7 x1 n (w2 + 1) I7
        ) else (
          (wr (up I 70 11 ((I 70 11) - q5)) 78 60 (((up I 70 11 ((I 70 11) - q5)) 70 11) - 1) (1 + v6)).bind fun I8 =>
          f_X9_depth_L7 x1 n (w2 + 1) I8
        )
      ) else (
        (wr I 78 60 (I 70 11) 1).bind fun I9 =>
        f_X9_depth_L7 x1 n (w2 + 1) ((up I9 70 11 ((I9 70 11) + 1)))
      )
    )
def f_X9_depth (x1 : Int32) (I : Mem) : Option (Int32 × Mem) :=
  (f_X9_depth_L7 x1 fuel 0 ((up I 70 11 0))).bind fun q10 =>
  (rd q10 78 60 0).bind fun v11 =>
  some (v11, q10)
abbrev rmX9_depth : Room := { frames := 1, cells := 0, slots := 0, locals := 22 }
set_option maxHeartbeats 4000000 in
set_option maxRecDepth 100000 in
theorem c_X9_depth {l : Launch} {g : Gam} {I : Mem} {R : Rem} {P : Pool} {Z : Zed} (x1 : Int32)  {z : Int32 × Mem} (hf : f_X9_depth x1 I = some z) : Met l yX9_depth (Cond.code yX9_depth cX9_depth 6 (some .int) :: GT) rmX9_depth (va_Pc [.ref (g.2.2 + 70), .int x1] (PW g I R P Z)) (QI g z.1 z.2 R P Z) 0 0 (AA g) := by
  refine aw_ofW (lv0 := [(0, .ref (g.2.2 + 70)), (1, .int x1)]) (by decide) (by exact Nat.le_of_ble_eq_true rfl) (by rfl) (fun p0 e s m args below meth c ls C0 hl hW => ?_)
  have C0 : CX g p0 s m args meth c RX9 cX9_depth 6 (some .int) := C0
  have hx := C0.1; have hb := C0.2.1; have hown := C0.2.2.2.2.1; have hts := C0.2.2.2.2.2.1; have hKS := C0.2.2.2.2.2.2.1
  have L7 : ∀ (n : Nat) (w2 : Int32) (I : Mem) (H : Heap) (locs : List Loc) (ls : Array Slot) (o : Mem), f_X9_depth_L7 x1 n w2 I = some o → Wd g I R P Z s.heap H locs → lv_has ls 6 [(0, .ref (g.2.2 + 70)), (1, .int x1), (2, .int w2)] → (∀ (H : Heap) (locs : List Loc) (ls : Array Slot), Wd g o R P Z s.heap H locs → lv_has ls 6 [(0, .ref (g.2.2 + 70))] → W p0 l e rmX9_depth s m args below meth c H locs 0 0 (MQ below (QI g z.1 z.2 R P Z) args s 0 0 (AA g)) (F0 m 130 ls [])) → W p0 l e rmX9_depth s m args below meth c H locs 0 0 (MQ below (QI g z.1 z.2 R P Z) args s 0 0 (AA g)) (F0 m 7 ls []) := by
    intro n
    induction n with
    | zero => intro w2 I H locs ls o hf; cases hf
    | succ n ih =>
      intro w2 I H locs ls o hf hW hl hK
      rw [f_X9_depth_L7] at hf
      refine lv_iload_n hx hb dX9_depth_7 rfl (lv_at hl 2 rfl) ?_
      refine lv_aload_n hx hb dX9_depth_8 rfl (lv_at hl 0 rfl) ?_
      refine lv_iload_n hx hb dX9_depth_9 rfl (lv_at hl 1 rfl) ?_
      obtain ⟨q1, hq1, hf⟩ := bnd hf
      refine aw_cVi (rest := [.int w2]) C0 hW (lv_fix (by decide)) (cel_8 kd70) rfl (c_X9_parts x1  hq1) (cw_X9_92 hts ⟨Nat.le_of_ble_eq_true rfl, Nat.le_of_ble_eq_true rfl⟩) rfl hl.1 rfl (Nat.le_of_ble_eq_true rfl) ⟨Nat.zero_le _, Nat.zero_le _⟩ dX9_depth_10 (fun H locs hW => ?_)
      refine lv_icmp_ge (tgt := 130) hx hb dX9_depth_13 rfl (fun hc => ?_) (fun hc => ?_)
      · have hf := ift hc hf
        have ho := Option.some.inj hf
        subst ho
        exact hK H locs ls hW (lv_sub hl [0] rfl)
      · have hf := iff_ hc hf
        refine lv_aload_n hx hb dX9_depth_16 rfl (lv_at hl 0 rfl) ?_
        refine lv_iload_n hx hb dX9_depth_17 rfl (lv_at hl 1 rfl) ?_
        refine lv_iload_n hx hb dX9_depth_18 rfl (lv_at hl 2 rfl) ?_
        obtain ⟨q2, hq2, hf⟩ := bnd hf
        refine aw_cVi (rest := []) C0 hW (lv_fix (by decide)) (cel_8 kd70) rfl (c_X9_part x1 w2  hq2) (cw_X9_95 hts ⟨Nat.le_of_ble_eq_true rfl, Nat.le_of_ble_eq_true rfl⟩) rfl hl.1 rfl (Nat.le_of_ble_eq_true rfl) ⟨Nat.zero_le _, Nat.zero_le _⟩ dX9_depth_19 (fun H locs hW => ?_)
        refine lv_istore_n (lv' := [(3, .int q2), (0, .ref (g.2.2 + 70)), (1, .int x1), (2, .int w2)]) hx hb dX9_depth_22 rfl hl (Nat.le_of_ble_eq_true rfl) rfl (fun ls hl => ?_)
        refine lv_iload_n hx hb dX9_depth_23 rfl (lv_at hl 0 rfl) ?_
        obtain ⟨q3, hq3, hf⟩ := bnd hf
        refine aw_cSi (rest := []) C0 hW (c_X9_isTest q2  hq3) (cw_X9_99 hts ⟨Nat.le_of_ble_eq_true rfl, Nat.le_of_ble_eq_true rfl⟩) rfl hl.1 rfl (Nat.le_of_ble_eq_true rfl) ⟨Nat.zero_le _, Nat.zero_le _⟩ dX9_depth_24 (fun H locs hW => ?_)
        refine lv_if_eq (tgt := 53) hx hb dX9_depth_27 rfl (fun hc => ?_) (fun hc => ?_)
        · have hf := ift hc hf
          refine lv_aload_n hx hb dX9_depth_53 rfl (lv_at hl 1 rfl) ?_
          refine aw_get (v := .ref (g.2.2 + 78)) C0 hW (lv_fix (by decide)) (cel_8 kd70) rfl inG8 10 (by decide) wd75 rfl rfl dX9_depth_54 ?_
          refine lv_aload_n hx hb dX9_depth_57 rfl (lv_at hl 1 rfl) ?_
          refine aw_get (v := .int (I 70 11)) C0 hW (lv_fix (by decide)) (cel_8 kd70) rfl inG8 11 (by decide) wd74 rfl rfl dX9_depth_58 ?_
          refine lv_iconst (v := 1) hx hb dX9_depth_61 (by decide) ?_
          refine lv_isub hx hb dX9_depth_62 ?_
          obtain ⟨v4, hv4, hf⟩ := bnd hf
          refine aw_iald C0 hW kd78 ln78 hv4 dX9_depth_63 ?_
          refine lv_istore (lv' := [(4, .int v4), (3, .int q2), (0, .ref (g.2.2 + 70)), (1, .int x1), (2, .int w2)]) hx hb dX9_depth_64 hl (Nat.le_of_ble_eq_true rfl) rfl (fun ls hl => ?_)
          refine lv_aload_n hx hb dX9_depth_66 rfl (lv_at hl 2 rfl) ?_
          refine lv_dup hx hb dX9_depth_67 rfl ?_
          refine aw_get (v := .int (I 70 11)) C0 hW (lv_fix (by decide)) (cel_8 kd70) rfl inG8 11 (by decide) wd74 rfl rfl dX9_depth_68 ?_
          refine lv_iload_n hx hb dX9_depth_71 rfl (lv_at hl 1 rfl) ?_
          obtain ⟨q5, hq5, hf⟩ := bnd hf
          have J80_q5 : ∀ (H : Heap) (locs : List Loc) (ls : Array Slot), Wd g I R P Z s.heap H locs → lv_has ls 6 [(0, .ref (g.2.2 + 70)), (1, .int x1), (2, .int w2), (4, .int v4)] → W p0 l e rmX9_depth s m args below meth c H locs 0 0 (MQ below (QI g z.1 z.2 R P Z) args s 0 0 (AA g)) (F0 m 80 ls ([.int q5, .int (I 70 11), .ref (g.2.2 + 70)])) := by
            intro H locs ls hW hl
            refine lv_isub hx hb dX9_depth_80 ?_
            refine aw_put C0 hW (lv_fix (by decide)) (cel_8 kd70) rfl inG8 tyX9 tyX9_ok nmX9 11 (by decide) wd74 rfl rfl (ty := .int) rfl rfl rfl (Nat.le_of_ble_eq_true rfl) (pu_8_11 kd70) dX9_depth_81 (fun H locs hW => ?_)
            refine lv_aload_n hx hb dX9_depth_84 rfl (lv_at hl 0 rfl) ?_
            refine aw_get (v := .ref (g.2.2 + 78)) C0 hW (lv_fix (by decide)) (cel_8 kd70) rfl inG8 10 (by decide) wd75 rfl rfl dX9_depth_85 ?_
            refine lv_aload_n hx hb dX9_depth_88 rfl (lv_at hl 0 rfl) ?_
            refine aw_get (v := .int ((up I 70 11 ((I 70 11) - q5)) 70 11)) C0 hW (lv_fix (by decide)) (cel_8 kd70) rfl inG8 11 (by decide) wd74 rfl rfl dX9_depth_89 ?_
            refine lv_iconst (v := 1) hx hb dX9_depth_92 (by decide) ?_
            refine lv_isub hx hb dX9_depth_93 ?_
            obtain ⟨v6, hv6, hf⟩ := bnd hf
            refine aw_iald C0 hW kd78 ln78 hv6 dX9_depth_94 ?_
            refine lv_istore (lv' := [(5, .int v6), (0, .ref (g.2.2 + 70)), (1, .int x1), (2, .int w2), (4, .int v4)]) hx hb dX9_depth_95 hl (Nat.le_of_ble_eq_true rfl) rfl (fun ls hl => ?_)
            refine lv_aload_n hx hb dX9_depth_97 rfl (lv_at hl 1 rfl) ?_
            refine aw_get (v := .ref (g.2.2 + 78)) C0 hW (lv_fix (by decide)) (cel_8 kd70) rfl inG8 10 (by decide) wd75 rfl rfl dX9_depth_98 ?_
            refine lv_aload_n hx hb dX9_depth_101 rfl (lv_at hl 1 rfl) ?_
            refine aw_get (v := .int ((up I 70 11 ((I 70 11) - q5)) 70 11)) C0 hW (lv_fix (by decide)) (cel_8 kd70) rfl inG8 11 (by decide) wd74 rfl rfl dX9_depth_102 ?_
            refine lv_iconst (v := 1) hx hb dX9_depth_105 (by decide) ?_
            refine lv_isub hx hb dX9_depth_106 ?_
            refine lv_iconst (v := 1) hx hb dX9_depth_107 (by decide) ?_
            refine lv_iload hx hb dX9_depth_108 (lv_at hl 0 rfl) ?_
            refine lv_iload hx hb dX9_depth_110 (lv_at hl 4 rfl) ?_
            refine lv_icmp_le (tgt := 120) hx hb dX9_depth_112 rfl (fun hc => ?_) (fun hc => ?_)
            · have hf := ift hc hf
              refine lv_iload hx hb dX9_depth_120 (lv_at hl 4 rfl) ?_
              refine lv_iadd hx hb dX9_depth_122 ?_
              obtain ⟨I7, hI7, hf⟩ := bnd hf
              refine aw_iast C0 hW kd78 ln78 hI7 dX9_depth_123 (fun H locs hW => ?_)
              refine lv_iinc (k := 3) (v := w2 + 1) (lv' := [(2, .int (w2 + 1)), (5, .int v6), (0, .ref (g.2.2 + 70)), (1, .int x1), (4, .int v4)]) hx hb dX9_depth_124 hl rfl (congrArg (fun t => w2 + t) (by decide : Int32.ofInt 1 = 1)) (Nat.le_of_ble_eq_true rfl) rfl (fun ls hl => ?_)
              refine lv_goto (tgt := 7) hx hb dX9_depth_127 rfl ?_
              exact ih _ _ H locs ls o hf hW (lv_sub hl [2, 3, 0] rfl) hK
            · have hf := iff_ hc hf
              refine lv_iload hx hb dX9_depth_115 (lv_at hl 0 rfl) ?_
              refine lv_goto (tgt := 122) hx hb dX9_depth_117 rfl ?_
              refine lv_iadd hx hb dX9_depth_122 ?_
              obtain ⟨I8, hI8, hf⟩ := bnd hf
              refine aw_iast C0 hW kd78 ln78 hI8 dX9_depth_123 (fun H locs hW => ?_)
              refine lv_iinc (k := 3) (v := w2 + 1) (lv' := [(2, .int (w2 + 1)), (5, .int v6), (0, .ref (g.2.2 + 70)), (1, .int x1), (4, .int v4)]) hx hb dX9_depth_124 hl rfl (congrArg (fun t => w2 + t) (by decide : Int32.ofInt 1 = 1)) (Nat.le_of_ble_eq_true rfl) rfl (fun ls hl => ?_)
              refine lv_goto (tgt := 7) hx hb dX9_depth_127 rfl ?_
              exact ih _ _ H locs ls o hf hW (lv_sub hl [2, 3, 0] rfl) hK
          have hf := hq5
          refine lv_if_ne (tgt := 79) hx hb dX9_depth_72 rfl (fun hc => ?_) (fun hc => ?_)
          · have hf := iff_ hc hf
            refine lv_iconst (v := 1) hx hb dX9_depth_79 (by decide) ?_
            have ho := Option.some.inj hf
            subst ho
            exact J80_q5 H locs ls hW (lv_sub hl [2, 3, 4, 0] rfl)
          · have hf := ift hc hf
            refine lv_iconst (v := 0) hx hb dX9_depth_75 (by decide) ?_
            refine lv_goto (tgt := 80) hx hb dX9_depth_76 rfl ?_
            have ho := Option.some.inj hf
            subst ho
            exact J80_q5 H locs ls hW (lv_sub hl [2, 3, 4, 0] rfl)
        · have hf := iff_ hc hf
          refine lv_aload_n hx hb dX9_depth_30 rfl (lv_at hl 1 rfl) ?_
          refine aw_get (v := .ref (g.2.2 + 78)) C0 hW (lv_fix (by decide)) (cel_8 kd70) rfl inG8 10 (by decide) wd75 rfl rfl dX9_depth_31 ?_
          refine lv_aload_n hx hb dX9_depth_34 rfl (lv_at hl 1 rfl) ?_
          refine aw_get (v := .int (I 70 11)) C0 hW (lv_fix (by decide)) (cel_8 kd70) rfl inG8 11 (by decide) wd74 rfl rfl dX9_depth_35 ?_
          refine lv_iconst (v := 1) hx hb dX9_depth_38 (by decide) ?_
          obtain ⟨I9, hI9, hf⟩ := bnd hf
          refine aw_iast C0 hW kd78 ln78 hI9 dX9_depth_39 (fun H locs hW => ?_)
          refine lv_aload_n hx hb dX9_depth_40 rfl (lv_at hl 1 rfl) ?_
          refine lv_dup hx hb dX9_depth_41 rfl ?_
          refine aw_get (v := .int (I9 70 11)) C0 hW (lv_fix (by decide)) (cel_8 kd70) rfl inG8 11 (by decide) wd74 rfl rfl dX9_depth_42 ?_
          refine lv_iconst (v := 1) hx hb dX9_depth_45 (by decide) ?_
          refine lv_iadd hx hb dX9_depth_46 ?_
          refine aw_put C0 hW (lv_fix (by decide)) (cel_8 kd70) rfl inG8 tyX9 tyX9_ok nmX9 11 (by decide) wd74 rfl rfl (ty := .int) rfl rfl rfl (Nat.le_of_ble_eq_true rfl) (pu_8_11 kd70) dX9_depth_47 (fun H locs hW => ?_)
          refine lv_goto (tgt := 124) hx hb dX9_depth_50 rfl ?_
          refine lv_iinc (k := 3) (v := w2 + 1) (lv' := [(2, .int (w2 + 1)), (3, .int q2), (0, .ref (g.2.2 + 70)), (1, .int x1)]) hx hb dX9_depth_124 hl rfl (congrArg (fun t => w2 + t) (by decide : Int32.ofInt 1 = 1)) (Nat.le_of_ble_eq_true rfl) rfl (fun ls hl => ?_)
          refine lv_goto (tgt := 7) hx hb dX9_depth_127 rfl ?_
          exact ih _ _ H locs ls o hf hW (lv_sub hl [2, 3, 0] rfl) hK
  unfold f_X9_depth at hf
  obtain ⟨H, hH⟩ : ∃ H, H = s.heap := ⟨_, rfl⟩
  obtain ⟨locs, hlc⟩ : ∃ q : List Loc, q = [] := ⟨_, rfl⟩
  rw [show W p0 l e rmX9_depth s m args below meth c s.heap [] 0 0 (MQ below (QI g z.1 z.2 R P Z) args s 0 0 (AA g)) (F0 m 0 ls []) = W p0 l e rmX9_depth s m args below meth c H locs 0 0 (MQ below (QI g z.1 z.2 R P Z) args s 0 0 (AA g)) (F0 m 0 ls []) by rw [hH, hlc]]
  have hW : Wd g I R P Z s.heap H locs := by rw [hH, hlc]; exact hW
  refine lv_aload_n hx hb dX9_depth_0 rfl (lv_at hl 0 rfl) ?_
  refine lv_iconst (v := 0) hx hb dX9_depth_1 (by decide) ?_
  refine aw_put C0 hW (lv_fix (by decide)) (cel_8 kd70) rfl inG8 tyX9 tyX9_ok nmX9 11 (by decide) wd74 rfl rfl (ty := .int) rfl rfl rfl (Nat.le_of_ble_eq_true rfl) (pu_8_11 kd70) dX9_depth_2 (fun H locs hW => ?_)
  refine lv_iconst (v := 0) hx hb dX9_depth_5 (by decide) ?_
  refine lv_istore_n (lv' := [(2, .int 0), (0, .ref (g.2.2 + 70)), (1, .int x1)]) hx hb dX9_depth_6 rfl hl (Nat.le_of_ble_eq_true rfl) rfl (fun ls hl => ?_)
  obtain ⟨q10, hq10, hf⟩ := bnd hf
  refine L7  fuel 0 ((up I 70 11 0)) H locs ls _ hq10 hW (lv_sub hl [1, 2, 0] rfl) (fun H locs ls hW hl => ?_)
  refine lv_aload_n hx hb dX9_depth_130 rfl (lv_at hl 0 rfl) ?_
  refine aw_get (v := .ref (g.2.2 + 78)) C0 hW (lv_fix (by decide)) (cel_8 kd70) rfl inG8 10 (by decide) wd75 rfl rfl dX9_depth_131 ?_
  refine lv_iconst (v := 0) hx hb dX9_depth_134 (by decide) ?_
  obtain ⟨v11, hv11, hf⟩ := bnd hf
  refine aw_iald C0 hW kd78 ln78 hv11 dX9_depth_135 ?_
  have hz := Option.some.inj hf
  have hzV := congrArg (fun z : Int32 × Mem => z.1) hz
  have hzI := congrArg (fun z : Int32 × Mem => z.2) hz
  exact aw_iret C0 hW hzV hzI rfl dX9_depth_136
theorem cw_X9_277 {Rm : Room} {s : State} {args : Array Value} (ht : ∀ w ∈ GT, w.before args s = true) (hR : rmX9_depth.frames + 1 ≤ Rm.frames ∧ 8 + (6 + 11) + rmX9_depth.locals ≤ Rm.locals) : CallW Rm s args RX9 RX9 277 yX9_depth cX9_depth 6 (some .int) (Cond.code yX9_depth cX9_depth 6 (some .int) :: GT) rmX9_depth 0 0 1 := cwV 1 ht (goodV wd800 wd801 wd802 wd607 wd803) rfl rfl rfl ⟨rfl, by decide +kernel, by decide +kernel, by decide +kernel⟩ hR
def f_X9_tests_L4 (x1 : Int32) (I : Mem) : Nat → Int32 → Int32 → Option (Int32)
  | 0, _, _ => none
  | n + 1, w2, w3 =>
    (f_X9_parts x1 I).bind fun q1 =>
    if q1 ≤ w3 then (
      some w2
    ) else (
      (f_X9_part x1 w3 I).bind fun q2 =>
      (f_X9_isTest q2).bind fun q3 =>
      if q3 = 0 then (
        f_X9_tests_L4 x1 I n (w2 + 0) (w3 + 1)
      ) else (
        f_X9_tests_L4 x1 I n (w2 + 1) (w3 + 1)
      )
    )
def f_X9_tests (x1 : Int32) (I : Mem) : Option (Int32) :=
  (f_X9_tests_L4 x1 I fuel 0 0).bind fun q4 =>
  some q4
abbrev rmX9_tests : Room := { frames := 1, cells := 0, slots := 0, locals := 22 }
set_option maxHeartbeats 4000000 in
set_option maxRecDepth 100000 in
theorem c_X9_tests {l : Launch} {g : Gam} {I : Mem} {R : Rem} {P : Pool} {Z : Zed} (x1 : Int32)  {z : Int32} (hf : f_X9_tests x1 I = some z) : Met l yX9_tests (Cond.code yX9_tests cX9_tests 4 (some .int) :: GT) rmX9_tests (va_Pc [.ref (g.2.2 + 70), .int x1] (PW g I R P Z)) (QI g z I R P Z) 0 0 (AA g) := by
  refine aw_ofW (lv0 := [(0, .ref (g.2.2 + 70)), (1, .int x1)]) (by decide) (by exact Nat.le_of_ble_eq_true rfl) (by rfl) (fun p0 e s m args below meth c ls C0 hl hW => ?_)
  have C0 : CX g p0 s m args meth c RX9 cX9_tests 4 (some .int) := C0
  have hx := C0.1; have hb := C0.2.1; have hown := C0.2.2.2.2.1; have hts := C0.2.2.2.2.2.1; have hKS := C0.2.2.2.2.2.2.1
  have L4 : ∀ (I : Mem) (n : Nat) (w2 : Int32) (w3 : Int32) (H : Heap) (locs : List Loc) (ls : Array Slot) (o : Int32), f_X9_tests_L4 x1 I n w2 w3 = some o → Wd g I R P Z s.heap H locs → lv_has ls 4 [(0, .ref (g.2.2 + 70)), (1, .int x1), (2, .int w2), (3, .int w3)] → (∀ (H : Heap) (locs : List Loc) (ls : Array Slot), Wd g I R P Z s.heap H locs → lv_has ls 4 [(2, .int o)] → W p0 l e rmX9_tests s m args below meth c H locs 0 0 (MQ below (QI g z I R P Z) args s 0 0 (AA g)) (F0 m 39 ls [])) → W p0 l e rmX9_tests s m args below meth c H locs 0 0 (MQ below (QI g z I R P Z) args s 0 0 (AA g)) (F0 m 4 ls []) := by
    intro I n
    induction n with
    | zero => intro w2 w3 H locs ls o hf; cases hf
    | succ n ih =>
      intro w2 w3 H locs ls o hf hW hl hK
      rw [f_X9_tests_L4] at hf
      refine lv_iload_n hx hb dX9_tests_4 rfl (lv_at hl 3 rfl) ?_
      refine lv_aload_n hx hb dX9_tests_5 rfl (lv_at hl 0 rfl) ?_
      refine lv_iload_n hx hb dX9_tests_6 rfl (lv_at hl 1 rfl) ?_
      obtain ⟨q1, hq1, hf⟩ := bnd hf
      refine aw_cVi (rest := [.int w3]) C0 hW (lv_fix (by decide)) (cel_8 kd70) rfl (c_X9_parts x1  hq1) (cw_X9_92 hts ⟨Nat.le_of_ble_eq_true rfl, Nat.le_of_ble_eq_true rfl⟩) rfl hl.1 rfl (Nat.le_of_ble_eq_true rfl) ⟨Nat.zero_le _, Nat.zero_le _⟩ dX9_tests_7 (fun H locs hW => ?_)
      refine lv_icmp_ge (tgt := 39) hx hb dX9_tests_10 rfl (fun hc => ?_) (fun hc => ?_)
      · have hf := ift hc hf
        have ho := Option.some.inj hf
        subst ho
        exact hK H locs ls hW (lv_sub hl [2] rfl)
      · have hf := iff_ hc hf
        refine lv_iload_n hx hb dX9_tests_13 rfl (lv_at hl 2 rfl) ?_
        refine lv_aload_n hx hb dX9_tests_14 rfl (lv_at hl 0 rfl) ?_
        refine lv_iload_n hx hb dX9_tests_15 rfl (lv_at hl 1 rfl) ?_
        refine lv_iload_n hx hb dX9_tests_16 rfl (lv_at hl 3 rfl) ?_
        obtain ⟨q2, hq2, hf⟩ := bnd hf
        refine aw_cVi (rest := [.int w2]) C0 hW (lv_fix (by decide)) (cel_8 kd70) rfl (c_X9_part x1 w3  hq2) (cw_X9_95 hts ⟨Nat.le_of_ble_eq_true rfl, Nat.le_of_ble_eq_true rfl⟩) rfl hl.1 rfl (Nat.le_of_ble_eq_true rfl) ⟨Nat.zero_le _, Nat.zero_le _⟩ dX9_tests_17 (fun H locs hW => ?_)
        obtain ⟨q3, hq3, hf⟩ := bnd hf
        refine aw_cSi (rest := [.int w2]) C0 hW (c_X9_isTest q2  hq3) (cw_X9_99 hts ⟨Nat.le_of_ble_eq_true rfl, Nat.le_of_ble_eq_true rfl⟩) rfl hl.1 rfl (Nat.le_of_ble_eq_true rfl) ⟨Nat.zero_le _, Nat.zero_le _⟩ dX9_tests_20 (fun H locs hW => ?_)
        refine lv_if_eq (tgt := 30) hx hb dX9_tests_23 rfl (fun hc => ?_) (fun hc => ?_)
        · have hf := ift hc hf
          refine lv_iconst (v := 0) hx hb dX9_tests_30 (by decide) ?_
          refine lv_iadd hx hb dX9_tests_31 ?_
          refine lv_istore_n (lv' := [(2, .int (w2 + 0)), (0, .ref (g.2.2 + 70)), (1, .int x1), (3, .int w3)]) hx hb dX9_tests_32 rfl hl (Nat.le_of_ble_eq_true rfl) rfl (fun ls hl => ?_)
          refine lv_iinc (k := 3) (v := w3 + 1) (lv' := [(3, .int (w3 + 1)), (2, .int (w2 + 0)), (0, .ref (g.2.2 + 70)), (1, .int x1)]) hx hb dX9_tests_33 hl rfl (congrArg (fun t => w3 + t) (by decide : Int32.ofInt 1 = 1)) (Nat.le_of_ble_eq_true rfl) rfl (fun ls hl => ?_)
          refine lv_goto (tgt := 4) hx hb dX9_tests_36 rfl ?_
          exact ih _ _ H locs ls o hf hW (lv_sub hl [2, 3, 1, 0] rfl) hK
        · have hf := iff_ hc hf
          refine lv_iconst (v := 1) hx hb dX9_tests_26 (by decide) ?_
          refine lv_goto (tgt := 31) hx hb dX9_tests_27 rfl ?_
          refine lv_iadd hx hb dX9_tests_31 ?_
          refine lv_istore_n (lv' := [(2, .int (w2 + 1)), (0, .ref (g.2.2 + 70)), (1, .int x1), (3, .int w3)]) hx hb dX9_tests_32 rfl hl (Nat.le_of_ble_eq_true rfl) rfl (fun ls hl => ?_)
          refine lv_iinc (k := 3) (v := w3 + 1) (lv' := [(3, .int (w3 + 1)), (2, .int (w2 + 1)), (0, .ref (g.2.2 + 70)), (1, .int x1)]) hx hb dX9_tests_33 hl rfl (congrArg (fun t => w3 + t) (by decide : Int32.ofInt 1 = 1)) (Nat.le_of_ble_eq_true rfl) rfl (fun ls hl => ?_)
          refine lv_goto (tgt := 4) hx hb dX9_tests_36 rfl ?_
          exact ih _ _ H locs ls o hf hW (lv_sub hl [2, 3, 1, 0] rfl) hK
  unfold f_X9_tests at hf
  obtain ⟨H, hH⟩ : ∃ H, H = s.heap := ⟨_, rfl⟩
  obtain ⟨locs, hlc⟩ : ∃ q : List Loc, q = [] := ⟨_, rfl⟩
  rw [show W p0 l e rmX9_tests s m args below meth c s.heap [] 0 0 (MQ below (QI g z I R P Z) args s 0 0 (AA g)) (F0 m 0 ls []) = W p0 l e rmX9_tests s m args below meth c H locs 0 0 (MQ below (QI g z I R P Z) args s 0 0 (AA g)) (F0 m 0 ls []) by rw [hH, hlc]]
  have hW : Wd g I R P Z s.heap H locs := by rw [hH, hlc]; exact hW
  refine lv_iconst (v := 0) hx hb dX9_tests_0 (by decide) ?_
  refine lv_istore_n (lv' := [(2, .int 0), (0, .ref (g.2.2 + 70)), (1, .int x1)]) hx hb dX9_tests_1 rfl hl (Nat.le_of_ble_eq_true rfl) rfl (fun ls hl => ?_)
  refine lv_iconst (v := 0) hx hb dX9_tests_2 (by decide) ?_
  refine lv_istore_n (lv' := [(3, .int 0), (2, .int 0), (0, .ref (g.2.2 + 70)), (1, .int x1)]) hx hb dX9_tests_3 rfl hl (Nat.le_of_ble_eq_true rfl) rfl (fun ls hl => ?_)
  obtain ⟨q4, hq4, hf⟩ := bnd hf
  refine L4 I fuel 0 0 H locs ls _ hq4 hW (lv_sub hl [2, 3, 1, 0] rfl) (fun H locs ls hW hl => ?_)
  refine lv_iload_n hx hb dX9_tests_39 rfl (lv_at hl 0 rfl) ?_
  have hz := Option.some.inj hf
  exact aw_iret C0 hW hz rfl rfl dX9_tests_40
theorem cw_X9_280 {Rm : Room} {s : State} {args : Array Value} (ht : ∀ w ∈ GT, w.before args s = true) (hR : rmX9_tests.frames + 1 ≤ Rm.frames ∧ 8 + (4 + 11) + rmX9_tests.locals ≤ Rm.locals) : CallW Rm s args RX9 RX9 280 yX9_tests cX9_tests 4 (some .int) (Cond.code yX9_tests cX9_tests 4 (some .int) :: GT) rmX9_tests 0 0 1 := cwV 1 ht (goodV wd804 wd805 wd806 wd607 wd807) rfl rfl rfl ⟨rfl, by decide +kernel, by decide +kernel, by decide +kernel⟩ hR
def f_X9_columnOf (x0 : Int32) : Option (Int32) :=
  some (((x0 - 4) / 1000) / 4)
abbrev rmX9_columnOf : Room := { frames := 0, cells := 0, slots := 0, locals := 0 }
set_option maxHeartbeats 4000000 in
set_option maxRecDepth 100000 in
theorem c_X9_columnOf {l : Launch} {g : Gam} {I : Mem} {R : Rem} {P : Pool} {Z : Zed} (x0 : Int32)  {z : Int32} (hf : f_X9_columnOf x0 = some z) : Met l yX9_columnOf (Cond.code yX9_columnOf cX9_columnOf 1 (some .int) :: GT) rmX9_columnOf (va_Pc [.int x0] (PW g I R P Z)) (QI g z I R P Z) 0 0 (AA g) := by
  refine aw_ofW (lv0 := [(0, .int x0)]) (by decide) (by exact Nat.le_of_ble_eq_true rfl) (by rfl) (fun p0 e s m args below meth c ls C0 hl hW => ?_)
  have C0 : CX g p0 s m args meth c RX9 cX9_columnOf 1 (some .int) := C0
  have hx := C0.1; have hb := C0.2.1; have hown := C0.2.2.2.2.1; have hts := C0.2.2.2.2.2.1; have hKS := C0.2.2.2.2.2.2.1
  unfold f_X9_columnOf at hf
  obtain ⟨H, hH⟩ : ∃ H, H = s.heap := ⟨_, rfl⟩
  obtain ⟨locs, hlc⟩ : ∃ q : List Loc, q = [] := ⟨_, rfl⟩
  rw [show W p0 l e rmX9_columnOf s m args below meth c s.heap [] 0 0 (MQ below (QI g z I R P Z) args s 0 0 (AA g)) (F0 m 0 ls []) = W p0 l e rmX9_columnOf s m args below meth c H locs 0 0 (MQ below (QI g z I R P Z) args s 0 0 (AA g)) (F0 m 0 ls []) by rw [hH, hlc]]
  have hW : Wd g I R P Z s.heap H locs := by rw [hH, hlc]; exact hW
  refine lv_iload_n hx hb dX9_columnOf_0 rfl (lv_at hl 0 rfl) ?_
  refine lv_iconst (v := 4) hx hb dX9_columnOf_1 (by decide) ?_
  refine lv_isub hx hb dX9_columnOf_2 ?_
  refine lv_sipush (v := 1000) hx hb dX9_columnOf_3 (by decide) ?_
  refine lv_idiv hx hb dX9_columnOf_6 (by decide) ?_
  refine lv_iconst (v := 4) hx hb dX9_columnOf_7 (by decide) ?_
  refine lv_idiv hx hb dX9_columnOf_8 (by decide) ?_
  have hz := Option.some.inj hf
  exact aw_iret C0 hW hz rfl rfl dX9_columnOf_9
theorem cw_X9_80 {Rm : Room} {s : State} {args : Array Value} (ht : ∀ w ∈ GT, w.before args s = true) (hR : rmX9_columnOf.frames + 1 ≤ Rm.frames ∧ 8 + (1 + 11) + rmX9_columnOf.locals ≤ Rm.locals) : CallB Rm s args RX9 80 yX9_columnOf cX9_columnOf 1 (some .int) (Cond.code yX9_columnOf cX9_columnOf 1 (some .int) :: GT) rmX9_columnOf 0 0 1 ∧ (Cond.static yX9_columnOf).before args s = true := va_cwS 1 ht (goodS wd875 wd876 wd607 wd877) rfl rfl rfl ⟨by decide +kernel, by decide +kernel, by decide +kernel⟩ hR
def f_X9_otherOf (x0 : Int32) : Option (Int32) :=
  some ((x0 - 4) - (x0 - 4) / 1000 * 1000)
abbrev rmX9_otherOf : Room := { frames := 0, cells := 0, slots := 0, locals := 0 }
set_option maxHeartbeats 4000000 in
set_option maxRecDepth 100000 in
theorem c_X9_otherOf {l : Launch} {g : Gam} {I : Mem} {R : Rem} {P : Pool} {Z : Zed} (x0 : Int32)  {z : Int32} (hf : f_X9_otherOf x0 = some z) : Met l yX9_otherOf (Cond.code yX9_otherOf cX9_otherOf 1 (some .int) :: GT) rmX9_otherOf (va_Pc [.int x0] (PW g I R P Z)) (QI g z I R P Z) 0 0 (AA g) := by
  refine aw_ofW (lv0 := [(0, .int x0)]) (by decide) (by exact Nat.le_of_ble_eq_true rfl) (by rfl) (fun p0 e s m args below meth c ls C0 hl hW => ?_)
  have C0 : CX g p0 s m args meth c RX9 cX9_otherOf 1 (some .int) := C0
  have hx := C0.1; have hb := C0.2.1; have hown := C0.2.2.2.2.1; have hts := C0.2.2.2.2.2.1; have hKS := C0.2.2.2.2.2.2.1
  unfold f_X9_otherOf at hf
  obtain ⟨H, hH⟩ : ∃ H, H = s.heap := ⟨_, rfl⟩
  obtain ⟨locs, hlc⟩ : ∃ q : List Loc, q = [] := ⟨_, rfl⟩
  rw [show W p0 l e rmX9_otherOf s m args below meth c s.heap [] 0 0 (MQ below (QI g z I R P Z) args s 0 0 (AA g)) (F0 m 0 ls []) = W p0 l e rmX9_otherOf s m args below meth c H locs 0 0 (MQ below (QI g z I R P Z) args s 0 0 (AA g)) (F0 m 0 ls []) by rw [hH, hlc]]
  have hW : Wd g I R P Z s.heap H locs := by rw [hH, hlc]; exact hW
  refine lv_iload_n hx hb dX9_otherOf_0 rfl (lv_at hl 0 rfl) ?_
  refine lv_iconst (v := 4) hx hb dX9_otherOf_1 (by decide) ?_
  refine lv_isub hx hb dX9_otherOf_2 ?_
  refine lv_sipush (v := 1000) hx hb dX9_otherOf_3 (by decide) ?_
  refine lv_irem hx hb dX9_otherOf_6 (by decide) ?_
  have hz := Option.some.inj hf
  exact aw_iret C0 hW hz rfl rfl dX9_otherOf_7
theorem cw_X9_83 {Rm : Room} {s : State} {args : Array Value} (ht : ∀ w ∈ GT, w.before args s = true) (hR : rmX9_otherOf.frames + 1 ≤ Rm.frames ∧ 8 + (1 + 11) + rmX9_otherOf.locals ≤ Rm.locals) : CallB Rm s args RX9 83 yX9_otherOf cX9_otherOf 1 (some .int) (Cond.code yX9_otherOf cX9_otherOf 1 (some .int) :: GT) rmX9_otherOf 0 0 1 ∧ (Cond.static yX9_otherOf).before args s = true := va_cwS 1 ht (goodS wd878 wd879 wd607 wd880) rfl rfl rfl ⟨by decide +kernel, by decide +kernel, by decide +kernel⟩ hR
def f_X9_columns_L4 (x1 : Int32) (I : Mem) : Nat → Int32 → Int32 → Option (Int32)
  | 0, _, _ => none
  | n + 1, w2, w3 =>
    (f_X9_parts x1 I).bind fun q1 =>
    if q1 ≤ w3 then (
      some w2
    ) else (
      (f_X9_part x1 w3 I).bind fun q2 =>
      (f_X9_isTest q2).bind fun q3 =>
      if q3 = 0 then (
        f_X9_columns_L4 x1 I n w2 (w3 + 1)
      ) else (
        (f_X9_columnOf q2).bind fun q4 =>
        (f_X9_otherOf q2).bind fun q5 =>
        if q5 < 100 then (
          f_X9_columns_L4 x1 I n ((w2 ||| (1 <<< (q4 &&& 31))) ||| 0) (w3 + 1)
        ) else (
          (f_X9_otherOf q2).bind fun q6 =>
          f_X9_columns_L4 x1 I n ((w2 ||| (1 <<< (q4 &&& 31))) ||| (1 <<< ((q6 - 100) &&& 31))) (w3 + 1)
        )
      )
    )
def f_X9_columns (x1 : Int32) (I : Mem) : Option (Int32) :=
  (f_X9_columns_L4 x1 I fuel 0 0).bind fun q7 =>
  some q7
abbrev rmX9_columns : Room := { frames := 1, cells := 0, slots := 0, locals := 22 }
set_option maxHeartbeats 4000000 in
set_option maxRecDepth 100000 in
theorem c_X9_columns {l : Launch} {g : Gam} {I : Mem} {R : Rem} {P : Pool} {Z : Zed} (x1 : Int32)  {z : Int32} (hf : f_X9_columns x1 I = some z) : Met l yX9_columns (Cond.code yX9_columns cX9_columns 5 (some .int) :: GT) rmX9_columns (va_Pc [.ref (g.2.2 + 70), .int x1] (PW g I R P Z)) (QI g z I R P Z) 0 0 (AA g) := by
  refine aw_ofW (lv0 := [(0, .ref (g.2.2 + 70)), (1, .int x1)]) (by decide) (by exact Nat.le_of_ble_eq_true rfl) (by rfl) (fun p0 e s m args below meth c ls C0 hl hW => ?_)
  have C0 : CX g p0 s m args meth c RX9 cX9_columns 5 (some .int) := C0
  have hx := C0.1; have hb := C0.2.1; have hown := C0.2.2.2.2.1; have hts := C0.2.2.2.2.2.1; have hKS := C0.2.2.2.2.2.2.1
  have L4 : ∀ (I : Mem) (n : Nat) (w2 : Int32) (w3 : Int32) (H : Heap) (locs : List Loc) (ls : Array Slot) (o : Int32), f_X9_columns_L4 x1 I n w2 w3 = some o → Wd g I R P Z s.heap H locs → lv_has ls 5 [(0, .ref (g.2.2 + 70)), (1, .int x1), (2, .int w2), (3, .int w3)] → (∀ (H : Heap) (locs : List Loc) (ls : Array Slot), Wd g I R P Z s.heap H locs → lv_has ls 5 [(2, .int o)] → W p0 l e rmX9_columns s m args below meth c H locs 0 0 (MQ below (QI g z I R P Z) args s 0 0 (AA g)) (F0 m 72 ls [])) → W p0 l e rmX9_columns s m args below meth c H locs 0 0 (MQ below (QI g z I R P Z) args s 0 0 (AA g)) (F0 m 4 ls []) := by
    intro I n
    induction n with
    | zero => intro w2 w3 H locs ls o hf; cases hf
    | succ n ih =>
      intro w2 w3 H locs ls o hf hW hl hK
      rw [f_X9_columns_L4] at hf
      refine lv_iload_n hx hb dX9_columns_4 rfl (lv_at hl 3 rfl) ?_
      refine lv_aload_n hx hb dX9_columns_5 rfl (lv_at hl 0 rfl) ?_
      refine lv_iload_n hx hb dX9_columns_6 rfl (lv_at hl 1 rfl) ?_
      obtain ⟨q1, hq1, hf⟩ := bnd hf
      refine aw_cVi (rest := [.int w3]) C0 hW (lv_fix (by decide)) (cel_8 kd70) rfl (c_X9_parts x1  hq1) (cw_X9_92 hts ⟨Nat.le_of_ble_eq_true rfl, Nat.le_of_ble_eq_true rfl⟩) rfl hl.1 rfl (Nat.le_of_ble_eq_true rfl) ⟨Nat.zero_le _, Nat.zero_le _⟩ dX9_columns_7 (fun H locs hW => ?_)
      refine lv_icmp_ge (tgt := 72) hx hb dX9_columns_10 rfl (fun hc => ?_) (fun hc => ?_)
      · have hf := ift hc hf
        have ho := Option.some.inj hf
        subst ho
        exact hK H locs ls hW (lv_sub hl [2] rfl)
      · have hf := iff_ hc hf
        refine lv_aload_n hx hb dX9_columns_13 rfl (lv_at hl 0 rfl) ?_
        refine lv_iload_n hx hb dX9_columns_14 rfl (lv_at hl 1 rfl) ?_
        refine lv_iload_n hx hb dX9_columns_15 rfl (lv_at hl 3 rfl) ?_
        obtain ⟨q2, hq2, hf⟩ := bnd hf
        refine aw_cVi (rest := []) C0 hW (lv_fix (by decide)) (cel_8 kd70) rfl (c_X9_part x1 w3  hq2) (cw_X9_95 hts ⟨Nat.le_of_ble_eq_true rfl, Nat.le_of_ble_eq_true rfl⟩) rfl hl.1 rfl (Nat.le_of_ble_eq_true rfl) ⟨Nat.zero_le _, Nat.zero_le _⟩ dX9_columns_16 (fun H locs hW => ?_)
        refine lv_istore (lv' := [(4, .int q2), (0, .ref (g.2.2 + 70)), (1, .int x1), (2, .int w2), (3, .int w3)]) hx hb dX9_columns_19 hl (Nat.le_of_ble_eq_true rfl) rfl (fun ls hl => ?_)
        refine lv_iload hx hb dX9_columns_21 (lv_at hl 0 rfl) ?_
        obtain ⟨q3, hq3, hf⟩ := bnd hf
        refine aw_cSi (rest := []) C0 hW (c_X9_isTest q2  hq3) (cw_X9_99 hts ⟨Nat.le_of_ble_eq_true rfl, Nat.le_of_ble_eq_true rfl⟩) rfl hl.1 rfl (Nat.le_of_ble_eq_true rfl) ⟨Nat.zero_le _, Nat.zero_le _⟩ dX9_columns_23 (fun H locs hW => ?_)
        refine lv_if_eq (tgt := 66) hx hb dX9_columns_26 rfl (fun hc => ?_) (fun hc => ?_)
        · have hf := ift hc hf
          refine lv_iinc (k := 4) (v := w3 + 1) (lv' := [(3, .int (w3 + 1)), (4, .int q2), (0, .ref (g.2.2 + 70)), (1, .int x1), (2, .int w2)]) hx hb dX9_columns_66 hl rfl (congrArg (fun t => w3 + t) (by decide : Int32.ofInt 1 = 1)) (Nat.le_of_ble_eq_true rfl) rfl (fun ls hl => ?_)
          refine lv_goto (tgt := 4) hx hb dX9_columns_69 rfl ?_
          exact ih _ _ H locs ls o hf hW (lv_sub hl [2, 3, 4, 0] rfl) hK
        · have hf := iff_ hc hf
          refine lv_iload_n hx hb dX9_columns_29 rfl (lv_at hl 3 rfl) ?_
          refine lv_iconst (v := 1) hx hb dX9_columns_30 (by decide) ?_
          refine lv_iload hx hb dX9_columns_31 (lv_at hl 0 rfl) ?_
          obtain ⟨q4, hq4, hf⟩ := bnd hf
          refine aw_cSi (rest := [.int 1, .int w2]) C0 hW (c_X9_columnOf q2  hq4) (cw_X9_80 hts ⟨Nat.le_of_ble_eq_true rfl, Nat.le_of_ble_eq_true rfl⟩) rfl hl.1 rfl (Nat.le_of_ble_eq_true rfl) ⟨Nat.zero_le _, Nat.zero_le _⟩ dX9_columns_33 (fun H locs hW => ?_)
          refine lv_ishl hx hb dX9_columns_36 ?_
          refine lv_ior hx hb dX9_columns_37 ?_
          refine lv_istore_n (lv' := [(2, .int (w2 ||| (1 <<< (q4 &&& 31)))), (4, .int q2), (0, .ref (g.2.2 + 70)), (1, .int x1), (3, .int w3)]) hx hb dX9_columns_38 rfl hl (Nat.le_of_ble_eq_true rfl) rfl (fun ls hl => ?_)
          refine lv_iload_n hx hb dX9_columns_39 rfl (lv_at hl 0 rfl) ?_
          refine lv_iload hx hb dX9_columns_40 (lv_at hl 1 rfl) ?_
          obtain ⟨q5, hq5, hf⟩ := bnd hf
          refine aw_cSi (rest := [.int (w2 ||| (1 <<< (q4 &&& 31)))]) C0 hW (c_X9_otherOf q2  hq5) (cw_X9_83 hts ⟨Nat.le_of_ble_eq_true rfl, Nat.le_of_ble_eq_true rfl⟩) rfl hl.1 rfl (Nat.le_of_ble_eq_true rfl) ⟨Nat.zero_le _, Nat.zero_le _⟩ dX9_columns_42 (fun H locs hW => ?_)
          refine lv_bipush (v := 100) hx hb dX9_columns_45 (by decide) ?_
          refine lv_icmp_lt (tgt := 63) hx hb dX9_columns_47 rfl (fun hc => ?_) (fun hc => ?_)
          · have hf := ift hc hf
            refine lv_iconst (v := 0) hx hb dX9_columns_63 (by decide) ?_
            refine lv_ior hx hb dX9_columns_64 ?_
            refine lv_istore_n (lv' := [(2, .int ((w2 ||| (1 <<< (q4 &&& 31))) ||| 0)), (4, .int q2), (0, .ref (g.2.2 + 70)), (1, .int x1), (3, .int w3)]) hx hb dX9_columns_65 rfl hl (Nat.le_of_ble_eq_true rfl) rfl (fun ls hl => ?_)
            refine lv_iinc (k := 4) (v := w3 + 1) (lv' := [(3, .int (w3 + 1)), (2, .int ((w2 ||| (1 <<< (q4 &&& 31))) ||| 0)), (4, .int q2), (0, .ref (g.2.2 + 70)), (1, .int x1)]) hx hb dX9_columns_66 hl rfl (congrArg (fun t => w3 + t) (by decide : Int32.ofInt 1 = 1)) (Nat.le_of_ble_eq_true rfl) rfl (fun ls hl => ?_)
            refine lv_goto (tgt := 4) hx hb dX9_columns_69 rfl ?_
            exact ih _ _ H locs ls o hf hW (lv_sub hl [3, 4, 1, 0] rfl) hK
          · have hf := iff_ hc hf
            refine lv_iconst (v := 1) hx hb dX9_columns_50 (by decide) ?_
            refine lv_iload hx hb dX9_columns_51 (lv_at hl 1 rfl) ?_
            obtain ⟨q6, hq6, hf⟩ := bnd hf
            refine aw_cSi (rest := [.int 1, .int (w2 ||| (1 <<< (q4 &&& 31)))]) C0 hW (c_X9_otherOf q2  hq6) (cw_X9_83 hts ⟨Nat.le_of_ble_eq_true rfl, Nat.le_of_ble_eq_true rfl⟩) rfl hl.1 rfl (Nat.le_of_ble_eq_true rfl) ⟨Nat.zero_le _, Nat.zero_le _⟩ dX9_columns_53 (fun H locs hW => ?_)
            refine lv_bipush (v := 100) hx hb dX9_columns_56 (by decide) ?_
            refine lv_isub hx hb dX9_columns_58 ?_
            refine lv_ishl hx hb dX9_columns_59 ?_
            refine lv_goto (tgt := 64) hx hb dX9_columns_60 rfl ?_
            refine lv_ior hx hb dX9_columns_64 ?_
            refine lv_istore_n (lv' := [(2, .int ((w2 ||| (1 <<< (q4 &&& 31))) ||| (1 <<< ((q6 - 100) &&& 31)))), (4, .int q2), (0, .ref (g.2.2 + 70)), (1, .int x1), (3, .int w3)]) hx hb dX9_columns_65 rfl hl (Nat.le_of_ble_eq_true rfl) rfl (fun ls hl => ?_)
            refine lv_iinc (k := 4) (v := w3 + 1) (lv' := [(3, .int (w3 + 1)), (2, .int ((w2 ||| (1 <<< (q4 &&& 31))) ||| (1 <<< ((q6 - 100) &&& 31)))), (4, .int q2), (0, .ref (g.2.2 + 70)), (1, .int x1)]) hx hb dX9_columns_66 hl rfl (congrArg (fun t => w3 + t) (by decide : Int32.ofInt 1 = 1)) (Nat.le_of_ble_eq_true rfl) rfl (fun ls hl => ?_)
            refine lv_goto (tgt := 4) hx hb dX9_columns_69 rfl ?_
            exact ih _ _ H locs ls o hf hW (lv_sub hl [3, 4, 1, 0] rfl) hK
  unfold f_X9_columns at hf
  obtain ⟨H, hH⟩ : ∃ H, H = s.heap := ⟨_, rfl⟩
  obtain ⟨locs, hlc⟩ : ∃ q : List Loc, q = [] := ⟨_, rfl⟩
  rw [show W p0 l e rmX9_columns s m args below meth c s.heap [] 0 0 (MQ below (QI g z I R P Z) args s 0 0 (AA g)) (F0 m 0 ls []) = W p0 l e rmX9_columns s m args below meth c H locs 0 0 (MQ below (QI g z I R P Z) args s 0 0 (AA g)) (F0 m 0 ls []) by rw [hH, hlc]]
  have hW : Wd g I R P Z s.heap H locs := by rw [hH, hlc]; exact hW
  refine lv_iconst (v := 0) hx hb dX9_columns_0 (by decide) ?_
  refine lv_istore_n (lv' := [(2, .int 0), (0, .ref (g.2.2 + 70)), (1, .int x1)]) hx hb dX9_columns_1 rfl hl (Nat.le_of_ble_eq_true rfl) rfl (fun ls hl => ?_)
  refine lv_iconst (v := 0) hx hb dX9_columns_2 (by decide) ?_
  refine lv_istore_n (lv' := [(3, .int 0), (2, .int 0), (0, .ref (g.2.2 + 70)), (1, .int x1)]) hx hb dX9_columns_3 rfl hl (Nat.le_of_ble_eq_true rfl) rfl (fun ls hl => ?_)
  obtain ⟨q7, hq7, hf⟩ := bnd hf
  refine L4 I fuel 0 0 H locs ls _ hq7 hW (lv_sub hl [2, 3, 1, 0] rfl) (fun H locs ls hW hl => ?_)
  refine lv_iload_n hx hb dX9_columns_72 rfl (lv_at hl 0 rfl) ?_
  have hz := Option.some.inj hf
  exact aw_iret C0 hW hz rfl rfl dX9_columns_73
theorem cw_X9_283 {Rm : Room} {s : State} {args : Array Value} (ht : ∀ w ∈ GT, w.before args s = true) (hR : rmX9_columns.frames + 1 ≤ Rm.frames ∧ 8 + (5 + 11) + rmX9_columns.locals ≤ Rm.locals) : CallW Rm s args RX9 RX9 283 yX9_columns cX9_columns 5 (some .int) (Cond.code yX9_columns cX9_columns 5 (some .int) :: GT) rmX9_columns 0 0 1 := cwV 1 ht (goodV wd808 wd809 wd810 wd607 wd811) rfl rfl rfl ⟨rfl, by decide +kernel, by decide +kernel, by decide +kernel⟩ hR
def f_X9_writes (x1 : Int32) (I : Mem) : Option (Mem) :=
  (wr I 81 400 (I 70 19) x1).bind fun I1 =>
  some ((up I1 70 19 ((I1 70 19) + 1)))
abbrev rmX9_writes : Room := { frames := 0, cells := 0, slots := 0, locals := 0 }
set_option maxHeartbeats 4000000 in
set_option maxRecDepth 100000 in
theorem c_X9_writes {l : Launch} {g : Gam} {I : Mem} {R : Rem} {P : Pool} {Z : Zed} (x1 : Int32)  {z : Mem} (hf : f_X9_writes x1 I = some z) : Met l yX9_writes (Cond.code yX9_writes cX9_writes 2 none :: GT) rmX9_writes (va_Pc [.ref (g.2.2 + 70), .int x1] (PW g I R P Z)) (QV g z R P Z) 0 0 (AA g) := by
  refine aw_ofW (lv0 := [(0, .ref (g.2.2 + 70)), (1, .int x1)]) (by decide) (by exact Nat.le_of_ble_eq_true rfl) (by rfl) (fun p0 e s m args below meth c ls C0 hl hW => ?_)
  have C0 : CX g p0 s m args meth c RX9 cX9_writes 2 none := C0
  have hx := C0.1; have hb := C0.2.1; have hown := C0.2.2.2.2.1; have hts := C0.2.2.2.2.2.1; have hKS := C0.2.2.2.2.2.2.1
  unfold f_X9_writes at hf
  obtain ⟨H, hH⟩ : ∃ H, H = s.heap := ⟨_, rfl⟩
  obtain ⟨locs, hlc⟩ : ∃ q : List Loc, q = [] := ⟨_, rfl⟩
  rw [show W p0 l e rmX9_writes s m args below meth c s.heap [] 0 0 (MQ below (QV g z R P Z) args s 0 0 (AA g)) (F0 m 0 ls []) = W p0 l e rmX9_writes s m args below meth c H locs 0 0 (MQ below (QV g z R P Z) args s 0 0 (AA g)) (F0 m 0 ls []) by rw [hH, hlc]]
  have hW : Wd g I R P Z s.heap H locs := by rw [hH, hlc]; exact hW
  refine lv_aload_n hx hb dX9_writes_0 rfl (lv_at hl 0 rfl) ?_
  refine aw_get (v := .ref (g.2.2 + 81)) C0 hW (lv_fix (by decide)) (cel_8 kd70) rfl inG8 18 (by decide) wd76 rfl rfl dX9_writes_1 ?_
  refine lv_aload_n hx hb dX9_writes_4 rfl (lv_at hl 0 rfl) ?_
  refine aw_get (v := .int (I 70 19)) C0 hW (lv_fix (by decide)) (cel_8 kd70) rfl inG8 19 (by decide) wd77 rfl rfl dX9_writes_5 ?_
  refine lv_iload_n hx hb dX9_writes_8 rfl (lv_at hl 1 rfl) ?_
  obtain ⟨I1, hI1, hf⟩ := bnd hf
  refine aw_iast C0 hW kd81 ln81 hI1 dX9_writes_9 (fun H locs hW => ?_)
  refine lv_aload_n hx hb dX9_writes_10 rfl (lv_at hl 0 rfl) ?_
  refine lv_dup hx hb dX9_writes_11 rfl ?_
  refine aw_get (v := .int (I1 70 19)) C0 hW (lv_fix (by decide)) (cel_8 kd70) rfl inG8 19 (by decide) wd77 rfl rfl dX9_writes_12 ?_
  refine lv_iconst (v := 1) hx hb dX9_writes_15 (by decide) ?_
  refine lv_iadd hx hb dX9_writes_16 ?_
  refine aw_put C0 hW (lv_fix (by decide)) (cel_8 kd70) rfl inG8 tyX9 tyX9_ok nmX9 19 (by decide) wd77 rfl rfl (ty := .int) rfl rfl rfl (Nat.le_of_ble_eq_true rfl) (pu_8_19 kd70) dX9_writes_17 (fun H locs hW => ?_)
  have hz := Option.some.inj hf
  exact aw_vret C0 hW hz rfl dX9_writes_20
theorem cw_X9_259 {Rm : Room} {s : State} {args : Array Value} (ht : ∀ w ∈ GT, w.before args s = true) (hR : rmX9_writes.frames + 1 ≤ Rm.frames ∧ 8 + (2 + 11) + rmX9_writes.locals ≤ Rm.locals) : CallW Rm s args RX9 RX9 259 yX9_writes cX9_writes 2 none (Cond.code yX9_writes cX9_writes 2 none :: GT) rmX9_writes 0 0 1 := cwV 1 ht (goodV wd776 wd777 wd778 wd607 wd779) rfl rfl rfl ⟨rfl, by decide +kernel, by decide +kernel, by decide +kernel⟩ hR
def f_X9_signOf (x0 : Int32) : Option (Int32) :=
  some (((x0 - 4) / 1000) - ((x0 - 4) / 1000) / 4 * 4)
abbrev rmX9_signOf : Room := { frames := 0, cells := 0, slots := 0, locals := 0 }
set_option maxHeartbeats 4000000 in
set_option maxRecDepth 100000 in
theorem c_X9_signOf {l : Launch} {g : Gam} {I : Mem} {R : Rem} {P : Pool} {Z : Zed} (x0 : Int32)  {z : Int32} (hf : f_X9_signOf x0 = some z) : Met l yX9_signOf (Cond.code yX9_signOf cX9_signOf 1 (some .int) :: GT) rmX9_signOf (va_Pc [.int x0] (PW g I R P Z)) (QI g z I R P Z) 0 0 (AA g) := by
  refine aw_ofW (lv0 := [(0, .int x0)]) (by decide) (by exact Nat.le_of_ble_eq_true rfl) (by rfl) (fun p0 e s m args below meth c ls C0 hl hW => ?_)
  have C0 : CX g p0 s m args meth c RX9 cX9_signOf 1 (some .int) := C0
  have hx := C0.1; have hb := C0.2.1; have hown := C0.2.2.2.2.1; have hts := C0.2.2.2.2.2.1; have hKS := C0.2.2.2.2.2.2.1
  unfold f_X9_signOf at hf
  obtain ⟨H, hH⟩ : ∃ H, H = s.heap := ⟨_, rfl⟩
  obtain ⟨locs, hlc⟩ : ∃ q : List Loc, q = [] := ⟨_, rfl⟩
  rw [show W p0 l e rmX9_signOf s m args below meth c s.heap [] 0 0 (MQ below (QI g z I R P Z) args s 0 0 (AA g)) (F0 m 0 ls []) = W p0 l e rmX9_signOf s m args below meth c H locs 0 0 (MQ below (QI g z I R P Z) args s 0 0 (AA g)) (F0 m 0 ls []) by rw [hH, hlc]]
  have hW : Wd g I R P Z s.heap H locs := by rw [hH, hlc]; exact hW
  refine lv_iload_n hx hb dX9_signOf_0 rfl (lv_at hl 0 rfl) ?_
  refine lv_iconst (v := 4) hx hb dX9_signOf_1 (by decide) ?_
  refine lv_isub hx hb dX9_signOf_2 ?_
  refine lv_sipush (v := 1000) hx hb dX9_signOf_3 (by decide) ?_
  refine lv_idiv hx hb dX9_signOf_6 (by decide) ?_
  refine lv_iconst (v := 4) hx hb dX9_signOf_7 (by decide) ?_
  refine lv_irem hx hb dX9_signOf_8 (by decide) ?_
  have hz := Option.some.inj hf
  exact aw_iret C0 hW hz rfl rfl dX9_signOf_9
theorem cw_X9_77 {Rm : Room} {s : State} {args : Array Value} (ht : ∀ w ∈ GT, w.before args s = true) (hR : rmX9_signOf.frames + 1 ≤ Rm.frames ∧ 8 + (1 + 11) + rmX9_signOf.locals ≤ Rm.locals) : CallB Rm s args RX9 77 yX9_signOf cX9_signOf 1 (some .int) (Cond.code yX9_signOf cX9_signOf 1 (some .int) :: GT) rmX9_signOf 0 0 1 ∧ (Cond.static yX9_signOf).before args s = true := va_cwS 1 ht (goodS wd872 wd873 wd607 wd874) rfl rfl rfl ⟨by decide +kernel, by decide +kernel, by decide +kernel⟩ hR
def f_X9_writesTest (x1 : Int32) (I : Mem) : Option (Mem) :=
  (f_X9_columnOf x1).bind fun q1 =>
  (f_X9_writes (97 + q1) I).bind fun q2 =>
  (f_X9_signOf x1).bind fun q3 =>
  ((
    if q3 = 0 then (
      some 63
    ) else (
      if q3 = 1 then (
        some 61
      ) else (
        if q3 = 2 then (
          some 60
        ) else (
          some 62
        )
      )
    )
  ) : Option (Int32)).bind fun q4 =>
  (f_X9_writes q4 q2).bind fun q5 =>
  (f_X9_otherOf x1).bind fun q6 =>
  if q3 ≤ 0 then (
    if q3 ≤ 0 then (
      some q5
    ) else (
      ((
        if q6 ≤ 9 then (
          some q5
        ) else (
          (f_X9_writes (48 + (q6 / 10)) q5).bind fun q8 =>
          some q8
        )
      ) : Option (Mem)).bind fun q7 =>
      (f_X9_writes (48 + (q6 - q6 / 10 * 10)) q7).bind fun q9 =>
      some q9
    )
  ) else (
    if q6 < 100 then (
      if q3 ≤ 0 then (
        some q5
      ) else (
        ((
          if q6 ≤ 9 then (
            some q5
          ) else (
            (f_X9_writes (48 + (q6 / 10)) q5).bind fun q11 =>
            some q11
          )
        ) : Option (Mem)).bind fun q10 =>
        (f_X9_writes (48 + (q6 - q6 / 10 * 10)) q10).bind fun q12 =>
        some q12
      )
    ) else (
      (f_X9_writes ((97 + q6) - 100) q5).bind fun q13 =>
      some q13
    )
  )
abbrev rmX9_writesTest : Room := { frames := 1, cells := 0, slots := 0, locals := 21 }
set_option maxHeartbeats 4000000 in
set_option maxRecDepth 100000 in
theorem c_X9_writesTest {l : Launch} {g : Gam} {I : Mem} {R : Rem} {P : Pool} {Z : Zed} (x1 : Int32)  {z : Mem} (hf : f_X9_writesTest x1 I = some z) : Met l yX9_writesTest (Cond.code yX9_writesTest cX9_writesTest 4 none :: GT) rmX9_writesTest (va_Pc [.ref (g.2.2 + 70), .int x1] (PW g I R P Z)) (QV g z R P Z) 0 0 (AA g) := by
  refine aw_ofW (lv0 := [(0, .ref (g.2.2 + 70)), (1, .int x1)]) (by decide) (by exact Nat.le_of_ble_eq_true rfl) (by rfl) (fun p0 e s m args below meth c ls C0 hl hW => ?_)
  have C0 : CX g p0 s m args meth c RX9 cX9_writesTest 4 none := C0
  have hx := C0.1; have hb := C0.2.1; have hown := C0.2.2.2.2.1; have hts := C0.2.2.2.2.2.1; have hKS := C0.2.2.2.2.2.2.1
  unfold f_X9_writesTest at hf
  obtain ⟨H, hH⟩ : ∃ H, H = s.heap := ⟨_, rfl⟩
  obtain ⟨locs, hlc⟩ : ∃ q : List Loc, q = [] := ⟨_, rfl⟩
  rw [show W p0 l e rmX9_writesTest s m args below meth c s.heap [] 0 0 (MQ below (QV g z R P Z) args s 0 0 (AA g)) (F0 m 0 ls []) = W p0 l e rmX9_writesTest s m args below meth c H locs 0 0 (MQ below (QV g z R P Z) args s 0 0 (AA g)) (F0 m 0 ls []) by rw [hH, hlc]]
  have hW : Wd g I R P Z s.heap H locs := by rw [hH, hlc]; exact hW
  refine lv_aload_n hx hb dX9_writesTest_0 rfl (lv_at hl 0 rfl) ?_
  refine lv_bipush (v := 97) hx hb dX9_writesTest_1 (by decide) ?_
  refine lv_iload_n hx hb dX9_writesTest_3 rfl (lv_at hl 1 rfl) ?_
  obtain ⟨q1, hq1, hf⟩ := bnd hf
  refine aw_cSi (rest := [.int 97, .ref (g.2.2 + 70)]) C0 hW (c_X9_columnOf x1  hq1) (cw_X9_80 hts ⟨Nat.le_of_ble_eq_true rfl, Nat.le_of_ble_eq_true rfl⟩) rfl hl.1 rfl (Nat.le_of_ble_eq_true rfl) ⟨Nat.zero_le _, Nat.zero_le _⟩ dX9_writesTest_4 (fun H locs hW => ?_)
  refine lv_iadd hx hb dX9_writesTest_7 ?_
  obtain ⟨q2, hq2, hf⟩ := bnd hf
  refine aw_cVv (rest := []) C0 hW (lv_fix (by decide)) (cel_8 kd70) rfl (c_X9_writes (97 + q1)  hq2) (cw_X9_259 hts ⟨Nat.le_of_ble_eq_true rfl, Nat.le_of_ble_eq_true rfl⟩) rfl hl.1 rfl (Nat.le_of_ble_eq_true rfl) ⟨Nat.zero_le _, Nat.zero_le _⟩ dX9_writesTest_8 (fun H locs hW => ?_)
  refine lv_iload_n hx hb dX9_writesTest_11 rfl (lv_at hl 1 rfl) ?_
  obtain ⟨q3, hq3, hf⟩ := bnd hf
  refine aw_cSi (rest := []) C0 hW (c_X9_signOf x1  hq3) (cw_X9_77 hts ⟨Nat.le_of_ble_eq_true rfl, Nat.le_of_ble_eq_true rfl⟩) rfl hl.1 rfl (Nat.le_of_ble_eq_true rfl) ⟨Nat.zero_le _, Nat.zero_le _⟩ dX9_writesTest_12 (fun H locs hW => ?_)
  refine lv_istore_n (lv' := [(2, .int q3), (0, .ref (g.2.2 + 70)), (1, .int x1)]) hx hb dX9_writesTest_15 rfl hl (Nat.le_of_ble_eq_true rfl) rfl (fun ls hl => ?_)
  refine lv_aload_n hx hb dX9_writesTest_16 rfl (lv_at hl 1 rfl) ?_
  refine lv_iload_n hx hb dX9_writesTest_17 rfl (lv_at hl 0 rfl) ?_
  obtain ⟨q4, hq4, hf⟩ := bnd hf
  have J48_q4 : ∀ (H : Heap) (locs : List Loc) (ls : Array Slot), Wd g q2 R P Z s.heap H locs → lv_has ls 4 [(0, .ref (g.2.2 + 70)), (1, .int x1), (2, .int q3)] → W p0 l e rmX9_writesTest s m args below meth c H locs 0 0 (MQ below (QV g z R P Z) args s 0 0 (AA g)) (F0 m 48 ls ([.int q4, .ref (g.2.2 + 70)])) := by
    intro H locs ls hW hl
    obtain ⟨q5, hq5, hf⟩ := bnd hf
    refine aw_cVv (rest := []) C0 hW (lv_fix (by decide)) (cel_8 kd70) rfl (c_X9_writes q4  hq5) (cw_X9_259 hts ⟨Nat.le_of_ble_eq_true rfl, Nat.le_of_ble_eq_true rfl⟩) rfl hl.1 rfl (Nat.le_of_ble_eq_true rfl) ⟨Nat.zero_le _, Nat.zero_le _⟩ dX9_writesTest_48 (fun H locs hW => ?_)
    refine lv_iload_n hx hb dX9_writesTest_51 rfl (lv_at hl 1 rfl) ?_
    obtain ⟨q6, hq6, hf⟩ := bnd hf
    refine aw_cSi (rest := []) C0 hW (c_X9_otherOf x1  hq6) (cw_X9_83 hts ⟨Nat.le_of_ble_eq_true rfl, Nat.le_of_ble_eq_true rfl⟩) rfl hl.1 rfl (Nat.le_of_ble_eq_true rfl) ⟨Nat.zero_le _, Nat.zero_le _⟩ dX9_writesTest_52 (fun H locs hW => ?_)
    refine lv_istore_n (lv' := [(3, .int q6), (0, .ref (g.2.2 + 70)), (1, .int x1), (2, .int q3)]) hx hb dX9_writesTest_55 rfl hl (Nat.le_of_ble_eq_true rfl) rfl (fun ls hl => ?_)
    refine lv_iload_n hx hb dX9_writesTest_56 rfl (lv_at hl 3 rfl) ?_
    refine lv_if_le (tgt := 80) hx hb dX9_writesTest_57 rfl (fun hc => ?_) (fun hc => ?_)
    · have hf := ift hc hf
      refine lv_iload_n hx hb dX9_writesTest_80 rfl (lv_at hl 3 rfl) ?_
      refine lv_if_le (tgt := 112) hx hb dX9_writesTest_81 rfl (fun hc => ?_) (fun hc => ?_)
      · have hf := ift hc hf
        have hz := Option.some.inj hf
        exact aw_vret C0 hW hz rfl dX9_writesTest_112
      · have hf := iff_ hc hf
        refine lv_iload_n hx hb dX9_writesTest_84 rfl (lv_at hl 0 rfl) ?_
        refine lv_bipush (v := 9) hx hb dX9_writesTest_85 (by decide) ?_
        obtain ⟨q7, hq7, hf⟩ := bnd hf
        have J101_q7 : ∀ (H : Heap) (locs : List Loc) (ls : Array Slot), Wd g q7 R P Z s.heap H locs → lv_has ls 4 [(0, .ref (g.2.2 + 70)), (3, .int q6)] → W p0 l e rmX9_writesTest s m args below meth c H locs 0 0 (MQ below (QV g z R P Z) args s 0 0 (AA g)) (F0 m 101 ls ([])) := by
          intro H locs ls hW hl
          refine lv_aload_n hx hb dX9_writesTest_101 rfl (lv_at hl 0 rfl) ?_
          refine lv_bipush (v := 48) hx hb dX9_writesTest_102 (by decide) ?_
          refine lv_iload_n hx hb dX9_writesTest_104 rfl (lv_at hl 1 rfl) ?_
          refine lv_bipush (v := 10) hx hb dX9_writesTest_105 (by decide) ?_
          refine lv_irem hx hb dX9_writesTest_107 (by decide) ?_
          refine lv_iadd hx hb dX9_writesTest_108 ?_
          obtain ⟨q9, hq9, hf⟩ := bnd hf
          refine aw_cVv (rest := []) C0 hW (lv_fix (by decide)) (cel_8 kd70) rfl (c_X9_writes (48 + (q6 - q6 / 10 * 10))  hq9) (cw_X9_259 hts ⟨Nat.le_of_ble_eq_true rfl, Nat.le_of_ble_eq_true rfl⟩) rfl hl.1 rfl (Nat.le_of_ble_eq_true rfl) ⟨Nat.zero_le _, Nat.zero_le _⟩ dX9_writesTest_109 (fun H locs hW => ?_)
          have hz := Option.some.inj hf
          exact aw_vret C0 hW hz rfl dX9_writesTest_112
        have hf := hq7
        refine lv_icmp_le (tgt := 101) hx hb dX9_writesTest_87 rfl (fun hc => ?_) (fun hc => ?_)
        · have hf := ift hc hf
          have ho := Option.some.inj hf
          subst ho
          exact J101_q7 H locs ls hW (lv_sub hl [1, 0] rfl)
        · have hf := iff_ hc hf
          refine lv_aload_n hx hb dX9_writesTest_90 rfl (lv_at hl 1 rfl) ?_
          refine lv_bipush (v := 48) hx hb dX9_writesTest_91 (by decide) ?_
          refine lv_iload_n hx hb dX9_writesTest_93 rfl (lv_at hl 0 rfl) ?_
          refine lv_bipush (v := 10) hx hb dX9_writesTest_94 (by decide) ?_
          refine lv_idiv hx hb dX9_writesTest_96 (by decide) ?_
          refine lv_iadd hx hb dX9_writesTest_97 ?_
          obtain ⟨q8, hq8, hf⟩ := bnd hf
          refine aw_cVv (rest := []) C0 hW (lv_fix (by decide)) (cel_8 kd70) rfl (c_X9_writes (48 + (q6 / 10))  hq8) (cw_X9_259 hts ⟨Nat.le_of_ble_eq_true rfl, Nat.le_of_ble_eq_true rfl⟩) rfl hl.1 rfl (Nat.le_of_ble_eq_true rfl) ⟨Nat.zero_le _, Nat.zero_le _⟩ dX9_writesTest_98 (fun H locs hW => ?_)
          have ho := Option.some.inj hf
          subst ho
          exact J101_q7 H locs ls hW (lv_sub hl [1, 0] rfl)
    · have hf := iff_ hc hf
      refine lv_iload_n hx hb dX9_writesTest_60 rfl (lv_at hl 0 rfl) ?_
      refine lv_bipush (v := 100) hx hb dX9_writesTest_61 (by decide) ?_
      refine lv_icmp_lt (tgt := 80) hx hb dX9_writesTest_63 rfl (fun hc => ?_) (fun hc => ?_)
      · have hf := ift hc hf
        refine lv_iload_n hx hb dX9_writesTest_80 rfl (lv_at hl 3 rfl) ?_
        refine lv_if_le (tgt := 112) hx hb dX9_writesTest_81 rfl (fun hc => ?_) (fun hc => ?_)
        · have hf := ift hc hf
          have hz := Option.some.inj hf
          exact aw_vret C0 hW hz rfl dX9_writesTest_112
        · have hf := iff_ hc hf
          refine lv_iload_n hx hb dX9_writesTest_84 rfl (lv_at hl 0 rfl) ?_
          refine lv_bipush (v := 9) hx hb dX9_writesTest_85 (by decide) ?_
          obtain ⟨q10, hq10, hf⟩ := bnd hf
          have J101_q10 : ∀ (H : Heap) (locs : List Loc) (ls : Array Slot), Wd g q10 R P Z s.heap H locs → lv_has ls 4 [(0, .ref (g.2.2 + 70)), (3, .int q6)] → W p0 l e rmX9_writesTest s m args below meth c H locs 0 0 (MQ below (QV g z R P Z) args s 0 0 (AA g)) (F0 m 101 ls ([])) := by
            intro H locs ls hW hl
            refine lv_aload_n hx hb dX9_writesTest_101 rfl (lv_at hl 0 rfl) ?_
            refine lv_bipush (v := 48) hx hb dX9_writesTest_102 (by decide) ?_
            refine lv_iload_n hx hb dX9_writesTest_104 rfl (lv_at hl 1 rfl) ?_
            refine lv_bipush (v := 10) hx hb dX9_writesTest_105 (by decide) ?_
            refine lv_irem hx hb dX9_writesTest_107 (by decide) ?_
            refine lv_iadd hx hb dX9_writesTest_108 ?_
            obtain ⟨q12, hq12, hf⟩ := bnd hf
            refine aw_cVv (rest := []) C0 hW (lv_fix (by decide)) (cel_8 kd70) rfl (c_X9_writes (48 + (q6 - q6 / 10 * 10))  hq12) (cw_X9_259 hts ⟨Nat.le_of_ble_eq_true rfl, Nat.le_of_ble_eq_true rfl⟩) rfl hl.1 rfl (Nat.le_of_ble_eq_true rfl) ⟨Nat.zero_le _, Nat.zero_le _⟩ dX9_writesTest_109 (fun H locs hW => ?_)
            have hz := Option.some.inj hf
            exact aw_vret C0 hW hz rfl dX9_writesTest_112
          have hf := hq10
          refine lv_icmp_le (tgt := 101) hx hb dX9_writesTest_87 rfl (fun hc => ?_) (fun hc => ?_)
          · have hf := ift hc hf
            have ho := Option.some.inj hf
            subst ho
            exact J101_q10 H locs ls hW (lv_sub hl [1, 0] rfl)
          · have hf := iff_ hc hf
            refine lv_aload_n hx hb dX9_writesTest_90 rfl (lv_at hl 1 rfl) ?_
            refine lv_bipush (v := 48) hx hb dX9_writesTest_91 (by decide) ?_
            refine lv_iload_n hx hb dX9_writesTest_93 rfl (lv_at hl 0 rfl) ?_
            refine lv_bipush (v := 10) hx hb dX9_writesTest_94 (by decide) ?_
            refine lv_idiv hx hb dX9_writesTest_96 (by decide) ?_
            refine lv_iadd hx hb dX9_writesTest_97 ?_
            obtain ⟨q11, hq11, hf⟩ := bnd hf
            refine aw_cVv (rest := []) C0 hW (lv_fix (by decide)) (cel_8 kd70) rfl (c_X9_writes (48 + (q6 / 10))  hq11) (cw_X9_259 hts ⟨Nat.le_of_ble_eq_true rfl, Nat.le_of_ble_eq_true rfl⟩) rfl hl.1 rfl (Nat.le_of_ble_eq_true rfl) ⟨Nat.zero_le _, Nat.zero_le _⟩ dX9_writesTest_98 (fun H locs hW => ?_)
            have ho := Option.some.inj hf
            subst ho
            exact J101_q10 H locs ls hW (lv_sub hl [1, 0] rfl)
      · have hf := iff_ hc hf
        refine lv_aload_n hx hb dX9_writesTest_66 rfl (lv_at hl 1 rfl) ?_
        refine lv_bipush (v := 97) hx hb dX9_writesTest_67 (by decide) ?_
        refine lv_iload_n hx hb dX9_writesTest_69 rfl (lv_at hl 0 rfl) ?_
        refine lv_iadd hx hb dX9_writesTest_70 ?_
        refine lv_bipush (v := 100) hx hb dX9_writesTest_71 (by decide) ?_
        refine lv_isub hx hb dX9_writesTest_73 ?_
        obtain ⟨q13, hq13, hf⟩ := bnd hf
        refine aw_cVv (rest := []) C0 hW (lv_fix (by decide)) (cel_8 kd70) rfl (c_X9_writes ((97 + q6) - 100)  hq13) (cw_X9_259 hts ⟨Nat.le_of_ble_eq_true rfl, Nat.le_of_ble_eq_true rfl⟩) rfl hl.1 rfl (Nat.le_of_ble_eq_true rfl) ⟨Nat.zero_le _, Nat.zero_le _⟩ dX9_writesTest_74 (fun H locs hW => ?_)
        refine lv_goto (tgt := 112) hx hb dX9_writesTest_77 rfl ?_
        have hz := Option.some.inj hf
        exact aw_vret C0 hW hz rfl dX9_writesTest_112
  have hf := hq4
  refine lv_if_ne (tgt := 26) hx hb dX9_writesTest_18 rfl (fun hc => ?_) (fun hc => ?_)
  · have hf := iff_ hc hf
    refine lv_iload_n hx hb dX9_writesTest_26 rfl (lv_at hl 0 rfl) ?_
    refine lv_iconst (v := 1) hx hb dX9_writesTest_27 (by decide) ?_
    refine lv_icmp_ne (tgt := 36) hx hb dX9_writesTest_28 rfl (fun hc => ?_) (fun hc => ?_)
    · have hf := iff_ hc hf
      refine lv_iload_n hx hb dX9_writesTest_36 rfl (lv_at hl 0 rfl) ?_
      refine lv_iconst (v := 2) hx hb dX9_writesTest_37 (by decide) ?_
      refine lv_icmp_ne (tgt := 46) hx hb dX9_writesTest_38 rfl (fun hc => ?_) (fun hc => ?_)
      · have hf := iff_ hc hf
        refine lv_bipush (v := 62) hx hb dX9_writesTest_46 (by decide) ?_
        have ho := Option.some.inj hf
        subst ho
        exact J48_q4 H locs ls hW (lv_sub hl [1, 2, 0] rfl)
      · have hf := ift hc hf
        refine lv_bipush (v := 60) hx hb dX9_writesTest_41 (by decide) ?_
        refine lv_goto (tgt := 48) hx hb dX9_writesTest_43 rfl ?_
        have ho := Option.some.inj hf
        subst ho
        exact J48_q4 H locs ls hW (lv_sub hl [1, 2, 0] rfl)
    · have hf := ift hc hf
      refine lv_bipush (v := 61) hx hb dX9_writesTest_31 (by decide) ?_
      refine lv_goto (tgt := 48) hx hb dX9_writesTest_33 rfl ?_
      have ho := Option.some.inj hf
      subst ho
      exact J48_q4 H locs ls hW (lv_sub hl [1, 2, 0] rfl)
  · have hf := ift hc hf
    refine lv_bipush (v := 63) hx hb dX9_writesTest_21 (by decide) ?_
    refine lv_goto (tgt := 48) hx hb dX9_writesTest_23 rfl ?_
    have ho := Option.some.inj hf
    subst ho
    exact J48_q4 H locs ls hW (lv_sub hl [1, 2, 0] rfl)
theorem cw_X9_268 {Rm : Room} {s : State} {args : Array Value} (ht : ∀ w ∈ GT, w.before args s = true) (hR : rmX9_writesTest.frames + 1 ≤ Rm.frames ∧ 8 + (4 + 11) + rmX9_writesTest.locals ≤ Rm.locals) : CallW Rm s args RX9 RX9 268 yX9_writesTest cX9_writesTest 4 none (Cond.code yX9_writesTest cX9_writesTest 4 none :: GT) rmX9_writesTest 0 0 1 := cwV 1 ht (goodV wd788 wd789 wd790 wd607 wd791) rfl rfl rfl ⟨rfl, by decide +kernel, by decide +kernel, by decide +kernel⟩ hR
def f_X9_inserts_L5 (x1 : Int32) (x2 : Int32) : Nat → Int32 → Mem → Option (Mem)
  | 0, _, _ => none
  | n + 1, w3, I =>
    if w3 ≤ x1 then (
      some I
    ) else (
      (rd I 81 400 (w3 - 1)).bind fun v1 =>
      (wr I 81 400 w3 v1).bind fun I2 =>
      f_X9_inserts_L5 x1 x2 n (w3 + (-1)) I2
    )
def f_X9_inserts (x1 : Int32) (x2 : Int32) (I : Mem) : Option (Mem) :=
  (f_X9_inserts_L5 x1 x2 fuel (I 70 19) I).bind fun q3 =>
  (wr q3 81 400 x1 x2).bind fun I4 =>
  some ((up I4 70 19 ((I4 70 19) + 1)))
abbrev rmX9_inserts : Room := { frames := 0, cells := 0, slots := 0, locals := 0 }
set_option maxHeartbeats 4000000 in
set_option maxRecDepth 100000 in
theorem c_X9_inserts {l : Launch} {g : Gam} {I : Mem} {R : Rem} {P : Pool} {Z : Zed} (x1 : Int32) (x2 : Int32)  {z : Mem} (hf : f_X9_inserts x1 x2 I = some z) : Met l yX9_inserts (Cond.code yX9_inserts cX9_inserts 4 none :: GT) rmX9_inserts (va_Pc [.ref (g.2.2 + 70), .int x1, .int x2] (PW g I R P Z)) (QV g z R P Z) 0 0 (AA g) := by
  refine aw_ofW (lv0 := [(0, .ref (g.2.2 + 70)), (1, .int x1), (2, .int x2)]) (by decide) (by exact Nat.le_of_ble_eq_true rfl) (by rfl) (fun p0 e s m args below meth c ls C0 hl hW => ?_)
  have C0 : CX g p0 s m args meth c RX9 cX9_inserts 4 none := C0
  have hx := C0.1; have hb := C0.2.1; have hown := C0.2.2.2.2.1; have hts := C0.2.2.2.2.2.1; have hKS := C0.2.2.2.2.2.2.1
  have L5 : ∀ (n : Nat) (w3 : Int32) (I : Mem) (H : Heap) (locs : List Loc) (ls : Array Slot) (o : Mem), f_X9_inserts_L5 x1 x2 n w3 I = some o → Wd g I R P Z s.heap H locs → lv_has ls 4 [(0, .ref (g.2.2 + 70)), (1, .int x1), (2, .int x2), (3, .int w3)] → (∀ (H : Heap) (locs : List Loc) (ls : Array Slot), Wd g o R P Z s.heap H locs → lv_has ls 4 [(0, .ref (g.2.2 + 70)), (1, .int x1), (2, .int x2)] → W p0 l e rmX9_inserts s m args below meth c H locs 0 0 (MQ below (QV g z R P Z) args s 0 0 (AA g)) (F0 m 30 ls [])) → W p0 l e rmX9_inserts s m args below meth c H locs 0 0 (MQ below (QV g z R P Z) args s 0 0 (AA g)) (F0 m 5 ls []) := by
    intro n
    induction n with
    | zero => intro w3 I H locs ls o hf; cases hf
    | succ n ih =>
      intro w3 I H locs ls o hf hW hl hK
      rw [f_X9_inserts_L5] at hf
      refine lv_iload_n hx hb dX9_inserts_5 rfl (lv_at hl 3 rfl) ?_
      refine lv_iload_n hx hb dX9_inserts_6 rfl (lv_at hl 1 rfl) ?_
      refine lv_icmp_le (tgt := 30) hx hb dX9_inserts_7 rfl (fun hc => ?_) (fun hc => ?_)
      · have hf := ift hc hf
        have ho := Option.some.inj hf
        subst ho
        exact hK H locs ls hW (lv_sub hl [0, 1, 2] rfl)
      · have hf := iff_ hc hf
        refine lv_aload_n hx hb dX9_inserts_10 rfl (lv_at hl 0 rfl) ?_
        refine aw_get (v := .ref (g.2.2 + 81)) C0 hW (lv_fix (by decide)) (cel_8 kd70) rfl inG8 18 (by decide) wd76 rfl rfl dX9_inserts_11 ?_
        refine lv_iload_n hx hb dX9_inserts_14 rfl (lv_at hl 3 rfl) ?_
        refine lv_aload_n hx hb dX9_inserts_15 rfl (lv_at hl 0 rfl) ?_
        refine aw_get (v := .ref (g.2.2 + 81)) C0 hW (lv_fix (by decide)) (cel_8 kd70) rfl inG8 18 (by decide) wd76 rfl rfl dX9_inserts_16 ?_
        refine lv_iload_n hx hb dX9_inserts_19 rfl (lv_at hl 3 rfl) ?_
        refine lv_iconst (v := 1) hx hb dX9_inserts_20 (by decide) ?_
        refine lv_isub hx hb dX9_inserts_21 ?_
        obtain ⟨v1, hv1, hf⟩ := bnd hf
        refine aw_iald C0 hW kd81 ln81 hv1 dX9_inserts_22 ?_
        obtain ⟨I2, hI2, hf⟩ := bnd hf
        refine aw_iast C0 hW kd81 ln81 hI2 dX9_inserts_23 (fun H locs hW => ?_)
        refine lv_iinc (k := 3) (v := w3 + (-1)) (lv' := [(3, .int (w3 + (-1))), (0, .ref (g.2.2 + 70)), (1, .int x1), (2, .int x2)]) hx hb dX9_inserts_24 hl rfl (congrArg (fun t => w3 + t) (by decide : Int32.ofInt (-1) = (-1))) (Nat.le_of_ble_eq_true rfl) rfl (fun ls hl => ?_)
        refine lv_goto (tgt := 5) hx hb dX9_inserts_27 rfl ?_
        exact ih _ _ H locs ls o hf hW (lv_sub hl [1, 2, 3, 0] rfl) hK
  unfold f_X9_inserts at hf
  obtain ⟨H, hH⟩ : ∃ H, H = s.heap := ⟨_, rfl⟩
  obtain ⟨locs, hlc⟩ : ∃ q : List Loc, q = [] := ⟨_, rfl⟩
  rw [show W p0 l e rmX9_inserts s m args below meth c s.heap [] 0 0 (MQ below (QV g z R P Z) args s 0 0 (AA g)) (F0 m 0 ls []) = W p0 l e rmX9_inserts s m args below meth c H locs 0 0 (MQ below (QV g z R P Z) args s 0 0 (AA g)) (F0 m 0 ls []) by rw [hH, hlc]]
  have hW : Wd g I R P Z s.heap H locs := by rw [hH, hlc]; exact hW
  refine lv_aload_n hx hb dX9_inserts_0 rfl (lv_at hl 0 rfl) ?_
  refine aw_get (v := .int (I 70 19)) C0 hW (lv_fix (by decide)) (cel_8 kd70) rfl inG8 19 (by decide) wd77 rfl rfl dX9_inserts_1 ?_
  refine lv_istore_n (lv' := [(3, .int (I 70 19)), (0, .ref (g.2.2 + 70)), (1, .int x1), (2, .int x2)]) hx hb dX9_inserts_4 rfl hl (Nat.le_of_ble_eq_true rfl) rfl (fun ls hl => ?_)
  obtain ⟨q3, hq3, hf⟩ := bnd hf
  refine L5  fuel (I 70 19) I H locs ls _ hq3 hW (lv_sub hl [1, 2, 3, 0] rfl) (fun H locs ls hW hl => ?_)
  refine lv_aload_n hx hb dX9_inserts_30 rfl (lv_at hl 0 rfl) ?_
  refine aw_get (v := .ref (g.2.2 + 81)) C0 hW (lv_fix (by decide)) (cel_8 kd70) rfl inG8 18 (by decide) wd76 rfl rfl dX9_inserts_31 ?_
  refine lv_iload_n hx hb dX9_inserts_34 rfl (lv_at hl 1 rfl) ?_
  refine lv_iload_n hx hb dX9_inserts_35 rfl (lv_at hl 2 rfl) ?_
  obtain ⟨I4, hI4, hf⟩ := bnd hf
  refine aw_iast C0 hW kd81 ln81 hI4 dX9_inserts_36 (fun H locs hW => ?_)
  refine lv_aload_n hx hb dX9_inserts_37 rfl (lv_at hl 0 rfl) ?_
  refine lv_dup hx hb dX9_inserts_38 rfl ?_
  refine aw_get (v := .int (I4 70 19)) C0 hW (lv_fix (by decide)) (cel_8 kd70) rfl inG8 19 (by decide) wd77 rfl rfl dX9_inserts_39 ?_
  refine lv_iconst (v := 1) hx hb dX9_inserts_42 (by decide) ?_
  refine lv_iadd hx hb dX9_inserts_43 ?_
  refine aw_put C0 hW (lv_fix (by decide)) (cel_8 kd70) rfl inG8 tyX9 tyX9_ok nmX9 19 (by decide) wd77 rfl rfl (ty := .int) rfl rfl rfl (Nat.le_of_ble_eq_true rfl) (pu_8_19 kd70) dX9_inserts_44 (fun H locs hW => ?_)
  have hz := Option.some.inj hf
  exact aw_vret C0 hW hz rfl dX9_inserts_47
theorem cw_X9_262 {Rm : Room} {s : State} {args : Array Value} (ht : ∀ w ∈ GT, w.before args s = true) (hR : rmX9_inserts.frames + 1 ≤ Rm.frames ∧ 8 + (4 + 11) + rmX9_inserts.locals ≤ Rm.locals) : CallW Rm s args RX9 RX9 262 yX9_inserts cX9_inserts 4 none (Cond.code yX9_inserts cX9_inserts 4 none :: GT) rmX9_inserts 0 0 2 := cwV 2 ht (goodV wd780 wd781 wd782 wd607 wd783) rfl rfl rfl ⟨rfl, by decide +kernel, by decide +kernel, by decide +kernel⟩ hR
def f_X9_encloses (x1 : Int32) (x2 : Int32) (I : Mem) : Option (Mem) :=
  (f_X9_inserts x2 41 I).bind fun q1 =>
  (f_X9_inserts x1 40 q1).bind fun q2 =>
  some q2
abbrev rmX9_encloses : Room := { frames := 1, cells := 0, slots := 0, locals := 23 }
set_option maxHeartbeats 4000000 in
set_option maxRecDepth 100000 in
theorem c_X9_encloses {l : Launch} {g : Gam} {I : Mem} {R : Rem} {P : Pool} {Z : Zed} (x1 : Int32) (x2 : Int32)  {z : Mem} (hf : f_X9_encloses x1 x2 I = some z) : Met l yX9_encloses (Cond.code yX9_encloses cX9_encloses 3 none :: GT) rmX9_encloses (va_Pc [.ref (g.2.2 + 70), .int x1, .int x2] (PW g I R P Z)) (QV g z R P Z) 0 0 (AA g) := by
  refine aw_ofW (lv0 := [(0, .ref (g.2.2 + 70)), (1, .int x1), (2, .int x2)]) (by decide) (by exact Nat.le_of_ble_eq_true rfl) (by rfl) (fun p0 e s m args below meth c ls C0 hl hW => ?_)
  have C0 : CX g p0 s m args meth c RX9 cX9_encloses 3 none := C0
  have hx := C0.1; have hb := C0.2.1; have hown := C0.2.2.2.2.1; have hts := C0.2.2.2.2.2.1; have hKS := C0.2.2.2.2.2.2.1
  unfold f_X9_encloses at hf
  obtain ⟨H, hH⟩ : ∃ H, H = s.heap := ⟨_, rfl⟩
  obtain ⟨locs, hlc⟩ : ∃ q : List Loc, q = [] := ⟨_, rfl⟩
  rw [show W p0 l e rmX9_encloses s m args below meth c s.heap [] 0 0 (MQ below (QV g z R P Z) args s 0 0 (AA g)) (F0 m 0 ls []) = W p0 l e rmX9_encloses s m args below meth c H locs 0 0 (MQ below (QV g z R P Z) args s 0 0 (AA g)) (F0 m 0 ls []) by rw [hH, hlc]]
  have hW : Wd g I R P Z s.heap H locs := by rw [hH, hlc]; exact hW
  refine lv_aload_n hx hb dX9_encloses_0 rfl (lv_at hl 0 rfl) ?_
  refine lv_iload_n hx hb dX9_encloses_1 rfl (lv_at hl 2 rfl) ?_
  refine lv_bipush (v := 41) hx hb dX9_encloses_2 (by decide) ?_
  obtain ⟨q1, hq1, hf⟩ := bnd hf
  refine aw_cVv (rest := []) C0 hW (lv_fix (by decide)) (cel_8 kd70) rfl (c_X9_inserts x2 41  hq1) (cw_X9_262 hts ⟨Nat.le_of_ble_eq_true rfl, Nat.le_of_ble_eq_true rfl⟩) rfl hl.1 rfl (Nat.le_of_ble_eq_true rfl) ⟨Nat.zero_le _, Nat.zero_le _⟩ dX9_encloses_4 (fun H locs hW => ?_)
  refine lv_aload_n hx hb dX9_encloses_7 rfl (lv_at hl 0 rfl) ?_
  refine lv_iload_n hx hb dX9_encloses_8 rfl (lv_at hl 1 rfl) ?_
  refine lv_bipush (v := 40) hx hb dX9_encloses_9 (by decide) ?_
  obtain ⟨q2, hq2, hf⟩ := bnd hf
  refine aw_cVv (rest := []) C0 hW (lv_fix (by decide)) (cel_8 kd70) rfl (c_X9_inserts x1 40  hq2) (cw_X9_262 hts ⟨Nat.le_of_ble_eq_true rfl, Nat.le_of_ble_eq_true rfl⟩) rfl hl.1 rfl (Nat.le_of_ble_eq_true rfl) ⟨Nat.zero_le _, Nat.zero_le _⟩ dX9_encloses_11 (fun H locs hW => ?_)
  have hz := Option.some.inj hf
  exact aw_vret C0 hW hz rfl dX9_encloses_14
theorem cw_X9_265 {Rm : Room} {s : State} {args : Array Value} (ht : ∀ w ∈ GT, w.before args s = true) (hR : rmX9_encloses.frames + 1 ≤ Rm.frames ∧ 8 + (3 + 11) + rmX9_encloses.locals ≤ Rm.locals) : CallW Rm s args RX9 RX9 265 yX9_encloses cX9_encloses 3 none (Cond.code yX9_encloses cX9_encloses 3 none :: GT) rmX9_encloses 0 0 2 := cwV 2 ht (goodV wd784 wd785 wd786 wd607 wd787) rfl rfl rfl ⟨rfl, by decide +kernel, by decide +kernel, by decide +kernel⟩ hR
def f_X9_writesNot (I : Mem) : Option (Mem) :=
  (rd I 82 60 ((I 70 11) - 1)).bind fun v1 =>
  (rd I 78 60 ((I 70 11) - 1)).bind fun v2 =>
  ((
    if v2 = 1 then (
      (f_X9_encloses v1 (I 70 19) I).bind fun q4 =>
      some q4
    ) else (
      (rd I 78 60 ((I 70 11) - 1)).bind fun v5 =>
      if v5 = 2 then (
        (f_X9_encloses v1 (I 70 19) I).bind fun q6 =>
        some q6
      ) else (
        some I
      )
    )
  ) : Option (Mem)).bind fun q3 =>
  (f_X9_inserts v1 33 q3).bind fun q7 =>
  (wr q7 78 60 ((q7 70 11) - 1) 0).bind fun I8 =>
  some I8
abbrev rmX9_writesNot : Room := { frames := 2, cells := 0, slots := 0, locals := 45 }
set_option maxHeartbeats 4000000 in
set_option maxRecDepth 100000 in
theorem c_X9_writesNot {l : Launch} {g : Gam} {I : Mem} {R : Rem} {P : Pool} {Z : Zed}   {z : Mem} (hf : f_X9_writesNot I = some z) : Met l yX9_writesNot (Cond.code yX9_writesNot cX9_writesNot 2 none :: GT) rmX9_writesNot (va_Pc [.ref (g.2.2 + 70)] (PW g I R P Z)) (QV g z R P Z) 0 0 (AA g) := by
  refine aw_ofW (lv0 := [(0, .ref (g.2.2 + 70))]) (by decide) (by exact Nat.le_of_ble_eq_true rfl) (by rfl) (fun p0 e s m args below meth c ls C0 hl hW => ?_)
  have C0 : CX g p0 s m args meth c RX9 cX9_writesNot 2 none := C0
  have hx := C0.1; have hb := C0.2.1; have hown := C0.2.2.2.2.1; have hts := C0.2.2.2.2.2.1; have hKS := C0.2.2.2.2.2.2.1
  unfold f_X9_writesNot at hf
  obtain ⟨H, hH⟩ : ∃ H, H = s.heap := ⟨_, rfl⟩
  obtain ⟨locs, hlc⟩ : ∃ q : List Loc, q = [] := ⟨_, rfl⟩
  rw [show W p0 l e rmX9_writesNot s m args below meth c s.heap [] 0 0 (MQ below (QV g z R P Z) args s 0 0 (AA g)) (F0 m 0 ls []) = W p0 l e rmX9_writesNot s m args below meth c H locs 0 0 (MQ below (QV g z R P Z) args s 0 0 (AA g)) (F0 m 0 ls []) by rw [hH, hlc]]
  have hW : Wd g I R P Z s.heap H locs := by rw [hH, hlc]; exact hW
  refine lv_aload_n hx hb dX9_writesNot_0 rfl (lv_at hl 0 rfl) ?_
  refine aw_get (v := .ref (g.2.2 + 82)) C0 hW (lv_fix (by decide)) (cel_8 kd70) rfl inG8 20 (by decide) wd78 rfl rfl dX9_writesNot_1 ?_
  refine lv_aload_n hx hb dX9_writesNot_4 rfl (lv_at hl 0 rfl) ?_
  refine aw_get (v := .int (I 70 11)) C0 hW (lv_fix (by decide)) (cel_8 kd70) rfl inG8 11 (by decide) wd74 rfl rfl dX9_writesNot_5 ?_
  refine lv_iconst (v := 1) hx hb dX9_writesNot_8 (by decide) ?_
  refine lv_isub hx hb dX9_writesNot_9 ?_
  obtain ⟨v1, hv1, hf⟩ := bnd hf
  refine aw_iald C0 hW kd82 ln82 hv1 dX9_writesNot_10 ?_
  refine lv_istore_n (lv' := [(1, .int v1), (0, .ref (g.2.2 + 70))]) hx hb dX9_writesNot_11 rfl hl (Nat.le_of_ble_eq_true rfl) rfl (fun ls hl => ?_)
  refine lv_aload_n hx hb dX9_writesNot_12 rfl (lv_at hl 1 rfl) ?_
  refine aw_get (v := .ref (g.2.2 + 78)) C0 hW (lv_fix (by decide)) (cel_8 kd70) rfl inG8 10 (by decide) wd75 rfl rfl dX9_writesNot_13 ?_
  refine lv_aload_n hx hb dX9_writesNot_16 rfl (lv_at hl 1 rfl) ?_
  refine aw_get (v := .int (I 70 11)) C0 hW (lv_fix (by decide)) (cel_8 kd70) rfl inG8 11 (by decide) wd74 rfl rfl dX9_writesNot_17 ?_
  refine lv_iconst (v := 1) hx hb dX9_writesNot_20 (by decide) ?_
  refine lv_isub hx hb dX9_writesNot_21 ?_
  obtain ⟨v2, hv2, hf⟩ := bnd hf
  refine aw_iald C0 hW kd78 ln78 hv2 dX9_writesNot_22 ?_
  refine lv_iconst (v := 1) hx hb dX9_writesNot_23 (by decide) ?_
  obtain ⟨q3, hq3, hf⟩ := bnd hf
  have J51_q3 : ∀ (H : Heap) (locs : List Loc) (ls : Array Slot), Wd g q3 R P Z s.heap H locs → lv_has ls 2 [(0, .ref (g.2.2 + 70)), (1, .int v1)] → W p0 l e rmX9_writesNot s m args below meth c H locs 0 0 (MQ below (QV g z R P Z) args s 0 0 (AA g)) (F0 m 51 ls ([])) := by
    intro H locs ls hW hl
    refine lv_aload_n hx hb dX9_writesNot_51 rfl (lv_at hl 0 rfl) ?_
    refine lv_iload_n hx hb dX9_writesNot_52 rfl (lv_at hl 1 rfl) ?_
    refine lv_bipush (v := 33) hx hb dX9_writesNot_53 (by decide) ?_
    obtain ⟨q7, hq7, hf⟩ := bnd hf
    refine aw_cVv (rest := []) C0 hW (lv_fix (by decide)) (cel_8 kd70) rfl (c_X9_inserts v1 33  hq7) (cw_X9_262 hts ⟨Nat.le_of_ble_eq_true rfl, Nat.le_of_ble_eq_true rfl⟩) rfl hl.1 rfl (Nat.le_of_ble_eq_true rfl) ⟨Nat.zero_le _, Nat.zero_le _⟩ dX9_writesNot_55 (fun H locs hW => ?_)
    refine lv_aload_n hx hb dX9_writesNot_58 rfl (lv_at hl 0 rfl) ?_
    refine aw_get (v := .ref (g.2.2 + 78)) C0 hW (lv_fix (by decide)) (cel_8 kd70) rfl inG8 10 (by decide) wd75 rfl rfl dX9_writesNot_59 ?_
    refine lv_aload_n hx hb dX9_writesNot_62 rfl (lv_at hl 0 rfl) ?_
    refine aw_get (v := .int (q7 70 11)) C0 hW (lv_fix (by decide)) (cel_8 kd70) rfl inG8 11 (by decide) wd74 rfl rfl dX9_writesNot_63 ?_
    refine lv_iconst (v := 1) hx hb dX9_writesNot_66 (by decide) ?_
    refine lv_isub hx hb dX9_writesNot_67 ?_
    refine lv_iconst (v := 0) hx hb dX9_writesNot_68 (by decide) ?_
    obtain ⟨I8, hI8, hf⟩ := bnd hf
    refine aw_iast C0 hW kd78 ln78 hI8 dX9_writesNot_69 (fun H locs hW => ?_)
    have hz := Option.some.inj hf
    exact aw_vret C0 hW hz rfl dX9_writesNot_70
  have hf := hq3
  refine lv_icmp_eq (tgt := 42) hx hb dX9_writesNot_24 rfl (fun hc => ?_) (fun hc => ?_)
  · have hf := ift hc hf
    refine lv_aload_n hx hb dX9_writesNot_42 rfl (lv_at hl 1 rfl) ?_
    refine lv_iload_n hx hb dX9_writesNot_43 rfl (lv_at hl 0 rfl) ?_
    refine lv_aload_n hx hb dX9_writesNot_44 rfl (lv_at hl 1 rfl) ?_
    refine aw_get (v := .int (I 70 19)) C0 hW (lv_fix (by decide)) (cel_8 kd70) rfl inG8 19 (by decide) wd77 rfl rfl dX9_writesNot_45 ?_
    obtain ⟨q4, hq4, hf⟩ := bnd hf
    refine aw_cVv (rest := []) C0 hW (lv_fix (by decide)) (cel_8 kd70) rfl (c_X9_encloses v1 (I 70 19)  hq4) (cw_X9_265 hts ⟨Nat.le_of_ble_eq_true rfl, Nat.le_of_ble_eq_true rfl⟩) rfl hl.1 rfl (Nat.le_of_ble_eq_true rfl) ⟨Nat.zero_le _, Nat.zero_le _⟩ dX9_writesNot_48 (fun H locs hW => ?_)
    have ho := Option.some.inj hf
    subst ho
    exact J51_q3 H locs ls hW (lv_sub hl [1, 0] rfl)
  · have hf := iff_ hc hf
    refine lv_aload_n hx hb dX9_writesNot_27 rfl (lv_at hl 1 rfl) ?_
    refine aw_get (v := .ref (g.2.2 + 78)) C0 hW (lv_fix (by decide)) (cel_8 kd70) rfl inG8 10 (by decide) wd75 rfl rfl dX9_writesNot_28 ?_
    refine lv_aload_n hx hb dX9_writesNot_31 rfl (lv_at hl 1 rfl) ?_
    refine aw_get (v := .int (I 70 11)) C0 hW (lv_fix (by decide)) (cel_8 kd70) rfl inG8 11 (by decide) wd74 rfl rfl dX9_writesNot_32 ?_
    refine lv_iconst (v := 1) hx hb dX9_writesNot_35 (by decide) ?_
    refine lv_isub hx hb dX9_writesNot_36 ?_
    obtain ⟨v5, hv5, hf⟩ := bnd hf
    refine aw_iald C0 hW kd78 ln78 hv5 dX9_writesNot_37 ?_
    refine lv_iconst (v := 2) hx hb dX9_writesNot_38 (by decide) ?_
    refine lv_icmp_ne (tgt := 51) hx hb dX9_writesNot_39 rfl (fun hc => ?_) (fun hc => ?_)
    · have hf := iff_ hc hf
      have ho := Option.some.inj hf
      subst ho
      exact J51_q3 H locs ls hW (lv_sub hl [1, 0] rfl)
    · have hf := ift hc hf
      refine lv_aload_n hx hb dX9_writesNot_42 rfl (lv_at hl 1 rfl) ?_
      refine lv_iload_n hx hb dX9_writesNot_43 rfl (lv_at hl 0 rfl) ?_
      refine lv_aload_n hx hb dX9_writesNot_44 rfl (lv_at hl 1 rfl) ?_
      refine aw_get (v := .int (I 70 19)) C0 hW (lv_fix (by decide)) (cel_8 kd70) rfl inG8 19 (by decide) wd77 rfl rfl dX9_writesNot_45 ?_
      obtain ⟨q6, hq6, hf⟩ := bnd hf
      refine aw_cVv (rest := []) C0 hW (lv_fix (by decide)) (cel_8 kd70) rfl (c_X9_encloses v1 (I 70 19)  hq6) (cw_X9_265 hts ⟨Nat.le_of_ble_eq_true rfl, Nat.le_of_ble_eq_true rfl⟩) rfl hl.1 rfl (Nat.le_of_ble_eq_true rfl) ⟨Nat.zero_le _, Nat.zero_le _⟩ dX9_writesNot_48 (fun H locs hW => ?_)
      have ho := Option.some.inj hf
      subst ho
      exact J51_q3 H locs ls hW (lv_sub hl [1, 0] rfl)
theorem cw_X9_271 {Rm : Room} {s : State} {args : Array Value} (ht : ∀ w ∈ GT, w.before args s = true) (hR : rmX9_writesNot.frames + 1 ≤ Rm.frames ∧ 8 + (2 + 11) + rmX9_writesNot.locals ≤ Rm.locals) : CallW Rm s args RX9 RX9 271 yX9_writesNot cX9_writesNot 2 none (Cond.code yX9_writesNot cX9_writesNot 2 none :: GT) rmX9_writesNot 0 0 0 := cwV 0 ht (goodV wd792 wd793 wd794 wd607 wd795) rfl rfl rfl ⟨rfl, by decide +kernel, by decide +kernel, by decide +kernel⟩ hR
def f_X9_writesPair (x1 : Int32) (I : Mem) : Option (Mem) :=
  (rd I 82 60 ((I 70 11) - 1)).bind fun v1 =>
  (rd I 82 60 ((I 70 11) - 2)).bind fun v2 =>
  (rd I 78 60 ((I 70 11) - 1)).bind fun v3 =>
  ((
    if v3 = x1 then (
      some 1
    ) else (
      if x1 = 1 then (
        (rd I 78 60 ((I 70 11) - 1)).bind fun v5 =>
        if v5 = 2 then (
          some 1
        ) else (
          some 0
        )
      ) else (
        some 0
      )
    )
  ) : Option (Int32)).bind fun q4 =>
  ((
    if x1 = 1 then (
      (rd I 78 60 ((I 70 11) - 2)).bind fun v7 =>
      if v7 = 2 then (
        some 1
      ) else (
        some 0
      )
    ) else (
      some 0
    )
  ) : Option (Int32)).bind fun q6 =>
  ((
    if q4 = 0 then (
      some I
    ) else (
      (f_X9_encloses v1 (I 70 19) I).bind fun q9 =>
      some q9
    )
  ) : Option (Mem)).bind fun q8 =>
  ((
    if x1 = 1 then (
      some 38
    ) else (
      some 124
    )
  ) : Option (Int32)).bind fun q10 =>
  (f_X9_inserts v1 q10 q8).bind fun q11 =>
  ((
    if q6 = 0 then (
      some q11
    ) else (
      (f_X9_encloses v2 v1 q11).bind fun q13 =>
      some q13
    )
  ) : Option (Mem)).bind fun q12 =>
  (wr (up q12 70 11 ((q12 70 11) - 1)) 78 60 (((up q12 70 11 ((q12 70 11) - 1)) 70 11) - 1) x1).bind fun I14 =>
  some I14
abbrev rmX9_writesPair : Room := { frames := 2, cells := 0, slots := 0, locals := 45 }
set_option maxHeartbeats 4000000 in
set_option maxRecDepth 100000 in
theorem c_X9_writesPair {l : Launch} {g : Gam} {I : Mem} {R : Rem} {P : Pool} {Z : Zed} (x1 : Int32)  {z : Mem} (hf : f_X9_writesPair x1 I = some z) : Met l yX9_writesPair (Cond.code yX9_writesPair cX9_writesPair 6 none :: GT) rmX9_writesPair (va_Pc [.ref (g.2.2 + 70), .int x1] (PW g I R P Z)) (QV g z R P Z) 0 0 (AA g) := by
  refine aw_ofW (lv0 := [(0, .ref (g.2.2 + 70)), (1, .int x1)]) (by decide) (by exact Nat.le_of_ble_eq_true rfl) (by rfl) (fun p0 e s m args below meth c ls C0 hl hW => ?_)
  have C0 : CX g p0 s m args meth c RX9 cX9_writesPair 6 none := C0
  have hx := C0.1; have hb := C0.2.1; have hown := C0.2.2.2.2.1; have hts := C0.2.2.2.2.2.1; have hKS := C0.2.2.2.2.2.2.1
  unfold f_X9_writesPair at hf
  obtain ⟨H, hH⟩ : ∃ H, H = s.heap := ⟨_, rfl⟩
  obtain ⟨locs, hlc⟩ : ∃ q : List Loc, q = [] := ⟨_, rfl⟩
  rw [show W p0 l e rmX9_writesPair s m args below meth c s.heap [] 0 0 (MQ below (QV g z R P Z) args s 0 0 (AA g)) (F0 m 0 ls []) = W p0 l e rmX9_writesPair s m args below meth c H locs 0 0 (MQ below (QV g z R P Z) args s 0 0 (AA g)) (F0 m 0 ls []) by rw [hH, hlc]]
  have hW : Wd g I R P Z s.heap H locs := by rw [hH, hlc]; exact hW
  refine lv_aload_n hx hb dX9_writesPair_0 rfl (lv_at hl 0 rfl) ?_
  refine aw_get (v := .ref (g.2.2 + 82)) C0 hW (lv_fix (by decide)) (cel_8 kd70) rfl inG8 20 (by decide) wd78 rfl rfl dX9_writesPair_1 ?_
  refine lv_aload_n hx hb dX9_writesPair_4 rfl (lv_at hl 0 rfl) ?_
  refine aw_get (v := .int (I 70 11)) C0 hW (lv_fix (by decide)) (cel_8 kd70) rfl inG8 11 (by decide) wd74 rfl rfl dX9_writesPair_5 ?_
  refine lv_iconst (v := 1) hx hb dX9_writesPair_8 (by decide) ?_
  refine lv_isub hx hb dX9_writesPair_9 ?_
  obtain ⟨v1, hv1, hf⟩ := bnd hf
  refine aw_iald C0 hW kd82 ln82 hv1 dX9_writesPair_10 ?_
  refine lv_istore_n (lv' := [(2, .int v1), (0, .ref (g.2.2 + 70)), (1, .int x1)]) hx hb dX9_writesPair_11 rfl hl (Nat.le_of_ble_eq_true rfl) rfl (fun ls hl => ?_)
  refine lv_aload_n hx hb dX9_writesPair_12 rfl (lv_at hl 1 rfl) ?_
  refine aw_get (v := .ref (g.2.2 + 82)) C0 hW (lv_fix (by decide)) (cel_8 kd70) rfl inG8 20 (by decide) wd78 rfl rfl dX9_writesPair_13 ?_
  refine lv_aload_n hx hb dX9_writesPair_16 rfl (lv_at hl 1 rfl) ?_
  refine aw_get (v := .int (I 70 11)) C0 hW (lv_fix (by decide)) (cel_8 kd70) rfl inG8 11 (by decide) wd74 rfl rfl dX9_writesPair_17 ?_
  refine lv_iconst (v := 2) hx hb dX9_writesPair_20 (by decide) ?_
  refine lv_isub hx hb dX9_writesPair_21 ?_
  obtain ⟨v2, hv2, hf⟩ := bnd hf
  refine aw_iald C0 hW kd82 ln82 hv2 dX9_writesPair_22 ?_
  refine lv_istore_n (lv' := [(3, .int v2), (2, .int v1), (0, .ref (g.2.2 + 70)), (1, .int x1)]) hx hb dX9_writesPair_23 rfl hl (Nat.le_of_ble_eq_true rfl) rfl (fun ls hl => ?_)
  refine lv_aload_n hx hb dX9_writesPair_24 rfl (lv_at hl 2 rfl) ?_
  refine aw_get (v := .ref (g.2.2 + 78)) C0 hW (lv_fix (by decide)) (cel_8 kd70) rfl inG8 10 (by decide) wd75 rfl rfl dX9_writesPair_25 ?_
  refine lv_aload_n hx hb dX9_writesPair_28 rfl (lv_at hl 2 rfl) ?_
  refine aw_get (v := .int (I 70 11)) C0 hW (lv_fix (by decide)) (cel_8 kd70) rfl inG8 11 (by decide) wd74 rfl rfl dX9_writesPair_29 ?_
  refine lv_iconst (v := 1) hx hb dX9_writesPair_32 (by decide) ?_
  refine lv_isub hx hb dX9_writesPair_33 ?_
  obtain ⟨v3, hv3, hf⟩ := bnd hf
  refine aw_iald C0 hW kd78 ln78 hv3 dX9_writesPair_34 ?_
  refine lv_iload_n hx hb dX9_writesPair_35 rfl (lv_at hl 3 rfl) ?_
  obtain ⟨q4, hq4, hf⟩ := bnd hf
  have J64_q4 : ∀ (H : Heap) (locs : List Loc) (ls : Array Slot), Wd g I R P Z s.heap H locs → lv_has ls 6 [(0, .ref (g.2.2 + 70)), (1, .int x1), (2, .int v1), (3, .int v2)] → W p0 l e rmX9_writesPair s m args below meth c H locs 0 0 (MQ below (QV g z R P Z) args s 0 0 (AA g)) (F0 m 64 ls ([.int q4])) := by
    intro H locs ls hW hl
    refine lv_istore (lv' := [(4, .int q4), (0, .ref (g.2.2 + 70)), (1, .int x1), (2, .int v1), (3, .int v2)]) hx hb dX9_writesPair_64 hl (Nat.le_of_ble_eq_true rfl) rfl (fun ls hl => ?_)
    refine lv_iload_n hx hb dX9_writesPair_66 rfl (lv_at hl 2 rfl) ?_
    refine lv_iconst (v := 1) hx hb dX9_writesPair_67 (by decide) ?_
    obtain ⟨q6, hq6, hf⟩ := bnd hf
    have J91_q6 : ∀ (H : Heap) (locs : List Loc) (ls : Array Slot), Wd g I R P Z s.heap H locs → lv_has ls 6 [(0, .ref (g.2.2 + 70)), (1, .int x1), (2, .int v1), (3, .int v2), (4, .int q4)] → W p0 l e rmX9_writesPair s m args below meth c H locs 0 0 (MQ below (QV g z R P Z) args s 0 0 (AA g)) (F0 m 91 ls ([.int q6])) := by
      intro H locs ls hW hl
      refine lv_istore (lv' := [(5, .int q6), (0, .ref (g.2.2 + 70)), (1, .int x1), (2, .int v1), (3, .int v2), (4, .int q4)]) hx hb dX9_writesPair_91 hl (Nat.le_of_ble_eq_true rfl) rfl (fun ls hl => ?_)
      refine lv_iload hx hb dX9_writesPair_93 (lv_at hl 5 rfl) ?_
      obtain ⟨q8, hq8, hf⟩ := bnd hf
      have J107_q8 : ∀ (H : Heap) (locs : List Loc) (ls : Array Slot), Wd g q8 R P Z s.heap H locs → lv_has ls 6 [(0, .ref (g.2.2 + 70)), (1, .int x1), (2, .int v1), (3, .int v2), (5, .int q6)] → W p0 l e rmX9_writesPair s m args below meth c H locs 0 0 (MQ below (QV g z R P Z) args s 0 0 (AA g)) (F0 m 107 ls ([])) := by
        intro H locs ls hW hl
        refine lv_aload_n hx hb dX9_writesPair_107 rfl (lv_at hl 0 rfl) ?_
        refine lv_iload_n hx hb dX9_writesPair_108 rfl (lv_at hl 2 rfl) ?_
        refine lv_iload_n hx hb dX9_writesPair_109 rfl (lv_at hl 1 rfl) ?_
        refine lv_iconst (v := 1) hx hb dX9_writesPair_110 (by decide) ?_
        obtain ⟨q10, hq10, hf⟩ := bnd hf
        have J121_q10 : ∀ (H : Heap) (locs : List Loc) (ls : Array Slot), Wd g q8 R P Z s.heap H locs → lv_has ls 6 [(0, .ref (g.2.2 + 70)), (1, .int x1), (2, .int v1), (3, .int v2), (5, .int q6)] → W p0 l e rmX9_writesPair s m args below meth c H locs 0 0 (MQ below (QV g z R P Z) args s 0 0 (AA g)) (F0 m 121 ls ([.int q10, .int v1, .ref (g.2.2 + 70)])) := by
          intro H locs ls hW hl
          obtain ⟨q11, hq11, hf⟩ := bnd hf
          refine aw_cVv (rest := []) C0 hW (lv_fix (by decide)) (cel_8 kd70) rfl (c_X9_inserts v1 q10  hq11) (cw_X9_262 hts ⟨Nat.le_of_ble_eq_true rfl, Nat.le_of_ble_eq_true rfl⟩) rfl hl.1 rfl (Nat.le_of_ble_eq_true rfl) ⟨Nat.zero_le _, Nat.zero_le _⟩ dX9_writesPair_121 (fun H locs hW => ?_)
          refine lv_iload hx hb dX9_writesPair_124 (lv_at hl 4 rfl) ?_
          obtain ⟨q12, hq12, hf⟩ := bnd hf
          have J135_q12 : ∀ (H : Heap) (locs : List Loc) (ls : Array Slot), Wd g q12 R P Z s.heap H locs → lv_has ls 6 [(0, .ref (g.2.2 + 70)), (1, .int x1)] → W p0 l e rmX9_writesPair s m args below meth c H locs 0 0 (MQ below (QV g z R P Z) args s 0 0 (AA g)) (F0 m 135 ls ([])) := by
            intro H locs ls hW hl
            refine lv_aload_n hx hb dX9_writesPair_135 rfl (lv_at hl 0 rfl) ?_
            refine lv_dup hx hb dX9_writesPair_136 rfl ?_
            refine aw_get (v := .int (q12 70 11)) C0 hW (lv_fix (by decide)) (cel_8 kd70) rfl inG8 11 (by decide) wd74 rfl rfl dX9_writesPair_137 ?_
            refine lv_iconst (v := 1) hx hb dX9_writesPair_140 (by decide) ?_
            refine lv_isub hx hb dX9_writesPair_141 ?_
            refine aw_put C0 hW (lv_fix (by decide)) (cel_8 kd70) rfl inG8 tyX9 tyX9_ok nmX9 11 (by decide) wd74 rfl rfl (ty := .int) rfl rfl rfl (Nat.le_of_ble_eq_true rfl) (pu_8_11 kd70) dX9_writesPair_142 (fun H locs hW => ?_)
            refine lv_aload_n hx hb dX9_writesPair_145 rfl (lv_at hl 0 rfl) ?_
            refine aw_get (v := .ref (g.2.2 + 78)) C0 hW (lv_fix (by decide)) (cel_8 kd70) rfl inG8 10 (by decide) wd75 rfl rfl dX9_writesPair_146 ?_
            refine lv_aload_n hx hb dX9_writesPair_149 rfl (lv_at hl 0 rfl) ?_
            refine aw_get (v := .int ((up q12 70 11 ((q12 70 11) - 1)) 70 11)) C0 hW (lv_fix (by decide)) (cel_8 kd70) rfl inG8 11 (by decide) wd74 rfl rfl dX9_writesPair_150 ?_
            refine lv_iconst (v := 1) hx hb dX9_writesPair_153 (by decide) ?_
            refine lv_isub hx hb dX9_writesPair_154 ?_
            refine lv_iload_n hx hb dX9_writesPair_155 rfl (lv_at hl 1 rfl) ?_
            obtain ⟨I14, hI14, hf⟩ := bnd hf
            refine aw_iast C0 hW kd78 ln78 hI14 dX9_writesPair_156 (fun H locs hW => ?_)
            have hz := Option.some.inj hf
            exact aw_vret C0 hW hz rfl dX9_writesPair_157
          have hf := hq12
          refine lv_if_eq (tgt := 135) hx hb dX9_writesPair_126 rfl (fun hc => ?_) (fun hc => ?_)
          · have hf := ift hc hf
            have ho := Option.some.inj hf
            subst ho
            exact J135_q12 H locs ls hW (lv_sub hl [0, 1] rfl)
          · have hf := iff_ hc hf
            refine lv_aload_n hx hb dX9_writesPair_129 rfl (lv_at hl 0 rfl) ?_
            refine lv_iload_n hx hb dX9_writesPair_130 rfl (lv_at hl 3 rfl) ?_
            refine lv_iload_n hx hb dX9_writesPair_131 rfl (lv_at hl 2 rfl) ?_
            obtain ⟨q13, hq13, hf⟩ := bnd hf
            refine aw_cVv (rest := []) C0 hW (lv_fix (by decide)) (cel_8 kd70) rfl (c_X9_encloses v2 v1  hq13) (cw_X9_265 hts ⟨Nat.le_of_ble_eq_true rfl, Nat.le_of_ble_eq_true rfl⟩) rfl hl.1 rfl (Nat.le_of_ble_eq_true rfl) ⟨Nat.zero_le _, Nat.zero_le _⟩ dX9_writesPair_132 (fun H locs hW => ?_)
            have ho := Option.some.inj hf
            subst ho
            exact J135_q12 H locs ls hW (lv_sub hl [0, 1] rfl)
        have hf := hq10
        refine lv_icmp_ne (tgt := 119) hx hb dX9_writesPair_111 rfl (fun hc => ?_) (fun hc => ?_)
        · have hf := iff_ hc hf
          refine lv_bipush (v := 124) hx hb dX9_writesPair_119 (by decide) ?_
          have ho := Option.some.inj hf
          subst ho
          exact J121_q10 H locs ls hW (lv_sub hl [0, 1, 2, 3, 4] rfl)
        · have hf := ift hc hf
          refine lv_bipush (v := 38) hx hb dX9_writesPair_114 (by decide) ?_
          refine lv_goto (tgt := 121) hx hb dX9_writesPair_116 rfl ?_
          have ho := Option.some.inj hf
          subst ho
          exact J121_q10 H locs ls hW (lv_sub hl [0, 1, 2, 3, 4] rfl)
      have hf := hq8
      refine lv_if_eq (tgt := 107) hx hb dX9_writesPair_95 rfl (fun hc => ?_) (fun hc => ?_)
      · have hf := ift hc hf
        have ho := Option.some.inj hf
        subst ho
        exact J107_q8 H locs ls hW (lv_sub hl [1, 2, 3, 4, 0] rfl)
      · have hf := iff_ hc hf
        refine lv_aload_n hx hb dX9_writesPair_98 rfl (lv_at hl 1 rfl) ?_
        refine lv_iload_n hx hb dX9_writesPair_99 rfl (lv_at hl 3 rfl) ?_
        refine lv_aload_n hx hb dX9_writesPair_100 rfl (lv_at hl 1 rfl) ?_
        refine aw_get (v := .int (I 70 19)) C0 hW (lv_fix (by decide)) (cel_8 kd70) rfl inG8 19 (by decide) wd77 rfl rfl dX9_writesPair_101 ?_
        obtain ⟨q9, hq9, hf⟩ := bnd hf
        refine aw_cVv (rest := []) C0 hW (lv_fix (by decide)) (cel_8 kd70) rfl (c_X9_encloses v1 (I 70 19)  hq9) (cw_X9_265 hts ⟨Nat.le_of_ble_eq_true rfl, Nat.le_of_ble_eq_true rfl⟩) rfl hl.1 rfl (Nat.le_of_ble_eq_true rfl) ⟨Nat.zero_le _, Nat.zero_le _⟩ dX9_writesPair_104 (fun H locs hW => ?_)
        have ho := Option.some.inj hf
        subst ho
        exact J107_q8 H locs ls hW (lv_sub hl [1, 2, 3, 4, 0] rfl)
    have hf := hq6
    refine lv_icmp_ne (tgt := 90) hx hb dX9_writesPair_68 rfl (fun hc => ?_) (fun hc => ?_)
    · have hf := iff_ hc hf
      refine lv_iconst (v := 0) hx hb dX9_writesPair_90 (by decide) ?_
      have ho := Option.some.inj hf
      subst ho
      exact J91_q6 H locs ls hW (lv_sub hl [1, 2, 3, 4, 0] rfl)
    · have hf := ift hc hf
      refine lv_aload_n hx hb dX9_writesPair_71 rfl (lv_at hl 1 rfl) ?_
      refine aw_get (v := .ref (g.2.2 + 78)) C0 hW (lv_fix (by decide)) (cel_8 kd70) rfl inG8 10 (by decide) wd75 rfl rfl dX9_writesPair_72 ?_
      refine lv_aload_n hx hb dX9_writesPair_75 rfl (lv_at hl 1 rfl) ?_
      refine aw_get (v := .int (I 70 11)) C0 hW (lv_fix (by decide)) (cel_8 kd70) rfl inG8 11 (by decide) wd74 rfl rfl dX9_writesPair_76 ?_
      refine lv_iconst (v := 2) hx hb dX9_writesPair_79 (by decide) ?_
      refine lv_isub hx hb dX9_writesPair_80 ?_
      obtain ⟨v7, hv7, hf⟩ := bnd hf
      refine aw_iald C0 hW kd78 ln78 hv7 dX9_writesPair_81 ?_
      refine lv_iconst (v := 2) hx hb dX9_writesPair_82 (by decide) ?_
      refine lv_icmp_ne (tgt := 90) hx hb dX9_writesPair_83 rfl (fun hc => ?_) (fun hc => ?_)
      · have hf := iff_ hc hf
        refine lv_iconst (v := 0) hx hb dX9_writesPair_90 (by decide) ?_
        have ho := Option.some.inj hf
        subst ho
        exact J91_q6 H locs ls hW (lv_sub hl [1, 2, 3, 4, 0] rfl)
      · have hf := ift hc hf
        refine lv_iconst (v := 1) hx hb dX9_writesPair_86 (by decide) ?_
        refine lv_goto (tgt := 91) hx hb dX9_writesPair_87 rfl ?_
        have ho := Option.some.inj hf
        subst ho
        exact J91_q6 H locs ls hW (lv_sub hl [1, 2, 3, 4, 0] rfl)
  have hf := hq4
  refine lv_icmp_eq (tgt := 59) hx hb dX9_writesPair_36 rfl (fun hc => ?_) (fun hc => ?_)
  · have hf := ift hc hf
    refine lv_iconst (v := 1) hx hb dX9_writesPair_59 (by decide) ?_
    refine lv_goto (tgt := 64) hx hb dX9_writesPair_60 rfl ?_
    have ho := Option.some.inj hf
    subst ho
    exact J64_q4 H locs ls hW (lv_sub hl [2, 3, 1, 0] rfl)
  · have hf := iff_ hc hf
    refine lv_iload_n hx hb dX9_writesPair_39 rfl (lv_at hl 3 rfl) ?_
    refine lv_iconst (v := 1) hx hb dX9_writesPair_40 (by decide) ?_
    refine lv_icmp_ne (tgt := 63) hx hb dX9_writesPair_41 rfl (fun hc => ?_) (fun hc => ?_)
    · have hf := iff_ hc hf
      refine lv_iconst (v := 0) hx hb dX9_writesPair_63 (by decide) ?_
      have ho := Option.some.inj hf
      subst ho
      exact J64_q4 H locs ls hW (lv_sub hl [2, 3, 1, 0] rfl)
    · have hf := ift hc hf
      refine lv_aload_n hx hb dX9_writesPair_44 rfl (lv_at hl 2 rfl) ?_
      refine aw_get (v := .ref (g.2.2 + 78)) C0 hW (lv_fix (by decide)) (cel_8 kd70) rfl inG8 10 (by decide) wd75 rfl rfl dX9_writesPair_45 ?_
      refine lv_aload_n hx hb dX9_writesPair_48 rfl (lv_at hl 2 rfl) ?_
      refine aw_get (v := .int (I 70 11)) C0 hW (lv_fix (by decide)) (cel_8 kd70) rfl inG8 11 (by decide) wd74 rfl rfl dX9_writesPair_49 ?_
      refine lv_iconst (v := 1) hx hb dX9_writesPair_52 (by decide) ?_
      refine lv_isub hx hb dX9_writesPair_53 ?_
      obtain ⟨v5, hv5, hf⟩ := bnd hf
      refine aw_iald C0 hW kd78 ln78 hv5 dX9_writesPair_54 ?_
      refine lv_iconst (v := 2) hx hb dX9_writesPair_55 (by decide) ?_
      refine lv_icmp_ne (tgt := 63) hx hb dX9_writesPair_56 rfl (fun hc => ?_) (fun hc => ?_)
      · have hf := iff_ hc hf
        refine lv_iconst (v := 0) hx hb dX9_writesPair_63 (by decide) ?_
        have ho := Option.some.inj hf
        subst ho
        exact J64_q4 H locs ls hW (lv_sub hl [2, 3, 1, 0] rfl)
      · have hf := ift hc hf
        refine lv_iconst (v := 1) hx hb dX9_writesPair_59 (by decide) ?_
        refine lv_goto (tgt := 64) hx hb dX9_writesPair_60 rfl ?_
        have ho := Option.some.inj hf
        subst ho
        exact J64_q4 H locs ls hW (lv_sub hl [2, 3, 1, 0] rfl)
theorem cw_X9_274 {Rm : Room} {s : State} {args : Array Value} (ht : ∀ w ∈ GT, w.before args s = true) (hR : rmX9_writesPair.frames + 1 ≤ Rm.frames ∧ 8 + (6 + 11) + rmX9_writesPair.locals ≤ Rm.locals) : CallW Rm s args RX9 RX9 274 yX9_writesPair cX9_writesPair 6 none (Cond.code yX9_writesPair cX9_writesPair 6 none :: GT) rmX9_writesPair 0 0 1 := cwV 1 ht (goodV wd796 wd797 wd798 wd607 wd799) rfl rfl rfl ⟨rfl, by decide +kernel, by decide +kernel, by decide +kernel⟩ hR
def f_X9_writesAll_L12 (x1 : Int32) : Nat → Int32 → Mem → Option (Mem)
  | 0, _, _ => none
  | n + 1, w2, I =>
    (f_X9_parts x1 I).bind fun q1 =>
    if q1 ≤ w2 then (
      some I
    ) else (
      (f_X9_part x1 w2 I).bind fun q2 =>
      (f_X9_isTest q2).bind fun q3 =>
      if q3 = 0 then (
        if q2 = 0 then (
          (f_X9_writesNot I).bind fun q5 =>
          f_X9_writesAll_L12 x1 n (w2 + 1) q5
        ) else (
          (f_X9_writesPair q2 I).bind fun q4 =>
          f_X9_writesAll_L12 x1 n (w2 + 1) q4
        )
      ) else (
        (wr I 78 60 (I 70 11) 4).bind fun I6 =>
        (wr I6 82 60 (I6 70 11) (I6 70 19)).bind fun I7 =>
        (f_X9_writesTest q2 ((up I7 70 11 ((I7 70 11) + 1)))).bind fun q8 =>
        f_X9_writesAll_L12 x1 n (w2 + 1) q8
      )
    )
def f_X9_writesAll (x1 : Int32) (I : Mem) : Option (Int32 × Mem) :=
  (f_X9_writesAll_L12 x1 fuel 0 ((up (up I 70 19 0) 70 11 0))).bind fun q9 =>
  some (q9 70 19, q9)
abbrev rmX9_writesAll : Room := { frames := 3, cells := 0, slots := 0, locals := 70 }
set_option maxHeartbeats 4000000 in
set_option maxRecDepth 100000 in
theorem c_X9_writesAll {l : Launch} {g : Gam} {I : Mem} {R : Rem} {P : Pool} {Z : Zed} (x1 : Int32)  {z : Int32 × Mem} (hf : f_X9_writesAll x1 I = some z) : Met l yX9_writesAll (Cond.code yX9_writesAll cX9_writesAll 4 (some .int) :: GT) rmX9_writesAll (va_Pc [.ref (g.2.2 + 70), .int x1] (PW g I R P Z)) (QI g z.1 z.2 R P Z) 0 0 (AA g) := by
  refine aw_ofW (lv0 := [(0, .ref (g.2.2 + 70)), (1, .int x1)]) (by decide) (by exact Nat.le_of_ble_eq_true rfl) (by rfl) (fun p0 e s m args below meth c ls C0 hl hW => ?_)
  have C0 : CX g p0 s m args meth c RX9 cX9_writesAll 4 (some .int) := C0
  have hx := C0.1; have hb := C0.2.1; have hown := C0.2.2.2.2.1; have hts := C0.2.2.2.2.2.1; have hKS := C0.2.2.2.2.2.2.1
  have L12 : ∀ (n : Nat) (w2 : Int32) (I : Mem) (H : Heap) (locs : List Loc) (ls : Array Slot) (o : Mem), f_X9_writesAll_L12 x1 n w2 I = some o → Wd g I R P Z s.heap H locs → lv_has ls 4 [(0, .ref (g.2.2 + 70)), (1, .int x1), (2, .int w2)] → (∀ (H : Heap) (locs : List Loc) (ls : Array Slot), Wd g o R P Z s.heap H locs → lv_has ls 4 [(0, .ref (g.2.2 + 70))] → W p0 l e rmX9_writesAll s m args below meth c H locs 0 0 (MQ below (QI g z.1 z.2 R P Z) args s 0 0 (AA g)) (F0 m 98 ls [])) → W p0 l e rmX9_writesAll s m args below meth c H locs 0 0 (MQ below (QI g z.1 z.2 R P Z) args s 0 0 (AA g)) (F0 m 12 ls []) := by
    intro n
    induction n with
    | zero => intro w2 I H locs ls o hf; cases hf
    | succ n ih =>
      intro w2 I H locs ls o hf hW hl hK
      rw [f_X9_writesAll_L12] at hf
      refine lv_iload_n hx hb dX9_writesAll_12 rfl (lv_at hl 2 rfl) ?_
      refine lv_aload_n hx hb dX9_writesAll_13 rfl (lv_at hl 0 rfl) ?_
      refine lv_iload_n hx hb dX9_writesAll_14 rfl (lv_at hl 1 rfl) ?_
      obtain ⟨q1, hq1, hf⟩ := bnd hf
      refine aw_cVi (rest := [.int w2]) C0 hW (lv_fix (by decide)) (cel_8 kd70) rfl (c_X9_parts x1  hq1) (cw_X9_92 hts ⟨Nat.le_of_ble_eq_true rfl, Nat.le_of_ble_eq_true rfl⟩) rfl hl.1 rfl (Nat.le_of_ble_eq_true rfl) ⟨Nat.zero_le _, Nat.zero_le _⟩ dX9_writesAll_15 (fun H locs hW => ?_)
      refine lv_icmp_ge (tgt := 98) hx hb dX9_writesAll_18 rfl (fun hc => ?_) (fun hc => ?_)
      · have hf := ift hc hf
        have ho := Option.some.inj hf
        subst ho
        exact hK H locs ls hW (lv_sub hl [0] rfl)
      · have hf := iff_ hc hf
        refine lv_aload_n hx hb dX9_writesAll_21 rfl (lv_at hl 0 rfl) ?_
        refine lv_iload_n hx hb dX9_writesAll_22 rfl (lv_at hl 1 rfl) ?_
        refine lv_iload_n hx hb dX9_writesAll_23 rfl (lv_at hl 2 rfl) ?_
        obtain ⟨q2, hq2, hf⟩ := bnd hf
        refine aw_cVi (rest := []) C0 hW (lv_fix (by decide)) (cel_8 kd70) rfl (c_X9_part x1 w2  hq2) (cw_X9_95 hts ⟨Nat.le_of_ble_eq_true rfl, Nat.le_of_ble_eq_true rfl⟩) rfl hl.1 rfl (Nat.le_of_ble_eq_true rfl) ⟨Nat.zero_le _, Nat.zero_le _⟩ dX9_writesAll_24 (fun H locs hW => ?_)
        refine lv_istore_n (lv' := [(3, .int q2), (0, .ref (g.2.2 + 70)), (1, .int x1), (2, .int w2)]) hx hb dX9_writesAll_27 rfl hl (Nat.le_of_ble_eq_true rfl) rfl (fun ls hl => ?_)
        refine lv_iload_n hx hb dX9_writesAll_28 rfl (lv_at hl 0 rfl) ?_
        obtain ⟨q3, hq3, hf⟩ := bnd hf
        refine aw_cSi (rest := []) C0 hW (c_X9_isTest q2  hq3) (cw_X9_99 hts ⟨Nat.le_of_ble_eq_true rfl, Nat.le_of_ble_eq_true rfl⟩) rfl hl.1 rfl (Nat.le_of_ble_eq_true rfl) ⟨Nat.zero_le _, Nat.zero_le _⟩ dX9_writesAll_29 (fun H locs hW => ?_)
        refine lv_if_eq (tgt := 76) hx hb dX9_writesAll_32 rfl (fun hc => ?_) (fun hc => ?_)
        · have hf := ift hc hf
          refine lv_iload_n hx hb dX9_writesAll_76 rfl (lv_at hl 0 rfl) ?_
          refine lv_if_ne (tgt := 87) hx hb dX9_writesAll_77 rfl (fun hc => ?_) (fun hc => ?_)
          · have hf := iff_ hc hf
            refine lv_aload_n hx hb dX9_writesAll_87 rfl (lv_at hl 1 rfl) ?_
            refine lv_iload_n hx hb dX9_writesAll_88 rfl (lv_at hl 0 rfl) ?_
            obtain ⟨q4, hq4, hf⟩ := bnd hf
            refine aw_cVv (rest := []) C0 hW (lv_fix (by decide)) (cel_8 kd70) rfl (c_X9_writesPair q2  hq4) (cw_X9_274 hts ⟨Nat.le_of_ble_eq_true rfl, Nat.le_of_ble_eq_true rfl⟩) rfl hl.1 rfl (Nat.le_of_ble_eq_true rfl) ⟨Nat.zero_le _, Nat.zero_le _⟩ dX9_writesAll_89 (fun H locs hW => ?_)
            refine lv_iinc (k := 3) (v := w2 + 1) (lv' := [(2, .int (w2 + 1)), (3, .int q2), (0, .ref (g.2.2 + 70)), (1, .int x1)]) hx hb dX9_writesAll_92 hl rfl (congrArg (fun t => w2 + t) (by decide : Int32.ofInt 1 = 1)) (Nat.le_of_ble_eq_true rfl) rfl (fun ls hl => ?_)
            refine lv_goto (tgt := 12) hx hb dX9_writesAll_95 rfl ?_
            exact ih _ _ H locs ls o hf hW (lv_sub hl [2, 3, 0] rfl) hK
          · have hf := ift hc hf
            refine lv_aload_n hx hb dX9_writesAll_80 rfl (lv_at hl 1 rfl) ?_
            obtain ⟨q5, hq5, hf⟩ := bnd hf
            refine aw_cVv (rest := []) C0 hW (lv_fix (by decide)) (cel_8 kd70) rfl (c_X9_writesNot  hq5) (cw_X9_271 hts ⟨Nat.le_of_ble_eq_true rfl, Nat.le_of_ble_eq_true rfl⟩) rfl hl.1 rfl (Nat.le_of_ble_eq_true rfl) ⟨Nat.zero_le _, Nat.zero_le _⟩ dX9_writesAll_81 (fun H locs hW => ?_)
            refine lv_goto (tgt := 92) hx hb dX9_writesAll_84 rfl ?_
            refine lv_iinc (k := 3) (v := w2 + 1) (lv' := [(2, .int (w2 + 1)), (3, .int q2), (0, .ref (g.2.2 + 70)), (1, .int x1)]) hx hb dX9_writesAll_92 hl rfl (congrArg (fun t => w2 + t) (by decide : Int32.ofInt 1 = 1)) (Nat.le_of_ble_eq_true rfl) rfl (fun ls hl => ?_)
            refine lv_goto (tgt := 12) hx hb dX9_writesAll_95 rfl ?_
            exact ih _ _ H locs ls o hf hW (lv_sub hl [2, 3, 0] rfl) hK
        · have hf := iff_ hc hf
          refine lv_aload_n hx hb dX9_writesAll_35 rfl (lv_at hl 1 rfl) ?_
          refine aw_get (v := .ref (g.2.2 + 78)) C0 hW (lv_fix (by decide)) (cel_8 kd70) rfl inG8 10 (by decide) wd75 rfl rfl dX9_writesAll_36 ?_
          refine lv_aload_n hx hb dX9_writesAll_39 rfl (lv_at hl 1 rfl) ?_
          refine aw_get (v := .int (I 70 11)) C0 hW (lv_fix (by decide)) (cel_8 kd70) rfl inG8 11 (by decide) wd74 rfl rfl dX9_writesAll_40 ?_
          refine lv_iconst (v := 4) hx hb dX9_writesAll_43 (by decide) ?_
          obtain ⟨I6, hI6, hf⟩ := bnd hf
          refine aw_iast C0 hW kd78 ln78 hI6 dX9_writesAll_44 (fun H locs hW => ?_)
          refine lv_aload_n hx hb dX9_writesAll_45 rfl (lv_at hl 1 rfl) ?_
          refine aw_get (v := .ref (g.2.2 + 82)) C0 hW (lv_fix (by decide)) (cel_8 kd70) rfl inG8 20 (by decide) wd78 rfl rfl dX9_writesAll_46 ?_
          refine lv_aload_n hx hb dX9_writesAll_49 rfl (lv_at hl 1 rfl) ?_
          refine aw_get (v := .int (I6 70 11)) C0 hW (lv_fix (by decide)) (cel_8 kd70) rfl inG8 11 (by decide) wd74 rfl rfl dX9_writesAll_50 ?_
          refine lv_aload_n hx hb dX9_writesAll_53 rfl (lv_at hl 1 rfl) ?_
          refine aw_get (v := .int (I6 70 19)) C0 hW (lv_fix (by decide)) (cel_8 kd70) rfl inG8 19 (by decide) wd77 rfl rfl dX9_writesAll_54 ?_
          obtain ⟨I7, hI7, hf⟩ := bnd hf
          refine aw_iast C0 hW kd82 ln82 hI7 dX9_writesAll_57 (fun H locs hW => ?_)
          refine lv_aload_n hx hb dX9_writesAll_58 rfl (lv_at hl 1 rfl) ?_
          refine lv_dup hx hb dX9_writesAll_59 rfl ?_
          refine aw_get (v := .int (I7 70 11)) C0 hW (lv_fix (by decide)) (cel_8 kd70) rfl inG8 11 (by decide) wd74 rfl rfl dX9_writesAll_60 ?_
          refine lv_iconst (v := 1) hx hb dX9_writesAll_63 (by decide) ?_
          refine lv_iadd hx hb dX9_writesAll_64 ?_
          refine aw_put C0 hW (lv_fix (by decide)) (cel_8 kd70) rfl inG8 tyX9 tyX9_ok nmX9 11 (by decide) wd74 rfl rfl (ty := .int) rfl rfl rfl (Nat.le_of_ble_eq_true rfl) (pu_8_11 kd70) dX9_writesAll_65 (fun H locs hW => ?_)
          refine lv_aload_n hx hb dX9_writesAll_68 rfl (lv_at hl 1 rfl) ?_
          refine lv_iload_n hx hb dX9_writesAll_69 rfl (lv_at hl 0 rfl) ?_
          obtain ⟨q8, hq8, hf⟩ := bnd hf
          refine aw_cVv (rest := []) C0 hW (lv_fix (by decide)) (cel_8 kd70) rfl (c_X9_writesTest q2  hq8) (cw_X9_268 hts ⟨Nat.le_of_ble_eq_true rfl, Nat.le_of_ble_eq_true rfl⟩) rfl hl.1 rfl (Nat.le_of_ble_eq_true rfl) ⟨Nat.zero_le _, Nat.zero_le _⟩ dX9_writesAll_70 (fun H locs hW => ?_)
          refine lv_goto (tgt := 92) hx hb dX9_writesAll_73 rfl ?_
          refine lv_iinc (k := 3) (v := w2 + 1) (lv' := [(2, .int (w2 + 1)), (3, .int q2), (0, .ref (g.2.2 + 70)), (1, .int x1)]) hx hb dX9_writesAll_92 hl rfl (congrArg (fun t => w2 + t) (by decide : Int32.ofInt 1 = 1)) (Nat.le_of_ble_eq_true rfl) rfl (fun ls hl => ?_)
          refine lv_goto (tgt := 12) hx hb dX9_writesAll_95 rfl ?_
          exact ih _ _ H locs ls o hf hW (lv_sub hl [2, 3, 0] rfl) hK
  unfold f_X9_writesAll at hf
  obtain ⟨H, hH⟩ : ∃ H, H = s.heap := ⟨_, rfl⟩
  obtain ⟨locs, hlc⟩ : ∃ q : List Loc, q = [] := ⟨_, rfl⟩
  rw [show W p0 l e rmX9_writesAll s m args below meth c s.heap [] 0 0 (MQ below (QI g z.1 z.2 R P Z) args s 0 0 (AA g)) (F0 m 0 ls []) = W p0 l e rmX9_writesAll s m args below meth c H locs 0 0 (MQ below (QI g z.1 z.2 R P Z) args s 0 0 (AA g)) (F0 m 0 ls []) by rw [hH, hlc]]
  have hW : Wd g I R P Z s.heap H locs := by rw [hH, hlc]; exact hW
  refine lv_aload_n hx hb dX9_writesAll_0 rfl (lv_at hl 0 rfl) ?_
  refine lv_iconst (v := 0) hx hb dX9_writesAll_1 (by decide) ?_
  refine aw_put C0 hW (lv_fix (by decide)) (cel_8 kd70) rfl inG8 tyX9 tyX9_ok nmX9 19 (by decide) wd77 rfl rfl (ty := .int) rfl rfl rfl (Nat.le_of_ble_eq_true rfl) (pu_8_19 kd70) dX9_writesAll_2 (fun H locs hW => ?_)
  refine lv_aload_n hx hb dX9_writesAll_5 rfl (lv_at hl 0 rfl) ?_
  refine lv_iconst (v := 0) hx hb dX9_writesAll_6 (by decide) ?_
  refine aw_put C0 hW (lv_fix (by decide)) (cel_8 kd70) rfl inG8 tyX9 tyX9_ok nmX9 11 (by decide) wd74 rfl rfl (ty := .int) rfl rfl rfl (Nat.le_of_ble_eq_true rfl) (pu_8_11 kd70) dX9_writesAll_7 (fun H locs hW => ?_)
  refine lv_iconst (v := 0) hx hb dX9_writesAll_10 (by decide) ?_
  refine lv_istore_n (lv' := [(2, .int 0), (0, .ref (g.2.2 + 70)), (1, .int x1)]) hx hb dX9_writesAll_11 rfl hl (Nat.le_of_ble_eq_true rfl) rfl (fun ls hl => ?_)
  obtain ⟨q9, hq9, hf⟩ := bnd hf
  refine L12  fuel 0 ((up (up I 70 19 0) 70 11 0)) H locs ls _ hq9 hW (lv_sub hl [1, 2, 0] rfl) (fun H locs ls hW hl => ?_)
  refine lv_aload_n hx hb dX9_writesAll_98 rfl (lv_at hl 0 rfl) ?_
  refine aw_get (v := .int (q9 70 19)) C0 hW (lv_fix (by decide)) (cel_8 kd70) rfl inG8 19 (by decide) wd77 rfl rfl dX9_writesAll_99 ?_
  have hz := Option.some.inj hf
  have hzV := congrArg (fun z : Int32 × Mem => z.1) hz
  have hzI := congrArg (fun z : Int32 × Mem => z.2) hz
  exact aw_iret C0 hW hzV hzI rfl dX9_writesAll_102
theorem cw_X9_286 {Rm : Room} {s : State} {args : Array Value} (ht : ∀ w ∈ GT, w.before args s = true) (hR : rmX9_writesAll.frames + 1 ≤ Rm.frames ∧ 8 + (4 + 11) + rmX9_writesAll.locals ≤ Rm.locals) : CallW Rm s args RX9 RX9 286 yX9_writesAll cX9_writesAll 4 (some .int) (Cond.code yX9_writesAll cX9_writesAll 4 (some .int) :: GT) rmX9_writesAll 0 0 1 := cwV 1 ht (goodV wd812 wd813 wd814 wd607 wd815) rfl rfl rfl ⟨rfl, by decide +kernel, by decide +kernel, by decide +kernel⟩ hR
def f_X9_aboutFilter (x1 : Int32) (x2 : Int32) (I : Mem) : Option (Int32 × Mem) :=
  if x2 = 0 then (
    (f_X9_parts x1 I).bind fun q1 =>
    some (q1, I)
  ) else (
  if x2 = 1 then (
    (f_X9_depth x1 I).bind fun q2 =>
    some (q2.1, q2.2)
  ) else (
  if x2 = 2 then (
    (f_X9_tests x1 I).bind fun q3 =>
    some (q3, I)
  ) else (
  if x2 = 3 then (
    (f_X9_columns x1 I).bind fun q4 =>
    some (q4, I)
  ) else (
    (f_X9_writesAll x1 I).bind fun q5 =>
    some (q5.1, q5.2)
  ))))
abbrev rmX9_aboutFilter : Room := { frames := 4, cells := 0, slots := 0, locals := 93 }
set_option maxHeartbeats 4000000 in
set_option maxRecDepth 100000 in
theorem c_X9_aboutFilter {l : Launch} {g : Gam} {I : Mem} {R : Rem} {P : Pool} {Z : Zed} (x1 : Int32) (x2 : Int32)  {z : Int32 × Mem} (hf : f_X9_aboutFilter x1 x2 I = some z) : Met l yX9_aboutFilter (Cond.code yX9_aboutFilter cX9_aboutFilter 3 (some .int) :: GT) rmX9_aboutFilter (va_Pc [.ref (g.2.2 + 70), .int x1, .int x2] (PW g I R P Z)) (QI g z.1 z.2 R P Z) 0 0 (AA g) := by
  refine aw_ofW (lv0 := [(0, .ref (g.2.2 + 70)), (1, .int x1), (2, .int x2)]) (by decide) (by exact Nat.le_of_ble_eq_true rfl) (by rfl) (fun p0 e s m args below meth c ls C0 hl hW => ?_)
  have C0 : CX g p0 s m args meth c RX9 cX9_aboutFilter 3 (some .int) := C0
  have hx := C0.1; have hb := C0.2.1; have hown := C0.2.2.2.2.1; have hts := C0.2.2.2.2.2.1; have hKS := C0.2.2.2.2.2.2.1
  unfold f_X9_aboutFilter at hf
  obtain ⟨H, hH⟩ : ∃ H, H = s.heap := ⟨_, rfl⟩
  obtain ⟨locs, hlc⟩ : ∃ q : List Loc, q = [] := ⟨_, rfl⟩
  rw [show W p0 l e rmX9_aboutFilter s m args below meth c s.heap [] 0 0 (MQ below (QI g z.1 z.2 R P Z) args s 0 0 (AA g)) (F0 m 0 ls []) = W p0 l e rmX9_aboutFilter s m args below meth c H locs 0 0 (MQ below (QI g z.1 z.2 R P Z) args s 0 0 (AA g)) (F0 m 0 ls []) by rw [hH, hlc]]
  have hW : Wd g I R P Z s.heap H locs := by rw [hH, hlc]; exact hW
  refine lv_iload_n hx hb dX9_aboutFilter_0 rfl (lv_at hl 2 rfl) ?_
  by_cases hs1 : x2 = 0
  · have hf := ift hs1 hf
    refine lv_tableIn (off := 31) (tgt := 32) hx hb dX9_aboutFilter_1 (by rw [hs1]; decide) (by rw [hs1]; decide) (by rw [hs1]; decide) rfl ?_
    refine lv_aload_n hx hb dX9_aboutFilter_32 rfl (lv_at hl 0 rfl) ?_
    refine lv_iload_n hx hb dX9_aboutFilter_33 rfl (lv_at hl 1 rfl) ?_
    obtain ⟨q1, hq1, hf⟩ := bnd hf
    refine aw_cVi (rest := []) C0 hW (lv_fix (by decide)) (cel_8 kd70) rfl (c_X9_parts x1  hq1) (cw_X9_92 hts ⟨Nat.le_of_ble_eq_true rfl, Nat.le_of_ble_eq_true rfl⟩) rfl hl.1 rfl (Nat.le_of_ble_eq_true rfl) ⟨Nat.zero_le _, Nat.zero_le _⟩ dX9_aboutFilter_34 (fun H locs hW => ?_)
    have hz := Option.some.inj hf
    have hzV := congrArg (fun z : Int32 × Mem => z.1) hz
    have hzI := congrArg (fun z : Int32 × Mem => z.2) hz
    exact aw_iret C0 hW hzV hzI rfl dX9_aboutFilter_37
  have hf := iff_ hs1 hf
  by_cases hs2 : x2 = 1
  · have hf := ift hs2 hf
    refine lv_tableIn (off := 37) (tgt := 38) hx hb dX9_aboutFilter_1 (by rw [hs2]; decide) (by rw [hs2]; decide) (by rw [hs2]; decide) rfl ?_
    refine lv_aload_n hx hb dX9_aboutFilter_38 rfl (lv_at hl 0 rfl) ?_
    refine lv_iload_n hx hb dX9_aboutFilter_39 rfl (lv_at hl 1 rfl) ?_
    obtain ⟨q2, hq2, hf⟩ := bnd hf
    refine aw_cVi (rest := []) C0 hW (lv_fix (by decide)) (cel_8 kd70) rfl (c_X9_depth x1  hq2) (cw_X9_277 hts ⟨Nat.le_of_ble_eq_true rfl, Nat.le_of_ble_eq_true rfl⟩) rfl hl.1 rfl (Nat.le_of_ble_eq_true rfl) ⟨Nat.zero_le _, Nat.zero_le _⟩ dX9_aboutFilter_40 (fun H locs hW => ?_)
    have hz := Option.some.inj hf
    have hzV := congrArg (fun z : Int32 × Mem => z.1) hz
    have hzI := congrArg (fun z : Int32 × Mem => z.2) hz
    exact aw_iret C0 hW hzV hzI rfl dX9_aboutFilter_43
  have hf := iff_ hs2 hf
  by_cases hs3 : x2 = 2
  · have hf := ift hs3 hf
    refine lv_tableIn (off := 43) (tgt := 44) hx hb dX9_aboutFilter_1 (by rw [hs3]; decide) (by rw [hs3]; decide) (by rw [hs3]; decide) rfl ?_
    refine lv_aload_n hx hb dX9_aboutFilter_44 rfl (lv_at hl 0 rfl) ?_
    refine lv_iload_n hx hb dX9_aboutFilter_45 rfl (lv_at hl 1 rfl) ?_
    obtain ⟨q3, hq3, hf⟩ := bnd hf
    refine aw_cVi (rest := []) C0 hW (lv_fix (by decide)) (cel_8 kd70) rfl (c_X9_tests x1  hq3) (cw_X9_280 hts ⟨Nat.le_of_ble_eq_true rfl, Nat.le_of_ble_eq_true rfl⟩) rfl hl.1 rfl (Nat.le_of_ble_eq_true rfl) ⟨Nat.zero_le _, Nat.zero_le _⟩ dX9_aboutFilter_46 (fun H locs hW => ?_)
    have hz := Option.some.inj hf
    have hzV := congrArg (fun z : Int32 × Mem => z.1) hz
    have hzI := congrArg (fun z : Int32 × Mem => z.2) hz
    exact aw_iret C0 hW hzV hzI rfl dX9_aboutFilter_49
  have hf := iff_ hs3 hf
  by_cases hs4 : x2 = 3
  · have hf := ift hs4 hf
    refine lv_tableIn (off := 49) (tgt := 50) hx hb dX9_aboutFilter_1 (by rw [hs4]; decide) (by rw [hs4]; decide) (by rw [hs4]; decide) rfl ?_
    refine lv_aload_n hx hb dX9_aboutFilter_50 rfl (lv_at hl 0 rfl) ?_
    refine lv_iload_n hx hb dX9_aboutFilter_51 rfl (lv_at hl 1 rfl) ?_
    obtain ⟨q4, hq4, hf⟩ := bnd hf
    refine aw_cVi (rest := []) C0 hW (lv_fix (by decide)) (cel_8 kd70) rfl (c_X9_columns x1  hq4) (cw_X9_283 hts ⟨Nat.le_of_ble_eq_true rfl, Nat.le_of_ble_eq_true rfl⟩) rfl hl.1 rfl (Nat.le_of_ble_eq_true rfl) ⟨Nat.zero_le _, Nat.zero_le _⟩ dX9_aboutFilter_52 (fun H locs hW => ?_)
    have hz := Option.some.inj hf
    have hzV := congrArg (fun z : Int32 × Mem => z.1) hz
    have hzI := congrArg (fun z : Int32 × Mem => z.2) hz
    exact aw_iret C0 hW hzV hzI rfl dX9_aboutFilter_55
  have hf := iff_ hs4 hf
  refine lv_tableOut (tgt := 56) hx hb dX9_aboutFilter_1 (by have zhs1 := i32_ne (n := 0) (by decide) hs1; have zhs2 := i32_ne (n := 1) (by decide) hs2; have zhs3 := i32_ne (n := 2) (by decide) hs3; have zhs4 := i32_ne (n := 3) (by decide) hs4; omega) rfl ?_
  refine lv_aload_n hx hb dX9_aboutFilter_56 rfl (lv_at hl 0 rfl) ?_
  refine lv_iload_n hx hb dX9_aboutFilter_57 rfl (lv_at hl 1 rfl) ?_
  obtain ⟨q5, hq5, hf⟩ := bnd hf
  refine aw_cVi (rest := []) C0 hW (lv_fix (by decide)) (cel_8 kd70) rfl (c_X9_writesAll x1  hq5) (cw_X9_286 hts ⟨Nat.le_of_ble_eq_true rfl, Nat.le_of_ble_eq_true rfl⟩) rfl hl.1 rfl (Nat.le_of_ble_eq_true rfl) ⟨Nat.zero_le _, Nat.zero_le _⟩ dX9_aboutFilter_58 (fun H locs hW => ?_)
  have hz := Option.some.inj hf
  have hzV := congrArg (fun z : Int32 × Mem => z.1) hz
  have hzI := congrArg (fun z : Int32 × Mem => z.2) hz
  exact aw_iret C0 hW hzV hzI rfl dX9_aboutFilter_61
theorem cw_X9_289 {Rm : Room} {s : State} {args : Array Value} (ht : ∀ w ∈ GT, w.before args s = true) (hR : rmX9_aboutFilter.frames + 1 ≤ Rm.frames ∧ 8 + (3 + 11) + rmX9_aboutFilter.locals ≤ Rm.locals) : CallW Rm s args RX9 RX9 289 yX9_aboutFilter cX9_aboutFilter 3 (some .int) (Cond.code yX9_aboutFilter cX9_aboutFilter 3 (some .int) :: GT) rmX9_aboutFilter 0 0 2 := cwV 2 ht (goodV wd816 wd817 wd818 wd607 wd819) rfl rfl rfl ⟨rfl, by decide +kernel, by decide +kernel, by decide +kernel⟩ hR
def f_X9_groupValue_L27 (x1 : Int32) (x2 : Int32) (x3 : Int32) (I : Mem) : Nat → Int32 → Int32 → Option (Int32)
  | 0, _, _ => none
  | n + 1, w4, w5 =>
    if w4 = ((-2)) then (
      some w4
    ) else (
      if w5 ≤ 0 then (
        some w4
      ) else (
        (f_X9_above x1 x2 w4 I).bind fun q2 =>
        f_X9_groupValue_L27 x1 x2 x3 I n q2 (w5 + (-1))
      )
    )
def f_X9_groupValue (x1 : Int32) (x2 : Int32) (x3 : Int32) (I : Mem) : Option (Int32) :=
  (f_X9_holds x1 x2 ((-1)) I).bind fun q1 =>
  if q1 = 0 then (
    (f_X9_above x1 x2 ((-1)) I).bind fun q4 =>
    (f_X9_groupValue_L27 x1 x2 x3 I fuel q4 x3).bind fun q5 =>
    some q5
  ) else (
    (f_X9_groupValue_L27 x1 x2 x3 I fuel ((-1)) x3).bind fun q3 =>
    some q3
  )
abbrev rmX9_groupValue : Room := { frames := 4, cells := 0, slots := 0, locals := 94 }
set_option maxHeartbeats 4000000 in
set_option maxRecDepth 100000 in
theorem c_X9_groupValue {l : Launch} {g : Gam} {I : Mem} {R : Rem} {P : Pool} {Z : Zed} (x1 : Int32) (x2 : Int32) (x3 : Int32)  {z : Int32} (hf : f_X9_groupValue x1 x2 x3 I = some z) : Met l yX9_groupValue (Cond.code yX9_groupValue cX9_groupValue 6 (some .int) :: GT) rmX9_groupValue (va_Pc [.ref (g.2.2 + 70), .int x1, .int x2, .int x3] (PW g I R P Z)) (QI g z I R P Z) 0 0 (AA g) := by
  refine aw_ofW (lv0 := [(0, .ref (g.2.2 + 70)), (1, .int x1), (2, .int x2), (3, .int x3)]) (by decide) (by exact Nat.le_of_ble_eq_true rfl) (by rfl) (fun p0 e s m args below meth c ls C0 hl hW => ?_)
  have C0 : CX g p0 s m args meth c RX9 cX9_groupValue 6 (some .int) := C0
  have hx := C0.1; have hb := C0.2.1; have hown := C0.2.2.2.2.1; have hts := C0.2.2.2.2.2.1; have hKS := C0.2.2.2.2.2.2.1
  have L27 : ∀ (I : Mem) (n : Nat) (w4 : Int32) (w5 : Int32) (H : Heap) (locs : List Loc) (ls : Array Slot) (o : Int32), f_X9_groupValue_L27 x1 x2 x3 I n w4 w5 = some o → Wd g I R P Z s.heap H locs → lv_has ls 6 [(0, .ref (g.2.2 + 70)), (1, .int x1), (2, .int x2), (4, .int w4), (5, .int w5)] → (∀ (H : Heap) (locs : List Loc) (ls : Array Slot), Wd g I R P Z s.heap H locs → lv_has ls 6 [(4, .int o)] → W p0 l e rmX9_groupValue s m args below meth c H locs 0 0 (MQ below (QI g z I R P Z) args s 0 0 (AA g)) (F0 m 55 ls [])) → W p0 l e rmX9_groupValue s m args below meth c H locs 0 0 (MQ below (QI g z I R P Z) args s 0 0 (AA g)) (F0 m 27 ls []) := by
    intro I n
    induction n with
    | zero => intro w4 w5 H locs ls o hf; cases hf
    | succ n ih =>
      intro w4 w5 H locs ls o hf hW hl hK
      rw [f_X9_groupValue_L27] at hf
      refine lv_iload hx hb dX9_groupValue_27 (lv_at hl 3 rfl) ?_
      refine lv_bipush (v := (-2)) hx hb dX9_groupValue_29 (by decide) ?_
      refine lv_icmp_eq (tgt := 55) hx hb dX9_groupValue_31 rfl (fun hc => ?_) (fun hc => ?_)
      · have hf := ift hc hf
        have ho := Option.some.inj hf
        subst ho
        exact hK H locs ls hW (lv_sub hl [3] rfl)
      · have hf := iff_ hc hf
        refine lv_iload hx hb dX9_groupValue_34 (lv_at hl 4 rfl) ?_
        refine lv_if_le (tgt := 55) hx hb dX9_groupValue_36 rfl (fun hc => ?_) (fun hc => ?_)
        · have hf := ift hc hf
          have ho := Option.some.inj hf
          subst ho
          exact hK H locs ls hW (lv_sub hl [3] rfl)
        · have hf := iff_ hc hf
          refine lv_aload_n hx hb dX9_groupValue_39 rfl (lv_at hl 0 rfl) ?_
          refine lv_iload_n hx hb dX9_groupValue_40 rfl (lv_at hl 1 rfl) ?_
          refine lv_iload_n hx hb dX9_groupValue_41 rfl (lv_at hl 2 rfl) ?_
          refine lv_iload hx hb dX9_groupValue_42 (lv_at hl 3 rfl) ?_
          obtain ⟨q2, hq2, hf⟩ := bnd hf
          refine aw_cVi (rest := []) C0 hW (lv_fix (by decide)) (cel_8 kd70) rfl (c_X9_above x1 x2 w4  hq2) (cw_X9_228 hts ⟨Nat.le_of_ble_eq_true rfl, Nat.le_of_ble_eq_true rfl⟩) rfl hl.1 rfl (Nat.le_of_ble_eq_true rfl) ⟨Nat.zero_le _, Nat.zero_le _⟩ dX9_groupValue_44 (fun H locs hW => ?_)
          refine lv_istore (lv' := [(4, .int q2), (0, .ref (g.2.2 + 70)), (1, .int x1), (2, .int x2), (5, .int w5)]) hx hb dX9_groupValue_47 hl (Nat.le_of_ble_eq_true rfl) rfl (fun ls hl => ?_)
          refine lv_iinc (k := 4) (v := w5 + (-1)) (lv' := [(5, .int (w5 + (-1))), (4, .int q2), (0, .ref (g.2.2 + 70)), (1, .int x1), (2, .int x2)]) hx hb dX9_groupValue_49 hl rfl (congrArg (fun t => w5 + t) (by decide : Int32.ofInt (-1) = (-1))) (Nat.le_of_ble_eq_true rfl) rfl (fun ls hl => ?_)
          refine lv_goto (tgt := 27) hx hb dX9_groupValue_52 rfl ?_
          exact ih _ _ H locs ls o hf hW (lv_sub hl [2, 3, 4, 1, 0] rfl) hK
  unfold f_X9_groupValue at hf
  obtain ⟨H, hH⟩ : ∃ H, H = s.heap := ⟨_, rfl⟩
  obtain ⟨locs, hlc⟩ : ∃ q : List Loc, q = [] := ⟨_, rfl⟩
  rw [show W p0 l e rmX9_groupValue s m args below meth c s.heap [] 0 0 (MQ below (QI g z I R P Z) args s 0 0 (AA g)) (F0 m 0 ls []) = W p0 l e rmX9_groupValue s m args below meth c H locs 0 0 (MQ below (QI g z I R P Z) args s 0 0 (AA g)) (F0 m 0 ls []) by rw [hH, hlc]]
  have hW : Wd g I R P Z s.heap H locs := by rw [hH, hlc]; exact hW
  refine lv_iconst (v := (-1)) hx hb dX9_groupValue_0 (by decide) ?_
  refine lv_istore (lv' := [(4, .int ((-1))), (0, .ref (g.2.2 + 70)), (1, .int x1), (2, .int x2), (3, .int x3)]) hx hb dX9_groupValue_1 hl (Nat.le_of_ble_eq_true rfl) rfl (fun ls hl => ?_)
  refine lv_iload_n hx hb dX9_groupValue_3 rfl (lv_at hl 4 rfl) ?_
  refine lv_istore (lv' := [(5, .int x3), (4, .int ((-1))), (0, .ref (g.2.2 + 70)), (1, .int x1), (2, .int x2), (3, .int x3)]) hx hb dX9_groupValue_4 hl (Nat.le_of_ble_eq_true rfl) rfl (fun ls hl => ?_)
  refine lv_aload_n hx hb dX9_groupValue_6 rfl (lv_at hl 2 rfl) ?_
  refine lv_iload_n hx hb dX9_groupValue_7 rfl (lv_at hl 3 rfl) ?_
  refine lv_iload_n hx hb dX9_groupValue_8 rfl (lv_at hl 4 rfl) ?_
  refine lv_iload hx hb dX9_groupValue_9 (lv_at hl 1 rfl) ?_
  obtain ⟨q1, hq1, hf⟩ := bnd hf
  refine aw_cVi (rest := []) C0 hW (lv_fix (by decide)) (cel_8 kd70) rfl (c_X9_holds x1 x2 ((-1))  hq1) (cw_X9_225 hts ⟨Nat.le_of_ble_eq_true rfl, Nat.le_of_ble_eq_true rfl⟩) rfl hl.1 rfl (Nat.le_of_ble_eq_true rfl) ⟨Nat.zero_le _, Nat.zero_le _⟩ dX9_groupValue_11 (fun H locs hW => ?_)
  refine lv_if_ne (tgt := 27) hx hb dX9_groupValue_14 rfl (fun hc => ?_) (fun hc => ?_)
  · have hf := iff_ hc hf
    obtain ⟨q3, hq3, hf⟩ := bnd hf
    refine L27 I fuel ((-1)) x3 H locs ls _ hq3 hW (lv_sub hl [2, 3, 4, 1, 0] rfl) (fun H locs ls hW hl => ?_)
    refine lv_iload hx hb dX9_groupValue_55 (lv_at hl 0 rfl) ?_
    have hz := Option.some.inj hf
    exact aw_iret C0 hW hz rfl rfl dX9_groupValue_57
  · have hf := ift hc hf
    refine lv_aload_n hx hb dX9_groupValue_17 rfl (lv_at hl 2 rfl) ?_
    refine lv_iload_n hx hb dX9_groupValue_18 rfl (lv_at hl 3 rfl) ?_
    refine lv_iload_n hx hb dX9_groupValue_19 rfl (lv_at hl 4 rfl) ?_
    refine lv_iload hx hb dX9_groupValue_20 (lv_at hl 1 rfl) ?_
    obtain ⟨q4, hq4, hf⟩ := bnd hf
    refine aw_cVi (rest := []) C0 hW (lv_fix (by decide)) (cel_8 kd70) rfl (c_X9_above x1 x2 ((-1))  hq4) (cw_X9_228 hts ⟨Nat.le_of_ble_eq_true rfl, Nat.le_of_ble_eq_true rfl⟩) rfl hl.1 rfl (Nat.le_of_ble_eq_true rfl) ⟨Nat.zero_le _, Nat.zero_le _⟩ dX9_groupValue_22 (fun H locs hW => ?_)
    refine lv_istore (lv' := [(4, .int q4), (5, .int x3), (0, .ref (g.2.2 + 70)), (1, .int x1), (2, .int x2), (3, .int x3)]) hx hb dX9_groupValue_25 hl (Nat.le_of_ble_eq_true rfl) rfl (fun ls hl => ?_)
    obtain ⟨q5, hq5, hf⟩ := bnd hf
    refine L27 I fuel q4 x3 H locs ls _ hq5 hW (lv_sub hl [2, 3, 4, 0, 1] rfl) (fun H locs ls hW hl => ?_)
    refine lv_iload hx hb dX9_groupValue_55 (lv_at hl 0 rfl) ?_
    have hz := Option.some.inj hf
    exact aw_iret C0 hW hz rfl rfl dX9_groupValue_57
theorem cw_X9_246 {Rm : Room} {s : State} {args : Array Value} (ht : ∀ w ∈ GT, w.before args s = true) (hR : rmX9_groupValue.frames + 1 ≤ Rm.frames ∧ 8 + (6 + 11) + rmX9_groupValue.locals ≤ Rm.locals) : CallW Rm s args RX9 RX9 246 yX9_groupValue cX9_groupValue 6 (some .int) (Cond.code yX9_groupValue cX9_groupValue 6 (some .int) :: GT) rmX9_groupValue 0 0 3 := cwV 3 ht (goodV wd764 wd765 wd766 wd607 wd767) rfl rfl rfl ⟨rfl, by decide +kernel, by decide +kernel, by decide +kernel⟩ hR
def f_X9_bits_L4 (x0 : Int32) : Nat → Int32 → Int32 → Option (Int32)
  | 0, _, _ => none
  | n + 1, w1, w2 =>
    if 16 ≤ w2 then (
      some w1
    ) else (
      f_X9_bits_L4 x0 n (w1 + ((x0 >>> (w2 &&& 31)) &&& 1)) (w2 + 1)
    )
def f_X9_bits (x0 : Int32) : Option (Int32) :=
  (f_X9_bits_L4 x0 fuel 0 0).bind fun q1 =>
  some q1
abbrev rmX9_bits : Room := { frames := 0, cells := 0, slots := 0, locals := 0 }
set_option maxHeartbeats 4000000 in
set_option maxRecDepth 100000 in
theorem c_X9_bits {l : Launch} {g : Gam} {I : Mem} {R : Rem} {P : Pool} {Z : Zed} (x0 : Int32)  {z : Int32} (hf : f_X9_bits x0 = some z) : Met l yX9_bits (Cond.code yX9_bits cX9_bits 3 (some .int) :: GT) rmX9_bits (va_Pc [.int x0] (PW g I R P Z)) (QI g z I R P Z) 0 0 (AA g) := by
  refine aw_ofW (lv0 := [(0, .int x0)]) (by decide) (by exact Nat.le_of_ble_eq_true rfl) (by rfl) (fun p0 e s m args below meth c ls C0 hl hW => ?_)
  have C0 : CX g p0 s m args meth c RX9 cX9_bits 3 (some .int) := C0
  have hx := C0.1; have hb := C0.2.1; have hown := C0.2.2.2.2.1; have hts := C0.2.2.2.2.2.1; have hKS := C0.2.2.2.2.2.2.1
  have L4 : ∀ (n : Nat) (w1 : Int32) (w2 : Int32) (H : Heap) (locs : List Loc) (ls : Array Slot) (o : Int32), f_X9_bits_L4 x0 n w1 w2 = some o → Wd g I R P Z s.heap H locs → lv_has ls 3 [(0, .int x0), (1, .int w1), (2, .int w2)] → (∀ (H : Heap) (locs : List Loc) (ls : Array Slot), Wd g I R P Z s.heap H locs → lv_has ls 3 [(1, .int o)] → W p0 l e rmX9_bits s m args below meth c H locs 0 0 (MQ below (QI g z I R P Z) args s 0 0 (AA g)) (F0 m 24 ls [])) → W p0 l e rmX9_bits s m args below meth c H locs 0 0 (MQ below (QI g z I R P Z) args s 0 0 (AA g)) (F0 m 4 ls []) := by
    intro n
    induction n with
    | zero => intro w1 w2 H locs ls o hf; cases hf
    | succ n ih =>
      intro w1 w2 H locs ls o hf hW hl hK
      rw [f_X9_bits_L4] at hf
      refine lv_iload_n hx hb dX9_bits_4 rfl (lv_at hl 2 rfl) ?_
      refine lv_bipush (v := 16) hx hb dX9_bits_5 (by decide) ?_
      refine lv_icmp_ge (tgt := 24) hx hb dX9_bits_7 rfl (fun hc => ?_) (fun hc => ?_)
      · have hf := ift hc hf
        have ho := Option.some.inj hf
        subst ho
        exact hK H locs ls hW (lv_sub hl [1] rfl)
      · have hf := iff_ hc hf
        refine lv_iload_n hx hb dX9_bits_10 rfl (lv_at hl 1 rfl) ?_
        refine lv_iload_n hx hb dX9_bits_11 rfl (lv_at hl 0 rfl) ?_
        refine lv_iload_n hx hb dX9_bits_12 rfl (lv_at hl 2 rfl) ?_
        refine lv_ishr hx hb dX9_bits_13 ?_
        refine lv_iconst (v := 1) hx hb dX9_bits_14 (by decide) ?_
        refine lv_iand hx hb dX9_bits_15 ?_
        refine lv_iadd hx hb dX9_bits_16 ?_
        refine lv_istore_n (lv' := [(1, .int (w1 + ((x0 >>> (w2 &&& 31)) &&& 1))), (0, .int x0), (2, .int w2)]) hx hb dX9_bits_17 rfl hl (Nat.le_of_ble_eq_true rfl) rfl (fun ls hl => ?_)
        refine lv_iinc (k := 2) (v := w2 + 1) (lv' := [(2, .int (w2 + 1)), (1, .int (w1 + ((x0 >>> (w2 &&& 31)) &&& 1))), (0, .int x0)]) hx hb dX9_bits_18 hl rfl (congrArg (fun t => w2 + t) (by decide : Int32.ofInt 1 = 1)) (Nat.le_of_ble_eq_true rfl) rfl (fun ls hl => ?_)
        refine lv_goto (tgt := 4) hx hb dX9_bits_21 rfl ?_
        exact ih _ _ H locs ls o hf hW (lv_sub hl [2, 1, 0] rfl) hK
  unfold f_X9_bits at hf
  obtain ⟨H, hH⟩ : ∃ H, H = s.heap := ⟨_, rfl⟩
  obtain ⟨locs, hlc⟩ : ∃ q : List Loc, q = [] := ⟨_, rfl⟩
  rw [show W p0 l e rmX9_bits s m args below meth c s.heap [] 0 0 (MQ below (QI g z I R P Z) args s 0 0 (AA g)) (F0 m 0 ls []) = W p0 l e rmX9_bits s m args below meth c H locs 0 0 (MQ below (QI g z I R P Z) args s 0 0 (AA g)) (F0 m 0 ls []) by rw [hH, hlc]]
  have hW : Wd g I R P Z s.heap H locs := by rw [hH, hlc]; exact hW
  refine lv_iconst (v := 0) hx hb dX9_bits_0 (by decide) ?_
  refine lv_istore_n (lv' := [(1, .int 0), (0, .int x0)]) hx hb dX9_bits_1 rfl hl (Nat.le_of_ble_eq_true rfl) rfl (fun ls hl => ?_)
  refine lv_iconst (v := 0) hx hb dX9_bits_2 (by decide) ?_
  refine lv_istore_n (lv' := [(2, .int 0), (1, .int 0), (0, .int x0)]) hx hb dX9_bits_3 rfl hl (Nat.le_of_ble_eq_true rfl) rfl (fun ls hl => ?_)
  obtain ⟨q1, hq1, hf⟩ := bnd hf
  refine L4  fuel 0 0 H locs ls _ hq1 hW (lv_sub hl [2, 1, 0] rfl) (fun H locs ls hW hl => ?_)
  refine lv_iload_n hx hb dX9_bits_24 rfl (lv_at hl 0 rfl) ?_
  have hz := Option.some.inj hf
  exact aw_iret C0 hW hz rfl rfl dX9_bits_25
theorem cw_X9_166 {Rm : Room} {s : State} {args : Array Value} (ht : ∀ w ∈ GT, w.before args s = true) (hR : rmX9_bits.frames + 1 ≤ Rm.frames ∧ 8 + (3 + 11) + rmX9_bits.locals ≤ Rm.locals) : CallB Rm s args RX9 166 yX9_bits cX9_bits 3 (some .int) (Cond.code yX9_bits cX9_bits 3 (some .int) :: GT) rmX9_bits 0 0 1 ∧ (Cond.static yX9_bits).before args s = true := va_cwS 1 ht (goodS wd674 wd675 wd607 wd676) rfl rfl rfl ⟨by decide +kernel, by decide +kernel, by decide +kernel⟩ hR
def f_X9_unknownIn_L5 (x1 : Int32) (x2 : Int32) (I : Mem) : Nat → Int32 → Int32 → Option (Int32)
  | 0, _, _ => none
  | n + 1, w3, w4 =>
    (f_X9_many x1 I).bind fun q1 =>
    if (4 * q1) ≤ w4 then (
      some w3
    ) else (
      if ((x2 >>> ((w4 / 4) &&& 31)) &&& 1) = 1 then (
        (f_X9_of x1 (w4 / 4) (w4 - w4 / 4 * 4) I).bind fun q2 =>
        if q2 = ((-1)) then (
          f_X9_unknownIn_L5 x1 x2 I n (w3 + 1) (w4 + 1)
        ) else (
          f_X9_unknownIn_L5 x1 x2 I n (w3 + 0) (w4 + 1)
        )
      ) else (
        f_X9_unknownIn_L5 x1 x2 I n (w3 + 0) (w4 + 1)
      )
    )
def f_X9_unknownIn (x1 : Int32) (x2 : Int32) (I : Mem) : Option (Int32) :=
  (f_X9_unknownIn_L5 x1 x2 I fuel 0 0).bind fun q3 =>
  some q3
abbrev rmX9_unknownIn : Room := { frames := 2, cells := 0, slots := 0, locals := 45 }
set_option maxHeartbeats 4000000 in
set_option maxRecDepth 100000 in
theorem c_X9_unknownIn {l : Launch} {g : Gam} {I : Mem} {R : Rem} {P : Pool} {Z : Zed} (x1 : Int32) (x2 : Int32)  {z : Int32} (hf : f_X9_unknownIn x1 x2 I = some z) : Met l yX9_unknownIn (Cond.code yX9_unknownIn cX9_unknownIn 5 (some .int) :: GT) rmX9_unknownIn (va_Pc [.ref (g.2.2 + 70), .int x1, .int x2] (PW g I R P Z)) (QI g z I R P Z) 0 0 (AA g) := by
  refine aw_ofW (lv0 := [(0, .ref (g.2.2 + 70)), (1, .int x1), (2, .int x2)]) (by decide) (by exact Nat.le_of_ble_eq_true rfl) (by rfl) (fun p0 e s m args below meth c ls C0 hl hW => ?_)
  have C0 : CX g p0 s m args meth c RX9 cX9_unknownIn 5 (some .int) := C0
  have hx := C0.1; have hb := C0.2.1; have hown := C0.2.2.2.2.1; have hts := C0.2.2.2.2.2.1; have hKS := C0.2.2.2.2.2.2.1
  have L5 : ∀ (I : Mem) (n : Nat) (w3 : Int32) (w4 : Int32) (H : Heap) (locs : List Loc) (ls : Array Slot) (o : Int32), f_X9_unknownIn_L5 x1 x2 I n w3 w4 = some o → Wd g I R P Z s.heap H locs → lv_has ls 5 [(0, .ref (g.2.2 + 70)), (1, .int x1), (2, .int x2), (3, .int w3), (4, .int w4)] → (∀ (H : Heap) (locs : List Loc) (ls : Array Slot), Wd g I R P Z s.heap H locs → lv_has ls 5 [(3, .int o)] → W p0 l e rmX9_unknownIn s m args below meth c H locs 0 0 (MQ below (QI g z I R P Z) args s 0 0 (AA g)) (F0 m 60 ls [])) → W p0 l e rmX9_unknownIn s m args below meth c H locs 0 0 (MQ below (QI g z I R P Z) args s 0 0 (AA g)) (F0 m 5 ls []) := by
    intro I n
    induction n with
    | zero => intro w3 w4 H locs ls o hf; cases hf
    | succ n ih =>
      intro w3 w4 H locs ls o hf hW hl hK
      rw [f_X9_unknownIn_L5] at hf
      refine lv_iload hx hb dX9_unknownIn_5 (lv_at hl 4 rfl) ?_
      refine lv_iconst (v := 4) hx hb dX9_unknownIn_7 (by decide) ?_
      refine lv_aload_n hx hb dX9_unknownIn_8 rfl (lv_at hl 0 rfl) ?_
      refine lv_iload_n hx hb dX9_unknownIn_9 rfl (lv_at hl 1 rfl) ?_
      obtain ⟨q1, hq1, hf⟩ := bnd hf
      refine aw_cVi (rest := [.int 4, .int w4]) C0 hW (lv_fix (by decide)) (cel_8 kd70) rfl (c_X9_many x1  hq1) (cw_X9_70 hts ⟨Nat.le_of_ble_eq_true rfl, Nat.le_of_ble_eq_true rfl⟩) rfl hl.1 rfl (Nat.le_of_ble_eq_true rfl) ⟨Nat.zero_le _, Nat.zero_le _⟩ dX9_unknownIn_10 (fun H locs hW => ?_)
      refine lv_imul hx hb dX9_unknownIn_13 ?_
      refine lv_icmp_ge (tgt := 60) hx hb dX9_unknownIn_14 rfl (fun hc => ?_) (fun hc => ?_)
      · have hf := ift hc hf
        have ho := Option.some.inj hf
        subst ho
        exact hK H locs ls hW (lv_sub hl [3] rfl)
      · have hf := iff_ hc hf
        refine lv_iload_n hx hb dX9_unknownIn_17 rfl (lv_at hl 3 rfl) ?_
        refine lv_iload_n hx hb dX9_unknownIn_18 rfl (lv_at hl 2 rfl) ?_
        refine lv_iload hx hb dX9_unknownIn_19 (lv_at hl 4 rfl) ?_
        refine lv_iconst (v := 4) hx hb dX9_unknownIn_21 (by decide) ?_
        refine lv_idiv hx hb dX9_unknownIn_22 (by decide) ?_
        refine lv_ishr hx hb dX9_unknownIn_23 ?_
        refine lv_iconst (v := 1) hx hb dX9_unknownIn_24 (by decide) ?_
        refine lv_iand hx hb dX9_unknownIn_25 ?_
        refine lv_iconst (v := 1) hx hb dX9_unknownIn_26 (by decide) ?_
        refine lv_icmp_ne (tgt := 51) hx hb dX9_unknownIn_27 rfl (fun hc => ?_) (fun hc => ?_)
        · have hf := iff_ hc hf
          refine lv_iconst (v := 0) hx hb dX9_unknownIn_51 (by decide) ?_
          refine lv_iadd hx hb dX9_unknownIn_52 ?_
          refine lv_istore_n (lv' := [(3, .int (w3 + 0)), (0, .ref (g.2.2 + 70)), (1, .int x1), (2, .int x2), (4, .int w4)]) hx hb dX9_unknownIn_53 rfl hl (Nat.le_of_ble_eq_true rfl) rfl (fun ls hl => ?_)
          refine lv_iinc (k := 4) (v := w4 + 1) (lv' := [(4, .int (w4 + 1)), (3, .int (w3 + 0)), (0, .ref (g.2.2 + 70)), (1, .int x1), (2, .int x2)]) hx hb dX9_unknownIn_54 hl rfl (congrArg (fun t => w4 + t) (by decide : Int32.ofInt 1 = 1)) (Nat.le_of_ble_eq_true rfl) rfl (fun ls hl => ?_)
          refine lv_goto (tgt := 5) hx hb dX9_unknownIn_57 rfl ?_
          exact ih _ _ H locs ls o hf hW (lv_sub hl [2, 3, 4, 1, 0] rfl) hK
        · have hf := ift hc hf
          refine lv_aload_n hx hb dX9_unknownIn_30 rfl (lv_at hl 0 rfl) ?_
          refine lv_iload_n hx hb dX9_unknownIn_31 rfl (lv_at hl 1 rfl) ?_
          refine lv_iload hx hb dX9_unknownIn_32 (lv_at hl 4 rfl) ?_
          refine lv_iconst (v := 4) hx hb dX9_unknownIn_34 (by decide) ?_
          refine lv_idiv hx hb dX9_unknownIn_35 (by decide) ?_
          refine lv_iload hx hb dX9_unknownIn_36 (lv_at hl 4 rfl) ?_
          refine lv_iconst (v := 4) hx hb dX9_unknownIn_38 (by decide) ?_
          refine lv_irem hx hb dX9_unknownIn_39 (by decide) ?_
          obtain ⟨q2, hq2, hf⟩ := bnd hf
          refine aw_cVi (rest := [.int w3]) C0 hW (lv_fix (by decide)) (cel_8 kd70) rfl (c_X9_of x1 (w4 / 4) (w4 - w4 / 4 * 4)  hq2) (cw_X9_74 hts ⟨Nat.le_of_ble_eq_true rfl, Nat.le_of_ble_eq_true rfl⟩) rfl hl.1 rfl (Nat.le_of_ble_eq_true rfl) ⟨Nat.zero_le _, Nat.zero_le _⟩ dX9_unknownIn_40 (fun H locs hW => ?_)
          refine lv_iconst (v := (-1)) hx hb dX9_unknownIn_43 (by decide) ?_
          refine lv_icmp_ne (tgt := 51) hx hb dX9_unknownIn_44 rfl (fun hc => ?_) (fun hc => ?_)
          · have hf := iff_ hc hf
            refine lv_iconst (v := 0) hx hb dX9_unknownIn_51 (by decide) ?_
            refine lv_iadd hx hb dX9_unknownIn_52 ?_
            refine lv_istore_n (lv' := [(3, .int (w3 + 0)), (0, .ref (g.2.2 + 70)), (1, .int x1), (2, .int x2), (4, .int w4)]) hx hb dX9_unknownIn_53 rfl hl (Nat.le_of_ble_eq_true rfl) rfl (fun ls hl => ?_)
            refine lv_iinc (k := 4) (v := w4 + 1) (lv' := [(4, .int (w4 + 1)), (3, .int (w3 + 0)), (0, .ref (g.2.2 + 70)), (1, .int x1), (2, .int x2)]) hx hb dX9_unknownIn_54 hl rfl (congrArg (fun t => w4 + t) (by decide : Int32.ofInt 1 = 1)) (Nat.le_of_ble_eq_true rfl) rfl (fun ls hl => ?_)
            refine lv_goto (tgt := 5) hx hb dX9_unknownIn_57 rfl ?_
            exact ih _ _ H locs ls o hf hW (lv_sub hl [2, 3, 4, 1, 0] rfl) hK
          · have hf := ift hc hf
            refine lv_iconst (v := 1) hx hb dX9_unknownIn_47 (by decide) ?_
            refine lv_goto (tgt := 52) hx hb dX9_unknownIn_48 rfl ?_
            refine lv_iadd hx hb dX9_unknownIn_52 ?_
            refine lv_istore_n (lv' := [(3, .int (w3 + 1)), (0, .ref (g.2.2 + 70)), (1, .int x1), (2, .int x2), (4, .int w4)]) hx hb dX9_unknownIn_53 rfl hl (Nat.le_of_ble_eq_true rfl) rfl (fun ls hl => ?_)
            refine lv_iinc (k := 4) (v := w4 + 1) (lv' := [(4, .int (w4 + 1)), (3, .int (w3 + 1)), (0, .ref (g.2.2 + 70)), (1, .int x1), (2, .int x2)]) hx hb dX9_unknownIn_54 hl rfl (congrArg (fun t => w4 + t) (by decide : Int32.ofInt 1 = 1)) (Nat.le_of_ble_eq_true rfl) rfl (fun ls hl => ?_)
            refine lv_goto (tgt := 5) hx hb dX9_unknownIn_57 rfl ?_
            exact ih _ _ H locs ls o hf hW (lv_sub hl [2, 3, 4, 1, 0] rfl) hK
  unfold f_X9_unknownIn at hf
  obtain ⟨H, hH⟩ : ∃ H, H = s.heap := ⟨_, rfl⟩
  obtain ⟨locs, hlc⟩ : ∃ q : List Loc, q = [] := ⟨_, rfl⟩
  rw [show W p0 l e rmX9_unknownIn s m args below meth c s.heap [] 0 0 (MQ below (QI g z I R P Z) args s 0 0 (AA g)) (F0 m 0 ls []) = W p0 l e rmX9_unknownIn s m args below meth c H locs 0 0 (MQ below (QI g z I R P Z) args s 0 0 (AA g)) (F0 m 0 ls []) by rw [hH, hlc]]
  have hW : Wd g I R P Z s.heap H locs := by rw [hH, hlc]; exact hW
  refine lv_iconst (v := 0) hx hb dX9_unknownIn_0 (by decide) ?_
  refine lv_istore_n (lv' := [(3, .int 0), (0, .ref (g.2.2 + 70)), (1, .int x1), (2, .int x2)]) hx hb dX9_unknownIn_1 rfl hl (Nat.le_of_ble_eq_true rfl) rfl (fun ls hl => ?_)
  refine lv_iconst (v := 0) hx hb dX9_unknownIn_2 (by decide) ?_
  refine lv_istore (lv' := [(4, .int 0), (3, .int 0), (0, .ref (g.2.2 + 70)), (1, .int x1), (2, .int x2)]) hx hb dX9_unknownIn_3 hl (Nat.le_of_ble_eq_true rfl) rfl (fun ls hl => ?_)
  obtain ⟨q3, hq3, hf⟩ := bnd hf
  refine L5 I fuel 0 0 H locs ls _ hq3 hW (lv_sub hl [2, 3, 4, 1, 0] rfl) (fun H locs ls hW hl => ?_)
  refine lv_iload_n hx hb dX9_unknownIn_60 rfl (lv_at hl 0 rfl) ?_
  have hz := Option.some.inj hf
  exact aw_iret C0 hW hz rfl rfl dX9_unknownIn_61
theorem cw_X9_249 {Rm : Room} {s : State} {args : Array Value} (ht : ∀ w ∈ GT, w.before args s = true) (hR : rmX9_unknownIn.frames + 1 ≤ Rm.frames ∧ 8 + (5 + 11) + rmX9_unknownIn.locals ≤ Rm.locals) : CallW Rm s args RX9 RX9 249 yX9_unknownIn cX9_unknownIn 5 (some .int) (Cond.code yX9_unknownIn cX9_unknownIn 5 (some .int) :: GT) rmX9_unknownIn 0 0 2 := cwV 2 ht (goodV wd768 wd769 wd770 wd607 wd771) rfl rfl rfl ⟨rfl, by decide +kernel, by decide +kernel, by decide +kernel⟩ hR
def f_X9_aboutGroup (x1 : Int32) (x2 : Int32) (x3 : Int32) (x4 : Int32) (I : Mem) : Option (Int32) :=
  (f_X9_groupValue x1 x2 x3 I).bind fun q1 =>
  if q1 = ((-2)) then (
    some q1
  ) else (
    if x4 = 0 then (
      some q1
    ) else (
      (f_X9_holds x1 x2 q1 I).bind fun q2 =>
      if x4 = 1 then (
        some q2
      ) else (
        if 6 ≤ x4 then (
          if x4 = 6 then (
            (f_X9_bits q2).bind fun q4 =>
            some q4
          ) else (
            (f_X9_unknownIn x1 q2 I).bind fun q3 =>
            some q3
          )
        ) else (
          (f_X9_sum x1 (x4 - 2) q2 I).bind fun q5 =>
          some q5
        )
      )
    )
  )
abbrev rmX9_aboutGroup : Room := { frames := 5, cells := 0, slots := 0, locals := 119 }
set_option maxHeartbeats 4000000 in
set_option maxRecDepth 100000 in
theorem c_X9_aboutGroup {l : Launch} {g : Gam} {I : Mem} {R : Rem} {P : Pool} {Z : Zed} (x1 : Int32) (x2 : Int32) (x3 : Int32) (x4 : Int32)  {z : Int32} (hf : f_X9_aboutGroup x1 x2 x3 x4 I = some z) : Met l yX9_aboutGroup (Cond.code yX9_aboutGroup cX9_aboutGroup 7 (some .int) :: GT) rmX9_aboutGroup (va_Pc [.ref (g.2.2 + 70), .int x1, .int x2, .int x3, .int x4] (PW g I R P Z)) (QI g z I R P Z) 0 0 (AA g) := by
  refine aw_ofW (lv0 := [(0, .ref (g.2.2 + 70)), (1, .int x1), (2, .int x2), (3, .int x3), (4, .int x4)]) (by decide) (by exact Nat.le_of_ble_eq_true rfl) (by rfl) (fun p0 e s m args below meth c ls C0 hl hW => ?_)
  have C0 : CX g p0 s m args meth c RX9 cX9_aboutGroup 7 (some .int) := C0
  have hx := C0.1; have hb := C0.2.1; have hown := C0.2.2.2.2.1; have hts := C0.2.2.2.2.2.1; have hKS := C0.2.2.2.2.2.2.1
  unfold f_X9_aboutGroup at hf
  obtain ⟨H, hH⟩ : ∃ H, H = s.heap := ⟨_, rfl⟩
  obtain ⟨locs, hlc⟩ : ∃ q : List Loc, q = [] := ⟨_, rfl⟩
  rw [show W p0 l e rmX9_aboutGroup s m args below meth c s.heap [] 0 0 (MQ below (QI g z I R P Z) args s 0 0 (AA g)) (F0 m 0 ls []) = W p0 l e rmX9_aboutGroup s m args below meth c H locs 0 0 (MQ below (QI g z I R P Z) args s 0 0 (AA g)) (F0 m 0 ls []) by rw [hH, hlc]]
  have hW : Wd g I R P Z s.heap H locs := by rw [hH, hlc]; exact hW
  refine lv_aload_n hx hb dX9_aboutGroup_0 rfl (lv_at hl 0 rfl) ?_
  refine lv_iload_n hx hb dX9_aboutGroup_1 rfl (lv_at hl 1 rfl) ?_
  refine lv_iload_n hx hb dX9_aboutGroup_2 rfl (lv_at hl 2 rfl) ?_
  refine lv_iload_n hx hb dX9_aboutGroup_3 rfl (lv_at hl 3 rfl) ?_
  obtain ⟨q1, hq1, hf⟩ := bnd hf
  refine aw_cVi (rest := []) C0 hW (lv_fix (by decide)) (cel_8 kd70) rfl (c_X9_groupValue x1 x2 x3  hq1) (cw_X9_246 hts ⟨Nat.le_of_ble_eq_true rfl, Nat.le_of_ble_eq_true rfl⟩) rfl hl.1 rfl (Nat.le_of_ble_eq_true rfl) ⟨Nat.zero_le _, Nat.zero_le _⟩ dX9_aboutGroup_4 (fun H locs hW => ?_)
  refine lv_istore (lv' := [(5, .int q1), (0, .ref (g.2.2 + 70)), (1, .int x1), (2, .int x2), (3, .int x3), (4, .int x4)]) hx hb dX9_aboutGroup_7 hl (Nat.le_of_ble_eq_true rfl) rfl (fun ls hl => ?_)
  refine lv_iload hx hb dX9_aboutGroup_9 (lv_at hl 0 rfl) ?_
  refine lv_bipush (v := (-2)) hx hb dX9_aboutGroup_11 (by decide) ?_
  refine lv_icmp_eq (tgt := 21) hx hb dX9_aboutGroup_13 rfl (fun hc => ?_) (fun hc => ?_)
  · have hf := ift hc hf
    refine lv_iload hx hb dX9_aboutGroup_21 (lv_at hl 0 rfl) ?_
    have hz := Option.some.inj hf
    exact aw_iret C0 hW hz rfl rfl dX9_aboutGroup_23
  · have hf := iff_ hc hf
    refine lv_iload hx hb dX9_aboutGroup_16 (lv_at hl 5 rfl) ?_
    refine lv_if_ne (tgt := 24) hx hb dX9_aboutGroup_18 rfl (fun hc => ?_) (fun hc => ?_)
    · have hf := iff_ hc hf
      refine lv_aload_n hx hb dX9_aboutGroup_24 rfl (lv_at hl 1 rfl) ?_
      refine lv_iload_n hx hb dX9_aboutGroup_25 rfl (lv_at hl 2 rfl) ?_
      refine lv_iload_n hx hb dX9_aboutGroup_26 rfl (lv_at hl 3 rfl) ?_
      refine lv_iload hx hb dX9_aboutGroup_27 (lv_at hl 0 rfl) ?_
      obtain ⟨q2, hq2, hf⟩ := bnd hf
      refine aw_cVi (rest := []) C0 hW (lv_fix (by decide)) (cel_8 kd70) rfl (c_X9_holds x1 x2 q1  hq2) (cw_X9_225 hts ⟨Nat.le_of_ble_eq_true rfl, Nat.le_of_ble_eq_true rfl⟩) rfl hl.1 rfl (Nat.le_of_ble_eq_true rfl) ⟨Nat.zero_le _, Nat.zero_le _⟩ dX9_aboutGroup_29 (fun H locs hW => ?_)
      refine lv_istore (lv' := [(6, .int q2), (5, .int q1), (0, .ref (g.2.2 + 70)), (1, .int x1), (2, .int x2), (3, .int x3), (4, .int x4)]) hx hb dX9_aboutGroup_32 hl (Nat.le_of_ble_eq_true rfl) rfl (fun ls hl => ?_)
      refine lv_iload hx hb dX9_aboutGroup_34 (lv_at hl 6 rfl) ?_
      refine lv_iconst (v := 1) hx hb dX9_aboutGroup_36 (by decide) ?_
      refine lv_icmp_ne (tgt := 45) hx hb dX9_aboutGroup_37 rfl (fun hc => ?_) (fun hc => ?_)
      · have hf := iff_ hc hf
        refine lv_iload hx hb dX9_aboutGroup_45 (lv_at hl 6 rfl) ?_
        refine lv_bipush (v := 6) hx hb dX9_aboutGroup_47 (by decide) ?_
        refine lv_icmp_ge (tgt := 66) hx hb dX9_aboutGroup_49 rfl (fun hc => ?_) (fun hc => ?_)
        · have hf := ift hc hf
          refine lv_iload hx hb dX9_aboutGroup_66 (lv_at hl 6 rfl) ?_
          refine lv_bipush (v := 6) hx hb dX9_aboutGroup_68 (by decide) ?_
          refine lv_icmp_ne (tgt := 81) hx hb dX9_aboutGroup_70 rfl (fun hc => ?_) (fun hc => ?_)
          · have hf := iff_ hc hf
            refine lv_aload_n hx hb dX9_aboutGroup_81 rfl (lv_at hl 2 rfl) ?_
            refine lv_iload_n hx hb dX9_aboutGroup_82 rfl (lv_at hl 3 rfl) ?_
            refine lv_iload hx hb dX9_aboutGroup_83 (lv_at hl 0 rfl) ?_
            obtain ⟨q3, hq3, hf⟩ := bnd hf
            refine aw_cVi (rest := []) C0 hW (lv_fix (by decide)) (cel_8 kd70) rfl (c_X9_unknownIn x1 q2  hq3) (cw_X9_249 hts ⟨Nat.le_of_ble_eq_true rfl, Nat.le_of_ble_eq_true rfl⟩) rfl hl.1 rfl (Nat.le_of_ble_eq_true rfl) ⟨Nat.zero_le _, Nat.zero_le _⟩ dX9_aboutGroup_85 (fun H locs hW => ?_)
            have hz := Option.some.inj hf
            exact aw_iret C0 hW hz rfl rfl dX9_aboutGroup_88
          · have hf := ift hc hf
            refine lv_iload hx hb dX9_aboutGroup_73 (lv_at hl 0 rfl) ?_
            obtain ⟨q4, hq4, hf⟩ := bnd hf
            refine aw_cSi (rest := []) C0 hW (c_X9_bits q2  hq4) (cw_X9_166 hts ⟨Nat.le_of_ble_eq_true rfl, Nat.le_of_ble_eq_true rfl⟩) rfl hl.1 rfl (Nat.le_of_ble_eq_true rfl) ⟨Nat.zero_le _, Nat.zero_le _⟩ dX9_aboutGroup_75 (fun H locs hW => ?_)
            refine lv_goto (tgt := 88) hx hb dX9_aboutGroup_78 rfl ?_
            have hz := Option.some.inj hf
            exact aw_iret C0 hW hz rfl rfl dX9_aboutGroup_88
        · have hf := iff_ hc hf
          refine lv_aload_n hx hb dX9_aboutGroup_52 rfl (lv_at hl 2 rfl) ?_
          refine lv_iload_n hx hb dX9_aboutGroup_53 rfl (lv_at hl 3 rfl) ?_
          refine lv_iload hx hb dX9_aboutGroup_54 (lv_at hl 6 rfl) ?_
          refine lv_iconst (v := 2) hx hb dX9_aboutGroup_56 (by decide) ?_
          refine lv_isub hx hb dX9_aboutGroup_57 ?_
          refine lv_iload hx hb dX9_aboutGroup_58 (lv_at hl 0 rfl) ?_
          obtain ⟨q5, hq5, hf⟩ := bnd hf
          refine aw_cVi (rest := []) C0 hW (lv_fix (by decide)) (cel_8 kd70) rfl (c_X9_sum x1 (x4 - 2) q2  hq5) (cw_X9_234 hts ⟨Nat.le_of_ble_eq_true rfl, Nat.le_of_ble_eq_true rfl⟩) rfl hl.1 rfl (Nat.le_of_ble_eq_true rfl) ⟨Nat.zero_le _, Nat.zero_le _⟩ dX9_aboutGroup_60 (fun H locs hW => ?_)
          refine lv_goto (tgt := 88) hx hb dX9_aboutGroup_63 rfl ?_
          have hz := Option.some.inj hf
          exact aw_iret C0 hW hz rfl rfl dX9_aboutGroup_88
      · have hf := ift hc hf
        refine lv_iload hx hb dX9_aboutGroup_40 (lv_at hl 0 rfl) ?_
        refine lv_goto (tgt := 88) hx hb dX9_aboutGroup_42 rfl ?_
        have hz := Option.some.inj hf
        exact aw_iret C0 hW hz rfl rfl dX9_aboutGroup_88
    · have hf := ift hc hf
      refine lv_iload hx hb dX9_aboutGroup_21 (lv_at hl 0 rfl) ?_
      have hz := Option.some.inj hf
      exact aw_iret C0 hW hz rfl rfl dX9_aboutGroup_23
theorem cw_X9_252 {Rm : Room} {s : State} {args : Array Value} (ht : ∀ w ∈ GT, w.before args s = true) (hR : rmX9_aboutGroup.frames + 1 ≤ Rm.frames ∧ 8 + (7 + 11) + rmX9_aboutGroup.locals ≤ Rm.locals) : CallW Rm s args RX9 RX9 252 yX9_aboutGroup cX9_aboutGroup 7 (some .int) (Cond.code yX9_aboutGroup cX9_aboutGroup 7 (some .int) :: GT) rmX9_aboutGroup 0 0 4 := cwV 4 ht (goodV wd772 wd773 wd774 wd607 wd775) rfl rfl rfl ⟨rfl, by decide +kernel, by decide +kernel, by decide +kernel⟩ hR
def f_X9_in (x0 : Int32) (x1 : Int32) (x2 : Int32) : Option (Int32) :=
  if x0 < x1 then (
    some 0
  ) else (
    if x2 < x0 then (
      some 0
    ) else (
      some 1
    )
  )
abbrev rmX9_in : Room := { frames := 0, cells := 0, slots := 0, locals := 0 }
set_option maxHeartbeats 4000000 in
set_option maxRecDepth 100000 in
theorem c_X9_in {l : Launch} {g : Gam} {I : Mem} {R : Rem} {P : Pool} {Z : Zed} (x0 : Int32) (x1 : Int32) (x2 : Int32)  {z : Int32} (hf : f_X9_in x0 x1 x2 = some z) : Met l yX9_in (Cond.code yX9_in cX9_in 3 (some .boolean) :: GT) rmX9_in (va_Pc [.int x0, .int x1, .int x2] (PW g I R P Z)) (QI g z I R P Z) 0 0 (AA g) := by
  refine aw_ofW (lv0 := [(0, .int x0), (1, .int x1), (2, .int x2)]) (by decide) (by exact Nat.le_of_ble_eq_true rfl) (by rfl) (fun p0 e s m args below meth c ls C0 hl hW => ?_)
  have C0 : CX g p0 s m args meth c RX9 cX9_in 3 (some .boolean) := C0
  have hx := C0.1; have hb := C0.2.1; have hown := C0.2.2.2.2.1; have hts := C0.2.2.2.2.2.1; have hKS := C0.2.2.2.2.2.2.1
  unfold f_X9_in at hf
  obtain ⟨H, hH⟩ : ∃ H, H = s.heap := ⟨_, rfl⟩
  obtain ⟨locs, hlc⟩ : ∃ q : List Loc, q = [] := ⟨_, rfl⟩
  rw [show W p0 l e rmX9_in s m args below meth c s.heap [] 0 0 (MQ below (QI g z I R P Z) args s 0 0 (AA g)) (F0 m 0 ls []) = W p0 l e rmX9_in s m args below meth c H locs 0 0 (MQ below (QI g z I R P Z) args s 0 0 (AA g)) (F0 m 0 ls []) by rw [hH, hlc]]
  have hW : Wd g I R P Z s.heap H locs := by rw [hH, hlc]; exact hW
  refine lv_iload_n hx hb dX9_in_0 rfl (lv_at hl 0 rfl) ?_
  refine lv_iload_n hx hb dX9_in_1 rfl (lv_at hl 1 rfl) ?_
  refine lv_icmp_lt (tgt := 14) hx hb dX9_in_2 rfl (fun hc => ?_) (fun hc => ?_)
  · have hf := ift hc hf
    refine lv_iconst (v := 0) hx hb dX9_in_14 (by decide) ?_
    have hz := Option.some.inj hf
    exact aw_zret C0 hW rfl hz rfl rfl dX9_in_15
  · have hf := iff_ hc hf
    refine lv_iload_n hx hb dX9_in_5 rfl (lv_at hl 0 rfl) ?_
    refine lv_iload_n hx hb dX9_in_6 rfl (lv_at hl 2 rfl) ?_
    refine lv_icmp_gt (tgt := 14) hx hb dX9_in_7 rfl (fun hc => ?_) (fun hc => ?_)
    · have hf := ift hc hf
      refine lv_iconst (v := 0) hx hb dX9_in_14 (by decide) ?_
      have hz := Option.some.inj hf
      exact aw_zret C0 hW rfl hz rfl rfl dX9_in_15
    · have hf := iff_ hc hf
      refine lv_iconst (v := 1) hx hb dX9_in_10 (by decide) ?_
      refine lv_goto (tgt := 15) hx hb dX9_in_11 rfl ?_
      have hz := Option.some.inj hf
      exact aw_zret C0 hW rfl hz rfl rfl dX9_in_15
theorem cw_X9_62 {Rm : Room} {s : State} {args : Array Value} (ht : ∀ w ∈ GT, w.before args s = true) (hR : rmX9_in.frames + 1 ≤ Rm.frames ∧ 8 + (3 + 11) + rmX9_in.locals ≤ Rm.locals) : CallB Rm s args RX9 62 yX9_in cX9_in 3 (some .boolean) (Cond.code yX9_in cX9_in 3 (some .boolean) :: GT) rmX9_in 0 0 3 ∧ (Cond.static yX9_in).before args s = true := va_cwS 3 ht (goodS wd858 wd859 wd607 wd860) rfl rfl rfl ⟨by decide +kernel, by decide +kernel, by decide +kernel⟩ hR
def f_X9_isTable (x0 : Int32) : Option (Int32) :=
  (f_X9_in x0 0 1).bind fun q1 =>
  if narrow .boolean (.int q1) = .int q1 then
  some q1
  else none
abbrev rmX9_isTable : Room := { frames := 1, cells := 0, slots := 0, locals := 22 }
set_option maxHeartbeats 4000000 in
set_option maxRecDepth 100000 in
theorem c_X9_isTable {l : Launch} {g : Gam} {I : Mem} {R : Rem} {P : Pool} {Z : Zed} (x0 : Int32)  {z : Int32} (hf : f_X9_isTable x0 = some z) : Met l yX9_isTable (Cond.code yX9_isTable cX9_isTable 1 (some .boolean) :: GT) rmX9_isTable (va_Pc [.int x0] (PW g I R P Z)) (QI g z I R P Z) 0 0 (AA g) := by
  refine aw_ofW (lv0 := [(0, .int x0)]) (by decide) (by exact Nat.le_of_ble_eq_true rfl) (by rfl) (fun p0 e s m args below meth c ls C0 hl hW => ?_)
  have C0 : CX g p0 s m args meth c RX9 cX9_isTable 1 (some .boolean) := C0
  have hx := C0.1; have hb := C0.2.1; have hown := C0.2.2.2.2.1; have hts := C0.2.2.2.2.2.1; have hKS := C0.2.2.2.2.2.2.1
  unfold f_X9_isTable at hf
  obtain ⟨H, hH⟩ : ∃ H, H = s.heap := ⟨_, rfl⟩
  obtain ⟨locs, hlc⟩ : ∃ q : List Loc, q = [] := ⟨_, rfl⟩
  rw [show W p0 l e rmX9_isTable s m args below meth c s.heap [] 0 0 (MQ below (QI g z I R P Z) args s 0 0 (AA g)) (F0 m 0 ls []) = W p0 l e rmX9_isTable s m args below meth c H locs 0 0 (MQ below (QI g z I R P Z) args s 0 0 (AA g)) (F0 m 0 ls []) by rw [hH, hlc]]
  have hW : Wd g I R P Z s.heap H locs := by rw [hH, hlc]; exact hW
  refine lv_iload_n hx hb dX9_isTable_0 rfl (lv_at hl 0 rfl) ?_
  refine lv_iconst (v := 0) hx hb dX9_isTable_1 (by decide) ?_
  refine lv_iconst (v := 1) hx hb dX9_isTable_2 (by decide) ?_
  obtain ⟨q1, hq1, hf⟩ := bnd hf
  refine aw_cSi (rest := []) C0 hW (c_X9_in x0 0 1  hq1) (cw_X9_62 hts ⟨Nat.le_of_ble_eq_true rfl, Nat.le_of_ble_eq_true rfl⟩) rfl hl.1 rfl (Nat.le_of_ble_eq_true rfl) ⟨Nat.zero_le _, Nat.zero_le _⟩ dX9_isTable_3 (fun H locs hW => ?_)
  obtain ⟨hnw, hf⟩ := ifn hf
  have hz := Option.some.inj hf
  exact aw_zret C0 hW hnw hz rfl rfl dX9_isTable_6
theorem cw_X9_66 {Rm : Room} {s : State} {args : Array Value} (ht : ∀ w ∈ GT, w.before args s = true) (hR : rmX9_isTable.frames + 1 ≤ Rm.frames ∧ 8 + (1 + 11) + rmX9_isTable.locals ≤ Rm.locals) : CallB Rm s args RX9 66 yX9_isTable cX9_isTable 1 (some .boolean) (Cond.code yX9_isTable cX9_isTable 1 (some .boolean) :: GT) rmX9_isTable 0 0 1 ∧ (Cond.static yX9_isTable).before args s = true := va_cwS 1 ht (goodS wd861 wd862 wd607 wd863) rfl rfl rfl ⟨by decide +kernel, by decide +kernel, by decide +kernel⟩ hR
def f_X9_refuses (x1 : Int32) (I : Mem) : Option (Int32 × Mem) :=
  some (0, (up I 70 7 x1))
abbrev rmX9_refuses : Room := { frames := 0, cells := 0, slots := 0, locals := 0 }
set_option maxHeartbeats 4000000 in
set_option maxRecDepth 100000 in
theorem c_X9_refuses {l : Launch} {g : Gam} {I : Mem} {R : Rem} {P : Pool} {Z : Zed} (x1 : Int32)  {z : Int32 × Mem} (hf : f_X9_refuses x1 I = some z) : Met l yX9_refuses (Cond.code yX9_refuses cX9_refuses 2 (some .int) :: GT) rmX9_refuses (va_Pc [.ref (g.2.2 + 70), .int x1] (PW g I R P Z)) (QI g z.1 z.2 R P Z) 0 0 (AA g) := by
  refine aw_ofW (lv0 := [(0, .ref (g.2.2 + 70)), (1, .int x1)]) (by decide) (by exact Nat.le_of_ble_eq_true rfl) (by rfl) (fun p0 e s m args below meth c ls C0 hl hW => ?_)
  have C0 : CX g p0 s m args meth c RX9 cX9_refuses 2 (some .int) := C0
  have hx := C0.1; have hb := C0.2.1; have hown := C0.2.2.2.2.1; have hts := C0.2.2.2.2.2.1; have hKS := C0.2.2.2.2.2.2.1
  unfold f_X9_refuses at hf
  obtain ⟨H, hH⟩ : ∃ H, H = s.heap := ⟨_, rfl⟩
  obtain ⟨locs, hlc⟩ : ∃ q : List Loc, q = [] := ⟨_, rfl⟩
  rw [show W p0 l e rmX9_refuses s m args below meth c s.heap [] 0 0 (MQ below (QI g z.1 z.2 R P Z) args s 0 0 (AA g)) (F0 m 0 ls []) = W p0 l e rmX9_refuses s m args below meth c H locs 0 0 (MQ below (QI g z.1 z.2 R P Z) args s 0 0 (AA g)) (F0 m 0 ls []) by rw [hH, hlc]]
  have hW : Wd g I R P Z s.heap H locs := by rw [hH, hlc]; exact hW
  refine lv_aload_n hx hb dX9_refuses_0 rfl (lv_at hl 0 rfl) ?_
  refine lv_iload_n hx hb dX9_refuses_1 rfl (lv_at hl 1 rfl) ?_
  refine aw_put C0 hW (lv_fix (by decide)) (cel_8 kd70) rfl inG8 tyX9 tyX9_ok nmX9 7 (by decide) wd79 rfl rfl (ty := .int) rfl rfl rfl (Nat.le_of_ble_eq_true rfl) (pu_8_7 kd70) dX9_refuses_2 (fun H locs hW => ?_)
  refine lv_iconst (v := 0) hx hb dX9_refuses_5 (by decide) ?_
  have hz := Option.some.inj hf
  have hzV := congrArg (fun z : Int32 × Mem => z.1) hz
  have hzI := congrArg (fun z : Int32 × Mem => z.2) hz
  exact aw_iret C0 hW hzV hzI rfl dX9_refuses_6
theorem cw_X9_119 {Rm : Room} {s : State} {args : Array Value} (ht : ∀ w ∈ GT, w.before args s = true) (hR : rmX9_refuses.frames + 1 ≤ Rm.frames ∧ 8 + (2 + 11) + rmX9_refuses.locals ≤ Rm.locals) : CallW Rm s args RX9 RX9 119 yX9_refuses cX9_refuses 2 (some .int) (Cond.code yX9_refuses cX9_refuses 2 (some .int) :: GT) rmX9_refuses 0 0 1 := cwV 1 ht (goodV wd625 wd626 wd627 wd607 wd628) rfl rfl rfl ⟨rfl, by decide +kernel, by decide +kernel, by decide +kernel⟩ hR
def f_X9_isValue (x0 : Int32) : Option (Int32) :=
  (f_X9_in x0 ((-1)) 99).bind fun q1 =>
  if narrow .boolean (.int q1) = .int q1 then
  some q1
  else none
abbrev rmX9_isValue : Room := { frames := 1, cells := 0, slots := 0, locals := 22 }
set_option maxHeartbeats 4000000 in
set_option maxRecDepth 100000 in
theorem c_X9_isValue {l : Launch} {g : Gam} {I : Mem} {R : Rem} {P : Pool} {Z : Zed} (x0 : Int32)  {z : Int32} (hf : f_X9_isValue x0 = some z) : Met l yX9_isValue (Cond.code yX9_isValue cX9_isValue 1 (some .boolean) :: GT) rmX9_isValue (va_Pc [.int x0] (PW g I R P Z)) (QI g z I R P Z) 0 0 (AA g) := by
  refine aw_ofW (lv0 := [(0, .int x0)]) (by decide) (by exact Nat.le_of_ble_eq_true rfl) (by rfl) (fun p0 e s m args below meth c ls C0 hl hW => ?_)
  have C0 : CX g p0 s m args meth c RX9 cX9_isValue 1 (some .boolean) := C0
  have hx := C0.1; have hb := C0.2.1; have hown := C0.2.2.2.2.1; have hts := C0.2.2.2.2.2.1; have hKS := C0.2.2.2.2.2.2.1
  unfold f_X9_isValue at hf
  obtain ⟨H, hH⟩ : ∃ H, H = s.heap := ⟨_, rfl⟩
  obtain ⟨locs, hlc⟩ : ∃ q : List Loc, q = [] := ⟨_, rfl⟩
  rw [show W p0 l e rmX9_isValue s m args below meth c s.heap [] 0 0 (MQ below (QI g z I R P Z) args s 0 0 (AA g)) (F0 m 0 ls []) = W p0 l e rmX9_isValue s m args below meth c H locs 0 0 (MQ below (QI g z I R P Z) args s 0 0 (AA g)) (F0 m 0 ls []) by rw [hH, hlc]]
  have hW : Wd g I R P Z s.heap H locs := by rw [hH, hlc]; exact hW
  refine lv_iload_n hx hb dX9_isValue_0 rfl (lv_at hl 0 rfl) ?_
  refine lv_iconst (v := (-1)) hx hb dX9_isValue_1 (by decide) ?_
  refine lv_bipush (v := 99) hx hb dX9_isValue_2 (by decide) ?_
  obtain ⟨q1, hq1, hf⟩ := bnd hf
  refine aw_cSi (rest := []) C0 hW (c_X9_in x0 ((-1)) 99  hq1) (cw_X9_62 hts ⟨Nat.le_of_ble_eq_true rfl, Nat.le_of_ble_eq_true rfl⟩) rfl hl.1 rfl (Nat.le_of_ble_eq_true rfl) ⟨Nat.zero_le _, Nat.zero_le _⟩ dX9_isValue_4 (fun H locs hW => ?_)
  obtain ⟨hnw, hf⟩ := ifn hf
  have hz := Option.some.inj hf
  exact aw_zret C0 hW hnw hz rfl rfl dX9_isValue_7
theorem cw_X9_122 {Rm : Room} {s : State} {args : Array Value} (ht : ∀ w ∈ GT, w.before args s = true) (hR : rmX9_isValue.frames + 1 ≤ Rm.frames ∧ 8 + (1 + 11) + rmX9_isValue.locals ≤ Rm.locals) : CallB Rm s args RX9 122 yX9_isValue cX9_isValue 1 (some .boolean) (Cond.code yX9_isValue cX9_isValue 1 (some .boolean) :: GT) rmX9_isValue 0 0 1 ∧ (Cond.static yX9_isValue).before args s = true := va_cwS 1 ht (goodS wd629 wd630 wd607 wd631) rfl rfl rfl ⟨by decide +kernel, by decide +kernel, by decide +kernel⟩ hR
def f_X9_lays_L3 (a0 : Nat) (x1 : Int32) (a2 : Nat) (x3 : Int32) (P : Pool) : Nat → Int32 → Mem → Option (Mem)
  | 0, _, _ => none
  | n + 1, w4, I =>
    if 619 ≤ w4 then (
      some I
    ) else (
      (rd I a0 (Ln P a0) (x1 + w4)).bind fun v1 =>
      (wr I a2 (Ln P a2) (x3 + w4) v1).bind fun I2 =>
      f_X9_lays_L3 a0 x1 a2 x3 P n (w4 + 1) I2
    )
def f_X9_lays (a0 : Nat) (x1 : Int32) (a2 : Nat) (x3 : Int32) (P : Pool) (I : Mem) : Option (Mem) :=
  (f_X9_lays_L3 a0 x1 a2 x3 P fuel 0 I).bind fun q3 =>
  some q3
abbrev rmX9_lays : Room := { frames := 0, cells := 0, slots := 0, locals := 0 }
set_option maxHeartbeats 4000000 in
set_option maxRecDepth 100000 in
theorem c_X9_lays {l : Launch} {g : Gam} {I : Mem} {R : Rem} {P : Pool} {Z : Zed} (a0 : Nat) (x1 : Int32) (a2 : Nat) (x3 : Int32) (ha0 : Kd P a0 = 10) (ha2 : Kd P a2 = 10) {z : Mem} (hf : f_X9_lays a0 x1 a2 x3 P I = some z) : Met l yX9_lays (Cond.code yX9_lays cX9_lays 5 none :: GT) rmX9_lays (va_Pc [.ref (g.2.2 + a0), .int x1, .ref (g.2.2 + a2), .int x3] (PW g I R P Z)) (QV g z R P Z) 0 0 (AA g) := by
  refine aw_ofW (lv0 := [(0, .ref (g.2.2 + a0)), (1, .int x1), (2, .ref (g.2.2 + a2)), (3, .int x3)]) (by decide) (by exact Nat.le_of_ble_eq_true rfl) (by rfl) (fun p0 e s m args below meth c ls C0 hl hW => ?_)
  have C0 : CX g p0 s m args meth c RX9 cX9_lays 5 none := C0
  have hx := C0.1; have hb := C0.2.1; have hown := C0.2.2.2.2.1; have hts := C0.2.2.2.2.2.1; have hKS := C0.2.2.2.2.2.2.1
  have L3 : ∀ (n : Nat) (w4 : Int32) (I : Mem) (H : Heap) (locs : List Loc) (ls : Array Slot) (o : Mem), f_X9_lays_L3 a0 x1 a2 x3 P n w4 I = some o → Wd g I R P Z s.heap H locs → lv_has ls 5 [(0, .ref (g.2.2 + a0)), (1, .int x1), (2, .ref (g.2.2 + a2)), (3, .int x3), (4, .int w4)] → (∀ (H : Heap) (locs : List Loc) (ls : Array Slot), Wd g o R P Z s.heap H locs → lv_has ls 5 [] → W p0 l e rmX9_lays s m args below meth c H locs 0 0 (MQ below (QV g z R P Z) args s 0 0 (AA g)) (F0 m 29 ls [])) → W p0 l e rmX9_lays s m args below meth c H locs 0 0 (MQ below (QV g z R P Z) args s 0 0 (AA g)) (F0 m 3 ls []) := by
    intro n
    induction n with
    | zero => intro w4 I H locs ls o hf; cases hf
    | succ n ih =>
      intro w4 I H locs ls o hf hW hl hK
      rw [f_X9_lays_L3] at hf
      refine lv_iload hx hb dX9_lays_3 (lv_at hl 4 rfl) ?_
      refine lv_sipush (v := 619) hx hb dX9_lays_5 (by decide) ?_
      refine lv_icmp_ge (tgt := 29) hx hb dX9_lays_8 rfl (fun hc => ?_) (fun hc => ?_)
      · have hf := ift hc hf
        have ho := Option.some.inj hf
        subst ho
        exact hK H locs ls hW (lv_sub hl [] rfl)
      · have hf := iff_ hc hf
        refine lv_aload_n hx hb dX9_lays_11 rfl (lv_at hl 2 rfl) ?_
        refine lv_iload_n hx hb dX9_lays_12 rfl (lv_at hl 3 rfl) ?_
        refine lv_iload hx hb dX9_lays_13 (lv_at hl 4 rfl) ?_
        refine lv_iadd hx hb dX9_lays_15 ?_
        refine lv_aload_n hx hb dX9_lays_16 rfl (lv_at hl 0 rfl) ?_
        refine lv_iload_n hx hb dX9_lays_17 rfl (lv_at hl 1 rfl) ?_
        refine lv_iload hx hb dX9_lays_18 (lv_at hl 4 rfl) ?_
        refine lv_iadd hx hb dX9_lays_20 ?_
        obtain ⟨v1, hv1, hf⟩ := bnd hf
        refine aw_iald C0 hW ha0 rfl hv1 dX9_lays_21 ?_
        obtain ⟨I2, hI2, hf⟩ := bnd hf
        refine aw_iast C0 hW ha2 rfl hI2 dX9_lays_22 (fun H locs hW => ?_)
        refine lv_iinc (k := 4) (v := w4 + 1) (lv' := [(4, .int (w4 + 1)), (0, .ref (g.2.2 + a0)), (1, .int x1), (2, .ref (g.2.2 + a2)), (3, .int x3)]) hx hb dX9_lays_23 hl rfl (congrArg (fun t => w4 + t) (by decide : Int32.ofInt 1 = 1)) (Nat.le_of_ble_eq_true rfl) rfl (fun ls hl => ?_)
        refine lv_goto (tgt := 3) hx hb dX9_lays_26 rfl ?_
        exact ih _ _ H locs ls o hf hW (lv_sub hl [1, 2, 3, 4, 0] rfl) hK
  unfold f_X9_lays at hf
  obtain ⟨H, hH⟩ : ∃ H, H = s.heap := ⟨_, rfl⟩
  obtain ⟨locs, hlc⟩ : ∃ q : List Loc, q = [] := ⟨_, rfl⟩
  rw [show W p0 l e rmX9_lays s m args below meth c s.heap [] 0 0 (MQ below (QV g z R P Z) args s 0 0 (AA g)) (F0 m 0 ls []) = W p0 l e rmX9_lays s m args below meth c H locs 0 0 (MQ below (QV g z R P Z) args s 0 0 (AA g)) (F0 m 0 ls []) by rw [hH, hlc]]
  have hW : Wd g I R P Z s.heap H locs := by rw [hH, hlc]; exact hW
  refine lv_iconst (v := 0) hx hb dX9_lays_0 (by decide) ?_
  refine lv_istore (lv' := [(4, .int 0), (0, .ref (g.2.2 + a0)), (1, .int x1), (2, .ref (g.2.2 + a2)), (3, .int x3)]) hx hb dX9_lays_1 hl (Nat.le_of_ble_eq_true rfl) rfl (fun ls hl => ?_)
  obtain ⟨q3, hq3, hf⟩ := bnd hf
  refine L3  fuel 0 I H locs ls _ hq3 hW (lv_sub hl [1, 2, 3, 4, 0] rfl) (fun H locs ls hW hl => ?_)
  have hz := Option.some.inj hf
  exact aw_vret C0 hW hz rfl dX9_lays_29
theorem cw_X9_54 {Rm : Room} {s : State} {args : Array Value} (ht : ∀ w ∈ GT, w.before args s = true) (hR : rmX9_lays.frames + 1 ≤ Rm.frames ∧ 8 + (5 + 11) + rmX9_lays.locals ≤ Rm.locals) : CallB Rm s args RX9 54 yX9_lays cX9_lays 5 none (Cond.code yX9_lays cX9_lays 5 none :: GT) rmX9_lays 0 0 4 ∧ (Cond.static yX9_lays).before args s = true := va_cwS 4 ht (goodS wd852 wd853 wd607 wd854) rfl rfl rfl ⟨by decide +kernel, by decide +kernel, by decide +kernel⟩ hR
def f_X9_saves_L11 (P : Pool) : Nat → Int32 → Mem → Option (Mem)
  | 0, _, _ => none
  | n + 1, w1, I =>
    if 3095 ≤ w1 then (
      some I
    ) else (
      (rd I 72 3714 (w1 + 619)).bind fun v2 =>
      (wr I 72 3714 w1 v2).bind fun I3 =>
      f_X9_saves_L11 P n (w1 + 1) I3
    )
def f_X9_saves (P : Pool) (I : Mem) : Option (Mem) :=
  if (I 70 2) = 6 then (
    (f_X9_saves_L11 P fuel 0 I).bind fun q4 =>
    (f_X9_lays 71 0 72 (619 * ((up q4 70 2 ((q4 70 2) - 1)) 70 2)) P ((up q4 70 2 ((q4 70 2) - 1)))).bind fun q5 =>
    some ((up q5 70 2 ((q5 70 2) + 1)))
  ) else (
    (f_X9_lays 71 0 72 (619 * (I 70 2)) P I).bind fun q1 =>
    some ((up q1 70 2 ((q1 70 2) + 1)))
  )
abbrev rmX9_saves : Room := { frames := 1, cells := 0, slots := 0, locals := 24 }
set_option maxHeartbeats 4000000 in
set_option maxRecDepth 100000 in
theorem c_X9_saves {l : Launch} {g : Gam} {I : Mem} {R : Rem} {P : Pool} {Z : Zed}   {z : Mem} (hf : f_X9_saves P I = some z) : Met l yX9_saves (Cond.code yX9_saves cX9_saves 2 none :: GT) rmX9_saves (va_Pc [.ref (g.2.2 + 70)] (PW g I R P Z)) (QV g z R P Z) 0 0 (AA g) := by
  refine aw_ofW (lv0 := [(0, .ref (g.2.2 + 70))]) (by decide) (by exact Nat.le_of_ble_eq_true rfl) (by rfl) (fun p0 e s m args below meth c ls C0 hl hW => ?_)
  have C0 : CX g p0 s m args meth c RX9 cX9_saves 2 none := C0
  have hx := C0.1; have hb := C0.2.1; have hown := C0.2.2.2.2.1; have hts := C0.2.2.2.2.2.1; have hKS := C0.2.2.2.2.2.2.1
  have L11 : ∀ (n : Nat) (w1 : Int32) (I : Mem) (H : Heap) (locs : List Loc) (ls : Array Slot) (o : Mem), f_X9_saves_L11 P n w1 I = some o → Wd g I R P Z s.heap H locs → lv_has ls 2 [(0, .ref (g.2.2 + 70)), (1, .int w1)] → (∀ (H : Heap) (locs : List Loc) (ls : Array Slot), Wd g o R P Z s.heap H locs → lv_has ls 2 [(0, .ref (g.2.2 + 70))] → W p0 l e rmX9_saves s m args below meth c H locs 0 0 (MQ below (QV g z R P Z) args s 0 0 (AA g)) (F0 m 40 ls [])) → W p0 l e rmX9_saves s m args below meth c H locs 0 0 (MQ below (QV g z R P Z) args s 0 0 (AA g)) (F0 m 11 ls []) := by
    intro n
    induction n with
    | zero => intro w1 I H locs ls o hf; cases hf
    | succ n ih =>
      intro w1 I H locs ls o hf hW hl hK
      rw [f_X9_saves_L11] at hf
      refine lv_iload_n hx hb dX9_saves_11 rfl (lv_at hl 1 rfl) ?_
      refine lv_sipush (v := 3095) hx hb dX9_saves_12 (by decide) ?_
      refine lv_icmp_ge (tgt := 40) hx hb dX9_saves_15 rfl (fun hc => ?_) (fun hc => ?_)
      · have hf := ift hc hf
        have ho := Option.some.inj hf
        subst ho
        exact hK H locs ls hW (lv_sub hl [0] rfl)
      · have hf := iff_ hc hf
        refine lv_aload_n hx hb dX9_saves_18 rfl (lv_at hl 0 rfl) ?_
        refine aw_get (v := .ref (g.2.2 + 72)) C0 hW (lv_fix (by decide)) (cel_8 kd70) rfl inG8 1 (by decide) wd81 rfl rfl dX9_saves_19 ?_
        refine lv_iload_n hx hb dX9_saves_22 rfl (lv_at hl 1 rfl) ?_
        refine lv_aload_n hx hb dX9_saves_23 rfl (lv_at hl 0 rfl) ?_
        refine aw_get (v := .ref (g.2.2 + 72)) C0 hW (lv_fix (by decide)) (cel_8 kd70) rfl inG8 1 (by decide) wd81 rfl rfl dX9_saves_24 ?_
        refine lv_iload_n hx hb dX9_saves_27 rfl (lv_at hl 1 rfl) ?_
        refine lv_sipush (v := 619) hx hb dX9_saves_28 (by decide) ?_
        refine lv_iadd hx hb dX9_saves_31 ?_
        obtain ⟨v2, hv2, hf⟩ := bnd hf
        refine aw_iald C0 hW kd72 ln72 hv2 dX9_saves_32 ?_
        obtain ⟨I3, hI3, hf⟩ := bnd hf
        refine aw_iast C0 hW kd72 ln72 hI3 dX9_saves_33 (fun H locs hW => ?_)
        refine lv_iinc (k := 1) (v := w1 + 1) (lv' := [(1, .int (w1 + 1)), (0, .ref (g.2.2 + 70))]) hx hb dX9_saves_34 hl rfl (congrArg (fun t => w1 + t) (by decide : Int32.ofInt 1 = 1)) (Nat.le_of_ble_eq_true rfl) rfl (fun ls hl => ?_)
        refine lv_goto (tgt := 11) hx hb dX9_saves_37 rfl ?_
        exact ih _ _ H locs ls o hf hW (lv_sub hl [1, 0] rfl) hK
  unfold f_X9_saves at hf
  obtain ⟨H, hH⟩ : ∃ H, H = s.heap := ⟨_, rfl⟩
  obtain ⟨locs, hlc⟩ : ∃ q : List Loc, q = [] := ⟨_, rfl⟩
  rw [show W p0 l e rmX9_saves s m args below meth c s.heap [] 0 0 (MQ below (QV g z R P Z) args s 0 0 (AA g)) (F0 m 0 ls []) = W p0 l e rmX9_saves s m args below meth c H locs 0 0 (MQ below (QV g z R P Z) args s 0 0 (AA g)) (F0 m 0 ls []) by rw [hH, hlc]]
  have hW : Wd g I R P Z s.heap H locs := by rw [hH, hlc]; exact hW
  refine lv_aload_n hx hb dX9_saves_0 rfl (lv_at hl 0 rfl) ?_
  refine aw_get (v := .int (I 70 2)) C0 hW (lv_fix (by decide)) (cel_8 kd70) rfl inG8 2 (by decide) wd80 rfl rfl dX9_saves_1 ?_
  refine lv_bipush (v := 6) hx hb dX9_saves_4 (by decide) ?_
  refine lv_icmp_ne (tgt := 50) hx hb dX9_saves_6 rfl (fun hc => ?_) (fun hc => ?_)
  · have hf := iff_ hc hf
    refine lv_aload_n hx hb dX9_saves_50 rfl (lv_at hl 0 rfl) ?_
    refine aw_get (v := .ref (g.2.2 + 71)) C0 hW (lv_fix (by decide)) (cel_8 kd70) rfl inG8 0 (by decide) wd73 rfl rfl dX9_saves_51 ?_
    refine lv_iconst (v := 0) hx hb dX9_saves_54 (by decide) ?_
    refine lv_aload_n hx hb dX9_saves_55 rfl (lv_at hl 0 rfl) ?_
    refine aw_get (v := .ref (g.2.2 + 72)) C0 hW (lv_fix (by decide)) (cel_8 kd70) rfl inG8 1 (by decide) wd81 rfl rfl dX9_saves_56 ?_
    refine lv_sipush (v := 619) hx hb dX9_saves_59 (by decide) ?_
    refine lv_aload_n hx hb dX9_saves_62 rfl (lv_at hl 0 rfl) ?_
    refine aw_get (v := .int (I 70 2)) C0 hW (lv_fix (by decide)) (cel_8 kd70) rfl inG8 2 (by decide) wd80 rfl rfl dX9_saves_63 ?_
    refine lv_imul hx hb dX9_saves_66 ?_
    obtain ⟨q1, hq1, hf⟩ := bnd hf
    refine aw_cSv (rest := []) C0 hW (c_X9_lays 71 0 72 (619 * (I 70 2)) kd71 kd72 hq1) (cw_X9_54 hts ⟨Nat.le_of_ble_eq_true rfl, Nat.le_of_ble_eq_true rfl⟩) rfl hl.1 rfl (Nat.le_of_ble_eq_true rfl) ⟨Nat.zero_le _, Nat.zero_le _⟩ dX9_saves_67 (fun H locs hW => ?_)
    refine lv_aload_n hx hb dX9_saves_70 rfl (lv_at hl 0 rfl) ?_
    refine lv_dup hx hb dX9_saves_71 rfl ?_
    refine aw_get (v := .int (q1 70 2)) C0 hW (lv_fix (by decide)) (cel_8 kd70) rfl inG8 2 (by decide) wd80 rfl rfl dX9_saves_72 ?_
    refine lv_iconst (v := 1) hx hb dX9_saves_75 (by decide) ?_
    refine lv_iadd hx hb dX9_saves_76 ?_
    refine aw_put C0 hW (lv_fix (by decide)) (cel_8 kd70) rfl inG8 tyX9 tyX9_ok nmX9 2 (by decide) wd80 rfl rfl (ty := .int) rfl rfl rfl (Nat.le_of_ble_eq_true rfl) (pu_8_2 kd70) dX9_saves_77 (fun H locs hW => ?_)
    have hz := Option.some.inj hf
    exact aw_vret C0 hW hz rfl dX9_saves_80
  · have hf := ift hc hf
    refine lv_iconst (v := 0) hx hb dX9_saves_9 (by decide) ?_
    refine lv_istore_n (lv' := [(1, .int 0), (0, .ref (g.2.2 + 70))]) hx hb dX9_saves_10 rfl hl (Nat.le_of_ble_eq_true rfl) rfl (fun ls hl => ?_)
    obtain ⟨q4, hq4, hf⟩ := bnd hf
    refine L11  fuel 0 I H locs ls _ hq4 hW (lv_sub hl [1, 0] rfl) (fun H locs ls hW hl => ?_)
    refine lv_aload_n hx hb dX9_saves_40 rfl (lv_at hl 0 rfl) ?_
    refine lv_dup hx hb dX9_saves_41 rfl ?_
    refine aw_get (v := .int (q4 70 2)) C0 hW (lv_fix (by decide)) (cel_8 kd70) rfl inG8 2 (by decide) wd80 rfl rfl dX9_saves_42 ?_
    refine lv_iconst (v := 1) hx hb dX9_saves_45 (by decide) ?_
    refine lv_isub hx hb dX9_saves_46 ?_
    refine aw_put C0 hW (lv_fix (by decide)) (cel_8 kd70) rfl inG8 tyX9 tyX9_ok nmX9 2 (by decide) wd80 rfl rfl (ty := .int) rfl rfl rfl (Nat.le_of_ble_eq_true rfl) (pu_8_2 kd70) dX9_saves_47 (fun H locs hW => ?_)
    refine lv_aload_n hx hb dX9_saves_50 rfl (lv_at hl 0 rfl) ?_
    refine aw_get (v := .ref (g.2.2 + 71)) C0 hW (lv_fix (by decide)) (cel_8 kd70) rfl inG8 0 (by decide) wd73 rfl rfl dX9_saves_51 ?_
    refine lv_iconst (v := 0) hx hb dX9_saves_54 (by decide) ?_
    refine lv_aload_n hx hb dX9_saves_55 rfl (lv_at hl 0 rfl) ?_
    refine aw_get (v := .ref (g.2.2 + 72)) C0 hW (lv_fix (by decide)) (cel_8 kd70) rfl inG8 1 (by decide) wd81 rfl rfl dX9_saves_56 ?_
    refine lv_sipush (v := 619) hx hb dX9_saves_59 (by decide) ?_
    refine lv_aload_n hx hb dX9_saves_62 rfl (lv_at hl 0 rfl) ?_
    refine aw_get (v := .int ((up q4 70 2 ((q4 70 2) - 1)) 70 2)) C0 hW (lv_fix (by decide)) (cel_8 kd70) rfl inG8 2 (by decide) wd80 rfl rfl dX9_saves_63 ?_
    refine lv_imul hx hb dX9_saves_66 ?_
    obtain ⟨q5, hq5, hf⟩ := bnd hf
    refine aw_cSv (rest := []) C0 hW (c_X9_lays 71 0 72 (619 * ((up q4 70 2 ((q4 70 2) - 1)) 70 2)) kd71 kd72 hq5) (cw_X9_54 hts ⟨Nat.le_of_ble_eq_true rfl, Nat.le_of_ble_eq_true rfl⟩) rfl hl.1 rfl (Nat.le_of_ble_eq_true rfl) ⟨Nat.zero_le _, Nat.zero_le _⟩ dX9_saves_67 (fun H locs hW => ?_)
    refine lv_aload_n hx hb dX9_saves_70 rfl (lv_at hl 0 rfl) ?_
    refine lv_dup hx hb dX9_saves_71 rfl ?_
    refine aw_get (v := .int (q5 70 2)) C0 hW (lv_fix (by decide)) (cel_8 kd70) rfl inG8 2 (by decide) wd80 rfl rfl dX9_saves_72 ?_
    refine lv_iconst (v := 1) hx hb dX9_saves_75 (by decide) ?_
    refine lv_iadd hx hb dX9_saves_76 ?_
    refine aw_put C0 hW (lv_fix (by decide)) (cel_8 kd70) rfl inG8 tyX9 tyX9_ok nmX9 2 (by decide) wd80 rfl rfl (ty := .int) rfl rfl rfl (Nat.le_of_ble_eq_true rfl) (pu_8_2 kd70) dX9_saves_77 (fun H locs hW => ?_)
    have hz := Option.some.inj hf
    exact aw_vret C0 hW hz rfl dX9_saves_80
theorem cw_X9_125 {Rm : Room} {s : State} {args : Array Value} (ht : ∀ w ∈ GT, w.before args s = true) (hR : rmX9_saves.frames + 1 ≤ Rm.frames ∧ 8 + (2 + 11) + rmX9_saves.locals ≤ Rm.locals) : CallW Rm s args RX9 RX9 125 yX9_saves cX9_saves 2 none (Cond.code yX9_saves cX9_saves 2 none :: GT) rmX9_saves 0 0 0 := cwV 0 ht (goodV wd632 wd633 wd634 wd607 wd635) rfl rfl rfl ⟨rfl, by decide +kernel, by decide +kernel, by decide +kernel⟩ hR
def f_X9_takesRow_L2 (x1 : Int32) (x2 : Int32) : Nat → Int32 → Mem → Option (Mem)
  | 0, _, _ => none
  | n + 1, w3, I =>
    if 4 ≤ w3 then (
      some I
    ) else (
      (f_X9_of x1 x2 w3 I).bind fun q1 =>
      (wr I 76 4 w3 q1).bind fun I2 =>
      (rd I2 76 4 w3).bind fun v3 =>
      (wr I2 77 4 w3 v3).bind fun I4 =>
      f_X9_takesRow_L2 x1 x2 n (w3 + 1) I4
    )
def f_X9_takesRow (x1 : Int32) (x2 : Int32) (I : Mem) : Option (Mem) :=
  (f_X9_takesRow_L2 x1 x2 fuel 0 I).bind fun q5 =>
  some q5
abbrev rmX9_takesRow : Room := { frames := 2, cells := 0, slots := 0, locals := 45 }
set_option maxHeartbeats 4000000 in
set_option maxRecDepth 100000 in
theorem c_X9_takesRow {l : Launch} {g : Gam} {I : Mem} {R : Rem} {P : Pool} {Z : Zed} (x1 : Int32) (x2 : Int32)  {z : Mem} (hf : f_X9_takesRow x1 x2 I = some z) : Met l yX9_takesRow (Cond.code yX9_takesRow cX9_takesRow 4 none :: GT) rmX9_takesRow (va_Pc [.ref (g.2.2 + 70), .int x1, .int x2] (PW g I R P Z)) (QV g z R P Z) 0 0 (AA g) := by
  refine aw_ofW (lv0 := [(0, .ref (g.2.2 + 70)), (1, .int x1), (2, .int x2)]) (by decide) (by exact Nat.le_of_ble_eq_true rfl) (by rfl) (fun p0 e s m args below meth c ls C0 hl hW => ?_)
  have C0 : CX g p0 s m args meth c RX9 cX9_takesRow 4 none := C0
  have hx := C0.1; have hb := C0.2.1; have hown := C0.2.2.2.2.1; have hts := C0.2.2.2.2.2.1; have hKS := C0.2.2.2.2.2.2.1
  have L2 : ∀ (n : Nat) (w3 : Int32) (I : Mem) (H : Heap) (locs : List Loc) (ls : Array Slot) (o : Mem), f_X9_takesRow_L2 x1 x2 n w3 I = some o → Wd g I R P Z s.heap H locs → lv_has ls 4 [(0, .ref (g.2.2 + 70)), (1, .int x1), (2, .int x2), (3, .int w3)] → (∀ (H : Heap) (locs : List Loc) (ls : Array Slot), Wd g o R P Z s.heap H locs → lv_has ls 4 [] → W p0 l e rmX9_takesRow s m args below meth c H locs 0 0 (MQ below (QV g z R P Z) args s 0 0 (AA g)) (F0 m 38 ls [])) → W p0 l e rmX9_takesRow s m args below meth c H locs 0 0 (MQ below (QV g z R P Z) args s 0 0 (AA g)) (F0 m 2 ls []) := by
    intro n
    induction n with
    | zero => intro w3 I H locs ls o hf; cases hf
    | succ n ih =>
      intro w3 I H locs ls o hf hW hl hK
      rw [f_X9_takesRow_L2] at hf
      refine lv_iload_n hx hb dX9_takesRow_2 rfl (lv_at hl 3 rfl) ?_
      refine lv_iconst (v := 4) hx hb dX9_takesRow_3 (by decide) ?_
      refine lv_icmp_ge (tgt := 38) hx hb dX9_takesRow_4 rfl (fun hc => ?_) (fun hc => ?_)
      · have hf := ift hc hf
        have ho := Option.some.inj hf
        subst ho
        exact hK H locs ls hW (lv_sub hl [] rfl)
      · have hf := iff_ hc hf
        refine lv_aload_n hx hb dX9_takesRow_7 rfl (lv_at hl 0 rfl) ?_
        refine aw_get (v := .ref (g.2.2 + 76)) C0 hW (lv_fix (by decide)) (cel_8 kd70) rfl inG8 8 (by decide) wd82 rfl rfl dX9_takesRow_8 ?_
        refine lv_iload_n hx hb dX9_takesRow_11 rfl (lv_at hl 3 rfl) ?_
        refine lv_aload_n hx hb dX9_takesRow_12 rfl (lv_at hl 0 rfl) ?_
        refine lv_iload_n hx hb dX9_takesRow_13 rfl (lv_at hl 1 rfl) ?_
        refine lv_iload_n hx hb dX9_takesRow_14 rfl (lv_at hl 2 rfl) ?_
        refine lv_iload_n hx hb dX9_takesRow_15 rfl (lv_at hl 3 rfl) ?_
        obtain ⟨q1, hq1, hf⟩ := bnd hf
        refine aw_cVi (rest := [.int w3, .ref (g.2.2 + 76)]) C0 hW (lv_fix (by decide)) (cel_8 kd70) rfl (c_X9_of x1 x2 w3  hq1) (cw_X9_74 hts ⟨Nat.le_of_ble_eq_true rfl, Nat.le_of_ble_eq_true rfl⟩) rfl hl.1 rfl (Nat.le_of_ble_eq_true rfl) ⟨Nat.zero_le _, Nat.zero_le _⟩ dX9_takesRow_16 (fun H locs hW => ?_)
        obtain ⟨I2, hI2, hf⟩ := bnd hf
        refine aw_iast C0 hW kd76 ln76 hI2 dX9_takesRow_19 (fun H locs hW => ?_)
        refine lv_aload_n hx hb dX9_takesRow_20 rfl (lv_at hl 0 rfl) ?_
        refine aw_get (v := .ref (g.2.2 + 77)) C0 hW (lv_fix (by decide)) (cel_8 kd70) rfl inG8 9 (by decide) wd83 rfl rfl dX9_takesRow_21 ?_
        refine lv_iload_n hx hb dX9_takesRow_24 rfl (lv_at hl 3 rfl) ?_
        refine lv_aload_n hx hb dX9_takesRow_25 rfl (lv_at hl 0 rfl) ?_
        refine aw_get (v := .ref (g.2.2 + 76)) C0 hW (lv_fix (by decide)) (cel_8 kd70) rfl inG8 8 (by decide) wd82 rfl rfl dX9_takesRow_26 ?_
        refine lv_iload_n hx hb dX9_takesRow_29 rfl (lv_at hl 3 rfl) ?_
        obtain ⟨v3, hv3, hf⟩ := bnd hf
        refine aw_iald C0 hW kd76 ln76 hv3 dX9_takesRow_30 ?_
        obtain ⟨I4, hI4, hf⟩ := bnd hf
        refine aw_iast C0 hW kd77 ln77 hI4 dX9_takesRow_31 (fun H locs hW => ?_)
        refine lv_iinc (k := 3) (v := w3 + 1) (lv' := [(3, .int (w3 + 1)), (0, .ref (g.2.2 + 70)), (1, .int x1), (2, .int x2)]) hx hb dX9_takesRow_32 hl rfl (congrArg (fun t => w3 + t) (by decide : Int32.ofInt 1 = 1)) (Nat.le_of_ble_eq_true rfl) rfl (fun ls hl => ?_)
        refine lv_goto (tgt := 2) hx hb dX9_takesRow_35 rfl ?_
        exact ih _ _ H locs ls o hf hW (lv_sub hl [1, 2, 3, 0] rfl) hK
  unfold f_X9_takesRow at hf
  obtain ⟨H, hH⟩ : ∃ H, H = s.heap := ⟨_, rfl⟩
  obtain ⟨locs, hlc⟩ : ∃ q : List Loc, q = [] := ⟨_, rfl⟩
  rw [show W p0 l e rmX9_takesRow s m args below meth c s.heap [] 0 0 (MQ below (QV g z R P Z) args s 0 0 (AA g)) (F0 m 0 ls []) = W p0 l e rmX9_takesRow s m args below meth c H locs 0 0 (MQ below (QV g z R P Z) args s 0 0 (AA g)) (F0 m 0 ls []) by rw [hH, hlc]]
  have hW : Wd g I R P Z s.heap H locs := by rw [hH, hlc]; exact hW
  refine lv_iconst (v := 0) hx hb dX9_takesRow_0 (by decide) ?_
  refine lv_istore_n (lv' := [(3, .int 0), (0, .ref (g.2.2 + 70)), (1, .int x1), (2, .int x2)]) hx hb dX9_takesRow_1 rfl hl (Nat.le_of_ble_eq_true rfl) rfl (fun ls hl => ?_)
  obtain ⟨q5, hq5, hf⟩ := bnd hf
  refine L2  fuel 0 I H locs ls _ hq5 hW (lv_sub hl [1, 2, 3, 0] rfl) (fun H locs ls hW hl => ?_)
  have hz := Option.some.inj hf
  exact aw_vret C0 hW hz rfl dX9_takesRow_38
theorem cw_X9_109 {Rm : Room} {s : State} {args : Array Value} (ht : ∀ w ∈ GT, w.before args s = true) (hR : rmX9_takesRow.frames + 1 ≤ Rm.frames ∧ 8 + (4 + 11) + rmX9_takesRow.locals ≤ Rm.locals) : CallW Rm s args RX9 RX9 109 yX9_takesRow cX9_takesRow 4 none (Cond.code yX9_takesRow cX9_takesRow 4 none :: GT) rmX9_takesRow 0 0 2 := cwV 2 ht (goodV wd613 wd614 wd615 wd607 wd616) rfl rfl rfl ⟨rfl, by decide +kernel, by decide +kernel, by decide +kernel⟩ hR
def f_X9_compared (x0 : Int32) (x1 : Int32) (x2 : Int32) : Option (Int32) :=
  if x1 = ((-1)) then (
    some 1
  ) else (
    if x2 = ((-1)) then (
      some 1
    ) else (
      if x0 = 1 then (
        if x1 = x2 then (
          some 2
        ) else (
          some 0
        )
      ) else (
        if x0 = 2 then (
          if x2 ≤ x1 then (
            some 0
          ) else (
            some 2
          )
        ) else (
          if x1 ≤ x2 then (
            some 0
          ) else (
            some 2
          )
        )
      )
    )
  )
abbrev rmX9_compared : Room := { frames := 0, cells := 0, slots := 0, locals := 0 }
set_option maxHeartbeats 4000000 in
set_option maxRecDepth 100000 in
theorem c_X9_compared {l : Launch} {g : Gam} {I : Mem} {R : Rem} {P : Pool} {Z : Zed} (x0 : Int32) (x1 : Int32) (x2 : Int32)  {z : Int32} (hf : f_X9_compared x0 x1 x2 = some z) : Met l yX9_compared (Cond.code yX9_compared cX9_compared 4 (some .int) :: GT) rmX9_compared (va_Pc [.int x0, .int x1, .int x2] (PW g I R P Z)) (QI g z I R P Z) 0 0 (AA g) := by
  refine aw_ofW (lv0 := [(0, .int x0), (1, .int x1), (2, .int x2)]) (by decide) (by exact Nat.le_of_ble_eq_true rfl) (by rfl) (fun p0 e s m args below meth c ls C0 hl hW => ?_)
  have C0 : CX g p0 s m args meth c RX9 cX9_compared 4 (some .int) := C0
  have hx := C0.1; have hb := C0.2.1; have hown := C0.2.2.2.2.1; have hts := C0.2.2.2.2.2.1; have hKS := C0.2.2.2.2.2.2.1
  unfold f_X9_compared at hf
  obtain ⟨H, hH⟩ : ∃ H, H = s.heap := ⟨_, rfl⟩
  obtain ⟨locs, hlc⟩ : ∃ q : List Loc, q = [] := ⟨_, rfl⟩
  rw [show W p0 l e rmX9_compared s m args below meth c s.heap [] 0 0 (MQ below (QI g z I R P Z) args s 0 0 (AA g)) (F0 m 0 ls []) = W p0 l e rmX9_compared s m args below meth c H locs 0 0 (MQ below (QI g z I R P Z) args s 0 0 (AA g)) (F0 m 0 ls []) by rw [hH, hlc]]
  have hW : Wd g I R P Z s.heap H locs := by rw [hH, hlc]; exact hW
  refine lv_iload_n hx hb dX9_compared_0 rfl (lv_at hl 1 rfl) ?_
  refine lv_iconst (v := (-1)) hx hb dX9_compared_1 (by decide) ?_
  refine lv_icmp_eq (tgt := 10) hx hb dX9_compared_2 rfl (fun hc => ?_) (fun hc => ?_)
  · have hf := ift hc hf
    refine lv_iconst (v := 1) hx hb dX9_compared_10 (by decide) ?_
    have hz := Option.some.inj hf
    exact aw_iret C0 hW hz rfl rfl dX9_compared_11
  · have hf := iff_ hc hf
    refine lv_iload_n hx hb dX9_compared_5 rfl (lv_at hl 2 rfl) ?_
    refine lv_iconst (v := (-1)) hx hb dX9_compared_6 (by decide) ?_
    refine lv_icmp_ne (tgt := 12) hx hb dX9_compared_7 rfl (fun hc => ?_) (fun hc => ?_)
    · have hf := iff_ hc hf
      refine lv_iload_n hx hb dX9_compared_12 rfl (lv_at hl 0 rfl) ?_
      refine lv_iconst (v := 1) hx hb dX9_compared_13 (by decide) ?_
      refine lv_icmp_ne (tgt := 30) hx hb dX9_compared_14 rfl (fun hc => ?_) (fun hc => ?_)
      · have hf := iff_ hc hf
        refine lv_iload_n hx hb dX9_compared_30 rfl (lv_at hl 0 rfl) ?_
        refine lv_iconst (v := 2) hx hb dX9_compared_31 (by decide) ?_
        refine lv_icmp_ne (tgt := 48) hx hb dX9_compared_32 rfl (fun hc => ?_) (fun hc => ?_)
        · have hf := iff_ hc hf
          refine lv_iload_n hx hb dX9_compared_48 rfl (lv_at hl 1 rfl) ?_
          refine lv_iload_n hx hb dX9_compared_49 rfl (lv_at hl 2 rfl) ?_
          refine lv_icmp_le (tgt := 57) hx hb dX9_compared_50 rfl (fun hc => ?_) (fun hc => ?_)
          · have hf := ift hc hf
            refine lv_iconst (v := 0) hx hb dX9_compared_57 (by decide) ?_
            refine lv_istore_n (lv' := [(3, .int 0), (0, .int x0), (1, .int x1), (2, .int x2)]) hx hb dX9_compared_58 rfl hl (Nat.le_of_ble_eq_true rfl) rfl (fun ls hl => ?_)
            refine lv_iload_n hx hb dX9_compared_59 rfl (lv_at hl 0 rfl) ?_
            refine lv_if_eq (tgt := 67) hx hb dX9_compared_60 rfl (fun _ => ?_) (fun hc => absurd (by decide) hc)
            refine lv_iconst (v := 0) hx hb dX9_compared_67 (by decide) ?_
            have hz := Option.some.inj hf
            exact aw_iret C0 hW hz rfl rfl dX9_compared_68
          · have hf := iff_ hc hf
            refine lv_iconst (v := 1) hx hb dX9_compared_53 (by decide) ?_
            refine lv_goto (tgt := 58) hx hb dX9_compared_54 rfl ?_
            refine lv_istore_n (lv' := [(3, .int 1), (0, .int x0), (1, .int x1), (2, .int x2)]) hx hb dX9_compared_58 rfl hl (Nat.le_of_ble_eq_true rfl) rfl (fun ls hl => ?_)
            refine lv_iload_n hx hb dX9_compared_59 rfl (lv_at hl 0 rfl) ?_
            refine lv_if_eq (tgt := 67) hx hb dX9_compared_60 rfl (fun hc => absurd hc (by decide)) (fun _ => ?_)
            refine lv_iconst (v := 2) hx hb dX9_compared_63 (by decide) ?_
            refine lv_goto (tgt := 68) hx hb dX9_compared_64 rfl ?_
            have hz := Option.some.inj hf
            exact aw_iret C0 hW hz rfl rfl dX9_compared_68
        · have hf := ift hc hf
          refine lv_iload_n hx hb dX9_compared_35 rfl (lv_at hl 1 rfl) ?_
          refine lv_iload_n hx hb dX9_compared_36 rfl (lv_at hl 2 rfl) ?_
          refine lv_icmp_ge (tgt := 44) hx hb dX9_compared_37 rfl (fun hc => ?_) (fun hc => ?_)
          · have hf := ift hc hf
            refine lv_iconst (v := 0) hx hb dX9_compared_44 (by decide) ?_
            refine lv_goto (tgt := 58) hx hb dX9_compared_45 rfl ?_
            refine lv_istore_n (lv' := [(3, .int 0), (0, .int x0), (1, .int x1), (2, .int x2)]) hx hb dX9_compared_58 rfl hl (Nat.le_of_ble_eq_true rfl) rfl (fun ls hl => ?_)
            refine lv_iload_n hx hb dX9_compared_59 rfl (lv_at hl 0 rfl) ?_
            refine lv_if_eq (tgt := 67) hx hb dX9_compared_60 rfl (fun _ => ?_) (fun hc => absurd (by decide) hc)
            refine lv_iconst (v := 0) hx hb dX9_compared_67 (by decide) ?_
            have hz := Option.some.inj hf
            exact aw_iret C0 hW hz rfl rfl dX9_compared_68
          · have hf := iff_ hc hf
            refine lv_iconst (v := 1) hx hb dX9_compared_40 (by decide) ?_
            refine lv_goto (tgt := 58) hx hb dX9_compared_41 rfl ?_
            refine lv_istore_n (lv' := [(3, .int 1), (0, .int x0), (1, .int x1), (2, .int x2)]) hx hb dX9_compared_58 rfl hl (Nat.le_of_ble_eq_true rfl) rfl (fun ls hl => ?_)
            refine lv_iload_n hx hb dX9_compared_59 rfl (lv_at hl 0 rfl) ?_
            refine lv_if_eq (tgt := 67) hx hb dX9_compared_60 rfl (fun hc => absurd hc (by decide)) (fun _ => ?_)
            refine lv_iconst (v := 2) hx hb dX9_compared_63 (by decide) ?_
            refine lv_goto (tgt := 68) hx hb dX9_compared_64 rfl ?_
            have hz := Option.some.inj hf
            exact aw_iret C0 hW hz rfl rfl dX9_compared_68
      · have hf := ift hc hf
        refine lv_iload_n hx hb dX9_compared_17 rfl (lv_at hl 1 rfl) ?_
        refine lv_iload_n hx hb dX9_compared_18 rfl (lv_at hl 2 rfl) ?_
        refine lv_icmp_ne (tgt := 26) hx hb dX9_compared_19 rfl (fun hc => ?_) (fun hc => ?_)
        · have hf := iff_ hc hf
          refine lv_iconst (v := 0) hx hb dX9_compared_26 (by decide) ?_
          refine lv_goto (tgt := 58) hx hb dX9_compared_27 rfl ?_
          refine lv_istore_n (lv' := [(3, .int 0), (0, .int x0), (1, .int x1), (2, .int x2)]) hx hb dX9_compared_58 rfl hl (Nat.le_of_ble_eq_true rfl) rfl (fun ls hl => ?_)
          refine lv_iload_n hx hb dX9_compared_59 rfl (lv_at hl 0 rfl) ?_
          refine lv_if_eq (tgt := 67) hx hb dX9_compared_60 rfl (fun _ => ?_) (fun hc => absurd (by decide) hc)
          refine lv_iconst (v := 0) hx hb dX9_compared_67 (by decide) ?_
          have hz := Option.some.inj hf
          exact aw_iret C0 hW hz rfl rfl dX9_compared_68
        · have hf := ift hc hf
          refine lv_iconst (v := 1) hx hb dX9_compared_22 (by decide) ?_
          refine lv_goto (tgt := 58) hx hb dX9_compared_23 rfl ?_
          refine lv_istore_n (lv' := [(3, .int 1), (0, .int x0), (1, .int x1), (2, .int x2)]) hx hb dX9_compared_58 rfl hl (Nat.le_of_ble_eq_true rfl) rfl (fun ls hl => ?_)
          refine lv_iload_n hx hb dX9_compared_59 rfl (lv_at hl 0 rfl) ?_
          refine lv_if_eq (tgt := 67) hx hb dX9_compared_60 rfl (fun hc => absurd hc (by decide)) (fun _ => ?_)
          refine lv_iconst (v := 2) hx hb dX9_compared_63 (by decide) ?_
          refine lv_goto (tgt := 68) hx hb dX9_compared_64 rfl ?_
          have hz := Option.some.inj hf
          exact aw_iret C0 hW hz rfl rfl dX9_compared_68
    · have hf := ift hc hf
      refine lv_iconst (v := 1) hx hb dX9_compared_10 (by decide) ?_
      have hz := Option.some.inj hf
      exact aw_iret C0 hW hz rfl rfl dX9_compared_11
theorem cw_X9_86 {Rm : Room} {s : State} {args : Array Value} (ht : ∀ w ∈ GT, w.before args s = true) (hR : rmX9_compared.frames + 1 ≤ Rm.frames ∧ 8 + (4 + 11) + rmX9_compared.locals ≤ Rm.locals) : CallB Rm s args RX9 86 yX9_compared cX9_compared 4 (some .int) (Cond.code yX9_compared cX9_compared 4 (some .int) :: GT) rmX9_compared 0 0 3 ∧ (Cond.static yX9_compared).before args s = true := va_cwS 3 ht (goodS wd881 wd882 wd607 wd883) rfl rfl rfl ⟨by decide +kernel, by decide +kernel, by decide +kernel⟩ hR
def f_X9_tested (x1 : Int32) (I : Mem) : Option (Int32) :=
  (f_X9_signOf x1).bind fun q1 =>
  if q1 = 0 then (
    (f_X9_columnOf x1).bind fun q8 =>
    (rd I 77 4 q8).bind fun v9 =>
    if v9 = ((-1)) then (
      some 2
    ) else (
      some 0
    )
  ) else (
    (f_X9_otherOf x1).bind fun q2 =>
    (f_X9_columnOf x1).bind fun q3 =>
    (rd I 76 4 q3).bind fun v4 =>
    if 100 ≤ q2 then (
      (rd I 76 4 (q2 - 100)).bind fun v5 =>
      (f_X9_compared q1 v4 v5).bind fun q6 =>
      some q6
    ) else (
      (f_X9_compared q1 v4 q2).bind fun q7 =>
      some q7
    )
  )
abbrev rmX9_tested : Room := { frames := 1, cells := 0, slots := 0, locals := 23 }
set_option maxHeartbeats 4000000 in
set_option maxRecDepth 100000 in
theorem c_X9_tested {l : Launch} {g : Gam} {I : Mem} {R : Rem} {P : Pool} {Z : Zed} (x1 : Int32)  {z : Int32} (hf : f_X9_tested x1 I = some z) : Met l yX9_tested (Cond.code yX9_tested cX9_tested 4 (some .int) :: GT) rmX9_tested (va_Pc [.ref (g.2.2 + 70), .int x1] (PW g I R P Z)) (QI g z I R P Z) 0 0 (AA g) := by
  refine aw_ofW (lv0 := [(0, .ref (g.2.2 + 70)), (1, .int x1)]) (by decide) (by exact Nat.le_of_ble_eq_true rfl) (by rfl) (fun p0 e s m args below meth c ls C0 hl hW => ?_)
  have C0 : CX g p0 s m args meth c RX9 cX9_tested 4 (some .int) := C0
  have hx := C0.1; have hb := C0.2.1; have hown := C0.2.2.2.2.1; have hts := C0.2.2.2.2.2.1; have hKS := C0.2.2.2.2.2.2.1
  unfold f_X9_tested at hf
  obtain ⟨H, hH⟩ : ∃ H, H = s.heap := ⟨_, rfl⟩
  obtain ⟨locs, hlc⟩ : ∃ q : List Loc, q = [] := ⟨_, rfl⟩
  rw [show W p0 l e rmX9_tested s m args below meth c s.heap [] 0 0 (MQ below (QI g z I R P Z) args s 0 0 (AA g)) (F0 m 0 ls []) = W p0 l e rmX9_tested s m args below meth c H locs 0 0 (MQ below (QI g z I R P Z) args s 0 0 (AA g)) (F0 m 0 ls []) by rw [hH, hlc]]
  have hW : Wd g I R P Z s.heap H locs := by rw [hH, hlc]; exact hW
  refine lv_iload_n hx hb dX9_tested_0 rfl (lv_at hl 1 rfl) ?_
  obtain ⟨q1, hq1, hf⟩ := bnd hf
  refine aw_cSi (rest := []) C0 hW (c_X9_signOf x1  hq1) (cw_X9_77 hts ⟨Nat.le_of_ble_eq_true rfl, Nat.le_of_ble_eq_true rfl⟩) rfl hl.1 rfl (Nat.le_of_ble_eq_true rfl) ⟨Nat.zero_le _, Nat.zero_le _⟩ dX9_tested_1 (fun H locs hW => ?_)
  refine lv_istore_n (lv' := [(2, .int q1), (0, .ref (g.2.2 + 70)), (1, .int x1)]) hx hb dX9_tested_4 rfl hl (Nat.le_of_ble_eq_true rfl) rfl (fun ls hl => ?_)
  refine lv_iload_n hx hb dX9_tested_5 rfl (lv_at hl 0 rfl) ?_
  refine lv_if_ne (tgt := 28) hx hb dX9_tested_6 rfl (fun hc => ?_) (fun hc => ?_)
  · have hf := iff_ hc hf
    refine lv_iload_n hx hb dX9_tested_28 rfl (lv_at hl 2 rfl) ?_
    obtain ⟨q2, hq2, hf⟩ := bnd hf
    refine aw_cSi (rest := []) C0 hW (c_X9_otherOf x1  hq2) (cw_X9_83 hts ⟨Nat.le_of_ble_eq_true rfl, Nat.le_of_ble_eq_true rfl⟩) rfl hl.1 rfl (Nat.le_of_ble_eq_true rfl) ⟨Nat.zero_le _, Nat.zero_le _⟩ dX9_tested_29 (fun H locs hW => ?_)
    refine lv_istore_n (lv' := [(3, .int q2), (2, .int q1), (0, .ref (g.2.2 + 70)), (1, .int x1)]) hx hb dX9_tested_32 rfl hl (Nat.le_of_ble_eq_true rfl) rfl (fun ls hl => ?_)
    refine lv_iload_n hx hb dX9_tested_33 rfl (lv_at hl 1 rfl) ?_
    refine lv_aload_n hx hb dX9_tested_34 rfl (lv_at hl 2 rfl) ?_
    refine aw_get (v := .ref (g.2.2 + 76)) C0 hW (lv_fix (by decide)) (cel_8 kd70) rfl inG8 8 (by decide) wd82 rfl rfl dX9_tested_35 ?_
    refine lv_iload_n hx hb dX9_tested_38 rfl (lv_at hl 3 rfl) ?_
    obtain ⟨q3, hq3, hf⟩ := bnd hf
    refine aw_cSi (rest := [.ref (g.2.2 + 76), .int q1]) C0 hW (c_X9_columnOf x1  hq3) (cw_X9_80 hts ⟨Nat.le_of_ble_eq_true rfl, Nat.le_of_ble_eq_true rfl⟩) rfl hl.1 rfl (Nat.le_of_ble_eq_true rfl) ⟨Nat.zero_le _, Nat.zero_le _⟩ dX9_tested_39 (fun H locs hW => ?_)
    obtain ⟨v4, hv4, hf⟩ := bnd hf
    refine aw_iald C0 hW kd76 ln76 hv4 dX9_tested_42 ?_
    refine lv_iload_n hx hb dX9_tested_43 rfl (lv_at hl 0 rfl) ?_
    refine lv_bipush (v := 100) hx hb dX9_tested_44 (by decide) ?_
    refine lv_icmp_ge (tgt := 53) hx hb dX9_tested_46 rfl (fun hc => ?_) (fun hc => ?_)
    · have hf := ift hc hf
      refine lv_aload_n hx hb dX9_tested_53 rfl (lv_at hl 2 rfl) ?_
      refine aw_get (v := .ref (g.2.2 + 76)) C0 hW (lv_fix (by decide)) (cel_8 kd70) rfl inG8 8 (by decide) wd82 rfl rfl dX9_tested_54 ?_
      refine lv_iload_n hx hb dX9_tested_57 rfl (lv_at hl 0 rfl) ?_
      refine lv_bipush (v := 100) hx hb dX9_tested_58 (by decide) ?_
      refine lv_isub hx hb dX9_tested_60 ?_
      obtain ⟨v5, hv5, hf⟩ := bnd hf
      refine aw_iald C0 hW kd76 ln76 hv5 dX9_tested_61 ?_
      obtain ⟨q6, hq6, hf⟩ := bnd hf
      refine aw_cSi (rest := []) C0 hW (c_X9_compared q1 v4 v5  hq6) (cw_X9_86 hts ⟨Nat.le_of_ble_eq_true rfl, Nat.le_of_ble_eq_true rfl⟩) rfl hl.1 rfl (Nat.le_of_ble_eq_true rfl) ⟨Nat.zero_le _, Nat.zero_le _⟩ dX9_tested_62 (fun H locs hW => ?_)
      have hz := Option.some.inj hf
      exact aw_iret C0 hW hz rfl rfl dX9_tested_65
    · have hf := iff_ hc hf
      refine lv_iload_n hx hb dX9_tested_49 rfl (lv_at hl 0 rfl) ?_
      refine lv_goto (tgt := 62) hx hb dX9_tested_50 rfl ?_
      obtain ⟨q7, hq7, hf⟩ := bnd hf
      refine aw_cSi (rest := []) C0 hW (c_X9_compared q1 v4 q2  hq7) (cw_X9_86 hts ⟨Nat.le_of_ble_eq_true rfl, Nat.le_of_ble_eq_true rfl⟩) rfl hl.1 rfl (Nat.le_of_ble_eq_true rfl) ⟨Nat.zero_le _, Nat.zero_le _⟩ dX9_tested_62 (fun H locs hW => ?_)
      have hz := Option.some.inj hf
      exact aw_iret C0 hW hz rfl rfl dX9_tested_65
  · have hf := ift hc hf
    refine lv_aload_n hx hb dX9_tested_9 rfl (lv_at hl 1 rfl) ?_
    refine aw_get (v := .ref (g.2.2 + 77)) C0 hW (lv_fix (by decide)) (cel_8 kd70) rfl inG8 9 (by decide) wd83 rfl rfl dX9_tested_10 ?_
    refine lv_iload_n hx hb dX9_tested_13 rfl (lv_at hl 2 rfl) ?_
    obtain ⟨q8, hq8, hf⟩ := bnd hf
    refine aw_cSi (rest := [.ref (g.2.2 + 77)]) C0 hW (c_X9_columnOf x1  hq8) (cw_X9_80 hts ⟨Nat.le_of_ble_eq_true rfl, Nat.le_of_ble_eq_true rfl⟩) rfl hl.1 rfl (Nat.le_of_ble_eq_true rfl) ⟨Nat.zero_le _, Nat.zero_le _⟩ dX9_tested_14 (fun H locs hW => ?_)
    obtain ⟨v9, hv9, hf⟩ := bnd hf
    refine aw_iald C0 hW kd77 ln77 hv9 dX9_tested_17 ?_
    refine lv_iconst (v := (-1)) hx hb dX9_tested_18 (by decide) ?_
    refine lv_icmp_ne (tgt := 26) hx hb dX9_tested_19 rfl (fun hc => ?_) (fun hc => ?_)
    · have hf := iff_ hc hf
      refine lv_iconst (v := 0) hx hb dX9_tested_26 (by decide) ?_
      have hz := Option.some.inj hf
      exact aw_iret C0 hW hz rfl rfl dX9_tested_27
    · have hf := ift hc hf
      refine lv_iconst (v := 2) hx hb dX9_tested_22 (by decide) ?_
      refine lv_goto (tgt := 27) hx hb dX9_tested_23 rfl ?_
      have hz := Option.some.inj hf
      exact aw_iret C0 hW hz rfl rfl dX9_tested_27
theorem cw_X9_102 {Rm : Room} {s : State} {args : Array Value} (ht : ∀ w ∈ GT, w.before args s = true) (hR : rmX9_tested.frames + 1 ≤ Rm.frames ∧ 8 + (4 + 11) + rmX9_tested.locals ≤ Rm.locals) : CallW Rm s args RX9 RX9 102 yX9_tested cX9_tested 4 (some .int) (Cond.code yX9_tested cX9_tested 4 (some .int) :: GT) rmX9_tested 0 0 1 := cwV 1 ht (goodV wd604 wd605 wd606 wd607 wd608) rfl rfl rfl ⟨rfl, by decide +kernel, by decide +kernel, by decide +kernel⟩ hR
def f_X9_combines (x1 : Int32) (I : Mem) : Option (Mem) :=
  if x1 = 0 then (
    (rd I 78 60 ((I 70 11) - 1)).bind fun v6 =>
    (wr I 78 60 ((I 70 11) - 1) (2 - v6)).bind fun I7 =>
    some I7
  ) else (
    (rd I 78 60 ((I 70 11) - 1)).bind fun v1 =>
    (rd I 78 60 ((I 70 11) - 2)).bind fun v2 =>
    ((
      if x1 = 1 then (
        if v1 ≤ v2 then (
          some 0
        ) else (
          some 1
        )
      ) else (
        if v2 ≤ v1 then (
          some 0
        ) else (
          some 1
        )
      )
    ) : Option (Int32)).bind fun q3 =>
    if q3 = 0 then (
      (wr (up I 70 11 ((I 70 11) - 1)) 78 60 (((up I 70 11 ((I 70 11) - 1)) 70 11) - 1) v1).bind fun I4 =>
      some I4
    ) else (
      (wr (up I 70 11 ((I 70 11) - 1)) 78 60 (((up I 70 11 ((I 70 11) - 1)) 70 11) - 1) v2).bind fun I5 =>
      some I5
    )
  )
abbrev rmX9_combines : Room := { frames := 0, cells := 0, slots := 0, locals := 0 }
set_option maxHeartbeats 4000000 in
set_option maxRecDepth 100000 in
theorem c_X9_combines {l : Launch} {g : Gam} {I : Mem} {R : Rem} {P : Pool} {Z : Zed} (x1 : Int32)  {z : Mem} (hf : f_X9_combines x1 I = some z) : Met l yX9_combines (Cond.code yX9_combines cX9_combines 5 none :: GT) rmX9_combines (va_Pc [.ref (g.2.2 + 70), .int x1] (PW g I R P Z)) (QV g z R P Z) 0 0 (AA g) := by
  refine aw_ofW (lv0 := [(0, .ref (g.2.2 + 70)), (1, .int x1)]) (by decide) (by exact Nat.le_of_ble_eq_true rfl) (by rfl) (fun p0 e s m args below meth c ls C0 hl hW => ?_)
  have C0 : CX g p0 s m args meth c RX9 cX9_combines 5 none := C0
  have hx := C0.1; have hb := C0.2.1; have hown := C0.2.2.2.2.1; have hts := C0.2.2.2.2.2.1; have hKS := C0.2.2.2.2.2.2.1
  unfold f_X9_combines at hf
  obtain ⟨H, hH⟩ : ∃ H, H = s.heap := ⟨_, rfl⟩
  obtain ⟨locs, hlc⟩ : ∃ q : List Loc, q = [] := ⟨_, rfl⟩
  rw [show W p0 l e rmX9_combines s m args below meth c s.heap [] 0 0 (MQ below (QV g z R P Z) args s 0 0 (AA g)) (F0 m 0 ls []) = W p0 l e rmX9_combines s m args below meth c H locs 0 0 (MQ below (QV g z R P Z) args s 0 0 (AA g)) (F0 m 0 ls []) by rw [hH, hlc]]
  have hW : Wd g I R P Z s.heap H locs := by rw [hH, hlc]; exact hW
  refine lv_iload_n hx hb dX9_combines_0 rfl (lv_at hl 1 rfl) ?_
  refine lv_if_ne (tgt := 29) hx hb dX9_combines_1 rfl (fun hc => ?_) (fun hc => ?_)
  · have hf := iff_ hc hf
    refine lv_aload_n hx hb dX9_combines_29 rfl (lv_at hl 0 rfl) ?_
    refine aw_get (v := .ref (g.2.2 + 78)) C0 hW (lv_fix (by decide)) (cel_8 kd70) rfl inG8 10 (by decide) wd75 rfl rfl dX9_combines_30 ?_
    refine lv_aload_n hx hb dX9_combines_33 rfl (lv_at hl 0 rfl) ?_
    refine aw_get (v := .int (I 70 11)) C0 hW (lv_fix (by decide)) (cel_8 kd70) rfl inG8 11 (by decide) wd74 rfl rfl dX9_combines_34 ?_
    refine lv_iconst (v := 1) hx hb dX9_combines_37 (by decide) ?_
    refine lv_isub hx hb dX9_combines_38 ?_
    obtain ⟨v1, hv1, hf⟩ := bnd hf
    refine aw_iald C0 hW kd78 ln78 hv1 dX9_combines_39 ?_
    refine lv_istore_n (lv' := [(2, .int v1), (0, .ref (g.2.2 + 70)), (1, .int x1)]) hx hb dX9_combines_40 rfl hl (Nat.le_of_ble_eq_true rfl) rfl (fun ls hl => ?_)
    refine lv_aload_n hx hb dX9_combines_41 rfl (lv_at hl 1 rfl) ?_
    refine aw_get (v := .ref (g.2.2 + 78)) C0 hW (lv_fix (by decide)) (cel_8 kd70) rfl inG8 10 (by decide) wd75 rfl rfl dX9_combines_42 ?_
    refine lv_aload_n hx hb dX9_combines_45 rfl (lv_at hl 1 rfl) ?_
    refine aw_get (v := .int (I 70 11)) C0 hW (lv_fix (by decide)) (cel_8 kd70) rfl inG8 11 (by decide) wd74 rfl rfl dX9_combines_46 ?_
    refine lv_iconst (v := 2) hx hb dX9_combines_49 (by decide) ?_
    refine lv_isub hx hb dX9_combines_50 ?_
    obtain ⟨v2, hv2, hf⟩ := bnd hf
    refine aw_iald C0 hW kd78 ln78 hv2 dX9_combines_51 ?_
    refine lv_istore_n (lv' := [(3, .int v2), (2, .int v1), (0, .ref (g.2.2 + 70)), (1, .int x1)]) hx hb dX9_combines_52 rfl hl (Nat.le_of_ble_eq_true rfl) rfl (fun ls hl => ?_)
    refine lv_aload_n hx hb dX9_combines_53 rfl (lv_at hl 2 rfl) ?_
    refine lv_dup hx hb dX9_combines_54 rfl ?_
    refine aw_get (v := .int (I 70 11)) C0 hW (lv_fix (by decide)) (cel_8 kd70) rfl inG8 11 (by decide) wd74 rfl rfl dX9_combines_55 ?_
    refine lv_iconst (v := 1) hx hb dX9_combines_58 (by decide) ?_
    refine lv_isub hx hb dX9_combines_59 ?_
    refine aw_put C0 hW (lv_fix (by decide)) (cel_8 kd70) rfl inG8 tyX9 tyX9_ok nmX9 11 (by decide) wd74 rfl rfl (ty := .int) rfl rfl rfl (Nat.le_of_ble_eq_true rfl) (pu_8_11 kd70) dX9_combines_60 (fun H locs hW => ?_)
    refine lv_iload_n hx hb dX9_combines_63 rfl (lv_at hl 3 rfl) ?_
    refine lv_iconst (v := 1) hx hb dX9_combines_64 (by decide) ?_
    obtain ⟨q3, hq3, hf⟩ := bnd hf
    have J91_q3 : ∀ (H : Heap) (locs : List Loc) (ls : Array Slot), Wd g ((up I 70 11 ((I 70 11) - 1))) R P Z s.heap H locs → lv_has ls 5 [(0, .ref (g.2.2 + 70)), (2, .int v1), (3, .int v2)] → W p0 l e rmX9_combines s m args below meth c H locs 0 0 (MQ below (QV g z R P Z) args s 0 0 (AA g)) (F0 m 91 ls ([.int q3])) := by
      intro H locs ls hW hl
      refine lv_istore (lv' := [(4, .int q3), (0, .ref (g.2.2 + 70)), (2, .int v1), (3, .int v2)]) hx hb dX9_combines_91 hl (Nat.le_of_ble_eq_true rfl) rfl (fun ls hl => ?_)
      refine lv_aload_n hx hb dX9_combines_93 rfl (lv_at hl 1 rfl) ?_
      refine aw_get (v := .ref (g.2.2 + 78)) C0 hW (lv_fix (by decide)) (cel_8 kd70) rfl inG8 10 (by decide) wd75 rfl rfl dX9_combines_94 ?_
      refine lv_aload_n hx hb dX9_combines_97 rfl (lv_at hl 1 rfl) ?_
      refine aw_get (v := .int ((up I 70 11 ((I 70 11) - 1)) 70 11)) C0 hW (lv_fix (by decide)) (cel_8 kd70) rfl inG8 11 (by decide) wd74 rfl rfl dX9_combines_98 ?_
      refine lv_iconst (v := 1) hx hb dX9_combines_101 (by decide) ?_
      refine lv_isub hx hb dX9_combines_102 ?_
      refine lv_iload hx hb dX9_combines_103 (lv_at hl 0 rfl) ?_
      refine lv_if_eq (tgt := 112) hx hb dX9_combines_105 rfl (fun hc => ?_) (fun hc => ?_)
      · have hf := ift hc hf
        refine lv_iload_n hx hb dX9_combines_112 rfl (lv_at hl 2 rfl) ?_
        obtain ⟨I4, hI4, hf⟩ := bnd hf
        refine aw_iast C0 hW kd78 ln78 hI4 dX9_combines_113 (fun H locs hW => ?_)
        have hz := Option.some.inj hf
        exact aw_vret C0 hW hz rfl dX9_combines_114
      · have hf := iff_ hc hf
        refine lv_iload_n hx hb dX9_combines_108 rfl (lv_at hl 3 rfl) ?_
        refine lv_goto (tgt := 113) hx hb dX9_combines_109 rfl ?_
        obtain ⟨I5, hI5, hf⟩ := bnd hf
        refine aw_iast C0 hW kd78 ln78 hI5 dX9_combines_113 (fun H locs hW => ?_)
        have hz := Option.some.inj hf
        exact aw_vret C0 hW hz rfl dX9_combines_114
    have hf := hq3
    refine lv_icmp_ne (tgt := 81) hx hb dX9_combines_65 rfl (fun hc => ?_) (fun hc => ?_)
    · have hf := iff_ hc hf
      refine lv_iload_n hx hb dX9_combines_81 rfl (lv_at hl 0 rfl) ?_
      refine lv_iload_n hx hb dX9_combines_82 rfl (lv_at hl 1 rfl) ?_
      refine lv_icmp_le (tgt := 90) hx hb dX9_combines_83 rfl (fun hc => ?_) (fun hc => ?_)
      · have hf := ift hc hf
        refine lv_iconst (v := 0) hx hb dX9_combines_90 (by decide) ?_
        have ho := Option.some.inj hf
        subst ho
        exact J91_q3 H locs ls hW (lv_sub hl [2, 1, 0] rfl)
      · have hf := iff_ hc hf
        refine lv_iconst (v := 1) hx hb dX9_combines_86 (by decide) ?_
        refine lv_goto (tgt := 91) hx hb dX9_combines_87 rfl ?_
        have ho := Option.some.inj hf
        subst ho
        exact J91_q3 H locs ls hW (lv_sub hl [2, 1, 0] rfl)
    · have hf := ift hc hf
      refine lv_iload_n hx hb dX9_combines_68 rfl (lv_at hl 0 rfl) ?_
      refine lv_iload_n hx hb dX9_combines_69 rfl (lv_at hl 1 rfl) ?_
      refine lv_icmp_ge (tgt := 77) hx hb dX9_combines_70 rfl (fun hc => ?_) (fun hc => ?_)
      · have hf := ift hc hf
        refine lv_iconst (v := 0) hx hb dX9_combines_77 (by decide) ?_
        refine lv_goto (tgt := 91) hx hb dX9_combines_78 rfl ?_
        have ho := Option.some.inj hf
        subst ho
        exact J91_q3 H locs ls hW (lv_sub hl [2, 1, 0] rfl)
      · have hf := iff_ hc hf
        refine lv_iconst (v := 1) hx hb dX9_combines_73 (by decide) ?_
        refine lv_goto (tgt := 91) hx hb dX9_combines_74 rfl ?_
        have ho := Option.some.inj hf
        subst ho
        exact J91_q3 H locs ls hW (lv_sub hl [2, 1, 0] rfl)
  · have hf := ift hc hf
    refine lv_aload_n hx hb dX9_combines_4 rfl (lv_at hl 0 rfl) ?_
    refine aw_get (v := .ref (g.2.2 + 78)) C0 hW (lv_fix (by decide)) (cel_8 kd70) rfl inG8 10 (by decide) wd75 rfl rfl dX9_combines_5 ?_
    refine lv_aload_n hx hb dX9_combines_8 rfl (lv_at hl 0 rfl) ?_
    refine aw_get (v := .int (I 70 11)) C0 hW (lv_fix (by decide)) (cel_8 kd70) rfl inG8 11 (by decide) wd74 rfl rfl dX9_combines_9 ?_
    refine lv_iconst (v := 1) hx hb dX9_combines_12 (by decide) ?_
    refine lv_isub hx hb dX9_combines_13 ?_
    refine lv_iconst (v := 2) hx hb dX9_combines_14 (by decide) ?_
    refine lv_aload_n hx hb dX9_combines_15 rfl (lv_at hl 0 rfl) ?_
    refine aw_get (v := .ref (g.2.2 + 78)) C0 hW (lv_fix (by decide)) (cel_8 kd70) rfl inG8 10 (by decide) wd75 rfl rfl dX9_combines_16 ?_
    refine lv_aload_n hx hb dX9_combines_19 rfl (lv_at hl 0 rfl) ?_
    refine aw_get (v := .int (I 70 11)) C0 hW (lv_fix (by decide)) (cel_8 kd70) rfl inG8 11 (by decide) wd74 rfl rfl dX9_combines_20 ?_
    refine lv_iconst (v := 1) hx hb dX9_combines_23 (by decide) ?_
    refine lv_isub hx hb dX9_combines_24 ?_
    obtain ⟨v6, hv6, hf⟩ := bnd hf
    refine aw_iald C0 hW kd78 ln78 hv6 dX9_combines_25 ?_
    refine lv_isub hx hb dX9_combines_26 ?_
    obtain ⟨I7, hI7, hf⟩ := bnd hf
    refine aw_iast C0 hW kd78 ln78 hI7 dX9_combines_27 (fun H locs hW => ?_)
    have hz := Option.some.inj hf
    exact aw_vret C0 hW hz rfl dX9_combines_28
theorem cw_X9_105 {Rm : Room} {s : State} {args : Array Value} (ht : ∀ w ∈ GT, w.before args s = true) (hR : rmX9_combines.frames + 1 ≤ Rm.frames ∧ 8 + (5 + 11) + rmX9_combines.locals ≤ Rm.locals) : CallW Rm s args RX9 RX9 105 yX9_combines cX9_combines 5 none (Cond.code yX9_combines cX9_combines 5 none :: GT) rmX9_combines 0 0 1 := cwV 1 ht (goodV wd609 wd610 wd611 wd607 wd612) rfl rfl rfl ⟨rfl, by decide +kernel, by decide +kernel, by decide +kernel⟩ hR
def f_X9_truthOf_L7 (x1 : Int32) : Nat → Int32 → Mem → Option (Mem)
  | 0, _, _ => none
  | n + 1, w2, I =>
    (f_X9_parts x1 I).bind fun q1 =>
    if q1 ≤ w2 then (
      some I
    ) else (
      (f_X9_part x1 w2 I).bind fun q2 =>
      (f_X9_isTest q2).bind fun q3 =>
      if q3 = 0 then (
        (f_X9_combines q2 I).bind fun q4 =>
        f_X9_truthOf_L7 x1 n (w2 + 1) q4
      ) else (
        (f_X9_tested q2 I).bind fun q5 =>
        (wr I 78 60 (I 70 11) q5).bind fun I6 =>
        f_X9_truthOf_L7 x1 n (w2 + 1) ((up I6 70 11 ((I6 70 11) + 1)))
      )
    )
def f_X9_truthOf (x1 : Int32) (I : Mem) : Option (Int32 × Mem) :=
  (f_X9_truthOf_L7 x1 fuel 0 ((up I 70 11 0))).bind fun q7 =>
  (rd q7 78 60 0).bind fun v8 =>
  some (v8, q7)
abbrev rmX9_truthOf : Room := { frames := 2, cells := 0, slots := 0, locals := 46 }
set_option maxHeartbeats 4000000 in
set_option maxRecDepth 100000 in
theorem c_X9_truthOf {l : Launch} {g : Gam} {I : Mem} {R : Rem} {P : Pool} {Z : Zed} (x1 : Int32)  {z : Int32 × Mem} (hf : f_X9_truthOf x1 I = some z) : Met l yX9_truthOf (Cond.code yX9_truthOf cX9_truthOf 4 (some .int) :: GT) rmX9_truthOf (va_Pc [.ref (g.2.2 + 70), .int x1] (PW g I R P Z)) (QI g z.1 z.2 R P Z) 0 0 (AA g) := by
  refine aw_ofW (lv0 := [(0, .ref (g.2.2 + 70)), (1, .int x1)]) (by decide) (by exact Nat.le_of_ble_eq_true rfl) (by rfl) (fun p0 e s m args below meth c ls C0 hl hW => ?_)
  have C0 : CX g p0 s m args meth c RX9 cX9_truthOf 4 (some .int) := C0
  have hx := C0.1; have hb := C0.2.1; have hown := C0.2.2.2.2.1; have hts := C0.2.2.2.2.2.1; have hKS := C0.2.2.2.2.2.2.1
  have L7 : ∀ (n : Nat) (w2 : Int32) (I : Mem) (H : Heap) (locs : List Loc) (ls : Array Slot) (o : Mem), f_X9_truthOf_L7 x1 n w2 I = some o → Wd g I R P Z s.heap H locs → lv_has ls 4 [(0, .ref (g.2.2 + 70)), (1, .int x1), (2, .int w2)] → (∀ (H : Heap) (locs : List Loc) (ls : Array Slot), Wd g o R P Z s.heap H locs → lv_has ls 4 [(0, .ref (g.2.2 + 70))] → W p0 l e rmX9_truthOf s m args below meth c H locs 0 0 (MQ below (QI g z.1 z.2 R P Z) args s 0 0 (AA g)) (F0 m 68 ls [])) → W p0 l e rmX9_truthOf s m args below meth c H locs 0 0 (MQ below (QI g z.1 z.2 R P Z) args s 0 0 (AA g)) (F0 m 7 ls []) := by
    intro n
    induction n with
    | zero => intro w2 I H locs ls o hf; cases hf
    | succ n ih =>
      intro w2 I H locs ls o hf hW hl hK
      rw [f_X9_truthOf_L7] at hf
      refine lv_iload_n hx hb dX9_truthOf_7 rfl (lv_at hl 2 rfl) ?_
      refine lv_aload_n hx hb dX9_truthOf_8 rfl (lv_at hl 0 rfl) ?_
      refine lv_iload_n hx hb dX9_truthOf_9 rfl (lv_at hl 1 rfl) ?_
      obtain ⟨q1, hq1, hf⟩ := bnd hf
      refine aw_cVi (rest := [.int w2]) C0 hW (lv_fix (by decide)) (cel_8 kd70) rfl (c_X9_parts x1  hq1) (cw_X9_92 hts ⟨Nat.le_of_ble_eq_true rfl, Nat.le_of_ble_eq_true rfl⟩) rfl hl.1 rfl (Nat.le_of_ble_eq_true rfl) ⟨Nat.zero_le _, Nat.zero_le _⟩ dX9_truthOf_10 (fun H locs hW => ?_)
      refine lv_icmp_ge (tgt := 68) hx hb dX9_truthOf_13 rfl (fun hc => ?_) (fun hc => ?_)
      · have hf := ift hc hf
        have ho := Option.some.inj hf
        subst ho
        exact hK H locs ls hW (lv_sub hl [0] rfl)
      · have hf := iff_ hc hf
        refine lv_aload_n hx hb dX9_truthOf_16 rfl (lv_at hl 0 rfl) ?_
        refine lv_iload_n hx hb dX9_truthOf_17 rfl (lv_at hl 1 rfl) ?_
        refine lv_iload_n hx hb dX9_truthOf_18 rfl (lv_at hl 2 rfl) ?_
        obtain ⟨q2, hq2, hf⟩ := bnd hf
        refine aw_cVi (rest := []) C0 hW (lv_fix (by decide)) (cel_8 kd70) rfl (c_X9_part x1 w2  hq2) (cw_X9_95 hts ⟨Nat.le_of_ble_eq_true rfl, Nat.le_of_ble_eq_true rfl⟩) rfl hl.1 rfl (Nat.le_of_ble_eq_true rfl) ⟨Nat.zero_le _, Nat.zero_le _⟩ dX9_truthOf_19 (fun H locs hW => ?_)
        refine lv_istore_n (lv' := [(3, .int q2), (0, .ref (g.2.2 + 70)), (1, .int x1), (2, .int w2)]) hx hb dX9_truthOf_22 rfl hl (Nat.le_of_ble_eq_true rfl) rfl (fun ls hl => ?_)
        refine lv_iload_n hx hb dX9_truthOf_23 rfl (lv_at hl 0 rfl) ?_
        obtain ⟨q3, hq3, hf⟩ := bnd hf
        refine aw_cSi (rest := []) C0 hW (c_X9_isTest q2  hq3) (cw_X9_99 hts ⟨Nat.le_of_ble_eq_true rfl, Nat.le_of_ble_eq_true rfl⟩) rfl hl.1 rfl (Nat.le_of_ble_eq_true rfl) ⟨Nat.zero_le _, Nat.zero_le _⟩ dX9_truthOf_24 (fun H locs hW => ?_)
        refine lv_if_eq (tgt := 57) hx hb dX9_truthOf_27 rfl (fun hc => ?_) (fun hc => ?_)
        · have hf := ift hc hf
          refine lv_aload_n hx hb dX9_truthOf_57 rfl (lv_at hl 1 rfl) ?_
          refine lv_iload_n hx hb dX9_truthOf_58 rfl (lv_at hl 0 rfl) ?_
          obtain ⟨q4, hq4, hf⟩ := bnd hf
          refine aw_cVv (rest := []) C0 hW (lv_fix (by decide)) (cel_8 kd70) rfl (c_X9_combines q2  hq4) (cw_X9_105 hts ⟨Nat.le_of_ble_eq_true rfl, Nat.le_of_ble_eq_true rfl⟩) rfl hl.1 rfl (Nat.le_of_ble_eq_true rfl) ⟨Nat.zero_le _, Nat.zero_le _⟩ dX9_truthOf_59 (fun H locs hW => ?_)
          refine lv_iinc (k := 3) (v := w2 + 1) (lv' := [(2, .int (w2 + 1)), (3, .int q2), (0, .ref (g.2.2 + 70)), (1, .int x1)]) hx hb dX9_truthOf_62 hl rfl (congrArg (fun t => w2 + t) (by decide : Int32.ofInt 1 = 1)) (Nat.le_of_ble_eq_true rfl) rfl (fun ls hl => ?_)
          refine lv_goto (tgt := 7) hx hb dX9_truthOf_65 rfl ?_
          exact ih _ _ H locs ls o hf hW (lv_sub hl [2, 3, 0] rfl) hK
        · have hf := iff_ hc hf
          refine lv_aload_n hx hb dX9_truthOf_30 rfl (lv_at hl 1 rfl) ?_
          refine aw_get (v := .ref (g.2.2 + 78)) C0 hW (lv_fix (by decide)) (cel_8 kd70) rfl inG8 10 (by decide) wd75 rfl rfl dX9_truthOf_31 ?_
          refine lv_aload_n hx hb dX9_truthOf_34 rfl (lv_at hl 1 rfl) ?_
          refine aw_get (v := .int (I 70 11)) C0 hW (lv_fix (by decide)) (cel_8 kd70) rfl inG8 11 (by decide) wd74 rfl rfl dX9_truthOf_35 ?_
          refine lv_aload_n hx hb dX9_truthOf_38 rfl (lv_at hl 1 rfl) ?_
          refine lv_iload_n hx hb dX9_truthOf_39 rfl (lv_at hl 0 rfl) ?_
          obtain ⟨q5, hq5, hf⟩ := bnd hf
          refine aw_cVi (rest := [.int (I 70 11), .ref (g.2.2 + 78)]) C0 hW (lv_fix (by decide)) (cel_8 kd70) rfl (c_X9_tested q2  hq5) (cw_X9_102 hts ⟨Nat.le_of_ble_eq_true rfl, Nat.le_of_ble_eq_true rfl⟩) rfl hl.1 rfl (Nat.le_of_ble_eq_true rfl) ⟨Nat.zero_le _, Nat.zero_le _⟩ dX9_truthOf_40 (fun H locs hW => ?_)
          obtain ⟨I6, hI6, hf⟩ := bnd hf
          refine aw_iast C0 hW kd78 ln78 hI6 dX9_truthOf_43 (fun H locs hW => ?_)
          refine lv_aload_n hx hb dX9_truthOf_44 rfl (lv_at hl 1 rfl) ?_
          refine lv_dup hx hb dX9_truthOf_45 rfl ?_
          refine aw_get (v := .int (I6 70 11)) C0 hW (lv_fix (by decide)) (cel_8 kd70) rfl inG8 11 (by decide) wd74 rfl rfl dX9_truthOf_46 ?_
          refine lv_iconst (v := 1) hx hb dX9_truthOf_49 (by decide) ?_
          refine lv_iadd hx hb dX9_truthOf_50 ?_
          refine aw_put C0 hW (lv_fix (by decide)) (cel_8 kd70) rfl inG8 tyX9 tyX9_ok nmX9 11 (by decide) wd74 rfl rfl (ty := .int) rfl rfl rfl (Nat.le_of_ble_eq_true rfl) (pu_8_11 kd70) dX9_truthOf_51 (fun H locs hW => ?_)
          refine lv_goto (tgt := 62) hx hb dX9_truthOf_54 rfl ?_
          refine lv_iinc (k := 3) (v := w2 + 1) (lv' := [(2, .int (w2 + 1)), (3, .int q2), (0, .ref (g.2.2 + 70)), (1, .int x1)]) hx hb dX9_truthOf_62 hl rfl (congrArg (fun t => w2 + t) (by decide : Int32.ofInt 1 = 1)) (Nat.le_of_ble_eq_true rfl) rfl (fun ls hl => ?_)
          refine lv_goto (tgt := 7) hx hb dX9_truthOf_65 rfl ?_
          exact ih _ _ H locs ls o hf hW (lv_sub hl [2, 3, 0] rfl) hK
  unfold f_X9_truthOf at hf
  obtain ⟨H, hH⟩ : ∃ H, H = s.heap := ⟨_, rfl⟩
  obtain ⟨locs, hlc⟩ : ∃ q : List Loc, q = [] := ⟨_, rfl⟩
  rw [show W p0 l e rmX9_truthOf s m args below meth c s.heap [] 0 0 (MQ below (QI g z.1 z.2 R P Z) args s 0 0 (AA g)) (F0 m 0 ls []) = W p0 l e rmX9_truthOf s m args below meth c H locs 0 0 (MQ below (QI g z.1 z.2 R P Z) args s 0 0 (AA g)) (F0 m 0 ls []) by rw [hH, hlc]]
  have hW : Wd g I R P Z s.heap H locs := by rw [hH, hlc]; exact hW
  refine lv_aload_n hx hb dX9_truthOf_0 rfl (lv_at hl 0 rfl) ?_
  refine lv_iconst (v := 0) hx hb dX9_truthOf_1 (by decide) ?_
  refine aw_put C0 hW (lv_fix (by decide)) (cel_8 kd70) rfl inG8 tyX9 tyX9_ok nmX9 11 (by decide) wd74 rfl rfl (ty := .int) rfl rfl rfl (Nat.le_of_ble_eq_true rfl) (pu_8_11 kd70) dX9_truthOf_2 (fun H locs hW => ?_)
  refine lv_iconst (v := 0) hx hb dX9_truthOf_5 (by decide) ?_
  refine lv_istore_n (lv' := [(2, .int 0), (0, .ref (g.2.2 + 70)), (1, .int x1)]) hx hb dX9_truthOf_6 rfl hl (Nat.le_of_ble_eq_true rfl) rfl (fun ls hl => ?_)
  obtain ⟨q7, hq7, hf⟩ := bnd hf
  refine L7  fuel 0 ((up I 70 11 0)) H locs ls _ hq7 hW (lv_sub hl [1, 2, 0] rfl) (fun H locs ls hW hl => ?_)
  refine lv_aload_n hx hb dX9_truthOf_68 rfl (lv_at hl 0 rfl) ?_
  refine aw_get (v := .ref (g.2.2 + 78)) C0 hW (lv_fix (by decide)) (cel_8 kd70) rfl inG8 10 (by decide) wd75 rfl rfl dX9_truthOf_69 ?_
  refine lv_iconst (v := 0) hx hb dX9_truthOf_72 (by decide) ?_
  obtain ⟨v8, hv8, hf⟩ := bnd hf
  refine aw_iald C0 hW kd78 ln78 hv8 dX9_truthOf_73 ?_
  have hz := Option.some.inj hf
  have hzV := congrArg (fun z : Int32 × Mem => z.1) hz
  have hzI := congrArg (fun z : Int32 × Mem => z.2) hz
  exact aw_iret C0 hW hzV hzI rfl dX9_truthOf_74
theorem cw_X9_113 {Rm : Room} {s : State} {args : Array Value} (ht : ∀ w ∈ GT, w.before args s = true) (hR : rmX9_truthOf.frames + 1 ≤ Rm.frames ∧ 8 + (4 + 11) + rmX9_truthOf.locals ≤ Rm.locals) : CallW Rm s args RX9 RX9 113 yX9_truthOf cX9_truthOf 4 (some .int) (Cond.code yX9_truthOf cX9_truthOf 4 (some .int) :: GT) rmX9_truthOf 0 0 1 := cwV 1 ht (goodV wd617 wd618 wd619 wd607 wd620) rfl rfl rfl ⟨rfl, by decide +kernel, by decide +kernel, by decide +kernel⟩ hR
def f_X9_truthAt (x1 : Int32) (x2 : Int32) (x3 : Int32) (I : Mem) : Option (Int32 × Mem) :=
  (f_X9_takesRow x1 x2 I).bind fun q1 =>
  (f_X9_truthOf x3 q1).bind fun q2 =>
  some (q2.1, q2.2)
abbrev rmX9_truthAt : Room := { frames := 3, cells := 0, slots := 0, locals := 69 }
set_option maxHeartbeats 4000000 in
set_option maxRecDepth 100000 in
theorem c_X9_truthAt {l : Launch} {g : Gam} {I : Mem} {R : Rem} {P : Pool} {Z : Zed} (x1 : Int32) (x2 : Int32) (x3 : Int32)  {z : Int32 × Mem} (hf : f_X9_truthAt x1 x2 x3 I = some z) : Met l yX9_truthAt (Cond.code yX9_truthAt cX9_truthAt 4 (some .int) :: GT) rmX9_truthAt (va_Pc [.ref (g.2.2 + 70), .int x1, .int x2, .int x3] (PW g I R P Z)) (QI g z.1 z.2 R P Z) 0 0 (AA g) := by
  refine aw_ofW (lv0 := [(0, .ref (g.2.2 + 70)), (1, .int x1), (2, .int x2), (3, .int x3)]) (by decide) (by exact Nat.le_of_ble_eq_true rfl) (by rfl) (fun p0 e s m args below meth c ls C0 hl hW => ?_)
  have C0 : CX g p0 s m args meth c RX9 cX9_truthAt 4 (some .int) := C0
  have hx := C0.1; have hb := C0.2.1; have hown := C0.2.2.2.2.1; have hts := C0.2.2.2.2.2.1; have hKS := C0.2.2.2.2.2.2.1
  unfold f_X9_truthAt at hf
  obtain ⟨H, hH⟩ : ∃ H, H = s.heap := ⟨_, rfl⟩
  obtain ⟨locs, hlc⟩ : ∃ q : List Loc, q = [] := ⟨_, rfl⟩
  rw [show W p0 l e rmX9_truthAt s m args below meth c s.heap [] 0 0 (MQ below (QI g z.1 z.2 R P Z) args s 0 0 (AA g)) (F0 m 0 ls []) = W p0 l e rmX9_truthAt s m args below meth c H locs 0 0 (MQ below (QI g z.1 z.2 R P Z) args s 0 0 (AA g)) (F0 m 0 ls []) by rw [hH, hlc]]
  have hW : Wd g I R P Z s.heap H locs := by rw [hH, hlc]; exact hW
  refine lv_aload_n hx hb dX9_truthAt_0 rfl (lv_at hl 0 rfl) ?_
  refine lv_iload_n hx hb dX9_truthAt_1 rfl (lv_at hl 1 rfl) ?_
  refine lv_iload_n hx hb dX9_truthAt_2 rfl (lv_at hl 2 rfl) ?_
  obtain ⟨q1, hq1, hf⟩ := bnd hf
  refine aw_cVv (rest := []) C0 hW (lv_fix (by decide)) (cel_8 kd70) rfl (c_X9_takesRow x1 x2  hq1) (cw_X9_109 hts ⟨Nat.le_of_ble_eq_true rfl, Nat.le_of_ble_eq_true rfl⟩) rfl hl.1 rfl (Nat.le_of_ble_eq_true rfl) ⟨Nat.zero_le _, Nat.zero_le _⟩ dX9_truthAt_3 (fun H locs hW => ?_)
  refine lv_aload_n hx hb dX9_truthAt_6 rfl (lv_at hl 0 rfl) ?_
  refine lv_iload_n hx hb dX9_truthAt_7 rfl (lv_at hl 3 rfl) ?_
  obtain ⟨q2, hq2, hf⟩ := bnd hf
  refine aw_cVi (rest := []) C0 hW (lv_fix (by decide)) (cel_8 kd70) rfl (c_X9_truthOf x3  hq2) (cw_X9_113 hts ⟨Nat.le_of_ble_eq_true rfl, Nat.le_of_ble_eq_true rfl⟩) rfl hl.1 rfl (Nat.le_of_ble_eq_true rfl) ⟨Nat.zero_le _, Nat.zero_le _⟩ dX9_truthAt_8 (fun H locs hW => ?_)
  have hz := Option.some.inj hf
  have hzV := congrArg (fun z : Int32 × Mem => z.1) hz
  have hzI := congrArg (fun z : Int32 × Mem => z.2) hz
  exact aw_iret C0 hW hzV hzI rfl dX9_truthAt_11
theorem cw_X9_116 {Rm : Room} {s : State} {args : Array Value} (ht : ∀ w ∈ GT, w.before args s = true) (hR : rmX9_truthAt.frames + 1 ≤ Rm.frames ∧ 8 + (4 + 11) + rmX9_truthAt.locals ≤ Rm.locals) : CallW Rm s args RX9 RX9 116 yX9_truthAt cX9_truthAt 4 (some .int) (Cond.code yX9_truthAt cX9_truthAt 4 (some .int) :: GT) rmX9_truthAt 0 0 3 := cwV 3 ht (goodV wd621 wd622 wd623 wd607 wd624) rfl rfl rfl ⟨rfl, by decide +kernel, by decide +kernel, by decide +kernel⟩ hR
def f_X9_violates (x1 : Int32) (x2 : Int32) (I : Mem) : Option (Int32 × Mem) :=
  (f_X9_parts (6 + x1) I).bind fun q1 =>
  if q1 ≤ 0 then (
    some (0, I)
  ) else (
    (f_X9_truthAt x1 x2 (6 + x1) I).bind fun q2 =>
    if q2.1 = 0 then (
      some (1, q2.2)
    ) else (
      some (0, q2.2)
    )
  )
abbrev rmX9_violates : Room := { frames := 4, cells := 0, slots := 0, locals := 92 }
set_option maxHeartbeats 4000000 in
set_option maxRecDepth 100000 in
theorem c_X9_violates {l : Launch} {g : Gam} {I : Mem} {R : Rem} {P : Pool} {Z : Zed} (x1 : Int32) (x2 : Int32)  {z : Int32 × Mem} (hf : f_X9_violates x1 x2 I = some z) : Met l yX9_violates (Cond.code yX9_violates cX9_violates 3 (some .boolean) :: GT) rmX9_violates (va_Pc [.ref (g.2.2 + 70), .int x1, .int x2] (PW g I R P Z)) (QI g z.1 z.2 R P Z) 0 0 (AA g) := by
  refine aw_ofW (lv0 := [(0, .ref (g.2.2 + 70)), (1, .int x1), (2, .int x2)]) (by decide) (by exact Nat.le_of_ble_eq_true rfl) (by rfl) (fun p0 e s m args below meth c ls C0 hl hW => ?_)
  have C0 : CX g p0 s m args meth c RX9 cX9_violates 3 (some .boolean) := C0
  have hx := C0.1; have hb := C0.2.1; have hown := C0.2.2.2.2.1; have hts := C0.2.2.2.2.2.1; have hKS := C0.2.2.2.2.2.2.1
  unfold f_X9_violates at hf
  obtain ⟨H, hH⟩ : ∃ H, H = s.heap := ⟨_, rfl⟩
  obtain ⟨locs, hlc⟩ : ∃ q : List Loc, q = [] := ⟨_, rfl⟩
  rw [show W p0 l e rmX9_violates s m args below meth c s.heap [] 0 0 (MQ below (QI g z.1 z.2 R P Z) args s 0 0 (AA g)) (F0 m 0 ls []) = W p0 l e rmX9_violates s m args below meth c H locs 0 0 (MQ below (QI g z.1 z.2 R P Z) args s 0 0 (AA g)) (F0 m 0 ls []) by rw [hH, hlc]]
  have hW : Wd g I R P Z s.heap H locs := by rw [hH, hlc]; exact hW
  refine lv_aload_n hx hb dX9_violates_0 rfl (lv_at hl 0 rfl) ?_
  refine lv_bipush (v := 6) hx hb dX9_violates_1 (by decide) ?_
  refine lv_iload_n hx hb dX9_violates_3 rfl (lv_at hl 1 rfl) ?_
  refine lv_iadd hx hb dX9_violates_4 ?_
  obtain ⟨q1, hq1, hf⟩ := bnd hf
  refine aw_cVi (rest := []) C0 hW (lv_fix (by decide)) (cel_8 kd70) rfl (c_X9_parts (6 + x1)  hq1) (cw_X9_92 hts ⟨Nat.le_of_ble_eq_true rfl, Nat.le_of_ble_eq_true rfl⟩) rfl hl.1 rfl (Nat.le_of_ble_eq_true rfl) ⟨Nat.zero_le _, Nat.zero_le _⟩ dX9_violates_5 (fun H locs hW => ?_)
  refine lv_if_le (tgt := 28) hx hb dX9_violates_8 rfl (fun hc => ?_) (fun hc => ?_)
  · have hf := ift hc hf
    refine lv_iconst (v := 0) hx hb dX9_violates_28 (by decide) ?_
    have hz := Option.some.inj hf
    have hzV := congrArg (fun z : Int32 × Mem => z.1) hz
    have hzI := congrArg (fun z : Int32 × Mem => z.2) hz
    exact aw_zret C0 hW rfl hzV hzI rfl dX9_violates_29
  · have hf := iff_ hc hf
    refine lv_aload_n hx hb dX9_violates_11 rfl (lv_at hl 0 rfl) ?_
    refine lv_iload_n hx hb dX9_violates_12 rfl (lv_at hl 1 rfl) ?_
    refine lv_iload_n hx hb dX9_violates_13 rfl (lv_at hl 2 rfl) ?_
    refine lv_bipush (v := 6) hx hb dX9_violates_14 (by decide) ?_
    refine lv_iload_n hx hb dX9_violates_16 rfl (lv_at hl 1 rfl) ?_
    refine lv_iadd hx hb dX9_violates_17 ?_
    obtain ⟨q2, hq2, hf⟩ := bnd hf
    refine aw_cVi (rest := []) C0 hW (lv_fix (by decide)) (cel_8 kd70) rfl (c_X9_truthAt x1 x2 (6 + x1)  hq2) (cw_X9_116 hts ⟨Nat.le_of_ble_eq_true rfl, Nat.le_of_ble_eq_true rfl⟩) rfl hl.1 rfl (Nat.le_of_ble_eq_true rfl) ⟨Nat.zero_le _, Nat.zero_le _⟩ dX9_violates_18 (fun H locs hW => ?_)
    refine lv_if_ne (tgt := 28) hx hb dX9_violates_21 rfl (fun hc => ?_) (fun hc => ?_)
    · have hf := iff_ hc hf
      refine lv_iconst (v := 0) hx hb dX9_violates_28 (by decide) ?_
      have hz := Option.some.inj hf
      have hzV := congrArg (fun z : Int32 × Mem => z.1) hz
      have hzI := congrArg (fun z : Int32 × Mem => z.2) hz
      exact aw_zret C0 hW rfl hzV hzI rfl dX9_violates_29
    · have hf := ift hc hf
      refine lv_iconst (v := 1) hx hb dX9_violates_24 (by decide) ?_
      refine lv_goto (tgt := 29) hx hb dX9_violates_25 rfl ?_
      have hz := Option.some.inj hf
      have hzV := congrArg (fun z : Int32 × Mem => z.1) hz
      have hzI := congrArg (fun z : Int32 × Mem => z.2) hz
      exact aw_zret C0 hW rfl hzV hzI rfl dX9_violates_29
theorem cw_X9_128 {Rm : Room} {s : State} {args : Array Value} (ht : ∀ w ∈ GT, w.before args s = true) (hR : rmX9_violates.frames + 1 ≤ Rm.frames ∧ 8 + (3 + 11) + rmX9_violates.locals ≤ Rm.locals) : CallW Rm s args RX9 RX9 128 yX9_violates cX9_violates 3 (some .boolean) (Cond.code yX9_violates cX9_violates 3 (some .boolean) :: GT) rmX9_violates 0 0 2 := cwV 2 ht (goodV wd636 wd637 wd638 wd607 wd639) rfl rfl rfl ⟨rfl, by decide +kernel, by decide +kernel, by decide +kernel⟩ hR
def f_X9_add (x1 : Int32) (x2 : Int32) (x3 : Int32) (x4 : Int32) (x5 : Int32) (P : Pool) (I : Mem) : Option (Int32 × Mem) :=
  (f_X9_isTable x1).bind fun q1 =>
  if q1 = 0 then (
    (f_X9_refuses 1 ((up I 70 7 0))).bind fun q24 =>
    some (q24.1, q24.2)
  ) else (
    (f_X9_isValue x2).bind fun q2 =>
    if q2 = 0 then (
      (f_X9_refuses 2 ((up I 70 7 0))).bind fun q3 =>
      some (q3.1, q3.2)
    ) else (
      (f_X9_isValue x3).bind fun q4 =>
      if q4 = 0 then (
        (f_X9_refuses 2 ((up I 70 7 0))).bind fun q5 =>
        some (q5.1, q5.2)
      ) else (
        (f_X9_isValue x4).bind fun q6 =>
        if q6 = 0 then (
          (f_X9_refuses 2 ((up I 70 7 0))).bind fun q7 =>
          some (q7.1, q7.2)
        ) else (
          (f_X9_isValue x5).bind fun q8 =>
          if q8 = 0 then (
            (f_X9_refuses 2 ((up I 70 7 0))).bind fun q23 =>
            some (q23.1, q23.2)
          ) else (
            (f_X9_many x1 ((up I 70 7 0))).bind fun q9 =>
            if q9 = 16 then (
              (f_X9_refuses 3 ((up I 70 7 0))).bind fun q22 =>
              some (q22.1, q22.2)
            ) else (
              (f_X9_saves P ((up I 70 7 0))).bind fun q10 =>
              (f_X9_many x1 q10).bind fun q11 =>
              (f_X9_at x1 q11 0).bind fun q12 =>
              (wr q10 71 619 q12 x2).bind fun I13 =>
              (wr I13 71 619 (q12 + 1) x3).bind fun I14 =>
              (wr I14 71 619 (q12 + 2) x4).bind fun I15 =>
              (wr I15 71 619 (q12 + 3) x5).bind fun I16 =>
              (f_X9_violates x1 q11 I16).bind fun q17 =>
              if q17.1 = 0 then (
                (rd q17.2 71 619 (0 + x1)).bind fun v18 =>
                (wr q17.2 71 619 (0 + x1) (v18 + 1)).bind fun I19 =>
                some (q11, I19)
              ) else (
                (rd q17.2 71 619 618).bind fun v20 =>
                (wr q17.2 71 619 618 (v20 + 1)).bind fun I21 =>
                some ((-2), I21)
              )
            )
          )
        )
      )
    )
  )
abbrev rmX9_add : Room := { frames := 5, cells := 0, slots := 0, locals := 114 }
set_option maxHeartbeats 4000000 in
set_option maxRecDepth 100000 in
theorem c_X9_add {l : Launch} {g : Gam} {I : Mem} {R : Rem} {P : Pool} {Z : Zed} (x1 : Int32) (x2 : Int32) (x3 : Int32) (x4 : Int32) (x5 : Int32)  {z : Int32 × Mem} (hf : f_X9_add x1 x2 x3 x4 x5 P I = some z) : Met l yX9_add (Cond.code yX9_add cX9_add 8 (some .int) :: GT) rmX9_add (va_Pc [.ref (g.2.2 + 70), .int x1, .int x2, .int x3, .int x4, .int x5] (PW g I R P Z)) (QI g z.1 z.2 R P Z) 0 0 (AA g) := by
  refine aw_ofW (lv0 := [(0, .ref (g.2.2 + 70)), (1, .int x1), (2, .int x2), (3, .int x3), (4, .int x4), (5, .int x5)]) (by decide) (by exact Nat.le_of_ble_eq_true rfl) (by rfl) (fun p0 e s m args below meth c ls C0 hl hW => ?_)
  have C0 : CX g p0 s m args meth c RX9 cX9_add 8 (some .int) := C0
  have hx := C0.1; have hb := C0.2.1; have hown := C0.2.2.2.2.1; have hts := C0.2.2.2.2.2.1; have hKS := C0.2.2.2.2.2.2.1
  unfold f_X9_add at hf
  obtain ⟨H, hH⟩ : ∃ H, H = s.heap := ⟨_, rfl⟩
  obtain ⟨locs, hlc⟩ : ∃ q : List Loc, q = [] := ⟨_, rfl⟩
  rw [show W p0 l e rmX9_add s m args below meth c s.heap [] 0 0 (MQ below (QI g z.1 z.2 R P Z) args s 0 0 (AA g)) (F0 m 0 ls []) = W p0 l e rmX9_add s m args below meth c H locs 0 0 (MQ below (QI g z.1 z.2 R P Z) args s 0 0 (AA g)) (F0 m 0 ls []) by rw [hH, hlc]]
  have hW : Wd g I R P Z s.heap H locs := by rw [hH, hlc]; exact hW
  refine lv_aload_n hx hb dX9_add_0 rfl (lv_at hl 0 rfl) ?_
  refine lv_iconst (v := 0) hx hb dX9_add_1 (by decide) ?_
  refine aw_put C0 hW (lv_fix (by decide)) (cel_8 kd70) rfl inG8 tyX9 tyX9_ok nmX9 7 (by decide) wd79 rfl rfl (ty := .int) rfl rfl rfl (Nat.le_of_ble_eq_true rfl) (pu_8_7 kd70) dX9_add_2 (fun H locs hW => ?_)
  refine lv_iload_n hx hb dX9_add_5 rfl (lv_at hl 1 rfl) ?_
  obtain ⟨q1, hq1, hf⟩ := bnd hf
  refine aw_cSi (rest := []) C0 hW (c_X9_isTable x1  hq1) (cw_X9_66 hts ⟨Nat.le_of_ble_eq_true rfl, Nat.le_of_ble_eq_true rfl⟩) rfl hl.1 rfl (Nat.le_of_ble_eq_true rfl) ⟨Nat.zero_le _, Nat.zero_le _⟩ dX9_add_6 (fun H locs hW => ?_)
  refine lv_if_ne (tgt := 18) hx hb dX9_add_9 rfl (fun hc => ?_) (fun hc => ?_)
  · have hf := iff_ hc hf
    refine lv_iload_n hx hb dX9_add_18 rfl (lv_at hl 2 rfl) ?_
    obtain ⟨q2, hq2, hf⟩ := bnd hf
    refine aw_cSi (rest := []) C0 hW (c_X9_isValue x2  hq2) (cw_X9_122 hts ⟨Nat.le_of_ble_eq_true rfl, Nat.le_of_ble_eq_true rfl⟩) rfl hl.1 rfl (Nat.le_of_ble_eq_true rfl) ⟨Nat.zero_le _, Nat.zero_le _⟩ dX9_add_19 (fun H locs hW => ?_)
    refine lv_if_eq (tgt := 48) hx hb dX9_add_22 rfl (fun hc => ?_) (fun hc => ?_)
    · have hf := ift hc hf
      refine lv_aload_n hx hb dX9_add_48 rfl (lv_at hl 0 rfl) ?_
      refine lv_iconst (v := 2) hx hb dX9_add_49 (by decide) ?_
      obtain ⟨q3, hq3, hf⟩ := bnd hf
      refine aw_cVi (rest := []) C0 hW (lv_fix (by decide)) (cel_8 kd70) rfl (c_X9_refuses 2  hq3) (cw_X9_119 hts ⟨Nat.le_of_ble_eq_true rfl, Nat.le_of_ble_eq_true rfl⟩) rfl hl.1 rfl (Nat.le_of_ble_eq_true rfl) ⟨Nat.zero_le _, Nat.zero_le _⟩ dX9_add_50 (fun H locs hW => ?_)
      have hz := Option.some.inj hf
      have hzV := congrArg (fun z : Int32 × Mem => z.1) hz
      have hzI := congrArg (fun z : Int32 × Mem => z.2) hz
      exact aw_iret C0 hW hzV hzI rfl dX9_add_53
    · have hf := iff_ hc hf
      refine lv_iload_n hx hb dX9_add_25 rfl (lv_at hl 3 rfl) ?_
      obtain ⟨q4, hq4, hf⟩ := bnd hf
      refine aw_cSi (rest := []) C0 hW (c_X9_isValue x3  hq4) (cw_X9_122 hts ⟨Nat.le_of_ble_eq_true rfl, Nat.le_of_ble_eq_true rfl⟩) rfl hl.1 rfl (Nat.le_of_ble_eq_true rfl) ⟨Nat.zero_le _, Nat.zero_le _⟩ dX9_add_26 (fun H locs hW => ?_)
      refine lv_if_eq (tgt := 48) hx hb dX9_add_29 rfl (fun hc => ?_) (fun hc => ?_)
      · have hf := ift hc hf
        refine lv_aload_n hx hb dX9_add_48 rfl (lv_at hl 0 rfl) ?_
        refine lv_iconst (v := 2) hx hb dX9_add_49 (by decide) ?_
        obtain ⟨q5, hq5, hf⟩ := bnd hf
        refine aw_cVi (rest := []) C0 hW (lv_fix (by decide)) (cel_8 kd70) rfl (c_X9_refuses 2  hq5) (cw_X9_119 hts ⟨Nat.le_of_ble_eq_true rfl, Nat.le_of_ble_eq_true rfl⟩) rfl hl.1 rfl (Nat.le_of_ble_eq_true rfl) ⟨Nat.zero_le _, Nat.zero_le _⟩ dX9_add_50 (fun H locs hW => ?_)
        have hz := Option.some.inj hf
        have hzV := congrArg (fun z : Int32 × Mem => z.1) hz
        have hzI := congrArg (fun z : Int32 × Mem => z.2) hz
        exact aw_iret C0 hW hzV hzI rfl dX9_add_53
      · have hf := iff_ hc hf
        refine lv_iload hx hb dX9_add_32 (lv_at hl 4 rfl) ?_
        obtain ⟨q6, hq6, hf⟩ := bnd hf
        refine aw_cSi (rest := []) C0 hW (c_X9_isValue x4  hq6) (cw_X9_122 hts ⟨Nat.le_of_ble_eq_true rfl, Nat.le_of_ble_eq_true rfl⟩) rfl hl.1 rfl (Nat.le_of_ble_eq_true rfl) ⟨Nat.zero_le _, Nat.zero_le _⟩ dX9_add_34 (fun H locs hW => ?_)
        refine lv_if_eq (tgt := 48) hx hb dX9_add_37 rfl (fun hc => ?_) (fun hc => ?_)
        · have hf := ift hc hf
          refine lv_aload_n hx hb dX9_add_48 rfl (lv_at hl 0 rfl) ?_
          refine lv_iconst (v := 2) hx hb dX9_add_49 (by decide) ?_
          obtain ⟨q7, hq7, hf⟩ := bnd hf
          refine aw_cVi (rest := []) C0 hW (lv_fix (by decide)) (cel_8 kd70) rfl (c_X9_refuses 2  hq7) (cw_X9_119 hts ⟨Nat.le_of_ble_eq_true rfl, Nat.le_of_ble_eq_true rfl⟩) rfl hl.1 rfl (Nat.le_of_ble_eq_true rfl) ⟨Nat.zero_le _, Nat.zero_le _⟩ dX9_add_50 (fun H locs hW => ?_)
          have hz := Option.some.inj hf
          have hzV := congrArg (fun z : Int32 × Mem => z.1) hz
          have hzI := congrArg (fun z : Int32 × Mem => z.2) hz
          exact aw_iret C0 hW hzV hzI rfl dX9_add_53
        · have hf := iff_ hc hf
          refine lv_iload hx hb dX9_add_40 (lv_at hl 5 rfl) ?_
          obtain ⟨q8, hq8, hf⟩ := bnd hf
          refine aw_cSi (rest := []) C0 hW (c_X9_isValue x5  hq8) (cw_X9_122 hts ⟨Nat.le_of_ble_eq_true rfl, Nat.le_of_ble_eq_true rfl⟩) rfl hl.1 rfl (Nat.le_of_ble_eq_true rfl) ⟨Nat.zero_le _, Nat.zero_le _⟩ dX9_add_42 (fun H locs hW => ?_)
          refine lv_if_ne (tgt := 54) hx hb dX9_add_45 rfl (fun hc => ?_) (fun hc => ?_)
          · have hf := iff_ hc hf
            refine lv_aload_n hx hb dX9_add_54 rfl (lv_at hl 0 rfl) ?_
            refine lv_iload_n hx hb dX9_add_55 rfl (lv_at hl 1 rfl) ?_
            obtain ⟨q9, hq9, hf⟩ := bnd hf
            refine aw_cVi (rest := []) C0 hW (lv_fix (by decide)) (cel_8 kd70) rfl (c_X9_many x1  hq9) (cw_X9_70 hts ⟨Nat.le_of_ble_eq_true rfl, Nat.le_of_ble_eq_true rfl⟩) rfl hl.1 rfl (Nat.le_of_ble_eq_true rfl) ⟨Nat.zero_le _, Nat.zero_le _⟩ dX9_add_56 (fun H locs hW => ?_)
            refine lv_bipush (v := 16) hx hb dX9_add_59 (by decide) ?_
            refine lv_icmp_ne (tgt := 70) hx hb dX9_add_61 rfl (fun hc => ?_) (fun hc => ?_)
            · have hf := iff_ hc hf
              refine lv_aload_n hx hb dX9_add_70 rfl (lv_at hl 0 rfl) ?_
              obtain ⟨q10, hq10, hf⟩ := bnd hf
              refine aw_cVv (rest := []) C0 hW (lv_fix (by decide)) (cel_8 kd70) rfl (c_X9_saves  hq10) (cw_X9_125 hts ⟨Nat.le_of_ble_eq_true rfl, Nat.le_of_ble_eq_true rfl⟩) rfl hl.1 rfl (Nat.le_of_ble_eq_true rfl) ⟨Nat.zero_le _, Nat.zero_le _⟩ dX9_add_71 (fun H locs hW => ?_)
              refine lv_aload_n hx hb dX9_add_74 rfl (lv_at hl 0 rfl) ?_
              refine lv_iload_n hx hb dX9_add_75 rfl (lv_at hl 1 rfl) ?_
              obtain ⟨q11, hq11, hf⟩ := bnd hf
              refine aw_cVi (rest := []) C0 hW (lv_fix (by decide)) (cel_8 kd70) rfl (c_X9_many x1  hq11) (cw_X9_70 hts ⟨Nat.le_of_ble_eq_true rfl, Nat.le_of_ble_eq_true rfl⟩) rfl hl.1 rfl (Nat.le_of_ble_eq_true rfl) ⟨Nat.zero_le _, Nat.zero_le _⟩ dX9_add_76 (fun H locs hW => ?_)
              refine lv_istore (lv' := [(6, .int q11), (0, .ref (g.2.2 + 70)), (1, .int x1), (2, .int x2), (3, .int x3), (4, .int x4), (5, .int x5)]) hx hb dX9_add_79 hl (Nat.le_of_ble_eq_true rfl) rfl (fun ls hl => ?_)
              refine lv_iload_n hx hb dX9_add_81 rfl (lv_at hl 2 rfl) ?_
              refine lv_iload hx hb dX9_add_82 (lv_at hl 0 rfl) ?_
              refine lv_iconst (v := 0) hx hb dX9_add_84 (by decide) ?_
              obtain ⟨q12, hq12, hf⟩ := bnd hf
              refine aw_cSi (rest := []) C0 hW (c_X9_at x1 q11 0  hq12) (cw_X9_58 hts ⟨Nat.le_of_ble_eq_true rfl, Nat.le_of_ble_eq_true rfl⟩) rfl hl.1 rfl (Nat.le_of_ble_eq_true rfl) ⟨Nat.zero_le _, Nat.zero_le _⟩ dX9_add_85 (fun H locs hW => ?_)
              refine lv_istore (lv' := [(7, .int q12), (6, .int q11), (0, .ref (g.2.2 + 70)), (1, .int x1), (2, .int x2), (3, .int x3), (4, .int x4), (5, .int x5)]) hx hb dX9_add_88 hl (Nat.le_of_ble_eq_true rfl) rfl (fun ls hl => ?_)
              refine lv_aload_n hx hb dX9_add_90 rfl (lv_at hl 2 rfl) ?_
              refine aw_get (v := .ref (g.2.2 + 71)) C0 hW (lv_fix (by decide)) (cel_8 kd70) rfl inG8 0 (by decide) wd73 rfl rfl dX9_add_91 ?_
              refine lv_iload hx hb dX9_add_94 (lv_at hl 0 rfl) ?_
              refine lv_iload_n hx hb dX9_add_96 rfl (lv_at hl 4 rfl) ?_
              obtain ⟨I13, hI13, hf⟩ := bnd hf
              refine aw_iast C0 hW kd71 ln71 hI13 dX9_add_97 (fun H locs hW => ?_)
              refine lv_aload_n hx hb dX9_add_98 rfl (lv_at hl 2 rfl) ?_
              refine aw_get (v := .ref (g.2.2 + 71)) C0 hW (lv_fix (by decide)) (cel_8 kd70) rfl inG8 0 (by decide) wd73 rfl rfl dX9_add_99 ?_
              refine lv_iload hx hb dX9_add_102 (lv_at hl 0 rfl) ?_
              refine lv_iconst (v := 1) hx hb dX9_add_104 (by decide) ?_
              refine lv_iadd hx hb dX9_add_105 ?_
              refine lv_iload_n hx hb dX9_add_106 rfl (lv_at hl 5 rfl) ?_
              obtain ⟨I14, hI14, hf⟩ := bnd hf
              refine aw_iast C0 hW kd71 ln71 hI14 dX9_add_107 (fun H locs hW => ?_)
              refine lv_aload_n hx hb dX9_add_108 rfl (lv_at hl 2 rfl) ?_
              refine aw_get (v := .ref (g.2.2 + 71)) C0 hW (lv_fix (by decide)) (cel_8 kd70) rfl inG8 0 (by decide) wd73 rfl rfl dX9_add_109 ?_
              refine lv_iload hx hb dX9_add_112 (lv_at hl 0 rfl) ?_
              refine lv_iconst (v := 2) hx hb dX9_add_114 (by decide) ?_
              refine lv_iadd hx hb dX9_add_115 ?_
              refine lv_iload hx hb dX9_add_116 (lv_at hl 6 rfl) ?_
              obtain ⟨I15, hI15, hf⟩ := bnd hf
              refine aw_iast C0 hW kd71 ln71 hI15 dX9_add_118 (fun H locs hW => ?_)
              refine lv_aload_n hx hb dX9_add_119 rfl (lv_at hl 2 rfl) ?_
              refine aw_get (v := .ref (g.2.2 + 71)) C0 hW (lv_fix (by decide)) (cel_8 kd70) rfl inG8 0 (by decide) wd73 rfl rfl dX9_add_120 ?_
              refine lv_iload hx hb dX9_add_123 (lv_at hl 0 rfl) ?_
              refine lv_iconst (v := 3) hx hb dX9_add_125 (by decide) ?_
              refine lv_iadd hx hb dX9_add_126 ?_
              refine lv_iload hx hb dX9_add_127 (lv_at hl 7 rfl) ?_
              obtain ⟨I16, hI16, hf⟩ := bnd hf
              refine aw_iast C0 hW kd71 ln71 hI16 dX9_add_129 (fun H locs hW => ?_)
              refine lv_aload_n hx hb dX9_add_130 rfl (lv_at hl 2 rfl) ?_
              refine lv_iload_n hx hb dX9_add_131 rfl (lv_at hl 3 rfl) ?_
              refine lv_iload hx hb dX9_add_132 (lv_at hl 1 rfl) ?_
              obtain ⟨q17, hq17, hf⟩ := bnd hf
              refine aw_cVi (rest := []) C0 hW (lv_fix (by decide)) (cel_8 kd70) rfl (c_X9_violates x1 q11  hq17) (cw_X9_128 hts ⟨Nat.le_of_ble_eq_true rfl, Nat.le_of_ble_eq_true rfl⟩) rfl hl.1 rfl (Nat.le_of_ble_eq_true rfl) ⟨Nat.zero_le _, Nat.zero_le _⟩ dX9_add_134 (fun H locs hW => ?_)
              refine lv_if_eq (tgt := 155) hx hb dX9_add_137 rfl (fun hc => ?_) (fun hc => ?_)
              · have hf := ift hc hf
                refine lv_aload_n hx hb dX9_add_155 rfl (lv_at hl 2 rfl) ?_
                refine aw_get (v := .ref (g.2.2 + 71)) C0 hW (lv_fix (by decide)) (cel_8 kd70) rfl inG8 0 (by decide) wd73 rfl rfl dX9_add_156 ?_
                refine lv_iconst (v := 0) hx hb dX9_add_159 (by decide) ?_
                refine lv_iload_n hx hb dX9_add_160 rfl (lv_at hl 3 rfl) ?_
                refine lv_iadd hx hb dX9_add_161 ?_
                refine lv_dup2_11 hx hb dX9_add_162 rfl rfl ?_
                obtain ⟨v18, hv18, hf⟩ := bnd hf
                refine aw_iald C0 hW kd71 ln71 hv18 dX9_add_163 ?_
                refine lv_iconst (v := 1) hx hb dX9_add_164 (by decide) ?_
                refine lv_iadd hx hb dX9_add_165 ?_
                obtain ⟨I19, hI19, hf⟩ := bnd hf
                refine aw_iast C0 hW kd71 ln71 hI19 dX9_add_166 (fun H locs hW => ?_)
                refine lv_iload hx hb dX9_add_167 (lv_at hl 1 rfl) ?_
                have hz := Option.some.inj hf
                have hzV := congrArg (fun z : Int32 × Mem => z.1) hz
                have hzI := congrArg (fun z : Int32 × Mem => z.2) hz
                exact aw_iret C0 hW hzV hzI rfl dX9_add_169
              · have hf := iff_ hc hf
                refine lv_aload_n hx hb dX9_add_140 rfl (lv_at hl 2 rfl) ?_
                refine aw_get (v := .ref (g.2.2 + 71)) C0 hW (lv_fix (by decide)) (cel_8 kd70) rfl inG8 0 (by decide) wd73 rfl rfl dX9_add_141 ?_
                refine lv_sipush (v := 618) hx hb dX9_add_144 (by decide) ?_
                refine lv_dup2_11 hx hb dX9_add_147 rfl rfl ?_
                obtain ⟨v20, hv20, hf⟩ := bnd hf
                refine aw_iald C0 hW kd71 ln71 hv20 dX9_add_148 ?_
                refine lv_iconst (v := 1) hx hb dX9_add_149 (by decide) ?_
                refine lv_iadd hx hb dX9_add_150 ?_
                obtain ⟨I21, hI21, hf⟩ := bnd hf
                refine aw_iast C0 hW kd71 ln71 hI21 dX9_add_151 (fun H locs hW => ?_)
                refine lv_bipush (v := (-2)) hx hb dX9_add_152 (by decide) ?_
                have hz := Option.some.inj hf
                have hzV := congrArg (fun z : Int32 × Mem => z.1) hz
                have hzI := congrArg (fun z : Int32 × Mem => z.2) hz
                exact aw_iret C0 hW hzV hzI rfl dX9_add_154
            · have hf := ift hc hf
              refine lv_aload_n hx hb dX9_add_64 rfl (lv_at hl 0 rfl) ?_
              refine lv_iconst (v := 3) hx hb dX9_add_65 (by decide) ?_
              obtain ⟨q22, hq22, hf⟩ := bnd hf
              refine aw_cVi (rest := []) C0 hW (lv_fix (by decide)) (cel_8 kd70) rfl (c_X9_refuses 3  hq22) (cw_X9_119 hts ⟨Nat.le_of_ble_eq_true rfl, Nat.le_of_ble_eq_true rfl⟩) rfl hl.1 rfl (Nat.le_of_ble_eq_true rfl) ⟨Nat.zero_le _, Nat.zero_le _⟩ dX9_add_66 (fun H locs hW => ?_)
              have hz := Option.some.inj hf
              have hzV := congrArg (fun z : Int32 × Mem => z.1) hz
              have hzI := congrArg (fun z : Int32 × Mem => z.2) hz
              exact aw_iret C0 hW hzV hzI rfl dX9_add_69
          · have hf := ift hc hf
            refine lv_aload_n hx hb dX9_add_48 rfl (lv_at hl 0 rfl) ?_
            refine lv_iconst (v := 2) hx hb dX9_add_49 (by decide) ?_
            obtain ⟨q23, hq23, hf⟩ := bnd hf
            refine aw_cVi (rest := []) C0 hW (lv_fix (by decide)) (cel_8 kd70) rfl (c_X9_refuses 2  hq23) (cw_X9_119 hts ⟨Nat.le_of_ble_eq_true rfl, Nat.le_of_ble_eq_true rfl⟩) rfl hl.1 rfl (Nat.le_of_ble_eq_true rfl) ⟨Nat.zero_le _, Nat.zero_le _⟩ dX9_add_50 (fun H locs hW => ?_)
            have hz := Option.some.inj hf
            have hzV := congrArg (fun z : Int32 × Mem => z.1) hz
            have hzI := congrArg (fun z : Int32 × Mem => z.2) hz
            exact aw_iret C0 hW hzV hzI rfl dX9_add_53
  · have hf := ift hc hf
    refine lv_aload_n hx hb dX9_add_12 rfl (lv_at hl 0 rfl) ?_
    refine lv_iconst (v := 1) hx hb dX9_add_13 (by decide) ?_
    obtain ⟨q24, hq24, hf⟩ := bnd hf
    refine aw_cVi (rest := []) C0 hW (lv_fix (by decide)) (cel_8 kd70) rfl (c_X9_refuses 1  hq24) (cw_X9_119 hts ⟨Nat.le_of_ble_eq_true rfl, Nat.le_of_ble_eq_true rfl⟩) rfl hl.1 rfl (Nat.le_of_ble_eq_true rfl) ⟨Nat.zero_le _, Nat.zero_le _⟩ dX9_add_14 (fun H locs hW => ?_)
    have hz := Option.some.inj hf
    have hzV := congrArg (fun z : Int32 × Mem => z.1) hz
    have hzI := congrArg (fun z : Int32 × Mem => z.2) hz
    exact aw_iret C0 hW hzV hzI rfl dX9_add_17
def f_X9_allRows (I : Mem) : Option (Int32) :=
  (f_X9_many 0 I).bind fun q1 =>
  (f_X9_many 1 I).bind fun q2 =>
  some (q1 + q2)
abbrev rmX9_allRows : Room := { frames := 1, cells := 0, slots := 0, locals := 21 }
set_option maxHeartbeats 4000000 in
set_option maxRecDepth 100000 in
theorem c_X9_allRows {l : Launch} {g : Gam} {I : Mem} {R : Rem} {P : Pool} {Z : Zed}   {z : Int32} (hf : f_X9_allRows I = some z) : Met l yX9_allRows (Cond.code yX9_allRows cX9_allRows 1 (some .int) :: GT) rmX9_allRows (va_Pc [.ref (g.2.2 + 70)] (PW g I R P Z)) (QI g z I R P Z) 0 0 (AA g) := by
  refine aw_ofW (lv0 := [(0, .ref (g.2.2 + 70))]) (by decide) (by exact Nat.le_of_ble_eq_true rfl) (by rfl) (fun p0 e s m args below meth c ls C0 hl hW => ?_)
  have C0 : CX g p0 s m args meth c RX9 cX9_allRows 1 (some .int) := C0
  have hx := C0.1; have hb := C0.2.1; have hown := C0.2.2.2.2.1; have hts := C0.2.2.2.2.2.1; have hKS := C0.2.2.2.2.2.2.1
  unfold f_X9_allRows at hf
  obtain ⟨H, hH⟩ : ∃ H, H = s.heap := ⟨_, rfl⟩
  obtain ⟨locs, hlc⟩ : ∃ q : List Loc, q = [] := ⟨_, rfl⟩
  rw [show W p0 l e rmX9_allRows s m args below meth c s.heap [] 0 0 (MQ below (QI g z I R P Z) args s 0 0 (AA g)) (F0 m 0 ls []) = W p0 l e rmX9_allRows s m args below meth c H locs 0 0 (MQ below (QI g z I R P Z) args s 0 0 (AA g)) (F0 m 0 ls []) by rw [hH, hlc]]
  have hW : Wd g I R P Z s.heap H locs := by rw [hH, hlc]; exact hW
  refine lv_aload_n hx hb dX9_allRows_0 rfl (lv_at hl 0 rfl) ?_
  refine lv_iconst (v := 0) hx hb dX9_allRows_1 (by decide) ?_
  obtain ⟨q1, hq1, hf⟩ := bnd hf
  refine aw_cVi (rest := []) C0 hW (lv_fix (by decide)) (cel_8 kd70) rfl (c_X9_many 0  hq1) (cw_X9_70 hts ⟨Nat.le_of_ble_eq_true rfl, Nat.le_of_ble_eq_true rfl⟩) rfl hl.1 rfl (Nat.le_of_ble_eq_true rfl) ⟨Nat.zero_le _, Nat.zero_le _⟩ dX9_allRows_2 (fun H locs hW => ?_)
  refine lv_aload_n hx hb dX9_allRows_5 rfl (lv_at hl 0 rfl) ?_
  refine lv_iconst (v := 1) hx hb dX9_allRows_6 (by decide) ?_
  obtain ⟨q2, hq2, hf⟩ := bnd hf
  refine aw_cVi (rest := [.int q1]) C0 hW (lv_fix (by decide)) (cel_8 kd70) rfl (c_X9_many 1  hq2) (cw_X9_70 hts ⟨Nat.le_of_ble_eq_true rfl, Nat.le_of_ble_eq_true rfl⟩) rfl hl.1 rfl (Nat.le_of_ble_eq_true rfl) ⟨Nat.zero_le _, Nat.zero_le _⟩ dX9_allRows_7 (fun H locs hW => ?_)
  refine lv_iadd hx hb dX9_allRows_10 ?_
  have hz := Option.some.inj hf
  exact aw_iret C0 hW hz rfl rfl dX9_allRows_11
theorem cw_X9_221 {Rm : Room} {s : State} {args : Array Value} (ht : ∀ w ∈ GT, w.before args s = true) (hR : rmX9_allRows.frames + 1 ≤ Rm.frames ∧ 8 + (1 + 11) + rmX9_allRows.locals ≤ Rm.locals) : CallW Rm s args RX9 RX9 221 yX9_allRows cX9_allRows 1 (some .int) (Cond.code yX9_allRows cX9_allRows 1 (some .int) :: GT) rmX9_allRows 0 0 0 := cwV 0 ht (goodV wd732 wd733 wd734 wd607 wd735) rfl rfl rfl ⟨rfl, by decide +kernel, by decide +kernel, by decide +kernel⟩ hR
def f_X9_arePartners (x1 : Int32) (x2 : Int32) (x3 : Int32) (x4 : Int32) (I : Mem) : Option (Int32) :=
  (f_X9_of 0 x1 x3 I).bind fun q1 =>
  if q1 = ((-1)) then (
    some 0
  ) else (
    (f_X9_of 1 x2 x4 I).bind fun q2 =>
    if q1 = q2 then (
      some 1
    ) else (
      some 0
    )
  )
abbrev rmX9_arePartners : Room := { frames := 2, cells := 0, slots := 0, locals := 45 }
set_option maxHeartbeats 4000000 in
set_option maxRecDepth 100000 in
theorem c_X9_arePartners {l : Launch} {g : Gam} {I : Mem} {R : Rem} {P : Pool} {Z : Zed} (x1 : Int32) (x2 : Int32) (x3 : Int32) (x4 : Int32)  {z : Int32} (hf : f_X9_arePartners x1 x2 x3 x4 I = some z) : Met l yX9_arePartners (Cond.code yX9_arePartners cX9_arePartners 6 (some .boolean) :: GT) rmX9_arePartners (va_Pc [.ref (g.2.2 + 70), .int x1, .int x2, .int x3, .int x4] (PW g I R P Z)) (QI g z I R P Z) 0 0 (AA g) := by
  refine aw_ofW (lv0 := [(0, .ref (g.2.2 + 70)), (1, .int x1), (2, .int x2), (3, .int x3), (4, .int x4)]) (by decide) (by exact Nat.le_of_ble_eq_true rfl) (by rfl) (fun p0 e s m args below meth c ls C0 hl hW => ?_)
  have C0 : CX g p0 s m args meth c RX9 cX9_arePartners 6 (some .boolean) := C0
  have hx := C0.1; have hb := C0.2.1; have hown := C0.2.2.2.2.1; have hts := C0.2.2.2.2.2.1; have hKS := C0.2.2.2.2.2.2.1
  unfold f_X9_arePartners at hf
  obtain ⟨H, hH⟩ : ∃ H, H = s.heap := ⟨_, rfl⟩
  obtain ⟨locs, hlc⟩ : ∃ q : List Loc, q = [] := ⟨_, rfl⟩
  rw [show W p0 l e rmX9_arePartners s m args below meth c s.heap [] 0 0 (MQ below (QI g z I R P Z) args s 0 0 (AA g)) (F0 m 0 ls []) = W p0 l e rmX9_arePartners s m args below meth c H locs 0 0 (MQ below (QI g z I R P Z) args s 0 0 (AA g)) (F0 m 0 ls []) by rw [hH, hlc]]
  have hW : Wd g I R P Z s.heap H locs := by rw [hH, hlc]; exact hW
  refine lv_aload_n hx hb dX9_arePartners_0 rfl (lv_at hl 0 rfl) ?_
  refine lv_iconst (v := 0) hx hb dX9_arePartners_1 (by decide) ?_
  refine lv_iload_n hx hb dX9_arePartners_2 rfl (lv_at hl 1 rfl) ?_
  refine lv_iload_n hx hb dX9_arePartners_3 rfl (lv_at hl 3 rfl) ?_
  obtain ⟨q1, hq1, hf⟩ := bnd hf
  refine aw_cVi (rest := []) C0 hW (lv_fix (by decide)) (cel_8 kd70) rfl (c_X9_of 0 x1 x3  hq1) (cw_X9_74 hts ⟨Nat.le_of_ble_eq_true rfl, Nat.le_of_ble_eq_true rfl⟩) rfl hl.1 rfl (Nat.le_of_ble_eq_true rfl) ⟨Nat.zero_le _, Nat.zero_le _⟩ dX9_arePartners_4 (fun H locs hW => ?_)
  refine lv_istore (lv' := [(5, .int q1), (0, .ref (g.2.2 + 70)), (1, .int x1), (2, .int x2), (3, .int x3), (4, .int x4)]) hx hb dX9_arePartners_7 hl (Nat.le_of_ble_eq_true rfl) rfl (fun ls hl => ?_)
  refine lv_iload hx hb dX9_arePartners_9 (lv_at hl 0 rfl) ?_
  refine lv_iconst (v := (-1)) hx hb dX9_arePartners_11 (by decide) ?_
  refine lv_icmp_eq (tgt := 32) hx hb dX9_arePartners_12 rfl (fun hc => ?_) (fun hc => ?_)
  · have hf := ift hc hf
    refine lv_iconst (v := 0) hx hb dX9_arePartners_32 (by decide) ?_
    have hz := Option.some.inj hf
    exact aw_zret C0 hW rfl hz rfl rfl dX9_arePartners_33
  · have hf := iff_ hc hf
    refine lv_iload hx hb dX9_arePartners_15 (lv_at hl 0 rfl) ?_
    refine lv_aload_n hx hb dX9_arePartners_17 rfl (lv_at hl 1 rfl) ?_
    refine lv_iconst (v := 1) hx hb dX9_arePartners_18 (by decide) ?_
    refine lv_iload_n hx hb dX9_arePartners_19 rfl (lv_at hl 3 rfl) ?_
    refine lv_iload hx hb dX9_arePartners_20 (lv_at hl 5 rfl) ?_
    obtain ⟨q2, hq2, hf⟩ := bnd hf
    refine aw_cVi (rest := [.int q1]) C0 hW (lv_fix (by decide)) (cel_8 kd70) rfl (c_X9_of 1 x2 x4  hq2) (cw_X9_74 hts ⟨Nat.le_of_ble_eq_true rfl, Nat.le_of_ble_eq_true rfl⟩) rfl hl.1 rfl (Nat.le_of_ble_eq_true rfl) ⟨Nat.zero_le _, Nat.zero_le _⟩ dX9_arePartners_22 (fun H locs hW => ?_)
    refine lv_icmp_ne (tgt := 32) hx hb dX9_arePartners_25 rfl (fun hc => ?_) (fun hc => ?_)
    · have hf := iff_ hc hf
      refine lv_iconst (v := 0) hx hb dX9_arePartners_32 (by decide) ?_
      have hz := Option.some.inj hf
      exact aw_zret C0 hW rfl hz rfl rfl dX9_arePartners_33
    · have hf := ift hc hf
      refine lv_iconst (v := 1) hx hb dX9_arePartners_28 (by decide) ?_
      refine lv_goto (tgt := 33) hx hb dX9_arePartners_29 rfl ?_
      have hz := Option.some.inj hf
      exact aw_zret C0 hW rfl hz rfl rfl dX9_arePartners_33
theorem cw_X9_298 {Rm : Room} {s : State} {args : Array Value} (ht : ∀ w ∈ GT, w.before args s = true) (hR : rmX9_arePartners.frames + 1 ≤ Rm.frames ∧ 8 + (6 + 11) + rmX9_arePartners.locals ≤ Rm.locals) : CallW Rm s args RX9 RX9 298 yX9_arePartners cX9_arePartners 6 (some .boolean) (Cond.code yX9_arePartners cX9_arePartners 6 (some .boolean) :: GT) rmX9_arePartners 0 0 4 := cwV 4 ht (goodV wd828 wd829 wd830 wd607 wd831) rfl rfl rfl ⟨rfl, by decide +kernel, by decide +kernel, by decide +kernel⟩ hR
def f_X9_alone_L22 (x1 : Int32) (x2 : Int32) (x3 : Int32) (y4 : Int32) (y5 : Int32) (I : Mem) : Nat → Int32 → Int32 → Option (Int32)
  | 0, _, _ => none
  | n + 1, w6, w7 =>
    (f_X9_many (1 - x1) I).bind fun q2 =>
    if q2 ≤ w7 then (
      some w6
    ) else (
      if w6 = 0 then (
        f_X9_alone_L22 x1 x2 x3 y4 y5 I n 0 (w7 + 1)
      ) else (
        if x1 = 0 then (
          (f_X9_arePartners y5 w7 x2 x3 I).bind fun q4 =>
          if q4 = 0 then (
            f_X9_alone_L22 x1 x2 x3 y4 y5 I n 1 (w7 + 1)
          ) else (
            f_X9_alone_L22 x1 x2 x3 y4 y5 I n 0 (w7 + 1)
          )
        ) else (
          (f_X9_arePartners w7 y5 x2 x3 I).bind fun q3 =>
          if q3 = 0 then (
            f_X9_alone_L22 x1 x2 x3 y4 y5 I n 1 (w7 + 1)
          ) else (
            f_X9_alone_L22 x1 x2 x3 y4 y5 I n 0 (w7 + 1)
          )
        )
      )
    )
def f_X9_alone_L6 (x1 : Int32) (x2 : Int32) (x3 : Int32) (I : Mem) : Nat → Int32 → Int32 → Option (Int32)
  | 0, _, _ => none
  | n + 1, w4, w5 =>
    (f_X9_many x1 I).bind fun q1 =>
    if q1 ≤ w5 then (
      some w4
    ) else (
      (f_X9_alone_L22 x1 x2 x3 w4 w5 I fuel 1 0).bind fun q5 =>
      if q5 = 0 then (
        f_X9_alone_L6 x1 x2 x3 I n (w4 ||| 0) (w5 + 1)
      ) else (
        f_X9_alone_L6 x1 x2 x3 I n (w4 ||| (1 <<< (w5 &&& 31))) (w5 + 1)
      )
    )
def f_X9_alone (x1 : Int32) (x2 : Int32) (x3 : Int32) (I : Mem) : Option (Int32) :=
  (f_X9_alone_L6 x1 x2 x3 I fuel 0 0).bind fun q6 =>
  some q6
abbrev rmX9_alone : Room := { frames := 3, cells := 0, slots := 0, locals := 70 }
set_option maxHeartbeats 4000000 in
set_option maxRecDepth 100000 in
theorem c_X9_alone {l : Launch} {g : Gam} {I : Mem} {R : Rem} {P : Pool} {Z : Zed} (x1 : Int32) (x2 : Int32) (x3 : Int32)  {z : Int32} (hf : f_X9_alone x1 x2 x3 I = some z) : Met l yX9_alone (Cond.code yX9_alone cX9_alone 8 (some .int) :: GT) rmX9_alone (va_Pc [.ref (g.2.2 + 70), .int x1, .int x2, .int x3] (PW g I R P Z)) (QI g z I R P Z) 0 0 (AA g) := by
  refine aw_ofW (lv0 := [(0, .ref (g.2.2 + 70)), (1, .int x1), (2, .int x2), (3, .int x3)]) (by decide) (by exact Nat.le_of_ble_eq_true rfl) (by rfl) (fun p0 e s m args below meth c ls C0 hl hW => ?_)
  have C0 : CX g p0 s m args meth c RX9 cX9_alone 8 (some .int) := C0
  have hx := C0.1; have hb := C0.2.1; have hown := C0.2.2.2.2.1; have hts := C0.2.2.2.2.2.1; have hKS := C0.2.2.2.2.2.2.1
  have L22 : ∀ (y4 : Int32) (y5 : Int32) (I : Mem) (n : Nat) (w6 : Int32) (w7 : Int32) (H : Heap) (locs : List Loc) (ls : Array Slot) (o : Int32), f_X9_alone_L22 x1 x2 x3 y4 y5 I n w6 w7 = some o → Wd g I R P Z s.heap H locs → lv_has ls 8 [(0, .ref (g.2.2 + 70)), (1, .int x1), (2, .int x2), (3, .int x3), (4, .int y4), (5, .int y5), (6, .int w6), (7, .int w7)] → (∀ (H : Heap) (locs : List Loc) (ls : Array Slot), Wd g I R P Z s.heap H locs → lv_has ls 8 [(0, .ref (g.2.2 + 70)), (1, .int x1), (2, .int x2), (3, .int x3), (4, .int y4), (5, .int y5), (6, .int o)] → W p0 l e rmX9_alone s m args below meth c H locs 0 0 (MQ below (QI g z I R P Z) args s 0 0 (AA g)) (F0 m 85 ls [])) → W p0 l e rmX9_alone s m args below meth c H locs 0 0 (MQ below (QI g z I R P Z) args s 0 0 (AA g)) (F0 m 22 ls []) := by
    intro y4 y5 I n
    induction n with
    | zero => intro w6 w7 H locs ls o hf; cases hf
    | succ n ih =>
      intro w6 w7 H locs ls o hf hW hl hK
      rw [f_X9_alone_L22] at hf
      refine lv_iload hx hb dX9_alone_22 (lv_at hl 7 rfl) ?_
      refine lv_aload_n hx hb dX9_alone_24 rfl (lv_at hl 0 rfl) ?_
      refine lv_iconst (v := 1) hx hb dX9_alone_25 (by decide) ?_
      refine lv_iload_n hx hb dX9_alone_26 rfl (lv_at hl 1 rfl) ?_
      refine lv_isub hx hb dX9_alone_27 ?_
      obtain ⟨q2, hq2, hf⟩ := bnd hf
      refine aw_cVi (rest := [.int w7]) C0 hW (lv_fix (by decide)) (cel_8 kd70) rfl (c_X9_many (1 - x1)  hq2) (cw_X9_70 hts ⟨Nat.le_of_ble_eq_true rfl, Nat.le_of_ble_eq_true rfl⟩) rfl hl.1 rfl (Nat.le_of_ble_eq_true rfl) ⟨Nat.zero_le _, Nat.zero_le _⟩ dX9_alone_28 (fun H locs hW => ?_)
      refine lv_icmp_ge (tgt := 85) hx hb dX9_alone_31 rfl (fun hc => ?_) (fun hc => ?_)
      · have hf := ift hc hf
        have ho := Option.some.inj hf
        subst ho
        exact hK H locs ls hW (lv_sub hl [0, 1, 2, 3, 4, 5, 6] rfl)
      · have hf := iff_ hc hf
        refine lv_iload hx hb dX9_alone_34 (lv_at hl 6 rfl) ?_
        refine lv_if_eq (tgt := 76) hx hb dX9_alone_36 rfl (fun hc => ?_) (fun hc => ?_)
        · have hf := ift hc hf
          refine lv_iconst (v := 0) hx hb dX9_alone_76 (by decide) ?_
          refine lv_istore (lv' := [(6, .int 0), (0, .ref (g.2.2 + 70)), (1, .int x1), (2, .int x2), (3, .int x3), (4, .int y4), (5, .int y5), (7, .int w7)]) hx hb dX9_alone_77 hl (Nat.le_of_ble_eq_true rfl) rfl (fun ls hl => ?_)
          refine lv_iinc (k := 7) (v := w7 + 1) (lv' := [(7, .int (w7 + 1)), (6, .int 0), (0, .ref (g.2.2 + 70)), (1, .int x1), (2, .int x2), (3, .int x3), (4, .int y4), (5, .int y5)]) hx hb dX9_alone_79 hl rfl (congrArg (fun t => w7 + t) (by decide : Int32.ofInt 1 = 1)) (Nat.le_of_ble_eq_true rfl) rfl (fun ls hl => ?_)
          refine lv_goto (tgt := 22) hx hb dX9_alone_82 rfl ?_
          exact ih _ _ H locs ls o hf hW (lv_sub hl [2, 3, 4, 5, 6, 7, 1, 0] rfl) hK
        · have hf := iff_ hc hf
          refine lv_iload_n hx hb dX9_alone_39 rfl (lv_at hl 1 rfl) ?_
          refine lv_if_ne (tgt := 59) hx hb dX9_alone_40 rfl (fun hc => ?_) (fun hc => ?_)
          · have hf := iff_ hc hf
            refine lv_aload_n hx hb dX9_alone_59 rfl (lv_at hl 0 rfl) ?_
            refine lv_iload hx hb dX9_alone_60 (lv_at hl 7 rfl) ?_
            refine lv_iload hx hb dX9_alone_62 (lv_at hl 5 rfl) ?_
            refine lv_iload_n hx hb dX9_alone_64 rfl (lv_at hl 2 rfl) ?_
            refine lv_iload_n hx hb dX9_alone_65 rfl (lv_at hl 3 rfl) ?_
            obtain ⟨q3, hq3, hf⟩ := bnd hf
            refine aw_cVi (rest := []) C0 hW (lv_fix (by decide)) (cel_8 kd70) rfl (c_X9_arePartners w7 y5 x2 x3  hq3) (cw_X9_298 hts ⟨Nat.le_of_ble_eq_true rfl, Nat.le_of_ble_eq_true rfl⟩) rfl hl.1 rfl (Nat.le_of_ble_eq_true rfl) ⟨Nat.zero_le _, Nat.zero_le _⟩ dX9_alone_66 (fun H locs hW => ?_)
            refine lv_if_ne (tgt := 76) hx hb dX9_alone_69 rfl (fun hc => ?_) (fun hc => ?_)
            · have hf := iff_ hc hf
              refine lv_iconst (v := 0) hx hb dX9_alone_76 (by decide) ?_
              refine lv_istore (lv' := [(6, .int 0), (0, .ref (g.2.2 + 70)), (1, .int x1), (2, .int x2), (3, .int x3), (4, .int y4), (5, .int y5), (7, .int w7)]) hx hb dX9_alone_77 hl (Nat.le_of_ble_eq_true rfl) rfl (fun ls hl => ?_)
              refine lv_iinc (k := 7) (v := w7 + 1) (lv' := [(7, .int (w7 + 1)), (6, .int 0), (0, .ref (g.2.2 + 70)), (1, .int x1), (2, .int x2), (3, .int x3), (4, .int y4), (5, .int y5)]) hx hb dX9_alone_79 hl rfl (congrArg (fun t => w7 + t) (by decide : Int32.ofInt 1 = 1)) (Nat.le_of_ble_eq_true rfl) rfl (fun ls hl => ?_)
              refine lv_goto (tgt := 22) hx hb dX9_alone_82 rfl ?_
              exact ih _ _ H locs ls o hf hW (lv_sub hl [2, 3, 4, 5, 6, 7, 1, 0] rfl) hK
            · have hf := ift hc hf
              refine lv_iconst (v := 1) hx hb dX9_alone_72 (by decide) ?_
              refine lv_goto (tgt := 77) hx hb dX9_alone_73 rfl ?_
              refine lv_istore (lv' := [(6, .int 1), (0, .ref (g.2.2 + 70)), (1, .int x1), (2, .int x2), (3, .int x3), (4, .int y4), (5, .int y5), (7, .int w7)]) hx hb dX9_alone_77 hl (Nat.le_of_ble_eq_true rfl) rfl (fun ls hl => ?_)
              refine lv_iinc (k := 7) (v := w7 + 1) (lv' := [(7, .int (w7 + 1)), (6, .int 1), (0, .ref (g.2.2 + 70)), (1, .int x1), (2, .int x2), (3, .int x3), (4, .int y4), (5, .int y5)]) hx hb dX9_alone_79 hl rfl (congrArg (fun t => w7 + t) (by decide : Int32.ofInt 1 = 1)) (Nat.le_of_ble_eq_true rfl) rfl (fun ls hl => ?_)
              refine lv_goto (tgt := 22) hx hb dX9_alone_82 rfl ?_
              exact ih _ _ H locs ls o hf hW (lv_sub hl [2, 3, 4, 5, 6, 7, 1, 0] rfl) hK
          · have hf := ift hc hf
            refine lv_aload_n hx hb dX9_alone_43 rfl (lv_at hl 0 rfl) ?_
            refine lv_iload hx hb dX9_alone_44 (lv_at hl 5 rfl) ?_
            refine lv_iload hx hb dX9_alone_46 (lv_at hl 7 rfl) ?_
            refine lv_iload_n hx hb dX9_alone_48 rfl (lv_at hl 2 rfl) ?_
            refine lv_iload_n hx hb dX9_alone_49 rfl (lv_at hl 3 rfl) ?_
            obtain ⟨q4, hq4, hf⟩ := bnd hf
            refine aw_cVi (rest := []) C0 hW (lv_fix (by decide)) (cel_8 kd70) rfl (c_X9_arePartners y5 w7 x2 x3  hq4) (cw_X9_298 hts ⟨Nat.le_of_ble_eq_true rfl, Nat.le_of_ble_eq_true rfl⟩) rfl hl.1 rfl (Nat.le_of_ble_eq_true rfl) ⟨Nat.zero_le _, Nat.zero_le _⟩ dX9_alone_50 (fun H locs hW => ?_)
            refine lv_if_eq (tgt := 72) hx hb dX9_alone_53 rfl (fun hc => ?_) (fun hc => ?_)
            · have hf := ift hc hf
              refine lv_iconst (v := 1) hx hb dX9_alone_72 (by decide) ?_
              refine lv_goto (tgt := 77) hx hb dX9_alone_73 rfl ?_
              refine lv_istore (lv' := [(6, .int 1), (0, .ref (g.2.2 + 70)), (1, .int x1), (2, .int x2), (3, .int x3), (4, .int y4), (5, .int y5), (7, .int w7)]) hx hb dX9_alone_77 hl (Nat.le_of_ble_eq_true rfl) rfl (fun ls hl => ?_)
              refine lv_iinc (k := 7) (v := w7 + 1) (lv' := [(7, .int (w7 + 1)), (6, .int 1), (0, .ref (g.2.2 + 70)), (1, .int x1), (2, .int x2), (3, .int x3), (4, .int y4), (5, .int y5)]) hx hb dX9_alone_79 hl rfl (congrArg (fun t => w7 + t) (by decide : Int32.ofInt 1 = 1)) (Nat.le_of_ble_eq_true rfl) rfl (fun ls hl => ?_)
              refine lv_goto (tgt := 22) hx hb dX9_alone_82 rfl ?_
              exact ih _ _ H locs ls o hf hW (lv_sub hl [2, 3, 4, 5, 6, 7, 1, 0] rfl) hK
            · have hf := iff_ hc hf
              refine lv_goto (tgt := 76) hx hb dX9_alone_56 rfl ?_
              refine lv_iconst (v := 0) hx hb dX9_alone_76 (by decide) ?_
              refine lv_istore (lv' := [(6, .int 0), (0, .ref (g.2.2 + 70)), (1, .int x1), (2, .int x2), (3, .int x3), (4, .int y4), (5, .int y5), (7, .int w7)]) hx hb dX9_alone_77 hl (Nat.le_of_ble_eq_true rfl) rfl (fun ls hl => ?_)
              refine lv_iinc (k := 7) (v := w7 + 1) (lv' := [(7, .int (w7 + 1)), (6, .int 0), (0, .ref (g.2.2 + 70)), (1, .int x1), (2, .int x2), (3, .int x3), (4, .int y4), (5, .int y5)]) hx hb dX9_alone_79 hl rfl (congrArg (fun t => w7 + t) (by decide : Int32.ofInt 1 = 1)) (Nat.le_of_ble_eq_true rfl) rfl (fun ls hl => ?_)
              refine lv_goto (tgt := 22) hx hb dX9_alone_82 rfl ?_
              exact ih _ _ H locs ls o hf hW (lv_sub hl [2, 3, 4, 5, 6, 7, 1, 0] rfl) hK
  have L6 : ∀ (I : Mem) (n : Nat) (w4 : Int32) (w5 : Int32) (H : Heap) (locs : List Loc) (ls : Array Slot) (o : Int32), f_X9_alone_L6 x1 x2 x3 I n w4 w5 = some o → Wd g I R P Z s.heap H locs → lv_has ls 8 [(0, .ref (g.2.2 + 70)), (1, .int x1), (2, .int x2), (3, .int x3), (4, .int w4), (5, .int w5)] → (∀ (H : Heap) (locs : List Loc) (ls : Array Slot), Wd g I R P Z s.heap H locs → lv_has ls 8 [(4, .int o)] → W p0 l e rmX9_alone s m args below meth c H locs 0 0 (MQ below (QI g z I R P Z) args s 0 0 (AA g)) (F0 m 109 ls [])) → W p0 l e rmX9_alone s m args below meth c H locs 0 0 (MQ below (QI g z I R P Z) args s 0 0 (AA g)) (F0 m 6 ls []) := by
    intro I n
    induction n with
    | zero => intro w4 w5 H locs ls o hf; cases hf
    | succ n ih =>
      intro w4 w5 H locs ls o hf hW hl hK
      rw [f_X9_alone_L6] at hf
      refine lv_iload hx hb dX9_alone_6 (lv_at hl 5 rfl) ?_
      refine lv_aload_n hx hb dX9_alone_8 rfl (lv_at hl 0 rfl) ?_
      refine lv_iload_n hx hb dX9_alone_9 rfl (lv_at hl 1 rfl) ?_
      obtain ⟨q1, hq1, hf⟩ := bnd hf
      refine aw_cVi (rest := [.int w5]) C0 hW (lv_fix (by decide)) (cel_8 kd70) rfl (c_X9_many x1  hq1) (cw_X9_70 hts ⟨Nat.le_of_ble_eq_true rfl, Nat.le_of_ble_eq_true rfl⟩) rfl hl.1 rfl (Nat.le_of_ble_eq_true rfl) ⟨Nat.zero_le _, Nat.zero_le _⟩ dX9_alone_10 (fun H locs hW => ?_)
      refine lv_icmp_ge (tgt := 109) hx hb dX9_alone_13 rfl (fun hc => ?_) (fun hc => ?_)
      · have hf := ift hc hf
        have ho := Option.some.inj hf
        subst ho
        exact hK H locs ls hW (lv_sub hl [4] rfl)
      · have hf := iff_ hc hf
        refine lv_iconst (v := 1) hx hb dX9_alone_16 (by decide) ?_
        refine lv_istore (lv' := [(6, .int 1), (0, .ref (g.2.2 + 70)), (1, .int x1), (2, .int x2), (3, .int x3), (4, .int w4), (5, .int w5)]) hx hb dX9_alone_17 hl (Nat.le_of_ble_eq_true rfl) rfl (fun ls hl => ?_)
        refine lv_iconst (v := 0) hx hb dX9_alone_19 (by decide) ?_
        refine lv_istore (lv' := [(7, .int 0), (6, .int 1), (0, .ref (g.2.2 + 70)), (1, .int x1), (2, .int x2), (3, .int x3), (4, .int w4), (5, .int w5)]) hx hb dX9_alone_20 hl (Nat.le_of_ble_eq_true rfl) rfl (fun ls hl => ?_)
        obtain ⟨q5, hq5, hf⟩ := bnd hf
        refine L22 w4 w5 I fuel 1 0 H locs ls _ hq5 hW (lv_sub hl [2, 3, 4, 5, 6, 7, 1, 0] rfl) (fun H locs ls hW hl => ?_)
        refine lv_iload hx hb dX9_alone_85 (lv_at hl 4 rfl) ?_
        refine lv_iload hx hb dX9_alone_87 (lv_at hl 6 rfl) ?_
        refine lv_if_eq (tgt := 99) hx hb dX9_alone_89 rfl (fun hc => ?_) (fun hc => ?_)
        · have hf := ift hc hf
          refine lv_iconst (v := 0) hx hb dX9_alone_99 (by decide) ?_
          refine lv_ior hx hb dX9_alone_100 ?_
          refine lv_istore (lv' := [(4, .int (w4 ||| 0)), (0, .ref (g.2.2 + 70)), (1, .int x1), (2, .int x2), (3, .int x3), (5, .int w5), (6, .int q5)]) hx hb dX9_alone_101 hl (Nat.le_of_ble_eq_true rfl) rfl (fun ls hl => ?_)
          refine lv_iinc (k := 5) (v := w5 + 1) (lv' := [(5, .int (w5 + 1)), (4, .int (w4 ||| 0)), (0, .ref (g.2.2 + 70)), (1, .int x1), (2, .int x2), (3, .int x3), (6, .int q5)]) hx hb dX9_alone_103 hl rfl (congrArg (fun t => w5 + t) (by decide : Int32.ofInt 1 = 1)) (Nat.le_of_ble_eq_true rfl) rfl (fun ls hl => ?_)
          refine lv_goto (tgt := 6) hx hb dX9_alone_106 rfl ?_
          exact ih _ _ H locs ls o hf hW (lv_sub hl [2, 3, 4, 5, 1, 0] rfl) hK
        · have hf := iff_ hc hf
          refine lv_iconst (v := 1) hx hb dX9_alone_92 (by decide) ?_
          refine lv_iload hx hb dX9_alone_93 (lv_at hl 5 rfl) ?_
          refine lv_ishl hx hb dX9_alone_95 ?_
          refine lv_goto (tgt := 100) hx hb dX9_alone_96 rfl ?_
          refine lv_ior hx hb dX9_alone_100 ?_
          refine lv_istore (lv' := [(4, .int (w4 ||| (1 <<< (w5 &&& 31)))), (0, .ref (g.2.2 + 70)), (1, .int x1), (2, .int x2), (3, .int x3), (5, .int w5), (6, .int q5)]) hx hb dX9_alone_101 hl (Nat.le_of_ble_eq_true rfl) rfl (fun ls hl => ?_)
          refine lv_iinc (k := 5) (v := w5 + 1) (lv' := [(5, .int (w5 + 1)), (4, .int (w4 ||| (1 <<< (w5 &&& 31)))), (0, .ref (g.2.2 + 70)), (1, .int x1), (2, .int x2), (3, .int x3), (6, .int q5)]) hx hb dX9_alone_103 hl rfl (congrArg (fun t => w5 + t) (by decide : Int32.ofInt 1 = 1)) (Nat.le_of_ble_eq_true rfl) rfl (fun ls hl => ?_)
          refine lv_goto (tgt := 6) hx hb dX9_alone_106 rfl ?_
          exact ih _ _ H locs ls o hf hW (lv_sub hl [2, 3, 4, 5, 1, 0] rfl) hK
  unfold f_X9_alone at hf
  obtain ⟨H, hH⟩ : ∃ H, H = s.heap := ⟨_, rfl⟩
  obtain ⟨locs, hlc⟩ : ∃ q : List Loc, q = [] := ⟨_, rfl⟩
  rw [show W p0 l e rmX9_alone s m args below meth c s.heap [] 0 0 (MQ below (QI g z I R P Z) args s 0 0 (AA g)) (F0 m 0 ls []) = W p0 l e rmX9_alone s m args below meth c H locs 0 0 (MQ below (QI g z I R P Z) args s 0 0 (AA g)) (F0 m 0 ls []) by rw [hH, hlc]]
  have hW : Wd g I R P Z s.heap H locs := by rw [hH, hlc]; exact hW
  refine lv_iconst (v := 0) hx hb dX9_alone_0 (by decide) ?_
  refine lv_istore (lv' := [(4, .int 0), (0, .ref (g.2.2 + 70)), (1, .int x1), (2, .int x2), (3, .int x3)]) hx hb dX9_alone_1 hl (Nat.le_of_ble_eq_true rfl) rfl (fun ls hl => ?_)
  refine lv_iconst (v := 0) hx hb dX9_alone_3 (by decide) ?_
  refine lv_istore (lv' := [(5, .int 0), (4, .int 0), (0, .ref (g.2.2 + 70)), (1, .int x1), (2, .int x2), (3, .int x3)]) hx hb dX9_alone_4 hl (Nat.le_of_ble_eq_true rfl) rfl (fun ls hl => ?_)
  obtain ⟨q6, hq6, hf⟩ := bnd hf
  refine L6 I fuel 0 0 H locs ls _ hq6 hW (lv_sub hl [2, 3, 4, 5, 1, 0] rfl) (fun H locs ls hW hl => ?_)
  refine lv_iload hx hb dX9_alone_109 (lv_at hl 0 rfl) ?_
  have hz := Option.some.inj hf
  exact aw_iret C0 hW hz rfl rfl dX9_alone_111
theorem cw_X9_307 {Rm : Room} {s : State} {args : Array Value} (ht : ∀ w ∈ GT, w.before args s = true) (hR : rmX9_alone.frames + 1 ≤ Rm.frames ∧ 8 + (8 + 11) + rmX9_alone.locals ≤ Rm.locals) : CallW Rm s args RX9 RX9 307 yX9_alone cX9_alone 8 (some .int) (Cond.code yX9_alone cX9_alone 8 (some .int) :: GT) rmX9_alone 0 0 3 := cwV 3 ht (goodV wd840 wd841 wd842 wd607 wd843) rfl rfl rfl ⟨rfl, by decide +kernel, by decide +kernel, by decide +kernel⟩ hR
def f_X9_isRow (x1 : Int32) (x2 : Int32) (I : Mem) : Option (Int32) :=
  (f_X9_isTable x1).bind fun q1 =>
  if q1 = 0 then (
    some 0
  ) else (
    (f_X9_many x1 I).bind fun q2 =>
    (f_X9_in x2 0 (q2 - 1)).bind fun q3 =>
    if q3 = 0 then (
      some 0
    ) else (
      some 1
    )
  )
abbrev rmX9_isRow : Room := { frames := 2, cells := 0, slots := 0, locals := 42 }
set_option maxHeartbeats 4000000 in
set_option maxRecDepth 100000 in
theorem c_X9_isRow {l : Launch} {g : Gam} {I : Mem} {R : Rem} {P : Pool} {Z : Zed} (x1 : Int32) (x2 : Int32)  {z : Int32} (hf : f_X9_isRow x1 x2 I = some z) : Met l yX9_isRow (Cond.code yX9_isRow cX9_isRow 3 (some .boolean) :: GT) rmX9_isRow (va_Pc [.ref (g.2.2 + 70), .int x1, .int x2] (PW g I R P Z)) (QI g z I R P Z) 0 0 (AA g) := by
  refine aw_ofW (lv0 := [(0, .ref (g.2.2 + 70)), (1, .int x1), (2, .int x2)]) (by decide) (by exact Nat.le_of_ble_eq_true rfl) (by rfl) (fun p0 e s m args below meth c ls C0 hl hW => ?_)
  have C0 : CX g p0 s m args meth c RX9 cX9_isRow 3 (some .boolean) := C0
  have hx := C0.1; have hb := C0.2.1; have hown := C0.2.2.2.2.1; have hts := C0.2.2.2.2.2.1; have hKS := C0.2.2.2.2.2.2.1
  unfold f_X9_isRow at hf
  obtain ⟨H, hH⟩ : ∃ H, H = s.heap := ⟨_, rfl⟩
  obtain ⟨locs, hlc⟩ : ∃ q : List Loc, q = [] := ⟨_, rfl⟩
  rw [show W p0 l e rmX9_isRow s m args below meth c s.heap [] 0 0 (MQ below (QI g z I R P Z) args s 0 0 (AA g)) (F0 m 0 ls []) = W p0 l e rmX9_isRow s m args below meth c H locs 0 0 (MQ below (QI g z I R P Z) args s 0 0 (AA g)) (F0 m 0 ls []) by rw [hH, hlc]]
  have hW : Wd g I R P Z s.heap H locs := by rw [hH, hlc]; exact hW
  refine lv_iload_n hx hb dX9_isRow_0 rfl (lv_at hl 1 rfl) ?_
  obtain ⟨q1, hq1, hf⟩ := bnd hf
  refine aw_cSi (rest := []) C0 hW (c_X9_isTable x1  hq1) (cw_X9_66 hts ⟨Nat.le_of_ble_eq_true rfl, Nat.le_of_ble_eq_true rfl⟩) rfl hl.1 rfl (Nat.le_of_ble_eq_true rfl) ⟨Nat.zero_le _, Nat.zero_le _⟩ dX9_isRow_1 (fun H locs hW => ?_)
  refine lv_if_eq (tgt := 26) hx hb dX9_isRow_4 rfl (fun hc => ?_) (fun hc => ?_)
  · have hf := ift hc hf
    refine lv_iconst (v := 0) hx hb dX9_isRow_26 (by decide) ?_
    have hz := Option.some.inj hf
    exact aw_zret C0 hW rfl hz rfl rfl dX9_isRow_27
  · have hf := iff_ hc hf
    refine lv_iload_n hx hb dX9_isRow_7 rfl (lv_at hl 2 rfl) ?_
    refine lv_iconst (v := 0) hx hb dX9_isRow_8 (by decide) ?_
    refine lv_aload_n hx hb dX9_isRow_9 rfl (lv_at hl 0 rfl) ?_
    refine lv_iload_n hx hb dX9_isRow_10 rfl (lv_at hl 1 rfl) ?_
    obtain ⟨q2, hq2, hf⟩ := bnd hf
    refine aw_cVi (rest := [.int 0, .int x2]) C0 hW (lv_fix (by decide)) (cel_8 kd70) rfl (c_X9_many x1  hq2) (cw_X9_70 hts ⟨Nat.le_of_ble_eq_true rfl, Nat.le_of_ble_eq_true rfl⟩) rfl hl.1 rfl (Nat.le_of_ble_eq_true rfl) ⟨Nat.zero_le _, Nat.zero_le _⟩ dX9_isRow_11 (fun H locs hW => ?_)
    refine lv_iconst (v := 1) hx hb dX9_isRow_14 (by decide) ?_
    refine lv_isub hx hb dX9_isRow_15 ?_
    obtain ⟨q3, hq3, hf⟩ := bnd hf
    refine aw_cSi (rest := []) C0 hW (c_X9_in x2 0 (q2 - 1)  hq3) (cw_X9_62 hts ⟨Nat.le_of_ble_eq_true rfl, Nat.le_of_ble_eq_true rfl⟩) rfl hl.1 rfl (Nat.le_of_ble_eq_true rfl) ⟨Nat.zero_le _, Nat.zero_le _⟩ dX9_isRow_16 (fun H locs hW => ?_)
    refine lv_if_eq (tgt := 26) hx hb dX9_isRow_19 rfl (fun hc => ?_) (fun hc => ?_)
    · have hf := ift hc hf
      refine lv_iconst (v := 0) hx hb dX9_isRow_26 (by decide) ?_
      have hz := Option.some.inj hf
      exact aw_zret C0 hW rfl hz rfl rfl dX9_isRow_27
    · have hf := iff_ hc hf
      refine lv_iconst (v := 1) hx hb dX9_isRow_22 (by decide) ?_
      refine lv_goto (tgt := 27) hx hb dX9_isRow_23 rfl ?_
      have hz := Option.some.inj hf
      exact aw_zret C0 hW rfl hz rfl rfl dX9_isRow_27
theorem cw_X9_132 {Rm : Room} {s : State} {args : Array Value} (ht : ∀ w ∈ GT, w.before args s = true) (hR : rmX9_isRow.frames + 1 ≤ Rm.frames ∧ 8 + (3 + 11) + rmX9_isRow.locals ≤ Rm.locals) : CallW Rm s args RX9 RX9 132 yX9_isRow cX9_isRow 3 (some .boolean) (Cond.code yX9_isRow cX9_isRow 3 (some .boolean) :: GT) rmX9_isRow 0 0 2 := cwV 2 ht (goodV wd640 wd641 wd642 wd607 wd643) rfl rfl rfl ⟨rfl, by decide +kernel, by decide +kernel, by decide +kernel⟩ hR
def f_X9_isColumn (x0 : Int32) : Option (Int32) :=
  (f_X9_in x0 0 3).bind fun q1 =>
  if narrow .boolean (.int q1) = .int q1 then
  some q1
  else none
abbrev rmX9_isColumn : Room := { frames := 1, cells := 0, slots := 0, locals := 22 }
set_option maxHeartbeats 4000000 in
set_option maxRecDepth 100000 in
theorem c_X9_isColumn {l : Launch} {g : Gam} {I : Mem} {R : Rem} {P : Pool} {Z : Zed} (x0 : Int32)  {z : Int32} (hf : f_X9_isColumn x0 = some z) : Met l yX9_isColumn (Cond.code yX9_isColumn cX9_isColumn 1 (some .boolean) :: GT) rmX9_isColumn (va_Pc [.int x0] (PW g I R P Z)) (QI g z I R P Z) 0 0 (AA g) := by
  refine aw_ofW (lv0 := [(0, .int x0)]) (by decide) (by exact Nat.le_of_ble_eq_true rfl) (by rfl) (fun p0 e s m args below meth c ls C0 hl hW => ?_)
  have C0 : CX g p0 s m args meth c RX9 cX9_isColumn 1 (some .boolean) := C0
  have hx := C0.1; have hb := C0.2.1; have hown := C0.2.2.2.2.1; have hts := C0.2.2.2.2.2.1; have hKS := C0.2.2.2.2.2.2.1
  unfold f_X9_isColumn at hf
  obtain ⟨H, hH⟩ : ∃ H, H = s.heap := ⟨_, rfl⟩
  obtain ⟨locs, hlc⟩ : ∃ q : List Loc, q = [] := ⟨_, rfl⟩
  rw [show W p0 l e rmX9_isColumn s m args below meth c s.heap [] 0 0 (MQ below (QI g z I R P Z) args s 0 0 (AA g)) (F0 m 0 ls []) = W p0 l e rmX9_isColumn s m args below meth c H locs 0 0 (MQ below (QI g z I R P Z) args s 0 0 (AA g)) (F0 m 0 ls []) by rw [hH, hlc]]
  have hW : Wd g I R P Z s.heap H locs := by rw [hH, hlc]; exact hW
  refine lv_iload_n hx hb dX9_isColumn_0 rfl (lv_at hl 0 rfl) ?_
  refine lv_iconst (v := 0) hx hb dX9_isColumn_1 (by decide) ?_
  refine lv_iconst (v := 3) hx hb dX9_isColumn_2 (by decide) ?_
  obtain ⟨q1, hq1, hf⟩ := bnd hf
  refine aw_cSi (rest := []) C0 hW (c_X9_in x0 0 3  hq1) (cw_X9_62 hts ⟨Nat.le_of_ble_eq_true rfl, Nat.le_of_ble_eq_true rfl⟩) rfl hl.1 rfl (Nat.le_of_ble_eq_true rfl) ⟨Nat.zero_le _, Nat.zero_le _⟩ dX9_isColumn_3 (fun H locs hW => ?_)
  obtain ⟨hnw, hf⟩ := ifn hf
  have hz := Option.some.inj hf
  exact aw_zret C0 hW hnw hz rfl rfl dX9_isColumn_6
theorem cw_X9_135 {Rm : Room} {s : State} {args : Array Value} (ht : ∀ w ∈ GT, w.before args s = true) (hR : rmX9_isColumn.frames + 1 ≤ Rm.frames ∧ 8 + (1 + 11) + rmX9_isColumn.locals ≤ Rm.locals) : CallB Rm s args RX9 135 yX9_isColumn cX9_isColumn 1 (some .boolean) (Cond.code yX9_isColumn cX9_isColumn 1 (some .boolean) :: GT) rmX9_isColumn 0 0 1 ∧ (Cond.static yX9_isColumn).before args s = true := va_cwS 1 ht (goodS wd644 wd645 wd607 wd646) rfl rfl rfl ⟨by decide +kernel, by decide +kernel, by decide +kernel⟩ hR
def f_X9_among_L40 (x1 : Int32) (x2 : Int32) (x3 : Int32) (I : Mem) : Nat → Int32 → Int32 → Option (Int32)
  | 0, _, _ => none
  | n + 1, w4, w5 =>
    (f_X9_many 1 I).bind fun q6 =>
    if q6 ≤ w5 then (
      some w4
    ) else (
      (f_X9_of 0 x1 x2 I).bind fun q7 =>
      (f_X9_of 1 w5 x3 I).bind fun q8 =>
      (f_X9_compared 1 q7 q8).bind fun q9 =>
      if q9 ≤ w4 then (
        f_X9_among_L40 x1 x2 x3 I n w4 (w5 + 1)
      ) else (
        f_X9_among_L40 x1 x2 x3 I n q9 (w5 + 1)
      )
    )
def f_X9_among (x1 : Int32) (x2 : Int32) (x3 : Int32) (I : Mem) : Option (Int32 × Mem) :=
  (f_X9_isRow 0 x1 ((up I 70 7 0))).bind fun q1 =>
  if q1 = 0 then (
    (f_X9_refuses 1 ((up I 70 7 0))).bind fun q2 =>
    some (q2.1, q2.2)
  ) else (
    (f_X9_isColumn x2).bind fun q3 =>
    if q3 = 0 then (
      (f_X9_refuses 1 ((up I 70 7 0))).bind fun q4 =>
      some (q4.1, q4.2)
    ) else (
      (f_X9_isColumn x3).bind fun q5 =>
      if q5 = 0 then (
        (f_X9_refuses 1 ((up I 70 7 0))).bind fun q11 =>
        some (q11.1, q11.2)
      ) else (
        (f_X9_among_L40 x1 x2 x3 ((up I 70 7 0)) fuel 0 0).bind fun q10 =>
        some (q10, (up I 70 7 0))
      )
    )
  )
abbrev rmX9_among : Room := { frames := 3, cells := 0, slots := 0, locals := 64 }
set_option maxHeartbeats 4000000 in
set_option maxRecDepth 100000 in
theorem c_X9_among {l : Launch} {g : Gam} {I : Mem} {R : Rem} {P : Pool} {Z : Zed} (x1 : Int32) (x2 : Int32) (x3 : Int32)  {z : Int32 × Mem} (hf : f_X9_among x1 x2 x3 I = some z) : Met l yX9_among (Cond.code yX9_among cX9_among 7 (some .int) :: GT) rmX9_among (va_Pc [.ref (g.2.2 + 70), .int x1, .int x2, .int x3] (PW g I R P Z)) (QI g z.1 z.2 R P Z) 0 0 (AA g) := by
  refine aw_ofW (lv0 := [(0, .ref (g.2.2 + 70)), (1, .int x1), (2, .int x2), (3, .int x3)]) (by decide) (by exact Nat.le_of_ble_eq_true rfl) (by rfl) (fun p0 e s m args below meth c ls C0 hl hW => ?_)
  have C0 : CX g p0 s m args meth c RX9 cX9_among 7 (some .int) := C0
  have hx := C0.1; have hb := C0.2.1; have hown := C0.2.2.2.2.1; have hts := C0.2.2.2.2.2.1; have hKS := C0.2.2.2.2.2.2.1
  have L40 : ∀ (I : Mem) (n : Nat) (w4 : Int32) (w5 : Int32) (H : Heap) (locs : List Loc) (ls : Array Slot) (o : Int32), f_X9_among_L40 x1 x2 x3 I n w4 w5 = some o → Wd g I R P Z s.heap H locs → lv_has ls 7 [(0, .ref (g.2.2 + 70)), (1, .int x1), (2, .int x2), (3, .int x3), (4, .int w4), (5, .int w5)] → (∀ (H : Heap) (locs : List Loc) (ls : Array Slot), Wd g I R P Z s.heap H locs → lv_has ls 7 [(4, .int o)] → W p0 l e rmX9_among s m args below meth c H locs 0 0 (MQ below (QI g z.1 z.2 R P Z) args s 0 0 (AA g)) (F0 m 93 ls [])) → W p0 l e rmX9_among s m args below meth c H locs 0 0 (MQ below (QI g z.1 z.2 R P Z) args s 0 0 (AA g)) (F0 m 40 ls []) := by
    intro I n
    induction n with
    | zero => intro w4 w5 H locs ls o hf; cases hf
    | succ n ih =>
      intro w4 w5 H locs ls o hf hW hl hK
      rw [f_X9_among_L40] at hf
      refine lv_iload hx hb dX9_among_40 (lv_at hl 5 rfl) ?_
      refine lv_aload_n hx hb dX9_among_42 rfl (lv_at hl 0 rfl) ?_
      refine lv_iconst (v := 1) hx hb dX9_among_43 (by decide) ?_
      obtain ⟨q6, hq6, hf⟩ := bnd hf
      refine aw_cVi (rest := [.int w5]) C0 hW (lv_fix (by decide)) (cel_8 kd70) rfl (c_X9_many 1  hq6) (cw_X9_70 hts ⟨Nat.le_of_ble_eq_true rfl, Nat.le_of_ble_eq_true rfl⟩) rfl hl.1 rfl (Nat.le_of_ble_eq_true rfl) ⟨Nat.zero_le _, Nat.zero_le _⟩ dX9_among_44 (fun H locs hW => ?_)
      refine lv_icmp_ge (tgt := 93) hx hb dX9_among_47 rfl (fun hc => ?_) (fun hc => ?_)
      · have hf := ift hc hf
        have ho := Option.some.inj hf
        subst ho
        exact hK H locs ls hW (lv_sub hl [4] rfl)
      · have hf := iff_ hc hf
        refine lv_iconst (v := 1) hx hb dX9_among_50 (by decide) ?_
        refine lv_aload_n hx hb dX9_among_51 rfl (lv_at hl 0 rfl) ?_
        refine lv_iconst (v := 0) hx hb dX9_among_52 (by decide) ?_
        refine lv_iload_n hx hb dX9_among_53 rfl (lv_at hl 1 rfl) ?_
        refine lv_iload_n hx hb dX9_among_54 rfl (lv_at hl 2 rfl) ?_
        obtain ⟨q7, hq7, hf⟩ := bnd hf
        refine aw_cVi (rest := [.int 1]) C0 hW (lv_fix (by decide)) (cel_8 kd70) rfl (c_X9_of 0 x1 x2  hq7) (cw_X9_74 hts ⟨Nat.le_of_ble_eq_true rfl, Nat.le_of_ble_eq_true rfl⟩) rfl hl.1 rfl (Nat.le_of_ble_eq_true rfl) ⟨Nat.zero_le _, Nat.zero_le _⟩ dX9_among_55 (fun H locs hW => ?_)
        refine lv_aload_n hx hb dX9_among_58 rfl (lv_at hl 0 rfl) ?_
        refine lv_iconst (v := 1) hx hb dX9_among_59 (by decide) ?_
        refine lv_iload hx hb dX9_among_60 (lv_at hl 5 rfl) ?_
        refine lv_iload_n hx hb dX9_among_62 rfl (lv_at hl 3 rfl) ?_
        obtain ⟨q8, hq8, hf⟩ := bnd hf
        refine aw_cVi (rest := [.int q7, .int 1]) C0 hW (lv_fix (by decide)) (cel_8 kd70) rfl (c_X9_of 1 w5 x3  hq8) (cw_X9_74 hts ⟨Nat.le_of_ble_eq_true rfl, Nat.le_of_ble_eq_true rfl⟩) rfl hl.1 rfl (Nat.le_of_ble_eq_true rfl) ⟨Nat.zero_le _, Nat.zero_le _⟩ dX9_among_63 (fun H locs hW => ?_)
        obtain ⟨q9, hq9, hf⟩ := bnd hf
        refine aw_cSi (rest := []) C0 hW (c_X9_compared 1 q7 q8  hq9) (cw_X9_86 hts ⟨Nat.le_of_ble_eq_true rfl, Nat.le_of_ble_eq_true rfl⟩) rfl hl.1 rfl (Nat.le_of_ble_eq_true rfl) ⟨Nat.zero_le _, Nat.zero_le _⟩ dX9_among_66 (fun H locs hW => ?_)
        refine lv_istore (lv' := [(6, .int q9), (0, .ref (g.2.2 + 70)), (1, .int x1), (2, .int x2), (3, .int x3), (4, .int w4), (5, .int w5)]) hx hb dX9_among_69 hl (Nat.le_of_ble_eq_true rfl) rfl (fun ls hl => ?_)
        refine lv_iload hx hb dX9_among_71 (lv_at hl 0 rfl) ?_
        refine lv_iload hx hb dX9_among_73 (lv_at hl 5 rfl) ?_
        refine lv_icmp_le (tgt := 83) hx hb dX9_among_75 rfl (fun hc => ?_) (fun hc => ?_)
        · have hf := ift hc hf
          refine lv_iload hx hb dX9_among_83 (lv_at hl 5 rfl) ?_
          refine lv_istore (lv' := [(4, .int w4), (6, .int q9), (0, .ref (g.2.2 + 70)), (1, .int x1), (2, .int x2), (3, .int x3), (5, .int w5)]) hx hb dX9_among_85 hl (Nat.le_of_ble_eq_true rfl) rfl (fun ls hl => ?_)
          refine lv_iinc (k := 6) (v := w5 + 1) (lv' := [(5, .int (w5 + 1)), (4, .int w4), (6, .int q9), (0, .ref (g.2.2 + 70)), (1, .int x1), (2, .int x2), (3, .int x3)]) hx hb dX9_among_87 hl rfl (congrArg (fun t => w5 + t) (by decide : Int32.ofInt 1 = 1)) (Nat.le_of_ble_eq_true rfl) rfl (fun ls hl => ?_)
          refine lv_goto (tgt := 40) hx hb dX9_among_90 rfl ?_
          exact ih _ _ H locs ls o hf hW (lv_sub hl [3, 4, 5, 6, 1, 0] rfl) hK
        · have hf := iff_ hc hf
          refine lv_iload hx hb dX9_among_78 (lv_at hl 0 rfl) ?_
          refine lv_goto (tgt := 85) hx hb dX9_among_80 rfl ?_
          refine lv_istore (lv' := [(4, .int q9), (6, .int q9), (0, .ref (g.2.2 + 70)), (1, .int x1), (2, .int x2), (3, .int x3), (5, .int w5)]) hx hb dX9_among_85 hl (Nat.le_of_ble_eq_true rfl) rfl (fun ls hl => ?_)
          refine lv_iinc (k := 6) (v := w5 + 1) (lv' := [(5, .int (w5 + 1)), (4, .int q9), (6, .int q9), (0, .ref (g.2.2 + 70)), (1, .int x1), (2, .int x2), (3, .int x3)]) hx hb dX9_among_87 hl rfl (congrArg (fun t => w5 + t) (by decide : Int32.ofInt 1 = 1)) (Nat.le_of_ble_eq_true rfl) rfl (fun ls hl => ?_)
          refine lv_goto (tgt := 40) hx hb dX9_among_90 rfl ?_
          exact ih _ _ H locs ls o hf hW (lv_sub hl [3, 4, 5, 6, 1, 0] rfl) hK
  unfold f_X9_among at hf
  obtain ⟨H, hH⟩ : ∃ H, H = s.heap := ⟨_, rfl⟩
  obtain ⟨locs, hlc⟩ : ∃ q : List Loc, q = [] := ⟨_, rfl⟩
  rw [show W p0 l e rmX9_among s m args below meth c s.heap [] 0 0 (MQ below (QI g z.1 z.2 R P Z) args s 0 0 (AA g)) (F0 m 0 ls []) = W p0 l e rmX9_among s m args below meth c H locs 0 0 (MQ below (QI g z.1 z.2 R P Z) args s 0 0 (AA g)) (F0 m 0 ls []) by rw [hH, hlc]]
  have hW : Wd g I R P Z s.heap H locs := by rw [hH, hlc]; exact hW
  refine lv_aload_n hx hb dX9_among_0 rfl (lv_at hl 0 rfl) ?_
  refine lv_iconst (v := 0) hx hb dX9_among_1 (by decide) ?_
  refine aw_put C0 hW (lv_fix (by decide)) (cel_8 kd70) rfl inG8 tyX9 tyX9_ok nmX9 7 (by decide) wd79 rfl rfl (ty := .int) rfl rfl rfl (Nat.le_of_ble_eq_true rfl) (pu_8_7 kd70) dX9_among_2 (fun H locs hW => ?_)
  refine lv_aload_n hx hb dX9_among_5 rfl (lv_at hl 0 rfl) ?_
  refine lv_iconst (v := 0) hx hb dX9_among_6 (by decide) ?_
  refine lv_iload_n hx hb dX9_among_7 rfl (lv_at hl 1 rfl) ?_
  obtain ⟨q1, hq1, hf⟩ := bnd hf
  refine aw_cVi (rest := []) C0 hW (lv_fix (by decide)) (cel_8 kd70) rfl (c_X9_isRow 0 x1  hq1) (cw_X9_132 hts ⟨Nat.le_of_ble_eq_true rfl, Nat.le_of_ble_eq_true rfl⟩) rfl hl.1 rfl (Nat.le_of_ble_eq_true rfl) ⟨Nat.zero_le _, Nat.zero_le _⟩ dX9_among_8 (fun H locs hW => ?_)
  refine lv_if_eq (tgt := 28) hx hb dX9_among_11 rfl (fun hc => ?_) (fun hc => ?_)
  · have hf := ift hc hf
    refine lv_aload_n hx hb dX9_among_28 rfl (lv_at hl 0 rfl) ?_
    refine lv_iconst (v := 1) hx hb dX9_among_29 (by decide) ?_
    obtain ⟨q2, hq2, hf⟩ := bnd hf
    refine aw_cVi (rest := []) C0 hW (lv_fix (by decide)) (cel_8 kd70) rfl (c_X9_refuses 1  hq2) (cw_X9_119 hts ⟨Nat.le_of_ble_eq_true rfl, Nat.le_of_ble_eq_true rfl⟩) rfl hl.1 rfl (Nat.le_of_ble_eq_true rfl) ⟨Nat.zero_le _, Nat.zero_le _⟩ dX9_among_30 (fun H locs hW => ?_)
    have hz := Option.some.inj hf
    have hzV := congrArg (fun z : Int32 × Mem => z.1) hz
    have hzI := congrArg (fun z : Int32 × Mem => z.2) hz
    exact aw_iret C0 hW hzV hzI rfl dX9_among_33
  · have hf := iff_ hc hf
    refine lv_iload_n hx hb dX9_among_14 rfl (lv_at hl 2 rfl) ?_
    obtain ⟨q3, hq3, hf⟩ := bnd hf
    refine aw_cSi (rest := []) C0 hW (c_X9_isColumn x2  hq3) (cw_X9_135 hts ⟨Nat.le_of_ble_eq_true rfl, Nat.le_of_ble_eq_true rfl⟩) rfl hl.1 rfl (Nat.le_of_ble_eq_true rfl) ⟨Nat.zero_le _, Nat.zero_le _⟩ dX9_among_15 (fun H locs hW => ?_)
    refine lv_if_eq (tgt := 28) hx hb dX9_among_18 rfl (fun hc => ?_) (fun hc => ?_)
    · have hf := ift hc hf
      refine lv_aload_n hx hb dX9_among_28 rfl (lv_at hl 0 rfl) ?_
      refine lv_iconst (v := 1) hx hb dX9_among_29 (by decide) ?_
      obtain ⟨q4, hq4, hf⟩ := bnd hf
      refine aw_cVi (rest := []) C0 hW (lv_fix (by decide)) (cel_8 kd70) rfl (c_X9_refuses 1  hq4) (cw_X9_119 hts ⟨Nat.le_of_ble_eq_true rfl, Nat.le_of_ble_eq_true rfl⟩) rfl hl.1 rfl (Nat.le_of_ble_eq_true rfl) ⟨Nat.zero_le _, Nat.zero_le _⟩ dX9_among_30 (fun H locs hW => ?_)
      have hz := Option.some.inj hf
      have hzV := congrArg (fun z : Int32 × Mem => z.1) hz
      have hzI := congrArg (fun z : Int32 × Mem => z.2) hz
      exact aw_iret C0 hW hzV hzI rfl dX9_among_33
    · have hf := iff_ hc hf
      refine lv_iload_n hx hb dX9_among_21 rfl (lv_at hl 3 rfl) ?_
      obtain ⟨q5, hq5, hf⟩ := bnd hf
      refine aw_cSi (rest := []) C0 hW (c_X9_isColumn x3  hq5) (cw_X9_135 hts ⟨Nat.le_of_ble_eq_true rfl, Nat.le_of_ble_eq_true rfl⟩) rfl hl.1 rfl (Nat.le_of_ble_eq_true rfl) ⟨Nat.zero_le _, Nat.zero_le _⟩ dX9_among_22 (fun H locs hW => ?_)
      refine lv_if_ne (tgt := 34) hx hb dX9_among_25 rfl (fun hc => ?_) (fun hc => ?_)
      · have hf := iff_ hc hf
        refine lv_iconst (v := 0) hx hb dX9_among_34 (by decide) ?_
        refine lv_istore (lv' := [(4, .int 0), (0, .ref (g.2.2 + 70)), (1, .int x1), (2, .int x2), (3, .int x3)]) hx hb dX9_among_35 hl (Nat.le_of_ble_eq_true rfl) rfl (fun ls hl => ?_)
        refine lv_iconst (v := 0) hx hb dX9_among_37 (by decide) ?_
        refine lv_istore (lv' := [(5, .int 0), (4, .int 0), (0, .ref (g.2.2 + 70)), (1, .int x1), (2, .int x2), (3, .int x3)]) hx hb dX9_among_38 hl (Nat.le_of_ble_eq_true rfl) rfl (fun ls hl => ?_)
        obtain ⟨q10, hq10, hf⟩ := bnd hf
        refine L40 ((up I 70 7 0)) fuel 0 0 H locs ls _ hq10 hW (lv_sub hl [2, 3, 4, 5, 1, 0] rfl) (fun H locs ls hW hl => ?_)
        refine lv_iload hx hb dX9_among_93 (lv_at hl 0 rfl) ?_
        have hz := Option.some.inj hf
        have hzV := congrArg (fun z : Int32 × Mem => z.1) hz
        have hzI := congrArg (fun z : Int32 × Mem => z.2) hz
        exact aw_iret C0 hW hzV hzI rfl dX9_among_95
      · have hf := ift hc hf
        refine lv_aload_n hx hb dX9_among_28 rfl (lv_at hl 0 rfl) ?_
        refine lv_iconst (v := 1) hx hb dX9_among_29 (by decide) ?_
        obtain ⟨q11, hq11, hf⟩ := bnd hf
        refine aw_cVi (rest := []) C0 hW (lv_fix (by decide)) (cel_8 kd70) rfl (c_X9_refuses 1  hq11) (cw_X9_119 hts ⟨Nat.le_of_ble_eq_true rfl, Nat.le_of_ble_eq_true rfl⟩) rfl hl.1 rfl (Nat.le_of_ble_eq_true rfl) ⟨Nat.zero_le _, Nat.zero_le _⟩ dX9_among_30 (fun H locs hW => ?_)
        have hz := Option.some.inj hf
        have hzV := congrArg (fun z : Int32 × Mem => z.1) hz
        have hzI := congrArg (fun z : Int32 × Mem => z.2) hz
        exact aw_iret C0 hW hzV hzI rfl dX9_among_33
def f_X9_append (x1 : Int32) (I : Mem) : Option (Int32 × Mem) :=
  (f_X9_in x1 33 126).bind fun q1 =>
  if q1 = 0 then (
    (f_X9_refuses 1 ((up I 70 7 0))).bind fun q4 =>
    some (q4.1, q4.2)
  ) else (
    if ((up I 70 7 0) 70 6) = 60 then (
      (f_X9_refuses 2 ((up I 70 7 0))).bind fun q3 =>
      some (q3.1, q3.2)
    ) else (
      (wr (up I 70 7 0) 75 60 ((up I 70 7 0) 70 6) x1).bind fun I2 =>
      some ((up I2 70 6 ((I2 70 6) + 1)) 70 6, (up I2 70 6 ((I2 70 6) + 1)))
    )
  )
abbrev rmX9_append : Room := { frames := 1, cells := 0, slots := 0, locals := 22 }
set_option maxHeartbeats 4000000 in
set_option maxRecDepth 100000 in
theorem c_X9_append {l : Launch} {g : Gam} {I : Mem} {R : Rem} {P : Pool} {Z : Zed} (x1 : Int32)  {z : Int32 × Mem} (hf : f_X9_append x1 I = some z) : Met l yX9_append (Cond.code yX9_append cX9_append 2 (some .int) :: GT) rmX9_append (va_Pc [.ref (g.2.2 + 70), .int x1] (PW g I R P Z)) (QI g z.1 z.2 R P Z) 0 0 (AA g) := by
  refine aw_ofW (lv0 := [(0, .ref (g.2.2 + 70)), (1, .int x1)]) (by decide) (by exact Nat.le_of_ble_eq_true rfl) (by rfl) (fun p0 e s m args below meth c ls C0 hl hW => ?_)
  have C0 : CX g p0 s m args meth c RX9 cX9_append 2 (some .int) := C0
  have hx := C0.1; have hb := C0.2.1; have hown := C0.2.2.2.2.1; have hts := C0.2.2.2.2.2.1; have hKS := C0.2.2.2.2.2.2.1
  unfold f_X9_append at hf
  obtain ⟨H, hH⟩ : ∃ H, H = s.heap := ⟨_, rfl⟩
  obtain ⟨locs, hlc⟩ : ∃ q : List Loc, q = [] := ⟨_, rfl⟩
  rw [show W p0 l e rmX9_append s m args below meth c s.heap [] 0 0 (MQ below (QI g z.1 z.2 R P Z) args s 0 0 (AA g)) (F0 m 0 ls []) = W p0 l e rmX9_append s m args below meth c H locs 0 0 (MQ below (QI g z.1 z.2 R P Z) args s 0 0 (AA g)) (F0 m 0 ls []) by rw [hH, hlc]]
  have hW : Wd g I R P Z s.heap H locs := by rw [hH, hlc]; exact hW
  refine lv_aload_n hx hb dX9_append_0 rfl (lv_at hl 0 rfl) ?_
  refine lv_iconst (v := 0) hx hb dX9_append_1 (by decide) ?_
  refine aw_put C0 hW (lv_fix (by decide)) (cel_8 kd70) rfl inG8 tyX9 tyX9_ok nmX9 7 (by decide) wd79 rfl rfl (ty := .int) rfl rfl rfl (Nat.le_of_ble_eq_true rfl) (pu_8_7 kd70) dX9_append_2 (fun H locs hW => ?_)
  refine lv_iload_n hx hb dX9_append_5 rfl (lv_at hl 1 rfl) ?_
  refine lv_bipush (v := 33) hx hb dX9_append_6 (by decide) ?_
  refine lv_bipush (v := 126) hx hb dX9_append_8 (by decide) ?_
  obtain ⟨q1, hq1, hf⟩ := bnd hf
  refine aw_cSi (rest := []) C0 hW (c_X9_in x1 33 126  hq1) (cw_X9_62 hts ⟨Nat.le_of_ble_eq_true rfl, Nat.le_of_ble_eq_true rfl⟩) rfl hl.1 rfl (Nat.le_of_ble_eq_true rfl) ⟨Nat.zero_le _, Nat.zero_le _⟩ dX9_append_10 (fun H locs hW => ?_)
  refine lv_if_ne (tgt := 22) hx hb dX9_append_13 rfl (fun hc => ?_) (fun hc => ?_)
  · have hf := iff_ hc hf
    refine lv_aload_n hx hb dX9_append_22 rfl (lv_at hl 0 rfl) ?_
    refine aw_get (v := .int ((up I 70 7 0) 70 6)) C0 hW (lv_fix (by decide)) (cel_8 kd70) rfl inG8 6 (by decide) wd84 rfl rfl dX9_append_23 ?_
    refine lv_bipush (v := 60) hx hb dX9_append_26 (by decide) ?_
    refine lv_icmp_ne (tgt := 37) hx hb dX9_append_28 rfl (fun hc => ?_) (fun hc => ?_)
    · have hf := iff_ hc hf
      refine lv_aload_n hx hb dX9_append_37 rfl (lv_at hl 0 rfl) ?_
      refine aw_get (v := .ref (g.2.2 + 75)) C0 hW (lv_fix (by decide)) (cel_8 kd70) rfl inG8 5 (by decide) wd85 rfl rfl dX9_append_38 ?_
      refine lv_aload_n hx hb dX9_append_41 rfl (lv_at hl 0 rfl) ?_
      refine aw_get (v := .int ((up I 70 7 0) 70 6)) C0 hW (lv_fix (by decide)) (cel_8 kd70) rfl inG8 6 (by decide) wd84 rfl rfl dX9_append_42 ?_
      refine lv_iload_n hx hb dX9_append_45 rfl (lv_at hl 1 rfl) ?_
      obtain ⟨I2, hI2, hf⟩ := bnd hf
      refine aw_iast C0 hW kd75 ln75 hI2 dX9_append_46 (fun H locs hW => ?_)
      refine lv_aload_n hx hb dX9_append_47 rfl (lv_at hl 0 rfl) ?_
      refine lv_dup hx hb dX9_append_48 rfl ?_
      refine aw_get (v := .int (I2 70 6)) C0 hW (lv_fix (by decide)) (cel_8 kd70) rfl inG8 6 (by decide) wd84 rfl rfl dX9_append_49 ?_
      refine lv_iconst (v := 1) hx hb dX9_append_52 (by decide) ?_
      refine lv_iadd hx hb dX9_append_53 ?_
      refine aw_put C0 hW (lv_fix (by decide)) (cel_8 kd70) rfl inG8 tyX9 tyX9_ok nmX9 6 (by decide) wd84 rfl rfl (ty := .int) rfl rfl rfl (Nat.le_of_ble_eq_true rfl) (pu_8_6 kd70) dX9_append_54 (fun H locs hW => ?_)
      refine lv_aload_n hx hb dX9_append_57 rfl (lv_at hl 0 rfl) ?_
      refine aw_get (v := .int ((up I2 70 6 ((I2 70 6) + 1)) 70 6)) C0 hW (lv_fix (by decide)) (cel_8 kd70) rfl inG8 6 (by decide) wd84 rfl rfl dX9_append_58 ?_
      have hz := Option.some.inj hf
      have hzV := congrArg (fun z : Int32 × Mem => z.1) hz
      have hzI := congrArg (fun z : Int32 × Mem => z.2) hz
      exact aw_iret C0 hW hzV hzI rfl dX9_append_61
    · have hf := ift hc hf
      refine lv_aload_n hx hb dX9_append_31 rfl (lv_at hl 0 rfl) ?_
      refine lv_iconst (v := 2) hx hb dX9_append_32 (by decide) ?_
      obtain ⟨q3, hq3, hf⟩ := bnd hf
      refine aw_cVi (rest := []) C0 hW (lv_fix (by decide)) (cel_8 kd70) rfl (c_X9_refuses 2  hq3) (cw_X9_119 hts ⟨Nat.le_of_ble_eq_true rfl, Nat.le_of_ble_eq_true rfl⟩) rfl hl.1 rfl (Nat.le_of_ble_eq_true rfl) ⟨Nat.zero_le _, Nat.zero_le _⟩ dX9_append_33 (fun H locs hW => ?_)
      have hz := Option.some.inj hf
      have hzV := congrArg (fun z : Int32 × Mem => z.1) hz
      have hzI := congrArg (fun z : Int32 × Mem => z.2) hz
      exact aw_iret C0 hW hzV hzI rfl dX9_append_36
  · have hf := ift hc hf
    refine lv_aload_n hx hb dX9_append_16 rfl (lv_at hl 0 rfl) ?_
    refine lv_iconst (v := 1) hx hb dX9_append_17 (by decide) ?_
    obtain ⟨q4, hq4, hf⟩ := bnd hf
    refine aw_cVi (rest := []) C0 hW (lv_fix (by decide)) (cel_8 kd70) rfl (c_X9_refuses 1  hq4) (cw_X9_119 hts ⟨Nat.le_of_ble_eq_true rfl, Nat.le_of_ble_eq_true rfl⟩) rfl hl.1 rfl (Nat.le_of_ble_eq_true rfl) ⟨Nat.zero_le _, Nat.zero_le _⟩ dX9_append_18 (fun H locs hW => ?_)
    have hz := Option.some.inj hf
    have hzV := congrArg (fun z : Int32 × Mem => z.1) hz
    have hzI := congrArg (fun z : Int32 × Mem => z.2) hz
    exact aw_iret C0 hW hzV hzI rfl dX9_append_21
def f_X9_cell (x1 : Int32) (x2 : Int32) (x3 : Int32) (I : Mem) : Option (Int32 × Mem) :=
  (f_X9_isRow x1 x2 ((up I 70 7 0))).bind fun q1 =>
  if q1 = 0 then (
    (f_X9_refuses 1 ((up I 70 7 0))).bind fun q2 =>
    some (q2.1, q2.2)
  ) else (
    (f_X9_isColumn x3).bind fun q3 =>
    if q3 = 0 then (
      (f_X9_refuses 1 ((up I 70 7 0))).bind fun q4 =>
      some (q4.1, q4.2)
    ) else (
      (f_X9_of x1 x2 x3 ((up I 70 7 0))).bind fun q5 =>
      some (q5, (up I 70 7 0))
    )
  )
abbrev rmX9_cell : Room := { frames := 3, cells := 0, slots := 0, locals := 64 }
set_option maxHeartbeats 4000000 in
set_option maxRecDepth 100000 in
theorem c_X9_cell {l : Launch} {g : Gam} {I : Mem} {R : Rem} {P : Pool} {Z : Zed} (x1 : Int32) (x2 : Int32) (x3 : Int32)  {z : Int32 × Mem} (hf : f_X9_cell x1 x2 x3 I = some z) : Met l yX9_cell (Cond.code yX9_cell cX9_cell 4 (some .int) :: GT) rmX9_cell (va_Pc [.ref (g.2.2 + 70), .int x1, .int x2, .int x3] (PW g I R P Z)) (QI g z.1 z.2 R P Z) 0 0 (AA g) := by
  refine aw_ofW (lv0 := [(0, .ref (g.2.2 + 70)), (1, .int x1), (2, .int x2), (3, .int x3)]) (by decide) (by exact Nat.le_of_ble_eq_true rfl) (by rfl) (fun p0 e s m args below meth c ls C0 hl hW => ?_)
  have C0 : CX g p0 s m args meth c RX9 cX9_cell 4 (some .int) := C0
  have hx := C0.1; have hb := C0.2.1; have hown := C0.2.2.2.2.1; have hts := C0.2.2.2.2.2.1; have hKS := C0.2.2.2.2.2.2.1
  unfold f_X9_cell at hf
  obtain ⟨H, hH⟩ : ∃ H, H = s.heap := ⟨_, rfl⟩
  obtain ⟨locs, hlc⟩ : ∃ q : List Loc, q = [] := ⟨_, rfl⟩
  rw [show W p0 l e rmX9_cell s m args below meth c s.heap [] 0 0 (MQ below (QI g z.1 z.2 R P Z) args s 0 0 (AA g)) (F0 m 0 ls []) = W p0 l e rmX9_cell s m args below meth c H locs 0 0 (MQ below (QI g z.1 z.2 R P Z) args s 0 0 (AA g)) (F0 m 0 ls []) by rw [hH, hlc]]
  have hW : Wd g I R P Z s.heap H locs := by rw [hH, hlc]; exact hW
  refine lv_aload_n hx hb dX9_cell_0 rfl (lv_at hl 0 rfl) ?_
  refine lv_iconst (v := 0) hx hb dX9_cell_1 (by decide) ?_
  refine aw_put C0 hW (lv_fix (by decide)) (cel_8 kd70) rfl inG8 tyX9 tyX9_ok nmX9 7 (by decide) wd79 rfl rfl (ty := .int) rfl rfl rfl (Nat.le_of_ble_eq_true rfl) (pu_8_7 kd70) dX9_cell_2 (fun H locs hW => ?_)
  refine lv_aload_n hx hb dX9_cell_5 rfl (lv_at hl 0 rfl) ?_
  refine lv_iload_n hx hb dX9_cell_6 rfl (lv_at hl 1 rfl) ?_
  refine lv_iload_n hx hb dX9_cell_7 rfl (lv_at hl 2 rfl) ?_
  obtain ⟨q1, hq1, hf⟩ := bnd hf
  refine aw_cVi (rest := []) C0 hW (lv_fix (by decide)) (cel_8 kd70) rfl (c_X9_isRow x1 x2  hq1) (cw_X9_132 hts ⟨Nat.le_of_ble_eq_true rfl, Nat.le_of_ble_eq_true rfl⟩) rfl hl.1 rfl (Nat.le_of_ble_eq_true rfl) ⟨Nat.zero_le _, Nat.zero_le _⟩ dX9_cell_8 (fun H locs hW => ?_)
  refine lv_if_eq (tgt := 31) hx hb dX9_cell_11 rfl (fun hc => ?_) (fun hc => ?_)
  · have hf := ift hc hf
    refine lv_aload_n hx hb dX9_cell_31 rfl (lv_at hl 0 rfl) ?_
    refine lv_iconst (v := 1) hx hb dX9_cell_32 (by decide) ?_
    obtain ⟨q2, hq2, hf⟩ := bnd hf
    refine aw_cVi (rest := []) C0 hW (lv_fix (by decide)) (cel_8 kd70) rfl (c_X9_refuses 1  hq2) (cw_X9_119 hts ⟨Nat.le_of_ble_eq_true rfl, Nat.le_of_ble_eq_true rfl⟩) rfl hl.1 rfl (Nat.le_of_ble_eq_true rfl) ⟨Nat.zero_le _, Nat.zero_le _⟩ dX9_cell_33 (fun H locs hW => ?_)
    have hz := Option.some.inj hf
    have hzV := congrArg (fun z : Int32 × Mem => z.1) hz
    have hzI := congrArg (fun z : Int32 × Mem => z.2) hz
    exact aw_iret C0 hW hzV hzI rfl dX9_cell_36
  · have hf := iff_ hc hf
    refine lv_iload_n hx hb dX9_cell_14 rfl (lv_at hl 3 rfl) ?_
    obtain ⟨q3, hq3, hf⟩ := bnd hf
    refine aw_cSi (rest := []) C0 hW (c_X9_isColumn x3  hq3) (cw_X9_135 hts ⟨Nat.le_of_ble_eq_true rfl, Nat.le_of_ble_eq_true rfl⟩) rfl hl.1 rfl (Nat.le_of_ble_eq_true rfl) ⟨Nat.zero_le _, Nat.zero_le _⟩ dX9_cell_15 (fun H locs hW => ?_)
    refine lv_if_eq (tgt := 31) hx hb dX9_cell_18 rfl (fun hc => ?_) (fun hc => ?_)
    · have hf := ift hc hf
      refine lv_aload_n hx hb dX9_cell_31 rfl (lv_at hl 0 rfl) ?_
      refine lv_iconst (v := 1) hx hb dX9_cell_32 (by decide) ?_
      obtain ⟨q4, hq4, hf⟩ := bnd hf
      refine aw_cVi (rest := []) C0 hW (lv_fix (by decide)) (cel_8 kd70) rfl (c_X9_refuses 1  hq4) (cw_X9_119 hts ⟨Nat.le_of_ble_eq_true rfl, Nat.le_of_ble_eq_true rfl⟩) rfl hl.1 rfl (Nat.le_of_ble_eq_true rfl) ⟨Nat.zero_le _, Nat.zero_le _⟩ dX9_cell_33 (fun H locs hW => ?_)
      have hz := Option.some.inj hf
      have hzV := congrArg (fun z : Int32 × Mem => z.1) hz
      have hzI := congrArg (fun z : Int32 × Mem => z.2) hz
      exact aw_iret C0 hW hzV hzI rfl dX9_cell_36
    · have hf := iff_ hc hf
      refine lv_aload_n hx hb dX9_cell_21 rfl (lv_at hl 0 rfl) ?_
      refine lv_iload_n hx hb dX9_cell_22 rfl (lv_at hl 1 rfl) ?_
      refine lv_iload_n hx hb dX9_cell_23 rfl (lv_at hl 2 rfl) ?_
      refine lv_iload_n hx hb dX9_cell_24 rfl (lv_at hl 3 rfl) ?_
      obtain ⟨q5, hq5, hf⟩ := bnd hf
      refine aw_cVi (rest := []) C0 hW (lv_fix (by decide)) (cel_8 kd70) rfl (c_X9_of x1 x2 x3  hq5) (cw_X9_74 hts ⟨Nat.le_of_ble_eq_true rfl, Nat.le_of_ble_eq_true rfl⟩) rfl hl.1 rfl (Nat.le_of_ble_eq_true rfl) ⟨Nat.zero_le _, Nat.zero_le _⟩ dX9_cell_25 (fun H locs hW => ?_)
      refine lv_goto (tgt := 36) hx hb dX9_cell_28 rfl ?_
      have hz := Option.some.inj hf
      have hzV := congrArg (fun z : Int32 × Mem => z.1) hz
      have hzI := congrArg (fun z : Int32 × Mem => z.2) hz
      exact aw_iret C0 hW hzV hzI rfl dX9_cell_36
def f_X9_isSlot (x0 : Int32) : Option (Int32) :=
  (f_X9_in x0 0 5).bind fun q1 =>
  if narrow .boolean (.int q1) = .int q1 then
  some q1
  else none
abbrev rmX9_isSlot : Room := { frames := 1, cells := 0, slots := 0, locals := 22 }
set_option maxHeartbeats 4000000 in
set_option maxRecDepth 100000 in
theorem c_X9_isSlot {l : Launch} {g : Gam} {I : Mem} {R : Rem} {P : Pool} {Z : Zed} (x0 : Int32)  {z : Int32} (hf : f_X9_isSlot x0 = some z) : Met l yX9_isSlot (Cond.code yX9_isSlot cX9_isSlot 1 (some .boolean) :: GT) rmX9_isSlot (va_Pc [.int x0] (PW g I R P Z)) (QI g z I R P Z) 0 0 (AA g) := by
  refine aw_ofW (lv0 := [(0, .int x0)]) (by decide) (by exact Nat.le_of_ble_eq_true rfl) (by rfl) (fun p0 e s m args below meth c ls C0 hl hW => ?_)
  have C0 : CX g p0 s m args meth c RX9 cX9_isSlot 1 (some .boolean) := C0
  have hx := C0.1; have hb := C0.2.1; have hown := C0.2.2.2.2.1; have hts := C0.2.2.2.2.2.1; have hKS := C0.2.2.2.2.2.2.1
  unfold f_X9_isSlot at hf
  obtain ⟨H, hH⟩ : ∃ H, H = s.heap := ⟨_, rfl⟩
  obtain ⟨locs, hlc⟩ : ∃ q : List Loc, q = [] := ⟨_, rfl⟩
  rw [show W p0 l e rmX9_isSlot s m args below meth c s.heap [] 0 0 (MQ below (QI g z I R P Z) args s 0 0 (AA g)) (F0 m 0 ls []) = W p0 l e rmX9_isSlot s m args below meth c H locs 0 0 (MQ below (QI g z I R P Z) args s 0 0 (AA g)) (F0 m 0 ls []) by rw [hH, hlc]]
  have hW : Wd g I R P Z s.heap H locs := by rw [hH, hlc]; exact hW
  refine lv_iload_n hx hb dX9_isSlot_0 rfl (lv_at hl 0 rfl) ?_
  refine lv_iconst (v := 0) hx hb dX9_isSlot_1 (by decide) ?_
  refine lv_iconst (v := 5) hx hb dX9_isSlot_2 (by decide) ?_
  obtain ⟨q1, hq1, hf⟩ := bnd hf
  refine aw_cSi (rest := []) C0 hW (c_X9_in x0 0 5  hq1) (cw_X9_62 hts ⟨Nat.le_of_ble_eq_true rfl, Nat.le_of_ble_eq_true rfl⟩) rfl hl.1 rfl (Nat.le_of_ble_eq_true rfl) ⟨Nat.zero_le _, Nat.zero_le _⟩ dX9_isSlot_3 (fun H locs hW => ?_)
  obtain ⟨hnw, hf⟩ := ifn hf
  have hz := Option.some.inj hf
  exact aw_zret C0 hW hnw hz rfl rfl dX9_isSlot_6
theorem cw_X9_147 {Rm : Room} {s : State} {args : Array Value} (ht : ∀ w ∈ GT, w.before args s = true) (hR : rmX9_isSlot.frames + 1 ≤ Rm.frames ∧ 8 + (1 + 11) + rmX9_isSlot.locals ≤ Rm.locals) : CallB Rm s args RX9 147 yX9_isSlot cX9_isSlot 1 (some .boolean) (Cond.code yX9_isSlot cX9_isSlot 1 (some .boolean) :: GT) rmX9_isSlot 0 0 1 ∧ (Cond.static yX9_isSlot).before args s = true := va_cwS 1 ht (goodS wd655 wd656 wd607 wd657) rfl rfl rfl ⟨by decide +kernel, by decide +kernel, by decide +kernel⟩ hR
def f_X9_forAll_L9 (x1 : Int32) (x2 : Int32) (x3 : Int32) : Nat → Int32 → Int32 → Int32 → Mem → Option (Int32 × Int32 × Mem)
  | 0, _, _, _, _ => none
  | n + 1, w4, w5, w6, I =>
    if 10000 ≤ w6 then (
      some (w4, w5, I)
    ) else (
      ((
        if x2 < 0 then (
          some I
        ) else (
          (wr I 76 4 x2 (w6 - w6 / 100 * 100)).bind fun I2 =>
          some I2
        )
      ) : Option (Mem)).bind fun q1 =>
      ((
        if x3 < 0 then (
          some q1
        ) else (
          (wr q1 76 4 x3 (w6 / 100)).bind fun I4 =>
          some I4
        )
      ) : Option (Mem)).bind fun q3 =>
      ((
        if 0 ≤ x2 then (
          if 0 ≤ x3 then (
            some 1
          ) else (
            if (w6 / 100) = 0 then (
              some 1
            ) else (
              some 0
            )
          )
        ) else (
          if (w6 - w6 / 100 * 100) = 0 then (
            if 0 ≤ x3 then (
              some 1
            ) else (
              if (w6 / 100) = 0 then (
                some 1
              ) else (
                some 0
              )
            )
          ) else (
            some 0
          )
        )
      ) : Option (Int32)).bind fun q5 =>
      ((
        if q5 = 0 then (
          some (1, q3)
        ) else (
          (f_X9_truthOf x1 q3).bind fun q7 =>
          some (q7.1, q7.2)
        )
      ) : Option (Int32 × Mem)).bind fun q6 =>
      ((
        if q5 = 0 then (
          some 0
        ) else (
          if q6.1 = 2 then (
            some 1
          ) else (
            some 0
          )
        )
      ) : Option (Int32)).bind fun q8 =>
      if q5 = 0 then (
        f_X9_forAll_L9 x1 x2 x3 n (w4 ||| q8) (w5 ||| 0) (w6 + 1) q6.2
      ) else (
        if q6.1 = 0 then (
          f_X9_forAll_L9 x1 x2 x3 n (w4 ||| q8) (w5 ||| 1) (w6 + 1) q6.2
        ) else (
          f_X9_forAll_L9 x1 x2 x3 n (w4 ||| q8) (w5 ||| 0) (w6 + 1) q6.2
        )
      )
    )
def f_X9_forAll (x1 : Int32) (x2 : Int32) (x3 : Int32) (I : Mem) : Option (Int32 × Mem) :=
  (f_X9_forAll_L9 x1 x2 x3 fuel 0 0 0 I).bind fun q9 =>
  if (q9.1 + q9.2.1) = 2 then (
    some (1, q9.2.2)
  ) else (
    if q9.1 = 1 then (
      some (2, q9.2.2)
    ) else (
      some (0, q9.2.2)
    )
  )
abbrev rmX9_forAll : Room := { frames := 3, cells := 0, slots := 0, locals := 69 }
set_option maxHeartbeats 4000000 in
set_option maxRecDepth 100000 in
theorem c_X9_forAll {l : Launch} {g : Gam} {I : Mem} {R : Rem} {P : Pool} {Z : Zed} (x1 : Int32) (x2 : Int32) (x3 : Int32)  {z : Int32 × Mem} (hf : f_X9_forAll x1 x2 x3 I = some z) : Met l yX9_forAll (Cond.code yX9_forAll cX9_forAll 9 (some .int) :: GT) rmX9_forAll (va_Pc [.ref (g.2.2 + 70), .int x1, .int x2, .int x3] (PW g I R P Z)) (QI g z.1 z.2 R P Z) 0 0 (AA g) := by
  refine aw_ofW (lv0 := [(0, .ref (g.2.2 + 70)), (1, .int x1), (2, .int x2), (3, .int x3)]) (by decide) (by exact Nat.le_of_ble_eq_true rfl) (by rfl) (fun p0 e s m args below meth c ls C0 hl hW => ?_)
  have C0 : CX g p0 s m args meth c RX9 cX9_forAll 9 (some .int) := C0
  have hx := C0.1; have hb := C0.2.1; have hown := C0.2.2.2.2.1; have hts := C0.2.2.2.2.2.1; have hKS := C0.2.2.2.2.2.2.1
  have L9 : ∀ (n : Nat) (w4 : Int32) (w5 : Int32) (w6 : Int32) (I : Mem) (H : Heap) (locs : List Loc) (ls : Array Slot) (o : Int32 × Int32 × Mem), f_X9_forAll_L9 x1 x2 x3 n w4 w5 w6 I = some o → Wd g I R P Z s.heap H locs → lv_has ls 9 [(0, .ref (g.2.2 + 70)), (1, .int x1), (2, .int x2), (3, .int x3), (4, .int w4), (5, .int w5), (6, .int w6)] → (∀ (H : Heap) (locs : List Loc) (ls : Array Slot), Wd g o.2.2 R P Z s.heap H locs → lv_has ls 9 [(4, .int o.1), (5, .int o.2.1)] → W p0 l e rmX9_forAll s m args below meth c H locs 0 0 (MQ below (QI g z.1 z.2 R P Z) args s 0 0 (AA g)) (F0 m 141 ls [])) → W p0 l e rmX9_forAll s m args below meth c H locs 0 0 (MQ below (QI g z.1 z.2 R P Z) args s 0 0 (AA g)) (F0 m 9 ls []) := by
    intro n
    induction n with
    | zero => intro w4 w5 w6 I H locs ls o hf; cases hf
    | succ n ih =>
      intro w4 w5 w6 I H locs ls o hf hW hl hK
      rw [f_X9_forAll_L9] at hf
      refine lv_iload hx hb dX9_forAll_9 (lv_at hl 6 rfl) ?_
      refine lv_sipush (v := 10000) hx hb dX9_forAll_11 (by decide) ?_
      refine lv_icmp_ge (tgt := 141) hx hb dX9_forAll_14 rfl (fun hc => ?_) (fun hc => ?_)
      · have hf := ift hc hf
        have ho := Option.some.inj hf
        subst ho
        exact hK H locs ls hW (lv_sub hl [4, 5] rfl)
      · have hf := iff_ hc hf
        refine lv_iload_n hx hb dX9_forAll_17 rfl (lv_at hl 2 rfl) ?_
        obtain ⟨q1, hq1, hf⟩ := bnd hf
        have J32_q1 : ∀ (H : Heap) (locs : List Loc) (ls : Array Slot), Wd g q1 R P Z s.heap H locs → lv_has ls 9 [(0, .ref (g.2.2 + 70)), (1, .int x1), (2, .int x2), (3, .int x3), (4, .int w4), (5, .int w5), (6, .int w6)] → W p0 l e rmX9_forAll s m args below meth c H locs 0 0 (MQ below (QI g z.1 z.2 R P Z) args s 0 0 (AA g)) (F0 m 32 ls ([])) := by
          intro H locs ls hW hl
          refine lv_iload_n hx hb dX9_forAll_32 rfl (lv_at hl 3 rfl) ?_
          obtain ⟨q3, hq3, hf⟩ := bnd hf
          have J47_q3 : ∀ (H : Heap) (locs : List Loc) (ls : Array Slot), Wd g q3 R P Z s.heap H locs → lv_has ls 9 [(0, .ref (g.2.2 + 70)), (1, .int x1), (2, .int x2), (3, .int x3), (4, .int w4), (5, .int w5), (6, .int w6)] → W p0 l e rmX9_forAll s m args below meth c H locs 0 0 (MQ below (QI g z.1 z.2 R P Z) args s 0 0 (AA g)) (F0 m 47 ls ([])) := by
            intro H locs ls hW hl
            refine lv_iload_n hx hb dX9_forAll_47 rfl (lv_at hl 2 rfl) ?_
            obtain ⟨q5, hq5, hf⟩ := bnd hf
            have J76_q5 : ∀ (H : Heap) (locs : List Loc) (ls : Array Slot), Wd g q3 R P Z s.heap H locs → lv_has ls 9 [(0, .ref (g.2.2 + 70)), (1, .int x1), (2, .int x2), (3, .int x3), (4, .int w4), (5, .int w5), (6, .int w6)] → W p0 l e rmX9_forAll s m args below meth c H locs 0 0 (MQ below (QI g z.1 z.2 R P Z) args s 0 0 (AA g)) (F0 m 76 ls ([.int q5])) := by
              intro H locs ls hW hl
              refine lv_istore (lv' := [(7, .int q5), (0, .ref (g.2.2 + 70)), (1, .int x1), (2, .int x2), (3, .int x3), (4, .int w4), (5, .int w5), (6, .int w6)]) hx hb dX9_forAll_76 hl (Nat.le_of_ble_eq_true rfl) rfl (fun ls hl => ?_)
              refine lv_iload hx hb dX9_forAll_78 (lv_at hl 0 rfl) ?_
              obtain ⟨q6, hq6, hf⟩ := bnd hf
              have J92_q6 : ∀ (H : Heap) (locs : List Loc) (ls : Array Slot), Wd g q6.2 R P Z s.heap H locs → lv_has ls 9 [(0, .ref (g.2.2 + 70)), (1, .int x1), (2, .int x2), (3, .int x3), (4, .int w4), (5, .int w5), (6, .int w6), (7, .int q5)] → W p0 l e rmX9_forAll s m args below meth c H locs 0 0 (MQ below (QI g z.1 z.2 R P Z) args s 0 0 (AA g)) (F0 m 92 ls ([.int q6.1])) := by
                intro H locs ls hW hl
                refine lv_istore (lv' := [(8, .int q6.1), (0, .ref (g.2.2 + 70)), (1, .int x1), (2, .int x2), (3, .int x3), (4, .int w4), (5, .int w5), (6, .int w6), (7, .int q5)]) hx hb dX9_forAll_92 hl (Nat.le_of_ble_eq_true rfl) rfl (fun ls hl => ?_)
                refine lv_iload hx hb dX9_forAll_94 (lv_at hl 5 rfl) ?_
                refine lv_iload hx hb dX9_forAll_96 (lv_at hl 8 rfl) ?_
                obtain ⟨q8, hq8, hf⟩ := bnd hf
                have J112_q8 : ∀ (H : Heap) (locs : List Loc) (ls : Array Slot), Wd g q6.2 R P Z s.heap H locs → lv_has ls 9 [(0, .ref (g.2.2 + 70)), (1, .int x1), (2, .int x2), (3, .int x3), (5, .int w5), (6, .int w6), (7, .int q5), (8, .int q6.1)] → W p0 l e rmX9_forAll s m args below meth c H locs 0 0 (MQ below (QI g z.1 z.2 R P Z) args s 0 0 (AA g)) (F0 m 112 ls ([.int q8, .int w4])) := by
                  intro H locs ls hW hl
                  refine lv_ior hx hb dX9_forAll_112 ?_
                  refine lv_istore (lv' := [(4, .int (w4 ||| q8)), (0, .ref (g.2.2 + 70)), (1, .int x1), (2, .int x2), (3, .int x3), (5, .int w5), (6, .int w6), (7, .int q5), (8, .int q6.1)]) hx hb dX9_forAll_113 hl (Nat.le_of_ble_eq_true rfl) rfl (fun ls hl => ?_)
                  refine lv_iload hx hb dX9_forAll_115 (lv_at hl 5 rfl) ?_
                  refine lv_iload hx hb dX9_forAll_117 (lv_at hl 7 rfl) ?_
                  refine lv_if_eq (tgt := 131) hx hb dX9_forAll_119 rfl (fun hc => ?_) (fun hc => ?_)
                  · have hf := ift hc hf
                    refine lv_iconst (v := 0) hx hb dX9_forAll_131 (by decide) ?_
                    refine lv_ior hx hb dX9_forAll_132 ?_
                    refine lv_istore (lv' := [(5, .int (w5 ||| 0)), (4, .int (w4 ||| q8)), (0, .ref (g.2.2 + 70)), (1, .int x1), (2, .int x2), (3, .int x3), (6, .int w6), (7, .int q5), (8, .int q6.1)]) hx hb dX9_forAll_133 hl (Nat.le_of_ble_eq_true rfl) rfl (fun ls hl => ?_)
                    refine lv_iinc (k := 6) (v := w6 + 1) (lv' := [(6, .int (w6 + 1)), (5, .int (w5 ||| 0)), (4, .int (w4 ||| q8)), (0, .ref (g.2.2 + 70)), (1, .int x1), (2, .int x2), (3, .int x3), (7, .int q5), (8, .int q6.1)]) hx hb dX9_forAll_135 hl rfl (congrArg (fun t => w6 + t) (by decide : Int32.ofInt 1 = 1)) (Nat.le_of_ble_eq_true rfl) rfl (fun ls hl => ?_)
                    refine lv_goto (tgt := 9) hx hb dX9_forAll_138 rfl ?_
                    exact ih _ _ _ _ H locs ls o hf hW (lv_sub hl [3, 4, 5, 6, 2, 1, 0] rfl) hK
                  · have hf := iff_ hc hf
                    refine lv_iload hx hb dX9_forAll_122 (lv_at hl 8 rfl) ?_
                    refine lv_if_ne (tgt := 131) hx hb dX9_forAll_124 rfl (fun hc => ?_) (fun hc => ?_)
                    · have hf := iff_ hc hf
                      refine lv_iconst (v := 0) hx hb dX9_forAll_131 (by decide) ?_
                      refine lv_ior hx hb dX9_forAll_132 ?_
                      refine lv_istore (lv' := [(5, .int (w5 ||| 0)), (4, .int (w4 ||| q8)), (0, .ref (g.2.2 + 70)), (1, .int x1), (2, .int x2), (3, .int x3), (6, .int w6), (7, .int q5), (8, .int q6.1)]) hx hb dX9_forAll_133 hl (Nat.le_of_ble_eq_true rfl) rfl (fun ls hl => ?_)
                      refine lv_iinc (k := 6) (v := w6 + 1) (lv' := [(6, .int (w6 + 1)), (5, .int (w5 ||| 0)), (4, .int (w4 ||| q8)), (0, .ref (g.2.2 + 70)), (1, .int x1), (2, .int x2), (3, .int x3), (7, .int q5), (8, .int q6.1)]) hx hb dX9_forAll_135 hl rfl (congrArg (fun t => w6 + t) (by decide : Int32.ofInt 1 = 1)) (Nat.le_of_ble_eq_true rfl) rfl (fun ls hl => ?_)
                      refine lv_goto (tgt := 9) hx hb dX9_forAll_138 rfl ?_
                      exact ih _ _ _ _ H locs ls o hf hW (lv_sub hl [3, 4, 5, 6, 2, 1, 0] rfl) hK
                    · have hf := ift hc hf
                      refine lv_iconst (v := 1) hx hb dX9_forAll_127 (by decide) ?_
                      refine lv_goto (tgt := 132) hx hb dX9_forAll_128 rfl ?_
                      refine lv_ior hx hb dX9_forAll_132 ?_
                      refine lv_istore (lv' := [(5, .int (w5 ||| 1)), (4, .int (w4 ||| q8)), (0, .ref (g.2.2 + 70)), (1, .int x1), (2, .int x2), (3, .int x3), (6, .int w6), (7, .int q5), (8, .int q6.1)]) hx hb dX9_forAll_133 hl (Nat.le_of_ble_eq_true rfl) rfl (fun ls hl => ?_)
                      refine lv_iinc (k := 6) (v := w6 + 1) (lv' := [(6, .int (w6 + 1)), (5, .int (w5 ||| 1)), (4, .int (w4 ||| q8)), (0, .ref (g.2.2 + 70)), (1, .int x1), (2, .int x2), (3, .int x3), (7, .int q5), (8, .int q6.1)]) hx hb dX9_forAll_135 hl rfl (congrArg (fun t => w6 + t) (by decide : Int32.ofInt 1 = 1)) (Nat.le_of_ble_eq_true rfl) rfl (fun ls hl => ?_)
                      refine lv_goto (tgt := 9) hx hb dX9_forAll_138 rfl ?_
                      exact ih _ _ _ _ H locs ls o hf hW (lv_sub hl [3, 4, 5, 6, 2, 1, 0] rfl) hK
                have hf := hq8
                refine lv_if_eq (tgt := 111) hx hb dX9_forAll_98 rfl (fun hc => ?_) (fun hc => ?_)
                · have hf := ift hc hf
                  refine lv_iconst (v := 0) hx hb dX9_forAll_111 (by decide) ?_
                  have ho := Option.some.inj hf
                  subst ho
                  exact J112_q8 H locs ls hW (lv_sub hl [1, 2, 3, 4, 6, 7, 8, 0] rfl)
                · have hf := iff_ hc hf
                  refine lv_iload hx hb dX9_forAll_101 (lv_at hl 0 rfl) ?_
                  refine lv_iconst (v := 2) hx hb dX9_forAll_103 (by decide) ?_
                  refine lv_icmp_ne (tgt := 111) hx hb dX9_forAll_104 rfl (fun hc => ?_) (fun hc => ?_)
                  · have hf := iff_ hc hf
                    refine lv_iconst (v := 0) hx hb dX9_forAll_111 (by decide) ?_
                    have ho := Option.some.inj hf
                    subst ho
                    exact J112_q8 H locs ls hW (lv_sub hl [1, 2, 3, 4, 6, 7, 8, 0] rfl)
                  · have hf := ift hc hf
                    refine lv_iconst (v := 1) hx hb dX9_forAll_107 (by decide) ?_
                    refine lv_goto (tgt := 112) hx hb dX9_forAll_108 rfl ?_
                    have ho := Option.some.inj hf
                    subst ho
                    exact J112_q8 H locs ls hW (lv_sub hl [1, 2, 3, 4, 6, 7, 8, 0] rfl)
              have hf := hq6
              refine lv_if_eq (tgt := 91) hx hb dX9_forAll_80 rfl (fun hc => ?_) (fun hc => ?_)
              · have hf := ift hc hf
                refine lv_iconst (v := 1) hx hb dX9_forAll_91 (by decide) ?_
                have ho := Option.some.inj hf
                subst ho
                exact J92_q6 H locs ls hW (lv_sub hl [1, 2, 3, 4, 5, 6, 7, 0] rfl)
              · have hf := iff_ hc hf
                refine lv_aload_n hx hb dX9_forAll_83 rfl (lv_at hl 1 rfl) ?_
                refine lv_iload_n hx hb dX9_forAll_84 rfl (lv_at hl 2 rfl) ?_
                obtain ⟨q7, hq7, hf⟩ := bnd hf
                refine aw_cVi (rest := []) C0 hW (lv_fix (by decide)) (cel_8 kd70) rfl (c_X9_truthOf x1  hq7) (cw_X9_113 hts ⟨Nat.le_of_ble_eq_true rfl, Nat.le_of_ble_eq_true rfl⟩) rfl hl.1 rfl (Nat.le_of_ble_eq_true rfl) ⟨Nat.zero_le _, Nat.zero_le _⟩ dX9_forAll_85 (fun H locs hW => ?_)
                refine lv_goto (tgt := 92) hx hb dX9_forAll_88 rfl ?_
                have ho := Option.some.inj hf
                subst ho
                exact J92_q6 H locs ls hW (lv_sub hl [1, 2, 3, 4, 5, 6, 7, 0] rfl)
            have hf := hq5
            refine lv_if_ge (tgt := 59) hx hb dX9_forAll_48 rfl (fun hc => ?_) (fun hc => ?_)
            · have hf := ift hc hf
              refine lv_iload_n hx hb dX9_forAll_59 rfl (lv_at hl 3 rfl) ?_
              refine lv_if_ge (tgt := 71) hx hb dX9_forAll_60 rfl (fun hc => ?_) (fun hc => ?_)
              · have hf := ift hc hf
                refine lv_iconst (v := 1) hx hb dX9_forAll_71 (by decide) ?_
                refine lv_goto (tgt := 76) hx hb dX9_forAll_72 rfl ?_
                have ho := Option.some.inj hf
                subst ho
                exact J76_q5 H locs ls hW (lv_sub hl [0, 1, 2, 3, 4, 5, 6] rfl)
              · have hf := iff_ hc hf
                refine lv_iload hx hb dX9_forAll_63 (lv_at hl 6 rfl) ?_
                refine lv_bipush (v := 100) hx hb dX9_forAll_65 (by decide) ?_
                refine lv_idiv hx hb dX9_forAll_67 (by decide) ?_
                refine lv_if_ne (tgt := 75) hx hb dX9_forAll_68 rfl (fun hc => ?_) (fun hc => ?_)
                · have hf := iff_ hc hf
                  refine lv_iconst (v := 0) hx hb dX9_forAll_75 (by decide) ?_
                  have ho := Option.some.inj hf
                  subst ho
                  exact J76_q5 H locs ls hW (lv_sub hl [0, 1, 2, 3, 4, 5, 6] rfl)
                · have hf := ift hc hf
                  refine lv_iconst (v := 1) hx hb dX9_forAll_71 (by decide) ?_
                  refine lv_goto (tgt := 76) hx hb dX9_forAll_72 rfl ?_
                  have ho := Option.some.inj hf
                  subst ho
                  exact J76_q5 H locs ls hW (lv_sub hl [0, 1, 2, 3, 4, 5, 6] rfl)
            · have hf := iff_ hc hf
              refine lv_iload hx hb dX9_forAll_51 (lv_at hl 6 rfl) ?_
              refine lv_bipush (v := 100) hx hb dX9_forAll_53 (by decide) ?_
              refine lv_irem hx hb dX9_forAll_55 (by decide) ?_
              refine lv_if_ne (tgt := 75) hx hb dX9_forAll_56 rfl (fun hc => ?_) (fun hc => ?_)
              · have hf := iff_ hc hf
                refine lv_iconst (v := 0) hx hb dX9_forAll_75 (by decide) ?_
                have ho := Option.some.inj hf
                subst ho
                exact J76_q5 H locs ls hW (lv_sub hl [0, 1, 2, 3, 4, 5, 6] rfl)
              · have hf := ift hc hf
                refine lv_iload_n hx hb dX9_forAll_59 rfl (lv_at hl 3 rfl) ?_
                refine lv_if_ge (tgt := 71) hx hb dX9_forAll_60 rfl (fun hc => ?_) (fun hc => ?_)
                · have hf := ift hc hf
                  refine lv_iconst (v := 1) hx hb dX9_forAll_71 (by decide) ?_
                  refine lv_goto (tgt := 76) hx hb dX9_forAll_72 rfl ?_
                  have ho := Option.some.inj hf
                  subst ho
                  exact J76_q5 H locs ls hW (lv_sub hl [0, 1, 2, 3, 4, 5, 6] rfl)
                · have hf := iff_ hc hf
                  refine lv_iload hx hb dX9_forAll_63 (lv_at hl 6 rfl) ?_
                  refine lv_bipush (v := 100) hx hb dX9_forAll_65 (by decide) ?_
                  refine lv_idiv hx hb dX9_forAll_67 (by decide) ?_
                  refine lv_if_ne (tgt := 75) hx hb dX9_forAll_68 rfl (fun hc => ?_) (fun hc => ?_)
                  · have hf := iff_ hc hf
                    refine lv_iconst (v := 0) hx hb dX9_forAll_75 (by decide) ?_
                    have ho := Option.some.inj hf
                    subst ho
                    exact J76_q5 H locs ls hW (lv_sub hl [0, 1, 2, 3, 4, 5, 6] rfl)
                  · have hf := ift hc hf
                    refine lv_iconst (v := 1) hx hb dX9_forAll_71 (by decide) ?_
                    refine lv_goto (tgt := 76) hx hb dX9_forAll_72 rfl ?_
                    have ho := Option.some.inj hf
                    subst ho
                    exact J76_q5 H locs ls hW (lv_sub hl [0, 1, 2, 3, 4, 5, 6] rfl)
          have hf := hq3
          refine lv_if_lt (tgt := 47) hx hb dX9_forAll_33 rfl (fun hc => ?_) (fun hc => ?_)
          · have hf := ift hc hf
            have ho := Option.some.inj hf
            subst ho
            exact J47_q3 H locs ls hW (lv_sub hl [0, 1, 2, 3, 4, 5, 6] rfl)
          · have hf := iff_ hc hf
            refine lv_aload_n hx hb dX9_forAll_36 rfl (lv_at hl 0 rfl) ?_
            refine aw_get (v := .ref (g.2.2 + 76)) C0 hW (lv_fix (by decide)) (cel_8 kd70) rfl inG8 8 (by decide) wd82 rfl rfl dX9_forAll_37 ?_
            refine lv_iload_n hx hb dX9_forAll_40 rfl (lv_at hl 3 rfl) ?_
            refine lv_iload hx hb dX9_forAll_41 (lv_at hl 6 rfl) ?_
            refine lv_bipush (v := 100) hx hb dX9_forAll_43 (by decide) ?_
            refine lv_idiv hx hb dX9_forAll_45 (by decide) ?_
            obtain ⟨I4, hI4, hf⟩ := bnd hf
            refine aw_iast C0 hW kd76 ln76 hI4 dX9_forAll_46 (fun H locs hW => ?_)
            have ho := Option.some.inj hf
            subst ho
            exact J47_q3 H locs ls hW (lv_sub hl [0, 1, 2, 3, 4, 5, 6] rfl)
        have hf := hq1
        refine lv_if_lt (tgt := 32) hx hb dX9_forAll_18 rfl (fun hc => ?_) (fun hc => ?_)
        · have hf := ift hc hf
          have ho := Option.some.inj hf
          subst ho
          exact J32_q1 H locs ls hW (lv_sub hl [0, 1, 2, 3, 4, 5, 6] rfl)
        · have hf := iff_ hc hf
          refine lv_aload_n hx hb dX9_forAll_21 rfl (lv_at hl 0 rfl) ?_
          refine aw_get (v := .ref (g.2.2 + 76)) C0 hW (lv_fix (by decide)) (cel_8 kd70) rfl inG8 8 (by decide) wd82 rfl rfl dX9_forAll_22 ?_
          refine lv_iload_n hx hb dX9_forAll_25 rfl (lv_at hl 2 rfl) ?_
          refine lv_iload hx hb dX9_forAll_26 (lv_at hl 6 rfl) ?_
          refine lv_bipush (v := 100) hx hb dX9_forAll_28 (by decide) ?_
          refine lv_irem hx hb dX9_forAll_30 (by decide) ?_
          obtain ⟨I2, hI2, hf⟩ := bnd hf
          refine aw_iast C0 hW kd76 ln76 hI2 dX9_forAll_31 (fun H locs hW => ?_)
          have ho := Option.some.inj hf
          subst ho
          exact J32_q1 H locs ls hW (lv_sub hl [0, 1, 2, 3, 4, 5, 6] rfl)
  unfold f_X9_forAll at hf
  obtain ⟨H, hH⟩ : ∃ H, H = s.heap := ⟨_, rfl⟩
  obtain ⟨locs, hlc⟩ : ∃ q : List Loc, q = [] := ⟨_, rfl⟩
  rw [show W p0 l e rmX9_forAll s m args below meth c s.heap [] 0 0 (MQ below (QI g z.1 z.2 R P Z) args s 0 0 (AA g)) (F0 m 0 ls []) = W p0 l e rmX9_forAll s m args below meth c H locs 0 0 (MQ below (QI g z.1 z.2 R P Z) args s 0 0 (AA g)) (F0 m 0 ls []) by rw [hH, hlc]]
  have hW : Wd g I R P Z s.heap H locs := by rw [hH, hlc]; exact hW
  refine lv_iconst (v := 0) hx hb dX9_forAll_0 (by decide) ?_
  refine lv_istore (lv' := [(4, .int 0), (0, .ref (g.2.2 + 70)), (1, .int x1), (2, .int x2), (3, .int x3)]) hx hb dX9_forAll_1 hl (Nat.le_of_ble_eq_true rfl) rfl (fun ls hl => ?_)
  refine lv_iconst (v := 0) hx hb dX9_forAll_3 (by decide) ?_
  refine lv_istore (lv' := [(5, .int 0), (4, .int 0), (0, .ref (g.2.2 + 70)), (1, .int x1), (2, .int x2), (3, .int x3)]) hx hb dX9_forAll_4 hl (Nat.le_of_ble_eq_true rfl) rfl (fun ls hl => ?_)
  refine lv_iconst (v := 0) hx hb dX9_forAll_6 (by decide) ?_
  refine lv_istore (lv' := [(6, .int 0), (5, .int 0), (4, .int 0), (0, .ref (g.2.2 + 70)), (1, .int x1), (2, .int x2), (3, .int x3)]) hx hb dX9_forAll_7 hl (Nat.le_of_ble_eq_true rfl) rfl (fun ls hl => ?_)
  obtain ⟨q9, hq9, hf⟩ := bnd hf
  refine L9  fuel 0 0 0 I H locs ls _ hq9 hW (lv_sub hl [3, 4, 5, 6, 2, 1, 0] rfl) (fun H locs ls hW hl => ?_)
  refine lv_iload hx hb dX9_forAll_141 (lv_at hl 0 rfl) ?_
  refine lv_iload hx hb dX9_forAll_143 (lv_at hl 1 rfl) ?_
  refine lv_iadd hx hb dX9_forAll_145 ?_
  refine lv_iconst (v := 2) hx hb dX9_forAll_146 (by decide) ?_
  refine lv_icmp_ne (tgt := 154) hx hb dX9_forAll_147 rfl (fun hc => ?_) (fun hc => ?_)
  · have hf := iff_ hc hf
    refine lv_iload hx hb dX9_forAll_154 (lv_at hl 0 rfl) ?_
    refine lv_iconst (v := 1) hx hb dX9_forAll_156 (by decide) ?_
    refine lv_icmp_ne (tgt := 164) hx hb dX9_forAll_157 rfl (fun hc => ?_) (fun hc => ?_)
    · have hf := iff_ hc hf
      refine lv_iconst (v := 0) hx hb dX9_forAll_164 (by decide) ?_
      have hz := Option.some.inj hf
      have hzV := congrArg (fun z : Int32 × Mem => z.1) hz
      have hzI := congrArg (fun z : Int32 × Mem => z.2) hz
      exact aw_iret C0 hW hzV hzI rfl dX9_forAll_165
    · have hf := ift hc hf
      refine lv_iconst (v := 2) hx hb dX9_forAll_160 (by decide) ?_
      refine lv_goto (tgt := 165) hx hb dX9_forAll_161 rfl ?_
      have hz := Option.some.inj hf
      have hzV := congrArg (fun z : Int32 × Mem => z.1) hz
      have hzI := congrArg (fun z : Int32 × Mem => z.2) hz
      exact aw_iret C0 hW hzV hzI rfl dX9_forAll_165
  · have hf := ift hc hf
    refine lv_iconst (v := 1) hx hb dX9_forAll_150 (by decide) ?_
    refine lv_goto (tgt := 165) hx hb dX9_forAll_151 rfl ?_
    have hz := Option.some.inj hf
    have hzV := congrArg (fun z : Int32 × Mem => z.1) hz
    have hzI := congrArg (fun z : Int32 × Mem => z.2) hz
    exact aw_iret C0 hW hzV hzI rfl dX9_forAll_165
theorem cw_X9_292 {Rm : Room} {s : State} {args : Array Value} (ht : ∀ w ∈ GT, w.before args s = true) (hR : rmX9_forAll.frames + 1 ≤ Rm.frames ∧ 8 + (9 + 11) + rmX9_forAll.locals ≤ Rm.locals) : CallW Rm s args RX9 RX9 292 yX9_forAll cX9_forAll 9 (some .int) (Cond.code yX9_forAll cX9_forAll 9 (some .int) :: GT) rmX9_forAll 0 0 3 := cwV 3 ht (goodV wd820 wd821 wd822 wd607 wd823) rfl rfl rfl ⟨rfl, by decide +kernel, by decide +kernel, by decide +kernel⟩ hR
def f_X9_certainAt_L27 (x1 : Int32) (x2 : Int32) (x3 : Int32) (y4 : Int32) (I : Mem) : Nat → Int32 → Int32 → Int32 → Int32 → Option (Int32 × Int32 × Int32)
  | 0, _, _, _, _ => none
  | n + 1, w5, w6, w7, w8 =>
    if 4 ≤ w8 then (
      some (w5, w6, w7)
    ) else (
      if ((y4 >>> (w8 &&& 31)) &&& 1) = 1 then (
        (rd I 76 4 w8).bind fun v3 =>
        if v3 = ((-1)) then (
          ((
            if w7 = 1 then (
              some w8
            ) else (
              some w6
            )
          ) : Option (Int32)).bind fun q4 =>
          if w7 = 0 then (
            f_X9_certainAt_L27 x1 x2 x3 y4 I n w8 q4 (w7 + 1) (w8 + 1)
          ) else (
            f_X9_certainAt_L27 x1 x2 x3 y4 I n w5 q4 (w7 + 1) (w8 + 1)
          )
        ) else (
          f_X9_certainAt_L27 x1 x2 x3 y4 I n w5 w6 w7 (w8 + 1)
        )
      ) else (
        f_X9_certainAt_L27 x1 x2 x3 y4 I n w5 w6 w7 (w8 + 1)
      )
    )
def f_X9_certainAt (x1 : Int32) (x2 : Int32) (x3 : Int32) (I : Mem) : Option (Int32 × Mem) :=
  (f_X9_takesRow x1 x2 I).bind fun q1 =>
  (f_X9_columns x3 q1).bind fun q2 =>
  (f_X9_certainAt_L27 x1 x2 x3 q2 q1 fuel ((-2)) ((-2)) 0 0).bind fun q5 =>
  if q5.2.2 ≤ 2 then (
    (f_X9_forAll x3 q5.1 q5.2.1 q1).bind fun q6 =>
    some (q6.1, q6.2)
  ) else (
    some ((-2), q1)
  )
abbrev rmX9_certainAt : Room := { frames := 4, cells := 0, slots := 0, locals := 97 }
set_option maxHeartbeats 4000000 in
set_option maxRecDepth 100000 in
theorem c_X9_certainAt {l : Launch} {g : Gam} {I : Mem} {R : Rem} {P : Pool} {Z : Zed} (x1 : Int32) (x2 : Int32) (x3 : Int32)  {z : Int32 × Mem} (hf : f_X9_certainAt x1 x2 x3 I = some z) : Met l yX9_certainAt (Cond.code yX9_certainAt cX9_certainAt 9 (some .int) :: GT) rmX9_certainAt (va_Pc [.ref (g.2.2 + 70), .int x1, .int x2, .int x3] (PW g I R P Z)) (QI g z.1 z.2 R P Z) 0 0 (AA g) := by
  refine aw_ofW (lv0 := [(0, .ref (g.2.2 + 70)), (1, .int x1), (2, .int x2), (3, .int x3)]) (by decide) (by exact Nat.le_of_ble_eq_true rfl) (by rfl) (fun p0 e s m args below meth c ls C0 hl hW => ?_)
  have C0 : CX g p0 s m args meth c RX9 cX9_certainAt 9 (some .int) := C0
  have hx := C0.1; have hb := C0.2.1; have hown := C0.2.2.2.2.1; have hts := C0.2.2.2.2.2.1; have hKS := C0.2.2.2.2.2.2.1
  have L27 : ∀ (y4 : Int32) (I : Mem) (n : Nat) (w5 : Int32) (w6 : Int32) (w7 : Int32) (w8 : Int32) (H : Heap) (locs : List Loc) (ls : Array Slot) (o : Int32 × Int32 × Int32), f_X9_certainAt_L27 x1 x2 x3 y4 I n w5 w6 w7 w8 = some o → Wd g I R P Z s.heap H locs → lv_has ls 9 [(0, .ref (g.2.2 + 70)), (3, .int x3), (4, .int y4), (5, .int w5), (6, .int w6), (7, .int w7), (8, .int w8)] → (∀ (H : Heap) (locs : List Loc) (ls : Array Slot), Wd g I R P Z s.heap H locs → lv_has ls 9 [(0, .ref (g.2.2 + 70)), (3, .int x3), (5, .int o.1), (6, .int o.2.1), (7, .int o.2.2)] → W p0 l e rmX9_certainAt s m args below meth c H locs 0 0 (MQ below (QI g z.1 z.2 R P Z) args s 0 0 (AA g)) (F0 m 93 ls [])) → W p0 l e rmX9_certainAt s m args below meth c H locs 0 0 (MQ below (QI g z.1 z.2 R P Z) args s 0 0 (AA g)) (F0 m 27 ls []) := by
    intro y4 I n
    induction n with
    | zero => intro w5 w6 w7 w8 H locs ls o hf; cases hf
    | succ n ih =>
      intro w5 w6 w7 w8 H locs ls o hf hW hl hK
      rw [f_X9_certainAt_L27] at hf
      refine lv_iload hx hb dX9_certainAt_27 (lv_at hl 6 rfl) ?_
      refine lv_iconst (v := 4) hx hb dX9_certainAt_29 (by decide) ?_
      refine lv_icmp_ge (tgt := 93) hx hb dX9_certainAt_30 rfl (fun hc => ?_) (fun hc => ?_)
      · have hf := ift hc hf
        have ho := Option.some.inj hf
        subst ho
        exact hK H locs ls hW (lv_sub hl [0, 1, 3, 4, 5] rfl)
      · have hf := iff_ hc hf
        refine lv_iload hx hb dX9_certainAt_33 (lv_at hl 2 rfl) ?_
        refine lv_iload hx hb dX9_certainAt_35 (lv_at hl 6 rfl) ?_
        refine lv_ishr hx hb dX9_certainAt_37 ?_
        refine lv_iconst (v := 1) hx hb dX9_certainAt_38 (by decide) ?_
        refine lv_iand hx hb dX9_certainAt_39 ?_
        refine lv_iconst (v := 1) hx hb dX9_certainAt_40 (by decide) ?_
        refine lv_icmp_ne (tgt := 87) hx hb dX9_certainAt_41 rfl (fun hc => ?_) (fun hc => ?_)
        · have hf := iff_ hc hf
          refine lv_iinc (k := 6) (v := w8 + 1) (lv' := [(8, .int (w8 + 1)), (0, .ref (g.2.2 + 70)), (3, .int x3), (4, .int y4), (5, .int w5), (6, .int w6), (7, .int w7)]) hx hb dX9_certainAt_87 hl rfl (congrArg (fun t => w8 + t) (by decide : Int32.ofInt 1 = 1)) (Nat.le_of_ble_eq_true rfl) rfl (fun ls hl => ?_)
          refine lv_goto (tgt := 27) hx hb dX9_certainAt_90 rfl ?_
          exact ih _ _ _ _ H locs ls o hf hW (lv_sub hl [1, 2, 3, 4, 5, 6, 0] rfl) hK
        · have hf := ift hc hf
          refine lv_aload_n hx hb dX9_certainAt_44 rfl (lv_at hl 0 rfl) ?_
          refine aw_get (v := .ref (g.2.2 + 76)) C0 hW (lv_fix (by decide)) (cel_8 kd70) rfl inG8 8 (by decide) wd82 rfl rfl dX9_certainAt_45 ?_
          refine lv_iload hx hb dX9_certainAt_48 (lv_at hl 6 rfl) ?_
          obtain ⟨v3, hv3, hf⟩ := bnd hf
          refine aw_iald C0 hW kd76 ln76 hv3 dX9_certainAt_50 ?_
          refine lv_iconst (v := (-1)) hx hb dX9_certainAt_51 (by decide) ?_
          refine lv_icmp_ne (tgt := 87) hx hb dX9_certainAt_52 rfl (fun hc => ?_) (fun hc => ?_)
          · have hf := iff_ hc hf
            refine lv_iinc (k := 6) (v := w8 + 1) (lv' := [(8, .int (w8 + 1)), (0, .ref (g.2.2 + 70)), (3, .int x3), (4, .int y4), (5, .int w5), (6, .int w6), (7, .int w7)]) hx hb dX9_certainAt_87 hl rfl (congrArg (fun t => w8 + t) (by decide : Int32.ofInt 1 = 1)) (Nat.le_of_ble_eq_true rfl) rfl (fun ls hl => ?_)
            refine lv_goto (tgt := 27) hx hb dX9_certainAt_90 rfl ?_
            exact ih _ _ _ _ H locs ls o hf hW (lv_sub hl [1, 2, 3, 4, 5, 6, 0] rfl) hK
          · have hf := ift hc hf
            refine lv_iload hx hb dX9_certainAt_55 (lv_at hl 5 rfl) ?_
            refine lv_iconst (v := 1) hx hb dX9_certainAt_57 (by decide) ?_
            obtain ⟨q4, hq4, hf⟩ := bnd hf
            have J68_q4 : ∀ (H : Heap) (locs : List Loc) (ls : Array Slot), Wd g I R P Z s.heap H locs → lv_has ls 9 [(0, .ref (g.2.2 + 70)), (3, .int x3), (4, .int y4), (5, .int w5), (7, .int w7), (8, .int w8)] → W p0 l e rmX9_certainAt s m args below meth c H locs 0 0 (MQ below (QI g z.1 z.2 R P Z) args s 0 0 (AA g)) (F0 m 68 ls ([.int q4])) := by
              intro H locs ls hW hl
              refine lv_istore (lv' := [(6, .int q4), (0, .ref (g.2.2 + 70)), (3, .int x3), (4, .int y4), (5, .int w5), (7, .int w7), (8, .int w8)]) hx hb dX9_certainAt_68 hl (Nat.le_of_ble_eq_true rfl) rfl (fun ls hl => ?_)
              refine lv_iload hx hb dX9_certainAt_70 (lv_at hl 5 rfl) ?_
              refine lv_if_ne (tgt := 80) hx hb dX9_certainAt_72 rfl (fun hc => ?_) (fun hc => ?_)
              · have hf := iff_ hc hf
                refine lv_iload hx hb dX9_certainAt_80 (lv_at hl 4 rfl) ?_
                refine lv_istore (lv' := [(5, .int w5), (6, .int q4), (0, .ref (g.2.2 + 70)), (3, .int x3), (4, .int y4), (7, .int w7), (8, .int w8)]) hx hb dX9_certainAt_82 hl (Nat.le_of_ble_eq_true rfl) rfl (fun ls hl => ?_)
                refine lv_iinc (k := 5) (v := w7 + 1) (lv' := [(7, .int (w7 + 1)), (5, .int w5), (6, .int q4), (0, .ref (g.2.2 + 70)), (3, .int x3), (4, .int y4), (8, .int w8)]) hx hb dX9_certainAt_84 hl rfl (congrArg (fun t => w7 + t) (by decide : Int32.ofInt 1 = 1)) (Nat.le_of_ble_eq_true rfl) rfl (fun ls hl => ?_)
                refine lv_iinc (k := 6) (v := w8 + 1) (lv' := [(8, .int (w8 + 1)), (7, .int (w7 + 1)), (5, .int w5), (6, .int q4), (0, .ref (g.2.2 + 70)), (3, .int x3), (4, .int y4)]) hx hb dX9_certainAt_87 hl rfl (congrArg (fun t => w8 + t) (by decide : Int32.ofInt 1 = 1)) (Nat.le_of_ble_eq_true rfl) rfl (fun ls hl => ?_)
                refine lv_goto (tgt := 27) hx hb dX9_certainAt_90 rfl ?_
                exact ih _ _ _ _ H locs ls o hf hW (lv_sub hl [4, 5, 6, 2, 3, 1, 0] rfl) hK
              · have hf := ift hc hf
                refine lv_iload hx hb dX9_certainAt_75 (lv_at hl 6 rfl) ?_
                refine lv_goto (tgt := 82) hx hb dX9_certainAt_77 rfl ?_
                refine lv_istore (lv' := [(5, .int w8), (6, .int q4), (0, .ref (g.2.2 + 70)), (3, .int x3), (4, .int y4), (7, .int w7), (8, .int w8)]) hx hb dX9_certainAt_82 hl (Nat.le_of_ble_eq_true rfl) rfl (fun ls hl => ?_)
                refine lv_iinc (k := 5) (v := w7 + 1) (lv' := [(7, .int (w7 + 1)), (5, .int w8), (6, .int q4), (0, .ref (g.2.2 + 70)), (3, .int x3), (4, .int y4), (8, .int w8)]) hx hb dX9_certainAt_84 hl rfl (congrArg (fun t => w7 + t) (by decide : Int32.ofInt 1 = 1)) (Nat.le_of_ble_eq_true rfl) rfl (fun ls hl => ?_)
                refine lv_iinc (k := 6) (v := w8 + 1) (lv' := [(8, .int (w8 + 1)), (7, .int (w7 + 1)), (5, .int w8), (6, .int q4), (0, .ref (g.2.2 + 70)), (3, .int x3), (4, .int y4)]) hx hb dX9_certainAt_87 hl rfl (congrArg (fun t => w8 + t) (by decide : Int32.ofInt 1 = 1)) (Nat.le_of_ble_eq_true rfl) rfl (fun ls hl => ?_)
                refine lv_goto (tgt := 27) hx hb dX9_certainAt_90 rfl ?_
                exact ih _ _ _ _ H locs ls o hf hW (lv_sub hl [4, 5, 6, 2, 3, 1, 0] rfl) hK
            have hf := hq4
            refine lv_icmp_ne (tgt := 66) hx hb dX9_certainAt_58 rfl (fun hc => ?_) (fun hc => ?_)
            · have hf := iff_ hc hf
              refine lv_iload hx hb dX9_certainAt_66 (lv_at hl 4 rfl) ?_
              have ho := Option.some.inj hf
              subst ho
              exact J68_q4 H locs ls hW (lv_sub hl [0, 1, 2, 3, 5, 6] rfl)
            · have hf := ift hc hf
              refine lv_iload hx hb dX9_certainAt_61 (lv_at hl 6 rfl) ?_
              refine lv_goto (tgt := 68) hx hb dX9_certainAt_63 rfl ?_
              have ho := Option.some.inj hf
              subst ho
              exact J68_q4 H locs ls hW (lv_sub hl [0, 1, 2, 3, 5, 6] rfl)
  unfold f_X9_certainAt at hf
  obtain ⟨H, hH⟩ : ∃ H, H = s.heap := ⟨_, rfl⟩
  obtain ⟨locs, hlc⟩ : ∃ q : List Loc, q = [] := ⟨_, rfl⟩
  rw [show W p0 l e rmX9_certainAt s m args below meth c s.heap [] 0 0 (MQ below (QI g z.1 z.2 R P Z) args s 0 0 (AA g)) (F0 m 0 ls []) = W p0 l e rmX9_certainAt s m args below meth c H locs 0 0 (MQ below (QI g z.1 z.2 R P Z) args s 0 0 (AA g)) (F0 m 0 ls []) by rw [hH, hlc]]
  have hW : Wd g I R P Z s.heap H locs := by rw [hH, hlc]; exact hW
  refine lv_aload_n hx hb dX9_certainAt_0 rfl (lv_at hl 0 rfl) ?_
  refine lv_iload_n hx hb dX9_certainAt_1 rfl (lv_at hl 1 rfl) ?_
  refine lv_iload_n hx hb dX9_certainAt_2 rfl (lv_at hl 2 rfl) ?_
  obtain ⟨q1, hq1, hf⟩ := bnd hf
  refine aw_cVv (rest := []) C0 hW (lv_fix (by decide)) (cel_8 kd70) rfl (c_X9_takesRow x1 x2  hq1) (cw_X9_109 hts ⟨Nat.le_of_ble_eq_true rfl, Nat.le_of_ble_eq_true rfl⟩) rfl hl.1 rfl (Nat.le_of_ble_eq_true rfl) ⟨Nat.zero_le _, Nat.zero_le _⟩ dX9_certainAt_3 (fun H locs hW => ?_)
  refine lv_aload_n hx hb dX9_certainAt_6 rfl (lv_at hl 0 rfl) ?_
  refine lv_iload_n hx hb dX9_certainAt_7 rfl (lv_at hl 3 rfl) ?_
  obtain ⟨q2, hq2, hf⟩ := bnd hf
  refine aw_cVi (rest := []) C0 hW (lv_fix (by decide)) (cel_8 kd70) rfl (c_X9_columns x3  hq2) (cw_X9_283 hts ⟨Nat.le_of_ble_eq_true rfl, Nat.le_of_ble_eq_true rfl⟩) rfl hl.1 rfl (Nat.le_of_ble_eq_true rfl) ⟨Nat.zero_le _, Nat.zero_le _⟩ dX9_certainAt_8 (fun H locs hW => ?_)
  refine lv_istore (lv' := [(4, .int q2), (0, .ref (g.2.2 + 70)), (1, .int x1), (2, .int x2), (3, .int x3)]) hx hb dX9_certainAt_11 hl (Nat.le_of_ble_eq_true rfl) rfl (fun ls hl => ?_)
  refine lv_bipush (v := (-2)) hx hb dX9_certainAt_13 (by decide) ?_
  refine lv_istore (lv' := [(5, .int ((-2))), (4, .int q2), (0, .ref (g.2.2 + 70)), (1, .int x1), (2, .int x2), (3, .int x3)]) hx hb dX9_certainAt_15 hl (Nat.le_of_ble_eq_true rfl) rfl (fun ls hl => ?_)
  refine lv_bipush (v := (-2)) hx hb dX9_certainAt_17 (by decide) ?_
  refine lv_istore (lv' := [(6, .int ((-2))), (5, .int ((-2))), (4, .int q2), (0, .ref (g.2.2 + 70)), (1, .int x1), (2, .int x2), (3, .int x3)]) hx hb dX9_certainAt_19 hl (Nat.le_of_ble_eq_true rfl) rfl (fun ls hl => ?_)
  refine lv_iconst (v := 0) hx hb dX9_certainAt_21 (by decide) ?_
  refine lv_istore (lv' := [(7, .int 0), (6, .int ((-2))), (5, .int ((-2))), (4, .int q2), (0, .ref (g.2.2 + 70)), (1, .int x1), (2, .int x2), (3, .int x3)]) hx hb dX9_certainAt_22 hl (Nat.le_of_ble_eq_true rfl) rfl (fun ls hl => ?_)
  refine lv_iconst (v := 0) hx hb dX9_certainAt_24 (by decide) ?_
  refine lv_istore (lv' := [(8, .int 0), (7, .int 0), (6, .int ((-2))), (5, .int ((-2))), (4, .int q2), (0, .ref (g.2.2 + 70)), (1, .int x1), (2, .int x2), (3, .int x3)]) hx hb dX9_certainAt_25 hl (Nat.le_of_ble_eq_true rfl) rfl (fun ls hl => ?_)
  obtain ⟨q5, hq5, hf⟩ := bnd hf
  refine L27 q2 q1 fuel ((-2)) ((-2)) 0 0 H locs ls _ hq5 hW (lv_sub hl [5, 8, 4, 3, 2, 1, 0] rfl) (fun H locs ls hW hl => ?_)
  refine lv_iload hx hb dX9_certainAt_93 (lv_at hl 4 rfl) ?_
  refine lv_iconst (v := 2) hx hb dX9_certainAt_95 (by decide) ?_
  refine lv_icmp_le (tgt := 104) hx hb dX9_certainAt_96 rfl (fun hc => ?_) (fun hc => ?_)
  · have hf := ift hc hf
    refine lv_aload_n hx hb dX9_certainAt_104 rfl (lv_at hl 0 rfl) ?_
    refine lv_iload_n hx hb dX9_certainAt_105 rfl (lv_at hl 1 rfl) ?_
    refine lv_iload hx hb dX9_certainAt_106 (lv_at hl 2 rfl) ?_
    refine lv_iload hx hb dX9_certainAt_108 (lv_at hl 3 rfl) ?_
    obtain ⟨q6, hq6, hf⟩ := bnd hf
    refine aw_cVi (rest := []) C0 hW (lv_fix (by decide)) (cel_8 kd70) rfl (c_X9_forAll x3 q5.1 q5.2.1  hq6) (cw_X9_292 hts ⟨Nat.le_of_ble_eq_true rfl, Nat.le_of_ble_eq_true rfl⟩) rfl hl.1 rfl (Nat.le_of_ble_eq_true rfl) ⟨Nat.zero_le _, Nat.zero_le _⟩ dX9_certainAt_110 (fun H locs hW => ?_)
    have hz := Option.some.inj hf
    have hzV := congrArg (fun z : Int32 × Mem => z.1) hz
    have hzI := congrArg (fun z : Int32 × Mem => z.2) hz
    exact aw_iret C0 hW hzV hzI rfl dX9_certainAt_113
  · have hf := iff_ hc hf
    refine lv_bipush (v := (-2)) hx hb dX9_certainAt_99 (by decide) ?_
    refine lv_goto (tgt := 113) hx hb dX9_certainAt_101 rfl ?_
    have hz := Option.some.inj hf
    have hzV := congrArg (fun z : Int32 × Mem => z.1) hz
    have hzI := congrArg (fun z : Int32 × Mem => z.2) hz
    exact aw_iret C0 hW hzV hzI rfl dX9_certainAt_113
theorem cw_X9_295 {Rm : Room} {s : State} {args : Array Value} (ht : ∀ w ∈ GT, w.before args s = true) (hR : rmX9_certainAt.frames + 1 ≤ Rm.frames ∧ 8 + (9 + 11) + rmX9_certainAt.locals ≤ Rm.locals) : CallW Rm s args RX9 RX9 295 yX9_certainAt cX9_certainAt 9 (some .int) (Cond.code yX9_certainAt cX9_certainAt 9 (some .int) :: GT) rmX9_certainAt 0 0 3 := cwV 3 ht (goodV wd824 wd825 wd826 wd607 wd827) rfl rfl rfl ⟨rfl, by decide +kernel, by decide +kernel, by decide +kernel⟩ hR
def f_X9_certain (x1 : Int32) (x2 : Int32) (x3 : Int32) (I : Mem) : Option (Int32 × Mem) :=
  (f_X9_isRow x1 x2 ((up I 70 7 0))).bind fun q1 =>
  if q1 = 0 then (
    (f_X9_refuses 1 ((up I 70 7 0))).bind fun q2 =>
    some (q2.1, q2.2)
  ) else (
    (f_X9_isSlot x3).bind fun q3 =>
    if q3 = 0 then (
      (f_X9_refuses 1 ((up I 70 7 0))).bind fun q6 =>
      some (q6.1, q6.2)
    ) else (
      (f_X9_parts x3 ((up I 70 7 0))).bind fun q4 =>
      if q4 = 0 then (
        some ((-2), (up I 70 7 0))
      ) else (
        (f_X9_certainAt x1 x2 x3 ((up I 70 7 0))).bind fun q5 =>
        some (q5.1, q5.2)
      )
    )
  )
abbrev rmX9_certain : Room := { frames := 5, cells := 0, slots := 0, locals := 125 }
set_option maxHeartbeats 4000000 in
set_option maxRecDepth 100000 in
theorem c_X9_certain {l : Launch} {g : Gam} {I : Mem} {R : Rem} {P : Pool} {Z : Zed} (x1 : Int32) (x2 : Int32) (x3 : Int32)  {z : Int32 × Mem} (hf : f_X9_certain x1 x2 x3 I = some z) : Met l yX9_certain (Cond.code yX9_certain cX9_certain 4 (some .int) :: GT) rmX9_certain (va_Pc [.ref (g.2.2 + 70), .int x1, .int x2, .int x3] (PW g I R P Z)) (QI g z.1 z.2 R P Z) 0 0 (AA g) := by
  refine aw_ofW (lv0 := [(0, .ref (g.2.2 + 70)), (1, .int x1), (2, .int x2), (3, .int x3)]) (by decide) (by exact Nat.le_of_ble_eq_true rfl) (by rfl) (fun p0 e s m args below meth c ls C0 hl hW => ?_)
  have C0 : CX g p0 s m args meth c RX9 cX9_certain 4 (some .int) := C0
  have hx := C0.1; have hb := C0.2.1; have hown := C0.2.2.2.2.1; have hts := C0.2.2.2.2.2.1; have hKS := C0.2.2.2.2.2.2.1
  unfold f_X9_certain at hf
  obtain ⟨H, hH⟩ : ∃ H, H = s.heap := ⟨_, rfl⟩
  obtain ⟨locs, hlc⟩ : ∃ q : List Loc, q = [] := ⟨_, rfl⟩
  rw [show W p0 l e rmX9_certain s m args below meth c s.heap [] 0 0 (MQ below (QI g z.1 z.2 R P Z) args s 0 0 (AA g)) (F0 m 0 ls []) = W p0 l e rmX9_certain s m args below meth c H locs 0 0 (MQ below (QI g z.1 z.2 R P Z) args s 0 0 (AA g)) (F0 m 0 ls []) by rw [hH, hlc]]
  have hW : Wd g I R P Z s.heap H locs := by rw [hH, hlc]; exact hW
  refine lv_aload_n hx hb dX9_certain_0 rfl (lv_at hl 0 rfl) ?_
  refine lv_iconst (v := 0) hx hb dX9_certain_1 (by decide) ?_
  refine aw_put C0 hW (lv_fix (by decide)) (cel_8 kd70) rfl inG8 tyX9 tyX9_ok nmX9 7 (by decide) wd79 rfl rfl (ty := .int) rfl rfl rfl (Nat.le_of_ble_eq_true rfl) (pu_8_7 kd70) dX9_certain_2 (fun H locs hW => ?_)
  refine lv_aload_n hx hb dX9_certain_5 rfl (lv_at hl 0 rfl) ?_
  refine lv_iload_n hx hb dX9_certain_6 rfl (lv_at hl 1 rfl) ?_
  refine lv_iload_n hx hb dX9_certain_7 rfl (lv_at hl 2 rfl) ?_
  obtain ⟨q1, hq1, hf⟩ := bnd hf
  refine aw_cVi (rest := []) C0 hW (lv_fix (by decide)) (cel_8 kd70) rfl (c_X9_isRow x1 x2  hq1) (cw_X9_132 hts ⟨Nat.le_of_ble_eq_true rfl, Nat.le_of_ble_eq_true rfl⟩) rfl hl.1 rfl (Nat.le_of_ble_eq_true rfl) ⟨Nat.zero_le _, Nat.zero_le _⟩ dX9_certain_8 (fun H locs hW => ?_)
  refine lv_if_eq (tgt := 21) hx hb dX9_certain_11 rfl (fun hc => ?_) (fun hc => ?_)
  · have hf := ift hc hf
    refine lv_aload_n hx hb dX9_certain_21 rfl (lv_at hl 0 rfl) ?_
    refine lv_iconst (v := 1) hx hb dX9_certain_22 (by decide) ?_
    obtain ⟨q2, hq2, hf⟩ := bnd hf
    refine aw_cVi (rest := []) C0 hW (lv_fix (by decide)) (cel_8 kd70) rfl (c_X9_refuses 1  hq2) (cw_X9_119 hts ⟨Nat.le_of_ble_eq_true rfl, Nat.le_of_ble_eq_true rfl⟩) rfl hl.1 rfl (Nat.le_of_ble_eq_true rfl) ⟨Nat.zero_le _, Nat.zero_le _⟩ dX9_certain_23 (fun H locs hW => ?_)
    have hz := Option.some.inj hf
    have hzV := congrArg (fun z : Int32 × Mem => z.1) hz
    have hzI := congrArg (fun z : Int32 × Mem => z.2) hz
    exact aw_iret C0 hW hzV hzI rfl dX9_certain_26
  · have hf := iff_ hc hf
    refine lv_iload_n hx hb dX9_certain_14 rfl (lv_at hl 3 rfl) ?_
    obtain ⟨q3, hq3, hf⟩ := bnd hf
    refine aw_cSi (rest := []) C0 hW (c_X9_isSlot x3  hq3) (cw_X9_147 hts ⟨Nat.le_of_ble_eq_true rfl, Nat.le_of_ble_eq_true rfl⟩) rfl hl.1 rfl (Nat.le_of_ble_eq_true rfl) ⟨Nat.zero_le _, Nat.zero_le _⟩ dX9_certain_15 (fun H locs hW => ?_)
    refine lv_if_ne (tgt := 27) hx hb dX9_certain_18 rfl (fun hc => ?_) (fun hc => ?_)
    · have hf := iff_ hc hf
      refine lv_aload_n hx hb dX9_certain_27 rfl (lv_at hl 0 rfl) ?_
      refine lv_iload_n hx hb dX9_certain_28 rfl (lv_at hl 3 rfl) ?_
      obtain ⟨q4, hq4, hf⟩ := bnd hf
      refine aw_cVi (rest := []) C0 hW (lv_fix (by decide)) (cel_8 kd70) rfl (c_X9_parts x3  hq4) (cw_X9_92 hts ⟨Nat.le_of_ble_eq_true rfl, Nat.le_of_ble_eq_true rfl⟩) rfl hl.1 rfl (Nat.le_of_ble_eq_true rfl) ⟨Nat.zero_le _, Nat.zero_le _⟩ dX9_certain_29 (fun H locs hW => ?_)
      refine lv_if_ne (tgt := 40) hx hb dX9_certain_32 rfl (fun hc => ?_) (fun hc => ?_)
      · have hf := iff_ hc hf
        refine lv_aload_n hx hb dX9_certain_40 rfl (lv_at hl 0 rfl) ?_
        refine lv_iload_n hx hb dX9_certain_41 rfl (lv_at hl 1 rfl) ?_
        refine lv_iload_n hx hb dX9_certain_42 rfl (lv_at hl 2 rfl) ?_
        refine lv_iload_n hx hb dX9_certain_43 rfl (lv_at hl 3 rfl) ?_
        obtain ⟨q5, hq5, hf⟩ := bnd hf
        refine aw_cVi (rest := []) C0 hW (lv_fix (by decide)) (cel_8 kd70) rfl (c_X9_certainAt x1 x2 x3  hq5) (cw_X9_295 hts ⟨Nat.le_of_ble_eq_true rfl, Nat.le_of_ble_eq_true rfl⟩) rfl hl.1 rfl (Nat.le_of_ble_eq_true rfl) ⟨Nat.zero_le _, Nat.zero_le _⟩ dX9_certain_44 (fun H locs hW => ?_)
        have hz := Option.some.inj hf
        have hzV := congrArg (fun z : Int32 × Mem => z.1) hz
        have hzI := congrArg (fun z : Int32 × Mem => z.2) hz
        exact aw_iret C0 hW hzV hzI rfl dX9_certain_47
      · have hf := ift hc hf
        refine lv_bipush (v := (-2)) hx hb dX9_certain_35 (by decide) ?_
        refine lv_goto (tgt := 47) hx hb dX9_certain_37 rfl ?_
        have hz := Option.some.inj hf
        have hzV := congrArg (fun z : Int32 × Mem => z.1) hz
        have hzI := congrArg (fun z : Int32 × Mem => z.2) hz
        exact aw_iret C0 hW hzV hzI rfl dX9_certain_47
    · have hf := ift hc hf
      refine lv_aload_n hx hb dX9_certain_21 rfl (lv_at hl 0 rfl) ?_
      refine lv_iconst (v := 1) hx hb dX9_certain_22 (by decide) ?_
      obtain ⟨q6, hq6, hf⟩ := bnd hf
      refine aw_cVi (rest := []) C0 hW (lv_fix (by decide)) (cel_8 kd70) rfl (c_X9_refuses 1  hq6) (cw_X9_119 hts ⟨Nat.le_of_ble_eq_true rfl, Nat.le_of_ble_eq_true rfl⟩) rfl hl.1 rfl (Nat.le_of_ble_eq_true rfl) ⟨Nat.zero_le _, Nat.zero_le _⟩ dX9_certain_23 (fun H locs hW => ?_)
      have hz := Option.some.inj hf
      have hzV := congrArg (fun z : Int32 × Mem => z.1) hz
      have hzI := congrArg (fun z : Int32 × Mem => z.2) hz
      exact aw_iret C0 hW hzV hzI rfl dX9_certain_26
def f_X9_change (x1 : Int32) (x2 : Int32) (x3 : Int32) (x4 : Int32) (P : Pool) (I : Mem) : Option (Int32 × Mem) :=
  (f_X9_isRow x1 x2 ((up I 70 7 0))).bind fun q1 =>
  if q1 = 0 then (
    (f_X9_refuses 1 ((up I 70 7 0))).bind fun q2 =>
    some (q2.1, q2.2)
  ) else (
    (f_X9_isColumn x3).bind fun q3 =>
    if q3 = 0 then (
      (f_X9_refuses 1 ((up I 70 7 0))).bind fun q15 =>
      some (q15.1, q15.2)
    ) else (
      (f_X9_isValue x4).bind fun q4 =>
      if q4 = 0 then (
        (f_X9_refuses 2 ((up I 70 7 0))).bind fun q14 =>
        some (q14.1, q14.2)
      ) else (
        (f_X9_saves P ((up I 70 7 0))).bind fun q5 =>
        (f_X9_of x1 x2 x3 q5).bind fun q6 =>
        (f_X9_at x1 x2 x3).bind fun q7 =>
        (wr q5 71 619 q7 x4).bind fun I8 =>
        (f_X9_violates x1 x2 I8).bind fun q9 =>
        if q9.1 = 0 then (
          some (q6, q9.2)
        ) else (
          (f_X9_at x1 x2 x3).bind fun q10 =>
          (wr q9.2 71 619 q10 q6).bind fun I11 =>
          (rd I11 71 619 618).bind fun v12 =>
          (wr I11 71 619 618 (v12 + 1)).bind fun I13 =>
          some ((-2), I13)
        )
      )
    )
  )
abbrev rmX9_change : Room := { frames := 5, cells := 0, slots := 0, locals := 114 }
set_option maxHeartbeats 4000000 in
set_option maxRecDepth 100000 in
theorem c_X9_change {l : Launch} {g : Gam} {I : Mem} {R : Rem} {P : Pool} {Z : Zed} (x1 : Int32) (x2 : Int32) (x3 : Int32) (x4 : Int32)  {z : Int32 × Mem} (hf : f_X9_change x1 x2 x3 x4 P I = some z) : Met l yX9_change (Cond.code yX9_change cX9_change 6 (some .int) :: GT) rmX9_change (va_Pc [.ref (g.2.2 + 70), .int x1, .int x2, .int x3, .int x4] (PW g I R P Z)) (QI g z.1 z.2 R P Z) 0 0 (AA g) := by
  refine aw_ofW (lv0 := [(0, .ref (g.2.2 + 70)), (1, .int x1), (2, .int x2), (3, .int x3), (4, .int x4)]) (by decide) (by exact Nat.le_of_ble_eq_true rfl) (by rfl) (fun p0 e s m args below meth c ls C0 hl hW => ?_)
  have C0 : CX g p0 s m args meth c RX9 cX9_change 6 (some .int) := C0
  have hx := C0.1; have hb := C0.2.1; have hown := C0.2.2.2.2.1; have hts := C0.2.2.2.2.2.1; have hKS := C0.2.2.2.2.2.2.1
  unfold f_X9_change at hf
  obtain ⟨H, hH⟩ : ∃ H, H = s.heap := ⟨_, rfl⟩
  obtain ⟨locs, hlc⟩ : ∃ q : List Loc, q = [] := ⟨_, rfl⟩
  rw [show W p0 l e rmX9_change s m args below meth c s.heap [] 0 0 (MQ below (QI g z.1 z.2 R P Z) args s 0 0 (AA g)) (F0 m 0 ls []) = W p0 l e rmX9_change s m args below meth c H locs 0 0 (MQ below (QI g z.1 z.2 R P Z) args s 0 0 (AA g)) (F0 m 0 ls []) by rw [hH, hlc]]
  have hW : Wd g I R P Z s.heap H locs := by rw [hH, hlc]; exact hW
  refine lv_aload_n hx hb dX9_change_0 rfl (lv_at hl 0 rfl) ?_
  refine lv_iconst (v := 0) hx hb dX9_change_1 (by decide) ?_
  refine aw_put C0 hW (lv_fix (by decide)) (cel_8 kd70) rfl inG8 tyX9 tyX9_ok nmX9 7 (by decide) wd79 rfl rfl (ty := .int) rfl rfl rfl (Nat.le_of_ble_eq_true rfl) (pu_8_7 kd70) dX9_change_2 (fun H locs hW => ?_)
  refine lv_aload_n hx hb dX9_change_5 rfl (lv_at hl 0 rfl) ?_
  refine lv_iload_n hx hb dX9_change_6 rfl (lv_at hl 1 rfl) ?_
  refine lv_iload_n hx hb dX9_change_7 rfl (lv_at hl 2 rfl) ?_
  obtain ⟨q1, hq1, hf⟩ := bnd hf
  refine aw_cVi (rest := []) C0 hW (lv_fix (by decide)) (cel_8 kd70) rfl (c_X9_isRow x1 x2  hq1) (cw_X9_132 hts ⟨Nat.le_of_ble_eq_true rfl, Nat.le_of_ble_eq_true rfl⟩) rfl hl.1 rfl (Nat.le_of_ble_eq_true rfl) ⟨Nat.zero_le _, Nat.zero_le _⟩ dX9_change_8 (fun H locs hW => ?_)
  refine lv_if_eq (tgt := 21) hx hb dX9_change_11 rfl (fun hc => ?_) (fun hc => ?_)
  · have hf := ift hc hf
    refine lv_aload_n hx hb dX9_change_21 rfl (lv_at hl 0 rfl) ?_
    refine lv_iconst (v := 1) hx hb dX9_change_22 (by decide) ?_
    obtain ⟨q2, hq2, hf⟩ := bnd hf
    refine aw_cVi (rest := []) C0 hW (lv_fix (by decide)) (cel_8 kd70) rfl (c_X9_refuses 1  hq2) (cw_X9_119 hts ⟨Nat.le_of_ble_eq_true rfl, Nat.le_of_ble_eq_true rfl⟩) rfl hl.1 rfl (Nat.le_of_ble_eq_true rfl) ⟨Nat.zero_le _, Nat.zero_le _⟩ dX9_change_23 (fun H locs hW => ?_)
    have hz := Option.some.inj hf
    have hzV := congrArg (fun z : Int32 × Mem => z.1) hz
    have hzI := congrArg (fun z : Int32 × Mem => z.2) hz
    exact aw_iret C0 hW hzV hzI rfl dX9_change_26
  · have hf := iff_ hc hf
    refine lv_iload_n hx hb dX9_change_14 rfl (lv_at hl 3 rfl) ?_
    obtain ⟨q3, hq3, hf⟩ := bnd hf
    refine aw_cSi (rest := []) C0 hW (c_X9_isColumn x3  hq3) (cw_X9_135 hts ⟨Nat.le_of_ble_eq_true rfl, Nat.le_of_ble_eq_true rfl⟩) rfl hl.1 rfl (Nat.le_of_ble_eq_true rfl) ⟨Nat.zero_le _, Nat.zero_le _⟩ dX9_change_15 (fun H locs hW => ?_)
    refine lv_if_ne (tgt := 27) hx hb dX9_change_18 rfl (fun hc => ?_) (fun hc => ?_)
    · have hf := iff_ hc hf
      refine lv_iload hx hb dX9_change_27 (lv_at hl 4 rfl) ?_
      obtain ⟨q4, hq4, hf⟩ := bnd hf
      refine aw_cSi (rest := []) C0 hW (c_X9_isValue x4  hq4) (cw_X9_122 hts ⟨Nat.le_of_ble_eq_true rfl, Nat.le_of_ble_eq_true rfl⟩) rfl hl.1 rfl (Nat.le_of_ble_eq_true rfl) ⟨Nat.zero_le _, Nat.zero_le _⟩ dX9_change_29 (fun H locs hW => ?_)
      refine lv_if_ne (tgt := 41) hx hb dX9_change_32 rfl (fun hc => ?_) (fun hc => ?_)
      · have hf := iff_ hc hf
        refine lv_aload_n hx hb dX9_change_41 rfl (lv_at hl 0 rfl) ?_
        obtain ⟨q5, hq5, hf⟩ := bnd hf
        refine aw_cVv (rest := []) C0 hW (lv_fix (by decide)) (cel_8 kd70) rfl (c_X9_saves  hq5) (cw_X9_125 hts ⟨Nat.le_of_ble_eq_true rfl, Nat.le_of_ble_eq_true rfl⟩) rfl hl.1 rfl (Nat.le_of_ble_eq_true rfl) ⟨Nat.zero_le _, Nat.zero_le _⟩ dX9_change_42 (fun H locs hW => ?_)
        refine lv_aload_n hx hb dX9_change_45 rfl (lv_at hl 0 rfl) ?_
        refine lv_iload_n hx hb dX9_change_46 rfl (lv_at hl 1 rfl) ?_
        refine lv_iload_n hx hb dX9_change_47 rfl (lv_at hl 2 rfl) ?_
        refine lv_iload_n hx hb dX9_change_48 rfl (lv_at hl 3 rfl) ?_
        obtain ⟨q6, hq6, hf⟩ := bnd hf
        refine aw_cVi (rest := []) C0 hW (lv_fix (by decide)) (cel_8 kd70) rfl (c_X9_of x1 x2 x3  hq6) (cw_X9_74 hts ⟨Nat.le_of_ble_eq_true rfl, Nat.le_of_ble_eq_true rfl⟩) rfl hl.1 rfl (Nat.le_of_ble_eq_true rfl) ⟨Nat.zero_le _, Nat.zero_le _⟩ dX9_change_49 (fun H locs hW => ?_)
        refine lv_istore (lv' := [(5, .int q6), (0, .ref (g.2.2 + 70)), (1, .int x1), (2, .int x2), (3, .int x3), (4, .int x4)]) hx hb dX9_change_52 hl (Nat.le_of_ble_eq_true rfl) rfl (fun ls hl => ?_)
        refine lv_aload_n hx hb dX9_change_54 rfl (lv_at hl 1 rfl) ?_
        refine aw_get (v := .ref (g.2.2 + 71)) C0 hW (lv_fix (by decide)) (cel_8 kd70) rfl inG8 0 (by decide) wd73 rfl rfl dX9_change_55 ?_
        refine lv_iload_n hx hb dX9_change_58 rfl (lv_at hl 2 rfl) ?_
        refine lv_iload_n hx hb dX9_change_59 rfl (lv_at hl 3 rfl) ?_
        refine lv_iload_n hx hb dX9_change_60 rfl (lv_at hl 4 rfl) ?_
        obtain ⟨q7, hq7, hf⟩ := bnd hf
        refine aw_cSi (rest := [.ref (g.2.2 + 71)]) C0 hW (c_X9_at x1 x2 x3  hq7) (cw_X9_58 hts ⟨Nat.le_of_ble_eq_true rfl, Nat.le_of_ble_eq_true rfl⟩) rfl hl.1 rfl (Nat.le_of_ble_eq_true rfl) ⟨Nat.zero_le _, Nat.zero_le _⟩ dX9_change_61 (fun H locs hW => ?_)
        refine lv_iload hx hb dX9_change_64 (lv_at hl 5 rfl) ?_
        obtain ⟨I8, hI8, hf⟩ := bnd hf
        refine aw_iast C0 hW kd71 ln71 hI8 dX9_change_66 (fun H locs hW => ?_)
        refine lv_aload_n hx hb dX9_change_67 rfl (lv_at hl 1 rfl) ?_
        refine lv_iload_n hx hb dX9_change_68 rfl (lv_at hl 2 rfl) ?_
        refine lv_iload_n hx hb dX9_change_69 rfl (lv_at hl 3 rfl) ?_
        obtain ⟨q9, hq9, hf⟩ := bnd hf
        refine aw_cVi (rest := []) C0 hW (lv_fix (by decide)) (cel_8 kd70) rfl (c_X9_violates x1 x2  hq9) (cw_X9_128 hts ⟨Nat.le_of_ble_eq_true rfl, Nat.le_of_ble_eq_true rfl⟩) rfl hl.1 rfl (Nat.le_of_ble_eq_true rfl) ⟨Nat.zero_le _, Nat.zero_le _⟩ dX9_change_70 (fun H locs hW => ?_)
        refine lv_if_eq (tgt := 104) hx hb dX9_change_73 rfl (fun hc => ?_) (fun hc => ?_)
        · have hf := ift hc hf
          refine lv_iload hx hb dX9_change_104 (lv_at hl 0 rfl) ?_
          have hz := Option.some.inj hf
          have hzV := congrArg (fun z : Int32 × Mem => z.1) hz
          have hzI := congrArg (fun z : Int32 × Mem => z.2) hz
          exact aw_iret C0 hW hzV hzI rfl dX9_change_106
        · have hf := iff_ hc hf
          refine lv_aload_n hx hb dX9_change_76 rfl (lv_at hl 1 rfl) ?_
          refine aw_get (v := .ref (g.2.2 + 71)) C0 hW (lv_fix (by decide)) (cel_8 kd70) rfl inG8 0 (by decide) wd73 rfl rfl dX9_change_77 ?_
          refine lv_iload_n hx hb dX9_change_80 rfl (lv_at hl 2 rfl) ?_
          refine lv_iload_n hx hb dX9_change_81 rfl (lv_at hl 3 rfl) ?_
          refine lv_iload_n hx hb dX9_change_82 rfl (lv_at hl 4 rfl) ?_
          obtain ⟨q10, hq10, hf⟩ := bnd hf
          refine aw_cSi (rest := [.ref (g.2.2 + 71)]) C0 hW (c_X9_at x1 x2 x3  hq10) (cw_X9_58 hts ⟨Nat.le_of_ble_eq_true rfl, Nat.le_of_ble_eq_true rfl⟩) rfl hl.1 rfl (Nat.le_of_ble_eq_true rfl) ⟨Nat.zero_le _, Nat.zero_le _⟩ dX9_change_83 (fun H locs hW => ?_)
          refine lv_iload hx hb dX9_change_86 (lv_at hl 0 rfl) ?_
          obtain ⟨I11, hI11, hf⟩ := bnd hf
          refine aw_iast C0 hW kd71 ln71 hI11 dX9_change_88 (fun H locs hW => ?_)
          refine lv_aload_n hx hb dX9_change_89 rfl (lv_at hl 1 rfl) ?_
          refine aw_get (v := .ref (g.2.2 + 71)) C0 hW (lv_fix (by decide)) (cel_8 kd70) rfl inG8 0 (by decide) wd73 rfl rfl dX9_change_90 ?_
          refine lv_sipush (v := 618) hx hb dX9_change_93 (by decide) ?_
          refine lv_dup2_11 hx hb dX9_change_96 rfl rfl ?_
          obtain ⟨v12, hv12, hf⟩ := bnd hf
          refine aw_iald C0 hW kd71 ln71 hv12 dX9_change_97 ?_
          refine lv_iconst (v := 1) hx hb dX9_change_98 (by decide) ?_
          refine lv_iadd hx hb dX9_change_99 ?_
          obtain ⟨I13, hI13, hf⟩ := bnd hf
          refine aw_iast C0 hW kd71 ln71 hI13 dX9_change_100 (fun H locs hW => ?_)
          refine lv_bipush (v := (-2)) hx hb dX9_change_101 (by decide) ?_
          have hz := Option.some.inj hf
          have hzV := congrArg (fun z : Int32 × Mem => z.1) hz
          have hzI := congrArg (fun z : Int32 × Mem => z.2) hz
          exact aw_iret C0 hW hzV hzI rfl dX9_change_103
      · have hf := ift hc hf
        refine lv_aload_n hx hb dX9_change_35 rfl (lv_at hl 0 rfl) ?_
        refine lv_iconst (v := 2) hx hb dX9_change_36 (by decide) ?_
        obtain ⟨q14, hq14, hf⟩ := bnd hf
        refine aw_cVi (rest := []) C0 hW (lv_fix (by decide)) (cel_8 kd70) rfl (c_X9_refuses 2  hq14) (cw_X9_119 hts ⟨Nat.le_of_ble_eq_true rfl, Nat.le_of_ble_eq_true rfl⟩) rfl hl.1 rfl (Nat.le_of_ble_eq_true rfl) ⟨Nat.zero_le _, Nat.zero_le _⟩ dX9_change_37 (fun H locs hW => ?_)
        have hz := Option.some.inj hf
        have hzV := congrArg (fun z : Int32 × Mem => z.1) hz
        have hzI := congrArg (fun z : Int32 × Mem => z.2) hz
        exact aw_iret C0 hW hzV hzI rfl dX9_change_40
    · have hf := ift hc hf
      refine lv_aload_n hx hb dX9_change_21 rfl (lv_at hl 0 rfl) ?_
      refine lv_iconst (v := 1) hx hb dX9_change_22 (by decide) ?_
      obtain ⟨q15, hq15, hf⟩ := bnd hf
      refine aw_cVi (rest := []) C0 hW (lv_fix (by decide)) (cel_8 kd70) rfl (c_X9_refuses 1  hq15) (cw_X9_119 hts ⟨Nat.le_of_ble_eq_true rfl, Nat.le_of_ble_eq_true rfl⟩) rfl hl.1 rfl (Nat.le_of_ble_eq_true rfl) ⟨Nat.zero_le _, Nat.zero_le _⟩ dX9_change_23 (fun H locs hW => ?_)
      have hz := Option.some.inj hf
      have hzV := congrArg (fun z : Int32 × Mem => z.1) hz
      have hzI := congrArg (fun z : Int32 × Mem => z.2) hz
      exact aw_iret C0 hW hzV hzI rfl dX9_change_26
def f_X9_rowsOf_L6 (x1 : Int32) (x2 : Int32) (x3 : Int32) : Nat → Int32 → Int32 → Mem → Option (Int32 × Mem)
  | 0, _, _, _ => none
  | n + 1, w4, w5, I =>
    (f_X9_many x1 I).bind fun q1 =>
    if q1 ≤ w5 then (
      some (w4, I)
    ) else (
      (f_X9_truthAt x1 w5 x2 I).bind fun q2 =>
      if q2.1 = x3 then (
        f_X9_rowsOf_L6 x1 x2 x3 n (w4 ||| (1 <<< (w5 &&& 31))) (w5 + 1) q2.2
      ) else (
        f_X9_rowsOf_L6 x1 x2 x3 n (w4 ||| 0) (w5 + 1) q2.2
      )
    )
def f_X9_rowsOf (x1 : Int32) (x2 : Int32) (x3 : Int32) (I : Mem) : Option (Int32 × Mem) :=
  (f_X9_rowsOf_L6 x1 x2 x3 fuel 0 0 I).bind fun q3 =>
  some (q3.1, q3.2)
abbrev rmX9_rowsOf : Room := { frames := 4, cells := 0, slots := 0, locals := 92 }
set_option maxHeartbeats 4000000 in
set_option maxRecDepth 100000 in
theorem c_X9_rowsOf {l : Launch} {g : Gam} {I : Mem} {R : Rem} {P : Pool} {Z : Zed} (x1 : Int32) (x2 : Int32) (x3 : Int32)  {z : Int32 × Mem} (hf : f_X9_rowsOf x1 x2 x3 I = some z) : Met l yX9_rowsOf (Cond.code yX9_rowsOf cX9_rowsOf 6 (some .int) :: GT) rmX9_rowsOf (va_Pc [.ref (g.2.2 + 70), .int x1, .int x2, .int x3] (PW g I R P Z)) (QI g z.1 z.2 R P Z) 0 0 (AA g) := by
  refine aw_ofW (lv0 := [(0, .ref (g.2.2 + 70)), (1, .int x1), (2, .int x2), (3, .int x3)]) (by decide) (by exact Nat.le_of_ble_eq_true rfl) (by rfl) (fun p0 e s m args below meth c ls C0 hl hW => ?_)
  have C0 : CX g p0 s m args meth c RX9 cX9_rowsOf 6 (some .int) := C0
  have hx := C0.1; have hb := C0.2.1; have hown := C0.2.2.2.2.1; have hts := C0.2.2.2.2.2.1; have hKS := C0.2.2.2.2.2.2.1
  have L6 : ∀ (n : Nat) (w4 : Int32) (w5 : Int32) (I : Mem) (H : Heap) (locs : List Loc) (ls : Array Slot) (o : Int32 × Mem), f_X9_rowsOf_L6 x1 x2 x3 n w4 w5 I = some o → Wd g I R P Z s.heap H locs → lv_has ls 6 [(0, .ref (g.2.2 + 70)), (1, .int x1), (2, .int x2), (3, .int x3), (4, .int w4), (5, .int w5)] → (∀ (H : Heap) (locs : List Loc) (ls : Array Slot), Wd g o.2 R P Z s.heap H locs → lv_has ls 6 [(4, .int o.1)] → W p0 l e rmX9_rowsOf s m args below meth c H locs 0 0 (MQ below (QI g z.1 z.2 R P Z) args s 0 0 (AA g)) (F0 m 47 ls [])) → W p0 l e rmX9_rowsOf s m args below meth c H locs 0 0 (MQ below (QI g z.1 z.2 R P Z) args s 0 0 (AA g)) (F0 m 6 ls []) := by
    intro n
    induction n with
    | zero => intro w4 w5 I H locs ls o hf; cases hf
    | succ n ih =>
      intro w4 w5 I H locs ls o hf hW hl hK
      rw [f_X9_rowsOf_L6] at hf
      refine lv_iload hx hb dX9_rowsOf_6 (lv_at hl 5 rfl) ?_
      refine lv_aload_n hx hb dX9_rowsOf_8 rfl (lv_at hl 0 rfl) ?_
      refine lv_iload_n hx hb dX9_rowsOf_9 rfl (lv_at hl 1 rfl) ?_
      obtain ⟨q1, hq1, hf⟩ := bnd hf
      refine aw_cVi (rest := [.int w5]) C0 hW (lv_fix (by decide)) (cel_8 kd70) rfl (c_X9_many x1  hq1) (cw_X9_70 hts ⟨Nat.le_of_ble_eq_true rfl, Nat.le_of_ble_eq_true rfl⟩) rfl hl.1 rfl (Nat.le_of_ble_eq_true rfl) ⟨Nat.zero_le _, Nat.zero_le _⟩ dX9_rowsOf_10 (fun H locs hW => ?_)
      refine lv_icmp_ge (tgt := 47) hx hb dX9_rowsOf_13 rfl (fun hc => ?_) (fun hc => ?_)
      · have hf := ift hc hf
        have ho := Option.some.inj hf
        subst ho
        exact hK H locs ls hW (lv_sub hl [4] rfl)
      · have hf := iff_ hc hf
        refine lv_iload hx hb dX9_rowsOf_16 (lv_at hl 4 rfl) ?_
        refine lv_aload_n hx hb dX9_rowsOf_18 rfl (lv_at hl 0 rfl) ?_
        refine lv_iload_n hx hb dX9_rowsOf_19 rfl (lv_at hl 1 rfl) ?_
        refine lv_iload hx hb dX9_rowsOf_20 (lv_at hl 5 rfl) ?_
        refine lv_iload_n hx hb dX9_rowsOf_22 rfl (lv_at hl 2 rfl) ?_
        obtain ⟨q2, hq2, hf⟩ := bnd hf
        refine aw_cVi (rest := [.int w4]) C0 hW (lv_fix (by decide)) (cel_8 kd70) rfl (c_X9_truthAt x1 w5 x2  hq2) (cw_X9_116 hts ⟨Nat.le_of_ble_eq_true rfl, Nat.le_of_ble_eq_true rfl⟩) rfl hl.1 rfl (Nat.le_of_ble_eq_true rfl) ⟨Nat.zero_le _, Nat.zero_le _⟩ dX9_rowsOf_23 (fun H locs hW => ?_)
        refine lv_iload_n hx hb dX9_rowsOf_26 rfl (lv_at hl 3 rfl) ?_
        refine lv_icmp_ne (tgt := 37) hx hb dX9_rowsOf_27 rfl (fun hc => ?_) (fun hc => ?_)
        · have hf := iff_ hc hf
          refine lv_iconst (v := 0) hx hb dX9_rowsOf_37 (by decide) ?_
          refine lv_ior hx hb dX9_rowsOf_38 ?_
          refine lv_istore (lv' := [(4, .int (w4 ||| 0)), (0, .ref (g.2.2 + 70)), (1, .int x1), (2, .int x2), (3, .int x3), (5, .int w5)]) hx hb dX9_rowsOf_39 hl (Nat.le_of_ble_eq_true rfl) rfl (fun ls hl => ?_)
          refine lv_iinc (k := 5) (v := w5 + 1) (lv' := [(5, .int (w5 + 1)), (4, .int (w4 ||| 0)), (0, .ref (g.2.2 + 70)), (1, .int x1), (2, .int x2), (3, .int x3)]) hx hb dX9_rowsOf_41 hl rfl (congrArg (fun t => w5 + t) (by decide : Int32.ofInt 1 = 1)) (Nat.le_of_ble_eq_true rfl) rfl (fun ls hl => ?_)
          refine lv_goto (tgt := 6) hx hb dX9_rowsOf_44 rfl ?_
          exact ih _ _ _ H locs ls o hf hW (lv_sub hl [2, 3, 4, 5, 1, 0] rfl) hK
        · have hf := ift hc hf
          refine lv_iconst (v := 1) hx hb dX9_rowsOf_30 (by decide) ?_
          refine lv_iload hx hb dX9_rowsOf_31 (lv_at hl 5 rfl) ?_
          refine lv_ishl hx hb dX9_rowsOf_33 ?_
          refine lv_goto (tgt := 38) hx hb dX9_rowsOf_34 rfl ?_
          refine lv_ior hx hb dX9_rowsOf_38 ?_
          refine lv_istore (lv' := [(4, .int (w4 ||| (1 <<< (w5 &&& 31)))), (0, .ref (g.2.2 + 70)), (1, .int x1), (2, .int x2), (3, .int x3), (5, .int w5)]) hx hb dX9_rowsOf_39 hl (Nat.le_of_ble_eq_true rfl) rfl (fun ls hl => ?_)
          refine lv_iinc (k := 5) (v := w5 + 1) (lv' := [(5, .int (w5 + 1)), (4, .int (w4 ||| (1 <<< (w5 &&& 31)))), (0, .ref (g.2.2 + 70)), (1, .int x1), (2, .int x2), (3, .int x3)]) hx hb dX9_rowsOf_41 hl rfl (congrArg (fun t => w5 + t) (by decide : Int32.ofInt 1 = 1)) (Nat.le_of_ble_eq_true rfl) rfl (fun ls hl => ?_)
          refine lv_goto (tgt := 6) hx hb dX9_rowsOf_44 rfl ?_
          exact ih _ _ _ H locs ls o hf hW (lv_sub hl [2, 3, 4, 5, 1, 0] rfl) hK
  unfold f_X9_rowsOf at hf
  obtain ⟨H, hH⟩ : ∃ H, H = s.heap := ⟨_, rfl⟩
  obtain ⟨locs, hlc⟩ : ∃ q : List Loc, q = [] := ⟨_, rfl⟩
  rw [show W p0 l e rmX9_rowsOf s m args below meth c s.heap [] 0 0 (MQ below (QI g z.1 z.2 R P Z) args s 0 0 (AA g)) (F0 m 0 ls []) = W p0 l e rmX9_rowsOf s m args below meth c H locs 0 0 (MQ below (QI g z.1 z.2 R P Z) args s 0 0 (AA g)) (F0 m 0 ls []) by rw [hH, hlc]]
  have hW : Wd g I R P Z s.heap H locs := by rw [hH, hlc]; exact hW
  refine lv_iconst (v := 0) hx hb dX9_rowsOf_0 (by decide) ?_
  refine lv_istore (lv' := [(4, .int 0), (0, .ref (g.2.2 + 70)), (1, .int x1), (2, .int x2), (3, .int x3)]) hx hb dX9_rowsOf_1 hl (Nat.le_of_ble_eq_true rfl) rfl (fun ls hl => ?_)
  refine lv_iconst (v := 0) hx hb dX9_rowsOf_3 (by decide) ?_
  refine lv_istore (lv' := [(5, .int 0), (4, .int 0), (0, .ref (g.2.2 + 70)), (1, .int x1), (2, .int x2), (3, .int x3)]) hx hb dX9_rowsOf_4 hl (Nat.le_of_ble_eq_true rfl) rfl (fun ls hl => ?_)
  obtain ⟨q3, hq3, hf⟩ := bnd hf
  refine L6  fuel 0 0 I H locs ls _ hq3 hW (lv_sub hl [2, 3, 4, 5, 1, 0] rfl) (fun H locs ls hW hl => ?_)
  refine lv_iload hx hb dX9_rowsOf_47 (lv_at hl 0 rfl) ?_
  have hz := Option.some.inj hf
  have hzV := congrArg (fun z : Int32 × Mem => z.1) hz
  have hzI := congrArg (fun z : Int32 × Mem => z.2) hz
  exact aw_iret C0 hW hzV hzI rfl dX9_rowsOf_49
theorem cw_X9_163 {Rm : Room} {s : State} {args : Array Value} (ht : ∀ w ∈ GT, w.before args s = true) (hR : rmX9_rowsOf.frames + 1 ≤ Rm.frames ∧ 8 + (6 + 11) + rmX9_rowsOf.locals ≤ Rm.locals) : CallW Rm s args RX9 RX9 163 yX9_rowsOf cX9_rowsOf 6 (some .int) (Cond.code yX9_rowsOf cX9_rowsOf 6 (some .int) :: GT) rmX9_rowsOf 0 0 3 := cwV 3 ht (goodV wd670 wd671 wd672 wd607 wd673) rfl rfl rfl ⟨rfl, by decide +kernel, by decide +kernel, by decide +kernel⟩ hR
def f_X9_copies_L2 (x1 : Int32) (x2 : Int32) : Nat → Int32 → Mem → Option (Mem)
  | 0, _, _ => none
  | n + 1, w3, I =>
    if 61 ≤ w3 then (
      some I
    ) else (
      (rd I 71 619 ((130 + (61 * x1)) + w3)).bind fun v1 =>
      (wr I 71 619 ((130 + (61 * x2)) + w3) v1).bind fun I2 =>
      f_X9_copies_L2 x1 x2 n (w3 + 1) I2
    )
def f_X9_copies (x1 : Int32) (x2 : Int32) (I : Mem) : Option (Mem) :=
  (f_X9_copies_L2 x1 x2 fuel 0 I).bind fun q3 =>
  some q3
abbrev rmX9_copies : Room := { frames := 0, cells := 0, slots := 0, locals := 0 }
set_option maxHeartbeats 4000000 in
set_option maxRecDepth 100000 in
theorem c_X9_copies {l : Launch} {g : Gam} {I : Mem} {R : Rem} {P : Pool} {Z : Zed} (x1 : Int32) (x2 : Int32)  {z : Mem} (hf : f_X9_copies x1 x2 I = some z) : Met l yX9_copies (Cond.code yX9_copies cX9_copies 4 none :: GT) rmX9_copies (va_Pc [.ref (g.2.2 + 70), .int x1, .int x2] (PW g I R P Z)) (QV g z R P Z) 0 0 (AA g) := by
  refine aw_ofW (lv0 := [(0, .ref (g.2.2 + 70)), (1, .int x1), (2, .int x2)]) (by decide) (by exact Nat.le_of_ble_eq_true rfl) (by rfl) (fun p0 e s m args below meth c ls C0 hl hW => ?_)
  have C0 : CX g p0 s m args meth c RX9 cX9_copies 4 none := C0
  have hx := C0.1; have hb := C0.2.1; have hown := C0.2.2.2.2.1; have hts := C0.2.2.2.2.2.1; have hKS := C0.2.2.2.2.2.2.1
  have L2 : ∀ (n : Nat) (w3 : Int32) (I : Mem) (H : Heap) (locs : List Loc) (ls : Array Slot) (o : Mem), f_X9_copies_L2 x1 x2 n w3 I = some o → Wd g I R P Z s.heap H locs → lv_has ls 4 [(0, .ref (g.2.2 + 70)), (1, .int x1), (2, .int x2), (3, .int w3)] → (∀ (H : Heap) (locs : List Loc) (ls : Array Slot), Wd g o R P Z s.heap H locs → lv_has ls 4 [] → W p0 l e rmX9_copies s m args below meth c H locs 0 0 (MQ below (QV g z R P Z) args s 0 0 (AA g)) (F0 m 44 ls [])) → W p0 l e rmX9_copies s m args below meth c H locs 0 0 (MQ below (QV g z R P Z) args s 0 0 (AA g)) (F0 m 2 ls []) := by
    intro n
    induction n with
    | zero => intro w3 I H locs ls o hf; cases hf
    | succ n ih =>
      intro w3 I H locs ls o hf hW hl hK
      rw [f_X9_copies_L2] at hf
      refine lv_iload_n hx hb dX9_copies_2 rfl (lv_at hl 3 rfl) ?_
      refine lv_bipush (v := 61) hx hb dX9_copies_3 (by decide) ?_
      refine lv_icmp_ge (tgt := 44) hx hb dX9_copies_5 rfl (fun hc => ?_) (fun hc => ?_)
      · have hf := ift hc hf
        have ho := Option.some.inj hf
        subst ho
        exact hK H locs ls hW (lv_sub hl [] rfl)
      · have hf := iff_ hc hf
        refine lv_aload_n hx hb dX9_copies_8 rfl (lv_at hl 0 rfl) ?_
        refine aw_get (v := .ref (g.2.2 + 71)) C0 hW (lv_fix (by decide)) (cel_8 kd70) rfl inG8 0 (by decide) wd73 rfl rfl dX9_copies_9 ?_
        refine lv_sipush (v := 130) hx hb dX9_copies_12 (by decide) ?_
        refine lv_bipush (v := 61) hx hb dX9_copies_15 (by decide) ?_
        refine lv_iload_n hx hb dX9_copies_17 rfl (lv_at hl 2 rfl) ?_
        refine lv_imul hx hb dX9_copies_18 ?_
        refine lv_iadd hx hb dX9_copies_19 ?_
        refine lv_iload_n hx hb dX9_copies_20 rfl (lv_at hl 3 rfl) ?_
        refine lv_iadd hx hb dX9_copies_21 ?_
        refine lv_aload_n hx hb dX9_copies_22 rfl (lv_at hl 0 rfl) ?_
        refine aw_get (v := .ref (g.2.2 + 71)) C0 hW (lv_fix (by decide)) (cel_8 kd70) rfl inG8 0 (by decide) wd73 rfl rfl dX9_copies_23 ?_
        refine lv_sipush (v := 130) hx hb dX9_copies_26 (by decide) ?_
        refine lv_bipush (v := 61) hx hb dX9_copies_29 (by decide) ?_
        refine lv_iload_n hx hb dX9_copies_31 rfl (lv_at hl 1 rfl) ?_
        refine lv_imul hx hb dX9_copies_32 ?_
        refine lv_iadd hx hb dX9_copies_33 ?_
        refine lv_iload_n hx hb dX9_copies_34 rfl (lv_at hl 3 rfl) ?_
        refine lv_iadd hx hb dX9_copies_35 ?_
        obtain ⟨v1, hv1, hf⟩ := bnd hf
        refine aw_iald C0 hW kd71 ln71 hv1 dX9_copies_36 ?_
        obtain ⟨I2, hI2, hf⟩ := bnd hf
        refine aw_iast C0 hW kd71 ln71 hI2 dX9_copies_37 (fun H locs hW => ?_)
        refine lv_iinc (k := 3) (v := w3 + 1) (lv' := [(3, .int (w3 + 1)), (0, .ref (g.2.2 + 70)), (1, .int x1), (2, .int x2)]) hx hb dX9_copies_38 hl rfl (congrArg (fun t => w3 + t) (by decide : Int32.ofInt 1 = 1)) (Nat.le_of_ble_eq_true rfl) rfl (fun ls hl => ?_)
        refine lv_goto (tgt := 2) hx hb dX9_copies_41 rfl ?_
        exact ih _ _ H locs ls o hf hW (lv_sub hl [1, 2, 3, 0] rfl) hK
  unfold f_X9_copies at hf
  obtain ⟨H, hH⟩ : ∃ H, H = s.heap := ⟨_, rfl⟩
  obtain ⟨locs, hlc⟩ : ∃ q : List Loc, q = [] := ⟨_, rfl⟩
  rw [show W p0 l e rmX9_copies s m args below meth c s.heap [] 0 0 (MQ below (QV g z R P Z) args s 0 0 (AA g)) (F0 m 0 ls []) = W p0 l e rmX9_copies s m args below meth c H locs 0 0 (MQ below (QV g z R P Z) args s 0 0 (AA g)) (F0 m 0 ls []) by rw [hH, hlc]]
  have hW : Wd g I R P Z s.heap H locs := by rw [hH, hlc]; exact hW
  refine lv_iconst (v := 0) hx hb dX9_copies_0 (by decide) ?_
  refine lv_istore_n (lv' := [(3, .int 0), (0, .ref (g.2.2 + 70)), (1, .int x1), (2, .int x2)]) hx hb dX9_copies_1 rfl hl (Nat.le_of_ble_eq_true rfl) rfl (fun ls hl => ?_)
  obtain ⟨q3, hq3, hf⟩ := bnd hf
  refine L2  fuel 0 I H locs ls _ hq3 hW (lv_sub hl [1, 2, 3, 0] rfl) (fun H locs ls hW hl => ?_)
  have hz := Option.some.inj hf
  exact aw_vret C0 hW hz rfl dX9_copies_44
theorem cw_X9_169 {Rm : Room} {s : State} {args : Array Value} (ht : ∀ w ∈ GT, w.before args s = true) (hR : rmX9_copies.frames + 1 ≤ Rm.frames ∧ 8 + (4 + 11) + rmX9_copies.locals ≤ Rm.locals) : CallW Rm s args RX9 RX9 169 yX9_copies cX9_copies 4 none (Cond.code yX9_copies cX9_copies 4 none :: GT) rmX9_copies 0 0 2 := cwV 2 ht (goodV wd677 wd678 wd679 wd607 wd680) rfl rfl rfl ⟨rfl, by decide +kernel, by decide +kernel, by decide +kernel⟩ hR
def f_X9_check (x1 : Int32) (x2 : Int32) (P : Pool) (I : Mem) : Option (Int32 × Mem) :=
  (f_X9_isTable x1).bind fun q1 =>
  if q1 = 0 then (
    (f_X9_refuses 1 ((up I 70 7 0))).bind fun q2 =>
    some (q2.1, q2.2)
  ) else (
    if x2 = ((-2)) then (
      if x2 = ((-2)) then (
        (f_X9_saves P ((up I 70 7 0))).bind fun q3 =>
        if x2 = ((-2)) then (
          (wr q3 71 619 (130 + (61 * (6 + x1))) 0).bind fun I9 =>
          some (0, I9)
        ) else (
          (f_X9_rowsOf x1 x2 0 q3).bind fun q4 =>
          (f_X9_bits q4.1).bind fun q5 =>
          if q5 ≤ 0 then (
            (f_X9_copies x2 (6 + x1) q4.2).bind fun q6 =>
            some (q5, q6)
          ) else (
            (rd q4.2 71 619 618).bind fun v7 =>
            (wr q4.2 71 619 618 (v7 + 1)).bind fun I8 =>
            some (q5, I8)
          )
        )
      ) else (
        (f_X9_parts x2 ((up I 70 7 0))).bind fun q10 =>
        if q10 = 0 then (
          (f_X9_refuses 2 ((up I 70 7 0))).bind fun q18 =>
          some (q18.1, q18.2)
        ) else (
          (f_X9_saves P ((up I 70 7 0))).bind fun q11 =>
          if x2 = ((-2)) then (
            (wr q11 71 619 (130 + (61 * (6 + x1))) 0).bind fun I17 =>
            some (0, I17)
          ) else (
            (f_X9_rowsOf x1 x2 0 q11).bind fun q12 =>
            (f_X9_bits q12.1).bind fun q13 =>
            if q13 ≤ 0 then (
              (f_X9_copies x2 (6 + x1) q12.2).bind fun q14 =>
              some (q13, q14)
            ) else (
              (rd q12.2 71 619 618).bind fun v15 =>
              (wr q12.2 71 619 618 (v15 + 1)).bind fun I16 =>
              some (q13, I16)
            )
          )
        )
      )
    ) else (
      (f_X9_isSlot x2).bind fun q19 =>
      if q19 = 0 then (
        (f_X9_refuses 1 ((up I 70 7 0))).bind fun q36 =>
        some (q36.1, q36.2)
      ) else (
        if x2 = ((-2)) then (
          (f_X9_saves P ((up I 70 7 0))).bind fun q20 =>
          if x2 = ((-2)) then (
            (wr q20 71 619 (130 + (61 * (6 + x1))) 0).bind fun I26 =>
            some (0, I26)
          ) else (
            (f_X9_rowsOf x1 x2 0 q20).bind fun q21 =>
            (f_X9_bits q21.1).bind fun q22 =>
            if q22 ≤ 0 then (
              (f_X9_copies x2 (6 + x1) q21.2).bind fun q23 =>
              some (q22, q23)
            ) else (
              (rd q21.2 71 619 618).bind fun v24 =>
              (wr q21.2 71 619 618 (v24 + 1)).bind fun I25 =>
              some (q22, I25)
            )
          )
        ) else (
          (f_X9_parts x2 ((up I 70 7 0))).bind fun q27 =>
          if q27 = 0 then (
            (f_X9_refuses 2 ((up I 70 7 0))).bind fun q35 =>
            some (q35.1, q35.2)
          ) else (
            (f_X9_saves P ((up I 70 7 0))).bind fun q28 =>
            if x2 = ((-2)) then (
              (wr q28 71 619 (130 + (61 * (6 + x1))) 0).bind fun I34 =>
              some (0, I34)
            ) else (
              (f_X9_rowsOf x1 x2 0 q28).bind fun q29 =>
              (f_X9_bits q29.1).bind fun q30 =>
              if q30 ≤ 0 then (
                (f_X9_copies x2 (6 + x1) q29.2).bind fun q31 =>
                some (q30, q31)
              ) else (
                (rd q29.2 71 619 618).bind fun v32 =>
                (wr q29.2 71 619 618 (v32 + 1)).bind fun I33 =>
                some (q30, I33)
              )
            )
          )
        )
      )
    )
  )
abbrev rmX9_check : Room := { frames := 5, cells := 0, slots := 0, locals := 117 }
set_option maxHeartbeats 4000000 in
set_option maxRecDepth 100000 in
theorem c_X9_check {l : Launch} {g : Gam} {I : Mem} {R : Rem} {P : Pool} {Z : Zed} (x1 : Int32) (x2 : Int32)  {z : Int32 × Mem} (hf : f_X9_check x1 x2 P I = some z) : Met l yX9_check (Cond.code yX9_check cX9_check 4 (some .int) :: GT) rmX9_check (va_Pc [.ref (g.2.2 + 70), .int x1, .int x2] (PW g I R P Z)) (QI g z.1 z.2 R P Z) 0 0 (AA g) := by
  refine aw_ofW (lv0 := [(0, .ref (g.2.2 + 70)), (1, .int x1), (2, .int x2)]) (by decide) (by exact Nat.le_of_ble_eq_true rfl) (by rfl) (fun p0 e s m args below meth c ls C0 hl hW => ?_)
  have C0 : CX g p0 s m args meth c RX9 cX9_check 4 (some .int) := C0
  have hx := C0.1; have hb := C0.2.1; have hown := C0.2.2.2.2.1; have hts := C0.2.2.2.2.2.1; have hKS := C0.2.2.2.2.2.2.1
  unfold f_X9_check at hf
  obtain ⟨H, hH⟩ : ∃ H, H = s.heap := ⟨_, rfl⟩
  obtain ⟨locs, hlc⟩ : ∃ q : List Loc, q = [] := ⟨_, rfl⟩
  rw [show W p0 l e rmX9_check s m args below meth c s.heap [] 0 0 (MQ below (QI g z.1 z.2 R P Z) args s 0 0 (AA g)) (F0 m 0 ls []) = W p0 l e rmX9_check s m args below meth c H locs 0 0 (MQ below (QI g z.1 z.2 R P Z) args s 0 0 (AA g)) (F0 m 0 ls []) by rw [hH, hlc]]
  have hW : Wd g I R P Z s.heap H locs := by rw [hH, hlc]; exact hW
  refine lv_aload_n hx hb dX9_check_0 rfl (lv_at hl 0 rfl) ?_
  refine lv_iconst (v := 0) hx hb dX9_check_1 (by decide) ?_
  refine aw_put C0 hW (lv_fix (by decide)) (cel_8 kd70) rfl inG8 tyX9 tyX9_ok nmX9 7 (by decide) wd79 rfl rfl (ty := .int) rfl rfl rfl (Nat.le_of_ble_eq_true rfl) (pu_8_7 kd70) dX9_check_2 (fun H locs hW => ?_)
  refine lv_iload_n hx hb dX9_check_5 rfl (lv_at hl 1 rfl) ?_
  obtain ⟨q1, hq1, hf⟩ := bnd hf
  refine aw_cSi (rest := []) C0 hW (c_X9_isTable x1  hq1) (cw_X9_66 hts ⟨Nat.le_of_ble_eq_true rfl, Nat.le_of_ble_eq_true rfl⟩) rfl hl.1 rfl (Nat.le_of_ble_eq_true rfl) ⟨Nat.zero_le _, Nat.zero_le _⟩ dX9_check_6 (fun H locs hW => ?_)
  refine lv_if_eq (tgt := 25) hx hb dX9_check_9 rfl (fun hc => ?_) (fun hc => ?_)
  · have hf := ift hc hf
    refine lv_aload_n hx hb dX9_check_25 rfl (lv_at hl 0 rfl) ?_
    refine lv_iconst (v := 1) hx hb dX9_check_26 (by decide) ?_
    obtain ⟨q2, hq2, hf⟩ := bnd hf
    refine aw_cVi (rest := []) C0 hW (lv_fix (by decide)) (cel_8 kd70) rfl (c_X9_refuses 1  hq2) (cw_X9_119 hts ⟨Nat.le_of_ble_eq_true rfl, Nat.le_of_ble_eq_true rfl⟩) rfl hl.1 rfl (Nat.le_of_ble_eq_true rfl) ⟨Nat.zero_le _, Nat.zero_le _⟩ dX9_check_27 (fun H locs hW => ?_)
    have hz := Option.some.inj hf
    have hzV := congrArg (fun z : Int32 × Mem => z.1) hz
    have hzI := congrArg (fun z : Int32 × Mem => z.2) hz
    exact aw_iret C0 hW hzV hzI rfl dX9_check_30
  · have hf := iff_ hc hf
    refine lv_iload_n hx hb dX9_check_12 rfl (lv_at hl 2 rfl) ?_
    refine lv_bipush (v := (-2)) hx hb dX9_check_13 (by decide) ?_
    refine lv_icmp_eq (tgt := 31) hx hb dX9_check_15 rfl (fun hc => ?_) (fun hc => ?_)
    · have hf := ift hc hf
      refine lv_iload_n hx hb dX9_check_31 rfl (lv_at hl 2 rfl) ?_
      refine lv_bipush (v := (-2)) hx hb dX9_check_32 (by decide) ?_
      refine lv_icmp_eq (tgt := 51) hx hb dX9_check_34 rfl (fun hc => ?_) (fun hc => ?_)
      · have hf := ift hc hf
        refine lv_aload_n hx hb dX9_check_51 rfl (lv_at hl 0 rfl) ?_
        obtain ⟨q3, hq3, hf⟩ := bnd hf
        refine aw_cVv (rest := []) C0 hW (lv_fix (by decide)) (cel_8 kd70) rfl (c_X9_saves  hq3) (cw_X9_125 hts ⟨Nat.le_of_ble_eq_true rfl, Nat.le_of_ble_eq_true rfl⟩) rfl hl.1 rfl (Nat.le_of_ble_eq_true rfl) ⟨Nat.zero_le _, Nat.zero_le _⟩ dX9_check_52 (fun H locs hW => ?_)
        refine lv_iload_n hx hb dX9_check_55 rfl (lv_at hl 2 rfl) ?_
        refine lv_bipush (v := (-2)) hx hb dX9_check_56 (by decide) ?_
        refine lv_icmp_ne (tgt := 80) hx hb dX9_check_58 rfl (fun hc => ?_) (fun hc => ?_)
        · have hf := iff_ hc hf
          refine lv_aload_n hx hb dX9_check_80 rfl (lv_at hl 0 rfl) ?_
          refine lv_iload_n hx hb dX9_check_81 rfl (lv_at hl 1 rfl) ?_
          refine lv_iload_n hx hb dX9_check_82 rfl (lv_at hl 2 rfl) ?_
          refine lv_iconst (v := 0) hx hb dX9_check_83 (by decide) ?_
          obtain ⟨q4, hq4, hf⟩ := bnd hf
          refine aw_cVi (rest := []) C0 hW (lv_fix (by decide)) (cel_8 kd70) rfl (c_X9_rowsOf x1 x2 0  hq4) (cw_X9_163 hts ⟨Nat.le_of_ble_eq_true rfl, Nat.le_of_ble_eq_true rfl⟩) rfl hl.1 rfl (Nat.le_of_ble_eq_true rfl) ⟨Nat.zero_le _, Nat.zero_le _⟩ dX9_check_84 (fun H locs hW => ?_)
          obtain ⟨q5, hq5, hf⟩ := bnd hf
          refine aw_cSi (rest := []) C0 hW (c_X9_bits q4.1  hq5) (cw_X9_166 hts ⟨Nat.le_of_ble_eq_true rfl, Nat.le_of_ble_eq_true rfl⟩) rfl hl.1 rfl (Nat.le_of_ble_eq_true rfl) ⟨Nat.zero_le _, Nat.zero_le _⟩ dX9_check_87 (fun H locs hW => ?_)
          refine lv_istore_n (lv' := [(3, .int q5), (0, .ref (g.2.2 + 70)), (1, .int x1), (2, .int x2)]) hx hb dX9_check_90 rfl hl (Nat.le_of_ble_eq_true rfl) rfl (fun ls hl => ?_)
          refine lv_iload_n hx hb dX9_check_91 rfl (lv_at hl 0 rfl) ?_
          refine lv_if_le (tgt := 110) hx hb dX9_check_92 rfl (fun hc => ?_) (fun hc => ?_)
          · have hf := ift hc hf
            refine lv_aload_n hx hb dX9_check_110 rfl (lv_at hl 1 rfl) ?_
            refine lv_iload_n hx hb dX9_check_111 rfl (lv_at hl 3 rfl) ?_
            refine lv_bipush (v := 6) hx hb dX9_check_112 (by decide) ?_
            refine lv_iload_n hx hb dX9_check_114 rfl (lv_at hl 2 rfl) ?_
            refine lv_iadd hx hb dX9_check_115 ?_
            obtain ⟨q6, hq6, hf⟩ := bnd hf
            refine aw_cVv (rest := []) C0 hW (lv_fix (by decide)) (cel_8 kd70) rfl (c_X9_copies x2 (6 + x1)  hq6) (cw_X9_169 hts ⟨Nat.le_of_ble_eq_true rfl, Nat.le_of_ble_eq_true rfl⟩) rfl hl.1 rfl (Nat.le_of_ble_eq_true rfl) ⟨Nat.zero_le _, Nat.zero_le _⟩ dX9_check_116 (fun H locs hW => ?_)
            refine lv_iload_n hx hb dX9_check_119 rfl (lv_at hl 0 rfl) ?_
            have hz := Option.some.inj hf
            have hzV := congrArg (fun z : Int32 × Mem => z.1) hz
            have hzI := congrArg (fun z : Int32 × Mem => z.2) hz
            exact aw_iret C0 hW hzV hzI rfl dX9_check_120
          · have hf := iff_ hc hf
            refine lv_aload_n hx hb dX9_check_95 rfl (lv_at hl 1 rfl) ?_
            refine aw_get (v := .ref (g.2.2 + 71)) C0 hW (lv_fix (by decide)) (cel_8 kd70) rfl inG8 0 (by decide) wd73 rfl rfl dX9_check_96 ?_
            refine lv_sipush (v := 618) hx hb dX9_check_99 (by decide) ?_
            refine lv_dup2_11 hx hb dX9_check_102 rfl rfl ?_
            obtain ⟨v7, hv7, hf⟩ := bnd hf
            refine aw_iald C0 hW kd71 ln71 hv7 dX9_check_103 ?_
            refine lv_iconst (v := 1) hx hb dX9_check_104 (by decide) ?_
            refine lv_iadd hx hb dX9_check_105 ?_
            obtain ⟨I8, hI8, hf⟩ := bnd hf
            refine aw_iast C0 hW kd71 ln71 hI8 dX9_check_106 (fun H locs hW => ?_)
            refine lv_goto (tgt := 119) hx hb dX9_check_107 rfl ?_
            refine lv_iload_n hx hb dX9_check_119 rfl (lv_at hl 0 rfl) ?_
            have hz := Option.some.inj hf
            have hzV := congrArg (fun z : Int32 × Mem => z.1) hz
            have hzI := congrArg (fun z : Int32 × Mem => z.2) hz
            exact aw_iret C0 hW hzV hzI rfl dX9_check_120
        · have hf := ift hc hf
          refine lv_aload_n hx hb dX9_check_61 rfl (lv_at hl 0 rfl) ?_
          refine aw_get (v := .ref (g.2.2 + 71)) C0 hW (lv_fix (by decide)) (cel_8 kd70) rfl inG8 0 (by decide) wd73 rfl rfl dX9_check_62 ?_
          refine lv_sipush (v := 130) hx hb dX9_check_65 (by decide) ?_
          refine lv_bipush (v := 61) hx hb dX9_check_68 (by decide) ?_
          refine lv_bipush (v := 6) hx hb dX9_check_70 (by decide) ?_
          refine lv_iload_n hx hb dX9_check_72 rfl (lv_at hl 1 rfl) ?_
          refine lv_iadd hx hb dX9_check_73 ?_
          refine lv_imul hx hb dX9_check_74 ?_
          refine lv_iadd hx hb dX9_check_75 ?_
          refine lv_iconst (v := 0) hx hb dX9_check_76 (by decide) ?_
          obtain ⟨I9, hI9, hf⟩ := bnd hf
          refine aw_iast C0 hW kd71 ln71 hI9 dX9_check_77 (fun H locs hW => ?_)
          refine lv_iconst (v := 0) hx hb dX9_check_78 (by decide) ?_
          have hz := Option.some.inj hf
          have hzV := congrArg (fun z : Int32 × Mem => z.1) hz
          have hzI := congrArg (fun z : Int32 × Mem => z.2) hz
          exact aw_iret C0 hW hzV hzI rfl dX9_check_79
      · have hf := iff_ hc hf
        refine lv_aload_n hx hb dX9_check_37 rfl (lv_at hl 0 rfl) ?_
        refine lv_iload_n hx hb dX9_check_38 rfl (lv_at hl 2 rfl) ?_
        obtain ⟨q10, hq10, hf⟩ := bnd hf
        refine aw_cVi (rest := []) C0 hW (lv_fix (by decide)) (cel_8 kd70) rfl (c_X9_parts x2  hq10) (cw_X9_92 hts ⟨Nat.le_of_ble_eq_true rfl, Nat.le_of_ble_eq_true rfl⟩) rfl hl.1 rfl (Nat.le_of_ble_eq_true rfl) ⟨Nat.zero_le _, Nat.zero_le _⟩ dX9_check_39 (fun H locs hW => ?_)
        refine lv_if_ne (tgt := 51) hx hb dX9_check_42 rfl (fun hc => ?_) (fun hc => ?_)
        · have hf := iff_ hc hf
          refine lv_aload_n hx hb dX9_check_51 rfl (lv_at hl 0 rfl) ?_
          obtain ⟨q11, hq11, hf⟩ := bnd hf
          refine aw_cVv (rest := []) C0 hW (lv_fix (by decide)) (cel_8 kd70) rfl (c_X9_saves  hq11) (cw_X9_125 hts ⟨Nat.le_of_ble_eq_true rfl, Nat.le_of_ble_eq_true rfl⟩) rfl hl.1 rfl (Nat.le_of_ble_eq_true rfl) ⟨Nat.zero_le _, Nat.zero_le _⟩ dX9_check_52 (fun H locs hW => ?_)
          refine lv_iload_n hx hb dX9_check_55 rfl (lv_at hl 2 rfl) ?_
          refine lv_bipush (v := (-2)) hx hb dX9_check_56 (by decide) ?_
          refine lv_icmp_ne (tgt := 80) hx hb dX9_check_58 rfl (fun hc => ?_) (fun hc => ?_)
          · have hf := iff_ hc hf
            refine lv_aload_n hx hb dX9_check_80 rfl (lv_at hl 0 rfl) ?_
            refine lv_iload_n hx hb dX9_check_81 rfl (lv_at hl 1 rfl) ?_
            refine lv_iload_n hx hb dX9_check_82 rfl (lv_at hl 2 rfl) ?_
            refine lv_iconst (v := 0) hx hb dX9_check_83 (by decide) ?_
            obtain ⟨q12, hq12, hf⟩ := bnd hf
            refine aw_cVi (rest := []) C0 hW (lv_fix (by decide)) (cel_8 kd70) rfl (c_X9_rowsOf x1 x2 0  hq12) (cw_X9_163 hts ⟨Nat.le_of_ble_eq_true rfl, Nat.le_of_ble_eq_true rfl⟩) rfl hl.1 rfl (Nat.le_of_ble_eq_true rfl) ⟨Nat.zero_le _, Nat.zero_le _⟩ dX9_check_84 (fun H locs hW => ?_)
            obtain ⟨q13, hq13, hf⟩ := bnd hf
            refine aw_cSi (rest := []) C0 hW (c_X9_bits q12.1  hq13) (cw_X9_166 hts ⟨Nat.le_of_ble_eq_true rfl, Nat.le_of_ble_eq_true rfl⟩) rfl hl.1 rfl (Nat.le_of_ble_eq_true rfl) ⟨Nat.zero_le _, Nat.zero_le _⟩ dX9_check_87 (fun H locs hW => ?_)
            refine lv_istore_n (lv' := [(3, .int q13), (0, .ref (g.2.2 + 70)), (1, .int x1), (2, .int x2)]) hx hb dX9_check_90 rfl hl (Nat.le_of_ble_eq_true rfl) rfl (fun ls hl => ?_)
            refine lv_iload_n hx hb dX9_check_91 rfl (lv_at hl 0 rfl) ?_
            refine lv_if_le (tgt := 110) hx hb dX9_check_92 rfl (fun hc => ?_) (fun hc => ?_)
            · have hf := ift hc hf
              refine lv_aload_n hx hb dX9_check_110 rfl (lv_at hl 1 rfl) ?_
              refine lv_iload_n hx hb dX9_check_111 rfl (lv_at hl 3 rfl) ?_
              refine lv_bipush (v := 6) hx hb dX9_check_112 (by decide) ?_
              refine lv_iload_n hx hb dX9_check_114 rfl (lv_at hl 2 rfl) ?_
              refine lv_iadd hx hb dX9_check_115 ?_
              obtain ⟨q14, hq14, hf⟩ := bnd hf
              refine aw_cVv (rest := []) C0 hW (lv_fix (by decide)) (cel_8 kd70) rfl (c_X9_copies x2 (6 + x1)  hq14) (cw_X9_169 hts ⟨Nat.le_of_ble_eq_true rfl, Nat.le_of_ble_eq_true rfl⟩) rfl hl.1 rfl (Nat.le_of_ble_eq_true rfl) ⟨Nat.zero_le _, Nat.zero_le _⟩ dX9_check_116 (fun H locs hW => ?_)
              refine lv_iload_n hx hb dX9_check_119 rfl (lv_at hl 0 rfl) ?_
              have hz := Option.some.inj hf
              have hzV := congrArg (fun z : Int32 × Mem => z.1) hz
              have hzI := congrArg (fun z : Int32 × Mem => z.2) hz
              exact aw_iret C0 hW hzV hzI rfl dX9_check_120
            · have hf := iff_ hc hf
              refine lv_aload_n hx hb dX9_check_95 rfl (lv_at hl 1 rfl) ?_
              refine aw_get (v := .ref (g.2.2 + 71)) C0 hW (lv_fix (by decide)) (cel_8 kd70) rfl inG8 0 (by decide) wd73 rfl rfl dX9_check_96 ?_
              refine lv_sipush (v := 618) hx hb dX9_check_99 (by decide) ?_
              refine lv_dup2_11 hx hb dX9_check_102 rfl rfl ?_
              obtain ⟨v15, hv15, hf⟩ := bnd hf
              refine aw_iald C0 hW kd71 ln71 hv15 dX9_check_103 ?_
              refine lv_iconst (v := 1) hx hb dX9_check_104 (by decide) ?_
              refine lv_iadd hx hb dX9_check_105 ?_
              obtain ⟨I16, hI16, hf⟩ := bnd hf
              refine aw_iast C0 hW kd71 ln71 hI16 dX9_check_106 (fun H locs hW => ?_)
              refine lv_goto (tgt := 119) hx hb dX9_check_107 rfl ?_
              refine lv_iload_n hx hb dX9_check_119 rfl (lv_at hl 0 rfl) ?_
              have hz := Option.some.inj hf
              have hzV := congrArg (fun z : Int32 × Mem => z.1) hz
              have hzI := congrArg (fun z : Int32 × Mem => z.2) hz
              exact aw_iret C0 hW hzV hzI rfl dX9_check_120
          · have hf := ift hc hf
            refine lv_aload_n hx hb dX9_check_61 rfl (lv_at hl 0 rfl) ?_
            refine aw_get (v := .ref (g.2.2 + 71)) C0 hW (lv_fix (by decide)) (cel_8 kd70) rfl inG8 0 (by decide) wd73 rfl rfl dX9_check_62 ?_
            refine lv_sipush (v := 130) hx hb dX9_check_65 (by decide) ?_
            refine lv_bipush (v := 61) hx hb dX9_check_68 (by decide) ?_
            refine lv_bipush (v := 6) hx hb dX9_check_70 (by decide) ?_
            refine lv_iload_n hx hb dX9_check_72 rfl (lv_at hl 1 rfl) ?_
            refine lv_iadd hx hb dX9_check_73 ?_
            refine lv_imul hx hb dX9_check_74 ?_
            refine lv_iadd hx hb dX9_check_75 ?_
            refine lv_iconst (v := 0) hx hb dX9_check_76 (by decide) ?_
            obtain ⟨I17, hI17, hf⟩ := bnd hf
            refine aw_iast C0 hW kd71 ln71 hI17 dX9_check_77 (fun H locs hW => ?_)
            refine lv_iconst (v := 0) hx hb dX9_check_78 (by decide) ?_
            have hz := Option.some.inj hf
            have hzV := congrArg (fun z : Int32 × Mem => z.1) hz
            have hzI := congrArg (fun z : Int32 × Mem => z.2) hz
            exact aw_iret C0 hW hzV hzI rfl dX9_check_79
        · have hf := ift hc hf
          refine lv_aload_n hx hb dX9_check_45 rfl (lv_at hl 0 rfl) ?_
          refine lv_iconst (v := 2) hx hb dX9_check_46 (by decide) ?_
          obtain ⟨q18, hq18, hf⟩ := bnd hf
          refine aw_cVi (rest := []) C0 hW (lv_fix (by decide)) (cel_8 kd70) rfl (c_X9_refuses 2  hq18) (cw_X9_119 hts ⟨Nat.le_of_ble_eq_true rfl, Nat.le_of_ble_eq_true rfl⟩) rfl hl.1 rfl (Nat.le_of_ble_eq_true rfl) ⟨Nat.zero_le _, Nat.zero_le _⟩ dX9_check_47 (fun H locs hW => ?_)
          have hz := Option.some.inj hf
          have hzV := congrArg (fun z : Int32 × Mem => z.1) hz
          have hzI := congrArg (fun z : Int32 × Mem => z.2) hz
          exact aw_iret C0 hW hzV hzI rfl dX9_check_50
    · have hf := iff_ hc hf
      refine lv_iload_n hx hb dX9_check_18 rfl (lv_at hl 2 rfl) ?_
      obtain ⟨q19, hq19, hf⟩ := bnd hf
      refine aw_cSi (rest := []) C0 hW (c_X9_isSlot x2  hq19) (cw_X9_147 hts ⟨Nat.le_of_ble_eq_true rfl, Nat.le_of_ble_eq_true rfl⟩) rfl hl.1 rfl (Nat.le_of_ble_eq_true rfl) ⟨Nat.zero_le _, Nat.zero_le _⟩ dX9_check_19 (fun H locs hW => ?_)
      refine lv_if_ne (tgt := 31) hx hb dX9_check_22 rfl (fun hc => ?_) (fun hc => ?_)
      · have hf := iff_ hc hf
        refine lv_iload_n hx hb dX9_check_31 rfl (lv_at hl 2 rfl) ?_
        refine lv_bipush (v := (-2)) hx hb dX9_check_32 (by decide) ?_
        refine lv_icmp_eq (tgt := 51) hx hb dX9_check_34 rfl (fun hc => ?_) (fun hc => ?_)
        · have hf := ift hc hf
          refine lv_aload_n hx hb dX9_check_51 rfl (lv_at hl 0 rfl) ?_
          obtain ⟨q20, hq20, hf⟩ := bnd hf
          refine aw_cVv (rest := []) C0 hW (lv_fix (by decide)) (cel_8 kd70) rfl (c_X9_saves  hq20) (cw_X9_125 hts ⟨Nat.le_of_ble_eq_true rfl, Nat.le_of_ble_eq_true rfl⟩) rfl hl.1 rfl (Nat.le_of_ble_eq_true rfl) ⟨Nat.zero_le _, Nat.zero_le _⟩ dX9_check_52 (fun H locs hW => ?_)
          refine lv_iload_n hx hb dX9_check_55 rfl (lv_at hl 2 rfl) ?_
          refine lv_bipush (v := (-2)) hx hb dX9_check_56 (by decide) ?_
          refine lv_icmp_ne (tgt := 80) hx hb dX9_check_58 rfl (fun hc => ?_) (fun hc => ?_)
          · have hf := iff_ hc hf
            refine lv_aload_n hx hb dX9_check_80 rfl (lv_at hl 0 rfl) ?_
            refine lv_iload_n hx hb dX9_check_81 rfl (lv_at hl 1 rfl) ?_
            refine lv_iload_n hx hb dX9_check_82 rfl (lv_at hl 2 rfl) ?_
            refine lv_iconst (v := 0) hx hb dX9_check_83 (by decide) ?_
            obtain ⟨q21, hq21, hf⟩ := bnd hf
            refine aw_cVi (rest := []) C0 hW (lv_fix (by decide)) (cel_8 kd70) rfl (c_X9_rowsOf x1 x2 0  hq21) (cw_X9_163 hts ⟨Nat.le_of_ble_eq_true rfl, Nat.le_of_ble_eq_true rfl⟩) rfl hl.1 rfl (Nat.le_of_ble_eq_true rfl) ⟨Nat.zero_le _, Nat.zero_le _⟩ dX9_check_84 (fun H locs hW => ?_)
            obtain ⟨q22, hq22, hf⟩ := bnd hf
            refine aw_cSi (rest := []) C0 hW (c_X9_bits q21.1  hq22) (cw_X9_166 hts ⟨Nat.le_of_ble_eq_true rfl, Nat.le_of_ble_eq_true rfl⟩) rfl hl.1 rfl (Nat.le_of_ble_eq_true rfl) ⟨Nat.zero_le _, Nat.zero_le _⟩ dX9_check_87 (fun H locs hW => ?_)
            refine lv_istore_n (lv' := [(3, .int q22), (0, .ref (g.2.2 + 70)), (1, .int x1), (2, .int x2)]) hx hb dX9_check_90 rfl hl (Nat.le_of_ble_eq_true rfl) rfl (fun ls hl => ?_)
            refine lv_iload_n hx hb dX9_check_91 rfl (lv_at hl 0 rfl) ?_
            refine lv_if_le (tgt := 110) hx hb dX9_check_92 rfl (fun hc => ?_) (fun hc => ?_)
            · have hf := ift hc hf
              refine lv_aload_n hx hb dX9_check_110 rfl (lv_at hl 1 rfl) ?_
              refine lv_iload_n hx hb dX9_check_111 rfl (lv_at hl 3 rfl) ?_
              refine lv_bipush (v := 6) hx hb dX9_check_112 (by decide) ?_
              refine lv_iload_n hx hb dX9_check_114 rfl (lv_at hl 2 rfl) ?_
              refine lv_iadd hx hb dX9_check_115 ?_
              obtain ⟨q23, hq23, hf⟩ := bnd hf
              refine aw_cVv (rest := []) C0 hW (lv_fix (by decide)) (cel_8 kd70) rfl (c_X9_copies x2 (6 + x1)  hq23) (cw_X9_169 hts ⟨Nat.le_of_ble_eq_true rfl, Nat.le_of_ble_eq_true rfl⟩) rfl hl.1 rfl (Nat.le_of_ble_eq_true rfl) ⟨Nat.zero_le _, Nat.zero_le _⟩ dX9_check_116 (fun H locs hW => ?_)
              refine lv_iload_n hx hb dX9_check_119 rfl (lv_at hl 0 rfl) ?_
              have hz := Option.some.inj hf
              have hzV := congrArg (fun z : Int32 × Mem => z.1) hz
              have hzI := congrArg (fun z : Int32 × Mem => z.2) hz
              exact aw_iret C0 hW hzV hzI rfl dX9_check_120
            · have hf := iff_ hc hf
              refine lv_aload_n hx hb dX9_check_95 rfl (lv_at hl 1 rfl) ?_
              refine aw_get (v := .ref (g.2.2 + 71)) C0 hW (lv_fix (by decide)) (cel_8 kd70) rfl inG8 0 (by decide) wd73 rfl rfl dX9_check_96 ?_
              refine lv_sipush (v := 618) hx hb dX9_check_99 (by decide) ?_
              refine lv_dup2_11 hx hb dX9_check_102 rfl rfl ?_
              obtain ⟨v24, hv24, hf⟩ := bnd hf
              refine aw_iald C0 hW kd71 ln71 hv24 dX9_check_103 ?_
              refine lv_iconst (v := 1) hx hb dX9_check_104 (by decide) ?_
              refine lv_iadd hx hb dX9_check_105 ?_
              obtain ⟨I25, hI25, hf⟩ := bnd hf
              refine aw_iast C0 hW kd71 ln71 hI25 dX9_check_106 (fun H locs hW => ?_)
              refine lv_goto (tgt := 119) hx hb dX9_check_107 rfl ?_
              refine lv_iload_n hx hb dX9_check_119 rfl (lv_at hl 0 rfl) ?_
              have hz := Option.some.inj hf
              have hzV := congrArg (fun z : Int32 × Mem => z.1) hz
              have hzI := congrArg (fun z : Int32 × Mem => z.2) hz
              exact aw_iret C0 hW hzV hzI rfl dX9_check_120
          · have hf := ift hc hf
            refine lv_aload_n hx hb dX9_check_61 rfl (lv_at hl 0 rfl) ?_
            refine aw_get (v := .ref (g.2.2 + 71)) C0 hW (lv_fix (by decide)) (cel_8 kd70) rfl inG8 0 (by decide) wd73 rfl rfl dX9_check_62 ?_
            refine lv_sipush (v := 130) hx hb dX9_check_65 (by decide) ?_
            refine lv_bipush (v := 61) hx hb dX9_check_68 (by decide) ?_
            refine lv_bipush (v := 6) hx hb dX9_check_70 (by decide) ?_
            refine lv_iload_n hx hb dX9_check_72 rfl (lv_at hl 1 rfl) ?_
            refine lv_iadd hx hb dX9_check_73 ?_
            refine lv_imul hx hb dX9_check_74 ?_
            refine lv_iadd hx hb dX9_check_75 ?_
            refine lv_iconst (v := 0) hx hb dX9_check_76 (by decide) ?_
            obtain ⟨I26, hI26, hf⟩ := bnd hf
            refine aw_iast C0 hW kd71 ln71 hI26 dX9_check_77 (fun H locs hW => ?_)
            refine lv_iconst (v := 0) hx hb dX9_check_78 (by decide) ?_
            have hz := Option.some.inj hf
            have hzV := congrArg (fun z : Int32 × Mem => z.1) hz
            have hzI := congrArg (fun z : Int32 × Mem => z.2) hz
            exact aw_iret C0 hW hzV hzI rfl dX9_check_79
        · have hf := iff_ hc hf
          refine lv_aload_n hx hb dX9_check_37 rfl (lv_at hl 0 rfl) ?_
          refine lv_iload_n hx hb dX9_check_38 rfl (lv_at hl 2 rfl) ?_
          obtain ⟨q27, hq27, hf⟩ := bnd hf
          refine aw_cVi (rest := []) C0 hW (lv_fix (by decide)) (cel_8 kd70) rfl (c_X9_parts x2  hq27) (cw_X9_92 hts ⟨Nat.le_of_ble_eq_true rfl, Nat.le_of_ble_eq_true rfl⟩) rfl hl.1 rfl (Nat.le_of_ble_eq_true rfl) ⟨Nat.zero_le _, Nat.zero_le _⟩ dX9_check_39 (fun H locs hW => ?_)
          refine lv_if_ne (tgt := 51) hx hb dX9_check_42 rfl (fun hc => ?_) (fun hc => ?_)
          · have hf := iff_ hc hf
            refine lv_aload_n hx hb dX9_check_51 rfl (lv_at hl 0 rfl) ?_
            obtain ⟨q28, hq28, hf⟩ := bnd hf
            refine aw_cVv (rest := []) C0 hW (lv_fix (by decide)) (cel_8 kd70) rfl (c_X9_saves  hq28) (cw_X9_125 hts ⟨Nat.le_of_ble_eq_true rfl, Nat.le_of_ble_eq_true rfl⟩) rfl hl.1 rfl (Nat.le_of_ble_eq_true rfl) ⟨Nat.zero_le _, Nat.zero_le _⟩ dX9_check_52 (fun H locs hW => ?_)
            refine lv_iload_n hx hb dX9_check_55 rfl (lv_at hl 2 rfl) ?_
            refine lv_bipush (v := (-2)) hx hb dX9_check_56 (by decide) ?_
            refine lv_icmp_ne (tgt := 80) hx hb dX9_check_58 rfl (fun hc => ?_) (fun hc => ?_)
            · have hf := iff_ hc hf
              refine lv_aload_n hx hb dX9_check_80 rfl (lv_at hl 0 rfl) ?_
              refine lv_iload_n hx hb dX9_check_81 rfl (lv_at hl 1 rfl) ?_
              refine lv_iload_n hx hb dX9_check_82 rfl (lv_at hl 2 rfl) ?_
              refine lv_iconst (v := 0) hx hb dX9_check_83 (by decide) ?_
              obtain ⟨q29, hq29, hf⟩ := bnd hf
              refine aw_cVi (rest := []) C0 hW (lv_fix (by decide)) (cel_8 kd70) rfl (c_X9_rowsOf x1 x2 0  hq29) (cw_X9_163 hts ⟨Nat.le_of_ble_eq_true rfl, Nat.le_of_ble_eq_true rfl⟩) rfl hl.1 rfl (Nat.le_of_ble_eq_true rfl) ⟨Nat.zero_le _, Nat.zero_le _⟩ dX9_check_84 (fun H locs hW => ?_)
              obtain ⟨q30, hq30, hf⟩ := bnd hf
              refine aw_cSi (rest := []) C0 hW (c_X9_bits q29.1  hq30) (cw_X9_166 hts ⟨Nat.le_of_ble_eq_true rfl, Nat.le_of_ble_eq_true rfl⟩) rfl hl.1 rfl (Nat.le_of_ble_eq_true rfl) ⟨Nat.zero_le _, Nat.zero_le _⟩ dX9_check_87 (fun H locs hW => ?_)
              refine lv_istore_n (lv' := [(3, .int q30), (0, .ref (g.2.2 + 70)), (1, .int x1), (2, .int x2)]) hx hb dX9_check_90 rfl hl (Nat.le_of_ble_eq_true rfl) rfl (fun ls hl => ?_)
              refine lv_iload_n hx hb dX9_check_91 rfl (lv_at hl 0 rfl) ?_
              refine lv_if_le (tgt := 110) hx hb dX9_check_92 rfl (fun hc => ?_) (fun hc => ?_)
              · have hf := ift hc hf
                refine lv_aload_n hx hb dX9_check_110 rfl (lv_at hl 1 rfl) ?_
                refine lv_iload_n hx hb dX9_check_111 rfl (lv_at hl 3 rfl) ?_
                refine lv_bipush (v := 6) hx hb dX9_check_112 (by decide) ?_
                refine lv_iload_n hx hb dX9_check_114 rfl (lv_at hl 2 rfl) ?_
                refine lv_iadd hx hb dX9_check_115 ?_
                obtain ⟨q31, hq31, hf⟩ := bnd hf
                refine aw_cVv (rest := []) C0 hW (lv_fix (by decide)) (cel_8 kd70) rfl (c_X9_copies x2 (6 + x1)  hq31) (cw_X9_169 hts ⟨Nat.le_of_ble_eq_true rfl, Nat.le_of_ble_eq_true rfl⟩) rfl hl.1 rfl (Nat.le_of_ble_eq_true rfl) ⟨Nat.zero_le _, Nat.zero_le _⟩ dX9_check_116 (fun H locs hW => ?_)
                refine lv_iload_n hx hb dX9_check_119 rfl (lv_at hl 0 rfl) ?_
                have hz := Option.some.inj hf
                have hzV := congrArg (fun z : Int32 × Mem => z.1) hz
                have hzI := congrArg (fun z : Int32 × Mem => z.2) hz
                exact aw_iret C0 hW hzV hzI rfl dX9_check_120
              · have hf := iff_ hc hf
                refine lv_aload_n hx hb dX9_check_95 rfl (lv_at hl 1 rfl) ?_
                refine aw_get (v := .ref (g.2.2 + 71)) C0 hW (lv_fix (by decide)) (cel_8 kd70) rfl inG8 0 (by decide) wd73 rfl rfl dX9_check_96 ?_
                refine lv_sipush (v := 618) hx hb dX9_check_99 (by decide) ?_
                refine lv_dup2_11 hx hb dX9_check_102 rfl rfl ?_
                obtain ⟨v32, hv32, hf⟩ := bnd hf
                refine aw_iald C0 hW kd71 ln71 hv32 dX9_check_103 ?_
                refine lv_iconst (v := 1) hx hb dX9_check_104 (by decide) ?_
                refine lv_iadd hx hb dX9_check_105 ?_
                obtain ⟨I33, hI33, hf⟩ := bnd hf
                refine aw_iast C0 hW kd71 ln71 hI33 dX9_check_106 (fun H locs hW => ?_)
                refine lv_goto (tgt := 119) hx hb dX9_check_107 rfl ?_
                refine lv_iload_n hx hb dX9_check_119 rfl (lv_at hl 0 rfl) ?_
                have hz := Option.some.inj hf
                have hzV := congrArg (fun z : Int32 × Mem => z.1) hz
                have hzI := congrArg (fun z : Int32 × Mem => z.2) hz
                exact aw_iret C0 hW hzV hzI rfl dX9_check_120
            · have hf := ift hc hf
              refine lv_aload_n hx hb dX9_check_61 rfl (lv_at hl 0 rfl) ?_
              refine aw_get (v := .ref (g.2.2 + 71)) C0 hW (lv_fix (by decide)) (cel_8 kd70) rfl inG8 0 (by decide) wd73 rfl rfl dX9_check_62 ?_
              refine lv_sipush (v := 130) hx hb dX9_check_65 (by decide) ?_
              refine lv_bipush (v := 61) hx hb dX9_check_68 (by decide) ?_
              refine lv_bipush (v := 6) hx hb dX9_check_70 (by decide) ?_
              refine lv_iload_n hx hb dX9_check_72 rfl (lv_at hl 1 rfl) ?_
              refine lv_iadd hx hb dX9_check_73 ?_
              refine lv_imul hx hb dX9_check_74 ?_
              refine lv_iadd hx hb dX9_check_75 ?_
              refine lv_iconst (v := 0) hx hb dX9_check_76 (by decide) ?_
              obtain ⟨I34, hI34, hf⟩ := bnd hf
              refine aw_iast C0 hW kd71 ln71 hI34 dX9_check_77 (fun H locs hW => ?_)
              refine lv_iconst (v := 0) hx hb dX9_check_78 (by decide) ?_
              have hz := Option.some.inj hf
              have hzV := congrArg (fun z : Int32 × Mem => z.1) hz
              have hzI := congrArg (fun z : Int32 × Mem => z.2) hz
              exact aw_iret C0 hW hzV hzI rfl dX9_check_79
          · have hf := ift hc hf
            refine lv_aload_n hx hb dX9_check_45 rfl (lv_at hl 0 rfl) ?_
            refine lv_iconst (v := 2) hx hb dX9_check_46 (by decide) ?_
            obtain ⟨q35, hq35, hf⟩ := bnd hf
            refine aw_cVi (rest := []) C0 hW (lv_fix (by decide)) (cel_8 kd70) rfl (c_X9_refuses 2  hq35) (cw_X9_119 hts ⟨Nat.le_of_ble_eq_true rfl, Nat.le_of_ble_eq_true rfl⟩) rfl hl.1 rfl (Nat.le_of_ble_eq_true rfl) ⟨Nat.zero_le _, Nat.zero_le _⟩ dX9_check_47 (fun H locs hW => ?_)
            have hz := Option.some.inj hf
            have hzV := congrArg (fun z : Int32 × Mem => z.1) hz
            have hzI := congrArg (fun z : Int32 × Mem => z.2) hz
            exact aw_iret C0 hW hzV hzI rfl dX9_check_50
      · have hf := ift hc hf
        refine lv_aload_n hx hb dX9_check_25 rfl (lv_at hl 0 rfl) ?_
        refine lv_iconst (v := 1) hx hb dX9_check_26 (by decide) ?_
        obtain ⟨q36, hq36, hf⟩ := bnd hf
        refine aw_cVi (rest := []) C0 hW (lv_fix (by decide)) (cel_8 kd70) rfl (c_X9_refuses 1  hq36) (cw_X9_119 hts ⟨Nat.le_of_ble_eq_true rfl, Nat.le_of_ble_eq_true rfl⟩) rfl hl.1 rfl (Nat.le_of_ble_eq_true rfl) ⟨Nat.zero_le _, Nat.zero_le _⟩ dX9_check_27 (fun H locs hW => ?_)
        have hz := Option.some.inj hf
        have hzV := congrArg (fun z : Int32 × Mem => z.1) hz
        have hzI := congrArg (fun z : Int32 × Mem => z.2) hz
        exact aw_iret C0 hW hzV hzI rfl dX9_check_30
def f_X9_clearBuffer (I : Mem) : Option (Int32 × Mem) :=
  some ((up I 70 7 0) 70 6, (up (up I 70 7 0) 70 6 0))
abbrev rmX9_clearBuffer : Room := { frames := 0, cells := 0, slots := 0, locals := 0 }
set_option maxHeartbeats 4000000 in
set_option maxRecDepth 100000 in
theorem c_X9_clearBuffer {l : Launch} {g : Gam} {I : Mem} {R : Rem} {P : Pool} {Z : Zed}   {z : Int32 × Mem} (hf : f_X9_clearBuffer I = some z) : Met l yX9_clearBuffer (Cond.code yX9_clearBuffer cX9_clearBuffer 2 (some .int) :: GT) rmX9_clearBuffer (va_Pc [.ref (g.2.2 + 70)] (PW g I R P Z)) (QI g z.1 z.2 R P Z) 0 0 (AA g) := by
  refine aw_ofW (lv0 := [(0, .ref (g.2.2 + 70))]) (by decide) (by exact Nat.le_of_ble_eq_true rfl) (by rfl) (fun p0 e s m args below meth c ls C0 hl hW => ?_)
  have C0 : CX g p0 s m args meth c RX9 cX9_clearBuffer 2 (some .int) := C0
  have hx := C0.1; have hb := C0.2.1; have hown := C0.2.2.2.2.1; have hts := C0.2.2.2.2.2.1; have hKS := C0.2.2.2.2.2.2.1
  unfold f_X9_clearBuffer at hf
  obtain ⟨H, hH⟩ : ∃ H, H = s.heap := ⟨_, rfl⟩
  obtain ⟨locs, hlc⟩ : ∃ q : List Loc, q = [] := ⟨_, rfl⟩
  rw [show W p0 l e rmX9_clearBuffer s m args below meth c s.heap [] 0 0 (MQ below (QI g z.1 z.2 R P Z) args s 0 0 (AA g)) (F0 m 0 ls []) = W p0 l e rmX9_clearBuffer s m args below meth c H locs 0 0 (MQ below (QI g z.1 z.2 R P Z) args s 0 0 (AA g)) (F0 m 0 ls []) by rw [hH, hlc]]
  have hW : Wd g I R P Z s.heap H locs := by rw [hH, hlc]; exact hW
  refine lv_aload_n hx hb dX9_clearBuffer_0 rfl (lv_at hl 0 rfl) ?_
  refine lv_iconst (v := 0) hx hb dX9_clearBuffer_1 (by decide) ?_
  refine aw_put C0 hW (lv_fix (by decide)) (cel_8 kd70) rfl inG8 tyX9 tyX9_ok nmX9 7 (by decide) wd79 rfl rfl (ty := .int) rfl rfl rfl (Nat.le_of_ble_eq_true rfl) (pu_8_7 kd70) dX9_clearBuffer_2 (fun H locs hW => ?_)
  refine lv_aload_n hx hb dX9_clearBuffer_5 rfl (lv_at hl 0 rfl) ?_
  refine aw_get (v := .int ((up I 70 7 0) 70 6)) C0 hW (lv_fix (by decide)) (cel_8 kd70) rfl inG8 6 (by decide) wd84 rfl rfl dX9_clearBuffer_6 ?_
  refine lv_istore_n (lv' := [(1, .int ((up I 70 7 0) 70 6)), (0, .ref (g.2.2 + 70))]) hx hb dX9_clearBuffer_9 rfl hl (Nat.le_of_ble_eq_true rfl) rfl (fun ls hl => ?_)
  refine lv_aload_n hx hb dX9_clearBuffer_10 rfl (lv_at hl 1 rfl) ?_
  refine lv_iconst (v := 0) hx hb dX9_clearBuffer_11 (by decide) ?_
  refine aw_put C0 hW (lv_fix (by decide)) (cel_8 kd70) rfl inG8 tyX9 tyX9_ok nmX9 6 (by decide) wd84 rfl rfl (ty := .int) rfl rfl rfl (Nat.le_of_ble_eq_true rfl) (pu_8_6 kd70) dX9_clearBuffer_12 (fun H locs hW => ?_)
  refine lv_iload_n hx hb dX9_clearBuffer_15 rfl (lv_at hl 0 rfl) ?_
  have hz := Option.some.inj hf
  have hzV := congrArg (fun z : Int32 × Mem => z.1) hz
  have hzI := congrArg (fun z : Int32 × Mem => z.2) hz
  exact aw_iret C0 hW hzV hzI rfl dX9_clearBuffer_16
def f_X9_sees (x1 : Int32) (x2 : Int32) (I : Mem) : Option (Int32) :=
  if (I 70 6) ≤ (I 70 14) then (
    some 0
  ) else (
    (rd I 75 60 (I 70 14)).bind fun v1 =>
    (f_X9_in v1 x1 x2).bind fun q2 =>
    if q2 = 0 then (
      some 0
    ) else (
      some 1
    )
  )
abbrev rmX9_sees : Room := { frames := 1, cells := 0, slots := 0, locals := 22 }
set_option maxHeartbeats 4000000 in
set_option maxRecDepth 100000 in
theorem c_X9_sees {l : Launch} {g : Gam} {I : Mem} {R : Rem} {P : Pool} {Z : Zed} (x1 : Int32) (x2 : Int32)  {z : Int32} (hf : f_X9_sees x1 x2 I = some z) : Met l yX9_sees (Cond.code yX9_sees cX9_sees 3 (some .boolean) :: GT) rmX9_sees (va_Pc [.ref (g.2.2 + 70), .int x1, .int x2] (PW g I R P Z)) (QI g z I R P Z) 0 0 (AA g) := by
  refine aw_ofW (lv0 := [(0, .ref (g.2.2 + 70)), (1, .int x1), (2, .int x2)]) (by decide) (by exact Nat.le_of_ble_eq_true rfl) (by rfl) (fun p0 e s m args below meth c ls C0 hl hW => ?_)
  have C0 : CX g p0 s m args meth c RX9 cX9_sees 3 (some .boolean) := C0
  have hx := C0.1; have hb := C0.2.1; have hown := C0.2.2.2.2.1; have hts := C0.2.2.2.2.2.1; have hKS := C0.2.2.2.2.2.2.1
  unfold f_X9_sees at hf
  obtain ⟨H, hH⟩ : ∃ H, H = s.heap := ⟨_, rfl⟩
  obtain ⟨locs, hlc⟩ : ∃ q : List Loc, q = [] := ⟨_, rfl⟩
  rw [show W p0 l e rmX9_sees s m args below meth c s.heap [] 0 0 (MQ below (QI g z I R P Z) args s 0 0 (AA g)) (F0 m 0 ls []) = W p0 l e rmX9_sees s m args below meth c H locs 0 0 (MQ below (QI g z I R P Z) args s 0 0 (AA g)) (F0 m 0 ls []) by rw [hH, hlc]]
  have hW : Wd g I R P Z s.heap H locs := by rw [hH, hlc]; exact hW
  refine lv_aload_n hx hb dX9_sees_0 rfl (lv_at hl 0 rfl) ?_
  refine aw_get (v := .int (I 70 14)) C0 hW (lv_fix (by decide)) (cel_8 kd70) rfl inG8 14 (by decide) wd86 rfl rfl dX9_sees_1 ?_
  refine lv_aload_n hx hb dX9_sees_4 rfl (lv_at hl 0 rfl) ?_
  refine aw_get (v := .int (I 70 6)) C0 hW (lv_fix (by decide)) (cel_8 kd70) rfl inG8 6 (by decide) wd84 rfl rfl dX9_sees_5 ?_
  refine lv_icmp_ge (tgt := 32) hx hb dX9_sees_8 rfl (fun hc => ?_) (fun hc => ?_)
  · have hf := ift hc hf
    refine lv_iconst (v := 0) hx hb dX9_sees_32 (by decide) ?_
    have hz := Option.some.inj hf
    exact aw_zret C0 hW rfl hz rfl rfl dX9_sees_33
  · have hf := iff_ hc hf
    refine lv_aload_n hx hb dX9_sees_11 rfl (lv_at hl 0 rfl) ?_
    refine aw_get (v := .ref (g.2.2 + 75)) C0 hW (lv_fix (by decide)) (cel_8 kd70) rfl inG8 5 (by decide) wd85 rfl rfl dX9_sees_12 ?_
    refine lv_aload_n hx hb dX9_sees_15 rfl (lv_at hl 0 rfl) ?_
    refine aw_get (v := .int (I 70 14)) C0 hW (lv_fix (by decide)) (cel_8 kd70) rfl inG8 14 (by decide) wd86 rfl rfl dX9_sees_16 ?_
    obtain ⟨v1, hv1, hf⟩ := bnd hf
    refine aw_iald C0 hW kd75 ln75 hv1 dX9_sees_19 ?_
    refine lv_iload_n hx hb dX9_sees_20 rfl (lv_at hl 1 rfl) ?_
    refine lv_iload_n hx hb dX9_sees_21 rfl (lv_at hl 2 rfl) ?_
    obtain ⟨q2, hq2, hf⟩ := bnd hf
    refine aw_cSi (rest := []) C0 hW (c_X9_in v1 x1 x2  hq2) (cw_X9_62 hts ⟨Nat.le_of_ble_eq_true rfl, Nat.le_of_ble_eq_true rfl⟩) rfl hl.1 rfl (Nat.le_of_ble_eq_true rfl) ⟨Nat.zero_le _, Nat.zero_le _⟩ dX9_sees_22 (fun H locs hW => ?_)
    refine lv_if_eq (tgt := 32) hx hb dX9_sees_25 rfl (fun hc => ?_) (fun hc => ?_)
    · have hf := ift hc hf
      refine lv_iconst (v := 0) hx hb dX9_sees_32 (by decide) ?_
      have hz := Option.some.inj hf
      exact aw_zret C0 hW rfl hz rfl rfl dX9_sees_33
    · have hf := iff_ hc hf
      refine lv_iconst (v := 1) hx hb dX9_sees_28 (by decide) ?_
      refine lv_goto (tgt := 33) hx hb dX9_sees_29 rfl ?_
      have hz := Option.some.inj hf
      exact aw_zret C0 hW rfl hz rfl rfl dX9_sees_33
theorem cw_X9_179 {Rm : Room} {s : State} {args : Array Value} (ht : ∀ w ∈ GT, w.before args s = true) (hR : rmX9_sees.frames + 1 ≤ Rm.frames ∧ 8 + (3 + 11) + rmX9_sees.locals ≤ Rm.locals) : CallW Rm s args RX9 RX9 179 yX9_sees cX9_sees 3 (some .boolean) (Cond.code yX9_sees cX9_sees 3 (some .boolean) :: GT) rmX9_sees 0 0 2 := cwV 2 ht (goodV wd685 wd686 wd687 wd607 wd688) rfl rfl rfl ⟨rfl, by decide +kernel, by decide +kernel, by decide +kernel⟩ hR
def f_X9_takes (x1 : Int32) (I : Mem) : Option (Int32 × Mem) :=
  (f_X9_sees x1 x1 I).bind fun q1 =>
  if q1 = 0 then (
    if narrow .boolean (.int q1) = .int q1 then
    some (q1, (up I 70 14 ((I 70 14) + 0)))
    else none
  ) else (
    if narrow .boolean (.int q1) = .int q1 then
    some (q1, (up I 70 14 ((I 70 14) + 1)))
    else none
  )
abbrev rmX9_takes : Room := { frames := 2, cells := 0, slots := 0, locals := 44 }
set_option maxHeartbeats 4000000 in
set_option maxRecDepth 100000 in
theorem c_X9_takes {l : Launch} {g : Gam} {I : Mem} {R : Rem} {P : Pool} {Z : Zed} (x1 : Int32)  {z : Int32 × Mem} (hf : f_X9_takes x1 I = some z) : Met l yX9_takes (Cond.code yX9_takes cX9_takes 3 (some .boolean) :: GT) rmX9_takes (va_Pc [.ref (g.2.2 + 70), .int x1] (PW g I R P Z)) (QI g z.1 z.2 R P Z) 0 0 (AA g) := by
  refine aw_ofW (lv0 := [(0, .ref (g.2.2 + 70)), (1, .int x1)]) (by decide) (by exact Nat.le_of_ble_eq_true rfl) (by rfl) (fun p0 e s m args below meth c ls C0 hl hW => ?_)
  have C0 : CX g p0 s m args meth c RX9 cX9_takes 3 (some .boolean) := C0
  have hx := C0.1; have hb := C0.2.1; have hown := C0.2.2.2.2.1; have hts := C0.2.2.2.2.2.1; have hKS := C0.2.2.2.2.2.2.1
  unfold f_X9_takes at hf
  obtain ⟨H, hH⟩ : ∃ H, H = s.heap := ⟨_, rfl⟩
  obtain ⟨locs, hlc⟩ : ∃ q : List Loc, q = [] := ⟨_, rfl⟩
  rw [show W p0 l e rmX9_takes s m args below meth c s.heap [] 0 0 (MQ below (QI g z.1 z.2 R P Z) args s 0 0 (AA g)) (F0 m 0 ls []) = W p0 l e rmX9_takes s m args below meth c H locs 0 0 (MQ below (QI g z.1 z.2 R P Z) args s 0 0 (AA g)) (F0 m 0 ls []) by rw [hH, hlc]]
  have hW : Wd g I R P Z s.heap H locs := by rw [hH, hlc]; exact hW
  refine lv_aload_n hx hb dX9_takes_0 rfl (lv_at hl 0 rfl) ?_
  refine lv_iload_n hx hb dX9_takes_1 rfl (lv_at hl 1 rfl) ?_
  refine lv_iload_n hx hb dX9_takes_2 rfl (lv_at hl 1 rfl) ?_
  obtain ⟨q1, hq1, hf⟩ := bnd hf
  refine aw_cVi (rest := []) C0 hW (lv_fix (by decide)) (cel_8 kd70) rfl (c_X9_sees x1 x1  hq1) (cw_X9_179 hts ⟨Nat.le_of_ble_eq_true rfl, Nat.le_of_ble_eq_true rfl⟩) rfl hl.1 rfl (Nat.le_of_ble_eq_true rfl) ⟨Nat.zero_le _, Nat.zero_le _⟩ dX9_takes_3 (fun H locs hW => ?_)
  refine lv_istore_n (lv' := [(2, .int q1), (0, .ref (g.2.2 + 70)), (1, .int x1)]) hx hb dX9_takes_6 rfl hl (Nat.le_of_ble_eq_true rfl) rfl (fun ls hl => ?_)
  refine lv_aload_n hx hb dX9_takes_7 rfl (lv_at hl 1 rfl) ?_
  refine lv_dup hx hb dX9_takes_8 rfl ?_
  refine aw_get (v := .int (I 70 14)) C0 hW (lv_fix (by decide)) (cel_8 kd70) rfl inG8 14 (by decide) wd86 rfl rfl dX9_takes_9 ?_
  refine lv_iload_n hx hb dX9_takes_12 rfl (lv_at hl 0 rfl) ?_
  refine lv_if_eq (tgt := 20) hx hb dX9_takes_13 rfl (fun hc => ?_) (fun hc => ?_)
  · have hf := ift hc hf
    refine lv_iconst (v := 0) hx hb dX9_takes_20 (by decide) ?_
    refine lv_iadd hx hb dX9_takes_21 ?_
    refine aw_put C0 hW (lv_fix (by decide)) (cel_8 kd70) rfl inG8 tyX9 tyX9_ok nmX9 14 (by decide) wd86 rfl rfl (ty := .int) rfl rfl rfl (Nat.le_of_ble_eq_true rfl) (pu_8_14 kd70) dX9_takes_22 (fun H locs hW => ?_)
    refine lv_iload_n hx hb dX9_takes_25 rfl (lv_at hl 0 rfl) ?_
    obtain ⟨hnw, hf⟩ := ifn hf
    have hz := Option.some.inj hf
    have hzV := congrArg (fun z : Int32 × Mem => z.1) hz
    have hzI := congrArg (fun z : Int32 × Mem => z.2) hz
    exact aw_zret C0 hW hnw hzV hzI rfl dX9_takes_26
  · have hf := iff_ hc hf
    refine lv_iconst (v := 1) hx hb dX9_takes_16 (by decide) ?_
    refine lv_goto (tgt := 21) hx hb dX9_takes_17 rfl ?_
    refine lv_iadd hx hb dX9_takes_21 ?_
    refine aw_put C0 hW (lv_fix (by decide)) (cel_8 kd70) rfl inG8 tyX9 tyX9_ok nmX9 14 (by decide) wd86 rfl rfl (ty := .int) rfl rfl rfl (Nat.le_of_ble_eq_true rfl) (pu_8_14 kd70) dX9_takes_22 (fun H locs hW => ?_)
    refine lv_iload_n hx hb dX9_takes_25 rfl (lv_at hl 0 rfl) ?_
    obtain ⟨hnw, hf⟩ := ifn hf
    have hz := Option.some.inj hf
    have hzV := congrArg (fun z : Int32 × Mem => z.1) hz
    have hzI := congrArg (fun z : Int32 × Mem => z.2) hz
    exact aw_zret C0 hW hnw hzV hzI rfl dX9_takes_26
theorem cw_X9_191 {Rm : Room} {s : State} {args : Array Value} (ht : ∀ w ∈ GT, w.before args s = true) (hR : rmX9_takes.frames + 1 ≤ Rm.frames ∧ 8 + (3 + 11) + rmX9_takes.locals ≤ Rm.locals) : CallW Rm s args RX9 RX9 191 yX9_takes cX9_takes 3 (some .boolean) (Cond.code yX9_takes cX9_takes 3 (some .boolean) :: GT) rmX9_takes 0 0 1 := cwV 1 ht (goodV wd696 wd697 wd698 wd607 wd699) rfl rfl rfl ⟨rfl, by decide +kernel, by decide +kernel, by decide +kernel⟩ hR
def f_X9_isWaiting (x1 : Int32) (I : Mem) : Option (Int32) :=
  if (I 70 16) ≤ 0 then (
    some 0
  ) else (
    (rd I 80 60 ((I 70 16) - 1)).bind fun v1 =>
    if v1 = x1 then (
      some 1
    ) else (
      some 0
    )
  )
abbrev rmX9_isWaiting : Room := { frames := 0, cells := 0, slots := 0, locals := 0 }
set_option maxHeartbeats 4000000 in
set_option maxRecDepth 100000 in
theorem c_X9_isWaiting {l : Launch} {g : Gam} {I : Mem} {R : Rem} {P : Pool} {Z : Zed} (x1 : Int32)  {z : Int32} (hf : f_X9_isWaiting x1 I = some z) : Met l yX9_isWaiting (Cond.code yX9_isWaiting cX9_isWaiting 2 (some .boolean) :: GT) rmX9_isWaiting (va_Pc [.ref (g.2.2 + 70), .int x1] (PW g I R P Z)) (QI g z I R P Z) 0 0 (AA g) := by
  refine aw_ofW (lv0 := [(0, .ref (g.2.2 + 70)), (1, .int x1)]) (by decide) (by exact Nat.le_of_ble_eq_true rfl) (by rfl) (fun p0 e s m args below meth c ls C0 hl hW => ?_)
  have C0 : CX g p0 s m args meth c RX9 cX9_isWaiting 2 (some .boolean) := C0
  have hx := C0.1; have hb := C0.2.1; have hown := C0.2.2.2.2.1; have hts := C0.2.2.2.2.2.1; have hKS := C0.2.2.2.2.2.2.1
  unfold f_X9_isWaiting at hf
  obtain ⟨H, hH⟩ : ∃ H, H = s.heap := ⟨_, rfl⟩
  obtain ⟨locs, hlc⟩ : ∃ q : List Loc, q = [] := ⟨_, rfl⟩
  rw [show W p0 l e rmX9_isWaiting s m args below meth c s.heap [] 0 0 (MQ below (QI g z I R P Z) args s 0 0 (AA g)) (F0 m 0 ls []) = W p0 l e rmX9_isWaiting s m args below meth c H locs 0 0 (MQ below (QI g z I R P Z) args s 0 0 (AA g)) (F0 m 0 ls []) by rw [hH, hlc]]
  have hW : Wd g I R P Z s.heap H locs := by rw [hH, hlc]; exact hW
  refine lv_aload_n hx hb dX9_isWaiting_0 rfl (lv_at hl 0 rfl) ?_
  refine aw_get (v := .int (I 70 16)) C0 hW (lv_fix (by decide)) (cel_8 kd70) rfl inG8 16 (by decide) wd87 rfl rfl dX9_isWaiting_1 ?_
  refine lv_if_le (tgt := 26) hx hb dX9_isWaiting_4 rfl (fun hc => ?_) (fun hc => ?_)
  · have hf := ift hc hf
    refine lv_iconst (v := 0) hx hb dX9_isWaiting_26 (by decide) ?_
    have hz := Option.some.inj hf
    exact aw_zret C0 hW rfl hz rfl rfl dX9_isWaiting_27
  · have hf := iff_ hc hf
    refine lv_aload_n hx hb dX9_isWaiting_7 rfl (lv_at hl 0 rfl) ?_
    refine aw_get (v := .ref (g.2.2 + 80)) C0 hW (lv_fix (by decide)) (cel_8 kd70) rfl inG8 15 (by decide) wd88 rfl rfl dX9_isWaiting_8 ?_
    refine lv_aload_n hx hb dX9_isWaiting_11 rfl (lv_at hl 0 rfl) ?_
    refine aw_get (v := .int (I 70 16)) C0 hW (lv_fix (by decide)) (cel_8 kd70) rfl inG8 16 (by decide) wd87 rfl rfl dX9_isWaiting_12 ?_
    refine lv_iconst (v := 1) hx hb dX9_isWaiting_15 (by decide) ?_
    refine lv_isub hx hb dX9_isWaiting_16 ?_
    obtain ⟨v1, hv1, hf⟩ := bnd hf
    refine aw_iald C0 hW kd80 ln80 hv1 dX9_isWaiting_17 ?_
    refine lv_iload_n hx hb dX9_isWaiting_18 rfl (lv_at hl 1 rfl) ?_
    refine lv_icmp_ne (tgt := 26) hx hb dX9_isWaiting_19 rfl (fun hc => ?_) (fun hc => ?_)
    · have hf := iff_ hc hf
      refine lv_iconst (v := 0) hx hb dX9_isWaiting_26 (by decide) ?_
      have hz := Option.some.inj hf
      exact aw_zret C0 hW rfl hz rfl rfl dX9_isWaiting_27
    · have hf := ift hc hf
      refine lv_iconst (v := 1) hx hb dX9_isWaiting_22 (by decide) ?_
      refine lv_goto (tgt := 27) hx hb dX9_isWaiting_23 rfl ?_
      have hz := Option.some.inj hf
      exact aw_zret C0 hW rfl hz rfl rfl dX9_isWaiting_27
theorem cw_X9_185 {Rm : Room} {s : State} {args : Array Value} (ht : ∀ w ∈ GT, w.before args s = true) (hR : rmX9_isWaiting.frames + 1 ≤ Rm.frames ∧ 8 + (2 + 11) + rmX9_isWaiting.locals ≤ Rm.locals) : CallW Rm s args RX9 RX9 185 yX9_isWaiting cX9_isWaiting 2 (some .boolean) (Cond.code yX9_isWaiting cX9_isWaiting 2 (some .boolean) :: GT) rmX9_isWaiting 0 0 1 := cwV 1 ht (goodV wd689 wd690 wd691 wd607 wd692) rfl rfl rfl ⟨rfl, by decide +kernel, by decide +kernel, by decide +kernel⟩ hR
def f_X9_makes (x1 : Int32) (I : Mem) : Option (Mem) :=
  (wr I 79 60 (I 70 13) x1).bind fun I1 =>
  some ((up I1 70 13 ((I1 70 13) + 1)))
abbrev rmX9_makes : Room := { frames := 0, cells := 0, slots := 0, locals := 0 }
set_option maxHeartbeats 4000000 in
set_option maxRecDepth 100000 in
theorem c_X9_makes {l : Launch} {g : Gam} {I : Mem} {R : Rem} {P : Pool} {Z : Zed} (x1 : Int32)  {z : Mem} (hf : f_X9_makes x1 I = some z) : Met l yX9_makes (Cond.code yX9_makes cX9_makes 2 none :: GT) rmX9_makes (va_Pc [.ref (g.2.2 + 70), .int x1] (PW g I R P Z)) (QV g z R P Z) 0 0 (AA g) := by
  refine aw_ofW (lv0 := [(0, .ref (g.2.2 + 70)), (1, .int x1)]) (by decide) (by exact Nat.le_of_ble_eq_true rfl) (by rfl) (fun p0 e s m args below meth c ls C0 hl hW => ?_)
  have C0 : CX g p0 s m args meth c RX9 cX9_makes 2 none := C0
  have hx := C0.1; have hb := C0.2.1; have hown := C0.2.2.2.2.1; have hts := C0.2.2.2.2.2.1; have hKS := C0.2.2.2.2.2.2.1
  unfold f_X9_makes at hf
  obtain ⟨H, hH⟩ : ∃ H, H = s.heap := ⟨_, rfl⟩
  obtain ⟨locs, hlc⟩ : ∃ q : List Loc, q = [] := ⟨_, rfl⟩
  rw [show W p0 l e rmX9_makes s m args below meth c s.heap [] 0 0 (MQ below (QV g z R P Z) args s 0 0 (AA g)) (F0 m 0 ls []) = W p0 l e rmX9_makes s m args below meth c H locs 0 0 (MQ below (QV g z R P Z) args s 0 0 (AA g)) (F0 m 0 ls []) by rw [hH, hlc]]
  have hW : Wd g I R P Z s.heap H locs := by rw [hH, hlc]; exact hW
  refine lv_aload_n hx hb dX9_makes_0 rfl (lv_at hl 0 rfl) ?_
  refine aw_get (v := .ref (g.2.2 + 79)) C0 hW (lv_fix (by decide)) (cel_8 kd70) rfl inG8 12 (by decide) wd89 rfl rfl dX9_makes_1 ?_
  refine lv_aload_n hx hb dX9_makes_4 rfl (lv_at hl 0 rfl) ?_
  refine aw_get (v := .int (I 70 13)) C0 hW (lv_fix (by decide)) (cel_8 kd70) rfl inG8 13 (by decide) wd90 rfl rfl dX9_makes_5 ?_
  refine lv_iload_n hx hb dX9_makes_8 rfl (lv_at hl 1 rfl) ?_
  obtain ⟨I1, hI1, hf⟩ := bnd hf
  refine aw_iast C0 hW kd79 ln79 hI1 dX9_makes_9 (fun H locs hW => ?_)
  refine lv_aload_n hx hb dX9_makes_10 rfl (lv_at hl 0 rfl) ?_
  refine lv_dup hx hb dX9_makes_11 rfl ?_
  refine aw_get (v := .int (I1 70 13)) C0 hW (lv_fix (by decide)) (cel_8 kd70) rfl inG8 13 (by decide) wd90 rfl rfl dX9_makes_12 ?_
  refine lv_iconst (v := 1) hx hb dX9_makes_15 (by decide) ?_
  refine lv_iadd hx hb dX9_makes_16 ?_
  refine aw_put C0 hW (lv_fix (by decide)) (cel_8 kd70) rfl inG8 tyX9 tyX9_ok nmX9 13 (by decide) wd90 rfl rfl (ty := .int) rfl rfl rfl (Nat.le_of_ble_eq_true rfl) (pu_8_13 kd70) dX9_makes_17 (fun H locs hW => ?_)
  have hz := Option.some.inj hf
  exact aw_vret C0 hW hz rfl dX9_makes_20
theorem cw_X9_144 {Rm : Room} {s : State} {args : Array Value} (ht : ∀ w ∈ GT, w.before args s = true) (hR : rmX9_makes.frames + 1 ≤ Rm.frames ∧ 8 + (2 + 11) + rmX9_makes.locals ≤ Rm.locals) : CallW Rm s args RX9 RX9 144 yX9_makes cX9_makes 2 none (Cond.code yX9_makes cX9_makes 2 none :: GT) rmX9_makes 0 0 1 := cwV 1 ht (goodV wd651 wd652 wd653 wd607 wd654) rfl rfl rfl ⟨rfl, by decide +kernel, by decide +kernel, by decide +kernel⟩ hR
def f_X9_pops_L0 (x1 : Int32) (x2 : Int32) : Nat → Mem → Option (Mem)
  | 0, _ => none
  | n + 1, I =>
    (f_X9_isWaiting x1 I).bind fun q1 =>
    if q1 = 0 then (
      some I
    ) else (
      (f_X9_makes x2 ((up I 70 16 ((I 70 16) - 1)))).bind fun q2 =>
      f_X9_pops_L0 x1 x2 n q2
    )
def f_X9_pops (x1 : Int32) (x2 : Int32) (I : Mem) : Option (Mem) :=
  (f_X9_pops_L0 x1 x2 fuel I).bind fun q3 =>
  some q3
abbrev rmX9_pops : Room := { frames := 1, cells := 0, slots := 0, locals := 21 }
set_option maxHeartbeats 4000000 in
set_option maxRecDepth 100000 in
theorem c_X9_pops {l : Launch} {g : Gam} {I : Mem} {R : Rem} {P : Pool} {Z : Zed} (x1 : Int32) (x2 : Int32)  {z : Mem} (hf : f_X9_pops x1 x2 I = some z) : Met l yX9_pops (Cond.code yX9_pops cX9_pops 3 none :: GT) rmX9_pops (va_Pc [.ref (g.2.2 + 70), .int x1, .int x2] (PW g I R P Z)) (QV g z R P Z) 0 0 (AA g) := by
  refine aw_ofW (lv0 := [(0, .ref (g.2.2 + 70)), (1, .int x1), (2, .int x2)]) (by decide) (by exact Nat.le_of_ble_eq_true rfl) (by rfl) (fun p0 e s m args below meth c ls C0 hl hW => ?_)
  have C0 : CX g p0 s m args meth c RX9 cX9_pops 3 none := C0
  have hx := C0.1; have hb := C0.2.1; have hown := C0.2.2.2.2.1; have hts := C0.2.2.2.2.2.1; have hKS := C0.2.2.2.2.2.2.1
  have L0 : ∀ (n : Nat) (I : Mem) (H : Heap) (locs : List Loc) (ls : Array Slot) (o : Mem), f_X9_pops_L0 x1 x2 n I = some o → Wd g I R P Z s.heap H locs → lv_has ls 3 [(0, .ref (g.2.2 + 70)), (1, .int x1), (2, .int x2)] → (∀ (H : Heap) (locs : List Loc) (ls : Array Slot), Wd g o R P Z s.heap H locs → lv_has ls 3 [] → W p0 l e rmX9_pops s m args below meth c H locs 0 0 (MQ below (QV g z R P Z) args s 0 0 (AA g)) (F0 m 26 ls [])) → W p0 l e rmX9_pops s m args below meth c H locs 0 0 (MQ below (QV g z R P Z) args s 0 0 (AA g)) (F0 m 0 ls []) := by
    intro n
    induction n with
    | zero => intro I H locs ls o hf; cases hf
    | succ n ih =>
      intro I H locs ls o hf hW hl hK
      rw [f_X9_pops_L0] at hf
      refine lv_aload_n hx hb dX9_pops_0 rfl (lv_at hl 0 rfl) ?_
      refine lv_iload_n hx hb dX9_pops_1 rfl (lv_at hl 1 rfl) ?_
      obtain ⟨q1, hq1, hf⟩ := bnd hf
      refine aw_cVi (rest := []) C0 hW (lv_fix (by decide)) (cel_8 kd70) rfl (c_X9_isWaiting x1  hq1) (cw_X9_185 hts ⟨Nat.le_of_ble_eq_true rfl, Nat.le_of_ble_eq_true rfl⟩) rfl hl.1 rfl (Nat.le_of_ble_eq_true rfl) ⟨Nat.zero_le _, Nat.zero_le _⟩ dX9_pops_2 (fun H locs hW => ?_)
      refine lv_if_eq (tgt := 26) hx hb dX9_pops_5 rfl (fun hc => ?_) (fun hc => ?_)
      · have hf := ift hc hf
        have ho := Option.some.inj hf
        subst ho
        exact hK H locs ls hW (lv_sub hl [] rfl)
      · have hf := iff_ hc hf
        refine lv_aload_n hx hb dX9_pops_8 rfl (lv_at hl 0 rfl) ?_
        refine lv_dup hx hb dX9_pops_9 rfl ?_
        refine aw_get (v := .int (I 70 16)) C0 hW (lv_fix (by decide)) (cel_8 kd70) rfl inG8 16 (by decide) wd87 rfl rfl dX9_pops_10 ?_
        refine lv_iconst (v := 1) hx hb dX9_pops_13 (by decide) ?_
        refine lv_isub hx hb dX9_pops_14 ?_
        refine aw_put C0 hW (lv_fix (by decide)) (cel_8 kd70) rfl inG8 tyX9 tyX9_ok nmX9 16 (by decide) wd87 rfl rfl (ty := .int) rfl rfl rfl (Nat.le_of_ble_eq_true rfl) (pu_8_16 kd70) dX9_pops_15 (fun H locs hW => ?_)
        refine lv_aload_n hx hb dX9_pops_18 rfl (lv_at hl 0 rfl) ?_
        refine lv_iload_n hx hb dX9_pops_19 rfl (lv_at hl 2 rfl) ?_
        obtain ⟨q2, hq2, hf⟩ := bnd hf
        refine aw_cVv (rest := []) C0 hW (lv_fix (by decide)) (cel_8 kd70) rfl (c_X9_makes x2  hq2) (cw_X9_144 hts ⟨Nat.le_of_ble_eq_true rfl, Nat.le_of_ble_eq_true rfl⟩) rfl hl.1 rfl (Nat.le_of_ble_eq_true rfl) ⟨Nat.zero_le _, Nat.zero_le _⟩ dX9_pops_20 (fun H locs hW => ?_)
        refine lv_goto (tgt := 0) hx hb dX9_pops_23 rfl ?_
        exact ih _ H locs ls o hf hW (lv_sub hl [0, 1, 2] rfl) hK
  unfold f_X9_pops at hf
  obtain ⟨H, hH⟩ : ∃ H, H = s.heap := ⟨_, rfl⟩
  obtain ⟨locs, hlc⟩ : ∃ q : List Loc, q = [] := ⟨_, rfl⟩
  rw [show W p0 l e rmX9_pops s m args below meth c s.heap [] 0 0 (MQ below (QV g z R P Z) args s 0 0 (AA g)) (F0 m 0 ls []) = W p0 l e rmX9_pops s m args below meth c H locs 0 0 (MQ below (QV g z R P Z) args s 0 0 (AA g)) (F0 m 0 ls []) by rw [hH, hlc]]
  have hW : Wd g I R P Z s.heap H locs := by rw [hH, hlc]; exact hW
  obtain ⟨q3, hq3, hf⟩ := bnd hf
  refine L0  fuel I H locs ls _ hq3 hW (lv_sub hl [0, 1, 2] rfl) (fun H locs ls hW hl => ?_)
  have hz := Option.some.inj hf
  exact aw_vret C0 hW hz rfl dX9_pops_26
theorem cw_X9_209 {Rm : Room} {s : State} {args : Array Value} (ht : ∀ w ∈ GT, w.before args s = true) (hR : rmX9_pops.frames + 1 ≤ Rm.frames ∧ 8 + (3 + 11) + rmX9_pops.locals ≤ Rm.locals) : CallW Rm s args RX9 RX9 209 yX9_pops cX9_pops 3 none (Cond.code yX9_pops cX9_pops 3 none :: GT) rmX9_pops 0 0 2 := cwV 2 ht (goodV wd716 wd717 wd718 wd607 wd719) rfl rfl rfl ⟨rfl, by decide +kernel, by decide +kernel, by decide +kernel⟩ hR
def f_X9_ends_L0  : Nat → Mem → Option (Mem)
  | 0, _ => none
  | n + 1, I =>
    (f_X9_isWaiting 33 I).bind fun q1 =>
    if q1 = 0 then (
      some I
    ) else (
      (f_X9_makes 0 ((up I 70 16 ((I 70 16) - 1)))).bind fun q2 =>
      f_X9_ends_L0 n q2
    )
def f_X9_ends (I : Mem) : Option (Mem) :=
  (f_X9_ends_L0 fuel I).bind fun q3 =>
  some q3
abbrev rmX9_ends : Room := { frames := 1, cells := 0, slots := 0, locals := 21 }
set_option maxHeartbeats 4000000 in
set_option maxRecDepth 100000 in
theorem c_X9_ends {l : Launch} {g : Gam} {I : Mem} {R : Rem} {P : Pool} {Z : Zed}   {z : Mem} (hf : f_X9_ends I = some z) : Met l yX9_ends (Cond.code yX9_ends cX9_ends 1 none :: GT) rmX9_ends (va_Pc [.ref (g.2.2 + 70)] (PW g I R P Z)) (QV g z R P Z) 0 0 (AA g) := by
  refine aw_ofW (lv0 := [(0, .ref (g.2.2 + 70))]) (by decide) (by exact Nat.le_of_ble_eq_true rfl) (by rfl) (fun p0 e s m args below meth c ls C0 hl hW => ?_)
  have C0 : CX g p0 s m args meth c RX9 cX9_ends 1 none := C0
  have hx := C0.1; have hb := C0.2.1; have hown := C0.2.2.2.2.1; have hts := C0.2.2.2.2.2.1; have hKS := C0.2.2.2.2.2.2.1
  have L0 : ∀ (n : Nat) (I : Mem) (H : Heap) (locs : List Loc) (ls : Array Slot) (o : Mem), f_X9_ends_L0 n I = some o → Wd g I R P Z s.heap H locs → lv_has ls 1 [(0, .ref (g.2.2 + 70))] → (∀ (H : Heap) (locs : List Loc) (ls : Array Slot), Wd g o R P Z s.heap H locs → lv_has ls 1 [] → W p0 l e rmX9_ends s m args below meth c H locs 0 0 (MQ below (QV g z R P Z) args s 0 0 (AA g)) (F0 m 27 ls [])) → W p0 l e rmX9_ends s m args below meth c H locs 0 0 (MQ below (QV g z R P Z) args s 0 0 (AA g)) (F0 m 0 ls []) := by
    intro n
    induction n with
    | zero => intro I H locs ls o hf; cases hf
    | succ n ih =>
      intro I H locs ls o hf hW hl hK
      rw [f_X9_ends_L0] at hf
      refine lv_aload_n hx hb dX9_ends_0 rfl (lv_at hl 0 rfl) ?_
      refine lv_bipush (v := 33) hx hb dX9_ends_1 (by decide) ?_
      obtain ⟨q1, hq1, hf⟩ := bnd hf
      refine aw_cVi (rest := []) C0 hW (lv_fix (by decide)) (cel_8 kd70) rfl (c_X9_isWaiting 33  hq1) (cw_X9_185 hts ⟨Nat.le_of_ble_eq_true rfl, Nat.le_of_ble_eq_true rfl⟩) rfl hl.1 rfl (Nat.le_of_ble_eq_true rfl) ⟨Nat.zero_le _, Nat.zero_le _⟩ dX9_ends_3 (fun H locs hW => ?_)
      refine lv_if_eq (tgt := 27) hx hb dX9_ends_6 rfl (fun hc => ?_) (fun hc => ?_)
      · have hf := ift hc hf
        have ho := Option.some.inj hf
        subst ho
        exact hK H locs ls hW (lv_sub hl [] rfl)
      · have hf := iff_ hc hf
        refine lv_aload_n hx hb dX9_ends_9 rfl (lv_at hl 0 rfl) ?_
        refine lv_dup hx hb dX9_ends_10 rfl ?_
        refine aw_get (v := .int (I 70 16)) C0 hW (lv_fix (by decide)) (cel_8 kd70) rfl inG8 16 (by decide) wd87 rfl rfl dX9_ends_11 ?_
        refine lv_iconst (v := 1) hx hb dX9_ends_14 (by decide) ?_
        refine lv_isub hx hb dX9_ends_15 ?_
        refine aw_put C0 hW (lv_fix (by decide)) (cel_8 kd70) rfl inG8 tyX9 tyX9_ok nmX9 16 (by decide) wd87 rfl rfl (ty := .int) rfl rfl rfl (Nat.le_of_ble_eq_true rfl) (pu_8_16 kd70) dX9_ends_16 (fun H locs hW => ?_)
        refine lv_aload_n hx hb dX9_ends_19 rfl (lv_at hl 0 rfl) ?_
        refine lv_iconst (v := 0) hx hb dX9_ends_20 (by decide) ?_
        obtain ⟨q2, hq2, hf⟩ := bnd hf
        refine aw_cVv (rest := []) C0 hW (lv_fix (by decide)) (cel_8 kd70) rfl (c_X9_makes 0  hq2) (cw_X9_144 hts ⟨Nat.le_of_ble_eq_true rfl, Nat.le_of_ble_eq_true rfl⟩) rfl hl.1 rfl (Nat.le_of_ble_eq_true rfl) ⟨Nat.zero_le _, Nat.zero_le _⟩ dX9_ends_21 (fun H locs hW => ?_)
        refine lv_goto (tgt := 0) hx hb dX9_ends_24 rfl ?_
        exact ih _ H locs ls o hf hW (lv_sub hl [0] rfl) hK
  unfold f_X9_ends at hf
  obtain ⟨H, hH⟩ : ∃ H, H = s.heap := ⟨_, rfl⟩
  obtain ⟨locs, hlc⟩ : ∃ q : List Loc, q = [] := ⟨_, rfl⟩
  rw [show W p0 l e rmX9_ends s m args below meth c s.heap [] 0 0 (MQ below (QV g z R P Z) args s 0 0 (AA g)) (F0 m 0 ls []) = W p0 l e rmX9_ends s m args below meth c H locs 0 0 (MQ below (QV g z R P Z) args s 0 0 (AA g)) (F0 m 0 ls []) by rw [hH, hlc]]
  have hW : Wd g I R P Z s.heap H locs := by rw [hH, hlc]; exact hW
  obtain ⟨q3, hq3, hf⟩ := bnd hf
  refine L0  fuel I H locs ls _ hq3 hW (lv_sub hl [0] rfl) (fun H locs ls hW hl => ?_)
  have hz := Option.some.inj hf
  exact aw_vret C0 hW hz rfl dX9_ends_27
theorem cw_X9_206 {Rm : Room} {s : State} {args : Array Value} (ht : ∀ w ∈ GT, w.before args s = true) (hR : rmX9_ends.frames + 1 ≤ Rm.frames ∧ 8 + (1 + 11) + rmX9_ends.locals ≤ Rm.locals) : CallW Rm s args RX9 RX9 206 yX9_ends cX9_ends 1 none (Cond.code yX9_ends cX9_ends 1 none :: GT) rmX9_ends 0 0 0 := cwV 0 ht (goodV wd712 wd713 wd714 wd607 wd715) rfl rfl rfl ⟨rfl, by decide +kernel, by decide +kernel, by decide +kernel⟩ hR
def f_X9_closes_L0  : Nat → Mem → Option (Mem)
  | 0, _ => none
  | n + 1, I =>
    if (I 70 17) ≤ 0 then (
      some I
    ) else (
      (f_X9_takes 41 I).bind fun q1 =>
      if q1.1 = 0 then (
        some q1.2
      ) else (
        (f_X9_pops 38 1 q1.2).bind fun q2 =>
        (f_X9_pops 124 2 q2).bind fun q3 =>
        (f_X9_ends ((up (up q3 70 16 ((q3 70 16) - 1)) 70 17 (((up q3 70 16 ((q3 70 16) - 1)) 70 17) - 1)))).bind fun q4 =>
        f_X9_closes_L0 n q4
      )
    )
def f_X9_closes (I : Mem) : Option (Mem) :=
  (f_X9_closes_L0 fuel I).bind fun q5 =>
  some q5
abbrev rmX9_closes : Room := { frames := 3, cells := 0, slots := 0, locals := 66 }
set_option maxHeartbeats 4000000 in
set_option maxRecDepth 100000 in
theorem c_X9_closes {l : Launch} {g : Gam} {I : Mem} {R : Rem} {P : Pool} {Z : Zed}   {z : Mem} (hf : f_X9_closes I = some z) : Met l yX9_closes (Cond.code yX9_closes cX9_closes 1 none :: GT) rmX9_closes (va_Pc [.ref (g.2.2 + 70)] (PW g I R P Z)) (QV g z R P Z) 0 0 (AA g) := by
  refine aw_ofW (lv0 := [(0, .ref (g.2.2 + 70))]) (by decide) (by exact Nat.le_of_ble_eq_true rfl) (by rfl) (fun p0 e s m args below meth c ls C0 hl hW => ?_)
  have C0 : CX g p0 s m args meth c RX9 cX9_closes 1 none := C0
  have hx := C0.1; have hb := C0.2.1; have hown := C0.2.2.2.2.1; have hts := C0.2.2.2.2.2.1; have hKS := C0.2.2.2.2.2.2.1
  have L0 : ∀ (n : Nat) (I : Mem) (H : Heap) (locs : List Loc) (ls : Array Slot) (o : Mem), f_X9_closes_L0 n I = some o → Wd g I R P Z s.heap H locs → lv_has ls 1 [(0, .ref (g.2.2 + 70))] → (∀ (H : Heap) (locs : List Loc) (ls : Array Slot), Wd g o R P Z s.heap H locs → lv_has ls 1 [] → W p0 l e rmX9_closes s m args below meth c H locs 0 0 (MQ below (QV g z R P Z) args s 0 0 (AA g)) (F0 m 57 ls [])) → W p0 l e rmX9_closes s m args below meth c H locs 0 0 (MQ below (QV g z R P Z) args s 0 0 (AA g)) (F0 m 0 ls []) := by
    intro n
    induction n with
    | zero => intro I H locs ls o hf; cases hf
    | succ n ih =>
      intro I H locs ls o hf hW hl hK
      rw [f_X9_closes_L0] at hf
      refine lv_aload_n hx hb dX9_closes_0 rfl (lv_at hl 0 rfl) ?_
      refine aw_get (v := .int (I 70 17)) C0 hW (lv_fix (by decide)) (cel_8 kd70) rfl inG8 17 (by decide) wd91 rfl rfl dX9_closes_1 ?_
      refine lv_if_le (tgt := 57) hx hb dX9_closes_4 rfl (fun hc => ?_) (fun hc => ?_)
      · have hf := ift hc hf
        have ho := Option.some.inj hf
        subst ho
        exact hK H locs ls hW (lv_sub hl [] rfl)
      · have hf := iff_ hc hf
        refine lv_aload_n hx hb dX9_closes_7 rfl (lv_at hl 0 rfl) ?_
        refine lv_bipush (v := 41) hx hb dX9_closes_8 (by decide) ?_
        obtain ⟨q1, hq1, hf⟩ := bnd hf
        refine aw_cVi (rest := []) C0 hW (lv_fix (by decide)) (cel_8 kd70) rfl (c_X9_takes 41  hq1) (cw_X9_191 hts ⟨Nat.le_of_ble_eq_true rfl, Nat.le_of_ble_eq_true rfl⟩) rfl hl.1 rfl (Nat.le_of_ble_eq_true rfl) ⟨Nat.zero_le _, Nat.zero_le _⟩ dX9_closes_10 (fun H locs hW => ?_)
        refine lv_if_eq (tgt := 57) hx hb dX9_closes_13 rfl (fun hc => ?_) (fun hc => ?_)
        · have hf := ift hc hf
          have ho := Option.some.inj hf
          subst ho
          exact hK H locs ls hW (lv_sub hl [] rfl)
        · have hf := iff_ hc hf
          refine lv_aload_n hx hb dX9_closes_16 rfl (lv_at hl 0 rfl) ?_
          refine lv_bipush (v := 38) hx hb dX9_closes_17 (by decide) ?_
          refine lv_iconst (v := 1) hx hb dX9_closes_19 (by decide) ?_
          obtain ⟨q2, hq2, hf⟩ := bnd hf
          refine aw_cVv (rest := []) C0 hW (lv_fix (by decide)) (cel_8 kd70) rfl (c_X9_pops 38 1  hq2) (cw_X9_209 hts ⟨Nat.le_of_ble_eq_true rfl, Nat.le_of_ble_eq_true rfl⟩) rfl hl.1 rfl (Nat.le_of_ble_eq_true rfl) ⟨Nat.zero_le _, Nat.zero_le _⟩ dX9_closes_20 (fun H locs hW => ?_)
          refine lv_aload_n hx hb dX9_closes_23 rfl (lv_at hl 0 rfl) ?_
          refine lv_bipush (v := 124) hx hb dX9_closes_24 (by decide) ?_
          refine lv_iconst (v := 2) hx hb dX9_closes_26 (by decide) ?_
          obtain ⟨q3, hq3, hf⟩ := bnd hf
          refine aw_cVv (rest := []) C0 hW (lv_fix (by decide)) (cel_8 kd70) rfl (c_X9_pops 124 2  hq3) (cw_X9_209 hts ⟨Nat.le_of_ble_eq_true rfl, Nat.le_of_ble_eq_true rfl⟩) rfl hl.1 rfl (Nat.le_of_ble_eq_true rfl) ⟨Nat.zero_le _, Nat.zero_le _⟩ dX9_closes_27 (fun H locs hW => ?_)
          refine lv_aload_n hx hb dX9_closes_30 rfl (lv_at hl 0 rfl) ?_
          refine lv_dup hx hb dX9_closes_31 rfl ?_
          refine aw_get (v := .int (q3 70 16)) C0 hW (lv_fix (by decide)) (cel_8 kd70) rfl inG8 16 (by decide) wd87 rfl rfl dX9_closes_32 ?_
          refine lv_iconst (v := 1) hx hb dX9_closes_35 (by decide) ?_
          refine lv_isub hx hb dX9_closes_36 ?_
          refine aw_put C0 hW (lv_fix (by decide)) (cel_8 kd70) rfl inG8 tyX9 tyX9_ok nmX9 16 (by decide) wd87 rfl rfl (ty := .int) rfl rfl rfl (Nat.le_of_ble_eq_true rfl) (pu_8_16 kd70) dX9_closes_37 (fun H locs hW => ?_)
          refine lv_aload_n hx hb dX9_closes_40 rfl (lv_at hl 0 rfl) ?_
          refine lv_dup hx hb dX9_closes_41 rfl ?_
          refine aw_get (v := .int ((up q3 70 16 ((q3 70 16) - 1)) 70 17)) C0 hW (lv_fix (by decide)) (cel_8 kd70) rfl inG8 17 (by decide) wd91 rfl rfl dX9_closes_42 ?_
          refine lv_iconst (v := 1) hx hb dX9_closes_45 (by decide) ?_
          refine lv_isub hx hb dX9_closes_46 ?_
          refine aw_put C0 hW (lv_fix (by decide)) (cel_8 kd70) rfl inG8 tyX9 tyX9_ok nmX9 17 (by decide) wd91 rfl rfl (ty := .int) rfl rfl rfl (Nat.le_of_ble_eq_true rfl) (pu_8_17 kd70) dX9_closes_47 (fun H locs hW => ?_)
          refine lv_aload_n hx hb dX9_closes_50 rfl (lv_at hl 0 rfl) ?_
          obtain ⟨q4, hq4, hf⟩ := bnd hf
          refine aw_cVv (rest := []) C0 hW (lv_fix (by decide)) (cel_8 kd70) rfl (c_X9_ends  hq4) (cw_X9_206 hts ⟨Nat.le_of_ble_eq_true rfl, Nat.le_of_ble_eq_true rfl⟩) rfl hl.1 rfl (Nat.le_of_ble_eq_true rfl) ⟨Nat.zero_le _, Nat.zero_le _⟩ dX9_closes_51 (fun H locs hW => ?_)
          refine lv_goto (tgt := 0) hx hb dX9_closes_54 rfl ?_
          exact ih _ H locs ls o hf hW (lv_sub hl [0] rfl) hK
  unfold f_X9_closes at hf
  obtain ⟨H, hH⟩ : ∃ H, H = s.heap := ⟨_, rfl⟩
  obtain ⟨locs, hlc⟩ : ∃ q : List Loc, q = [] := ⟨_, rfl⟩
  rw [show W p0 l e rmX9_closes s m args below meth c s.heap [] 0 0 (MQ below (QV g z R P Z) args s 0 0 (AA g)) (F0 m 0 ls []) = W p0 l e rmX9_closes s m args below meth c H locs 0 0 (MQ below (QV g z R P Z) args s 0 0 (AA g)) (F0 m 0 ls []) by rw [hH, hlc]]
  have hW : Wd g I R P Z s.heap H locs := by rw [hH, hlc]; exact hW
  obtain ⟨q5, hq5, hf⟩ := bnd hf
  refine L0  fuel I H locs ls _ hq5 hW (lv_sub hl [0] rfl) (fun H locs ls hW hl => ?_)
  have hz := Option.some.inj hf
  exact aw_vret C0 hW hz rfl dX9_closes_57
theorem cw_X9_215 {Rm : Room} {s : State} {args : Array Value} (ht : ∀ w ∈ GT, w.before args s = true) (hR : rmX9_closes.frames + 1 ≤ Rm.frames ∧ 8 + (1 + 11) + rmX9_closes.locals ≤ Rm.locals) : CallW Rm s args RX9 RX9 215 yX9_closes cX9_closes 1 none (Cond.code yX9_closes cX9_closes 1 none :: GT) rmX9_closes 0 0 0 := cwV 0 ht (goodV wd724 wd725 wd726 wd607 wd727) rfl rfl rfl ⟨rfl, by decide +kernel, by decide +kernel, by decide +kernel⟩ hR
def f_X9_column (x1 : Int32) (x2 : Int32) (x3 : Int32) (I : Mem) : Option (Int32 × Mem) :=
  (f_X9_isTable x1).bind fun q1 =>
  if q1 = 0 then (
    (f_X9_refuses 1 ((up I 70 7 0))).bind fun q2 =>
    some (q2.1, q2.2)
  ) else (
    (f_X9_isColumn x2).bind fun q3 =>
    if q3 = 0 then (
      (f_X9_refuses 1 ((up I 70 7 0))).bind fun q7 =>
      some (q7.1, q7.2)
    ) else (
      (f_X9_in x3 0 6).bind fun q4 =>
      if q4 = 0 then (
        (f_X9_refuses 2 ((up I 70 7 0))).bind fun q5 =>
        some (q5.1, q5.2)
      ) else (
        (f_X9_aboutColumn x1 x2 x3 ((up I 70 7 0))).bind fun q6 =>
        some (q6, (up I 70 7 0))
      )
    )
  )
abbrev rmX9_column : Room := { frames := 6, cells := 0, slots := 0, locals := 142 }
set_option maxHeartbeats 4000000 in
set_option maxRecDepth 100000 in
theorem c_X9_column {l : Launch} {g : Gam} {I : Mem} {R : Rem} {P : Pool} {Z : Zed} (x1 : Int32) (x2 : Int32) (x3 : Int32)  {z : Int32 × Mem} (hf : f_X9_column x1 x2 x3 I = some z) : Met l yX9_column (Cond.code yX9_column cX9_column 4 (some .int) :: GT) rmX9_column (va_Pc [.ref (g.2.2 + 70), .int x1, .int x2, .int x3] (PW g I R P Z)) (QI g z.1 z.2 R P Z) 0 0 (AA g) := by
  refine aw_ofW (lv0 := [(0, .ref (g.2.2 + 70)), (1, .int x1), (2, .int x2), (3, .int x3)]) (by decide) (by exact Nat.le_of_ble_eq_true rfl) (by rfl) (fun p0 e s m args below meth c ls C0 hl hW => ?_)
  have C0 : CX g p0 s m args meth c RX9 cX9_column 4 (some .int) := C0
  have hx := C0.1; have hb := C0.2.1; have hown := C0.2.2.2.2.1; have hts := C0.2.2.2.2.2.1; have hKS := C0.2.2.2.2.2.2.1
  unfold f_X9_column at hf
  obtain ⟨H, hH⟩ : ∃ H, H = s.heap := ⟨_, rfl⟩
  obtain ⟨locs, hlc⟩ : ∃ q : List Loc, q = [] := ⟨_, rfl⟩
  rw [show W p0 l e rmX9_column s m args below meth c s.heap [] 0 0 (MQ below (QI g z.1 z.2 R P Z) args s 0 0 (AA g)) (F0 m 0 ls []) = W p0 l e rmX9_column s m args below meth c H locs 0 0 (MQ below (QI g z.1 z.2 R P Z) args s 0 0 (AA g)) (F0 m 0 ls []) by rw [hH, hlc]]
  have hW : Wd g I R P Z s.heap H locs := by rw [hH, hlc]; exact hW
  refine lv_aload_n hx hb dX9_column_0 rfl (lv_at hl 0 rfl) ?_
  refine lv_iconst (v := 0) hx hb dX9_column_1 (by decide) ?_
  refine aw_put C0 hW (lv_fix (by decide)) (cel_8 kd70) rfl inG8 tyX9 tyX9_ok nmX9 7 (by decide) wd79 rfl rfl (ty := .int) rfl rfl rfl (Nat.le_of_ble_eq_true rfl) (pu_8_7 kd70) dX9_column_2 (fun H locs hW => ?_)
  refine lv_iload_n hx hb dX9_column_5 rfl (lv_at hl 1 rfl) ?_
  obtain ⟨q1, hq1, hf⟩ := bnd hf
  refine aw_cSi (rest := []) C0 hW (c_X9_isTable x1  hq1) (cw_X9_66 hts ⟨Nat.le_of_ble_eq_true rfl, Nat.le_of_ble_eq_true rfl⟩) rfl hl.1 rfl (Nat.le_of_ble_eq_true rfl) ⟨Nat.zero_le _, Nat.zero_le _⟩ dX9_column_6 (fun H locs hW => ?_)
  refine lv_if_eq (tgt := 19) hx hb dX9_column_9 rfl (fun hc => ?_) (fun hc => ?_)
  · have hf := ift hc hf
    refine lv_aload_n hx hb dX9_column_19 rfl (lv_at hl 0 rfl) ?_
    refine lv_iconst (v := 1) hx hb dX9_column_20 (by decide) ?_
    obtain ⟨q2, hq2, hf⟩ := bnd hf
    refine aw_cVi (rest := []) C0 hW (lv_fix (by decide)) (cel_8 kd70) rfl (c_X9_refuses 1  hq2) (cw_X9_119 hts ⟨Nat.le_of_ble_eq_true rfl, Nat.le_of_ble_eq_true rfl⟩) rfl hl.1 rfl (Nat.le_of_ble_eq_true rfl) ⟨Nat.zero_le _, Nat.zero_le _⟩ dX9_column_21 (fun H locs hW => ?_)
    have hz := Option.some.inj hf
    have hzV := congrArg (fun z : Int32 × Mem => z.1) hz
    have hzI := congrArg (fun z : Int32 × Mem => z.2) hz
    exact aw_iret C0 hW hzV hzI rfl dX9_column_24
  · have hf := iff_ hc hf
    refine lv_iload_n hx hb dX9_column_12 rfl (lv_at hl 2 rfl) ?_
    obtain ⟨q3, hq3, hf⟩ := bnd hf
    refine aw_cSi (rest := []) C0 hW (c_X9_isColumn x2  hq3) (cw_X9_135 hts ⟨Nat.le_of_ble_eq_true rfl, Nat.le_of_ble_eq_true rfl⟩) rfl hl.1 rfl (Nat.le_of_ble_eq_true rfl) ⟨Nat.zero_le _, Nat.zero_le _⟩ dX9_column_13 (fun H locs hW => ?_)
    refine lv_if_ne (tgt := 25) hx hb dX9_column_16 rfl (fun hc => ?_) (fun hc => ?_)
    · have hf := iff_ hc hf
      refine lv_iload_n hx hb dX9_column_25 rfl (lv_at hl 3 rfl) ?_
      refine lv_iconst (v := 0) hx hb dX9_column_26 (by decide) ?_
      refine lv_bipush (v := 6) hx hb dX9_column_27 (by decide) ?_
      obtain ⟨q4, hq4, hf⟩ := bnd hf
      refine aw_cSi (rest := []) C0 hW (c_X9_in x3 0 6  hq4) (cw_X9_62 hts ⟨Nat.le_of_ble_eq_true rfl, Nat.le_of_ble_eq_true rfl⟩) rfl hl.1 rfl (Nat.le_of_ble_eq_true rfl) ⟨Nat.zero_le _, Nat.zero_le _⟩ dX9_column_29 (fun H locs hW => ?_)
      refine lv_if_eq (tgt := 45) hx hb dX9_column_32 rfl (fun hc => ?_) (fun hc => ?_)
      · have hf := ift hc hf
        refine lv_aload_n hx hb dX9_column_45 rfl (lv_at hl 0 rfl) ?_
        refine lv_iconst (v := 2) hx hb dX9_column_46 (by decide) ?_
        obtain ⟨q5, hq5, hf⟩ := bnd hf
        refine aw_cVi (rest := []) C0 hW (lv_fix (by decide)) (cel_8 kd70) rfl (c_X9_refuses 2  hq5) (cw_X9_119 hts ⟨Nat.le_of_ble_eq_true rfl, Nat.le_of_ble_eq_true rfl⟩) rfl hl.1 rfl (Nat.le_of_ble_eq_true rfl) ⟨Nat.zero_le _, Nat.zero_le _⟩ dX9_column_47 (fun H locs hW => ?_)
        have hz := Option.some.inj hf
        have hzV := congrArg (fun z : Int32 × Mem => z.1) hz
        have hzI := congrArg (fun z : Int32 × Mem => z.2) hz
        exact aw_iret C0 hW hzV hzI rfl dX9_column_50
      · have hf := iff_ hc hf
        refine lv_aload_n hx hb dX9_column_35 rfl (lv_at hl 0 rfl) ?_
        refine lv_iload_n hx hb dX9_column_36 rfl (lv_at hl 1 rfl) ?_
        refine lv_iload_n hx hb dX9_column_37 rfl (lv_at hl 2 rfl) ?_
        refine lv_iload_n hx hb dX9_column_38 rfl (lv_at hl 3 rfl) ?_
        obtain ⟨q6, hq6, hf⟩ := bnd hf
        refine aw_cVi (rest := []) C0 hW (lv_fix (by decide)) (cel_8 kd70) rfl (c_X9_aboutColumn x1 x2 x3  hq6) (cw_X9_243 hts ⟨Nat.le_of_ble_eq_true rfl, Nat.le_of_ble_eq_true rfl⟩) rfl hl.1 rfl (Nat.le_of_ble_eq_true rfl) ⟨Nat.zero_le _, Nat.zero_le _⟩ dX9_column_39 (fun H locs hW => ?_)
        refine lv_goto (tgt := 50) hx hb dX9_column_42 rfl ?_
        have hz := Option.some.inj hf
        have hzV := congrArg (fun z : Int32 × Mem => z.1) hz
        have hzI := congrArg (fun z : Int32 × Mem => z.2) hz
        exact aw_iret C0 hW hzV hzI rfl dX9_column_50
    · have hf := ift hc hf
      refine lv_aload_n hx hb dX9_column_19 rfl (lv_at hl 0 rfl) ?_
      refine lv_iconst (v := 1) hx hb dX9_column_20 (by decide) ?_
      obtain ⟨q7, hq7, hf⟩ := bnd hf
      refine aw_cVi (rest := []) C0 hW (lv_fix (by decide)) (cel_8 kd70) rfl (c_X9_refuses 1  hq7) (cw_X9_119 hts ⟨Nat.le_of_ble_eq_true rfl, Nat.le_of_ble_eq_true rfl⟩) rfl hl.1 rfl (Nat.le_of_ble_eq_true rfl) ⟨Nat.zero_le _, Nat.zero_le _⟩ dX9_column_21 (fun H locs hW => ?_)
      have hz := Option.some.inj hf
      have hzV := congrArg (fun z : Int32 × Mem => z.1) hz
      have hzI := congrArg (fun z : Int32 × Mem => z.2) hz
      exact aw_iret C0 hW hzV hzI rfl dX9_column_24
def f_X9_makesAll_L2 (x1 : Int32) : Nat → Int32 → Mem → Option (Mem)
  | 0, _, _ => none
  | n + 1, w2, I =>
    (f_X9_parts x1 I).bind fun q1 =>
    if q1 ≤ w2 then (
      some I
    ) else (
      (f_X9_part x1 w2 I).bind fun q2 =>
      (f_X9_makes q2 I).bind fun q3 =>
      f_X9_makesAll_L2 x1 n (w2 + 1) q3
    )
def f_X9_makesAll (x1 : Int32) (I : Mem) : Option (Mem) :=
  (f_X9_makesAll_L2 x1 fuel 0 I).bind fun q4 =>
  some q4
abbrev rmX9_makesAll : Room := { frames := 1, cells := 0, slots := 0, locals := 22 }
set_option maxHeartbeats 4000000 in
set_option maxRecDepth 100000 in
theorem c_X9_makesAll {l : Launch} {g : Gam} {I : Mem} {R : Rem} {P : Pool} {Z : Zed} (x1 : Int32)  {z : Mem} (hf : f_X9_makesAll x1 I = some z) : Met l yX9_makesAll (Cond.code yX9_makesAll cX9_makesAll 3 none :: GT) rmX9_makesAll (va_Pc [.ref (g.2.2 + 70), .int x1] (PW g I R P Z)) (QV g z R P Z) 0 0 (AA g) := by
  refine aw_ofW (lv0 := [(0, .ref (g.2.2 + 70)), (1, .int x1)]) (by decide) (by exact Nat.le_of_ble_eq_true rfl) (by rfl) (fun p0 e s m args below meth c ls C0 hl hW => ?_)
  have C0 : CX g p0 s m args meth c RX9 cX9_makesAll 3 none := C0
  have hx := C0.1; have hb := C0.2.1; have hown := C0.2.2.2.2.1; have hts := C0.2.2.2.2.2.1; have hKS := C0.2.2.2.2.2.2.1
  have L2 : ∀ (n : Nat) (w2 : Int32) (I : Mem) (H : Heap) (locs : List Loc) (ls : Array Slot) (o : Mem), f_X9_makesAll_L2 x1 n w2 I = some o → Wd g I R P Z s.heap H locs → lv_has ls 3 [(0, .ref (g.2.2 + 70)), (1, .int x1), (2, .int w2)] → (∀ (H : Heap) (locs : List Loc) (ls : Array Slot), Wd g o R P Z s.heap H locs → lv_has ls 3 [] → W p0 l e rmX9_makesAll s m args below meth c H locs 0 0 (MQ below (QV g z R P Z) args s 0 0 (AA g)) (F0 m 27 ls [])) → W p0 l e rmX9_makesAll s m args below meth c H locs 0 0 (MQ below (QV g z R P Z) args s 0 0 (AA g)) (F0 m 2 ls []) := by
    intro n
    induction n with
    | zero => intro w2 I H locs ls o hf; cases hf
    | succ n ih =>
      intro w2 I H locs ls o hf hW hl hK
      rw [f_X9_makesAll_L2] at hf
      refine lv_iload_n hx hb dX9_makesAll_2 rfl (lv_at hl 2 rfl) ?_
      refine lv_aload_n hx hb dX9_makesAll_3 rfl (lv_at hl 0 rfl) ?_
      refine lv_iload_n hx hb dX9_makesAll_4 rfl (lv_at hl 1 rfl) ?_
      obtain ⟨q1, hq1, hf⟩ := bnd hf
      refine aw_cVi (rest := [.int w2]) C0 hW (lv_fix (by decide)) (cel_8 kd70) rfl (c_X9_parts x1  hq1) (cw_X9_92 hts ⟨Nat.le_of_ble_eq_true rfl, Nat.le_of_ble_eq_true rfl⟩) rfl hl.1 rfl (Nat.le_of_ble_eq_true rfl) ⟨Nat.zero_le _, Nat.zero_le _⟩ dX9_makesAll_5 (fun H locs hW => ?_)
      refine lv_icmp_ge (tgt := 27) hx hb dX9_makesAll_8 rfl (fun hc => ?_) (fun hc => ?_)
      · have hf := ift hc hf
        have ho := Option.some.inj hf
        subst ho
        exact hK H locs ls hW (lv_sub hl [] rfl)
      · have hf := iff_ hc hf
        refine lv_aload_n hx hb dX9_makesAll_11 rfl (lv_at hl 0 rfl) ?_
        refine lv_aload_n hx hb dX9_makesAll_12 rfl (lv_at hl 0 rfl) ?_
        refine lv_iload_n hx hb dX9_makesAll_13 rfl (lv_at hl 1 rfl) ?_
        refine lv_iload_n hx hb dX9_makesAll_14 rfl (lv_at hl 2 rfl) ?_
        obtain ⟨q2, hq2, hf⟩ := bnd hf
        refine aw_cVi (rest := [.ref (g.2.2 + 70)]) C0 hW (lv_fix (by decide)) (cel_8 kd70) rfl (c_X9_part x1 w2  hq2) (cw_X9_95 hts ⟨Nat.le_of_ble_eq_true rfl, Nat.le_of_ble_eq_true rfl⟩) rfl hl.1 rfl (Nat.le_of_ble_eq_true rfl) ⟨Nat.zero_le _, Nat.zero_le _⟩ dX9_makesAll_15 (fun H locs hW => ?_)
        obtain ⟨q3, hq3, hf⟩ := bnd hf
        refine aw_cVv (rest := []) C0 hW (lv_fix (by decide)) (cel_8 kd70) rfl (c_X9_makes q2  hq3) (cw_X9_144 hts ⟨Nat.le_of_ble_eq_true rfl, Nat.le_of_ble_eq_true rfl⟩) rfl hl.1 rfl (Nat.le_of_ble_eq_true rfl) ⟨Nat.zero_le _, Nat.zero_le _⟩ dX9_makesAll_18 (fun H locs hW => ?_)
        refine lv_iinc (k := 2) (v := w2 + 1) (lv' := [(2, .int (w2 + 1)), (0, .ref (g.2.2 + 70)), (1, .int x1)]) hx hb dX9_makesAll_21 hl rfl (congrArg (fun t => w2 + t) (by decide : Int32.ofInt 1 = 1)) (Nat.le_of_ble_eq_true rfl) rfl (fun ls hl => ?_)
        refine lv_goto (tgt := 2) hx hb dX9_makesAll_24 rfl ?_
        exact ih _ _ H locs ls o hf hW (lv_sub hl [1, 2, 0] rfl) hK
  unfold f_X9_makesAll at hf
  obtain ⟨H, hH⟩ : ∃ H, H = s.heap := ⟨_, rfl⟩
  obtain ⟨locs, hlc⟩ : ∃ q : List Loc, q = [] := ⟨_, rfl⟩
  rw [show W p0 l e rmX9_makesAll s m args below meth c s.heap [] 0 0 (MQ below (QV g z R P Z) args s 0 0 (AA g)) (F0 m 0 ls []) = W p0 l e rmX9_makesAll s m args below meth c H locs 0 0 (MQ below (QV g z R P Z) args s 0 0 (AA g)) (F0 m 0 ls []) by rw [hH, hlc]]
  have hW : Wd g I R P Z s.heap H locs := by rw [hH, hlc]; exact hW
  refine lv_iconst (v := 0) hx hb dX9_makesAll_0 (by decide) ?_
  refine lv_istore_n (lv' := [(2, .int 0), (0, .ref (g.2.2 + 70)), (1, .int x1)]) hx hb dX9_makesAll_1 rfl hl (Nat.le_of_ble_eq_true rfl) rfl (fun ls hl => ?_)
  obtain ⟨q4, hq4, hf⟩ := bnd hf
  refine L2  fuel 0 I H locs ls _ hq4 hW (lv_sub hl [1, 2, 0] rfl) (fun H locs ls hW hl => ?_)
  have hz := Option.some.inj hf
  exact aw_vret C0 hW hz rfl dX9_makesAll_27
theorem cw_X9_160 {Rm : Room} {s : State} {args : Array Value} (ht : ∀ w ∈ GT, w.before args s = true) (hR : rmX9_makesAll.frames + 1 ≤ Rm.frames ∧ 8 + (3 + 11) + rmX9_makesAll.locals ≤ Rm.locals) : CallW Rm s args RX9 RX9 160 yX9_makesAll cX9_makesAll 3 none (Cond.code yX9_makesAll cX9_makesAll 3 none :: GT) rmX9_makesAll 0 0 1 := cwV 1 ht (goodV wd666 wd667 wd668 wd607 wd669) rfl rfl rfl ⟨rfl, by decide +kernel, by decide +kernel, by decide +kernel⟩ hR
def f_X9_puts_L19 (x1 : Int32) : Nat → Int32 → Mem → Option (Mem)
  | 0, _, _ => none
  | n + 1, w2, I =>
    if (I 70 13) ≤ w2 then (
      some I
    ) else (
      (rd I 79 60 w2).bind fun v2 =>
      (wr I 71 619 (((130 + (61 * x1)) + 1) + w2) v2).bind fun I3 =>
      f_X9_puts_L19 x1 n (w2 + 1) I3
    )
def f_X9_puts (x1 : Int32) (I : Mem) : Option (Int32 × Mem) :=
  (wr I 71 619 (130 + (61 * x1)) (I 70 13)).bind fun I1 =>
  (f_X9_puts_L19 x1 fuel 0 I1).bind fun q4 =>
  some (q4 70 13, q4)
abbrev rmX9_puts : Room := { frames := 0, cells := 0, slots := 0, locals := 0 }
set_option maxHeartbeats 4000000 in
set_option maxRecDepth 100000 in
theorem c_X9_puts {l : Launch} {g : Gam} {I : Mem} {R : Rem} {P : Pool} {Z : Zed} (x1 : Int32)  {z : Int32 × Mem} (hf : f_X9_puts x1 I = some z) : Met l yX9_puts (Cond.code yX9_puts cX9_puts 3 (some .int) :: GT) rmX9_puts (va_Pc [.ref (g.2.2 + 70), .int x1] (PW g I R P Z)) (QI g z.1 z.2 R P Z) 0 0 (AA g) := by
  refine aw_ofW (lv0 := [(0, .ref (g.2.2 + 70)), (1, .int x1)]) (by decide) (by exact Nat.le_of_ble_eq_true rfl) (by rfl) (fun p0 e s m args below meth c ls C0 hl hW => ?_)
  have C0 : CX g p0 s m args meth c RX9 cX9_puts 3 (some .int) := C0
  have hx := C0.1; have hb := C0.2.1; have hown := C0.2.2.2.2.1; have hts := C0.2.2.2.2.2.1; have hKS := C0.2.2.2.2.2.2.1
  have L19 : ∀ (n : Nat) (w2 : Int32) (I : Mem) (H : Heap) (locs : List Loc) (ls : Array Slot) (o : Mem), f_X9_puts_L19 x1 n w2 I = some o → Wd g I R P Z s.heap H locs → lv_has ls 3 [(0, .ref (g.2.2 + 70)), (1, .int x1), (2, .int w2)] → (∀ (H : Heap) (locs : List Loc) (ls : Array Slot), Wd g o R P Z s.heap H locs → lv_has ls 3 [(0, .ref (g.2.2 + 70))] → W p0 l e rmX9_puts s m args below meth c H locs 0 0 (MQ below (QI g z.1 z.2 R P Z) args s 0 0 (AA g)) (F0 m 56 ls [])) → W p0 l e rmX9_puts s m args below meth c H locs 0 0 (MQ below (QI g z.1 z.2 R P Z) args s 0 0 (AA g)) (F0 m 19 ls []) := by
    intro n
    induction n with
    | zero => intro w2 I H locs ls o hf; cases hf
    | succ n ih =>
      intro w2 I H locs ls o hf hW hl hK
      rw [f_X9_puts_L19] at hf
      refine lv_iload_n hx hb dX9_puts_19 rfl (lv_at hl 2 rfl) ?_
      refine lv_aload_n hx hb dX9_puts_20 rfl (lv_at hl 0 rfl) ?_
      refine aw_get (v := .int (I 70 13)) C0 hW (lv_fix (by decide)) (cel_8 kd70) rfl inG8 13 (by decide) wd90 rfl rfl dX9_puts_21 ?_
      refine lv_icmp_ge (tgt := 56) hx hb dX9_puts_24 rfl (fun hc => ?_) (fun hc => ?_)
      · have hf := ift hc hf
        have ho := Option.some.inj hf
        subst ho
        exact hK H locs ls hW (lv_sub hl [0] rfl)
      · have hf := iff_ hc hf
        refine lv_aload_n hx hb dX9_puts_27 rfl (lv_at hl 0 rfl) ?_
        refine aw_get (v := .ref (g.2.2 + 71)) C0 hW (lv_fix (by decide)) (cel_8 kd70) rfl inG8 0 (by decide) wd73 rfl rfl dX9_puts_28 ?_
        refine lv_sipush (v := 130) hx hb dX9_puts_31 (by decide) ?_
        refine lv_bipush (v := 61) hx hb dX9_puts_34 (by decide) ?_
        refine lv_iload_n hx hb dX9_puts_36 rfl (lv_at hl 1 rfl) ?_
        refine lv_imul hx hb dX9_puts_37 ?_
        refine lv_iadd hx hb dX9_puts_38 ?_
        refine lv_iconst (v := 1) hx hb dX9_puts_39 (by decide) ?_
        refine lv_iadd hx hb dX9_puts_40 ?_
        refine lv_iload_n hx hb dX9_puts_41 rfl (lv_at hl 2 rfl) ?_
        refine lv_iadd hx hb dX9_puts_42 ?_
        refine lv_aload_n hx hb dX9_puts_43 rfl (lv_at hl 0 rfl) ?_
        refine aw_get (v := .ref (g.2.2 + 79)) C0 hW (lv_fix (by decide)) (cel_8 kd70) rfl inG8 12 (by decide) wd89 rfl rfl dX9_puts_44 ?_
        refine lv_iload_n hx hb dX9_puts_47 rfl (lv_at hl 2 rfl) ?_
        obtain ⟨v2, hv2, hf⟩ := bnd hf
        refine aw_iald C0 hW kd79 ln79 hv2 dX9_puts_48 ?_
        obtain ⟨I3, hI3, hf⟩ := bnd hf
        refine aw_iast C0 hW kd71 ln71 hI3 dX9_puts_49 (fun H locs hW => ?_)
        refine lv_iinc (k := 2) (v := w2 + 1) (lv' := [(2, .int (w2 + 1)), (0, .ref (g.2.2 + 70)), (1, .int x1)]) hx hb dX9_puts_50 hl rfl (congrArg (fun t => w2 + t) (by decide : Int32.ofInt 1 = 1)) (Nat.le_of_ble_eq_true rfl) rfl (fun ls hl => ?_)
        refine lv_goto (tgt := 19) hx hb dX9_puts_53 rfl ?_
        exact ih _ _ H locs ls o hf hW (lv_sub hl [1, 2, 0] rfl) hK
  unfold f_X9_puts at hf
  obtain ⟨H, hH⟩ : ∃ H, H = s.heap := ⟨_, rfl⟩
  obtain ⟨locs, hlc⟩ : ∃ q : List Loc, q = [] := ⟨_, rfl⟩
  rw [show W p0 l e rmX9_puts s m args below meth c s.heap [] 0 0 (MQ below (QI g z.1 z.2 R P Z) args s 0 0 (AA g)) (F0 m 0 ls []) = W p0 l e rmX9_puts s m args below meth c H locs 0 0 (MQ below (QI g z.1 z.2 R P Z) args s 0 0 (AA g)) (F0 m 0 ls []) by rw [hH, hlc]]
  have hW : Wd g I R P Z s.heap H locs := by rw [hH, hlc]; exact hW
  refine lv_aload_n hx hb dX9_puts_0 rfl (lv_at hl 0 rfl) ?_
  refine aw_get (v := .ref (g.2.2 + 71)) C0 hW (lv_fix (by decide)) (cel_8 kd70) rfl inG8 0 (by decide) wd73 rfl rfl dX9_puts_1 ?_
  refine lv_sipush (v := 130) hx hb dX9_puts_4 (by decide) ?_
  refine lv_bipush (v := 61) hx hb dX9_puts_7 (by decide) ?_
  refine lv_iload_n hx hb dX9_puts_9 rfl (lv_at hl 1 rfl) ?_
  refine lv_imul hx hb dX9_puts_10 ?_
  refine lv_iadd hx hb dX9_puts_11 ?_
  refine lv_aload_n hx hb dX9_puts_12 rfl (lv_at hl 0 rfl) ?_
  refine aw_get (v := .int (I 70 13)) C0 hW (lv_fix (by decide)) (cel_8 kd70) rfl inG8 13 (by decide) wd90 rfl rfl dX9_puts_13 ?_
  obtain ⟨I1, hI1, hf⟩ := bnd hf
  refine aw_iast C0 hW kd71 ln71 hI1 dX9_puts_16 (fun H locs hW => ?_)
  refine lv_iconst (v := 0) hx hb dX9_puts_17 (by decide) ?_
  refine lv_istore_n (lv' := [(2, .int 0), (0, .ref (g.2.2 + 70)), (1, .int x1)]) hx hb dX9_puts_18 rfl hl (Nat.le_of_ble_eq_true rfl) rfl (fun ls hl => ?_)
  obtain ⟨q4, hq4, hf⟩ := bnd hf
  refine L19  fuel 0 I1 H locs ls _ hq4 hW (lv_sub hl [1, 2, 0] rfl) (fun H locs ls hW hl => ?_)
  refine lv_aload_n hx hb dX9_puts_56 rfl (lv_at hl 0 rfl) ?_
  refine aw_get (v := .int (q4 70 13)) C0 hW (lv_fix (by decide)) (cel_8 kd70) rfl inG8 13 (by decide) wd90 rfl rfl dX9_puts_57 ?_
  have hz := Option.some.inj hf
  have hzV := congrArg (fun z : Int32 × Mem => z.1) hz
  have hzI := congrArg (fun z : Int32 × Mem => z.2) hz
  exact aw_iret C0 hW hzV hzI rfl dX9_puts_60
theorem cw_X9_157 {Rm : Room} {s : State} {args : Array Value} (ht : ∀ w ∈ GT, w.before args s = true) (hR : rmX9_puts.frames + 1 ≤ Rm.frames ∧ 8 + (3 + 11) + rmX9_puts.locals ≤ Rm.locals) : CallW Rm s args RX9 RX9 157 yX9_puts cX9_puts 3 (some .int) (Cond.code yX9_puts cX9_puts 3 (some .int) :: GT) rmX9_puts 0 0 1 := cwV 1 ht (goodV wd662 wd663 wd664 wd607 wd665) rfl rfl rfl ⟨rfl, by decide +kernel, by decide +kernel, by decide +kernel⟩ hR
def f_X9_combine (x1 : Int32) (x2 : Int32) (x3 : Int32) (x4 : Int32) (P : Pool) (I : Mem) : Option (Int32 × Mem) :=
  (f_X9_isSlot x1).bind fun q1 =>
  if q1 = 0 then (
    (f_X9_refuses 1 ((up I 70 7 0))).bind fun q2 =>
    some (q2.1, q2.2)
  ) else (
    (f_X9_isSlot x2).bind fun q3 =>
    if q3 = 0 then (
      (f_X9_refuses 1 ((up I 70 7 0))).bind fun q4 =>
      some (q4.1, q4.2)
    ) else (
      (f_X9_isSlot x3).bind fun q5 =>
      if q5 = 0 then (
        (f_X9_refuses 1 ((up I 70 7 0))).bind fun q37 =>
        some (q37.1, q37.2)
      ) else (
        (f_X9_in x4 0 2).bind fun q6 =>
        if q6 = 0 then (
          (f_X9_refuses 2 ((up I 70 7 0))).bind fun q36 =>
          some (q36.1, q36.2)
        ) else (
          (f_X9_parts x2 ((up I 70 7 0))).bind fun q7 =>
          ((
            if x4 = 0 then (
              some 0
            ) else (
              (f_X9_parts x3 ((up I 70 7 0))).bind fun q9 =>
              some q9
            )
          ) : Option (Int32)).bind fun q8 =>
          (f_X9_parts x2 ((up I 70 7 0))).bind fun q10 =>
          if q10 = 0 then (
            (f_X9_refuses 3 ((up I 70 7 0))).bind fun q11 =>
            some (q11.1, q11.2)
          ) else (
            if x4 ≤ 0 then (
              if ((1 + q7) + q8) ≤ 40 then (
                (f_X9_saves P ((up I 70 7 0))).bind fun q12 =>
                (f_X9_makesAll x2 ((up q12 70 13 0))).bind fun q13 =>
                ((
                  if x4 ≤ 0 then (
                    some q13
                  ) else (
                    (f_X9_makesAll x3 q13).bind fun q15 =>
                    some q15
                  )
                ) : Option (Mem)).bind fun q14 =>
                if x4 = 0 then (
                  (f_X9_makes 0 q14).bind fun q20 =>
                  (f_X9_puts x1 q20).bind fun q21 =>
                  some (q21.1, q21.2)
                ) else (
                  if x4 = 1 then (
                    (f_X9_makes 1 q14).bind fun q18 =>
                    (f_X9_puts x1 q18).bind fun q19 =>
                    some (q19.1, q19.2)
                  ) else (
                    (f_X9_makes 2 q14).bind fun q16 =>
                    (f_X9_puts x1 q16).bind fun q17 =>
                    some (q17.1, q17.2)
                  )
                )
              ) else (
                (f_X9_refuses 3 ((up I 70 7 0))).bind fun q22 =>
                some (q22.1, q22.2)
              )
            ) else (
              (f_X9_parts x3 ((up I 70 7 0))).bind fun q23 =>
              if q23 = 0 then (
                (f_X9_refuses 3 ((up I 70 7 0))).bind fun q24 =>
                some (q24.1, q24.2)
              ) else (
                if ((1 + q7) + q8) ≤ 40 then (
                  (f_X9_saves P ((up I 70 7 0))).bind fun q25 =>
                  (f_X9_makesAll x2 ((up q25 70 13 0))).bind fun q26 =>
                  ((
                    if x4 ≤ 0 then (
                      some q26
                    ) else (
                      (f_X9_makesAll x3 q26).bind fun q28 =>
                      some q28
                    )
                  ) : Option (Mem)).bind fun q27 =>
                  if x4 = 0 then (
                    (f_X9_makes 0 q27).bind fun q33 =>
                    (f_X9_puts x1 q33).bind fun q34 =>
                    some (q34.1, q34.2)
                  ) else (
                    if x4 = 1 then (
                      (f_X9_makes 1 q27).bind fun q31 =>
                      (f_X9_puts x1 q31).bind fun q32 =>
                      some (q32.1, q32.2)
                    ) else (
                      (f_X9_makes 2 q27).bind fun q29 =>
                      (f_X9_puts x1 q29).bind fun q30 =>
                      some (q30.1, q30.2)
                    )
                  )
                ) else (
                  (f_X9_refuses 3 ((up I 70 7 0))).bind fun q35 =>
                  some (q35.1, q35.2)
                )
              )
            )
          )
        )
      )
    )
  )
abbrev rmX9_combine : Room := { frames := 2, cells := 0, slots := 0, locals := 45 }
set_option maxHeartbeats 4000000 in
set_option maxRecDepth 100000 in
theorem c_X9_combine {l : Launch} {g : Gam} {I : Mem} {R : Rem} {P : Pool} {Z : Zed} (x1 : Int32) (x2 : Int32) (x3 : Int32) (x4 : Int32)  {z : Int32 × Mem} (hf : f_X9_combine x1 x2 x3 x4 P I = some z) : Met l yX9_combine (Cond.code yX9_combine cX9_combine 6 (some .int) :: GT) rmX9_combine (va_Pc [.ref (g.2.2 + 70), .int x1, .int x2, .int x3, .int x4] (PW g I R P Z)) (QI g z.1 z.2 R P Z) 0 0 (AA g) := by
  refine aw_ofW (lv0 := [(0, .ref (g.2.2 + 70)), (1, .int x1), (2, .int x2), (3, .int x3), (4, .int x4)]) (by decide) (by exact Nat.le_of_ble_eq_true rfl) (by rfl) (fun p0 e s m args below meth c ls C0 hl hW => ?_)
  have C0 : CX g p0 s m args meth c RX9 cX9_combine 6 (some .int) := C0
  have hx := C0.1; have hb := C0.2.1; have hown := C0.2.2.2.2.1; have hts := C0.2.2.2.2.2.1; have hKS := C0.2.2.2.2.2.2.1
  unfold f_X9_combine at hf
  obtain ⟨H, hH⟩ : ∃ H, H = s.heap := ⟨_, rfl⟩
  obtain ⟨locs, hlc⟩ : ∃ q : List Loc, q = [] := ⟨_, rfl⟩
  rw [show W p0 l e rmX9_combine s m args below meth c s.heap [] 0 0 (MQ below (QI g z.1 z.2 R P Z) args s 0 0 (AA g)) (F0 m 0 ls []) = W p0 l e rmX9_combine s m args below meth c H locs 0 0 (MQ below (QI g z.1 z.2 R P Z) args s 0 0 (AA g)) (F0 m 0 ls []) by rw [hH, hlc]]
  have hW : Wd g I R P Z s.heap H locs := by rw [hH, hlc]; exact hW
  refine lv_aload_n hx hb dX9_combine_0 rfl (lv_at hl 0 rfl) ?_
  refine lv_iconst (v := 0) hx hb dX9_combine_1 (by decide) ?_
  refine aw_put C0 hW (lv_fix (by decide)) (cel_8 kd70) rfl inG8 tyX9 tyX9_ok nmX9 7 (by decide) wd79 rfl rfl (ty := .int) rfl rfl rfl (Nat.le_of_ble_eq_true rfl) (pu_8_7 kd70) dX9_combine_2 (fun H locs hW => ?_)
  refine lv_iload_n hx hb dX9_combine_5 rfl (lv_at hl 1 rfl) ?_
  obtain ⟨q1, hq1, hf⟩ := bnd hf
  refine aw_cSi (rest := []) C0 hW (c_X9_isSlot x1  hq1) (cw_X9_147 hts ⟨Nat.le_of_ble_eq_true rfl, Nat.le_of_ble_eq_true rfl⟩) rfl hl.1 rfl (Nat.le_of_ble_eq_true rfl) ⟨Nat.zero_le _, Nat.zero_le _⟩ dX9_combine_6 (fun H locs hW => ?_)
  refine lv_if_eq (tgt := 26) hx hb dX9_combine_9 rfl (fun hc => ?_) (fun hc => ?_)
  · have hf := ift hc hf
    refine lv_aload_n hx hb dX9_combine_26 rfl (lv_at hl 0 rfl) ?_
    refine lv_iconst (v := 1) hx hb dX9_combine_27 (by decide) ?_
    obtain ⟨q2, hq2, hf⟩ := bnd hf
    refine aw_cVi (rest := []) C0 hW (lv_fix (by decide)) (cel_8 kd70) rfl (c_X9_refuses 1  hq2) (cw_X9_119 hts ⟨Nat.le_of_ble_eq_true rfl, Nat.le_of_ble_eq_true rfl⟩) rfl hl.1 rfl (Nat.le_of_ble_eq_true rfl) ⟨Nat.zero_le _, Nat.zero_le _⟩ dX9_combine_28 (fun H locs hW => ?_)
    have hz := Option.some.inj hf
    have hzV := congrArg (fun z : Int32 × Mem => z.1) hz
    have hzI := congrArg (fun z : Int32 × Mem => z.2) hz
    exact aw_iret C0 hW hzV hzI rfl dX9_combine_31
  · have hf := iff_ hc hf
    refine lv_iload_n hx hb dX9_combine_12 rfl (lv_at hl 2 rfl) ?_
    obtain ⟨q3, hq3, hf⟩ := bnd hf
    refine aw_cSi (rest := []) C0 hW (c_X9_isSlot x2  hq3) (cw_X9_147 hts ⟨Nat.le_of_ble_eq_true rfl, Nat.le_of_ble_eq_true rfl⟩) rfl hl.1 rfl (Nat.le_of_ble_eq_true rfl) ⟨Nat.zero_le _, Nat.zero_le _⟩ dX9_combine_13 (fun H locs hW => ?_)
    refine lv_if_eq (tgt := 26) hx hb dX9_combine_16 rfl (fun hc => ?_) (fun hc => ?_)
    · have hf := ift hc hf
      refine lv_aload_n hx hb dX9_combine_26 rfl (lv_at hl 0 rfl) ?_
      refine lv_iconst (v := 1) hx hb dX9_combine_27 (by decide) ?_
      obtain ⟨q4, hq4, hf⟩ := bnd hf
      refine aw_cVi (rest := []) C0 hW (lv_fix (by decide)) (cel_8 kd70) rfl (c_X9_refuses 1  hq4) (cw_X9_119 hts ⟨Nat.le_of_ble_eq_true rfl, Nat.le_of_ble_eq_true rfl⟩) rfl hl.1 rfl (Nat.le_of_ble_eq_true rfl) ⟨Nat.zero_le _, Nat.zero_le _⟩ dX9_combine_28 (fun H locs hW => ?_)
      have hz := Option.some.inj hf
      have hzV := congrArg (fun z : Int32 × Mem => z.1) hz
      have hzI := congrArg (fun z : Int32 × Mem => z.2) hz
      exact aw_iret C0 hW hzV hzI rfl dX9_combine_31
    · have hf := iff_ hc hf
      refine lv_iload_n hx hb dX9_combine_19 rfl (lv_at hl 3 rfl) ?_
      obtain ⟨q5, hq5, hf⟩ := bnd hf
      refine aw_cSi (rest := []) C0 hW (c_X9_isSlot x3  hq5) (cw_X9_147 hts ⟨Nat.le_of_ble_eq_true rfl, Nat.le_of_ble_eq_true rfl⟩) rfl hl.1 rfl (Nat.le_of_ble_eq_true rfl) ⟨Nat.zero_le _, Nat.zero_le _⟩ dX9_combine_20 (fun H locs hW => ?_)
      refine lv_if_ne (tgt := 32) hx hb dX9_combine_23 rfl (fun hc => ?_) (fun hc => ?_)
      · have hf := iff_ hc hf
        refine lv_iload hx hb dX9_combine_32 (lv_at hl 4 rfl) ?_
        refine lv_iconst (v := 0) hx hb dX9_combine_34 (by decide) ?_
        refine lv_iconst (v := 2) hx hb dX9_combine_35 (by decide) ?_
        obtain ⟨q6, hq6, hf⟩ := bnd hf
        refine aw_cSi (rest := []) C0 hW (c_X9_in x4 0 2  hq6) (cw_X9_62 hts ⟨Nat.le_of_ble_eq_true rfl, Nat.le_of_ble_eq_true rfl⟩) rfl hl.1 rfl (Nat.le_of_ble_eq_true rfl) ⟨Nat.zero_le _, Nat.zero_le _⟩ dX9_combine_36 (fun H locs hW => ?_)
        refine lv_if_ne (tgt := 48) hx hb dX9_combine_39 rfl (fun hc => ?_) (fun hc => ?_)
        · have hf := iff_ hc hf
          refine lv_iconst (v := 1) hx hb dX9_combine_48 (by decide) ?_
          refine lv_aload_n hx hb dX9_combine_49 rfl (lv_at hl 0 rfl) ?_
          refine lv_iload_n hx hb dX9_combine_50 rfl (lv_at hl 2 rfl) ?_
          obtain ⟨q7, hq7, hf⟩ := bnd hf
          refine aw_cVi (rest := [.int 1]) C0 hW (lv_fix (by decide)) (cel_8 kd70) rfl (c_X9_parts x2  hq7) (cw_X9_92 hts ⟨Nat.le_of_ble_eq_true rfl, Nat.le_of_ble_eq_true rfl⟩) rfl hl.1 rfl (Nat.le_of_ble_eq_true rfl) ⟨Nat.zero_le _, Nat.zero_le _⟩ dX9_combine_51 (fun H locs hW => ?_)
          refine lv_iadd hx hb dX9_combine_54 ?_
          refine lv_iload hx hb dX9_combine_55 (lv_at hl 4 rfl) ?_
          obtain ⟨q8, hq8, hf⟩ := bnd hf
          have J69_q8 : ∀ (H : Heap) (locs : List Loc) (ls : Array Slot), Wd g ((up I 70 7 0)) R P Z s.heap H locs → lv_has ls 6 [(0, .ref (g.2.2 + 70)), (1, .int x1), (2, .int x2), (3, .int x3), (4, .int x4)] → W p0 l e rmX9_combine s m args below meth c H locs 0 0 (MQ below (QI g z.1 z.2 R P Z) args s 0 0 (AA g)) (F0 m 69 ls ([.int q8, .int (1 + q7)])) := by
            intro H locs ls hW hl
            refine lv_iadd hx hb dX9_combine_69 ?_
            refine lv_istore (lv' := [(5, .int ((1 + q7) + q8)), (0, .ref (g.2.2 + 70)), (1, .int x1), (2, .int x2), (3, .int x3), (4, .int x4)]) hx hb dX9_combine_70 hl (Nat.le_of_ble_eq_true rfl) rfl (fun ls hl => ?_)
            refine lv_aload_n hx hb dX9_combine_72 rfl (lv_at hl 1 rfl) ?_
            refine lv_iload_n hx hb dX9_combine_73 rfl (lv_at hl 3 rfl) ?_
            obtain ⟨q10, hq10, hf⟩ := bnd hf
            refine aw_cVi (rest := []) C0 hW (lv_fix (by decide)) (cel_8 kd70) rfl (c_X9_parts x2  hq10) (cw_X9_92 hts ⟨Nat.le_of_ble_eq_true rfl, Nat.le_of_ble_eq_true rfl⟩) rfl hl.1 rfl (Nat.le_of_ble_eq_true rfl) ⟨Nat.zero_le _, Nat.zero_le _⟩ dX9_combine_74 (fun H locs hW => ?_)
            refine lv_if_eq (tgt := 100) hx hb dX9_combine_77 rfl (fun hc => ?_) (fun hc => ?_)
            · have hf := ift hc hf
              refine lv_aload_n hx hb dX9_combine_100 rfl (lv_at hl 1 rfl) ?_
              refine lv_iconst (v := 3) hx hb dX9_combine_101 (by decide) ?_
              obtain ⟨q11, hq11, hf⟩ := bnd hf
              refine aw_cVi (rest := []) C0 hW (lv_fix (by decide)) (cel_8 kd70) rfl (c_X9_refuses 3  hq11) (cw_X9_119 hts ⟨Nat.le_of_ble_eq_true rfl, Nat.le_of_ble_eq_true rfl⟩) rfl hl.1 rfl (Nat.le_of_ble_eq_true rfl) ⟨Nat.zero_le _, Nat.zero_le _⟩ dX9_combine_102 (fun H locs hW => ?_)
              have hz := Option.some.inj hf
              have hzV := congrArg (fun z : Int32 × Mem => z.1) hz
              have hzI := congrArg (fun z : Int32 × Mem => z.2) hz
              exact aw_iret C0 hW hzV hzI rfl dX9_combine_105
            · have hf := iff_ hc hf
              refine lv_iload hx hb dX9_combine_80 (lv_at hl 5 rfl) ?_
              refine lv_if_le (tgt := 93) hx hb dX9_combine_82 rfl (fun hc => ?_) (fun hc => ?_)
              · have hf := ift hc hf
                refine lv_iload hx hb dX9_combine_93 (lv_at hl 0 rfl) ?_
                refine lv_bipush (v := 40) hx hb dX9_combine_95 (by decide) ?_
                refine lv_icmp_le (tgt := 106) hx hb dX9_combine_97 rfl (fun hc => ?_) (fun hc => ?_)
                · have hf := ift hc hf
                  refine lv_aload_n hx hb dX9_combine_106 rfl (lv_at hl 1 rfl) ?_
                  obtain ⟨q12, hq12, hf⟩ := bnd hf
                  refine aw_cVv (rest := []) C0 hW (lv_fix (by decide)) (cel_8 kd70) rfl (c_X9_saves  hq12) (cw_X9_125 hts ⟨Nat.le_of_ble_eq_true rfl, Nat.le_of_ble_eq_true rfl⟩) rfl hl.1 rfl (Nat.le_of_ble_eq_true rfl) ⟨Nat.zero_le _, Nat.zero_le _⟩ dX9_combine_107 (fun H locs hW => ?_)
                  refine lv_aload_n hx hb dX9_combine_110 rfl (lv_at hl 1 rfl) ?_
                  refine lv_iconst (v := 0) hx hb dX9_combine_111 (by decide) ?_
                  refine aw_put C0 hW (lv_fix (by decide)) (cel_8 kd70) rfl inG8 tyX9 tyX9_ok nmX9 13 (by decide) wd90 rfl rfl (ty := .int) rfl rfl rfl (Nat.le_of_ble_eq_true rfl) (pu_8_13 kd70) dX9_combine_112 (fun H locs hW => ?_)
                  refine lv_aload_n hx hb dX9_combine_115 rfl (lv_at hl 1 rfl) ?_
                  refine lv_iload_n hx hb dX9_combine_116 rfl (lv_at hl 3 rfl) ?_
                  obtain ⟨q13, hq13, hf⟩ := bnd hf
                  refine aw_cVv (rest := []) C0 hW (lv_fix (by decide)) (cel_8 kd70) rfl (c_X9_makesAll x2  hq13) (cw_X9_160 hts ⟨Nat.le_of_ble_eq_true rfl, Nat.le_of_ble_eq_true rfl⟩) rfl hl.1 rfl (Nat.le_of_ble_eq_true rfl) ⟨Nat.zero_le _, Nat.zero_le _⟩ dX9_combine_117 (fun H locs hW => ?_)
                  refine lv_iload hx hb dX9_combine_120 (lv_at hl 5 rfl) ?_
                  obtain ⟨q14, hq14, hf⟩ := bnd hf
                  have J130_q14 : ∀ (H : Heap) (locs : List Loc) (ls : Array Slot), Wd g q14 R P Z s.heap H locs → lv_has ls 6 [(0, .ref (g.2.2 + 70)), (1, .int x1), (4, .int x4)] → W p0 l e rmX9_combine s m args below meth c H locs 0 0 (MQ below (QI g z.1 z.2 R P Z) args s 0 0 (AA g)) (F0 m 130 ls ([])) := by
                    intro H locs ls hW hl
                    refine lv_aload_n hx hb dX9_combine_130 rfl (lv_at hl 0 rfl) ?_
                    refine lv_iload hx hb dX9_combine_131 (lv_at hl 2 rfl) ?_
                    refine lv_if_ne (tgt := 140) hx hb dX9_combine_133 rfl (fun hc => ?_) (fun hc => ?_)
                    · have hf := iff_ hc hf
                      refine lv_iload hx hb dX9_combine_140 (lv_at hl 2 rfl) ?_
                      refine lv_iconst (v := 1) hx hb dX9_combine_142 (by decide) ?_
                      refine lv_icmp_ne (tgt := 150) hx hb dX9_combine_143 rfl (fun hc => ?_) (fun hc => ?_)
                      · have hf := iff_ hc hf
                        refine lv_iconst (v := 2) hx hb dX9_combine_150 (by decide) ?_
                        obtain ⟨q16, hq16, hf⟩ := bnd hf
                        refine aw_cVv (rest := []) C0 hW (lv_fix (by decide)) (cel_8 kd70) rfl (c_X9_makes 2  hq16) (cw_X9_144 hts ⟨Nat.le_of_ble_eq_true rfl, Nat.le_of_ble_eq_true rfl⟩) rfl hl.1 rfl (Nat.le_of_ble_eq_true rfl) ⟨Nat.zero_le _, Nat.zero_le _⟩ dX9_combine_151 (fun H locs hW => ?_)
                        refine lv_aload_n hx hb dX9_combine_154 rfl (lv_at hl 0 rfl) ?_
                        refine lv_iload_n hx hb dX9_combine_155 rfl (lv_at hl 1 rfl) ?_
                        obtain ⟨q17, hq17, hf⟩ := bnd hf
                        refine aw_cVi (rest := []) C0 hW (lv_fix (by decide)) (cel_8 kd70) rfl (c_X9_puts x1  hq17) (cw_X9_157 hts ⟨Nat.le_of_ble_eq_true rfl, Nat.le_of_ble_eq_true rfl⟩) rfl hl.1 rfl (Nat.le_of_ble_eq_true rfl) ⟨Nat.zero_le _, Nat.zero_le _⟩ dX9_combine_156 (fun H locs hW => ?_)
                        have hz := Option.some.inj hf
                        have hzV := congrArg (fun z : Int32 × Mem => z.1) hz
                        have hzI := congrArg (fun z : Int32 × Mem => z.2) hz
                        exact aw_iret C0 hW hzV hzI rfl dX9_combine_159
                      · have hf := ift hc hf
                        refine lv_iconst (v := 1) hx hb dX9_combine_146 (by decide) ?_
                        refine lv_goto (tgt := 151) hx hb dX9_combine_147 rfl ?_
                        obtain ⟨q18, hq18, hf⟩ := bnd hf
                        refine aw_cVv (rest := []) C0 hW (lv_fix (by decide)) (cel_8 kd70) rfl (c_X9_makes 1  hq18) (cw_X9_144 hts ⟨Nat.le_of_ble_eq_true rfl, Nat.le_of_ble_eq_true rfl⟩) rfl hl.1 rfl (Nat.le_of_ble_eq_true rfl) ⟨Nat.zero_le _, Nat.zero_le _⟩ dX9_combine_151 (fun H locs hW => ?_)
                        refine lv_aload_n hx hb dX9_combine_154 rfl (lv_at hl 0 rfl) ?_
                        refine lv_iload_n hx hb dX9_combine_155 rfl (lv_at hl 1 rfl) ?_
                        obtain ⟨q19, hq19, hf⟩ := bnd hf
                        refine aw_cVi (rest := []) C0 hW (lv_fix (by decide)) (cel_8 kd70) rfl (c_X9_puts x1  hq19) (cw_X9_157 hts ⟨Nat.le_of_ble_eq_true rfl, Nat.le_of_ble_eq_true rfl⟩) rfl hl.1 rfl (Nat.le_of_ble_eq_true rfl) ⟨Nat.zero_le _, Nat.zero_le _⟩ dX9_combine_156 (fun H locs hW => ?_)
                        have hz := Option.some.inj hf
                        have hzV := congrArg (fun z : Int32 × Mem => z.1) hz
                        have hzI := congrArg (fun z : Int32 × Mem => z.2) hz
                        exact aw_iret C0 hW hzV hzI rfl dX9_combine_159
                    · have hf := ift hc hf
                      refine lv_iconst (v := 0) hx hb dX9_combine_136 (by decide) ?_
                      refine lv_goto (tgt := 151) hx hb dX9_combine_137 rfl ?_
                      obtain ⟨q20, hq20, hf⟩ := bnd hf
                      refine aw_cVv (rest := []) C0 hW (lv_fix (by decide)) (cel_8 kd70) rfl (c_X9_makes 0  hq20) (cw_X9_144 hts ⟨Nat.le_of_ble_eq_true rfl, Nat.le_of_ble_eq_true rfl⟩) rfl hl.1 rfl (Nat.le_of_ble_eq_true rfl) ⟨Nat.zero_le _, Nat.zero_le _⟩ dX9_combine_151 (fun H locs hW => ?_)
                      refine lv_aload_n hx hb dX9_combine_154 rfl (lv_at hl 0 rfl) ?_
                      refine lv_iload_n hx hb dX9_combine_155 rfl (lv_at hl 1 rfl) ?_
                      obtain ⟨q21, hq21, hf⟩ := bnd hf
                      refine aw_cVi (rest := []) C0 hW (lv_fix (by decide)) (cel_8 kd70) rfl (c_X9_puts x1  hq21) (cw_X9_157 hts ⟨Nat.le_of_ble_eq_true rfl, Nat.le_of_ble_eq_true rfl⟩) rfl hl.1 rfl (Nat.le_of_ble_eq_true rfl) ⟨Nat.zero_le _, Nat.zero_le _⟩ dX9_combine_156 (fun H locs hW => ?_)
                      have hz := Option.some.inj hf
                      have hzV := congrArg (fun z : Int32 × Mem => z.1) hz
                      have hzI := congrArg (fun z : Int32 × Mem => z.2) hz
                      exact aw_iret C0 hW hzV hzI rfl dX9_combine_159
                  have hf := hq14
                  refine lv_if_le (tgt := 130) hx hb dX9_combine_122 rfl (fun hc => ?_) (fun hc => ?_)
                  · have hf := ift hc hf
                    have ho := Option.some.inj hf
                    subst ho
                    exact J130_q14 H locs ls hW (lv_sub hl [1, 2, 5] rfl)
                  · have hf := iff_ hc hf
                    refine lv_aload_n hx hb dX9_combine_125 rfl (lv_at hl 1 rfl) ?_
                    refine lv_iload_n hx hb dX9_combine_126 rfl (lv_at hl 4 rfl) ?_
                    obtain ⟨q15, hq15, hf⟩ := bnd hf
                    refine aw_cVv (rest := []) C0 hW (lv_fix (by decide)) (cel_8 kd70) rfl (c_X9_makesAll x3  hq15) (cw_X9_160 hts ⟨Nat.le_of_ble_eq_true rfl, Nat.le_of_ble_eq_true rfl⟩) rfl hl.1 rfl (Nat.le_of_ble_eq_true rfl) ⟨Nat.zero_le _, Nat.zero_le _⟩ dX9_combine_127 (fun H locs hW => ?_)
                    have ho := Option.some.inj hf
                    subst ho
                    exact J130_q14 H locs ls hW (lv_sub hl [1, 2, 5] rfl)
                · have hf := iff_ hc hf
                  refine lv_aload_n hx hb dX9_combine_100 rfl (lv_at hl 1 rfl) ?_
                  refine lv_iconst (v := 3) hx hb dX9_combine_101 (by decide) ?_
                  obtain ⟨q22, hq22, hf⟩ := bnd hf
                  refine aw_cVi (rest := []) C0 hW (lv_fix (by decide)) (cel_8 kd70) rfl (c_X9_refuses 3  hq22) (cw_X9_119 hts ⟨Nat.le_of_ble_eq_true rfl, Nat.le_of_ble_eq_true rfl⟩) rfl hl.1 rfl (Nat.le_of_ble_eq_true rfl) ⟨Nat.zero_le _, Nat.zero_le _⟩ dX9_combine_102 (fun H locs hW => ?_)
                  have hz := Option.some.inj hf
                  have hzV := congrArg (fun z : Int32 × Mem => z.1) hz
                  have hzI := congrArg (fun z : Int32 × Mem => z.2) hz
                  exact aw_iret C0 hW hzV hzI rfl dX9_combine_105
              · have hf := iff_ hc hf
                refine lv_aload_n hx hb dX9_combine_85 rfl (lv_at hl 1 rfl) ?_
                refine lv_iload_n hx hb dX9_combine_86 rfl (lv_at hl 4 rfl) ?_
                obtain ⟨q23, hq23, hf⟩ := bnd hf
                refine aw_cVi (rest := []) C0 hW (lv_fix (by decide)) (cel_8 kd70) rfl (c_X9_parts x3  hq23) (cw_X9_92 hts ⟨Nat.le_of_ble_eq_true rfl, Nat.le_of_ble_eq_true rfl⟩) rfl hl.1 rfl (Nat.le_of_ble_eq_true rfl) ⟨Nat.zero_le _, Nat.zero_le _⟩ dX9_combine_87 (fun H locs hW => ?_)
                refine lv_if_eq (tgt := 100) hx hb dX9_combine_90 rfl (fun hc => ?_) (fun hc => ?_)
                · have hf := ift hc hf
                  refine lv_aload_n hx hb dX9_combine_100 rfl (lv_at hl 1 rfl) ?_
                  refine lv_iconst (v := 3) hx hb dX9_combine_101 (by decide) ?_
                  obtain ⟨q24, hq24, hf⟩ := bnd hf
                  refine aw_cVi (rest := []) C0 hW (lv_fix (by decide)) (cel_8 kd70) rfl (c_X9_refuses 3  hq24) (cw_X9_119 hts ⟨Nat.le_of_ble_eq_true rfl, Nat.le_of_ble_eq_true rfl⟩) rfl hl.1 rfl (Nat.le_of_ble_eq_true rfl) ⟨Nat.zero_le _, Nat.zero_le _⟩ dX9_combine_102 (fun H locs hW => ?_)
                  have hz := Option.some.inj hf
                  have hzV := congrArg (fun z : Int32 × Mem => z.1) hz
                  have hzI := congrArg (fun z : Int32 × Mem => z.2) hz
                  exact aw_iret C0 hW hzV hzI rfl dX9_combine_105
                · have hf := iff_ hc hf
                  refine lv_iload hx hb dX9_combine_93 (lv_at hl 0 rfl) ?_
                  refine lv_bipush (v := 40) hx hb dX9_combine_95 (by decide) ?_
                  refine lv_icmp_le (tgt := 106) hx hb dX9_combine_97 rfl (fun hc => ?_) (fun hc => ?_)
                  · have hf := ift hc hf
                    refine lv_aload_n hx hb dX9_combine_106 rfl (lv_at hl 1 rfl) ?_
                    obtain ⟨q25, hq25, hf⟩ := bnd hf
                    refine aw_cVv (rest := []) C0 hW (lv_fix (by decide)) (cel_8 kd70) rfl (c_X9_saves  hq25) (cw_X9_125 hts ⟨Nat.le_of_ble_eq_true rfl, Nat.le_of_ble_eq_true rfl⟩) rfl hl.1 rfl (Nat.le_of_ble_eq_true rfl) ⟨Nat.zero_le _, Nat.zero_le _⟩ dX9_combine_107 (fun H locs hW => ?_)
                    refine lv_aload_n hx hb dX9_combine_110 rfl (lv_at hl 1 rfl) ?_
                    refine lv_iconst (v := 0) hx hb dX9_combine_111 (by decide) ?_
                    refine aw_put C0 hW (lv_fix (by decide)) (cel_8 kd70) rfl inG8 tyX9 tyX9_ok nmX9 13 (by decide) wd90 rfl rfl (ty := .int) rfl rfl rfl (Nat.le_of_ble_eq_true rfl) (pu_8_13 kd70) dX9_combine_112 (fun H locs hW => ?_)
                    refine lv_aload_n hx hb dX9_combine_115 rfl (lv_at hl 1 rfl) ?_
                    refine lv_iload_n hx hb dX9_combine_116 rfl (lv_at hl 3 rfl) ?_
                    obtain ⟨q26, hq26, hf⟩ := bnd hf
                    refine aw_cVv (rest := []) C0 hW (lv_fix (by decide)) (cel_8 kd70) rfl (c_X9_makesAll x2  hq26) (cw_X9_160 hts ⟨Nat.le_of_ble_eq_true rfl, Nat.le_of_ble_eq_true rfl⟩) rfl hl.1 rfl (Nat.le_of_ble_eq_true rfl) ⟨Nat.zero_le _, Nat.zero_le _⟩ dX9_combine_117 (fun H locs hW => ?_)
                    refine lv_iload hx hb dX9_combine_120 (lv_at hl 5 rfl) ?_
                    obtain ⟨q27, hq27, hf⟩ := bnd hf
                    have J130_q27 : ∀ (H : Heap) (locs : List Loc) (ls : Array Slot), Wd g q27 R P Z s.heap H locs → lv_has ls 6 [(0, .ref (g.2.2 + 70)), (1, .int x1), (4, .int x4)] → W p0 l e rmX9_combine s m args below meth c H locs 0 0 (MQ below (QI g z.1 z.2 R P Z) args s 0 0 (AA g)) (F0 m 130 ls ([])) := by
                      intro H locs ls hW hl
                      refine lv_aload_n hx hb dX9_combine_130 rfl (lv_at hl 0 rfl) ?_
                      refine lv_iload hx hb dX9_combine_131 (lv_at hl 2 rfl) ?_
                      refine lv_if_ne (tgt := 140) hx hb dX9_combine_133 rfl (fun hc => ?_) (fun hc => ?_)
                      · have hf := iff_ hc hf
                        refine lv_iload hx hb dX9_combine_140 (lv_at hl 2 rfl) ?_
                        refine lv_iconst (v := 1) hx hb dX9_combine_142 (by decide) ?_
                        refine lv_icmp_ne (tgt := 150) hx hb dX9_combine_143 rfl (fun hc => ?_) (fun hc => ?_)
                        · have hf := iff_ hc hf
                          refine lv_iconst (v := 2) hx hb dX9_combine_150 (by decide) ?_
                          obtain ⟨q29, hq29, hf⟩ := bnd hf
                          refine aw_cVv (rest := []) C0 hW (lv_fix (by decide)) (cel_8 kd70) rfl (c_X9_makes 2  hq29) (cw_X9_144 hts ⟨Nat.le_of_ble_eq_true rfl, Nat.le_of_ble_eq_true rfl⟩) rfl hl.1 rfl (Nat.le_of_ble_eq_true rfl) ⟨Nat.zero_le _, Nat.zero_le _⟩ dX9_combine_151 (fun H locs hW => ?_)
                          refine lv_aload_n hx hb dX9_combine_154 rfl (lv_at hl 0 rfl) ?_
                          refine lv_iload_n hx hb dX9_combine_155 rfl (lv_at hl 1 rfl) ?_
                          obtain ⟨q30, hq30, hf⟩ := bnd hf
                          refine aw_cVi (rest := []) C0 hW (lv_fix (by decide)) (cel_8 kd70) rfl (c_X9_puts x1  hq30) (cw_X9_157 hts ⟨Nat.le_of_ble_eq_true rfl, Nat.le_of_ble_eq_true rfl⟩) rfl hl.1 rfl (Nat.le_of_ble_eq_true rfl) ⟨Nat.zero_le _, Nat.zero_le _⟩ dX9_combine_156 (fun H locs hW => ?_)
                          have hz := Option.some.inj hf
                          have hzV := congrArg (fun z : Int32 × Mem => z.1) hz
                          have hzI := congrArg (fun z : Int32 × Mem => z.2) hz
                          exact aw_iret C0 hW hzV hzI rfl dX9_combine_159
                        · have hf := ift hc hf
                          refine lv_iconst (v := 1) hx hb dX9_combine_146 (by decide) ?_
                          refine lv_goto (tgt := 151) hx hb dX9_combine_147 rfl ?_
                          obtain ⟨q31, hq31, hf⟩ := bnd hf
                          refine aw_cVv (rest := []) C0 hW (lv_fix (by decide)) (cel_8 kd70) rfl (c_X9_makes 1  hq31) (cw_X9_144 hts ⟨Nat.le_of_ble_eq_true rfl, Nat.le_of_ble_eq_true rfl⟩) rfl hl.1 rfl (Nat.le_of_ble_eq_true rfl) ⟨Nat.zero_le _, Nat.zero_le _⟩ dX9_combine_151 (fun H locs hW => ?_)
                          refine lv_aload_n hx hb dX9_combine_154 rfl (lv_at hl 0 rfl) ?_
                          refine lv_iload_n hx hb dX9_combine_155 rfl (lv_at hl 1 rfl) ?_
                          obtain ⟨q32, hq32, hf⟩ := bnd hf
                          refine aw_cVi (rest := []) C0 hW (lv_fix (by decide)) (cel_8 kd70) rfl (c_X9_puts x1  hq32) (cw_X9_157 hts ⟨Nat.le_of_ble_eq_true rfl, Nat.le_of_ble_eq_true rfl⟩) rfl hl.1 rfl (Nat.le_of_ble_eq_true rfl) ⟨Nat.zero_le _, Nat.zero_le _⟩ dX9_combine_156 (fun H locs hW => ?_)
                          have hz := Option.some.inj hf
                          have hzV := congrArg (fun z : Int32 × Mem => z.1) hz
                          have hzI := congrArg (fun z : Int32 × Mem => z.2) hz
                          exact aw_iret C0 hW hzV hzI rfl dX9_combine_159
                      · have hf := ift hc hf
                        refine lv_iconst (v := 0) hx hb dX9_combine_136 (by decide) ?_
                        refine lv_goto (tgt := 151) hx hb dX9_combine_137 rfl ?_
                        obtain ⟨q33, hq33, hf⟩ := bnd hf
                        refine aw_cVv (rest := []) C0 hW (lv_fix (by decide)) (cel_8 kd70) rfl (c_X9_makes 0  hq33) (cw_X9_144 hts ⟨Nat.le_of_ble_eq_true rfl, Nat.le_of_ble_eq_true rfl⟩) rfl hl.1 rfl (Nat.le_of_ble_eq_true rfl) ⟨Nat.zero_le _, Nat.zero_le _⟩ dX9_combine_151 (fun H locs hW => ?_)
                        refine lv_aload_n hx hb dX9_combine_154 rfl (lv_at hl 0 rfl) ?_
                        refine lv_iload_n hx hb dX9_combine_155 rfl (lv_at hl 1 rfl) ?_
                        obtain ⟨q34, hq34, hf⟩ := bnd hf
                        refine aw_cVi (rest := []) C0 hW (lv_fix (by decide)) (cel_8 kd70) rfl (c_X9_puts x1  hq34) (cw_X9_157 hts ⟨Nat.le_of_ble_eq_true rfl, Nat.le_of_ble_eq_true rfl⟩) rfl hl.1 rfl (Nat.le_of_ble_eq_true rfl) ⟨Nat.zero_le _, Nat.zero_le _⟩ dX9_combine_156 (fun H locs hW => ?_)
                        have hz := Option.some.inj hf
                        have hzV := congrArg (fun z : Int32 × Mem => z.1) hz
                        have hzI := congrArg (fun z : Int32 × Mem => z.2) hz
                        exact aw_iret C0 hW hzV hzI rfl dX9_combine_159
                    have hf := hq27
                    refine lv_if_le (tgt := 130) hx hb dX9_combine_122 rfl (fun hc => ?_) (fun hc => ?_)
                    · have hf := ift hc hf
                      have ho := Option.some.inj hf
                      subst ho
                      exact J130_q27 H locs ls hW (lv_sub hl [1, 2, 5] rfl)
                    · have hf := iff_ hc hf
                      refine lv_aload_n hx hb dX9_combine_125 rfl (lv_at hl 1 rfl) ?_
                      refine lv_iload_n hx hb dX9_combine_126 rfl (lv_at hl 4 rfl) ?_
                      obtain ⟨q28, hq28, hf⟩ := bnd hf
                      refine aw_cVv (rest := []) C0 hW (lv_fix (by decide)) (cel_8 kd70) rfl (c_X9_makesAll x3  hq28) (cw_X9_160 hts ⟨Nat.le_of_ble_eq_true rfl, Nat.le_of_ble_eq_true rfl⟩) rfl hl.1 rfl (Nat.le_of_ble_eq_true rfl) ⟨Nat.zero_le _, Nat.zero_le _⟩ dX9_combine_127 (fun H locs hW => ?_)
                      have ho := Option.some.inj hf
                      subst ho
                      exact J130_q27 H locs ls hW (lv_sub hl [1, 2, 5] rfl)
                  · have hf := iff_ hc hf
                    refine lv_aload_n hx hb dX9_combine_100 rfl (lv_at hl 1 rfl) ?_
                    refine lv_iconst (v := 3) hx hb dX9_combine_101 (by decide) ?_
                    obtain ⟨q35, hq35, hf⟩ := bnd hf
                    refine aw_cVi (rest := []) C0 hW (lv_fix (by decide)) (cel_8 kd70) rfl (c_X9_refuses 3  hq35) (cw_X9_119 hts ⟨Nat.le_of_ble_eq_true rfl, Nat.le_of_ble_eq_true rfl⟩) rfl hl.1 rfl (Nat.le_of_ble_eq_true rfl) ⟨Nat.zero_le _, Nat.zero_le _⟩ dX9_combine_102 (fun H locs hW => ?_)
                    have hz := Option.some.inj hf
                    have hzV := congrArg (fun z : Int32 × Mem => z.1) hz
                    have hzI := congrArg (fun z : Int32 × Mem => z.2) hz
                    exact aw_iret C0 hW hzV hzI rfl dX9_combine_105
          have hf := hq8
          refine lv_if_ne (tgt := 64) hx hb dX9_combine_57 rfl (fun hc => ?_) (fun hc => ?_)
          · have hf := iff_ hc hf
            refine lv_aload_n hx hb dX9_combine_64 rfl (lv_at hl 0 rfl) ?_
            refine lv_iload_n hx hb dX9_combine_65 rfl (lv_at hl 3 rfl) ?_
            obtain ⟨q9, hq9, hf⟩ := bnd hf
            refine aw_cVi (rest := [.int (1 + q7)]) C0 hW (lv_fix (by decide)) (cel_8 kd70) rfl (c_X9_parts x3  hq9) (cw_X9_92 hts ⟨Nat.le_of_ble_eq_true rfl, Nat.le_of_ble_eq_true rfl⟩) rfl hl.1 rfl (Nat.le_of_ble_eq_true rfl) ⟨Nat.zero_le _, Nat.zero_le _⟩ dX9_combine_66 (fun H locs hW => ?_)
            have ho := Option.some.inj hf
            subst ho
            exact J69_q8 H locs ls hW (lv_sub hl [0, 1, 2, 3, 4] rfl)
          · have hf := ift hc hf
            refine lv_iconst (v := 0) hx hb dX9_combine_60 (by decide) ?_
            refine lv_goto (tgt := 69) hx hb dX9_combine_61 rfl ?_
            have ho := Option.some.inj hf
            subst ho
            exact J69_q8 H locs ls hW (lv_sub hl [0, 1, 2, 3, 4] rfl)
        · have hf := ift hc hf
          refine lv_aload_n hx hb dX9_combine_42 rfl (lv_at hl 0 rfl) ?_
          refine lv_iconst (v := 2) hx hb dX9_combine_43 (by decide) ?_
          obtain ⟨q36, hq36, hf⟩ := bnd hf
          refine aw_cVi (rest := []) C0 hW (lv_fix (by decide)) (cel_8 kd70) rfl (c_X9_refuses 2  hq36) (cw_X9_119 hts ⟨Nat.le_of_ble_eq_true rfl, Nat.le_of_ble_eq_true rfl⟩) rfl hl.1 rfl (Nat.le_of_ble_eq_true rfl) ⟨Nat.zero_le _, Nat.zero_le _⟩ dX9_combine_44 (fun H locs hW => ?_)
          have hz := Option.some.inj hf
          have hzV := congrArg (fun z : Int32 × Mem => z.1) hz
          have hzI := congrArg (fun z : Int32 × Mem => z.2) hz
          exact aw_iret C0 hW hzV hzI rfl dX9_combine_47
      · have hf := ift hc hf
        refine lv_aload_n hx hb dX9_combine_26 rfl (lv_at hl 0 rfl) ?_
        refine lv_iconst (v := 1) hx hb dX9_combine_27 (by decide) ?_
        obtain ⟨q37, hq37, hf⟩ := bnd hf
        refine aw_cVi (rest := []) C0 hW (lv_fix (by decide)) (cel_8 kd70) rfl (c_X9_refuses 1  hq37) (cw_X9_119 hts ⟨Nat.le_of_ble_eq_true rfl, Nat.le_of_ble_eq_true rfl⟩) rfl hl.1 rfl (Nat.le_of_ble_eq_true rfl) ⟨Nat.zero_le _, Nat.zero_le _⟩ dX9_combine_28 (fun H locs hW => ?_)
        have hz := Option.some.inj hf
        have hzV := congrArg (fun z : Int32 × Mem => z.1) hz
        have hzI := congrArg (fun z : Int32 × Mem => z.2) hz
        exact aw_iret C0 hW hzV hzI rfl dX9_combine_31
def f_X9_compare_L73 (x1 : Int32) (x2 : Int32) (x3 : Int32) (x4 : Int32) : Nat → Int32 → Int32 → Mem → Option (Int32 × Mem)
  | 0, _, _, _ => none
  | n + 1, w5, w6, I =>
    (f_X9_many x1 I).bind fun q9 =>
    if q9 ≤ w6 then (
      some (w5, I)
    ) else (
      (f_X9_truthAt x1 w6 x2 I).bind fun q10 =>
      (f_X9_truthAt x1 w6 x3 q10.2).bind fun q11 =>
      ((
        if x4 = 0 then (
          if q10.1 = q11.1 then (
            some 1
          ) else (
            some 0
          )
        ) else (
          if x4 = 1 then (
            if q10.1 = 2 then (
              if q11.1 = 2 then (
                some 0
              ) else (
                some 1
              )
            ) else (
              some 0
            )
          ) else (
            if q11.1 ≤ q10.1 then (
              some 0
            ) else (
              some 1
            )
          )
        )
      ) : Option (Int32)).bind fun q12 =>
      if q12 = 0 then (
        f_X9_compare_L73 x1 x2 x3 x4 n (w5 + 0) (w6 + 1) q11.2
      ) else (
        f_X9_compare_L73 x1 x2 x3 x4 n (w5 + 1) (w6 + 1) q11.2
      )
    )
def f_X9_compare (x1 : Int32) (x2 : Int32) (x3 : Int32) (x4 : Int32) (I : Mem) : Option (Int32 × Mem) :=
  (f_X9_isTable x1).bind fun q1 =>
  if q1 = 0 then (
    (f_X9_refuses 1 ((up I 70 7 0))).bind fun q2 =>
    some (q2.1, q2.2)
  ) else (
    (f_X9_isSlot x2).bind fun q3 =>
    if q3 = 0 then (
      (f_X9_refuses 1 ((up I 70 7 0))).bind fun q4 =>
      some (q4.1, q4.2)
    ) else (
      (f_X9_isSlot x3).bind fun q5 =>
      if q5 = 0 then (
        (f_X9_refuses 1 ((up I 70 7 0))).bind fun q15 =>
        some (q15.1, q15.2)
      ) else (
        (f_X9_in x4 0 2).bind fun q6 =>
        if q6 = 0 then (
          (f_X9_refuses 2 ((up I 70 7 0))).bind fun q14 =>
          some (q14.1, q14.2)
        ) else (
          (f_X9_parts x2 ((up I 70 7 0))).bind fun q7 =>
          if q7 = 0 then (
            some ((-2), (up I 70 7 0))
          ) else (
            (f_X9_parts x3 ((up I 70 7 0))).bind fun q8 =>
            if q8 = 0 then (
              some ((-2), (up I 70 7 0))
            ) else (
              (f_X9_compare_L73 x1 x2 x3 x4 fuel 0 0 ((up I 70 7 0))).bind fun q13 =>
              some (q13.1, q13.2)
            )
          )
        )
      )
    )
  )
abbrev rmX9_compare : Room := { frames := 4, cells := 0, slots := 0, locals := 92 }
set_option maxHeartbeats 4000000 in
set_option maxRecDepth 100000 in
theorem c_X9_compare {l : Launch} {g : Gam} {I : Mem} {R : Rem} {P : Pool} {Z : Zed} (x1 : Int32) (x2 : Int32) (x3 : Int32) (x4 : Int32)  {z : Int32 × Mem} (hf : f_X9_compare x1 x2 x3 x4 I = some z) : Met l yX9_compare (Cond.code yX9_compare cX9_compare 10 (some .int) :: GT) rmX9_compare (va_Pc [.ref (g.2.2 + 70), .int x1, .int x2, .int x3, .int x4] (PW g I R P Z)) (QI g z.1 z.2 R P Z) 0 0 (AA g) := by
  refine aw_ofW (lv0 := [(0, .ref (g.2.2 + 70)), (1, .int x1), (2, .int x2), (3, .int x3), (4, .int x4)]) (by decide) (by exact Nat.le_of_ble_eq_true rfl) (by rfl) (fun p0 e s m args below meth c ls C0 hl hW => ?_)
  have C0 : CX g p0 s m args meth c RX9 cX9_compare 10 (some .int) := C0
  have hx := C0.1; have hb := C0.2.1; have hown := C0.2.2.2.2.1; have hts := C0.2.2.2.2.2.1; have hKS := C0.2.2.2.2.2.2.1
  have L73 : ∀ (n : Nat) (w5 : Int32) (w6 : Int32) (I : Mem) (H : Heap) (locs : List Loc) (ls : Array Slot) (o : Int32 × Mem), f_X9_compare_L73 x1 x2 x3 x4 n w5 w6 I = some o → Wd g I R P Z s.heap H locs → lv_has ls 10 [(0, .ref (g.2.2 + 70)), (1, .int x1), (2, .int x2), (3, .int x3), (4, .int x4), (5, .int w5), (6, .int w6)] → (∀ (H : Heap) (locs : List Loc) (ls : Array Slot), Wd g o.2 R P Z s.heap H locs → lv_has ls 10 [(5, .int o.1)] → W p0 l e rmX9_compare s m args below meth c H locs 0 0 (MQ below (QI g z.1 z.2 R P Z) args s 0 0 (AA g)) (F0 m 184 ls [])) → W p0 l e rmX9_compare s m args below meth c H locs 0 0 (MQ below (QI g z.1 z.2 R P Z) args s 0 0 (AA g)) (F0 m 73 ls []) := by
    intro n
    induction n with
    | zero => intro w5 w6 I H locs ls o hf; cases hf
    | succ n ih =>
      intro w5 w6 I H locs ls o hf hW hl hK
      rw [f_X9_compare_L73] at hf
      refine lv_iload hx hb dX9_compare_73 (lv_at hl 6 rfl) ?_
      refine lv_aload_n hx hb dX9_compare_75 rfl (lv_at hl 0 rfl) ?_
      refine lv_iload_n hx hb dX9_compare_76 rfl (lv_at hl 1 rfl) ?_
      obtain ⟨q9, hq9, hf⟩ := bnd hf
      refine aw_cVi (rest := [.int w6]) C0 hW (lv_fix (by decide)) (cel_8 kd70) rfl (c_X9_many x1  hq9) (cw_X9_70 hts ⟨Nat.le_of_ble_eq_true rfl, Nat.le_of_ble_eq_true rfl⟩) rfl hl.1 rfl (Nat.le_of_ble_eq_true rfl) ⟨Nat.zero_le _, Nat.zero_le _⟩ dX9_compare_77 (fun H locs hW => ?_)
      refine lv_icmp_ge (tgt := 184) hx hb dX9_compare_80 rfl (fun hc => ?_) (fun hc => ?_)
      · have hf := ift hc hf
        have ho := Option.some.inj hf
        subst ho
        exact hK H locs ls hW (lv_sub hl [5] rfl)
      · have hf := iff_ hc hf
        refine lv_aload_n hx hb dX9_compare_83 rfl (lv_at hl 0 rfl) ?_
        refine lv_iload_n hx hb dX9_compare_84 rfl (lv_at hl 1 rfl) ?_
        refine lv_iload hx hb dX9_compare_85 (lv_at hl 6 rfl) ?_
        refine lv_iload_n hx hb dX9_compare_87 rfl (lv_at hl 2 rfl) ?_
        obtain ⟨q10, hq10, hf⟩ := bnd hf
        refine aw_cVi (rest := []) C0 hW (lv_fix (by decide)) (cel_8 kd70) rfl (c_X9_truthAt x1 w6 x2  hq10) (cw_X9_116 hts ⟨Nat.le_of_ble_eq_true rfl, Nat.le_of_ble_eq_true rfl⟩) rfl hl.1 rfl (Nat.le_of_ble_eq_true rfl) ⟨Nat.zero_le _, Nat.zero_le _⟩ dX9_compare_88 (fun H locs hW => ?_)
        refine lv_istore (lv' := [(7, .int q10.1), (0, .ref (g.2.2 + 70)), (1, .int x1), (2, .int x2), (3, .int x3), (4, .int x4), (5, .int w5), (6, .int w6)]) hx hb dX9_compare_91 hl (Nat.le_of_ble_eq_true rfl) rfl (fun ls hl => ?_)
        refine lv_aload_n hx hb dX9_compare_93 rfl (lv_at hl 1 rfl) ?_
        refine lv_iload_n hx hb dX9_compare_94 rfl (lv_at hl 2 rfl) ?_
        refine lv_iload hx hb dX9_compare_95 (lv_at hl 7 rfl) ?_
        refine lv_iload_n hx hb dX9_compare_97 rfl (lv_at hl 4 rfl) ?_
        obtain ⟨q11, hq11, hf⟩ := bnd hf
        refine aw_cVi (rest := []) C0 hW (lv_fix (by decide)) (cel_8 kd70) rfl (c_X9_truthAt x1 w6 x3  hq11) (cw_X9_116 hts ⟨Nat.le_of_ble_eq_true rfl, Nat.le_of_ble_eq_true rfl⟩) rfl hl.1 rfl (Nat.le_of_ble_eq_true rfl) ⟨Nat.zero_le _, Nat.zero_le _⟩ dX9_compare_98 (fun H locs hW => ?_)
        refine lv_istore (lv' := [(8, .int q11.1), (7, .int q10.1), (0, .ref (g.2.2 + 70)), (1, .int x1), (2, .int x2), (3, .int x3), (4, .int x4), (5, .int w5), (6, .int w6)]) hx hb dX9_compare_101 hl (Nat.le_of_ble_eq_true rfl) rfl (fun ls hl => ?_)
        refine lv_iload hx hb dX9_compare_103 (lv_at hl 6 rfl) ?_
        obtain ⟨q12, hq12, hf⟩ := bnd hf
        have J161_q12 : ∀ (H : Heap) (locs : List Loc) (ls : Array Slot), Wd g q11.2 R P Z s.heap H locs → lv_has ls 10 [(0, .ref (g.2.2 + 70)), (1, .int x1), (2, .int x2), (3, .int x3), (4, .int x4), (5, .int w5), (6, .int w6)] → W p0 l e rmX9_compare s m args below meth c H locs 0 0 (MQ below (QI g z.1 z.2 R P Z) args s 0 0 (AA g)) (F0 m 161 ls ([.int q12])) := by
          intro H locs ls hW hl
          refine lv_istore (lv' := [(9, .int q12), (0, .ref (g.2.2 + 70)), (1, .int x1), (2, .int x2), (3, .int x3), (4, .int x4), (5, .int w5), (6, .int w6)]) hx hb dX9_compare_161 hl (Nat.le_of_ble_eq_true rfl) rfl (fun ls hl => ?_)
          refine lv_iload hx hb dX9_compare_163 (lv_at hl 6 rfl) ?_
          refine lv_iload hx hb dX9_compare_165 (lv_at hl 0 rfl) ?_
          refine lv_if_eq (tgt := 174) hx hb dX9_compare_167 rfl (fun hc => ?_) (fun hc => ?_)
          · have hf := ift hc hf
            refine lv_iconst (v := 0) hx hb dX9_compare_174 (by decide) ?_
            refine lv_iadd hx hb dX9_compare_175 ?_
            refine lv_istore (lv' := [(5, .int (w5 + 0)), (9, .int q12), (0, .ref (g.2.2 + 70)), (1, .int x1), (2, .int x2), (3, .int x3), (4, .int x4), (6, .int w6)]) hx hb dX9_compare_176 hl (Nat.le_of_ble_eq_true rfl) rfl (fun ls hl => ?_)
            refine lv_iinc (k := 7) (v := w6 + 1) (lv' := [(6, .int (w6 + 1)), (5, .int (w5 + 0)), (9, .int q12), (0, .ref (g.2.2 + 70)), (1, .int x1), (2, .int x2), (3, .int x3), (4, .int x4)]) hx hb dX9_compare_178 hl rfl (congrArg (fun t => w6 + t) (by decide : Int32.ofInt 1 = 1)) (Nat.le_of_ble_eq_true rfl) rfl (fun ls hl => ?_)
            refine lv_goto (tgt := 73) hx hb dX9_compare_181 rfl ?_
            exact ih _ _ _ H locs ls o hf hW (lv_sub hl [3, 4, 5, 6, 7, 1, 0] rfl) hK
          · have hf := iff_ hc hf
            refine lv_iconst (v := 1) hx hb dX9_compare_170 (by decide) ?_
            refine lv_goto (tgt := 175) hx hb dX9_compare_171 rfl ?_
            refine lv_iadd hx hb dX9_compare_175 ?_
            refine lv_istore (lv' := [(5, .int (w5 + 1)), (9, .int q12), (0, .ref (g.2.2 + 70)), (1, .int x1), (2, .int x2), (3, .int x3), (4, .int x4), (6, .int w6)]) hx hb dX9_compare_176 hl (Nat.le_of_ble_eq_true rfl) rfl (fun ls hl => ?_)
            refine lv_iinc (k := 7) (v := w6 + 1) (lv' := [(6, .int (w6 + 1)), (5, .int (w5 + 1)), (9, .int q12), (0, .ref (g.2.2 + 70)), (1, .int x1), (2, .int x2), (3, .int x3), (4, .int x4)]) hx hb dX9_compare_178 hl rfl (congrArg (fun t => w6 + t) (by decide : Int32.ofInt 1 = 1)) (Nat.le_of_ble_eq_true rfl) rfl (fun ls hl => ?_)
            refine lv_goto (tgt := 73) hx hb dX9_compare_181 rfl ?_
            exact ih _ _ _ H locs ls o hf hW (lv_sub hl [3, 4, 5, 6, 7, 1, 0] rfl) hK
        have hf := hq12
        refine lv_if_ne (tgt := 123) hx hb dX9_compare_105 rfl (fun hc => ?_) (fun hc => ?_)
        · have hf := iff_ hc hf
          refine lv_iload hx hb dX9_compare_123 (lv_at hl 6 rfl) ?_
          refine lv_iconst (v := 1) hx hb dX9_compare_125 (by decide) ?_
          refine lv_icmp_ne (tgt := 149) hx hb dX9_compare_126 rfl (fun hc => ?_) (fun hc => ?_)
          · have hf := iff_ hc hf
            refine lv_iload hx hb dX9_compare_149 (lv_at hl 1 rfl) ?_
            refine lv_iload hx hb dX9_compare_151 (lv_at hl 0 rfl) ?_
            refine lv_icmp_ge (tgt := 160) hx hb dX9_compare_153 rfl (fun hc => ?_) (fun hc => ?_)
            · have hf := ift hc hf
              refine lv_iconst (v := 0) hx hb dX9_compare_160 (by decide) ?_
              have ho := Option.some.inj hf
              subst ho
              exact J161_q12 H locs ls hW (lv_sub hl [2, 3, 4, 5, 6, 7, 8] rfl)
            · have hf := iff_ hc hf
              refine lv_iconst (v := 1) hx hb dX9_compare_156 (by decide) ?_
              refine lv_goto (tgt := 161) hx hb dX9_compare_157 rfl ?_
              have ho := Option.some.inj hf
              subst ho
              exact J161_q12 H locs ls hW (lv_sub hl [2, 3, 4, 5, 6, 7, 8] rfl)
          · have hf := ift hc hf
            refine lv_iload hx hb dX9_compare_129 (lv_at hl 1 rfl) ?_
            refine lv_iconst (v := 2) hx hb dX9_compare_131 (by decide) ?_
            refine lv_icmp_ne (tgt := 145) hx hb dX9_compare_132 rfl (fun hc => ?_) (fun hc => ?_)
            · have hf := iff_ hc hf
              refine lv_iconst (v := 0) hx hb dX9_compare_145 (by decide) ?_
              refine lv_goto (tgt := 161) hx hb dX9_compare_146 rfl ?_
              have ho := Option.some.inj hf
              subst ho
              exact J161_q12 H locs ls hW (lv_sub hl [2, 3, 4, 5, 6, 7, 8] rfl)
            · have hf := ift hc hf
              refine lv_iload hx hb dX9_compare_135 (lv_at hl 0 rfl) ?_
              refine lv_iconst (v := 2) hx hb dX9_compare_137 (by decide) ?_
              refine lv_icmp_eq (tgt := 145) hx hb dX9_compare_138 rfl (fun hc => ?_) (fun hc => ?_)
              · have hf := ift hc hf
                refine lv_iconst (v := 0) hx hb dX9_compare_145 (by decide) ?_
                refine lv_goto (tgt := 161) hx hb dX9_compare_146 rfl ?_
                have ho := Option.some.inj hf
                subst ho
                exact J161_q12 H locs ls hW (lv_sub hl [2, 3, 4, 5, 6, 7, 8] rfl)
              · have hf := iff_ hc hf
                refine lv_iconst (v := 1) hx hb dX9_compare_141 (by decide) ?_
                refine lv_goto (tgt := 161) hx hb dX9_compare_142 rfl ?_
                have ho := Option.some.inj hf
                subst ho
                exact J161_q12 H locs ls hW (lv_sub hl [2, 3, 4, 5, 6, 7, 8] rfl)
        · have hf := ift hc hf
          refine lv_iload hx hb dX9_compare_108 (lv_at hl 1 rfl) ?_
          refine lv_iload hx hb dX9_compare_110 (lv_at hl 0 rfl) ?_
          refine lv_icmp_ne (tgt := 119) hx hb dX9_compare_112 rfl (fun hc => ?_) (fun hc => ?_)
          · have hf := iff_ hc hf
            refine lv_iconst (v := 0) hx hb dX9_compare_119 (by decide) ?_
            refine lv_goto (tgt := 161) hx hb dX9_compare_120 rfl ?_
            have ho := Option.some.inj hf
            subst ho
            exact J161_q12 H locs ls hW (lv_sub hl [2, 3, 4, 5, 6, 7, 8] rfl)
          · have hf := ift hc hf
            refine lv_iconst (v := 1) hx hb dX9_compare_115 (by decide) ?_
            refine lv_goto (tgt := 161) hx hb dX9_compare_116 rfl ?_
            have ho := Option.some.inj hf
            subst ho
            exact J161_q12 H locs ls hW (lv_sub hl [2, 3, 4, 5, 6, 7, 8] rfl)
  unfold f_X9_compare at hf
  obtain ⟨H, hH⟩ : ∃ H, H = s.heap := ⟨_, rfl⟩
  obtain ⟨locs, hlc⟩ : ∃ q : List Loc, q = [] := ⟨_, rfl⟩
  rw [show W p0 l e rmX9_compare s m args below meth c s.heap [] 0 0 (MQ below (QI g z.1 z.2 R P Z) args s 0 0 (AA g)) (F0 m 0 ls []) = W p0 l e rmX9_compare s m args below meth c H locs 0 0 (MQ below (QI g z.1 z.2 R P Z) args s 0 0 (AA g)) (F0 m 0 ls []) by rw [hH, hlc]]
  have hW : Wd g I R P Z s.heap H locs := by rw [hH, hlc]; exact hW
  refine lv_aload_n hx hb dX9_compare_0 rfl (lv_at hl 0 rfl) ?_
  refine lv_iconst (v := 0) hx hb dX9_compare_1 (by decide) ?_
  refine aw_put C0 hW (lv_fix (by decide)) (cel_8 kd70) rfl inG8 tyX9 tyX9_ok nmX9 7 (by decide) wd79 rfl rfl (ty := .int) rfl rfl rfl (Nat.le_of_ble_eq_true rfl) (pu_8_7 kd70) dX9_compare_2 (fun H locs hW => ?_)
  refine lv_iload_n hx hb dX9_compare_5 rfl (lv_at hl 1 rfl) ?_
  obtain ⟨q1, hq1, hf⟩ := bnd hf
  refine aw_cSi (rest := []) C0 hW (c_X9_isTable x1  hq1) (cw_X9_66 hts ⟨Nat.le_of_ble_eq_true rfl, Nat.le_of_ble_eq_true rfl⟩) rfl hl.1 rfl (Nat.le_of_ble_eq_true rfl) ⟨Nat.zero_le _, Nat.zero_le _⟩ dX9_compare_6 (fun H locs hW => ?_)
  refine lv_if_eq (tgt := 26) hx hb dX9_compare_9 rfl (fun hc => ?_) (fun hc => ?_)
  · have hf := ift hc hf
    refine lv_aload_n hx hb dX9_compare_26 rfl (lv_at hl 0 rfl) ?_
    refine lv_iconst (v := 1) hx hb dX9_compare_27 (by decide) ?_
    obtain ⟨q2, hq2, hf⟩ := bnd hf
    refine aw_cVi (rest := []) C0 hW (lv_fix (by decide)) (cel_8 kd70) rfl (c_X9_refuses 1  hq2) (cw_X9_119 hts ⟨Nat.le_of_ble_eq_true rfl, Nat.le_of_ble_eq_true rfl⟩) rfl hl.1 rfl (Nat.le_of_ble_eq_true rfl) ⟨Nat.zero_le _, Nat.zero_le _⟩ dX9_compare_28 (fun H locs hW => ?_)
    have hz := Option.some.inj hf
    have hzV := congrArg (fun z : Int32 × Mem => z.1) hz
    have hzI := congrArg (fun z : Int32 × Mem => z.2) hz
    exact aw_iret C0 hW hzV hzI rfl dX9_compare_31
  · have hf := iff_ hc hf
    refine lv_iload_n hx hb dX9_compare_12 rfl (lv_at hl 2 rfl) ?_
    obtain ⟨q3, hq3, hf⟩ := bnd hf
    refine aw_cSi (rest := []) C0 hW (c_X9_isSlot x2  hq3) (cw_X9_147 hts ⟨Nat.le_of_ble_eq_true rfl, Nat.le_of_ble_eq_true rfl⟩) rfl hl.1 rfl (Nat.le_of_ble_eq_true rfl) ⟨Nat.zero_le _, Nat.zero_le _⟩ dX9_compare_13 (fun H locs hW => ?_)
    refine lv_if_eq (tgt := 26) hx hb dX9_compare_16 rfl (fun hc => ?_) (fun hc => ?_)
    · have hf := ift hc hf
      refine lv_aload_n hx hb dX9_compare_26 rfl (lv_at hl 0 rfl) ?_
      refine lv_iconst (v := 1) hx hb dX9_compare_27 (by decide) ?_
      obtain ⟨q4, hq4, hf⟩ := bnd hf
      refine aw_cVi (rest := []) C0 hW (lv_fix (by decide)) (cel_8 kd70) rfl (c_X9_refuses 1  hq4) (cw_X9_119 hts ⟨Nat.le_of_ble_eq_true rfl, Nat.le_of_ble_eq_true rfl⟩) rfl hl.1 rfl (Nat.le_of_ble_eq_true rfl) ⟨Nat.zero_le _, Nat.zero_le _⟩ dX9_compare_28 (fun H locs hW => ?_)
      have hz := Option.some.inj hf
      have hzV := congrArg (fun z : Int32 × Mem => z.1) hz
      have hzI := congrArg (fun z : Int32 × Mem => z.2) hz
      exact aw_iret C0 hW hzV hzI rfl dX9_compare_31
    · have hf := iff_ hc hf
      refine lv_iload_n hx hb dX9_compare_19 rfl (lv_at hl 3 rfl) ?_
      obtain ⟨q5, hq5, hf⟩ := bnd hf
      refine aw_cSi (rest := []) C0 hW (c_X9_isSlot x3  hq5) (cw_X9_147 hts ⟨Nat.le_of_ble_eq_true rfl, Nat.le_of_ble_eq_true rfl⟩) rfl hl.1 rfl (Nat.le_of_ble_eq_true rfl) ⟨Nat.zero_le _, Nat.zero_le _⟩ dX9_compare_20 (fun H locs hW => ?_)
      refine lv_if_ne (tgt := 32) hx hb dX9_compare_23 rfl (fun hc => ?_) (fun hc => ?_)
      · have hf := iff_ hc hf
        refine lv_iload hx hb dX9_compare_32 (lv_at hl 4 rfl) ?_
        refine lv_iconst (v := 0) hx hb dX9_compare_34 (by decide) ?_
        refine lv_iconst (v := 2) hx hb dX9_compare_35 (by decide) ?_
        obtain ⟨q6, hq6, hf⟩ := bnd hf
        refine aw_cSi (rest := []) C0 hW (c_X9_in x4 0 2  hq6) (cw_X9_62 hts ⟨Nat.le_of_ble_eq_true rfl, Nat.le_of_ble_eq_true rfl⟩) rfl hl.1 rfl (Nat.le_of_ble_eq_true rfl) ⟨Nat.zero_le _, Nat.zero_le _⟩ dX9_compare_36 (fun H locs hW => ?_)
        refine lv_if_ne (tgt := 48) hx hb dX9_compare_39 rfl (fun hc => ?_) (fun hc => ?_)
        · have hf := iff_ hc hf
          refine lv_aload_n hx hb dX9_compare_48 rfl (lv_at hl 0 rfl) ?_
          refine lv_iload_n hx hb dX9_compare_49 rfl (lv_at hl 2 rfl) ?_
          obtain ⟨q7, hq7, hf⟩ := bnd hf
          refine aw_cVi (rest := []) C0 hW (lv_fix (by decide)) (cel_8 kd70) rfl (c_X9_parts x2  hq7) (cw_X9_92 hts ⟨Nat.le_of_ble_eq_true rfl, Nat.le_of_ble_eq_true rfl⟩) rfl hl.1 rfl (Nat.le_of_ble_eq_true rfl) ⟨Nat.zero_le _, Nat.zero_le _⟩ dX9_compare_50 (fun H locs hW => ?_)
          refine lv_if_eq (tgt := 64) hx hb dX9_compare_53 rfl (fun hc => ?_) (fun hc => ?_)
          · have hf := ift hc hf
            refine lv_bipush (v := (-2)) hx hb dX9_compare_64 (by decide) ?_
            have hz := Option.some.inj hf
            have hzV := congrArg (fun z : Int32 × Mem => z.1) hz
            have hzI := congrArg (fun z : Int32 × Mem => z.2) hz
            exact aw_iret C0 hW hzV hzI rfl dX9_compare_66
          · have hf := iff_ hc hf
            refine lv_aload_n hx hb dX9_compare_56 rfl (lv_at hl 0 rfl) ?_
            refine lv_iload_n hx hb dX9_compare_57 rfl (lv_at hl 3 rfl) ?_
            obtain ⟨q8, hq8, hf⟩ := bnd hf
            refine aw_cVi (rest := []) C0 hW (lv_fix (by decide)) (cel_8 kd70) rfl (c_X9_parts x3  hq8) (cw_X9_92 hts ⟨Nat.le_of_ble_eq_true rfl, Nat.le_of_ble_eq_true rfl⟩) rfl hl.1 rfl (Nat.le_of_ble_eq_true rfl) ⟨Nat.zero_le _, Nat.zero_le _⟩ dX9_compare_58 (fun H locs hW => ?_)
            refine lv_if_ne (tgt := 67) hx hb dX9_compare_61 rfl (fun hc => ?_) (fun hc => ?_)
            · have hf := iff_ hc hf
              refine lv_iconst (v := 0) hx hb dX9_compare_67 (by decide) ?_
              refine lv_istore (lv' := [(5, .int 0), (0, .ref (g.2.2 + 70)), (1, .int x1), (2, .int x2), (3, .int x3), (4, .int x4)]) hx hb dX9_compare_68 hl (Nat.le_of_ble_eq_true rfl) rfl (fun ls hl => ?_)
              refine lv_iconst (v := 0) hx hb dX9_compare_70 (by decide) ?_
              refine lv_istore (lv' := [(6, .int 0), (5, .int 0), (0, .ref (g.2.2 + 70)), (1, .int x1), (2, .int x2), (3, .int x3), (4, .int x4)]) hx hb dX9_compare_71 hl (Nat.le_of_ble_eq_true rfl) rfl (fun ls hl => ?_)
              obtain ⟨q13, hq13, hf⟩ := bnd hf
              refine L73  fuel 0 0 ((up I 70 7 0)) H locs ls _ hq13 hW (lv_sub hl [2, 3, 4, 5, 6, 1, 0] rfl) (fun H locs ls hW hl => ?_)
              refine lv_iload hx hb dX9_compare_184 (lv_at hl 0 rfl) ?_
              have hz := Option.some.inj hf
              have hzV := congrArg (fun z : Int32 × Mem => z.1) hz
              have hzI := congrArg (fun z : Int32 × Mem => z.2) hz
              exact aw_iret C0 hW hzV hzI rfl dX9_compare_186
            · have hf := ift hc hf
              refine lv_bipush (v := (-2)) hx hb dX9_compare_64 (by decide) ?_
              have hz := Option.some.inj hf
              have hzV := congrArg (fun z : Int32 × Mem => z.1) hz
              have hzI := congrArg (fun z : Int32 × Mem => z.2) hz
              exact aw_iret C0 hW hzV hzI rfl dX9_compare_66
        · have hf := ift hc hf
          refine lv_aload_n hx hb dX9_compare_42 rfl (lv_at hl 0 rfl) ?_
          refine lv_iconst (v := 2) hx hb dX9_compare_43 (by decide) ?_
          obtain ⟨q14, hq14, hf⟩ := bnd hf
          refine aw_cVi (rest := []) C0 hW (lv_fix (by decide)) (cel_8 kd70) rfl (c_X9_refuses 2  hq14) (cw_X9_119 hts ⟨Nat.le_of_ble_eq_true rfl, Nat.le_of_ble_eq_true rfl⟩) rfl hl.1 rfl (Nat.le_of_ble_eq_true rfl) ⟨Nat.zero_le _, Nat.zero_le _⟩ dX9_compare_44 (fun H locs hW => ?_)
          have hz := Option.some.inj hf
          have hzV := congrArg (fun z : Int32 × Mem => z.1) hz
          have hzI := congrArg (fun z : Int32 × Mem => z.2) hz
          exact aw_iret C0 hW hzV hzI rfl dX9_compare_47
      · have hf := ift hc hf
        refine lv_aload_n hx hb dX9_compare_26 rfl (lv_at hl 0 rfl) ?_
        refine lv_iconst (v := 1) hx hb dX9_compare_27 (by decide) ?_
        obtain ⟨q15, hq15, hf⟩ := bnd hf
        refine aw_cVi (rest := []) C0 hW (lv_fix (by decide)) (cel_8 kd70) rfl (c_X9_refuses 1  hq15) (cw_X9_119 hts ⟨Nat.le_of_ble_eq_true rfl, Nat.le_of_ble_eq_true rfl⟩) rfl hl.1 rfl (Nat.le_of_ble_eq_true rfl) ⟨Nat.zero_le _, Nat.zero_le _⟩ dX9_compare_28 (fun H locs hW => ?_)
        have hz := Option.some.inj hf
        have hzV := congrArg (fun z : Int32 × Mem => z.1) hz
        have hzI := congrArg (fun z : Int32 × Mem => z.2) hz
        exact aw_iret C0 hW hzV hzI rfl dX9_compare_31
def f_X9_filters_L4 (I : Mem) : Nat → Int32 → Int32 → Option (Int32)
  | 0, _, _ => none
  | n + 1, w1, w2 =>
    if 6 ≤ w2 then (
      some w1
    ) else (
      (f_X9_parts w2 I).bind fun q1 =>
      if q1 ≤ 0 then (
        f_X9_filters_L4 I n (w1 + 0) (w2 + 1)
      ) else (
        f_X9_filters_L4 I n (w1 + 1) (w2 + 1)
      )
    )
def f_X9_filters (I : Mem) : Option (Int32) :=
  (f_X9_filters_L4 I fuel 0 0).bind fun q2 =>
  some q2
abbrev rmX9_filters : Room := { frames := 1, cells := 0, slots := 0, locals := 21 }
set_option maxHeartbeats 4000000 in
set_option maxRecDepth 100000 in
theorem c_X9_filters {l : Launch} {g : Gam} {I : Mem} {R : Rem} {P : Pool} {Z : Zed}   {z : Int32} (hf : f_X9_filters I = some z) : Met l yX9_filters (Cond.code yX9_filters cX9_filters 3 (some .int) :: GT) rmX9_filters (va_Pc [.ref (g.2.2 + 70)] (PW g I R P Z)) (QI g z I R P Z) 0 0 (AA g) := by
  refine aw_ofW (lv0 := [(0, .ref (g.2.2 + 70))]) (by decide) (by exact Nat.le_of_ble_eq_true rfl) (by rfl) (fun p0 e s m args below meth c ls C0 hl hW => ?_)
  have C0 : CX g p0 s m args meth c RX9 cX9_filters 3 (some .int) := C0
  have hx := C0.1; have hb := C0.2.1; have hown := C0.2.2.2.2.1; have hts := C0.2.2.2.2.2.1; have hKS := C0.2.2.2.2.2.2.1
  have L4 : ∀ (I : Mem) (n : Nat) (w1 : Int32) (w2 : Int32) (H : Heap) (locs : List Loc) (ls : Array Slot) (o : Int32), f_X9_filters_L4 I n w1 w2 = some o → Wd g I R P Z s.heap H locs → lv_has ls 3 [(0, .ref (g.2.2 + 70)), (1, .int w1), (2, .int w2)] → (∀ (H : Heap) (locs : List Loc) (ls : Array Slot), Wd g I R P Z s.heap H locs → lv_has ls 3 [(1, .int o)] → W p0 l e rmX9_filters s m args below meth c H locs 0 0 (MQ below (QI g z I R P Z) args s 0 0 (AA g)) (F0 m 32 ls [])) → W p0 l e rmX9_filters s m args below meth c H locs 0 0 (MQ below (QI g z I R P Z) args s 0 0 (AA g)) (F0 m 4 ls []) := by
    intro I n
    induction n with
    | zero => intro w1 w2 H locs ls o hf; cases hf
    | succ n ih =>
      intro w1 w2 H locs ls o hf hW hl hK
      rw [f_X9_filters_L4] at hf
      refine lv_iload_n hx hb dX9_filters_4 rfl (lv_at hl 2 rfl) ?_
      refine lv_bipush (v := 6) hx hb dX9_filters_5 (by decide) ?_
      refine lv_icmp_ge (tgt := 32) hx hb dX9_filters_7 rfl (fun hc => ?_) (fun hc => ?_)
      · have hf := ift hc hf
        have ho := Option.some.inj hf
        subst ho
        exact hK H locs ls hW (lv_sub hl [1] rfl)
      · have hf := iff_ hc hf
        refine lv_iload_n hx hb dX9_filters_10 rfl (lv_at hl 1 rfl) ?_
        refine lv_aload_n hx hb dX9_filters_11 rfl (lv_at hl 0 rfl) ?_
        refine lv_iload_n hx hb dX9_filters_12 rfl (lv_at hl 2 rfl) ?_
        obtain ⟨q1, hq1, hf⟩ := bnd hf
        refine aw_cVi (rest := [.int w1]) C0 hW (lv_fix (by decide)) (cel_8 kd70) rfl (c_X9_parts w2  hq1) (cw_X9_92 hts ⟨Nat.le_of_ble_eq_true rfl, Nat.le_of_ble_eq_true rfl⟩) rfl hl.1 rfl (Nat.le_of_ble_eq_true rfl) ⟨Nat.zero_le _, Nat.zero_le _⟩ dX9_filters_13 (fun H locs hW => ?_)
        refine lv_if_le (tgt := 23) hx hb dX9_filters_16 rfl (fun hc => ?_) (fun hc => ?_)
        · have hf := ift hc hf
          refine lv_iconst (v := 0) hx hb dX9_filters_23 (by decide) ?_
          refine lv_iadd hx hb dX9_filters_24 ?_
          refine lv_istore_n (lv' := [(1, .int (w1 + 0)), (0, .ref (g.2.2 + 70)), (2, .int w2)]) hx hb dX9_filters_25 rfl hl (Nat.le_of_ble_eq_true rfl) rfl (fun ls hl => ?_)
          refine lv_iinc (k := 2) (v := w2 + 1) (lv' := [(2, .int (w2 + 1)), (1, .int (w1 + 0)), (0, .ref (g.2.2 + 70))]) hx hb dX9_filters_26 hl rfl (congrArg (fun t => w2 + t) (by decide : Int32.ofInt 1 = 1)) (Nat.le_of_ble_eq_true rfl) rfl (fun ls hl => ?_)
          refine lv_goto (tgt := 4) hx hb dX9_filters_29 rfl ?_
          exact ih _ _ H locs ls o hf hW (lv_sub hl [2, 1, 0] rfl) hK
        · have hf := iff_ hc hf
          refine lv_iconst (v := 1) hx hb dX9_filters_19 (by decide) ?_
          refine lv_goto (tgt := 24) hx hb dX9_filters_20 rfl ?_
          refine lv_iadd hx hb dX9_filters_24 ?_
          refine lv_istore_n (lv' := [(1, .int (w1 + 1)), (0, .ref (g.2.2 + 70)), (2, .int w2)]) hx hb dX9_filters_25 rfl hl (Nat.le_of_ble_eq_true rfl) rfl (fun ls hl => ?_)
          refine lv_iinc (k := 2) (v := w2 + 1) (lv' := [(2, .int (w2 + 1)), (1, .int (w1 + 1)), (0, .ref (g.2.2 + 70))]) hx hb dX9_filters_26 hl rfl (congrArg (fun t => w2 + t) (by decide : Int32.ofInt 1 = 1)) (Nat.le_of_ble_eq_true rfl) rfl (fun ls hl => ?_)
          refine lv_goto (tgt := 4) hx hb dX9_filters_29 rfl ?_
          exact ih _ _ H locs ls o hf hW (lv_sub hl [2, 1, 0] rfl) hK
  unfold f_X9_filters at hf
  obtain ⟨H, hH⟩ : ∃ H, H = s.heap := ⟨_, rfl⟩
  obtain ⟨locs, hlc⟩ : ∃ q : List Loc, q = [] := ⟨_, rfl⟩
  rw [show W p0 l e rmX9_filters s m args below meth c s.heap [] 0 0 (MQ below (QI g z I R P Z) args s 0 0 (AA g)) (F0 m 0 ls []) = W p0 l e rmX9_filters s m args below meth c H locs 0 0 (MQ below (QI g z I R P Z) args s 0 0 (AA g)) (F0 m 0 ls []) by rw [hH, hlc]]
  have hW : Wd g I R P Z s.heap H locs := by rw [hH, hlc]; exact hW
  refine lv_iconst (v := 0) hx hb dX9_filters_0 (by decide) ?_
  refine lv_istore_n (lv' := [(1, .int 0), (0, .ref (g.2.2 + 70))]) hx hb dX9_filters_1 rfl hl (Nat.le_of_ble_eq_true rfl) rfl (fun ls hl => ?_)
  refine lv_iconst (v := 0) hx hb dX9_filters_2 (by decide) ?_
  refine lv_istore_n (lv' := [(2, .int 0), (1, .int 0), (0, .ref (g.2.2 + 70))]) hx hb dX9_filters_3 rfl hl (Nat.le_of_ble_eq_true rfl) rfl (fun ls hl => ?_)
  obtain ⟨q2, hq2, hf⟩ := bnd hf
  refine L4 I fuel 0 0 H locs ls _ hq2 hW (lv_sub hl [2, 1, 0] rfl) (fun H locs ls hW hl => ?_)
  refine lv_iload_n hx hb dX9_filters_32 rfl (lv_at hl 0 rfl) ?_
  have hz := Option.some.inj hf
  exact aw_iret C0 hW hz rfl rfl dX9_filters_33
theorem cw_X9_310 {Rm : Room} {s : State} {args : Array Value} (ht : ∀ w ∈ GT, w.before args s = true) (hR : rmX9_filters.frames + 1 ≤ Rm.frames ∧ 8 + (3 + 11) + rmX9_filters.locals ≤ Rm.locals) : CallW Rm s args RX9 RX9 310 yX9_filters cX9_filters 3 (some .int) (Cond.code yX9_filters cX9_filters 3 (some .int) :: GT) rmX9_filters 0 0 0 := cwV 0 ht (goodV wd844 wd845 wd846 wd607 wd847) rfl rfl rfl ⟨rfl, by decide +kernel, by decide +kernel, by decide +kernel⟩ hR
def f_X9_doubted (x1 : Int32) (I : Mem) : Option (Int32 × Mem) :=
  (f_X9_parts (6 + x1) I).bind fun q1 =>
  if q1 = 0 then (
    some (0, I)
  ) else (
    (f_X9_rowsOf x1 (6 + x1) 1 I).bind fun q2 =>
    (f_X9_bits q2.1).bind fun q3 =>
    some (q3, q2.2)
  )
abbrev rmX9_doubted : Room := { frames := 5, cells := 0, slots := 0, locals := 117 }
set_option maxHeartbeats 4000000 in
set_option maxRecDepth 100000 in
theorem c_X9_doubted {l : Launch} {g : Gam} {I : Mem} {R : Rem} {P : Pool} {Z : Zed} (x1 : Int32)  {z : Int32 × Mem} (hf : f_X9_doubted x1 I = some z) : Met l yX9_doubted (Cond.code yX9_doubted cX9_doubted 2 (some .int) :: GT) rmX9_doubted (va_Pc [.ref (g.2.2 + 70), .int x1] (PW g I R P Z)) (QI g z.1 z.2 R P Z) 0 0 (AA g) := by
  refine aw_ofW (lv0 := [(0, .ref (g.2.2 + 70)), (1, .int x1)]) (by decide) (by exact Nat.le_of_ble_eq_true rfl) (by rfl) (fun p0 e s m args below meth c ls C0 hl hW => ?_)
  have C0 : CX g p0 s m args meth c RX9 cX9_doubted 2 (some .int) := C0
  have hx := C0.1; have hb := C0.2.1; have hown := C0.2.2.2.2.1; have hts := C0.2.2.2.2.2.1; have hKS := C0.2.2.2.2.2.2.1
  unfold f_X9_doubted at hf
  obtain ⟨H, hH⟩ : ∃ H, H = s.heap := ⟨_, rfl⟩
  obtain ⟨locs, hlc⟩ : ∃ q : List Loc, q = [] := ⟨_, rfl⟩
  rw [show W p0 l e rmX9_doubted s m args below meth c s.heap [] 0 0 (MQ below (QI g z.1 z.2 R P Z) args s 0 0 (AA g)) (F0 m 0 ls []) = W p0 l e rmX9_doubted s m args below meth c H locs 0 0 (MQ below (QI g z.1 z.2 R P Z) args s 0 0 (AA g)) (F0 m 0 ls []) by rw [hH, hlc]]
  have hW : Wd g I R P Z s.heap H locs := by rw [hH, hlc]; exact hW
  refine lv_aload_n hx hb dX9_doubted_0 rfl (lv_at hl 0 rfl) ?_
  refine lv_bipush (v := 6) hx hb dX9_doubted_1 (by decide) ?_
  refine lv_iload_n hx hb dX9_doubted_3 rfl (lv_at hl 1 rfl) ?_
  refine lv_iadd hx hb dX9_doubted_4 ?_
  obtain ⟨q1, hq1, hf⟩ := bnd hf
  refine aw_cVi (rest := []) C0 hW (lv_fix (by decide)) (cel_8 kd70) rfl (c_X9_parts (6 + x1)  hq1) (cw_X9_92 hts ⟨Nat.le_of_ble_eq_true rfl, Nat.le_of_ble_eq_true rfl⟩) rfl hl.1 rfl (Nat.le_of_ble_eq_true rfl) ⟨Nat.zero_le _, Nat.zero_le _⟩ dX9_doubted_5 (fun H locs hW => ?_)
  refine lv_if_ne (tgt := 15) hx hb dX9_doubted_8 rfl (fun hc => ?_) (fun hc => ?_)
  · have hf := iff_ hc hf
    refine lv_aload_n hx hb dX9_doubted_15 rfl (lv_at hl 0 rfl) ?_
    refine lv_iload_n hx hb dX9_doubted_16 rfl (lv_at hl 1 rfl) ?_
    refine lv_bipush (v := 6) hx hb dX9_doubted_17 (by decide) ?_
    refine lv_iload_n hx hb dX9_doubted_19 rfl (lv_at hl 1 rfl) ?_
    refine lv_iadd hx hb dX9_doubted_20 ?_
    refine lv_iconst (v := 1) hx hb dX9_doubted_21 (by decide) ?_
    obtain ⟨q2, hq2, hf⟩ := bnd hf
    refine aw_cVi (rest := []) C0 hW (lv_fix (by decide)) (cel_8 kd70) rfl (c_X9_rowsOf x1 (6 + x1) 1  hq2) (cw_X9_163 hts ⟨Nat.le_of_ble_eq_true rfl, Nat.le_of_ble_eq_true rfl⟩) rfl hl.1 rfl (Nat.le_of_ble_eq_true rfl) ⟨Nat.zero_le _, Nat.zero_le _⟩ dX9_doubted_22 (fun H locs hW => ?_)
    obtain ⟨q3, hq3, hf⟩ := bnd hf
    refine aw_cSi (rest := []) C0 hW (c_X9_bits q2.1  hq3) (cw_X9_166 hts ⟨Nat.le_of_ble_eq_true rfl, Nat.le_of_ble_eq_true rfl⟩) rfl hl.1 rfl (Nat.le_of_ble_eq_true rfl) ⟨Nat.zero_le _, Nat.zero_le _⟩ dX9_doubted_25 (fun H locs hW => ?_)
    have hz := Option.some.inj hf
    have hzV := congrArg (fun z : Int32 × Mem => z.1) hz
    have hzI := congrArg (fun z : Int32 × Mem => z.2) hz
    exact aw_iret C0 hW hzV hzI rfl dX9_doubted_28
  · have hf := ift hc hf
    refine lv_iconst (v := 0) hx hb dX9_doubted_11 (by decide) ?_
    refine lv_goto (tgt := 28) hx hb dX9_doubted_12 rfl ?_
    have hz := Option.some.inj hf
    have hzV := congrArg (fun z : Int32 × Mem => z.1) hz
    have hzI := congrArg (fun z : Int32 × Mem => z.2) hz
    exact aw_iret C0 hW hzV hzI rfl dX9_doubted_28
theorem cw_X9_313 {Rm : Room} {s : State} {args : Array Value} (ht : ∀ w ∈ GT, w.before args s = true) (hR : rmX9_doubted.frames + 1 ≤ Rm.frames ∧ 8 + (2 + 11) + rmX9_doubted.locals ≤ Rm.locals) : CallW Rm s args RX9 RX9 313 yX9_doubted cX9_doubted 2 (some .int) (Cond.code yX9_doubted cX9_doubted 2 (some .int) :: GT) rmX9_doubted 0 0 1 := cwV 1 ht (goodV wd848 wd849 wd850 wd607 wd851) rfl rfl rfl ⟨rfl, by decide +kernel, by decide +kernel, by decide +kernel⟩ hR
def f_X9_count (x1 : Int32) (I : Mem) : Option (Int32 × Mem) :=
  if x1 = 0 then (
    (f_X9_many x1 ((up I 70 7 0))).bind fun q1 =>
    some (q1, (up I 70 7 0))
  ) else (
  if x1 = 1 then (
    (f_X9_many x1 ((up I 70 7 0))).bind fun q2 =>
    some (q2, (up I 70 7 0))
  ) else (
  if x1 = 2 then (
    (f_X9_filters ((up I 70 7 0))).bind fun q3 =>
    some (q3, (up I 70 7 0))
  ) else (
  if x1 = 3 then (
    (f_X9_doubted (x1 - 3) ((up I 70 7 0))).bind fun q4 =>
    some (q4.1, q4.2)
  ) else (
  if x1 = 4 then (
    (f_X9_doubted (x1 - 3) ((up I 70 7 0))).bind fun q5 =>
    some (q5.1, q5.2)
  ) else (
  if x1 = 5 then (
    (rd (up I 70 7 0) 71 619 618).bind fun v6 =>
    some (v6, (up I 70 7 0))
  ) else (
  if x1 = 6 then (
    some ((up I 70 7 0) 70 2, (up I 70 7 0))
  ) else (
  if x1 = 7 then (
    some ((up I 70 7 0) 70 6, (up I 70 7 0))
  ) else (
    (f_X9_refuses 1 ((up I 70 7 0))).bind fun q7 =>
    some (q7.1, q7.2)
  ))))))))
abbrev rmX9_count : Room := { frames := 6, cells := 0, slots := 0, locals := 138 }
set_option maxHeartbeats 4000000 in
set_option maxRecDepth 100000 in
theorem c_X9_count {l : Launch} {g : Gam} {I : Mem} {R : Rem} {P : Pool} {Z : Zed} (x1 : Int32)  {z : Int32 × Mem} (hf : f_X9_count x1 I = some z) : Met l yX9_count (Cond.code yX9_count cX9_count 2 (some .int) :: GT) rmX9_count (va_Pc [.ref (g.2.2 + 70), .int x1] (PW g I R P Z)) (QI g z.1 z.2 R P Z) 0 0 (AA g) := by
  refine aw_ofW (lv0 := [(0, .ref (g.2.2 + 70)), (1, .int x1)]) (by decide) (by exact Nat.le_of_ble_eq_true rfl) (by rfl) (fun p0 e s m args below meth c ls C0 hl hW => ?_)
  have C0 : CX g p0 s m args meth c RX9 cX9_count 2 (some .int) := C0
  have hx := C0.1; have hb := C0.2.1; have hown := C0.2.2.2.2.1; have hts := C0.2.2.2.2.2.1; have hKS := C0.2.2.2.2.2.2.1
  unfold f_X9_count at hf
  obtain ⟨H, hH⟩ : ∃ H, H = s.heap := ⟨_, rfl⟩
  obtain ⟨locs, hlc⟩ : ∃ q : List Loc, q = [] := ⟨_, rfl⟩
  rw [show W p0 l e rmX9_count s m args below meth c s.heap [] 0 0 (MQ below (QI g z.1 z.2 R P Z) args s 0 0 (AA g)) (F0 m 0 ls []) = W p0 l e rmX9_count s m args below meth c H locs 0 0 (MQ below (QI g z.1 z.2 R P Z) args s 0 0 (AA g)) (F0 m 0 ls []) by rw [hH, hlc]]
  have hW : Wd g I R P Z s.heap H locs := by rw [hH, hlc]; exact hW
  refine lv_aload_n hx hb dX9_count_0 rfl (lv_at hl 0 rfl) ?_
  refine lv_iconst (v := 0) hx hb dX9_count_1 (by decide) ?_
  refine aw_put C0 hW (lv_fix (by decide)) (cel_8 kd70) rfl inG8 tyX9 tyX9_ok nmX9 7 (by decide) wd79 rfl rfl (ty := .int) rfl rfl rfl (Nat.le_of_ble_eq_true rfl) (pu_8_7 kd70) dX9_count_2 (fun H locs hW => ?_)
  refine lv_iload_n hx hb dX9_count_5 rfl (lv_at hl 1 rfl) ?_
  by_cases hs1 : x1 = 0
  · have hf := ift hs1 hf
    refine lv_tableIn (off := 46) (tgt := 52) hx hb dX9_count_6 (by rw [hs1]; decide) (by rw [hs1]; decide) (by rw [hs1]; decide) rfl ?_
    refine lv_aload_n hx hb dX9_count_52 rfl (lv_at hl 0 rfl) ?_
    refine lv_iload_n hx hb dX9_count_53 rfl (lv_at hl 1 rfl) ?_
    obtain ⟨q1, hq1, hf⟩ := bnd hf
    refine aw_cVi (rest := []) C0 hW (lv_fix (by decide)) (cel_8 kd70) rfl (c_X9_many x1  hq1) (cw_X9_70 hts ⟨Nat.le_of_ble_eq_true rfl, Nat.le_of_ble_eq_true rfl⟩) rfl hl.1 rfl (Nat.le_of_ble_eq_true rfl) ⟨Nat.zero_le _, Nat.zero_le _⟩ dX9_count_54 (fun H locs hW => ?_)
    have hz := Option.some.inj hf
    have hzV := congrArg (fun z : Int32 × Mem => z.1) hz
    have hzI := congrArg (fun z : Int32 × Mem => z.2) hz
    exact aw_iret C0 hW hzV hzI rfl dX9_count_57
  have hf := iff_ hs1 hf
  by_cases hs2 : x1 = 1
  · have hf := ift hs2 hf
    refine lv_tableIn (off := 46) (tgt := 52) hx hb dX9_count_6 (by rw [hs2]; decide) (by rw [hs2]; decide) (by rw [hs2]; decide) rfl ?_
    refine lv_aload_n hx hb dX9_count_52 rfl (lv_at hl 0 rfl) ?_
    refine lv_iload_n hx hb dX9_count_53 rfl (lv_at hl 1 rfl) ?_
    obtain ⟨q2, hq2, hf⟩ := bnd hf
    refine aw_cVi (rest := []) C0 hW (lv_fix (by decide)) (cel_8 kd70) rfl (c_X9_many x1  hq2) (cw_X9_70 hts ⟨Nat.le_of_ble_eq_true rfl, Nat.le_of_ble_eq_true rfl⟩) rfl hl.1 rfl (Nat.le_of_ble_eq_true rfl) ⟨Nat.zero_le _, Nat.zero_le _⟩ dX9_count_54 (fun H locs hW => ?_)
    have hz := Option.some.inj hf
    have hzV := congrArg (fun z : Int32 × Mem => z.1) hz
    have hzI := congrArg (fun z : Int32 × Mem => z.2) hz
    exact aw_iret C0 hW hzV hzI rfl dX9_count_57
  have hf := iff_ hs2 hf
  by_cases hs3 : x1 = 2
  · have hf := ift hs3 hf
    refine lv_tableIn (off := 52) (tgt := 58) hx hb dX9_count_6 (by rw [hs3]; decide) (by rw [hs3]; decide) (by rw [hs3]; decide) rfl ?_
    refine lv_aload_n hx hb dX9_count_58 rfl (lv_at hl 0 rfl) ?_
    obtain ⟨q3, hq3, hf⟩ := bnd hf
    refine aw_cVi (rest := []) C0 hW (lv_fix (by decide)) (cel_8 kd70) rfl (c_X9_filters  hq3) (cw_X9_310 hts ⟨Nat.le_of_ble_eq_true rfl, Nat.le_of_ble_eq_true rfl⟩) rfl hl.1 rfl (Nat.le_of_ble_eq_true rfl) ⟨Nat.zero_le _, Nat.zero_le _⟩ dX9_count_59 (fun H locs hW => ?_)
    have hz := Option.some.inj hf
    have hzV := congrArg (fun z : Int32 × Mem => z.1) hz
    have hzI := congrArg (fun z : Int32 × Mem => z.2) hz
    exact aw_iret C0 hW hzV hzI rfl dX9_count_62
  have hf := iff_ hs3 hf
  by_cases hs4 : x1 = 3
  · have hf := ift hs4 hf
    refine lv_tableIn (off := 57) (tgt := 63) hx hb dX9_count_6 (by rw [hs4]; decide) (by rw [hs4]; decide) (by rw [hs4]; decide) rfl ?_
    refine lv_aload_n hx hb dX9_count_63 rfl (lv_at hl 0 rfl) ?_
    refine lv_iload_n hx hb dX9_count_64 rfl (lv_at hl 1 rfl) ?_
    refine lv_iconst (v := 3) hx hb dX9_count_65 (by decide) ?_
    refine lv_isub hx hb dX9_count_66 ?_
    obtain ⟨q4, hq4, hf⟩ := bnd hf
    refine aw_cVi (rest := []) C0 hW (lv_fix (by decide)) (cel_8 kd70) rfl (c_X9_doubted (x1 - 3)  hq4) (cw_X9_313 hts ⟨Nat.le_of_ble_eq_true rfl, Nat.le_of_ble_eq_true rfl⟩) rfl hl.1 rfl (Nat.le_of_ble_eq_true rfl) ⟨Nat.zero_le _, Nat.zero_le _⟩ dX9_count_67 (fun H locs hW => ?_)
    have hz := Option.some.inj hf
    have hzV := congrArg (fun z : Int32 × Mem => z.1) hz
    have hzI := congrArg (fun z : Int32 × Mem => z.2) hz
    exact aw_iret C0 hW hzV hzI rfl dX9_count_70
  have hf := iff_ hs4 hf
  by_cases hs5 : x1 = 4
  · have hf := ift hs5 hf
    refine lv_tableIn (off := 57) (tgt := 63) hx hb dX9_count_6 (by rw [hs5]; decide) (by rw [hs5]; decide) (by rw [hs5]; decide) rfl ?_
    refine lv_aload_n hx hb dX9_count_63 rfl (lv_at hl 0 rfl) ?_
    refine lv_iload_n hx hb dX9_count_64 rfl (lv_at hl 1 rfl) ?_
    refine lv_iconst (v := 3) hx hb dX9_count_65 (by decide) ?_
    refine lv_isub hx hb dX9_count_66 ?_
    obtain ⟨q5, hq5, hf⟩ := bnd hf
    refine aw_cVi (rest := []) C0 hW (lv_fix (by decide)) (cel_8 kd70) rfl (c_X9_doubted (x1 - 3)  hq5) (cw_X9_313 hts ⟨Nat.le_of_ble_eq_true rfl, Nat.le_of_ble_eq_true rfl⟩) rfl hl.1 rfl (Nat.le_of_ble_eq_true rfl) ⟨Nat.zero_le _, Nat.zero_le _⟩ dX9_count_67 (fun H locs hW => ?_)
    have hz := Option.some.inj hf
    have hzV := congrArg (fun z : Int32 × Mem => z.1) hz
    have hzI := congrArg (fun z : Int32 × Mem => z.2) hz
    exact aw_iret C0 hW hzV hzI rfl dX9_count_70
  have hf := iff_ hs5 hf
  by_cases hs6 : x1 = 5
  · have hf := ift hs6 hf
    refine lv_tableIn (off := 65) (tgt := 71) hx hb dX9_count_6 (by rw [hs6]; decide) (by rw [hs6]; decide) (by rw [hs6]; decide) rfl ?_
    refine lv_aload_n hx hb dX9_count_71 rfl (lv_at hl 0 rfl) ?_
    refine aw_get (v := .ref (g.2.2 + 71)) C0 hW (lv_fix (by decide)) (cel_8 kd70) rfl inG8 0 (by decide) wd73 rfl rfl dX9_count_72 ?_
    refine lv_sipush (v := 618) hx hb dX9_count_75 (by decide) ?_
    obtain ⟨v6, hv6, hf⟩ := bnd hf
    refine aw_iald C0 hW kd71 ln71 hv6 dX9_count_78 ?_
    have hz := Option.some.inj hf
    have hzV := congrArg (fun z : Int32 × Mem => z.1) hz
    have hzI := congrArg (fun z : Int32 × Mem => z.2) hz
    exact aw_iret C0 hW hzV hzI rfl dX9_count_79
  have hf := iff_ hs6 hf
  by_cases hs7 : x1 = 6
  · have hf := ift hs7 hf
    refine lv_tableIn (off := 74) (tgt := 80) hx hb dX9_count_6 (by rw [hs7]; decide) (by rw [hs7]; decide) (by rw [hs7]; decide) rfl ?_
    refine lv_aload_n hx hb dX9_count_80 rfl (lv_at hl 0 rfl) ?_
    refine aw_get (v := .int ((up I 70 7 0) 70 2)) C0 hW (lv_fix (by decide)) (cel_8 kd70) rfl inG8 2 (by decide) wd80 rfl rfl dX9_count_81 ?_
    have hz := Option.some.inj hf
    have hzV := congrArg (fun z : Int32 × Mem => z.1) hz
    have hzI := congrArg (fun z : Int32 × Mem => z.2) hz
    exact aw_iret C0 hW hzV hzI rfl dX9_count_84
  have hf := iff_ hs7 hf
  by_cases hs8 : x1 = 7
  · have hf := ift hs8 hf
    refine lv_tableIn (off := 79) (tgt := 85) hx hb dX9_count_6 (by rw [hs8]; decide) (by rw [hs8]; decide) (by rw [hs8]; decide) rfl ?_
    refine lv_aload_n hx hb dX9_count_85 rfl (lv_at hl 0 rfl) ?_
    refine aw_get (v := .int ((up I 70 7 0) 70 6)) C0 hW (lv_fix (by decide)) (cel_8 kd70) rfl inG8 6 (by decide) wd84 rfl rfl dX9_count_86 ?_
    have hz := Option.some.inj hf
    have hzV := congrArg (fun z : Int32 × Mem => z.1) hz
    have hzI := congrArg (fun z : Int32 × Mem => z.2) hz
    exact aw_iret C0 hW hzV hzI rfl dX9_count_89
  have hf := iff_ hs8 hf
  refine lv_tableOut (tgt := 90) hx hb dX9_count_6 (by have zhs1 := i32_ne (n := 0) (by decide) hs1; have zhs2 := i32_ne (n := 1) (by decide) hs2; have zhs3 := i32_ne (n := 2) (by decide) hs3; have zhs4 := i32_ne (n := 3) (by decide) hs4; have zhs5 := i32_ne (n := 4) (by decide) hs5; have zhs6 := i32_ne (n := 5) (by decide) hs6; have zhs7 := i32_ne (n := 6) (by decide) hs7; have zhs8 := i32_ne (n := 7) (by decide) hs8; omega) rfl ?_
  refine lv_aload_n hx hb dX9_count_90 rfl (lv_at hl 0 rfl) ?_
  refine lv_iconst (v := 1) hx hb dX9_count_91 (by decide) ?_
  obtain ⟨q7, hq7, hf⟩ := bnd hf
  refine aw_cVi (rest := []) C0 hW (lv_fix (by decide)) (cel_8 kd70) rfl (c_X9_refuses 1  hq7) (cw_X9_119 hts ⟨Nat.le_of_ble_eq_true rfl, Nat.le_of_ble_eq_true rfl⟩) rfl hl.1 rfl (Nat.le_of_ble_eq_true rfl) ⟨Nat.zero_le _, Nat.zero_le _⟩ dX9_count_92 (fun H locs hW => ?_)
  have hz := Option.some.inj hf
  have hzV := congrArg (fun z : Int32 × Mem => z.1) hz
  have hzI := congrArg (fun z : Int32 × Mem => z.2) hz
  exact aw_iret C0 hW hzV hzI rfl dX9_count_95
def f_X9_holdsBack (x1 : Int32) (I : Mem) : Option (Mem) :=
  (wr I 80 60 (I 70 16) x1).bind fun I1 =>
  some ((up I1 70 16 ((I1 70 16) + 1)))
abbrev rmX9_holdsBack : Room := { frames := 0, cells := 0, slots := 0, locals := 0 }
set_option maxHeartbeats 4000000 in
set_option maxRecDepth 100000 in
theorem c_X9_holdsBack {l : Launch} {g : Gam} {I : Mem} {R : Rem} {P : Pool} {Z : Zed} (x1 : Int32)  {z : Mem} (hf : f_X9_holdsBack x1 I = some z) : Met l yX9_holdsBack (Cond.code yX9_holdsBack cX9_holdsBack 2 none :: GT) rmX9_holdsBack (va_Pc [.ref (g.2.2 + 70), .int x1] (PW g I R P Z)) (QV g z R P Z) 0 0 (AA g) := by
  refine aw_ofW (lv0 := [(0, .ref (g.2.2 + 70)), (1, .int x1)]) (by decide) (by exact Nat.le_of_ble_eq_true rfl) (by rfl) (fun p0 e s m args below meth c ls C0 hl hW => ?_)
  have C0 : CX g p0 s m args meth c RX9 cX9_holdsBack 2 none := C0
  have hx := C0.1; have hb := C0.2.1; have hown := C0.2.2.2.2.1; have hts := C0.2.2.2.2.2.1; have hKS := C0.2.2.2.2.2.2.1
  unfold f_X9_holdsBack at hf
  obtain ⟨H, hH⟩ : ∃ H, H = s.heap := ⟨_, rfl⟩
  obtain ⟨locs, hlc⟩ : ∃ q : List Loc, q = [] := ⟨_, rfl⟩
  rw [show W p0 l e rmX9_holdsBack s m args below meth c s.heap [] 0 0 (MQ below (QV g z R P Z) args s 0 0 (AA g)) (F0 m 0 ls []) = W p0 l e rmX9_holdsBack s m args below meth c H locs 0 0 (MQ below (QV g z R P Z) args s 0 0 (AA g)) (F0 m 0 ls []) by rw [hH, hlc]]
  have hW : Wd g I R P Z s.heap H locs := by rw [hH, hlc]; exact hW
  refine lv_aload_n hx hb dX9_holdsBack_0 rfl (lv_at hl 0 rfl) ?_
  refine aw_get (v := .ref (g.2.2 + 80)) C0 hW (lv_fix (by decide)) (cel_8 kd70) rfl inG8 15 (by decide) wd88 rfl rfl dX9_holdsBack_1 ?_
  refine lv_aload_n hx hb dX9_holdsBack_4 rfl (lv_at hl 0 rfl) ?_
  refine aw_get (v := .int (I 70 16)) C0 hW (lv_fix (by decide)) (cel_8 kd70) rfl inG8 16 (by decide) wd87 rfl rfl dX9_holdsBack_5 ?_
  refine lv_iload_n hx hb dX9_holdsBack_8 rfl (lv_at hl 1 rfl) ?_
  obtain ⟨I1, hI1, hf⟩ := bnd hf
  refine aw_iast C0 hW kd80 ln80 hI1 dX9_holdsBack_9 (fun H locs hW => ?_)
  refine lv_aload_n hx hb dX9_holdsBack_10 rfl (lv_at hl 0 rfl) ?_
  refine lv_dup hx hb dX9_holdsBack_11 rfl ?_
  refine aw_get (v := .int (I1 70 16)) C0 hW (lv_fix (by decide)) (cel_8 kd70) rfl inG8 16 (by decide) wd87 rfl rfl dX9_holdsBack_12 ?_
  refine lv_iconst (v := 1) hx hb dX9_holdsBack_15 (by decide) ?_
  refine lv_iadd hx hb dX9_holdsBack_16 ?_
  refine aw_put C0 hW (lv_fix (by decide)) (cel_8 kd70) rfl inG8 tyX9 tyX9_ok nmX9 16 (by decide) wd87 rfl rfl (ty := .int) rfl rfl rfl (Nat.le_of_ble_eq_true rfl) (pu_8_16 kd70) dX9_holdsBack_17 (fun H locs hW => ?_)
  have hz := Option.some.inj hf
  exact aw_vret C0 hW hz rfl dX9_holdsBack_20
theorem cw_X9_197 {Rm : Room} {s : State} {args : Array Value} (ht : ∀ w ∈ GT, w.before args s = true) (hR : rmX9_holdsBack.frames + 1 ≤ Rm.frames ∧ 8 + (2 + 11) + rmX9_holdsBack.locals ≤ Rm.locals) : CallW Rm s args RX9 RX9 197 yX9_holdsBack cX9_holdsBack 2 none (Cond.code yX9_holdsBack cX9_holdsBack 2 none :: GT) rmX9_holdsBack 0 0 1 := cwV 1 ht (goodV wd704 wd705 wd706 wd607 wd707) rfl rfl rfl ⟨rfl, by decide +kernel, by decide +kernel, by decide +kernel⟩ hR
def f_X9_test (x0 : Int32) (x1 : Int32) (x2 : Int32) : Option (Int32) :=
  some ((4 + (1000 * ((4 * x0) + x1))) + x2)
abbrev rmX9_test : Room := { frames := 0, cells := 0, slots := 0, locals := 0 }
set_option maxHeartbeats 4000000 in
set_option maxRecDepth 100000 in
theorem c_X9_test {l : Launch} {g : Gam} {I : Mem} {R : Rem} {P : Pool} {Z : Zed} (x0 : Int32) (x1 : Int32) (x2 : Int32)  {z : Int32} (hf : f_X9_test x0 x1 x2 = some z) : Met l yX9_test (Cond.code yX9_test cX9_test 3 (some .int) :: GT) rmX9_test (va_Pc [.int x0, .int x1, .int x2] (PW g I R P Z)) (QI g z I R P Z) 0 0 (AA g) := by
  refine aw_ofW (lv0 := [(0, .int x0), (1, .int x1), (2, .int x2)]) (by decide) (by exact Nat.le_of_ble_eq_true rfl) (by rfl) (fun p0 e s m args below meth c ls C0 hl hW => ?_)
  have C0 : CX g p0 s m args meth c RX9 cX9_test 3 (some .int) := C0
  have hx := C0.1; have hb := C0.2.1; have hown := C0.2.2.2.2.1; have hts := C0.2.2.2.2.2.1; have hKS := C0.2.2.2.2.2.2.1
  unfold f_X9_test at hf
  obtain ⟨H, hH⟩ : ∃ H, H = s.heap := ⟨_, rfl⟩
  obtain ⟨locs, hlc⟩ : ∃ q : List Loc, q = [] := ⟨_, rfl⟩
  rw [show W p0 l e rmX9_test s m args below meth c s.heap [] 0 0 (MQ below (QI g z I R P Z) args s 0 0 (AA g)) (F0 m 0 ls []) = W p0 l e rmX9_test s m args below meth c H locs 0 0 (MQ below (QI g z I R P Z) args s 0 0 (AA g)) (F0 m 0 ls []) by rw [hH, hlc]]
  have hW : Wd g I R P Z s.heap H locs := by rw [hH, hlc]; exact hW
  refine lv_iconst (v := 4) hx hb dX9_test_0 (by decide) ?_
  refine lv_sipush (v := 1000) hx hb dX9_test_1 (by decide) ?_
  refine lv_iconst (v := 4) hx hb dX9_test_4 (by decide) ?_
  refine lv_iload_n hx hb dX9_test_5 rfl (lv_at hl 0 rfl) ?_
  refine lv_imul hx hb dX9_test_6 ?_
  refine lv_iload_n hx hb dX9_test_7 rfl (lv_at hl 1 rfl) ?_
  refine lv_iadd hx hb dX9_test_8 ?_
  refine lv_imul hx hb dX9_test_9 ?_
  refine lv_iadd hx hb dX9_test_10 ?_
  refine lv_iload_n hx hb dX9_test_11 rfl (lv_at hl 2 rfl) ?_
  refine lv_iadd hx hb dX9_test_12 ?_
  have hz := Option.some.inj hf
  exact aw_iret C0 hW hz rfl rfl dX9_test_13
theorem cw_X9_188 {Rm : Room} {s : State} {args : Array Value} (ht : ∀ w ∈ GT, w.before args s = true) (hR : rmX9_test.frames + 1 ≤ Rm.frames ∧ 8 + (3 + 11) + rmX9_test.locals ≤ Rm.locals) : CallB Rm s args RX9 188 yX9_test cX9_test 3 (some .int) (Cond.code yX9_test cX9_test 3 (some .int) :: GT) rmX9_test 0 0 3 ∧ (Cond.static yX9_test).before args s = true := va_cwS 3 ht (goodS wd693 wd694 wd607 wd695) rfl rfl rfl ⟨by decide +kernel, by decide +kernel, by decide +kernel⟩ hR
def f_X9_isRight (x1 : Int32) (x2 : Int32) (I : Mem) : Option (Int32 × Mem) :=
  (f_X9_sees 97 100 I).bind fun q1 =>
  if q1 = 0 then (
    (f_X9_sees 48 57 I).bind fun q2 =>
    if q2 = 0 then (
      some (0, I)
    ) else (
      (rd I 75 60 (I 70 14)).bind fun v3 =>
      ((
        if (v3 - 48) ≤ 0 then (
          some (v3 - 48, (up I 70 14 ((I 70 14) + 1)))
        ) else (
          (f_X9_sees 48 57 ((up I 70 14 ((I 70 14) + 1)))).bind fun q5 =>
          if q5 = 0 then (
            some (v3 - 48, (up I 70 14 ((I 70 14) + 1)))
          ) else (
            (rd (up I 70 14 ((I 70 14) + 1)) 75 60 ((up I 70 14 ((I 70 14) + 1)) 70 14)).bind fun v6 =>
            some (((10 * (v3 - 48)) + v6) - 48, (up (up I 70 14 ((I 70 14) + 1)) 70 14 (((up I 70 14 ((I 70 14) + 1)) 70 14) + 1)))
          )
        )
      ) : Option (Int32 × Mem)).bind fun q4 =>
      (f_X9_test x1 x2 q4.1).bind fun q7 =>
      (f_X9_makes q7 q4.2).bind fun q8 =>
      some (1, q8)
    )
  ) else (
    (rd I 75 60 (I 70 14)).bind fun v9 =>
    (f_X9_test x1 x2 ((100 + v9) - 97)).bind fun q10 =>
    (f_X9_makes q10 I).bind fun q11 =>
    some (1, (up q11 70 14 ((q11 70 14) + 1)))
  )
abbrev rmX9_isRight : Room := { frames := 2, cells := 0, slots := 0, locals := 44 }
set_option maxHeartbeats 4000000 in
set_option maxRecDepth 100000 in
theorem c_X9_isRight {l : Launch} {g : Gam} {I : Mem} {R : Rem} {P : Pool} {Z : Zed} (x1 : Int32) (x2 : Int32)  {z : Int32 × Mem} (hf : f_X9_isRight x1 x2 I = some z) : Met l yX9_isRight (Cond.code yX9_isRight cX9_isRight 4 (some .boolean) :: GT) rmX9_isRight (va_Pc [.ref (g.2.2 + 70), .int x1, .int x2] (PW g I R P Z)) (QI g z.1 z.2 R P Z) 0 0 (AA g) := by
  refine aw_ofW (lv0 := [(0, .ref (g.2.2 + 70)), (1, .int x1), (2, .int x2)]) (by decide) (by exact Nat.le_of_ble_eq_true rfl) (by rfl) (fun p0 e s m args below meth c ls C0 hl hW => ?_)
  have C0 : CX g p0 s m args meth c RX9 cX9_isRight 4 (some .boolean) := C0
  have hx := C0.1; have hb := C0.2.1; have hown := C0.2.2.2.2.1; have hts := C0.2.2.2.2.2.1; have hKS := C0.2.2.2.2.2.2.1
  unfold f_X9_isRight at hf
  obtain ⟨H, hH⟩ : ∃ H, H = s.heap := ⟨_, rfl⟩
  obtain ⟨locs, hlc⟩ : ∃ q : List Loc, q = [] := ⟨_, rfl⟩
  rw [show W p0 l e rmX9_isRight s m args below meth c s.heap [] 0 0 (MQ below (QI g z.1 z.2 R P Z) args s 0 0 (AA g)) (F0 m 0 ls []) = W p0 l e rmX9_isRight s m args below meth c H locs 0 0 (MQ below (QI g z.1 z.2 R P Z) args s 0 0 (AA g)) (F0 m 0 ls []) by rw [hH, hlc]]
  have hW : Wd g I R P Z s.heap H locs := by rw [hH, hlc]; exact hW
  refine lv_aload_n hx hb dX9_isRight_0 rfl (lv_at hl 0 rfl) ?_
  refine lv_bipush (v := 97) hx hb dX9_isRight_1 (by decide) ?_
  refine lv_bipush (v := 100) hx hb dX9_isRight_3 (by decide) ?_
  obtain ⟨q1, hq1, hf⟩ := bnd hf
  refine aw_cVi (rest := []) C0 hW (lv_fix (by decide)) (cel_8 kd70) rfl (c_X9_sees 97 100  hq1) (cw_X9_179 hts ⟨Nat.le_of_ble_eq_true rfl, Nat.le_of_ble_eq_true rfl⟩) rfl hl.1 rfl (Nat.le_of_ble_eq_true rfl) ⟨Nat.zero_le _, Nat.zero_le _⟩ dX9_isRight_5 (fun H locs hW => ?_)
  refine lv_if_eq (tgt := 47) hx hb dX9_isRight_8 rfl (fun hc => ?_) (fun hc => ?_)
  · have hf := ift hc hf
    refine lv_aload_n hx hb dX9_isRight_47 rfl (lv_at hl 0 rfl) ?_
    refine lv_bipush (v := 48) hx hb dX9_isRight_48 (by decide) ?_
    refine lv_bipush (v := 57) hx hb dX9_isRight_50 (by decide) ?_
    obtain ⟨q2, hq2, hf⟩ := bnd hf
    refine aw_cVi (rest := []) C0 hW (lv_fix (by decide)) (cel_8 kd70) rfl (c_X9_sees 48 57  hq2) (cw_X9_179 hts ⟨Nat.le_of_ble_eq_true rfl, Nat.le_of_ble_eq_true rfl⟩) rfl hl.1 rfl (Nat.le_of_ble_eq_true rfl) ⟨Nat.zero_le _, Nat.zero_le _⟩ dX9_isRight_52 (fun H locs hW => ?_)
    refine lv_if_ne (tgt := 60) hx hb dX9_isRight_55 rfl (fun hc => ?_) (fun hc => ?_)
    · have hf := iff_ hc hf
      refine lv_aload_n hx hb dX9_isRight_60 rfl (lv_at hl 0 rfl) ?_
      refine aw_get (v := .ref (g.2.2 + 75)) C0 hW (lv_fix (by decide)) (cel_8 kd70) rfl inG8 5 (by decide) wd85 rfl rfl dX9_isRight_61 ?_
      refine lv_aload_n hx hb dX9_isRight_64 rfl (lv_at hl 0 rfl) ?_
      refine aw_get (v := .int (I 70 14)) C0 hW (lv_fix (by decide)) (cel_8 kd70) rfl inG8 14 (by decide) wd86 rfl rfl dX9_isRight_65 ?_
      obtain ⟨v3, hv3, hf⟩ := bnd hf
      refine aw_iald C0 hW kd75 ln75 hv3 dX9_isRight_68 ?_
      refine lv_bipush (v := 48) hx hb dX9_isRight_69 (by decide) ?_
      refine lv_isub hx hb dX9_isRight_71 ?_
      refine lv_istore_n (lv' := [(3, .int (v3 - 48)), (0, .ref (g.2.2 + 70)), (1, .int x1), (2, .int x2)]) hx hb dX9_isRight_72 rfl hl (Nat.le_of_ble_eq_true rfl) rfl (fun ls hl => ?_)
      refine lv_aload_n hx hb dX9_isRight_73 rfl (lv_at hl 1 rfl) ?_
      refine lv_dup hx hb dX9_isRight_74 rfl ?_
      refine aw_get (v := .int (I 70 14)) C0 hW (lv_fix (by decide)) (cel_8 kd70) rfl inG8 14 (by decide) wd86 rfl rfl dX9_isRight_75 ?_
      refine lv_iconst (v := 1) hx hb dX9_isRight_78 (by decide) ?_
      refine lv_iadd hx hb dX9_isRight_79 ?_
      refine aw_put C0 hW (lv_fix (by decide)) (cel_8 kd70) rfl inG8 tyX9 tyX9_ok nmX9 14 (by decide) wd86 rfl rfl (ty := .int) rfl rfl rfl (Nat.le_of_ble_eq_true rfl) (pu_8_14 kd70) dX9_isRight_80 (fun H locs hW => ?_)
      refine lv_iload_n hx hb dX9_isRight_83 rfl (lv_at hl 0 rfl) ?_
      obtain ⟨q4, hq4, hf⟩ := bnd hf
      have J126_q4 : ∀ (H : Heap) (locs : List Loc) (ls : Array Slot), Wd g q4.2 R P Z s.heap H locs → lv_has ls 4 [(0, .ref (g.2.2 + 70)), (1, .int x1), (2, .int x2), (3, .int q4.1)] → W p0 l e rmX9_isRight s m args below meth c H locs 0 0 (MQ below (QI g z.1 z.2 R P Z) args s 0 0 (AA g)) (F0 m 126 ls ([])) := by
        intro H locs ls hW hl
        refine lv_aload_n hx hb dX9_isRight_126 rfl (lv_at hl 0 rfl) ?_
        refine lv_iload_n hx hb dX9_isRight_127 rfl (lv_at hl 1 rfl) ?_
        refine lv_iload_n hx hb dX9_isRight_128 rfl (lv_at hl 2 rfl) ?_
        refine lv_iload_n hx hb dX9_isRight_129 rfl (lv_at hl 3 rfl) ?_
        obtain ⟨q7, hq7, hf⟩ := bnd hf
        refine aw_cSi (rest := [.ref (g.2.2 + 70)]) C0 hW (c_X9_test x1 x2 q4.1  hq7) (cw_X9_188 hts ⟨Nat.le_of_ble_eq_true rfl, Nat.le_of_ble_eq_true rfl⟩) rfl hl.1 rfl (Nat.le_of_ble_eq_true rfl) ⟨Nat.zero_le _, Nat.zero_le _⟩ dX9_isRight_130 (fun H locs hW => ?_)
        obtain ⟨q8, hq8, hf⟩ := bnd hf
        refine aw_cVv (rest := []) C0 hW (lv_fix (by decide)) (cel_8 kd70) rfl (c_X9_makes q7  hq8) (cw_X9_144 hts ⟨Nat.le_of_ble_eq_true rfl, Nat.le_of_ble_eq_true rfl⟩) rfl hl.1 rfl (Nat.le_of_ble_eq_true rfl) ⟨Nat.zero_le _, Nat.zero_le _⟩ dX9_isRight_133 (fun H locs hW => ?_)
        refine lv_iconst (v := 1) hx hb dX9_isRight_136 (by decide) ?_
        have hz := Option.some.inj hf
        have hzV := congrArg (fun z : Int32 × Mem => z.1) hz
        have hzI := congrArg (fun z : Int32 × Mem => z.2) hz
        exact aw_zret C0 hW rfl hzV hzI rfl dX9_isRight_137
      have hf := hq4
      refine lv_if_le (tgt := 126) hx hb dX9_isRight_84 rfl (fun hc => ?_) (fun hc => ?_)
      · have hf := ift hc hf
        have ho := Option.some.inj hf
        subst ho
        exact J126_q4 H locs ls hW (lv_sub hl [1, 2, 3, 0] rfl)
      · have hf := iff_ hc hf
        refine lv_aload_n hx hb dX9_isRight_87 rfl (lv_at hl 1 rfl) ?_
        refine lv_bipush (v := 48) hx hb dX9_isRight_88 (by decide) ?_
        refine lv_bipush (v := 57) hx hb dX9_isRight_90 (by decide) ?_
        obtain ⟨q5, hq5, hf⟩ := bnd hf
        refine aw_cVi (rest := []) C0 hW (lv_fix (by decide)) (cel_8 kd70) rfl (c_X9_sees 48 57  hq5) (cw_X9_179 hts ⟨Nat.le_of_ble_eq_true rfl, Nat.le_of_ble_eq_true rfl⟩) rfl hl.1 rfl (Nat.le_of_ble_eq_true rfl) ⟨Nat.zero_le _, Nat.zero_le _⟩ dX9_isRight_92 (fun H locs hW => ?_)
        refine lv_if_eq (tgt := 126) hx hb dX9_isRight_95 rfl (fun hc => ?_) (fun hc => ?_)
        · have hf := ift hc hf
          have ho := Option.some.inj hf
          subst ho
          exact J126_q4 H locs ls hW (lv_sub hl [1, 2, 3, 0] rfl)
        · have hf := iff_ hc hf
          refine lv_bipush (v := 10) hx hb dX9_isRight_98 (by decide) ?_
          refine lv_iload_n hx hb dX9_isRight_100 rfl (lv_at hl 0 rfl) ?_
          refine lv_imul hx hb dX9_isRight_101 ?_
          refine lv_aload_n hx hb dX9_isRight_102 rfl (lv_at hl 1 rfl) ?_
          refine aw_get (v := .ref (g.2.2 + 75)) C0 hW (lv_fix (by decide)) (cel_8 kd70) rfl inG8 5 (by decide) wd85 rfl rfl dX9_isRight_103 ?_
          refine lv_aload_n hx hb dX9_isRight_106 rfl (lv_at hl 1 rfl) ?_
          refine aw_get (v := .int ((up I 70 14 ((I 70 14) + 1)) 70 14)) C0 hW (lv_fix (by decide)) (cel_8 kd70) rfl inG8 14 (by decide) wd86 rfl rfl dX9_isRight_107 ?_
          obtain ⟨v6, hv6, hf⟩ := bnd hf
          refine aw_iald C0 hW kd75 ln75 hv6 dX9_isRight_110 ?_
          refine lv_iadd hx hb dX9_isRight_111 ?_
          refine lv_bipush (v := 48) hx hb dX9_isRight_112 (by decide) ?_
          refine lv_isub hx hb dX9_isRight_114 ?_
          refine lv_istore_n (lv' := [(3, .int (((10 * (v3 - 48)) + v6) - 48)), (0, .ref (g.2.2 + 70)), (1, .int x1), (2, .int x2)]) hx hb dX9_isRight_115 rfl hl (Nat.le_of_ble_eq_true rfl) rfl (fun ls hl => ?_)
          refine lv_aload_n hx hb dX9_isRight_116 rfl (lv_at hl 1 rfl) ?_
          refine lv_dup hx hb dX9_isRight_117 rfl ?_
          refine aw_get (v := .int ((up I 70 14 ((I 70 14) + 1)) 70 14)) C0 hW (lv_fix (by decide)) (cel_8 kd70) rfl inG8 14 (by decide) wd86 rfl rfl dX9_isRight_118 ?_
          refine lv_iconst (v := 1) hx hb dX9_isRight_121 (by decide) ?_
          refine lv_iadd hx hb dX9_isRight_122 ?_
          refine aw_put C0 hW (lv_fix (by decide)) (cel_8 kd70) rfl inG8 tyX9 tyX9_ok nmX9 14 (by decide) wd86 rfl rfl (ty := .int) rfl rfl rfl (Nat.le_of_ble_eq_true rfl) (pu_8_14 kd70) dX9_isRight_123 (fun H locs hW => ?_)
          have ho := Option.some.inj hf
          subst ho
          exact J126_q4 H locs ls hW (lv_sub hl [1, 2, 3, 0] rfl)
    · have hf := ift hc hf
      refine lv_iconst (v := 0) hx hb dX9_isRight_58 (by decide) ?_
      have hz := Option.some.inj hf
      have hzV := congrArg (fun z : Int32 × Mem => z.1) hz
      have hzI := congrArg (fun z : Int32 × Mem => z.2) hz
      exact aw_zret C0 hW rfl hzV hzI rfl dX9_isRight_59
  · have hf := iff_ hc hf
    refine lv_aload_n hx hb dX9_isRight_11 rfl (lv_at hl 0 rfl) ?_
    refine lv_iload_n hx hb dX9_isRight_12 rfl (lv_at hl 1 rfl) ?_
    refine lv_iload_n hx hb dX9_isRight_13 rfl (lv_at hl 2 rfl) ?_
    refine lv_bipush (v := 100) hx hb dX9_isRight_14 (by decide) ?_
    refine lv_aload_n hx hb dX9_isRight_16 rfl (lv_at hl 0 rfl) ?_
    refine aw_get (v := .ref (g.2.2 + 75)) C0 hW (lv_fix (by decide)) (cel_8 kd70) rfl inG8 5 (by decide) wd85 rfl rfl dX9_isRight_17 ?_
    refine lv_aload_n hx hb dX9_isRight_20 rfl (lv_at hl 0 rfl) ?_
    refine aw_get (v := .int (I 70 14)) C0 hW (lv_fix (by decide)) (cel_8 kd70) rfl inG8 14 (by decide) wd86 rfl rfl dX9_isRight_21 ?_
    obtain ⟨v9, hv9, hf⟩ := bnd hf
    refine aw_iald C0 hW kd75 ln75 hv9 dX9_isRight_24 ?_
    refine lv_iadd hx hb dX9_isRight_25 ?_
    refine lv_bipush (v := 97) hx hb dX9_isRight_26 (by decide) ?_
    refine lv_isub hx hb dX9_isRight_28 ?_
    obtain ⟨q10, hq10, hf⟩ := bnd hf
    refine aw_cSi (rest := [.ref (g.2.2 + 70)]) C0 hW (c_X9_test x1 x2 ((100 + v9) - 97)  hq10) (cw_X9_188 hts ⟨Nat.le_of_ble_eq_true rfl, Nat.le_of_ble_eq_true rfl⟩) rfl hl.1 rfl (Nat.le_of_ble_eq_true rfl) ⟨Nat.zero_le _, Nat.zero_le _⟩ dX9_isRight_29 (fun H locs hW => ?_)
    obtain ⟨q11, hq11, hf⟩ := bnd hf
    refine aw_cVv (rest := []) C0 hW (lv_fix (by decide)) (cel_8 kd70) rfl (c_X9_makes q10  hq11) (cw_X9_144 hts ⟨Nat.le_of_ble_eq_true rfl, Nat.le_of_ble_eq_true rfl⟩) rfl hl.1 rfl (Nat.le_of_ble_eq_true rfl) ⟨Nat.zero_le _, Nat.zero_le _⟩ dX9_isRight_32 (fun H locs hW => ?_)
    refine lv_aload_n hx hb dX9_isRight_35 rfl (lv_at hl 0 rfl) ?_
    refine lv_dup hx hb dX9_isRight_36 rfl ?_
    refine aw_get (v := .int (q11 70 14)) C0 hW (lv_fix (by decide)) (cel_8 kd70) rfl inG8 14 (by decide) wd86 rfl rfl dX9_isRight_37 ?_
    refine lv_iconst (v := 1) hx hb dX9_isRight_40 (by decide) ?_
    refine lv_iadd hx hb dX9_isRight_41 ?_
    refine aw_put C0 hW (lv_fix (by decide)) (cel_8 kd70) rfl inG8 tyX9 tyX9_ok nmX9 14 (by decide) wd86 rfl rfl (ty := .int) rfl rfl rfl (Nat.le_of_ble_eq_true rfl) (pu_8_14 kd70) dX9_isRight_42 (fun H locs hW => ?_)
    refine lv_iconst (v := 1) hx hb dX9_isRight_45 (by decide) ?_
    have hz := Option.some.inj hf
    have hzV := congrArg (fun z : Int32 × Mem => z.1) hz
    have hzI := congrArg (fun z : Int32 × Mem => z.2) hz
    exact aw_zret C0 hW rfl hzV hzI rfl dX9_isRight_46
theorem cw_X9_194 {Rm : Room} {s : State} {args : Array Value} (ht : ∀ w ∈ GT, w.before args s = true) (hR : rmX9_isRight.frames + 1 ≤ Rm.frames ∧ 8 + (4 + 11) + rmX9_isRight.locals ≤ Rm.locals) : CallW Rm s args RX9 RX9 194 yX9_isRight cX9_isRight 4 (some .boolean) (Cond.code yX9_isRight cX9_isRight 4 (some .boolean) :: GT) rmX9_isRight 0 0 2 := cwV 2 ht (goodV wd700 wd701 wd702 wd607 wd703) rfl rfl rfl ⟨rfl, by decide +kernel, by decide +kernel, by decide +kernel⟩ hR
def f_X9_isTestText (I : Mem) : Option (Int32 × Mem) :=
  (f_X9_sees 97 100 I).bind fun q1 =>
  if q1 = 0 then (
    some (0, I)
  ) else (
    (rd I 75 60 (I 70 14)).bind fun v2 =>
    (f_X9_takes 63 ((up I 70 14 ((I 70 14) + 1)))).bind fun q3 =>
    if q3.1 = 0 then (
      (f_X9_takes 61 q3.2).bind fun q4 =>
      ((
        if q4.1 = 0 then (
          (f_X9_takes 60 q4.2).bind fun q6 =>
          if q6.1 = 0 then (
            (f_X9_takes 62 q6.2).bind fun q7 =>
            if q7.1 = 0 then (
              some (0, q7.2)
            ) else (
              some (3, q7.2)
            )
          ) else (
            some (2, q6.2)
          )
        ) else (
          some (1, q4.2)
        )
      ) : Option (Int32 × Mem)).bind fun q5 =>
      if q5.1 ≤ 0 then (
        some (0, q5.2)
      ) else (
        (f_X9_isRight (v2 - 97) q5.1 q5.2).bind fun q8 =>
        if q8.1 = 0 then (
          some (0, q8.2)
        ) else (
          some (1, q8.2)
        )
      )
    ) else (
      (f_X9_test (v2 - 97) 0 0).bind fun q9 =>
      (f_X9_makes q9 q3.2).bind fun q10 =>
      some (1, q10)
    )
  )
abbrev rmX9_isTestText : Room := { frames := 3, cells := 0, slots := 0, locals := 67 }
set_option maxHeartbeats 4000000 in
set_option maxRecDepth 100000 in
theorem c_X9_isTestText {l : Launch} {g : Gam} {I : Mem} {R : Rem} {P : Pool} {Z : Zed}   {z : Int32 × Mem} (hf : f_X9_isTestText I = some z) : Met l yX9_isTestText (Cond.code yX9_isTestText cX9_isTestText 3 (some .boolean) :: GT) rmX9_isTestText (va_Pc [.ref (g.2.2 + 70)] (PW g I R P Z)) (QI g z.1 z.2 R P Z) 0 0 (AA g) := by
  refine aw_ofW (lv0 := [(0, .ref (g.2.2 + 70))]) (by decide) (by exact Nat.le_of_ble_eq_true rfl) (by rfl) (fun p0 e s m args below meth c ls C0 hl hW => ?_)
  have C0 : CX g p0 s m args meth c RX9 cX9_isTestText 3 (some .boolean) := C0
  have hx := C0.1; have hb := C0.2.1; have hown := C0.2.2.2.2.1; have hts := C0.2.2.2.2.2.1; have hKS := C0.2.2.2.2.2.2.1
  unfold f_X9_isTestText at hf
  obtain ⟨H, hH⟩ : ∃ H, H = s.heap := ⟨_, rfl⟩
  obtain ⟨locs, hlc⟩ : ∃ q : List Loc, q = [] := ⟨_, rfl⟩
  rw [show W p0 l e rmX9_isTestText s m args below meth c s.heap [] 0 0 (MQ below (QI g z.1 z.2 R P Z) args s 0 0 (AA g)) (F0 m 0 ls []) = W p0 l e rmX9_isTestText s m args below meth c H locs 0 0 (MQ below (QI g z.1 z.2 R P Z) args s 0 0 (AA g)) (F0 m 0 ls []) by rw [hH, hlc]]
  have hW : Wd g I R P Z s.heap H locs := by rw [hH, hlc]; exact hW
  refine lv_aload_n hx hb dX9_isTestText_0 rfl (lv_at hl 0 rfl) ?_
  refine lv_bipush (v := 97) hx hb dX9_isTestText_1 (by decide) ?_
  refine lv_bipush (v := 100) hx hb dX9_isTestText_3 (by decide) ?_
  obtain ⟨q1, hq1, hf⟩ := bnd hf
  refine aw_cVi (rest := []) C0 hW (lv_fix (by decide)) (cel_8 kd70) rfl (c_X9_sees 97 100  hq1) (cw_X9_179 hts ⟨Nat.le_of_ble_eq_true rfl, Nat.le_of_ble_eq_true rfl⟩) rfl hl.1 rfl (Nat.le_of_ble_eq_true rfl) ⟨Nat.zero_le _, Nat.zero_le _⟩ dX9_isTestText_5 (fun H locs hW => ?_)
  refine lv_if_ne (tgt := 13) hx hb dX9_isTestText_8 rfl (fun hc => ?_) (fun hc => ?_)
  · have hf := iff_ hc hf
    refine lv_aload_n hx hb dX9_isTestText_13 rfl (lv_at hl 0 rfl) ?_
    refine aw_get (v := .ref (g.2.2 + 75)) C0 hW (lv_fix (by decide)) (cel_8 kd70) rfl inG8 5 (by decide) wd85 rfl rfl dX9_isTestText_14 ?_
    refine lv_aload_n hx hb dX9_isTestText_17 rfl (lv_at hl 0 rfl) ?_
    refine aw_get (v := .int (I 70 14)) C0 hW (lv_fix (by decide)) (cel_8 kd70) rfl inG8 14 (by decide) wd86 rfl rfl dX9_isTestText_18 ?_
    obtain ⟨v2, hv2, hf⟩ := bnd hf
    refine aw_iald C0 hW kd75 ln75 hv2 dX9_isTestText_21 ?_
    refine lv_bipush (v := 97) hx hb dX9_isTestText_22 (by decide) ?_
    refine lv_isub hx hb dX9_isTestText_24 ?_
    refine lv_istore_n (lv' := [(1, .int (v2 - 97)), (0, .ref (g.2.2 + 70))]) hx hb dX9_isTestText_25 rfl hl (Nat.le_of_ble_eq_true rfl) rfl (fun ls hl => ?_)
    refine lv_aload_n hx hb dX9_isTestText_26 rfl (lv_at hl 1 rfl) ?_
    refine lv_dup hx hb dX9_isTestText_27 rfl ?_
    refine aw_get (v := .int (I 70 14)) C0 hW (lv_fix (by decide)) (cel_8 kd70) rfl inG8 14 (by decide) wd86 rfl rfl dX9_isTestText_28 ?_
    refine lv_iconst (v := 1) hx hb dX9_isTestText_31 (by decide) ?_
    refine lv_iadd hx hb dX9_isTestText_32 ?_
    refine aw_put C0 hW (lv_fix (by decide)) (cel_8 kd70) rfl inG8 tyX9 tyX9_ok nmX9 14 (by decide) wd86 rfl rfl (ty := .int) rfl rfl rfl (Nat.le_of_ble_eq_true rfl) (pu_8_14 kd70) dX9_isTestText_33 (fun H locs hW => ?_)
    refine lv_aload_n hx hb dX9_isTestText_36 rfl (lv_at hl 1 rfl) ?_
    refine lv_bipush (v := 63) hx hb dX9_isTestText_37 (by decide) ?_
    obtain ⟨q3, hq3, hf⟩ := bnd hf
    refine aw_cVi (rest := []) C0 hW (lv_fix (by decide)) (cel_8 kd70) rfl (c_X9_takes 63  hq3) (cw_X9_191 hts ⟨Nat.le_of_ble_eq_true rfl, Nat.le_of_ble_eq_true rfl⟩) rfl hl.1 rfl (Nat.le_of_ble_eq_true rfl) ⟨Nat.zero_le _, Nat.zero_le _⟩ dX9_isTestText_39 (fun H locs hW => ?_)
    refine lv_if_eq (tgt := 57) hx hb dX9_isTestText_42 rfl (fun hc => ?_) (fun hc => ?_)
    · have hf := ift hc hf
      refine lv_aload_n hx hb dX9_isTestText_57 rfl (lv_at hl 1 rfl) ?_
      refine lv_bipush (v := 61) hx hb dX9_isTestText_58 (by decide) ?_
      obtain ⟨q4, hq4, hf⟩ := bnd hf
      refine aw_cVi (rest := []) C0 hW (lv_fix (by decide)) (cel_8 kd70) rfl (c_X9_takes 61  hq4) (cw_X9_191 hts ⟨Nat.le_of_ble_eq_true rfl, Nat.le_of_ble_eq_true rfl⟩) rfl hl.1 rfl (Nat.le_of_ble_eq_true rfl) ⟨Nat.zero_le _, Nat.zero_le _⟩ dX9_isTestText_60 (fun H locs hW => ?_)
      obtain ⟨q5, hq5, hf⟩ := bnd hf
      have J97_q5 : ∀ (H : Heap) (locs : List Loc) (ls : Array Slot), Wd g q5.2 R P Z s.heap H locs → lv_has ls 3 [(0, .ref (g.2.2 + 70)), (1, .int (v2 - 97))] → W p0 l e rmX9_isTestText s m args below meth c H locs 0 0 (MQ below (QI g z.1 z.2 R P Z) args s 0 0 (AA g)) (F0 m 97 ls ([.int q5.1])) := by
        intro H locs ls hW hl
        refine lv_istore_n (lv' := [(2, .int q5.1), (0, .ref (g.2.2 + 70)), (1, .int (v2 - 97))]) hx hb dX9_isTestText_97 rfl hl (Nat.le_of_ble_eq_true rfl) rfl (fun ls hl => ?_)
        refine lv_iload_n hx hb dX9_isTestText_98 rfl (lv_at hl 0 rfl) ?_
        refine lv_if_le (tgt := 115) hx hb dX9_isTestText_99 rfl (fun hc => ?_) (fun hc => ?_)
        · have hf := ift hc hf
          refine lv_iconst (v := 0) hx hb dX9_isTestText_115 (by decide) ?_
          have hz := Option.some.inj hf
          have hzV := congrArg (fun z : Int32 × Mem => z.1) hz
          have hzI := congrArg (fun z : Int32 × Mem => z.2) hz
          exact aw_zret C0 hW rfl hzV hzI rfl dX9_isTestText_116
        · have hf := iff_ hc hf
          refine lv_aload_n hx hb dX9_isTestText_102 rfl (lv_at hl 1 rfl) ?_
          refine lv_iload_n hx hb dX9_isTestText_103 rfl (lv_at hl 2 rfl) ?_
          refine lv_iload_n hx hb dX9_isTestText_104 rfl (lv_at hl 0 rfl) ?_
          obtain ⟨q8, hq8, hf⟩ := bnd hf
          refine aw_cVi (rest := []) C0 hW (lv_fix (by decide)) (cel_8 kd70) rfl (c_X9_isRight (v2 - 97) q5.1  hq8) (cw_X9_194 hts ⟨Nat.le_of_ble_eq_true rfl, Nat.le_of_ble_eq_true rfl⟩) rfl hl.1 rfl (Nat.le_of_ble_eq_true rfl) ⟨Nat.zero_le _, Nat.zero_le _⟩ dX9_isTestText_105 (fun H locs hW => ?_)
          refine lv_if_eq (tgt := 115) hx hb dX9_isTestText_108 rfl (fun hc => ?_) (fun hc => ?_)
          · have hf := ift hc hf
            refine lv_iconst (v := 0) hx hb dX9_isTestText_115 (by decide) ?_
            have hz := Option.some.inj hf
            have hzV := congrArg (fun z : Int32 × Mem => z.1) hz
            have hzI := congrArg (fun z : Int32 × Mem => z.2) hz
            exact aw_zret C0 hW rfl hzV hzI rfl dX9_isTestText_116
          · have hf := iff_ hc hf
            refine lv_iconst (v := 1) hx hb dX9_isTestText_111 (by decide) ?_
            refine lv_goto (tgt := 116) hx hb dX9_isTestText_112 rfl ?_
            have hz := Option.some.inj hf
            have hzV := congrArg (fun z : Int32 × Mem => z.1) hz
            have hzI := congrArg (fun z : Int32 × Mem => z.2) hz
            exact aw_zret C0 hW rfl hzV hzI rfl dX9_isTestText_116
      have hf := hq5
      refine lv_if_eq (tgt := 70) hx hb dX9_isTestText_63 rfl (fun hc => ?_) (fun hc => ?_)
      · have hf := ift hc hf
        refine lv_aload_n hx hb dX9_isTestText_70 rfl (lv_at hl 1 rfl) ?_
        refine lv_bipush (v := 60) hx hb dX9_isTestText_71 (by decide) ?_
        obtain ⟨q6, hq6, hf⟩ := bnd hf
        refine aw_cVi (rest := []) C0 hW (lv_fix (by decide)) (cel_8 kd70) rfl (c_X9_takes 60  hq6) (cw_X9_191 hts ⟨Nat.le_of_ble_eq_true rfl, Nat.le_of_ble_eq_true rfl⟩) rfl hl.1 rfl (Nat.le_of_ble_eq_true rfl) ⟨Nat.zero_le _, Nat.zero_le _⟩ dX9_isTestText_73 (fun H locs hW => ?_)
        refine lv_if_eq (tgt := 83) hx hb dX9_isTestText_76 rfl (fun hc => ?_) (fun hc => ?_)
        · have hf := ift hc hf
          refine lv_aload_n hx hb dX9_isTestText_83 rfl (lv_at hl 1 rfl) ?_
          refine lv_bipush (v := 62) hx hb dX9_isTestText_84 (by decide) ?_
          obtain ⟨q7, hq7, hf⟩ := bnd hf
          refine aw_cVi (rest := []) C0 hW (lv_fix (by decide)) (cel_8 kd70) rfl (c_X9_takes 62  hq7) (cw_X9_191 hts ⟨Nat.le_of_ble_eq_true rfl, Nat.le_of_ble_eq_true rfl⟩) rfl hl.1 rfl (Nat.le_of_ble_eq_true rfl) ⟨Nat.zero_le _, Nat.zero_le _⟩ dX9_isTestText_86 (fun H locs hW => ?_)
          refine lv_if_eq (tgt := 96) hx hb dX9_isTestText_89 rfl (fun hc => ?_) (fun hc => ?_)
          · have hf := ift hc hf
            refine lv_iconst (v := 0) hx hb dX9_isTestText_96 (by decide) ?_
            have ho := Option.some.inj hf
            subst ho
            exact J97_q5 H locs ls hW (lv_sub hl [1, 0] rfl)
          · have hf := iff_ hc hf
            refine lv_iconst (v := 3) hx hb dX9_isTestText_92 (by decide) ?_
            refine lv_goto (tgt := 97) hx hb dX9_isTestText_93 rfl ?_
            have ho := Option.some.inj hf
            subst ho
            exact J97_q5 H locs ls hW (lv_sub hl [1, 0] rfl)
        · have hf := iff_ hc hf
          refine lv_iconst (v := 2) hx hb dX9_isTestText_79 (by decide) ?_
          refine lv_goto (tgt := 97) hx hb dX9_isTestText_80 rfl ?_
          have ho := Option.some.inj hf
          subst ho
          exact J97_q5 H locs ls hW (lv_sub hl [1, 0] rfl)
      · have hf := iff_ hc hf
        refine lv_iconst (v := 1) hx hb dX9_isTestText_66 (by decide) ?_
        refine lv_goto (tgt := 97) hx hb dX9_isTestText_67 rfl ?_
        have ho := Option.some.inj hf
        subst ho
        exact J97_q5 H locs ls hW (lv_sub hl [1, 0] rfl)
    · have hf := iff_ hc hf
      refine lv_aload_n hx hb dX9_isTestText_45 rfl (lv_at hl 1 rfl) ?_
      refine lv_iload_n hx hb dX9_isTestText_46 rfl (lv_at hl 0 rfl) ?_
      refine lv_iconst (v := 0) hx hb dX9_isTestText_47 (by decide) ?_
      refine lv_iconst (v := 0) hx hb dX9_isTestText_48 (by decide) ?_
      obtain ⟨q9, hq9, hf⟩ := bnd hf
      refine aw_cSi (rest := [.ref (g.2.2 + 70)]) C0 hW (c_X9_test (v2 - 97) 0 0  hq9) (cw_X9_188 hts ⟨Nat.le_of_ble_eq_true rfl, Nat.le_of_ble_eq_true rfl⟩) rfl hl.1 rfl (Nat.le_of_ble_eq_true rfl) ⟨Nat.zero_le _, Nat.zero_le _⟩ dX9_isTestText_49 (fun H locs hW => ?_)
      obtain ⟨q10, hq10, hf⟩ := bnd hf
      refine aw_cVv (rest := []) C0 hW (lv_fix (by decide)) (cel_8 kd70) rfl (c_X9_makes q9  hq10) (cw_X9_144 hts ⟨Nat.le_of_ble_eq_true rfl, Nat.le_of_ble_eq_true rfl⟩) rfl hl.1 rfl (Nat.le_of_ble_eq_true rfl) ⟨Nat.zero_le _, Nat.zero_le _⟩ dX9_isTestText_52 (fun H locs hW => ?_)
      refine lv_iconst (v := 1) hx hb dX9_isTestText_55 (by decide) ?_
      have hz := Option.some.inj hf
      have hzV := congrArg (fun z : Int32 × Mem => z.1) hz
      have hzI := congrArg (fun z : Int32 × Mem => z.2) hz
      exact aw_zret C0 hW rfl hzV hzI rfl dX9_isTestText_56
  · have hf := ift hc hf
    refine lv_iconst (v := 0) hx hb dX9_isTestText_11 (by decide) ?_
    have hz := Option.some.inj hf
    have hzV := congrArg (fun z : Int32 × Mem => z.1) hz
    have hzI := congrArg (fun z : Int32 × Mem => z.2) hz
    exact aw_zret C0 hW rfl hzV hzI rfl dX9_isTestText_12
theorem cw_X9_203 {Rm : Room} {s : State} {args : Array Value} (ht : ∀ w ∈ GT, w.before args s = true) (hR : rmX9_isTestText.frames + 1 ≤ Rm.frames ∧ 8 + (3 + 11) + rmX9_isTestText.locals ≤ Rm.locals) : CallW Rm s args RX9 RX9 203 yX9_isTestText cX9_isTestText 3 (some .boolean) (Cond.code yX9_isTestText cX9_isTestText 3 (some .boolean) :: GT) rmX9_isTestText 0 0 0 := cwV 0 ht (goodV wd708 wd709 wd710 wd607 wd711) rfl rfl rfl ⟨rfl, by decide +kernel, by decide +kernel, by decide +kernel⟩ hR
def f_X9_isPart_L2  : Nat → Int32 → Mem → Option (Mem)
  | 0, _, _ => none
  | n + 1, w1, I =>
    if w1 = 0 then (
      some I
    ) else (
      (f_X9_takes 33 I).bind fun q1 =>
      if q1.1 = 0 then (
        (f_X9_takes 40 q1.2).bind fun q2 =>
        if q2.1 = 0 then (
          f_X9_isPart_L2 n 0 q2.2
        ) else (
          (f_X9_holdsBack 40 q2.2).bind fun q3 =>
          f_X9_isPart_L2 n w1 ((up q3 70 17 ((q3 70 17) + 1)))
        )
      ) else (
        (f_X9_holdsBack 33 q1.2).bind fun q4 =>
        f_X9_isPart_L2 n w1 q4
      )
    )
def f_X9_isPart (I : Mem) : Option (Int32 × Mem) :=
  (f_X9_isPart_L2 fuel 1 I).bind fun q5 =>
  (f_X9_isTestText q5).bind fun q6 =>
  if q6.1 = 0 then (
    if narrow .boolean (.int q6.1) = .int q6.1 then
    some (q6.1, q6.2)
    else none
  ) else (
    (f_X9_ends q6.2).bind fun q7 =>
    if narrow .boolean (.int q6.1) = .int q6.1 then
    some (q6.1, q7)
    else none
  )
abbrev rmX9_isPart : Room := { frames := 4, cells := 0, slots := 0, locals := 89 }
set_option maxHeartbeats 4000000 in
set_option maxRecDepth 100000 in
theorem c_X9_isPart {l : Launch} {g : Gam} {I : Mem} {R : Rem} {P : Pool} {Z : Zed}   {z : Int32 × Mem} (hf : f_X9_isPart I = some z) : Met l yX9_isPart (Cond.code yX9_isPart cX9_isPart 3 (some .boolean) :: GT) rmX9_isPart (va_Pc [.ref (g.2.2 + 70)] (PW g I R P Z)) (QI g z.1 z.2 R P Z) 0 0 (AA g) := by
  refine aw_ofW (lv0 := [(0, .ref (g.2.2 + 70))]) (by decide) (by exact Nat.le_of_ble_eq_true rfl) (by rfl) (fun p0 e s m args below meth c ls C0 hl hW => ?_)
  have C0 : CX g p0 s m args meth c RX9 cX9_isPart 3 (some .boolean) := C0
  have hx := C0.1; have hb := C0.2.1; have hown := C0.2.2.2.2.1; have hts := C0.2.2.2.2.2.1; have hKS := C0.2.2.2.2.2.2.1
  have L2 : ∀ (n : Nat) (w1 : Int32) (I : Mem) (H : Heap) (locs : List Loc) (ls : Array Slot) (o : Mem), f_X9_isPart_L2 n w1 I = some o → Wd g I R P Z s.heap H locs → lv_has ls 3 [(0, .ref (g.2.2 + 70)), (1, .int w1)] → (∀ (H : Heap) (locs : List Loc) (ls : Array Slot), Wd g o R P Z s.heap H locs → lv_has ls 3 [(0, .ref (g.2.2 + 70))] → W p0 l e rmX9_isPart s m args below meth c H locs 0 0 (MQ below (QI g z.1 z.2 R P Z) args s 0 0 (AA g)) (F0 m 57 ls [])) → W p0 l e rmX9_isPart s m args below meth c H locs 0 0 (MQ below (QI g z.1 z.2 R P Z) args s 0 0 (AA g)) (F0 m 2 ls []) := by
    intro n
    induction n with
    | zero => intro w1 I H locs ls o hf; cases hf
    | succ n ih =>
      intro w1 I H locs ls o hf hW hl hK
      rw [f_X9_isPart_L2] at hf
      refine lv_iload_n hx hb dX9_isPart_2 rfl (lv_at hl 1 rfl) ?_
      refine lv_if_eq (tgt := 57) hx hb dX9_isPart_3 rfl (fun hc => ?_) (fun hc => ?_)
      · have hf := ift hc hf
        have ho := Option.some.inj hf
        subst ho
        exact hK H locs ls hW (lv_sub hl [0] rfl)
      · have hf := iff_ hc hf
        refine lv_aload_n hx hb dX9_isPart_6 rfl (lv_at hl 0 rfl) ?_
        refine lv_bipush (v := 33) hx hb dX9_isPart_7 (by decide) ?_
        obtain ⟨q1, hq1, hf⟩ := bnd hf
        refine aw_cVi (rest := []) C0 hW (lv_fix (by decide)) (cel_8 kd70) rfl (c_X9_takes 33  hq1) (cw_X9_191 hts ⟨Nat.le_of_ble_eq_true rfl, Nat.le_of_ble_eq_true rfl⟩) rfl hl.1 rfl (Nat.le_of_ble_eq_true rfl) ⟨Nat.zero_le _, Nat.zero_le _⟩ dX9_isPart_9 (fun H locs hW => ?_)
        refine lv_if_eq (tgt := 24) hx hb dX9_isPart_12 rfl (fun hc => ?_) (fun hc => ?_)
        · have hf := ift hc hf
          refine lv_aload_n hx hb dX9_isPart_24 rfl (lv_at hl 0 rfl) ?_
          refine lv_bipush (v := 40) hx hb dX9_isPart_25 (by decide) ?_
          obtain ⟨q2, hq2, hf⟩ := bnd hf
          refine aw_cVi (rest := []) C0 hW (lv_fix (by decide)) (cel_8 kd70) rfl (c_X9_takes 40  hq2) (cw_X9_191 hts ⟨Nat.le_of_ble_eq_true rfl, Nat.le_of_ble_eq_true rfl⟩) rfl hl.1 rfl (Nat.le_of_ble_eq_true rfl) ⟨Nat.zero_le _, Nat.zero_le _⟩ dX9_isPart_27 (fun H locs hW => ?_)
          refine lv_if_eq (tgt := 52) hx hb dX9_isPart_30 rfl (fun hc => ?_) (fun hc => ?_)
          · have hf := ift hc hf
            refine lv_iconst (v := 0) hx hb dX9_isPart_52 (by decide) ?_
            refine lv_istore_n (lv' := [(1, .int 0), (0, .ref (g.2.2 + 70))]) hx hb dX9_isPart_53 rfl hl (Nat.le_of_ble_eq_true rfl) rfl (fun ls hl => ?_)
            refine lv_goto (tgt := 2) hx hb dX9_isPart_54 rfl ?_
            exact ih _ _ H locs ls o hf hW (lv_sub hl [1, 0] rfl) hK
          · have hf := iff_ hc hf
            refine lv_aload_n hx hb dX9_isPart_33 rfl (lv_at hl 0 rfl) ?_
            refine lv_bipush (v := 40) hx hb dX9_isPart_34 (by decide) ?_
            obtain ⟨q3, hq3, hf⟩ := bnd hf
            refine aw_cVv (rest := []) C0 hW (lv_fix (by decide)) (cel_8 kd70) rfl (c_X9_holdsBack 40  hq3) (cw_X9_197 hts ⟨Nat.le_of_ble_eq_true rfl, Nat.le_of_ble_eq_true rfl⟩) rfl hl.1 rfl (Nat.le_of_ble_eq_true rfl) ⟨Nat.zero_le _, Nat.zero_le _⟩ dX9_isPart_36 (fun H locs hW => ?_)
            refine lv_aload_n hx hb dX9_isPart_39 rfl (lv_at hl 0 rfl) ?_
            refine lv_dup hx hb dX9_isPart_40 rfl ?_
            refine aw_get (v := .int (q3 70 17)) C0 hW (lv_fix (by decide)) (cel_8 kd70) rfl inG8 17 (by decide) wd91 rfl rfl dX9_isPart_41 ?_
            refine lv_iconst (v := 1) hx hb dX9_isPart_44 (by decide) ?_
            refine lv_iadd hx hb dX9_isPart_45 ?_
            refine aw_put C0 hW (lv_fix (by decide)) (cel_8 kd70) rfl inG8 tyX9 tyX9_ok nmX9 17 (by decide) wd91 rfl rfl (ty := .int) rfl rfl rfl (Nat.le_of_ble_eq_true rfl) (pu_8_17 kd70) dX9_isPart_46 (fun H locs hW => ?_)
            refine lv_goto (tgt := 2) hx hb dX9_isPart_49 rfl ?_
            exact ih _ _ H locs ls o hf hW (lv_sub hl [0, 1] rfl) hK
        · have hf := iff_ hc hf
          refine lv_aload_n hx hb dX9_isPart_15 rfl (lv_at hl 0 rfl) ?_
          refine lv_bipush (v := 33) hx hb dX9_isPart_16 (by decide) ?_
          obtain ⟨q4, hq4, hf⟩ := bnd hf
          refine aw_cVv (rest := []) C0 hW (lv_fix (by decide)) (cel_8 kd70) rfl (c_X9_holdsBack 33  hq4) (cw_X9_197 hts ⟨Nat.le_of_ble_eq_true rfl, Nat.le_of_ble_eq_true rfl⟩) rfl hl.1 rfl (Nat.le_of_ble_eq_true rfl) ⟨Nat.zero_le _, Nat.zero_le _⟩ dX9_isPart_18 (fun H locs hW => ?_)
          refine lv_goto (tgt := 2) hx hb dX9_isPart_21 rfl ?_
          exact ih _ _ H locs ls o hf hW (lv_sub hl [0, 1] rfl) hK
  unfold f_X9_isPart at hf
  obtain ⟨H, hH⟩ : ∃ H, H = s.heap := ⟨_, rfl⟩
  obtain ⟨locs, hlc⟩ : ∃ q : List Loc, q = [] := ⟨_, rfl⟩
  rw [show W p0 l e rmX9_isPart s m args below meth c s.heap [] 0 0 (MQ below (QI g z.1 z.2 R P Z) args s 0 0 (AA g)) (F0 m 0 ls []) = W p0 l e rmX9_isPart s m args below meth c H locs 0 0 (MQ below (QI g z.1 z.2 R P Z) args s 0 0 (AA g)) (F0 m 0 ls []) by rw [hH, hlc]]
  have hW : Wd g I R P Z s.heap H locs := by rw [hH, hlc]; exact hW
  refine lv_iconst (v := 1) hx hb dX9_isPart_0 (by decide) ?_
  refine lv_istore_n (lv' := [(1, .int 1), (0, .ref (g.2.2 + 70))]) hx hb dX9_isPart_1 rfl hl (Nat.le_of_ble_eq_true rfl) rfl (fun ls hl => ?_)
  obtain ⟨q5, hq5, hf⟩ := bnd hf
  refine L2  fuel 1 I H locs ls _ hq5 hW (lv_sub hl [1, 0] rfl) (fun H locs ls hW hl => ?_)
  refine lv_aload_n hx hb dX9_isPart_57 rfl (lv_at hl 0 rfl) ?_
  obtain ⟨q6, hq6, hf⟩ := bnd hf
  refine aw_cVi (rest := []) C0 hW (lv_fix (by decide)) (cel_8 kd70) rfl (c_X9_isTestText  hq6) (cw_X9_203 hts ⟨Nat.le_of_ble_eq_true rfl, Nat.le_of_ble_eq_true rfl⟩) rfl hl.1 rfl (Nat.le_of_ble_eq_true rfl) ⟨Nat.zero_le _, Nat.zero_le _⟩ dX9_isPart_58 (fun H locs hW => ?_)
  refine lv_istore_n (lv' := [(2, .int q6.1), (0, .ref (g.2.2 + 70))]) hx hb dX9_isPart_61 rfl hl (Nat.le_of_ble_eq_true rfl) rfl (fun ls hl => ?_)
  refine lv_iload_n hx hb dX9_isPart_62 rfl (lv_at hl 0 rfl) ?_
  refine lv_if_eq (tgt := 70) hx hb dX9_isPart_63 rfl (fun hc => ?_) (fun hc => ?_)
  · have hf := ift hc hf
    refine lv_iload_n hx hb dX9_isPart_70 rfl (lv_at hl 0 rfl) ?_
    obtain ⟨hnw, hf⟩ := ifn hf
    have hz := Option.some.inj hf
    have hzV := congrArg (fun z : Int32 × Mem => z.1) hz
    have hzI := congrArg (fun z : Int32 × Mem => z.2) hz
    exact aw_zret C0 hW hnw hzV hzI rfl dX9_isPart_71
  · have hf := iff_ hc hf
    refine lv_aload_n hx hb dX9_isPart_66 rfl (lv_at hl 1 rfl) ?_
    obtain ⟨q7, hq7, hf⟩ := bnd hf
    refine aw_cVv (rest := []) C0 hW (lv_fix (by decide)) (cel_8 kd70) rfl (c_X9_ends  hq7) (cw_X9_206 hts ⟨Nat.le_of_ble_eq_true rfl, Nat.le_of_ble_eq_true rfl⟩) rfl hl.1 rfl (Nat.le_of_ble_eq_true rfl) ⟨Nat.zero_le _, Nat.zero_le _⟩ dX9_isPart_67 (fun H locs hW => ?_)
    refine lv_iload_n hx hb dX9_isPart_70 rfl (lv_at hl 0 rfl) ?_
    obtain ⟨hnw, hf⟩ := ifn hf
    have hz := Option.some.inj hf
    have hzV := congrArg (fun z : Int32 × Mem => z.1) hz
    have hzI := congrArg (fun z : Int32 × Mem => z.2) hz
    exact aw_zret C0 hW hnw hzV hzI rfl dX9_isPart_71
theorem cw_X9_212 {Rm : Room} {s : State} {args : Array Value} (ht : ∀ w ∈ GT, w.before args s = true) (hR : rmX9_isPart.frames + 1 ≤ Rm.frames ∧ 8 + (3 + 11) + rmX9_isPart.locals ≤ Rm.locals) : CallW Rm s args RX9 RX9 212 yX9_isPart cX9_isPart 3 (some .boolean) (Cond.code yX9_isPart cX9_isPart 3 (some .boolean) :: GT) rmX9_isPart 0 0 0 := cwV 0 ht (goodV wd720 wd721 wd722 wd607 wd723) rfl rfl rfl ⟨rfl, by decide +kernel, by decide +kernel, by decide +kernel⟩ hR
def f_X9_isSign (I : Mem) : Option (Int32 × Mem) :=
  (f_X9_takes 38 I).bind fun q1 =>
  if q1.1 = 0 then (
    (f_X9_takes 124 q1.2).bind fun q2 =>
    if q2.1 = 0 then (
      some (0, q2.2)
    ) else (
      (f_X9_pops 38 1 q2.2).bind fun q3 =>
      (f_X9_pops 124 2 q3).bind fun q4 =>
      (f_X9_holdsBack 124 q4).bind fun q5 =>
      some (1, q5)
    )
  ) else (
    (f_X9_pops 38 1 q1.2).bind fun q6 =>
    (f_X9_holdsBack 38 q6).bind fun q7 =>
    some (1, q7)
  )
abbrev rmX9_isSign : Room := { frames := 3, cells := 0, slots := 0, locals := 66 }
set_option maxHeartbeats 4000000 in
set_option maxRecDepth 100000 in
theorem c_X9_isSign {l : Launch} {g : Gam} {I : Mem} {R : Rem} {P : Pool} {Z : Zed}   {z : Int32 × Mem} (hf : f_X9_isSign I = some z) : Met l yX9_isSign (Cond.code yX9_isSign cX9_isSign 1 (some .boolean) :: GT) rmX9_isSign (va_Pc [.ref (g.2.2 + 70)] (PW g I R P Z)) (QI g z.1 z.2 R P Z) 0 0 (AA g) := by
  refine aw_ofW (lv0 := [(0, .ref (g.2.2 + 70))]) (by decide) (by exact Nat.le_of_ble_eq_true rfl) (by rfl) (fun p0 e s m args below meth c ls C0 hl hW => ?_)
  have C0 : CX g p0 s m args meth c RX9 cX9_isSign 1 (some .boolean) := C0
  have hx := C0.1; have hb := C0.2.1; have hown := C0.2.2.2.2.1; have hts := C0.2.2.2.2.2.1; have hKS := C0.2.2.2.2.2.2.1
  unfold f_X9_isSign at hf
  obtain ⟨H, hH⟩ : ∃ H, H = s.heap := ⟨_, rfl⟩
  obtain ⟨locs, hlc⟩ : ∃ q : List Loc, q = [] := ⟨_, rfl⟩
  rw [show W p0 l e rmX9_isSign s m args below meth c s.heap [] 0 0 (MQ below (QI g z.1 z.2 R P Z) args s 0 0 (AA g)) (F0 m 0 ls []) = W p0 l e rmX9_isSign s m args below meth c H locs 0 0 (MQ below (QI g z.1 z.2 R P Z) args s 0 0 (AA g)) (F0 m 0 ls []) by rw [hH, hlc]]
  have hW : Wd g I R P Z s.heap H locs := by rw [hH, hlc]; exact hW
  refine lv_aload_n hx hb dX9_isSign_0 rfl (lv_at hl 0 rfl) ?_
  refine lv_bipush (v := 38) hx hb dX9_isSign_1 (by decide) ?_
  obtain ⟨q1, hq1, hf⟩ := bnd hf
  refine aw_cVi (rest := []) C0 hW (lv_fix (by decide)) (cel_8 kd70) rfl (c_X9_takes 38  hq1) (cw_X9_191 hts ⟨Nat.le_of_ble_eq_true rfl, Nat.le_of_ble_eq_true rfl⟩) rfl hl.1 rfl (Nat.le_of_ble_eq_true rfl) ⟨Nat.zero_le _, Nat.zero_le _⟩ dX9_isSign_3 (fun H locs hW => ?_)
  refine lv_if_eq (tgt := 24) hx hb dX9_isSign_6 rfl (fun hc => ?_) (fun hc => ?_)
  · have hf := ift hc hf
    refine lv_aload_n hx hb dX9_isSign_24 rfl (lv_at hl 0 rfl) ?_
    refine lv_bipush (v := 124) hx hb dX9_isSign_25 (by decide) ?_
    obtain ⟨q2, hq2, hf⟩ := bnd hf
    refine aw_cVi (rest := []) C0 hW (lv_fix (by decide)) (cel_8 kd70) rfl (c_X9_takes 124  hq2) (cw_X9_191 hts ⟨Nat.le_of_ble_eq_true rfl, Nat.le_of_ble_eq_true rfl⟩) rfl hl.1 rfl (Nat.le_of_ble_eq_true rfl) ⟨Nat.zero_le _, Nat.zero_le _⟩ dX9_isSign_27 (fun H locs hW => ?_)
    refine lv_if_eq (tgt := 55) hx hb dX9_isSign_30 rfl (fun hc => ?_) (fun hc => ?_)
    · have hf := ift hc hf
      refine lv_iconst (v := 0) hx hb dX9_isSign_55 (by decide) ?_
      have hz := Option.some.inj hf
      have hzV := congrArg (fun z : Int32 × Mem => z.1) hz
      have hzI := congrArg (fun z : Int32 × Mem => z.2) hz
      exact aw_zret C0 hW rfl hzV hzI rfl dX9_isSign_56
    · have hf := iff_ hc hf
      refine lv_aload_n hx hb dX9_isSign_33 rfl (lv_at hl 0 rfl) ?_
      refine lv_bipush (v := 38) hx hb dX9_isSign_34 (by decide) ?_
      refine lv_iconst (v := 1) hx hb dX9_isSign_36 (by decide) ?_
      obtain ⟨q3, hq3, hf⟩ := bnd hf
      refine aw_cVv (rest := []) C0 hW (lv_fix (by decide)) (cel_8 kd70) rfl (c_X9_pops 38 1  hq3) (cw_X9_209 hts ⟨Nat.le_of_ble_eq_true rfl, Nat.le_of_ble_eq_true rfl⟩) rfl hl.1 rfl (Nat.le_of_ble_eq_true rfl) ⟨Nat.zero_le _, Nat.zero_le _⟩ dX9_isSign_37 (fun H locs hW => ?_)
      refine lv_aload_n hx hb dX9_isSign_40 rfl (lv_at hl 0 rfl) ?_
      refine lv_bipush (v := 124) hx hb dX9_isSign_41 (by decide) ?_
      refine lv_iconst (v := 2) hx hb dX9_isSign_43 (by decide) ?_
      obtain ⟨q4, hq4, hf⟩ := bnd hf
      refine aw_cVv (rest := []) C0 hW (lv_fix (by decide)) (cel_8 kd70) rfl (c_X9_pops 124 2  hq4) (cw_X9_209 hts ⟨Nat.le_of_ble_eq_true rfl, Nat.le_of_ble_eq_true rfl⟩) rfl hl.1 rfl (Nat.le_of_ble_eq_true rfl) ⟨Nat.zero_le _, Nat.zero_le _⟩ dX9_isSign_44 (fun H locs hW => ?_)
      refine lv_aload_n hx hb dX9_isSign_47 rfl (lv_at hl 0 rfl) ?_
      refine lv_bipush (v := 124) hx hb dX9_isSign_48 (by decide) ?_
      obtain ⟨q5, hq5, hf⟩ := bnd hf
      refine aw_cVv (rest := []) C0 hW (lv_fix (by decide)) (cel_8 kd70) rfl (c_X9_holdsBack 124  hq5) (cw_X9_197 hts ⟨Nat.le_of_ble_eq_true rfl, Nat.le_of_ble_eq_true rfl⟩) rfl hl.1 rfl (Nat.le_of_ble_eq_true rfl) ⟨Nat.zero_le _, Nat.zero_le _⟩ dX9_isSign_50 (fun H locs hW => ?_)
      refine lv_iconst (v := 1) hx hb dX9_isSign_53 (by decide) ?_
      have hz := Option.some.inj hf
      have hzV := congrArg (fun z : Int32 × Mem => z.1) hz
      have hzI := congrArg (fun z : Int32 × Mem => z.2) hz
      exact aw_zret C0 hW rfl hzV hzI rfl dX9_isSign_54
  · have hf := iff_ hc hf
    refine lv_aload_n hx hb dX9_isSign_9 rfl (lv_at hl 0 rfl) ?_
    refine lv_bipush (v := 38) hx hb dX9_isSign_10 (by decide) ?_
    refine lv_iconst (v := 1) hx hb dX9_isSign_12 (by decide) ?_
    obtain ⟨q6, hq6, hf⟩ := bnd hf
    refine aw_cVv (rest := []) C0 hW (lv_fix (by decide)) (cel_8 kd70) rfl (c_X9_pops 38 1  hq6) (cw_X9_209 hts ⟨Nat.le_of_ble_eq_true rfl, Nat.le_of_ble_eq_true rfl⟩) rfl hl.1 rfl (Nat.le_of_ble_eq_true rfl) ⟨Nat.zero_le _, Nat.zero_le _⟩ dX9_isSign_13 (fun H locs hW => ?_)
    refine lv_aload_n hx hb dX9_isSign_16 rfl (lv_at hl 0 rfl) ?_
    refine lv_bipush (v := 38) hx hb dX9_isSign_17 (by decide) ?_
    obtain ⟨q7, hq7, hf⟩ := bnd hf
    refine aw_cVv (rest := []) C0 hW (lv_fix (by decide)) (cel_8 kd70) rfl (c_X9_holdsBack 38  hq7) (cw_X9_197 hts ⟨Nat.le_of_ble_eq_true rfl, Nat.le_of_ble_eq_true rfl⟩) rfl hl.1 rfl (Nat.le_of_ble_eq_true rfl) ⟨Nat.zero_le _, Nat.zero_le _⟩ dX9_isSign_19 (fun H locs hW => ?_)
    refine lv_iconst (v := 1) hx hb dX9_isSign_22 (by decide) ?_
    have hz := Option.some.inj hf
    have hzV := congrArg (fun z : Int32 × Mem => z.1) hz
    have hzI := congrArg (fun z : Int32 × Mem => z.2) hz
    exact aw_zret C0 hW rfl hzV hzI rfl dX9_isSign_23
theorem cw_X9_218 {Rm : Room} {s : State} {args : Array Value} (ht : ∀ w ∈ GT, w.before args s = true) (hR : rmX9_isSign.frames + 1 ≤ Rm.frames ∧ 8 + (1 + 11) + rmX9_isSign.locals ≤ Rm.locals) : CallW Rm s args RX9 RX9 218 yX9_isSign cX9_isSign 1 (some .boolean) (Cond.code yX9_isSign cX9_isSign 1 (some .boolean) :: GT) rmX9_isSign 0 0 0 := cwV 0 ht (goodV wd728 wd729 wd730 wd607 wd731) rfl rfl rfl ⟨rfl, by decide +kernel, by decide +kernel, by decide +kernel⟩ hR
def f_X9_isWhole_L22  : Nat → Int32 → Mem → Option ((Int32 × Mem) ⊕ (Mem))
  | 0, _, _ => none
  | n + 1, w1, I =>
    if w1 = 0 then (
      some (.inr I)
    ) else (
      (f_X9_isPart I).bind fun q1 =>
      if q1.1 = 0 then (
        some (.inl (0, q1.2))
      ) else (
        (f_X9_closes q1.2).bind fun q2 =>
        (f_X9_isSign q2).bind fun q3 =>
        f_X9_isWhole_L22 n q3.1 q3.2
      )
    )
def f_X9_isWhole (I : Mem) : Option (Int32 × Mem) :=
  (f_X9_isWhole_L22 fuel 1 ((up (up (up (up I 70 14 0) 70 16 0) 70 17 0) 70 13 0))).bind fun q4 =>
  sm q4 (fun r => some r) fun q5 =>
  (f_X9_pops 38 1 q5).bind fun q6 =>
  (f_X9_pops 124 2 q6).bind fun q7 =>
  if (q7 70 14) = (q7 70 6) then (
    if (q7 70 17) = 0 then (
      some (1, q7)
    ) else (
      some (0, q7)
    )
  ) else (
    some (0, q7)
  )
abbrev rmX9_isWhole : Room := { frames := 5, cells := 0, slots := 0, locals := 111 }
set_option maxHeartbeats 4000000 in
set_option maxRecDepth 100000 in
theorem c_X9_isWhole {l : Launch} {g : Gam} {I : Mem} {R : Rem} {P : Pool} {Z : Zed}   {z : Int32 × Mem} (hf : f_X9_isWhole I = some z) : Met l yX9_isWhole (Cond.code yX9_isWhole cX9_isWhole 2 (some .boolean) :: GT) rmX9_isWhole (va_Pc [.ref (g.2.2 + 70)] (PW g I R P Z)) (QI g z.1 z.2 R P Z) 0 0 (AA g) := by
  refine aw_ofW (lv0 := [(0, .ref (g.2.2 + 70))]) (by decide) (by exact Nat.le_of_ble_eq_true rfl) (by rfl) (fun p0 e s m args below meth c ls C0 hl hW => ?_)
  have C0 : CX g p0 s m args meth c RX9 cX9_isWhole 2 (some .boolean) := C0
  have hx := C0.1; have hb := C0.2.1; have hown := C0.2.2.2.2.1; have hts := C0.2.2.2.2.2.1; have hKS := C0.2.2.2.2.2.2.1
  have L22 : ∀ (n : Nat) (w1 : Int32) (I : Mem) (H : Heap) (locs : List Loc) (ls : Array Slot) (o : (Int32 × Mem) ⊕ (Mem)), f_X9_isWhole_L22 n w1 I = some o → Wd g I R P Z s.heap H locs → lv_has ls 2 [(0, .ref (g.2.2 + 70)), (1, .int w1)] → (∀ q, o = .inr q → ∀ (H : Heap) (locs : List Loc) (ls : Array Slot), Wd g q R P Z s.heap H locs → lv_has ls 2 [(0, .ref (g.2.2 + 70))] → W p0 l e rmX9_isWhole s m args below meth c H locs 0 0 (MQ below (QI g z.1 z.2 R P Z) args s 0 0 (AA g)) (F0 m 47 ls [])) → (∀ r, o = .inl r → r = z) → W p0 l e rmX9_isWhole s m args below meth c H locs 0 0 (MQ below (QI g z.1 z.2 R P Z) args s 0 0 (AA g)) (F0 m 22 ls []) := by
    intro n
    induction n with
    | zero => intro w1 I H locs ls o hf; cases hf
    | succ n ih =>
      intro w1 I H locs ls o hf hW hl hK hZ
      rw [f_X9_isWhole_L22] at hf
      refine lv_iload_n hx hb dX9_isWhole_22 rfl (lv_at hl 1 rfl) ?_
      refine lv_if_eq (tgt := 47) hx hb dX9_isWhole_23 rfl (fun hc => ?_) (fun hc => ?_)
      · have hf := ift hc hf
        have ho := Option.some.inj hf
        subst ho
        exact hK _ rfl H locs ls hW (lv_sub hl [0] rfl)
      · have hf := iff_ hc hf
        refine lv_aload_n hx hb dX9_isWhole_26 rfl (lv_at hl 0 rfl) ?_
        obtain ⟨q1, hq1, hf⟩ := bnd hf
        refine aw_cVi (rest := []) C0 hW (lv_fix (by decide)) (cel_8 kd70) rfl (c_X9_isPart  hq1) (cw_X9_212 hts ⟨Nat.le_of_ble_eq_true rfl, Nat.le_of_ble_eq_true rfl⟩) rfl hl.1 rfl (Nat.le_of_ble_eq_true rfl) ⟨Nat.zero_le _, Nat.zero_le _⟩ dX9_isWhole_27 (fun H locs hW => ?_)
        refine lv_if_ne (tgt := 35) hx hb dX9_isWhole_30 rfl (fun hc => ?_) (fun hc => ?_)
        · have hf := iff_ hc hf
          refine lv_aload_n hx hb dX9_isWhole_35 rfl (lv_at hl 0 rfl) ?_
          obtain ⟨q2, hq2, hf⟩ := bnd hf
          refine aw_cVv (rest := []) C0 hW (lv_fix (by decide)) (cel_8 kd70) rfl (c_X9_closes  hq2) (cw_X9_215 hts ⟨Nat.le_of_ble_eq_true rfl, Nat.le_of_ble_eq_true rfl⟩) rfl hl.1 rfl (Nat.le_of_ble_eq_true rfl) ⟨Nat.zero_le _, Nat.zero_le _⟩ dX9_isWhole_36 (fun H locs hW => ?_)
          refine lv_aload_n hx hb dX9_isWhole_39 rfl (lv_at hl 0 rfl) ?_
          obtain ⟨q3, hq3, hf⟩ := bnd hf
          refine aw_cVi (rest := []) C0 hW (lv_fix (by decide)) (cel_8 kd70) rfl (c_X9_isSign  hq3) (cw_X9_218 hts ⟨Nat.le_of_ble_eq_true rfl, Nat.le_of_ble_eq_true rfl⟩) rfl hl.1 rfl (Nat.le_of_ble_eq_true rfl) ⟨Nat.zero_le _, Nat.zero_le _⟩ dX9_isWhole_40 (fun H locs hW => ?_)
          refine lv_istore_n (lv' := [(1, .int q3.1), (0, .ref (g.2.2 + 70))]) hx hb dX9_isWhole_43 rfl hl (Nat.le_of_ble_eq_true rfl) rfl (fun ls hl => ?_)
          refine lv_goto (tgt := 22) hx hb dX9_isWhole_44 rfl ?_
          exact ih _ _ H locs ls o hf hW (lv_sub hl [1, 0] rfl) hK hZ
        · have hf := ift hc hf
          refine lv_iconst (v := 0) hx hb dX9_isWhole_33 (by decide) ?_
          have hz := hZ _ (Option.some.inj hf).symm
          have hzV := congrArg (fun z : Int32 × Mem => z.1) hz
          have hzI := congrArg (fun z : Int32 × Mem => z.2) hz
          exact aw_zret C0 hW rfl hzV hzI rfl dX9_isWhole_34
  unfold f_X9_isWhole at hf
  obtain ⟨H, hH⟩ : ∃ H, H = s.heap := ⟨_, rfl⟩
  obtain ⟨locs, hlc⟩ : ∃ q : List Loc, q = [] := ⟨_, rfl⟩
  rw [show W p0 l e rmX9_isWhole s m args below meth c s.heap [] 0 0 (MQ below (QI g z.1 z.2 R P Z) args s 0 0 (AA g)) (F0 m 0 ls []) = W p0 l e rmX9_isWhole s m args below meth c H locs 0 0 (MQ below (QI g z.1 z.2 R P Z) args s 0 0 (AA g)) (F0 m 0 ls []) by rw [hH, hlc]]
  have hW : Wd g I R P Z s.heap H locs := by rw [hH, hlc]; exact hW
  refine lv_aload_n hx hb dX9_isWhole_0 rfl (lv_at hl 0 rfl) ?_
  refine lv_iconst (v := 0) hx hb dX9_isWhole_1 (by decide) ?_
  refine aw_put C0 hW (lv_fix (by decide)) (cel_8 kd70) rfl inG8 tyX9 tyX9_ok nmX9 14 (by decide) wd86 rfl rfl (ty := .int) rfl rfl rfl (Nat.le_of_ble_eq_true rfl) (pu_8_14 kd70) dX9_isWhole_2 (fun H locs hW => ?_)
  refine lv_aload_n hx hb dX9_isWhole_5 rfl (lv_at hl 0 rfl) ?_
  refine lv_iconst (v := 0) hx hb dX9_isWhole_6 (by decide) ?_
  refine aw_put C0 hW (lv_fix (by decide)) (cel_8 kd70) rfl inG8 tyX9 tyX9_ok nmX9 16 (by decide) wd87 rfl rfl (ty := .int) rfl rfl rfl (Nat.le_of_ble_eq_true rfl) (pu_8_16 kd70) dX9_isWhole_7 (fun H locs hW => ?_)
  refine lv_aload_n hx hb dX9_isWhole_10 rfl (lv_at hl 0 rfl) ?_
  refine lv_iconst (v := 0) hx hb dX9_isWhole_11 (by decide) ?_
  refine aw_put C0 hW (lv_fix (by decide)) (cel_8 kd70) rfl inG8 tyX9 tyX9_ok nmX9 17 (by decide) wd91 rfl rfl (ty := .int) rfl rfl rfl (Nat.le_of_ble_eq_true rfl) (pu_8_17 kd70) dX9_isWhole_12 (fun H locs hW => ?_)
  refine lv_aload_n hx hb dX9_isWhole_15 rfl (lv_at hl 0 rfl) ?_
  refine lv_iconst (v := 0) hx hb dX9_isWhole_16 (by decide) ?_
  refine aw_put C0 hW (lv_fix (by decide)) (cel_8 kd70) rfl inG8 tyX9 tyX9_ok nmX9 13 (by decide) wd90 rfl rfl (ty := .int) rfl rfl rfl (Nat.le_of_ble_eq_true rfl) (pu_8_13 kd70) dX9_isWhole_17 (fun H locs hW => ?_)
  refine lv_iconst (v := 1) hx hb dX9_isWhole_20 (by decide) ?_
  refine lv_istore_n (lv' := [(1, .int 1), (0, .ref (g.2.2 + 70))]) hx hb dX9_isWhole_21 rfl hl (Nat.le_of_ble_eq_true rfl) rfl (fun ls hl => ?_)
  obtain ⟨q4, hq4, hf⟩ := bnd hf
  refine L22  fuel 1 ((up (up (up (up I 70 14 0) 70 16 0) 70 17 0) 70 13 0)) H locs ls _ hq4 hW (lv_sub hl [1, 0] rfl) (fun q5 eq5 H locs ls hW hl => ?_) (fun r er => ?_)
  rotate_left
  · rw [er] at hf
    exact Option.some.inj hf
  rw [eq5] at hf
  have hf := (sm_re hf)
  refine lv_aload_n hx hb dX9_isWhole_47 rfl (lv_at hl 0 rfl) ?_
  refine lv_bipush (v := 38) hx hb dX9_isWhole_48 (by decide) ?_
  refine lv_iconst (v := 1) hx hb dX9_isWhole_50 (by decide) ?_
  obtain ⟨q6, hq6, hf⟩ := bnd hf
  refine aw_cVv (rest := []) C0 hW (lv_fix (by decide)) (cel_8 kd70) rfl (c_X9_pops 38 1  hq6) (cw_X9_209 hts ⟨Nat.le_of_ble_eq_true rfl, Nat.le_of_ble_eq_true rfl⟩) rfl hl.1 rfl (Nat.le_of_ble_eq_true rfl) ⟨Nat.zero_le _, Nat.zero_le _⟩ dX9_isWhole_51 (fun H locs hW => ?_)
  refine lv_aload_n hx hb dX9_isWhole_54 rfl (lv_at hl 0 rfl) ?_
  refine lv_bipush (v := 124) hx hb dX9_isWhole_55 (by decide) ?_
  refine lv_iconst (v := 2) hx hb dX9_isWhole_57 (by decide) ?_
  obtain ⟨q7, hq7, hf⟩ := bnd hf
  refine aw_cVv (rest := []) C0 hW (lv_fix (by decide)) (cel_8 kd70) rfl (c_X9_pops 124 2  hq7) (cw_X9_209 hts ⟨Nat.le_of_ble_eq_true rfl, Nat.le_of_ble_eq_true rfl⟩) rfl hl.1 rfl (Nat.le_of_ble_eq_true rfl) ⟨Nat.zero_le _, Nat.zero_le _⟩ dX9_isWhole_58 (fun H locs hW => ?_)
  refine lv_aload_n hx hb dX9_isWhole_61 rfl (lv_at hl 0 rfl) ?_
  refine aw_get (v := .int (q7 70 14)) C0 hW (lv_fix (by decide)) (cel_8 kd70) rfl inG8 14 (by decide) wd86 rfl rfl dX9_isWhole_62 ?_
  refine lv_aload_n hx hb dX9_isWhole_65 rfl (lv_at hl 0 rfl) ?_
  refine aw_get (v := .int (q7 70 6)) C0 hW (lv_fix (by decide)) (cel_8 kd70) rfl inG8 6 (by decide) wd84 rfl rfl dX9_isWhole_66 ?_
  refine lv_icmp_ne (tgt := 83) hx hb dX9_isWhole_69 rfl (fun hc => ?_) (fun hc => ?_)
  · have hf := iff_ hc hf
    refine lv_iconst (v := 0) hx hb dX9_isWhole_83 (by decide) ?_
    have hz := Option.some.inj hf
    have hzV := congrArg (fun z : Int32 × Mem => z.1) hz
    have hzI := congrArg (fun z : Int32 × Mem => z.2) hz
    exact aw_zret C0 hW rfl hzV hzI rfl dX9_isWhole_84
  · have hf := ift hc hf
    refine lv_aload_n hx hb dX9_isWhole_72 rfl (lv_at hl 0 rfl) ?_
    refine aw_get (v := .int (q7 70 17)) C0 hW (lv_fix (by decide)) (cel_8 kd70) rfl inG8 17 (by decide) wd91 rfl rfl dX9_isWhole_73 ?_
    refine lv_if_ne (tgt := 83) hx hb dX9_isWhole_76 rfl (fun hc => ?_) (fun hc => ?_)
    · have hf := iff_ hc hf
      refine lv_iconst (v := 0) hx hb dX9_isWhole_83 (by decide) ?_
      have hz := Option.some.inj hf
      have hzV := congrArg (fun z : Int32 × Mem => z.1) hz
      have hzI := congrArg (fun z : Int32 × Mem => z.2) hz
      exact aw_zret C0 hW rfl hzV hzI rfl dX9_isWhole_84
    · have hf := ift hc hf
      refine lv_iconst (v := 1) hx hb dX9_isWhole_79 (by decide) ?_
      refine lv_goto (tgt := 84) hx hb dX9_isWhole_80 rfl ?_
      have hz := Option.some.inj hf
      have hzV := congrArg (fun z : Int32 × Mem => z.1) hz
      have hzI := congrArg (fun z : Int32 × Mem => z.2) hz
      exact aw_zret C0 hW rfl hzV hzI rfl dX9_isWhole_84
theorem cw_X9_150 {Rm : Room} {s : State} {args : Array Value} (ht : ∀ w ∈ GT, w.before args s = true) (hR : rmX9_isWhole.frames + 1 ≤ Rm.frames ∧ 8 + (2 + 11) + rmX9_isWhole.locals ≤ Rm.locals) : CallW Rm s args RX9 RX9 150 yX9_isWhole cX9_isWhole 2 (some .boolean) (Cond.code yX9_isWhole cX9_isWhole 2 (some .boolean) :: GT) rmX9_isWhole 0 0 0 := cwV 0 ht (goodV wd658 wd659 wd660 wd607 wd661) rfl rfl rfl ⟨rfl, by decide +kernel, by decide +kernel, by decide +kernel⟩ hR
def f_X9_define (x1 : Int32) (P : Pool) (I : Mem) : Option (Int32 × Mem) :=
  (f_X9_isSlot x1).bind fun q1 =>
  if q1 = 0 then (
    (f_X9_refuses 1 ((up I 70 7 0))).bind fun q6 =>
    some (q6.1, q6.2)
  ) else (
    (f_X9_isWhole ((up I 70 7 0))).bind fun q2 =>
    if q2.1 = 0 then (
      (f_X9_refuses 2 q2.2).bind fun q5 =>
      some (q5.1, q5.2)
    ) else (
      (f_X9_saves P q2.2).bind fun q3 =>
      (f_X9_puts x1 ((up q3 70 6 0))).bind fun q4 =>
      some (q4.1, q4.2)
    )
  )
abbrev rmX9_define : Room := { frames := 6, cells := 0, slots := 0, locals := 132 }
set_option maxHeartbeats 4000000 in
set_option maxRecDepth 100000 in
theorem c_X9_define {l : Launch} {g : Gam} {I : Mem} {R : Rem} {P : Pool} {Z : Zed} (x1 : Int32)  {z : Int32 × Mem} (hf : f_X9_define x1 P I = some z) : Met l yX9_define (Cond.code yX9_define cX9_define 2 (some .int) :: GT) rmX9_define (va_Pc [.ref (g.2.2 + 70), .int x1] (PW g I R P Z)) (QI g z.1 z.2 R P Z) 0 0 (AA g) := by
  refine aw_ofW (lv0 := [(0, .ref (g.2.2 + 70)), (1, .int x1)]) (by decide) (by exact Nat.le_of_ble_eq_true rfl) (by rfl) (fun p0 e s m args below meth c ls C0 hl hW => ?_)
  have C0 : CX g p0 s m args meth c RX9 cX9_define 2 (some .int) := C0
  have hx := C0.1; have hb := C0.2.1; have hown := C0.2.2.2.2.1; have hts := C0.2.2.2.2.2.1; have hKS := C0.2.2.2.2.2.2.1
  unfold f_X9_define at hf
  obtain ⟨H, hH⟩ : ∃ H, H = s.heap := ⟨_, rfl⟩
  obtain ⟨locs, hlc⟩ : ∃ q : List Loc, q = [] := ⟨_, rfl⟩
  rw [show W p0 l e rmX9_define s m args below meth c s.heap [] 0 0 (MQ below (QI g z.1 z.2 R P Z) args s 0 0 (AA g)) (F0 m 0 ls []) = W p0 l e rmX9_define s m args below meth c H locs 0 0 (MQ below (QI g z.1 z.2 R P Z) args s 0 0 (AA g)) (F0 m 0 ls []) by rw [hH, hlc]]
  have hW : Wd g I R P Z s.heap H locs := by rw [hH, hlc]; exact hW
  refine lv_aload_n hx hb dX9_define_0 rfl (lv_at hl 0 rfl) ?_
  refine lv_iconst (v := 0) hx hb dX9_define_1 (by decide) ?_
  refine aw_put C0 hW (lv_fix (by decide)) (cel_8 kd70) rfl inG8 tyX9 tyX9_ok nmX9 7 (by decide) wd79 rfl rfl (ty := .int) rfl rfl rfl (Nat.le_of_ble_eq_true rfl) (pu_8_7 kd70) dX9_define_2 (fun H locs hW => ?_)
  refine lv_iload_n hx hb dX9_define_5 rfl (lv_at hl 1 rfl) ?_
  obtain ⟨q1, hq1, hf⟩ := bnd hf
  refine aw_cSi (rest := []) C0 hW (c_X9_isSlot x1  hq1) (cw_X9_147 hts ⟨Nat.le_of_ble_eq_true rfl, Nat.le_of_ble_eq_true rfl⟩) rfl hl.1 rfl (Nat.le_of_ble_eq_true rfl) ⟨Nat.zero_le _, Nat.zero_le _⟩ dX9_define_6 (fun H locs hW => ?_)
  refine lv_if_ne (tgt := 18) hx hb dX9_define_9 rfl (fun hc => ?_) (fun hc => ?_)
  · have hf := iff_ hc hf
    refine lv_aload_n hx hb dX9_define_18 rfl (lv_at hl 0 rfl) ?_
    obtain ⟨q2, hq2, hf⟩ := bnd hf
    refine aw_cVi (rest := []) C0 hW (lv_fix (by decide)) (cel_8 kd70) rfl (c_X9_isWhole  hq2) (cw_X9_150 hts ⟨Nat.le_of_ble_eq_true rfl, Nat.le_of_ble_eq_true rfl⟩) rfl hl.1 rfl (Nat.le_of_ble_eq_true rfl) ⟨Nat.zero_le _, Nat.zero_le _⟩ dX9_define_19 (fun H locs hW => ?_)
    refine lv_if_ne (tgt := 31) hx hb dX9_define_22 rfl (fun hc => ?_) (fun hc => ?_)
    · have hf := iff_ hc hf
      refine lv_aload_n hx hb dX9_define_31 rfl (lv_at hl 0 rfl) ?_
      obtain ⟨q3, hq3, hf⟩ := bnd hf
      refine aw_cVv (rest := []) C0 hW (lv_fix (by decide)) (cel_8 kd70) rfl (c_X9_saves  hq3) (cw_X9_125 hts ⟨Nat.le_of_ble_eq_true rfl, Nat.le_of_ble_eq_true rfl⟩) rfl hl.1 rfl (Nat.le_of_ble_eq_true rfl) ⟨Nat.zero_le _, Nat.zero_le _⟩ dX9_define_32 (fun H locs hW => ?_)
      refine lv_aload_n hx hb dX9_define_35 rfl (lv_at hl 0 rfl) ?_
      refine lv_iconst (v := 0) hx hb dX9_define_36 (by decide) ?_
      refine aw_put C0 hW (lv_fix (by decide)) (cel_8 kd70) rfl inG8 tyX9 tyX9_ok nmX9 6 (by decide) wd84 rfl rfl (ty := .int) rfl rfl rfl (Nat.le_of_ble_eq_true rfl) (pu_8_6 kd70) dX9_define_37 (fun H locs hW => ?_)
      refine lv_aload_n hx hb dX9_define_40 rfl (lv_at hl 0 rfl) ?_
      refine lv_iload_n hx hb dX9_define_41 rfl (lv_at hl 1 rfl) ?_
      obtain ⟨q4, hq4, hf⟩ := bnd hf
      refine aw_cVi (rest := []) C0 hW (lv_fix (by decide)) (cel_8 kd70) rfl (c_X9_puts x1  hq4) (cw_X9_157 hts ⟨Nat.le_of_ble_eq_true rfl, Nat.le_of_ble_eq_true rfl⟩) rfl hl.1 rfl (Nat.le_of_ble_eq_true rfl) ⟨Nat.zero_le _, Nat.zero_le _⟩ dX9_define_42 (fun H locs hW => ?_)
      have hz := Option.some.inj hf
      have hzV := congrArg (fun z : Int32 × Mem => z.1) hz
      have hzI := congrArg (fun z : Int32 × Mem => z.2) hz
      exact aw_iret C0 hW hzV hzI rfl dX9_define_45
    · have hf := ift hc hf
      refine lv_aload_n hx hb dX9_define_25 rfl (lv_at hl 0 rfl) ?_
      refine lv_iconst (v := 2) hx hb dX9_define_26 (by decide) ?_
      obtain ⟨q5, hq5, hf⟩ := bnd hf
      refine aw_cVi (rest := []) C0 hW (lv_fix (by decide)) (cel_8 kd70) rfl (c_X9_refuses 2  hq5) (cw_X9_119 hts ⟨Nat.le_of_ble_eq_true rfl, Nat.le_of_ble_eq_true rfl⟩) rfl hl.1 rfl (Nat.le_of_ble_eq_true rfl) ⟨Nat.zero_le _, Nat.zero_le _⟩ dX9_define_27 (fun H locs hW => ?_)
      have hz := Option.some.inj hf
      have hzV := congrArg (fun z : Int32 × Mem => z.1) hz
      have hzI := congrArg (fun z : Int32 × Mem => z.2) hz
      exact aw_iret C0 hW hzV hzI rfl dX9_define_30
  · have hf := ift hc hf
    refine lv_aload_n hx hb dX9_define_12 rfl (lv_at hl 0 rfl) ?_
    refine lv_iconst (v := 1) hx hb dX9_define_13 (by decide) ?_
    obtain ⟨q6, hq6, hf⟩ := bnd hf
    refine aw_cVi (rest := []) C0 hW (lv_fix (by decide)) (cel_8 kd70) rfl (c_X9_refuses 1  hq6) (cw_X9_119 hts ⟨Nat.le_of_ble_eq_true rfl, Nat.le_of_ble_eq_true rfl⟩) rfl hl.1 rfl (Nat.le_of_ble_eq_true rfl) ⟨Nat.zero_le _, Nat.zero_le _⟩ dX9_define_14 (fun H locs hW => ?_)
    have hz := Option.some.inj hf
    have hzV := congrArg (fun z : Int32 × Mem => z.1) hz
    have hzI := congrArg (fun z : Int32 × Mem => z.2) hz
    exact aw_iret C0 hW hzV hzI rfl dX9_define_17
def f_X9_drops_L19 (x1 : Int32) (x2 : Int32) : Nat → Int32 → Mem → Option (Mem)
  | 0, _, _ => none
  | n + 1, w3, I =>
    (f_X9_many x1 I).bind fun q4 =>
    (f_X9_at x1 q4 0).bind fun q5 =>
    if q5 ≤ w3 then (
      some I
    ) else (
      (rd I 71 619 (w3 + 4)).bind fun v6 =>
      (wr I 71 619 w3 v6).bind fun I7 =>
      f_X9_drops_L19 x1 x2 n (w3 + 1) I7
    )
def f_X9_drops (x1 : Int32) (x2 : Int32) (I : Mem) : Option (Mem) :=
  (rd I 71 619 (0 + x1)).bind fun v1 =>
  (wr I 71 619 (0 + x1) (v1 - 1)).bind fun I2 =>
  (f_X9_at x1 x2 0).bind fun q3 =>
  (f_X9_drops_L19 x1 x2 fuel q3 I2).bind fun q8 =>
  some q8
abbrev rmX9_drops : Room := { frames := 1, cells := 0, slots := 0, locals := 22 }
set_option maxHeartbeats 4000000 in
set_option maxRecDepth 100000 in
theorem c_X9_drops {l : Launch} {g : Gam} {I : Mem} {R : Rem} {P : Pool} {Z : Zed} (x1 : Int32) (x2 : Int32)  {z : Mem} (hf : f_X9_drops x1 x2 I = some z) : Met l yX9_drops (Cond.code yX9_drops cX9_drops 4 none :: GT) rmX9_drops (va_Pc [.ref (g.2.2 + 70), .int x1, .int x2] (PW g I R P Z)) (QV g z R P Z) 0 0 (AA g) := by
  refine aw_ofW (lv0 := [(0, .ref (g.2.2 + 70)), (1, .int x1), (2, .int x2)]) (by decide) (by exact Nat.le_of_ble_eq_true rfl) (by rfl) (fun p0 e s m args below meth c ls C0 hl hW => ?_)
  have C0 : CX g p0 s m args meth c RX9 cX9_drops 4 none := C0
  have hx := C0.1; have hb := C0.2.1; have hown := C0.2.2.2.2.1; have hts := C0.2.2.2.2.2.1; have hKS := C0.2.2.2.2.2.2.1
  have L19 : ∀ (n : Nat) (w3 : Int32) (I : Mem) (H : Heap) (locs : List Loc) (ls : Array Slot) (o : Mem), f_X9_drops_L19 x1 x2 n w3 I = some o → Wd g I R P Z s.heap H locs → lv_has ls 4 [(0, .ref (g.2.2 + 70)), (1, .int x1), (3, .int w3)] → (∀ (H : Heap) (locs : List Loc) (ls : Array Slot), Wd g o R P Z s.heap H locs → lv_has ls 4 [] → W p0 l e rmX9_drops s m args below meth c H locs 0 0 (MQ below (QV g z R P Z) args s 0 0 (AA g)) (F0 m 53 ls [])) → W p0 l e rmX9_drops s m args below meth c H locs 0 0 (MQ below (QV g z R P Z) args s 0 0 (AA g)) (F0 m 19 ls []) := by
    intro n
    induction n with
    | zero => intro w3 I H locs ls o hf; cases hf
    | succ n ih =>
      intro w3 I H locs ls o hf hW hl hK
      rw [f_X9_drops_L19] at hf
      refine lv_iload_n hx hb dX9_drops_19 rfl (lv_at hl 2 rfl) ?_
      refine lv_iload_n hx hb dX9_drops_20 rfl (lv_at hl 1 rfl) ?_
      refine lv_aload_n hx hb dX9_drops_21 rfl (lv_at hl 0 rfl) ?_
      refine lv_iload_n hx hb dX9_drops_22 rfl (lv_at hl 1 rfl) ?_
      obtain ⟨q4, hq4, hf⟩ := bnd hf
      refine aw_cVi (rest := [.int x1, .int w3]) C0 hW (lv_fix (by decide)) (cel_8 kd70) rfl (c_X9_many x1  hq4) (cw_X9_70 hts ⟨Nat.le_of_ble_eq_true rfl, Nat.le_of_ble_eq_true rfl⟩) rfl hl.1 rfl (Nat.le_of_ble_eq_true rfl) ⟨Nat.zero_le _, Nat.zero_le _⟩ dX9_drops_23 (fun H locs hW => ?_)
      refine lv_iconst (v := 0) hx hb dX9_drops_26 (by decide) ?_
      obtain ⟨q5, hq5, hf⟩ := bnd hf
      refine aw_cSi (rest := [.int w3]) C0 hW (c_X9_at x1 q4 0  hq5) (cw_X9_58 hts ⟨Nat.le_of_ble_eq_true rfl, Nat.le_of_ble_eq_true rfl⟩) rfl hl.1 rfl (Nat.le_of_ble_eq_true rfl) ⟨Nat.zero_le _, Nat.zero_le _⟩ dX9_drops_27 (fun H locs hW => ?_)
      refine lv_icmp_ge (tgt := 53) hx hb dX9_drops_30 rfl (fun hc => ?_) (fun hc => ?_)
      · have hf := ift hc hf
        have ho := Option.some.inj hf
        subst ho
        exact hK H locs ls hW (lv_sub hl [] rfl)
      · have hf := iff_ hc hf
        refine lv_aload_n hx hb dX9_drops_33 rfl (lv_at hl 0 rfl) ?_
        refine aw_get (v := .ref (g.2.2 + 71)) C0 hW (lv_fix (by decide)) (cel_8 kd70) rfl inG8 0 (by decide) wd73 rfl rfl dX9_drops_34 ?_
        refine lv_iload_n hx hb dX9_drops_37 rfl (lv_at hl 2 rfl) ?_
        refine lv_aload_n hx hb dX9_drops_38 rfl (lv_at hl 0 rfl) ?_
        refine aw_get (v := .ref (g.2.2 + 71)) C0 hW (lv_fix (by decide)) (cel_8 kd70) rfl inG8 0 (by decide) wd73 rfl rfl dX9_drops_39 ?_
        refine lv_iload_n hx hb dX9_drops_42 rfl (lv_at hl 2 rfl) ?_
        refine lv_iconst (v := 4) hx hb dX9_drops_43 (by decide) ?_
        refine lv_iadd hx hb dX9_drops_44 ?_
        obtain ⟨v6, hv6, hf⟩ := bnd hf
        refine aw_iald C0 hW kd71 ln71 hv6 dX9_drops_45 ?_
        obtain ⟨I7, hI7, hf⟩ := bnd hf
        refine aw_iast C0 hW kd71 ln71 hI7 dX9_drops_46 (fun H locs hW => ?_)
        refine lv_iinc (k := 2) (v := w3 + 1) (lv' := [(3, .int (w3 + 1)), (0, .ref (g.2.2 + 70)), (1, .int x1)]) hx hb dX9_drops_47 hl rfl (congrArg (fun t => w3 + t) (by decide : Int32.ofInt 1 = 1)) (Nat.le_of_ble_eq_true rfl) rfl (fun ls hl => ?_)
        refine lv_goto (tgt := 19) hx hb dX9_drops_50 rfl ?_
        exact ih _ _ H locs ls o hf hW (lv_sub hl [1, 2, 0] rfl) hK
  unfold f_X9_drops at hf
  obtain ⟨H, hH⟩ : ∃ H, H = s.heap := ⟨_, rfl⟩
  obtain ⟨locs, hlc⟩ : ∃ q : List Loc, q = [] := ⟨_, rfl⟩
  rw [show W p0 l e rmX9_drops s m args below meth c s.heap [] 0 0 (MQ below (QV g z R P Z) args s 0 0 (AA g)) (F0 m 0 ls []) = W p0 l e rmX9_drops s m args below meth c H locs 0 0 (MQ below (QV g z R P Z) args s 0 0 (AA g)) (F0 m 0 ls []) by rw [hH, hlc]]
  have hW : Wd g I R P Z s.heap H locs := by rw [hH, hlc]; exact hW
  refine lv_aload_n hx hb dX9_drops_0 rfl (lv_at hl 0 rfl) ?_
  refine aw_get (v := .ref (g.2.2 + 71)) C0 hW (lv_fix (by decide)) (cel_8 kd70) rfl inG8 0 (by decide) wd73 rfl rfl dX9_drops_1 ?_
  refine lv_iconst (v := 0) hx hb dX9_drops_4 (by decide) ?_
  refine lv_iload_n hx hb dX9_drops_5 rfl (lv_at hl 1 rfl) ?_
  refine lv_iadd hx hb dX9_drops_6 ?_
  refine lv_dup2_11 hx hb dX9_drops_7 rfl rfl ?_
  obtain ⟨v1, hv1, hf⟩ := bnd hf
  refine aw_iald C0 hW kd71 ln71 hv1 dX9_drops_8 ?_
  refine lv_iconst (v := 1) hx hb dX9_drops_9 (by decide) ?_
  refine lv_isub hx hb dX9_drops_10 ?_
  obtain ⟨I2, hI2, hf⟩ := bnd hf
  refine aw_iast C0 hW kd71 ln71 hI2 dX9_drops_11 (fun H locs hW => ?_)
  refine lv_iload_n hx hb dX9_drops_12 rfl (lv_at hl 1 rfl) ?_
  refine lv_iload_n hx hb dX9_drops_13 rfl (lv_at hl 2 rfl) ?_
  refine lv_iconst (v := 0) hx hb dX9_drops_14 (by decide) ?_
  obtain ⟨q3, hq3, hf⟩ := bnd hf
  refine aw_cSi (rest := []) C0 hW (c_X9_at x1 x2 0  hq3) (cw_X9_58 hts ⟨Nat.le_of_ble_eq_true rfl, Nat.le_of_ble_eq_true rfl⟩) rfl hl.1 rfl (Nat.le_of_ble_eq_true rfl) ⟨Nat.zero_le _, Nat.zero_le _⟩ dX9_drops_15 (fun H locs hW => ?_)
  refine lv_istore_n (lv' := [(3, .int q3), (0, .ref (g.2.2 + 70)), (1, .int x1), (2, .int x2)]) hx hb dX9_drops_18 rfl hl (Nat.le_of_ble_eq_true rfl) rfl (fun ls hl => ?_)
  obtain ⟨q8, hq8, hf⟩ := bnd hf
  refine L19  fuel q3 I2 H locs ls _ hq8 hW (lv_sub hl [1, 2, 0] rfl) (fun H locs ls hW hl => ?_)
  have hz := Option.some.inj hf
  exact aw_vret C0 hW hz rfl dX9_drops_53
theorem cw_X9_138 {Rm : Room} {s : State} {args : Array Value} (ht : ∀ w ∈ GT, w.before args s = true) (hR : rmX9_drops.frames + 1 ≤ Rm.frames ∧ 8 + (4 + 11) + rmX9_drops.locals ≤ Rm.locals) : CallW Rm s args RX9 RX9 138 yX9_drops cX9_drops 4 none (Cond.code yX9_drops cX9_drops 4 none :: GT) rmX9_drops 0 0 2 := cwV 2 ht (goodV wd647 wd648 wd649 wd607 wd650) rfl rfl rfl ⟨rfl, by decide +kernel, by decide +kernel, by decide +kernel⟩ hR
def f_X9_drop (x1 : Int32) (x2 : Int32) (P : Pool) (I : Mem) : Option (Int32 × Mem) :=
  (f_X9_isRow x1 x2 ((up I 70 7 0))).bind fun q1 =>
  if q1 = 0 then (
    (f_X9_refuses 1 ((up I 70 7 0))).bind fun q5 =>
    some (q5.1, q5.2)
  ) else (
    (f_X9_saves P ((up I 70 7 0))).bind fun q2 =>
    (f_X9_drops x1 x2 q2).bind fun q3 =>
    (f_X9_many x1 q3).bind fun q4 =>
    some (q4, q3)
  )
abbrev rmX9_drop : Room := { frames := 3, cells := 0, slots := 0, locals := 64 }
set_option maxHeartbeats 4000000 in
set_option maxRecDepth 100000 in
theorem c_X9_drop {l : Launch} {g : Gam} {I : Mem} {R : Rem} {P : Pool} {Z : Zed} (x1 : Int32) (x2 : Int32)  {z : Int32 × Mem} (hf : f_X9_drop x1 x2 P I = some z) : Met l yX9_drop (Cond.code yX9_drop cX9_drop 3 (some .int) :: GT) rmX9_drop (va_Pc [.ref (g.2.2 + 70), .int x1, .int x2] (PW g I R P Z)) (QI g z.1 z.2 R P Z) 0 0 (AA g) := by
  refine aw_ofW (lv0 := [(0, .ref (g.2.2 + 70)), (1, .int x1), (2, .int x2)]) (by decide) (by exact Nat.le_of_ble_eq_true rfl) (by rfl) (fun p0 e s m args below meth c ls C0 hl hW => ?_)
  have C0 : CX g p0 s m args meth c RX9 cX9_drop 3 (some .int) := C0
  have hx := C0.1; have hb := C0.2.1; have hown := C0.2.2.2.2.1; have hts := C0.2.2.2.2.2.1; have hKS := C0.2.2.2.2.2.2.1
  unfold f_X9_drop at hf
  obtain ⟨H, hH⟩ : ∃ H, H = s.heap := ⟨_, rfl⟩
  obtain ⟨locs, hlc⟩ : ∃ q : List Loc, q = [] := ⟨_, rfl⟩
  rw [show W p0 l e rmX9_drop s m args below meth c s.heap [] 0 0 (MQ below (QI g z.1 z.2 R P Z) args s 0 0 (AA g)) (F0 m 0 ls []) = W p0 l e rmX9_drop s m args below meth c H locs 0 0 (MQ below (QI g z.1 z.2 R P Z) args s 0 0 (AA g)) (F0 m 0 ls []) by rw [hH, hlc]]
  have hW : Wd g I R P Z s.heap H locs := by rw [hH, hlc]; exact hW
  refine lv_aload_n hx hb dX9_drop_0 rfl (lv_at hl 0 rfl) ?_
  refine lv_iconst (v := 0) hx hb dX9_drop_1 (by decide) ?_
  refine aw_put C0 hW (lv_fix (by decide)) (cel_8 kd70) rfl inG8 tyX9 tyX9_ok nmX9 7 (by decide) wd79 rfl rfl (ty := .int) rfl rfl rfl (Nat.le_of_ble_eq_true rfl) (pu_8_7 kd70) dX9_drop_2 (fun H locs hW => ?_)
  refine lv_aload_n hx hb dX9_drop_5 rfl (lv_at hl 0 rfl) ?_
  refine lv_iload_n hx hb dX9_drop_6 rfl (lv_at hl 1 rfl) ?_
  refine lv_iload_n hx hb dX9_drop_7 rfl (lv_at hl 2 rfl) ?_
  obtain ⟨q1, hq1, hf⟩ := bnd hf
  refine aw_cVi (rest := []) C0 hW (lv_fix (by decide)) (cel_8 kd70) rfl (c_X9_isRow x1 x2  hq1) (cw_X9_132 hts ⟨Nat.le_of_ble_eq_true rfl, Nat.le_of_ble_eq_true rfl⟩) rfl hl.1 rfl (Nat.le_of_ble_eq_true rfl) ⟨Nat.zero_le _, Nat.zero_le _⟩ dX9_drop_8 (fun H locs hW => ?_)
  refine lv_if_ne (tgt := 20) hx hb dX9_drop_11 rfl (fun hc => ?_) (fun hc => ?_)
  · have hf := iff_ hc hf
    refine lv_aload_n hx hb dX9_drop_20 rfl (lv_at hl 0 rfl) ?_
    obtain ⟨q2, hq2, hf⟩ := bnd hf
    refine aw_cVv (rest := []) C0 hW (lv_fix (by decide)) (cel_8 kd70) rfl (c_X9_saves  hq2) (cw_X9_125 hts ⟨Nat.le_of_ble_eq_true rfl, Nat.le_of_ble_eq_true rfl⟩) rfl hl.1 rfl (Nat.le_of_ble_eq_true rfl) ⟨Nat.zero_le _, Nat.zero_le _⟩ dX9_drop_21 (fun H locs hW => ?_)
    refine lv_aload_n hx hb dX9_drop_24 rfl (lv_at hl 0 rfl) ?_
    refine lv_iload_n hx hb dX9_drop_25 rfl (lv_at hl 1 rfl) ?_
    refine lv_iload_n hx hb dX9_drop_26 rfl (lv_at hl 2 rfl) ?_
    obtain ⟨q3, hq3, hf⟩ := bnd hf
    refine aw_cVv (rest := []) C0 hW (lv_fix (by decide)) (cel_8 kd70) rfl (c_X9_drops x1 x2  hq3) (cw_X9_138 hts ⟨Nat.le_of_ble_eq_true rfl, Nat.le_of_ble_eq_true rfl⟩) rfl hl.1 rfl (Nat.le_of_ble_eq_true rfl) ⟨Nat.zero_le _, Nat.zero_le _⟩ dX9_drop_27 (fun H locs hW => ?_)
    refine lv_aload_n hx hb dX9_drop_30 rfl (lv_at hl 0 rfl) ?_
    refine lv_iload_n hx hb dX9_drop_31 rfl (lv_at hl 1 rfl) ?_
    obtain ⟨q4, hq4, hf⟩ := bnd hf
    refine aw_cVi (rest := []) C0 hW (lv_fix (by decide)) (cel_8 kd70) rfl (c_X9_many x1  hq4) (cw_X9_70 hts ⟨Nat.le_of_ble_eq_true rfl, Nat.le_of_ble_eq_true rfl⟩) rfl hl.1 rfl (Nat.le_of_ble_eq_true rfl) ⟨Nat.zero_le _, Nat.zero_le _⟩ dX9_drop_32 (fun H locs hW => ?_)
    have hz := Option.some.inj hf
    have hzV := congrArg (fun z : Int32 × Mem => z.1) hz
    have hzI := congrArg (fun z : Int32 × Mem => z.2) hz
    exact aw_iret C0 hW hzV hzI rfl dX9_drop_35
  · have hf := ift hc hf
    refine lv_aload_n hx hb dX9_drop_14 rfl (lv_at hl 0 rfl) ?_
    refine lv_iconst (v := 1) hx hb dX9_drop_15 (by decide) ?_
    obtain ⟨q5, hq5, hf⟩ := bnd hf
    refine aw_cVi (rest := []) C0 hW (lv_fix (by decide)) (cel_8 kd70) rfl (c_X9_refuses 1  hq5) (cw_X9_119 hts ⟨Nat.le_of_ble_eq_true rfl, Nat.le_of_ble_eq_true rfl⟩) rfl hl.1 rfl (Nat.le_of_ble_eq_true rfl) ⟨Nat.zero_le _, Nat.zero_le _⟩ dX9_drop_16 (fun H locs hW => ?_)
    have hz := Option.some.inj hf
    have hzV := congrArg (fun z : Int32 × Mem => z.1) hz
    have hzI := congrArg (fun z : Int32 × Mem => z.2) hz
    exact aw_iret C0 hW hzV hzI rfl dX9_drop_19
def f_X9_filter (x1 : Int32) (x2 : Int32) (I : Mem) : Option (Int32 × Mem) :=
  (f_X9_isSlot x1).bind fun q1 =>
  if q1 = 0 then (
    (f_X9_refuses 1 ((up I 70 7 0))).bind fun q6 =>
    some (q6.1, q6.2)
  ) else (
    (f_X9_in x2 0 4).bind fun q2 =>
    if q2 = 0 then (
      (f_X9_refuses 2 ((up I 70 7 0))).bind fun q5 =>
      some (q5.1, q5.2)
    ) else (
      (f_X9_parts x1 ((up I 70 7 0))).bind fun q3 =>
      if q3 = 0 then (
        some ((-2), (up I 70 7 0))
      ) else (
        (f_X9_aboutFilter x1 x2 ((up I 70 7 0))).bind fun q4 =>
        some (q4.1, q4.2)
      )
    )
  )
abbrev rmX9_filter : Room := { frames := 5, cells := 0, slots := 0, locals := 115 }
set_option maxHeartbeats 4000000 in
set_option maxRecDepth 100000 in
theorem c_X9_filter {l : Launch} {g : Gam} {I : Mem} {R : Rem} {P : Pool} {Z : Zed} (x1 : Int32) (x2 : Int32)  {z : Int32 × Mem} (hf : f_X9_filter x1 x2 I = some z) : Met l yX9_filter (Cond.code yX9_filter cX9_filter 3 (some .int) :: GT) rmX9_filter (va_Pc [.ref (g.2.2 + 70), .int x1, .int x2] (PW g I R P Z)) (QI g z.1 z.2 R P Z) 0 0 (AA g) := by
  refine aw_ofW (lv0 := [(0, .ref (g.2.2 + 70)), (1, .int x1), (2, .int x2)]) (by decide) (by exact Nat.le_of_ble_eq_true rfl) (by rfl) (fun p0 e s m args below meth c ls C0 hl hW => ?_)
  have C0 : CX g p0 s m args meth c RX9 cX9_filter 3 (some .int) := C0
  have hx := C0.1; have hb := C0.2.1; have hown := C0.2.2.2.2.1; have hts := C0.2.2.2.2.2.1; have hKS := C0.2.2.2.2.2.2.1
  unfold f_X9_filter at hf
  obtain ⟨H, hH⟩ : ∃ H, H = s.heap := ⟨_, rfl⟩
  obtain ⟨locs, hlc⟩ : ∃ q : List Loc, q = [] := ⟨_, rfl⟩
  rw [show W p0 l e rmX9_filter s m args below meth c s.heap [] 0 0 (MQ below (QI g z.1 z.2 R P Z) args s 0 0 (AA g)) (F0 m 0 ls []) = W p0 l e rmX9_filter s m args below meth c H locs 0 0 (MQ below (QI g z.1 z.2 R P Z) args s 0 0 (AA g)) (F0 m 0 ls []) by rw [hH, hlc]]
  have hW : Wd g I R P Z s.heap H locs := by rw [hH, hlc]; exact hW
  refine lv_aload_n hx hb dX9_filter_0 rfl (lv_at hl 0 rfl) ?_
  refine lv_iconst (v := 0) hx hb dX9_filter_1 (by decide) ?_
  refine aw_put C0 hW (lv_fix (by decide)) (cel_8 kd70) rfl inG8 tyX9 tyX9_ok nmX9 7 (by decide) wd79 rfl rfl (ty := .int) rfl rfl rfl (Nat.le_of_ble_eq_true rfl) (pu_8_7 kd70) dX9_filter_2 (fun H locs hW => ?_)
  refine lv_iload_n hx hb dX9_filter_5 rfl (lv_at hl 1 rfl) ?_
  obtain ⟨q1, hq1, hf⟩ := bnd hf
  refine aw_cSi (rest := []) C0 hW (c_X9_isSlot x1  hq1) (cw_X9_147 hts ⟨Nat.le_of_ble_eq_true rfl, Nat.le_of_ble_eq_true rfl⟩) rfl hl.1 rfl (Nat.le_of_ble_eq_true rfl) ⟨Nat.zero_le _, Nat.zero_le _⟩ dX9_filter_6 (fun H locs hW => ?_)
  refine lv_if_ne (tgt := 18) hx hb dX9_filter_9 rfl (fun hc => ?_) (fun hc => ?_)
  · have hf := iff_ hc hf
    refine lv_iload_n hx hb dX9_filter_18 rfl (lv_at hl 2 rfl) ?_
    refine lv_iconst (v := 0) hx hb dX9_filter_19 (by decide) ?_
    refine lv_iconst (v := 4) hx hb dX9_filter_20 (by decide) ?_
    obtain ⟨q2, hq2, hf⟩ := bnd hf
    refine aw_cSi (rest := []) C0 hW (c_X9_in x2 0 4  hq2) (cw_X9_62 hts ⟨Nat.le_of_ble_eq_true rfl, Nat.le_of_ble_eq_true rfl⟩) rfl hl.1 rfl (Nat.le_of_ble_eq_true rfl) ⟨Nat.zero_le _, Nat.zero_le _⟩ dX9_filter_21 (fun H locs hW => ?_)
    refine lv_if_ne (tgt := 33) hx hb dX9_filter_24 rfl (fun hc => ?_) (fun hc => ?_)
    · have hf := iff_ hc hf
      refine lv_aload_n hx hb dX9_filter_33 rfl (lv_at hl 0 rfl) ?_
      refine lv_iload_n hx hb dX9_filter_34 rfl (lv_at hl 1 rfl) ?_
      obtain ⟨q3, hq3, hf⟩ := bnd hf
      refine aw_cVi (rest := []) C0 hW (lv_fix (by decide)) (cel_8 kd70) rfl (c_X9_parts x1  hq3) (cw_X9_92 hts ⟨Nat.le_of_ble_eq_true rfl, Nat.le_of_ble_eq_true rfl⟩) rfl hl.1 rfl (Nat.le_of_ble_eq_true rfl) ⟨Nat.zero_le _, Nat.zero_le _⟩ dX9_filter_35 (fun H locs hW => ?_)
      refine lv_if_ne (tgt := 46) hx hb dX9_filter_38 rfl (fun hc => ?_) (fun hc => ?_)
      · have hf := iff_ hc hf
        refine lv_aload_n hx hb dX9_filter_46 rfl (lv_at hl 0 rfl) ?_
        refine lv_iload_n hx hb dX9_filter_47 rfl (lv_at hl 1 rfl) ?_
        refine lv_iload_n hx hb dX9_filter_48 rfl (lv_at hl 2 rfl) ?_
        obtain ⟨q4, hq4, hf⟩ := bnd hf
        refine aw_cVi (rest := []) C0 hW (lv_fix (by decide)) (cel_8 kd70) rfl (c_X9_aboutFilter x1 x2  hq4) (cw_X9_289 hts ⟨Nat.le_of_ble_eq_true rfl, Nat.le_of_ble_eq_true rfl⟩) rfl hl.1 rfl (Nat.le_of_ble_eq_true rfl) ⟨Nat.zero_le _, Nat.zero_le _⟩ dX9_filter_49 (fun H locs hW => ?_)
        have hz := Option.some.inj hf
        have hzV := congrArg (fun z : Int32 × Mem => z.1) hz
        have hzI := congrArg (fun z : Int32 × Mem => z.2) hz
        exact aw_iret C0 hW hzV hzI rfl dX9_filter_52
      · have hf := ift hc hf
        refine lv_bipush (v := (-2)) hx hb dX9_filter_41 (by decide) ?_
        refine lv_goto (tgt := 52) hx hb dX9_filter_43 rfl ?_
        have hz := Option.some.inj hf
        have hzV := congrArg (fun z : Int32 × Mem => z.1) hz
        have hzI := congrArg (fun z : Int32 × Mem => z.2) hz
        exact aw_iret C0 hW hzV hzI rfl dX9_filter_52
    · have hf := ift hc hf
      refine lv_aload_n hx hb dX9_filter_27 rfl (lv_at hl 0 rfl) ?_
      refine lv_iconst (v := 2) hx hb dX9_filter_28 (by decide) ?_
      obtain ⟨q5, hq5, hf⟩ := bnd hf
      refine aw_cVi (rest := []) C0 hW (lv_fix (by decide)) (cel_8 kd70) rfl (c_X9_refuses 2  hq5) (cw_X9_119 hts ⟨Nat.le_of_ble_eq_true rfl, Nat.le_of_ble_eq_true rfl⟩) rfl hl.1 rfl (Nat.le_of_ble_eq_true rfl) ⟨Nat.zero_le _, Nat.zero_le _⟩ dX9_filter_29 (fun H locs hW => ?_)
      have hz := Option.some.inj hf
      have hzV := congrArg (fun z : Int32 × Mem => z.1) hz
      have hzI := congrArg (fun z : Int32 × Mem => z.2) hz
      exact aw_iret C0 hW hzV hzI rfl dX9_filter_32
  · have hf := ift hc hf
    refine lv_aload_n hx hb dX9_filter_12 rfl (lv_at hl 0 rfl) ?_
    refine lv_iconst (v := 1) hx hb dX9_filter_13 (by decide) ?_
    obtain ⟨q6, hq6, hf⟩ := bnd hf
    refine aw_cVi (rest := []) C0 hW (lv_fix (by decide)) (cel_8 kd70) rfl (c_X9_refuses 1  hq6) (cw_X9_119 hts ⟨Nat.le_of_ble_eq_true rfl, Nat.le_of_ble_eq_true rfl⟩) rfl hl.1 rfl (Nat.le_of_ble_eq_true rfl) ⟨Nat.zero_le _, Nat.zero_le _⟩ dX9_filter_14 (fun H locs hW => ?_)
    have hz := Option.some.inj hf
    have hzV := congrArg (fun z : Int32 × Mem => z.1) hz
    have hzI := congrArg (fun z : Int32 × Mem => z.2) hz
    exact aw_iret C0 hW hzV hzI rfl dX9_filter_17
def f_X9_firstError (I : Mem) : Option (Int32 × Mem) :=
  (f_X9_isWhole ((up I 70 7 0))).bind fun q1 =>
  if q1.1 = 0 then (
    some (q1.2 70 14, q1.2)
  ) else (
    some (q1.2 70 6, q1.2)
  )
abbrev rmX9_firstError : Room := { frames := 6, cells := 0, slots := 0, locals := 132 }
set_option maxHeartbeats 4000000 in
set_option maxRecDepth 100000 in
theorem c_X9_firstError {l : Launch} {g : Gam} {I : Mem} {R : Rem} {P : Pool} {Z : Zed}   {z : Int32 × Mem} (hf : f_X9_firstError I = some z) : Met l yX9_firstError (Cond.code yX9_firstError cX9_firstError 1 (some .int) :: GT) rmX9_firstError (va_Pc [.ref (g.2.2 + 70)] (PW g I R P Z)) (QI g z.1 z.2 R P Z) 0 0 (AA g) := by
  refine aw_ofW (lv0 := [(0, .ref (g.2.2 + 70))]) (by decide) (by exact Nat.le_of_ble_eq_true rfl) (by rfl) (fun p0 e s m args below meth c ls C0 hl hW => ?_)
  have C0 : CX g p0 s m args meth c RX9 cX9_firstError 1 (some .int) := C0
  have hx := C0.1; have hb := C0.2.1; have hown := C0.2.2.2.2.1; have hts := C0.2.2.2.2.2.1; have hKS := C0.2.2.2.2.2.2.1
  unfold f_X9_firstError at hf
  obtain ⟨H, hH⟩ : ∃ H, H = s.heap := ⟨_, rfl⟩
  obtain ⟨locs, hlc⟩ : ∃ q : List Loc, q = [] := ⟨_, rfl⟩
  rw [show W p0 l e rmX9_firstError s m args below meth c s.heap [] 0 0 (MQ below (QI g z.1 z.2 R P Z) args s 0 0 (AA g)) (F0 m 0 ls []) = W p0 l e rmX9_firstError s m args below meth c H locs 0 0 (MQ below (QI g z.1 z.2 R P Z) args s 0 0 (AA g)) (F0 m 0 ls []) by rw [hH, hlc]]
  have hW : Wd g I R P Z s.heap H locs := by rw [hH, hlc]; exact hW
  refine lv_aload_n hx hb dX9_firstError_0 rfl (lv_at hl 0 rfl) ?_
  refine lv_iconst (v := 0) hx hb dX9_firstError_1 (by decide) ?_
  refine aw_put C0 hW (lv_fix (by decide)) (cel_8 kd70) rfl inG8 tyX9 tyX9_ok nmX9 7 (by decide) wd79 rfl rfl (ty := .int) rfl rfl rfl (Nat.le_of_ble_eq_true rfl) (pu_8_7 kd70) dX9_firstError_2 (fun H locs hW => ?_)
  refine lv_aload_n hx hb dX9_firstError_5 rfl (lv_at hl 0 rfl) ?_
  obtain ⟨q1, hq1, hf⟩ := bnd hf
  refine aw_cVi (rest := []) C0 hW (lv_fix (by decide)) (cel_8 kd70) rfl (c_X9_isWhole  hq1) (cw_X9_150 hts ⟨Nat.le_of_ble_eq_true rfl, Nat.le_of_ble_eq_true rfl⟩) rfl hl.1 rfl (Nat.le_of_ble_eq_true rfl) ⟨Nat.zero_le _, Nat.zero_le _⟩ dX9_firstError_6 (fun H locs hW => ?_)
  refine lv_if_eq (tgt := 19) hx hb dX9_firstError_9 rfl (fun hc => ?_) (fun hc => ?_)
  · have hf := ift hc hf
    refine lv_aload_n hx hb dX9_firstError_19 rfl (lv_at hl 0 rfl) ?_
    refine aw_get (v := .int (q1.2 70 14)) C0 hW (lv_fix (by decide)) (cel_8 kd70) rfl inG8 14 (by decide) wd86 rfl rfl dX9_firstError_20 ?_
    have hz := Option.some.inj hf
    have hzV := congrArg (fun z : Int32 × Mem => z.1) hz
    have hzI := congrArg (fun z : Int32 × Mem => z.2) hz
    exact aw_iret C0 hW hzV hzI rfl dX9_firstError_23
  · have hf := iff_ hc hf
    refine lv_aload_n hx hb dX9_firstError_12 rfl (lv_at hl 0 rfl) ?_
    refine aw_get (v := .int (q1.2 70 6)) C0 hW (lv_fix (by decide)) (cel_8 kd70) rfl inG8 6 (by decide) wd84 rfl rfl dX9_firstError_13 ?_
    refine lv_goto (tgt := 23) hx hb dX9_firstError_16 rfl ?_
    have hz := Option.some.inj hf
    have hzV := congrArg (fun z : Int32 × Mem => z.1) hz
    have hzI := congrArg (fun z : Int32 × Mem => z.2) hz
    exact aw_iret C0 hW hzV hzI rfl dX9_firstError_23
def f_X9_goBack (x1 : Int32) (P : Pool) (I : Mem) : Option (Int32 × Mem) :=
  (f_X9_in x1 0 1).bind fun q1 =>
  if q1 = 0 then (
    (f_X9_refuses 1 ((up I 70 7 0))).bind fun q7 =>
    some (q7.1, q7.2)
  ) else (
    (rd (up I 70 7 0) 74 2 x1).bind fun v2 =>
    if v2 = 0 then (
      (f_X9_refuses 2 ((up I 70 7 0))).bind fun q6 =>
      some (q6.1, q6.2)
    ) else (
      (f_X9_saves P ((up I 70 7 0))).bind fun q3 =>
      (f_X9_lays 73 (619 * x1) 71 0 P q3).bind fun q4 =>
      (f_X9_allRows q4).bind fun q5 =>
      some (q5, q4)
    )
  )
abbrev rmX9_goBack : Room := { frames := 2, cells := 0, slots := 0, locals := 45 }
set_option maxHeartbeats 4000000 in
set_option maxRecDepth 100000 in
theorem c_X9_goBack {l : Launch} {g : Gam} {I : Mem} {R : Rem} {P : Pool} {Z : Zed} (x1 : Int32)  {z : Int32 × Mem} (hf : f_X9_goBack x1 P I = some z) : Met l yX9_goBack (Cond.code yX9_goBack cX9_goBack 2 (some .int) :: GT) rmX9_goBack (va_Pc [.ref (g.2.2 + 70), .int x1] (PW g I R P Z)) (QI g z.1 z.2 R P Z) 0 0 (AA g) := by
  refine aw_ofW (lv0 := [(0, .ref (g.2.2 + 70)), (1, .int x1)]) (by decide) (by exact Nat.le_of_ble_eq_true rfl) (by rfl) (fun p0 e s m args below meth c ls C0 hl hW => ?_)
  have C0 : CX g p0 s m args meth c RX9 cX9_goBack 2 (some .int) := C0
  have hx := C0.1; have hb := C0.2.1; have hown := C0.2.2.2.2.1; have hts := C0.2.2.2.2.2.1; have hKS := C0.2.2.2.2.2.2.1
  unfold f_X9_goBack at hf
  obtain ⟨H, hH⟩ : ∃ H, H = s.heap := ⟨_, rfl⟩
  obtain ⟨locs, hlc⟩ : ∃ q : List Loc, q = [] := ⟨_, rfl⟩
  rw [show W p0 l e rmX9_goBack s m args below meth c s.heap [] 0 0 (MQ below (QI g z.1 z.2 R P Z) args s 0 0 (AA g)) (F0 m 0 ls []) = W p0 l e rmX9_goBack s m args below meth c H locs 0 0 (MQ below (QI g z.1 z.2 R P Z) args s 0 0 (AA g)) (F0 m 0 ls []) by rw [hH, hlc]]
  have hW : Wd g I R P Z s.heap H locs := by rw [hH, hlc]; exact hW
  refine lv_aload_n hx hb dX9_goBack_0 rfl (lv_at hl 0 rfl) ?_
  refine lv_iconst (v := 0) hx hb dX9_goBack_1 (by decide) ?_
  refine aw_put C0 hW (lv_fix (by decide)) (cel_8 kd70) rfl inG8 tyX9 tyX9_ok nmX9 7 (by decide) wd79 rfl rfl (ty := .int) rfl rfl rfl (Nat.le_of_ble_eq_true rfl) (pu_8_7 kd70) dX9_goBack_2 (fun H locs hW => ?_)
  refine lv_iload_n hx hb dX9_goBack_5 rfl (lv_at hl 1 rfl) ?_
  refine lv_iconst (v := 0) hx hb dX9_goBack_6 (by decide) ?_
  refine lv_iconst (v := 1) hx hb dX9_goBack_7 (by decide) ?_
  obtain ⟨q1, hq1, hf⟩ := bnd hf
  refine aw_cSi (rest := []) C0 hW (c_X9_in x1 0 1  hq1) (cw_X9_62 hts ⟨Nat.le_of_ble_eq_true rfl, Nat.le_of_ble_eq_true rfl⟩) rfl hl.1 rfl (Nat.le_of_ble_eq_true rfl) ⟨Nat.zero_le _, Nat.zero_le _⟩ dX9_goBack_8 (fun H locs hW => ?_)
  refine lv_if_ne (tgt := 20) hx hb dX9_goBack_11 rfl (fun hc => ?_) (fun hc => ?_)
  · have hf := iff_ hc hf
    refine lv_aload_n hx hb dX9_goBack_20 rfl (lv_at hl 0 rfl) ?_
    refine aw_get (v := .ref (g.2.2 + 74)) C0 hW (lv_fix (by decide)) (cel_8 kd70) rfl inG8 4 (by decide) wd92 rfl rfl dX9_goBack_21 ?_
    refine lv_iload_n hx hb dX9_goBack_24 rfl (lv_at hl 1 rfl) ?_
    obtain ⟨v2, hv2, hf⟩ := bnd hf
    refine aw_zald C0 hW kd74 ln74 hv2 dX9_goBack_25 ?_
    refine lv_if_ne (tgt := 35) hx hb dX9_goBack_26 rfl (fun hc => ?_) (fun hc => ?_)
    · have hf := iff_ hc hf
      refine lv_aload_n hx hb dX9_goBack_35 rfl (lv_at hl 0 rfl) ?_
      obtain ⟨q3, hq3, hf⟩ := bnd hf
      refine aw_cVv (rest := []) C0 hW (lv_fix (by decide)) (cel_8 kd70) rfl (c_X9_saves  hq3) (cw_X9_125 hts ⟨Nat.le_of_ble_eq_true rfl, Nat.le_of_ble_eq_true rfl⟩) rfl hl.1 rfl (Nat.le_of_ble_eq_true rfl) ⟨Nat.zero_le _, Nat.zero_le _⟩ dX9_goBack_36 (fun H locs hW => ?_)
      refine lv_aload_n hx hb dX9_goBack_39 rfl (lv_at hl 0 rfl) ?_
      refine aw_get (v := .ref (g.2.2 + 73)) C0 hW (lv_fix (by decide)) (cel_8 kd70) rfl inG8 3 (by decide) wd93 rfl rfl dX9_goBack_40 ?_
      refine lv_sipush (v := 619) hx hb dX9_goBack_43 (by decide) ?_
      refine lv_iload_n hx hb dX9_goBack_46 rfl (lv_at hl 1 rfl) ?_
      refine lv_imul hx hb dX9_goBack_47 ?_
      refine lv_aload_n hx hb dX9_goBack_48 rfl (lv_at hl 0 rfl) ?_
      refine aw_get (v := .ref (g.2.2 + 71)) C0 hW (lv_fix (by decide)) (cel_8 kd70) rfl inG8 0 (by decide) wd73 rfl rfl dX9_goBack_49 ?_
      refine lv_iconst (v := 0) hx hb dX9_goBack_52 (by decide) ?_
      obtain ⟨q4, hq4, hf⟩ := bnd hf
      refine aw_cSv (rest := []) C0 hW (c_X9_lays 73 (619 * x1) 71 0 kd73 kd71 hq4) (cw_X9_54 hts ⟨Nat.le_of_ble_eq_true rfl, Nat.le_of_ble_eq_true rfl⟩) rfl hl.1 rfl (Nat.le_of_ble_eq_true rfl) ⟨Nat.zero_le _, Nat.zero_le _⟩ dX9_goBack_53 (fun H locs hW => ?_)
      refine lv_aload_n hx hb dX9_goBack_56 rfl (lv_at hl 0 rfl) ?_
      obtain ⟨q5, hq5, hf⟩ := bnd hf
      refine aw_cVi (rest := []) C0 hW (lv_fix (by decide)) (cel_8 kd70) rfl (c_X9_allRows  hq5) (cw_X9_221 hts ⟨Nat.le_of_ble_eq_true rfl, Nat.le_of_ble_eq_true rfl⟩) rfl hl.1 rfl (Nat.le_of_ble_eq_true rfl) ⟨Nat.zero_le _, Nat.zero_le _⟩ dX9_goBack_57 (fun H locs hW => ?_)
      have hz := Option.some.inj hf
      have hzV := congrArg (fun z : Int32 × Mem => z.1) hz
      have hzI := congrArg (fun z : Int32 × Mem => z.2) hz
      exact aw_iret C0 hW hzV hzI rfl dX9_goBack_60
    · have hf := ift hc hf
      refine lv_aload_n hx hb dX9_goBack_29 rfl (lv_at hl 0 rfl) ?_
      refine lv_iconst (v := 2) hx hb dX9_goBack_30 (by decide) ?_
      obtain ⟨q6, hq6, hf⟩ := bnd hf
      refine aw_cVi (rest := []) C0 hW (lv_fix (by decide)) (cel_8 kd70) rfl (c_X9_refuses 2  hq6) (cw_X9_119 hts ⟨Nat.le_of_ble_eq_true rfl, Nat.le_of_ble_eq_true rfl⟩) rfl hl.1 rfl (Nat.le_of_ble_eq_true rfl) ⟨Nat.zero_le _, Nat.zero_le _⟩ dX9_goBack_31 (fun H locs hW => ?_)
      have hz := Option.some.inj hf
      have hzV := congrArg (fun z : Int32 × Mem => z.1) hz
      have hzI := congrArg (fun z : Int32 × Mem => z.2) hz
      exact aw_iret C0 hW hzV hzI rfl dX9_goBack_34
  · have hf := ift hc hf
    refine lv_aload_n hx hb dX9_goBack_14 rfl (lv_at hl 0 rfl) ?_
    refine lv_iconst (v := 1) hx hb dX9_goBack_15 (by decide) ?_
    obtain ⟨q7, hq7, hf⟩ := bnd hf
    refine aw_cVi (rest := []) C0 hW (lv_fix (by decide)) (cel_8 kd70) rfl (c_X9_refuses 1  hq7) (cw_X9_119 hts ⟨Nat.le_of_ble_eq_true rfl, Nat.le_of_ble_eq_true rfl⟩) rfl hl.1 rfl (Nat.le_of_ble_eq_true rfl) ⟨Nat.zero_le _, Nat.zero_le _⟩ dX9_goBack_16 (fun H locs hW => ?_)
    have hz := Option.some.inj hf
    have hzV := congrArg (fun z : Int32 × Mem => z.1) hz
    have hzI := congrArg (fun z : Int32 × Mem => z.2) hz
    exact aw_iret C0 hW hzV hzI rfl dX9_goBack_19
def f_X9_group (x1 : Int32) (x2 : Int32) (x3 : Int32) (x4 : Int32) (I : Mem) : Option (Int32 × Mem) :=
  (f_X9_isTable x1).bind fun q1 =>
  if q1 = 0 then (
    (f_X9_refuses 1 ((up I 70 7 0))).bind fun q2 =>
    some (q2.1, q2.2)
  ) else (
    (f_X9_isColumn x2).bind fun q3 =>
    if q3 = 0 then (
      (f_X9_refuses 1 ((up I 70 7 0))).bind fun q8 =>
      some (q8.1, q8.2)
    ) else (
      if x3 < 0 then (
        (f_X9_refuses 2 ((up I 70 7 0))).bind fun q4 =>
        some (q4.1, q4.2)
      ) else (
        (f_X9_in x4 0 7).bind fun q5 =>
        if q5 = 0 then (
          (f_X9_refuses 2 ((up I 70 7 0))).bind fun q6 =>
          some (q6.1, q6.2)
        ) else (
          (f_X9_aboutGroup x1 x2 x3 x4 ((up I 70 7 0))).bind fun q7 =>
          some (q7, (up I 70 7 0))
        )
      )
    )
  )
abbrev rmX9_group : Room := { frames := 6, cells := 0, slots := 0, locals := 145 }
set_option maxHeartbeats 4000000 in
set_option maxRecDepth 100000 in
theorem c_X9_group {l : Launch} {g : Gam} {I : Mem} {R : Rem} {P : Pool} {Z : Zed} (x1 : Int32) (x2 : Int32) (x3 : Int32) (x4 : Int32)  {z : Int32 × Mem} (hf : f_X9_group x1 x2 x3 x4 I = some z) : Met l yX9_group (Cond.code yX9_group cX9_group 5 (some .int) :: GT) rmX9_group (va_Pc [.ref (g.2.2 + 70), .int x1, .int x2, .int x3, .int x4] (PW g I R P Z)) (QI g z.1 z.2 R P Z) 0 0 (AA g) := by
  refine aw_ofW (lv0 := [(0, .ref (g.2.2 + 70)), (1, .int x1), (2, .int x2), (3, .int x3), (4, .int x4)]) (by decide) (by exact Nat.le_of_ble_eq_true rfl) (by rfl) (fun p0 e s m args below meth c ls C0 hl hW => ?_)
  have C0 : CX g p0 s m args meth c RX9 cX9_group 5 (some .int) := C0
  have hx := C0.1; have hb := C0.2.1; have hown := C0.2.2.2.2.1; have hts := C0.2.2.2.2.2.1; have hKS := C0.2.2.2.2.2.2.1
  unfold f_X9_group at hf
  obtain ⟨H, hH⟩ : ∃ H, H = s.heap := ⟨_, rfl⟩
  obtain ⟨locs, hlc⟩ : ∃ q : List Loc, q = [] := ⟨_, rfl⟩
  rw [show W p0 l e rmX9_group s m args below meth c s.heap [] 0 0 (MQ below (QI g z.1 z.2 R P Z) args s 0 0 (AA g)) (F0 m 0 ls []) = W p0 l e rmX9_group s m args below meth c H locs 0 0 (MQ below (QI g z.1 z.2 R P Z) args s 0 0 (AA g)) (F0 m 0 ls []) by rw [hH, hlc]]
  have hW : Wd g I R P Z s.heap H locs := by rw [hH, hlc]; exact hW
  refine lv_aload_n hx hb dX9_group_0 rfl (lv_at hl 0 rfl) ?_
  refine lv_iconst (v := 0) hx hb dX9_group_1 (by decide) ?_
  refine aw_put C0 hW (lv_fix (by decide)) (cel_8 kd70) rfl inG8 tyX9 tyX9_ok nmX9 7 (by decide) wd79 rfl rfl (ty := .int) rfl rfl rfl (Nat.le_of_ble_eq_true rfl) (pu_8_7 kd70) dX9_group_2 (fun H locs hW => ?_)
  refine lv_iload_n hx hb dX9_group_5 rfl (lv_at hl 1 rfl) ?_
  obtain ⟨q1, hq1, hf⟩ := bnd hf
  refine aw_cSi (rest := []) C0 hW (c_X9_isTable x1  hq1) (cw_X9_66 hts ⟨Nat.le_of_ble_eq_true rfl, Nat.le_of_ble_eq_true rfl⟩) rfl hl.1 rfl (Nat.le_of_ble_eq_true rfl) ⟨Nat.zero_le _, Nat.zero_le _⟩ dX9_group_6 (fun H locs hW => ?_)
  refine lv_if_eq (tgt := 19) hx hb dX9_group_9 rfl (fun hc => ?_) (fun hc => ?_)
  · have hf := ift hc hf
    refine lv_aload_n hx hb dX9_group_19 rfl (lv_at hl 0 rfl) ?_
    refine lv_iconst (v := 1) hx hb dX9_group_20 (by decide) ?_
    obtain ⟨q2, hq2, hf⟩ := bnd hf
    refine aw_cVi (rest := []) C0 hW (lv_fix (by decide)) (cel_8 kd70) rfl (c_X9_refuses 1  hq2) (cw_X9_119 hts ⟨Nat.le_of_ble_eq_true rfl, Nat.le_of_ble_eq_true rfl⟩) rfl hl.1 rfl (Nat.le_of_ble_eq_true rfl) ⟨Nat.zero_le _, Nat.zero_le _⟩ dX9_group_21 (fun H locs hW => ?_)
    have hz := Option.some.inj hf
    have hzV := congrArg (fun z : Int32 × Mem => z.1) hz
    have hzI := congrArg (fun z : Int32 × Mem => z.2) hz
    exact aw_iret C0 hW hzV hzI rfl dX9_group_24
  · have hf := iff_ hc hf
    refine lv_iload_n hx hb dX9_group_12 rfl (lv_at hl 2 rfl) ?_
    obtain ⟨q3, hq3, hf⟩ := bnd hf
    refine aw_cSi (rest := []) C0 hW (c_X9_isColumn x2  hq3) (cw_X9_135 hts ⟨Nat.le_of_ble_eq_true rfl, Nat.le_of_ble_eq_true rfl⟩) rfl hl.1 rfl (Nat.le_of_ble_eq_true rfl) ⟨Nat.zero_le _, Nat.zero_le _⟩ dX9_group_13 (fun H locs hW => ?_)
    refine lv_if_ne (tgt := 25) hx hb dX9_group_16 rfl (fun hc => ?_) (fun hc => ?_)
    · have hf := iff_ hc hf
      refine lv_iload_n hx hb dX9_group_25 rfl (lv_at hl 3 rfl) ?_
      refine lv_if_lt (tgt := 52) hx hb dX9_group_26 rfl (fun hc => ?_) (fun hc => ?_)
      · have hf := ift hc hf
        refine lv_aload_n hx hb dX9_group_52 rfl (lv_at hl 0 rfl) ?_
        refine lv_iconst (v := 2) hx hb dX9_group_53 (by decide) ?_
        obtain ⟨q4, hq4, hf⟩ := bnd hf
        refine aw_cVi (rest := []) C0 hW (lv_fix (by decide)) (cel_8 kd70) rfl (c_X9_refuses 2  hq4) (cw_X9_119 hts ⟨Nat.le_of_ble_eq_true rfl, Nat.le_of_ble_eq_true rfl⟩) rfl hl.1 rfl (Nat.le_of_ble_eq_true rfl) ⟨Nat.zero_le _, Nat.zero_le _⟩ dX9_group_54 (fun H locs hW => ?_)
        have hz := Option.some.inj hf
        have hzV := congrArg (fun z : Int32 × Mem => z.1) hz
        have hzI := congrArg (fun z : Int32 × Mem => z.2) hz
        exact aw_iret C0 hW hzV hzI rfl dX9_group_57
      · have hf := iff_ hc hf
        refine lv_iload hx hb dX9_group_29 (lv_at hl 4 rfl) ?_
        refine lv_iconst (v := 0) hx hb dX9_group_31 (by decide) ?_
        refine lv_bipush (v := 7) hx hb dX9_group_32 (by decide) ?_
        obtain ⟨q5, hq5, hf⟩ := bnd hf
        refine aw_cSi (rest := []) C0 hW (c_X9_in x4 0 7  hq5) (cw_X9_62 hts ⟨Nat.le_of_ble_eq_true rfl, Nat.le_of_ble_eq_true rfl⟩) rfl hl.1 rfl (Nat.le_of_ble_eq_true rfl) ⟨Nat.zero_le _, Nat.zero_le _⟩ dX9_group_34 (fun H locs hW => ?_)
        refine lv_if_eq (tgt := 52) hx hb dX9_group_37 rfl (fun hc => ?_) (fun hc => ?_)
        · have hf := ift hc hf
          refine lv_aload_n hx hb dX9_group_52 rfl (lv_at hl 0 rfl) ?_
          refine lv_iconst (v := 2) hx hb dX9_group_53 (by decide) ?_
          obtain ⟨q6, hq6, hf⟩ := bnd hf
          refine aw_cVi (rest := []) C0 hW (lv_fix (by decide)) (cel_8 kd70) rfl (c_X9_refuses 2  hq6) (cw_X9_119 hts ⟨Nat.le_of_ble_eq_true rfl, Nat.le_of_ble_eq_true rfl⟩) rfl hl.1 rfl (Nat.le_of_ble_eq_true rfl) ⟨Nat.zero_le _, Nat.zero_le _⟩ dX9_group_54 (fun H locs hW => ?_)
          have hz := Option.some.inj hf
          have hzV := congrArg (fun z : Int32 × Mem => z.1) hz
          have hzI := congrArg (fun z : Int32 × Mem => z.2) hz
          exact aw_iret C0 hW hzV hzI rfl dX9_group_57
        · have hf := iff_ hc hf
          refine lv_aload_n hx hb dX9_group_40 rfl (lv_at hl 0 rfl) ?_
          refine lv_iload_n hx hb dX9_group_41 rfl (lv_at hl 1 rfl) ?_
          refine lv_iload_n hx hb dX9_group_42 rfl (lv_at hl 2 rfl) ?_
          refine lv_iload_n hx hb dX9_group_43 rfl (lv_at hl 3 rfl) ?_
          refine lv_iload hx hb dX9_group_44 (lv_at hl 4 rfl) ?_
          obtain ⟨q7, hq7, hf⟩ := bnd hf
          refine aw_cVi (rest := []) C0 hW (lv_fix (by decide)) (cel_8 kd70) rfl (c_X9_aboutGroup x1 x2 x3 x4  hq7) (cw_X9_252 hts ⟨Nat.le_of_ble_eq_true rfl, Nat.le_of_ble_eq_true rfl⟩) rfl hl.1 rfl (Nat.le_of_ble_eq_true rfl) ⟨Nat.zero_le _, Nat.zero_le _⟩ dX9_group_46 (fun H locs hW => ?_)
          refine lv_goto (tgt := 57) hx hb dX9_group_49 rfl ?_
          have hz := Option.some.inj hf
          have hzV := congrArg (fun z : Int32 × Mem => z.1) hz
          have hzI := congrArg (fun z : Int32 × Mem => z.2) hz
          exact aw_iret C0 hW hzV hzI rfl dX9_group_57
    · have hf := ift hc hf
      refine lv_aload_n hx hb dX9_group_19 rfl (lv_at hl 0 rfl) ?_
      refine lv_iconst (v := 1) hx hb dX9_group_20 (by decide) ?_
      obtain ⟨q8, hq8, hf⟩ := bnd hf
      refine aw_cVi (rest := []) C0 hW (lv_fix (by decide)) (cel_8 kd70) rfl (c_X9_refuses 1  hq8) (cw_X9_119 hts ⟨Nat.le_of_ble_eq_true rfl, Nat.le_of_ble_eq_true rfl⟩) rfl hl.1 rfl (Nat.le_of_ble_eq_true rfl) ⟨Nat.zero_le _, Nat.zero_le _⟩ dX9_group_21 (fun H locs hW => ?_)
      have hz := Option.some.inj hf
      have hzV := congrArg (fun z : Int32 × Mem => z.1) hz
      have hzI := congrArg (fun z : Int32 × Mem => z.2) hz
      exact aw_iret C0 hW hzV hzI rfl dX9_group_24
def f_X9_pair_L6 (x1 : Int32) (x2 : Int32) (x3 : Int32) (I : Mem) : Nat → Int32 → Int32 → Option ((Int32) ⊕ (Unit))
  | 0, _, _ => none
  | n + 1, w4, w5 =>
    (f_X9_many 0 I).bind fun q1 =>
    (f_X9_many 1 I).bind fun q2 =>
    if (q1 * q2) ≤ w5 then (
      some (.inr ())
    ) else (
      (f_X9_many 1 I).bind fun q3 =>
      if q3 = 0 then none else
      (f_X9_many 1 I).bind fun q4 =>
      if q4 = 0 then none else
      (f_X9_arePartners (w5 / q3) (w5 - w5 / q4 * q4) x1 x2 I).bind fun q5 =>
      if q5 = 0 then (
        f_X9_pair_L6 x1 x2 x3 I n w4 (w5 + 1)
      ) else (
        if w4 = x3 then (
          some (.inl ((100 * (w5 / q3)) + (w5 - w5 / q4 * q4)))
        ) else (
          f_X9_pair_L6 x1 x2 x3 I n (w4 + 1) (w5 + 1)
        )
      )
    )
def f_X9_pair (x1 : Int32) (x2 : Int32) (x3 : Int32) (I : Mem) : Option (Int32) :=
  (f_X9_pair_L6 x1 x2 x3 I fuel 0 0).bind fun q6 =>
  sm q6 (fun r => some r) fun q7 =>
  some ((-2))
abbrev rmX9_pair : Room := { frames := 3, cells := 0, slots := 0, locals := 70 }
set_option maxHeartbeats 4000000 in
set_option maxRecDepth 100000 in
theorem c_X9_pair {l : Launch} {g : Gam} {I : Mem} {R : Rem} {P : Pool} {Z : Zed} (x1 : Int32) (x2 : Int32) (x3 : Int32)  {z : Int32} (hf : f_X9_pair x1 x2 x3 I = some z) : Met l yX9_pair (Cond.code yX9_pair cX9_pair 8 (some .int) :: GT) rmX9_pair (va_Pc [.ref (g.2.2 + 70), .int x1, .int x2, .int x3] (PW g I R P Z)) (QI g z I R P Z) 0 0 (AA g) := by
  refine aw_ofW (lv0 := [(0, .ref (g.2.2 + 70)), (1, .int x1), (2, .int x2), (3, .int x3)]) (by decide) (by exact Nat.le_of_ble_eq_true rfl) (by rfl) (fun p0 e s m args below meth c ls C0 hl hW => ?_)
  have C0 : CX g p0 s m args meth c RX9 cX9_pair 8 (some .int) := C0
  have hx := C0.1; have hb := C0.2.1; have hown := C0.2.2.2.2.1; have hts := C0.2.2.2.2.2.1; have hKS := C0.2.2.2.2.2.2.1
  have L6 : ∀ (I : Mem) (n : Nat) (w4 : Int32) (w5 : Int32) (H : Heap) (locs : List Loc) (ls : Array Slot) (o : (Int32) ⊕ (Unit)), f_X9_pair_L6 x1 x2 x3 I n w4 w5 = some o → Wd g I R P Z s.heap H locs → lv_has ls 8 [(0, .ref (g.2.2 + 70)), (1, .int x1), (2, .int x2), (3, .int x3), (4, .int w4), (5, .int w5)] → (∀ q, o = .inr q → ∀ (H : Heap) (locs : List Loc) (ls : Array Slot), Wd g I R P Z s.heap H locs → lv_has ls 8 [] → W p0 l e rmX9_pair s m args below meth c H locs 0 0 (MQ below (QI g z I R P Z) args s 0 0 (AA g)) (F0 m 79 ls [])) → (∀ r, o = .inl r → r = z) → W p0 l e rmX9_pair s m args below meth c H locs 0 0 (MQ below (QI g z I R P Z) args s 0 0 (AA g)) (F0 m 6 ls []) := by
    intro I n
    induction n with
    | zero => intro w4 w5 H locs ls o hf; cases hf
    | succ n ih =>
      intro w4 w5 H locs ls o hf hW hl hK hZ
      rw [f_X9_pair_L6] at hf
      refine lv_iload hx hb dX9_pair_6 (lv_at hl 5 rfl) ?_
      refine lv_aload_n hx hb dX9_pair_8 rfl (lv_at hl 0 rfl) ?_
      refine lv_iconst (v := 0) hx hb dX9_pair_9 (by decide) ?_
      obtain ⟨q1, hq1, hf⟩ := bnd hf
      refine aw_cVi (rest := [.int w5]) C0 hW (lv_fix (by decide)) (cel_8 kd70) rfl (c_X9_many 0  hq1) (cw_X9_70 hts ⟨Nat.le_of_ble_eq_true rfl, Nat.le_of_ble_eq_true rfl⟩) rfl hl.1 rfl (Nat.le_of_ble_eq_true rfl) ⟨Nat.zero_le _, Nat.zero_le _⟩ dX9_pair_10 (fun H locs hW => ?_)
      refine lv_aload_n hx hb dX9_pair_13 rfl (lv_at hl 0 rfl) ?_
      refine lv_iconst (v := 1) hx hb dX9_pair_14 (by decide) ?_
      obtain ⟨q2, hq2, hf⟩ := bnd hf
      refine aw_cVi (rest := [.int q1, .int w5]) C0 hW (lv_fix (by decide)) (cel_8 kd70) rfl (c_X9_many 1  hq2) (cw_X9_70 hts ⟨Nat.le_of_ble_eq_true rfl, Nat.le_of_ble_eq_true rfl⟩) rfl hl.1 rfl (Nat.le_of_ble_eq_true rfl) ⟨Nat.zero_le _, Nat.zero_le _⟩ dX9_pair_15 (fun H locs hW => ?_)
      refine lv_imul hx hb dX9_pair_18 ?_
      refine lv_icmp_ge (tgt := 79) hx hb dX9_pair_19 rfl (fun hc => ?_) (fun hc => ?_)
      · have hf := ift hc hf
        have ho := Option.some.inj hf
        subst ho
        exact hK _ rfl H locs ls hW (lv_sub hl [] rfl)
      · have hf := iff_ hc hf
        refine lv_iload hx hb dX9_pair_22 (lv_at hl 5 rfl) ?_
        refine lv_aload_n hx hb dX9_pair_24 rfl (lv_at hl 0 rfl) ?_
        refine lv_iconst (v := 1) hx hb dX9_pair_25 (by decide) ?_
        obtain ⟨q3, hq3, hf⟩ := bnd hf
        refine aw_cVi (rest := [.int w5]) C0 hW (lv_fix (by decide)) (cel_8 kd70) rfl (c_X9_many 1  hq3) (cw_X9_70 hts ⟨Nat.le_of_ble_eq_true rfl, Nat.le_of_ble_eq_true rfl⟩) rfl hl.1 rfl (Nat.le_of_ble_eq_true rfl) ⟨Nat.zero_le _, Nat.zero_le _⟩ dX9_pair_26 (fun H locs hW => ?_)
        obtain ⟨hd0, hf⟩ := ifz hf
        refine lv_idiv hx hb dX9_pair_29 hd0 ?_
        refine lv_istore (lv' := [(6, .int (w5 / q3)), (0, .ref (g.2.2 + 70)), (1, .int x1), (2, .int x2), (3, .int x3), (4, .int w4), (5, .int w5)]) hx hb dX9_pair_30 hl (Nat.le_of_ble_eq_true rfl) rfl (fun ls hl => ?_)
        refine lv_iload hx hb dX9_pair_32 (lv_at hl 6 rfl) ?_
        refine lv_aload_n hx hb dX9_pair_34 rfl (lv_at hl 1 rfl) ?_
        refine lv_iconst (v := 1) hx hb dX9_pair_35 (by decide) ?_
        obtain ⟨q4, hq4, hf⟩ := bnd hf
        refine aw_cVi (rest := [.int w5]) C0 hW (lv_fix (by decide)) (cel_8 kd70) rfl (c_X9_many 1  hq4) (cw_X9_70 hts ⟨Nat.le_of_ble_eq_true rfl, Nat.le_of_ble_eq_true rfl⟩) rfl hl.1 rfl (Nat.le_of_ble_eq_true rfl) ⟨Nat.zero_le _, Nat.zero_le _⟩ dX9_pair_36 (fun H locs hW => ?_)
        obtain ⟨hd0, hf⟩ := ifz hf
        refine lv_irem hx hb dX9_pair_39 hd0 ?_
        refine lv_istore (lv' := [(7, .int (w5 - w5 / q4 * q4)), (6, .int (w5 / q3)), (0, .ref (g.2.2 + 70)), (1, .int x1), (2, .int x2), (3, .int x3), (4, .int w4), (5, .int w5)]) hx hb dX9_pair_40 hl (Nat.le_of_ble_eq_true rfl) rfl (fun ls hl => ?_)
        refine lv_aload_n hx hb dX9_pair_42 rfl (lv_at hl 2 rfl) ?_
        refine lv_iload hx hb dX9_pair_43 (lv_at hl 1 rfl) ?_
        refine lv_iload hx hb dX9_pair_45 (lv_at hl 0 rfl) ?_
        refine lv_iload_n hx hb dX9_pair_47 rfl (lv_at hl 3 rfl) ?_
        refine lv_iload_n hx hb dX9_pair_48 rfl (lv_at hl 4 rfl) ?_
        obtain ⟨q5, hq5, hf⟩ := bnd hf
        refine aw_cVi (rest := []) C0 hW (lv_fix (by decide)) (cel_8 kd70) rfl (c_X9_arePartners (w5 / q3) (w5 - w5 / q4 * q4) x1 x2  hq5) (cw_X9_298 hts ⟨Nat.le_of_ble_eq_true rfl, Nat.le_of_ble_eq_true rfl⟩) rfl hl.1 rfl (Nat.le_of_ble_eq_true rfl) ⟨Nat.zero_le _, Nat.zero_le _⟩ dX9_pair_49 (fun H locs hW => ?_)
        refine lv_if_eq (tgt := 73) hx hb dX9_pair_52 rfl (fun hc => ?_) (fun hc => ?_)
        · have hf := ift hc hf
          refine lv_iinc (k := 7) (v := w5 + 1) (lv' := [(5, .int (w5 + 1)), (7, .int (w5 - w5 / q4 * q4)), (6, .int (w5 / q3)), (0, .ref (g.2.2 + 70)), (1, .int x1), (2, .int x2), (3, .int x3), (4, .int w4)]) hx hb dX9_pair_73 hl rfl (congrArg (fun t => w5 + t) (by decide : Int32.ofInt 1 = 1)) (Nat.le_of_ble_eq_true rfl) rfl (fun ls hl => ?_)
          refine lv_goto (tgt := 6) hx hb dX9_pair_76 rfl ?_
          exact ih _ _ H locs ls o hf hW (lv_sub hl [3, 4, 5, 6, 7, 0] rfl) hK hZ
        · have hf := iff_ hc hf
          refine lv_iload hx hb dX9_pair_55 (lv_at hl 6 rfl) ?_
          refine lv_iload_n hx hb dX9_pair_57 rfl (lv_at hl 5 rfl) ?_
          refine lv_icmp_ne (tgt := 70) hx hb dX9_pair_58 rfl (fun hc => ?_) (fun hc => ?_)
          · have hf := iff_ hc hf
            refine lv_iinc (k := 6) (v := w4 + 1) (lv' := [(4, .int (w4 + 1)), (7, .int (w5 - w5 / q4 * q4)), (6, .int (w5 / q3)), (0, .ref (g.2.2 + 70)), (1, .int x1), (2, .int x2), (3, .int x3), (5, .int w5)]) hx hb dX9_pair_70 hl rfl (congrArg (fun t => w4 + t) (by decide : Int32.ofInt 1 = 1)) (Nat.le_of_ble_eq_true rfl) rfl (fun ls hl => ?_)
            refine lv_iinc (k := 7) (v := w5 + 1) (lv' := [(5, .int (w5 + 1)), (4, .int (w4 + 1)), (7, .int (w5 - w5 / q4 * q4)), (6, .int (w5 / q3)), (0, .ref (g.2.2 + 70)), (1, .int x1), (2, .int x2), (3, .int x3)]) hx hb dX9_pair_73 hl rfl (congrArg (fun t => w5 + t) (by decide : Int32.ofInt 1 = 1)) (Nat.le_of_ble_eq_true rfl) rfl (fun ls hl => ?_)
            refine lv_goto (tgt := 6) hx hb dX9_pair_76 rfl ?_
            exact ih _ _ H locs ls o hf hW (lv_sub hl [4, 5, 6, 7, 1, 0] rfl) hK hZ
          · have hf := ift hc hf
            refine lv_bipush (v := 100) hx hb dX9_pair_61 (by decide) ?_
            refine lv_iload hx hb dX9_pair_63 (lv_at hl 1 rfl) ?_
            refine lv_imul hx hb dX9_pair_65 ?_
            refine lv_iload hx hb dX9_pair_66 (lv_at hl 0 rfl) ?_
            refine lv_iadd hx hb dX9_pair_68 ?_
            have hz := hZ _ (Option.some.inj hf).symm
            exact aw_iret C0 hW hz rfl rfl dX9_pair_69
  unfold f_X9_pair at hf
  obtain ⟨H, hH⟩ : ∃ H, H = s.heap := ⟨_, rfl⟩
  obtain ⟨locs, hlc⟩ : ∃ q : List Loc, q = [] := ⟨_, rfl⟩
  rw [show W p0 l e rmX9_pair s m args below meth c s.heap [] 0 0 (MQ below (QI g z I R P Z) args s 0 0 (AA g)) (F0 m 0 ls []) = W p0 l e rmX9_pair s m args below meth c H locs 0 0 (MQ below (QI g z I R P Z) args s 0 0 (AA g)) (F0 m 0 ls []) by rw [hH, hlc]]
  have hW : Wd g I R P Z s.heap H locs := by rw [hH, hlc]; exact hW
  refine lv_iconst (v := 0) hx hb dX9_pair_0 (by decide) ?_
  refine lv_istore (lv' := [(4, .int 0), (0, .ref (g.2.2 + 70)), (1, .int x1), (2, .int x2), (3, .int x3)]) hx hb dX9_pair_1 hl (Nat.le_of_ble_eq_true rfl) rfl (fun ls hl => ?_)
  refine lv_iconst (v := 0) hx hb dX9_pair_3 (by decide) ?_
  refine lv_istore (lv' := [(5, .int 0), (4, .int 0), (0, .ref (g.2.2 + 70)), (1, .int x1), (2, .int x2), (3, .int x3)]) hx hb dX9_pair_4 hl (Nat.le_of_ble_eq_true rfl) rfl (fun ls hl => ?_)
  obtain ⟨q6, hq6, hf⟩ := bnd hf
  refine L6 I fuel 0 0 H locs ls _ hq6 hW (lv_sub hl [2, 3, 4, 5, 1, 0] rfl) (fun q7 eq7 H locs ls hW hl => ?_) (fun r er => ?_)
  rotate_left
  · rw [er] at hf
    exact Option.some.inj hf
  rw [eq7] at hf
  have hf := (sm_re hf)
  refine lv_bipush (v := (-2)) hx hb dX9_pair_79 (by decide) ?_
  have hz := Option.some.inj hf
  exact aw_iret C0 hW hz rfl rfl dX9_pair_81
theorem cw_X9_301 {Rm : Room} {s : State} {args : Array Value} (ht : ∀ w ∈ GT, w.before args s = true) (hR : rmX9_pair.frames + 1 ≤ Rm.frames ∧ 8 + (8 + 11) + rmX9_pair.locals ≤ Rm.locals) : CallW Rm s args RX9 RX9 301 yX9_pair cX9_pair 8 (some .int) (Cond.code yX9_pair cX9_pair 8 (some .int) :: GT) rmX9_pair 0 0 3 := cwV 3 ht (goodV wd832 wd833 wd834 wd607 wd835) rfl rfl rfl ⟨rfl, by decide +kernel, by decide +kernel, by decide +kernel⟩ hR
def f_X9_pairs_L2 (x1 : Int32) (x2 : Int32) (I : Mem) : Nat → Int32 → Option (Int32)
  | 0, _ => none
  | n + 1, w3 =>
    (f_X9_pair x1 x2 w3 I).bind fun q1 =>
    if q1 = ((-2)) then (
      some w3
    ) else (
      f_X9_pairs_L2 x1 x2 I n (w3 + 1)
    )
def f_X9_pairs (x1 : Int32) (x2 : Int32) (I : Mem) : Option (Int32) :=
  (f_X9_pairs_L2 x1 x2 I fuel 0).bind fun q2 =>
  some q2
abbrev rmX9_pairs : Room := { frames := 4, cells := 0, slots := 0, locals := 97 }
set_option maxHeartbeats 4000000 in
set_option maxRecDepth 100000 in
theorem c_X9_pairs {l : Launch} {g : Gam} {I : Mem} {R : Rem} {P : Pool} {Z : Zed} (x1 : Int32) (x2 : Int32)  {z : Int32} (hf : f_X9_pairs x1 x2 I = some z) : Met l yX9_pairs (Cond.code yX9_pairs cX9_pairs 4 (some .int) :: GT) rmX9_pairs (va_Pc [.ref (g.2.2 + 70), .int x1, .int x2] (PW g I R P Z)) (QI g z I R P Z) 0 0 (AA g) := by
  refine aw_ofW (lv0 := [(0, .ref (g.2.2 + 70)), (1, .int x1), (2, .int x2)]) (by decide) (by exact Nat.le_of_ble_eq_true rfl) (by rfl) (fun p0 e s m args below meth c ls C0 hl hW => ?_)
  have C0 : CX g p0 s m args meth c RX9 cX9_pairs 4 (some .int) := C0
  have hx := C0.1; have hb := C0.2.1; have hown := C0.2.2.2.2.1; have hts := C0.2.2.2.2.2.1; have hKS := C0.2.2.2.2.2.2.1
  have L2 : ∀ (I : Mem) (n : Nat) (w3 : Int32) (H : Heap) (locs : List Loc) (ls : Array Slot) (o : Int32), f_X9_pairs_L2 x1 x2 I n w3 = some o → Wd g I R P Z s.heap H locs → lv_has ls 4 [(0, .ref (g.2.2 + 70)), (1, .int x1), (2, .int x2), (3, .int w3)] → (∀ (H : Heap) (locs : List Loc) (ls : Array Slot), Wd g I R P Z s.heap H locs → lv_has ls 4 [(3, .int o)] → W p0 l e rmX9_pairs s m args below meth c H locs 0 0 (MQ below (QI g z I R P Z) args s 0 0 (AA g)) (F0 m 20 ls [])) → W p0 l e rmX9_pairs s m args below meth c H locs 0 0 (MQ below (QI g z I R P Z) args s 0 0 (AA g)) (F0 m 2 ls []) := by
    intro I n
    induction n with
    | zero => intro w3 H locs ls o hf; cases hf
    | succ n ih =>
      intro w3 H locs ls o hf hW hl hK
      rw [f_X9_pairs_L2] at hf
      refine lv_aload_n hx hb dX9_pairs_2 rfl (lv_at hl 0 rfl) ?_
      refine lv_iload_n hx hb dX9_pairs_3 rfl (lv_at hl 1 rfl) ?_
      refine lv_iload_n hx hb dX9_pairs_4 rfl (lv_at hl 2 rfl) ?_
      refine lv_iload_n hx hb dX9_pairs_5 rfl (lv_at hl 3 rfl) ?_
      obtain ⟨q1, hq1, hf⟩ := bnd hf
      refine aw_cVi (rest := []) C0 hW (lv_fix (by decide)) (cel_8 kd70) rfl (c_X9_pair x1 x2 w3  hq1) (cw_X9_301 hts ⟨Nat.le_of_ble_eq_true rfl, Nat.le_of_ble_eq_true rfl⟩) rfl hl.1 rfl (Nat.le_of_ble_eq_true rfl) ⟨Nat.zero_le _, Nat.zero_le _⟩ dX9_pairs_6 (fun H locs hW => ?_)
      refine lv_bipush (v := (-2)) hx hb dX9_pairs_9 (by decide) ?_
      refine lv_icmp_eq (tgt := 20) hx hb dX9_pairs_11 rfl (fun hc => ?_) (fun hc => ?_)
      · have hf := ift hc hf
        have ho := Option.some.inj hf
        subst ho
        exact hK H locs ls hW (lv_sub hl [3] rfl)
      · have hf := iff_ hc hf
        refine lv_iinc (k := 3) (v := w3 + 1) (lv' := [(3, .int (w3 + 1)), (0, .ref (g.2.2 + 70)), (1, .int x1), (2, .int x2)]) hx hb dX9_pairs_14 hl rfl (congrArg (fun t => w3 + t) (by decide : Int32.ofInt 1 = 1)) (Nat.le_of_ble_eq_true rfl) rfl (fun ls hl => ?_)
        refine lv_goto (tgt := 2) hx hb dX9_pairs_17 rfl ?_
        exact ih _ H locs ls o hf hW (lv_sub hl [1, 2, 3, 0] rfl) hK
  unfold f_X9_pairs at hf
  obtain ⟨H, hH⟩ : ∃ H, H = s.heap := ⟨_, rfl⟩
  obtain ⟨locs, hlc⟩ : ∃ q : List Loc, q = [] := ⟨_, rfl⟩
  rw [show W p0 l e rmX9_pairs s m args below meth c s.heap [] 0 0 (MQ below (QI g z I R P Z) args s 0 0 (AA g)) (F0 m 0 ls []) = W p0 l e rmX9_pairs s m args below meth c H locs 0 0 (MQ below (QI g z I R P Z) args s 0 0 (AA g)) (F0 m 0 ls []) by rw [hH, hlc]]
  have hW : Wd g I R P Z s.heap H locs := by rw [hH, hlc]; exact hW
  refine lv_iconst (v := 0) hx hb dX9_pairs_0 (by decide) ?_
  refine lv_istore_n (lv' := [(3, .int 0), (0, .ref (g.2.2 + 70)), (1, .int x1), (2, .int x2)]) hx hb dX9_pairs_1 rfl hl (Nat.le_of_ble_eq_true rfl) rfl (fun ls hl => ?_)
  obtain ⟨q2, hq2, hf⟩ := bnd hf
  refine L2 I fuel 0 H locs ls _ hq2 hW (lv_sub hl [1, 2, 3, 0] rfl) (fun H locs ls hW hl => ?_)
  refine lv_iload_n hx hb dX9_pairs_20 rfl (lv_at hl 0 rfl) ?_
  have hz := Option.some.inj hf
  exact aw_iret C0 hW hz rfl rfl dX9_pairs_21
theorem cw_X9_304 {Rm : Room} {s : State} {args : Array Value} (ht : ∀ w ∈ GT, w.before args s = true) (hR : rmX9_pairs.frames + 1 ≤ Rm.frames ∧ 8 + (4 + 11) + rmX9_pairs.locals ≤ Rm.locals) : CallW Rm s args RX9 RX9 304 yX9_pairs cX9_pairs 4 (some .int) (Cond.code yX9_pairs cX9_pairs 4 (some .int) :: GT) rmX9_pairs 0 0 2 := cwV 2 ht (goodV wd836 wd837 wd838 wd607 wd839) rfl rfl rfl ⟨rfl, by decide +kernel, by decide +kernel, by decide +kernel⟩ hR
def f_X9_join (x1 : Int32) (x2 : Int32) (x3 : Int32) (I : Mem) : Option (Int32 × Mem) :=
  (f_X9_isColumn x1).bind fun q1 =>
  if q1 = 0 then (
    (f_X9_refuses 1 ((up I 70 7 0))).bind fun q2 =>
    some (q2.1, q2.2)
  ) else (
    (f_X9_isColumn x2).bind fun q3 =>
    if q3 = 0 then (
      (f_X9_refuses 1 ((up I 70 7 0))).bind fun q8 =>
      some (q8.1, q8.2)
    ) else (
      if 0 ≤ x3 then (
        if x3 = 0 then (
          (f_X9_pairs x1 x2 ((up I 70 7 0))).bind fun q6 =>
          some (q6, (up I 70 7 0))
        ) else (
          if 3 ≤ x3 then (
            (f_X9_pair x1 x2 (x3 - 3) ((up I 70 7 0))).bind fun q4 =>
            some (q4, (up I 70 7 0))
          ) else (
            (f_X9_alone (x3 - 1) x1 x2 ((up I 70 7 0))).bind fun q5 =>
            some (q5, (up I 70 7 0))
          )
        )
      ) else (
        (f_X9_refuses 2 ((up I 70 7 0))).bind fun q7 =>
        some (q7.1, q7.2)
      )
    )
  )
abbrev rmX9_join : Room := { frames := 5, cells := 0, slots := 0, locals := 120 }
set_option maxHeartbeats 4000000 in
set_option maxRecDepth 100000 in
theorem c_X9_join {l : Launch} {g : Gam} {I : Mem} {R : Rem} {P : Pool} {Z : Zed} (x1 : Int32) (x2 : Int32) (x3 : Int32)  {z : Int32 × Mem} (hf : f_X9_join x1 x2 x3 I = some z) : Met l yX9_join (Cond.code yX9_join cX9_join 4 (some .int) :: GT) rmX9_join (va_Pc [.ref (g.2.2 + 70), .int x1, .int x2, .int x3] (PW g I R P Z)) (QI g z.1 z.2 R P Z) 0 0 (AA g) := by
  refine aw_ofW (lv0 := [(0, .ref (g.2.2 + 70)), (1, .int x1), (2, .int x2), (3, .int x3)]) (by decide) (by exact Nat.le_of_ble_eq_true rfl) (by rfl) (fun p0 e s m args below meth c ls C0 hl hW => ?_)
  have C0 : CX g p0 s m args meth c RX9 cX9_join 4 (some .int) := C0
  have hx := C0.1; have hb := C0.2.1; have hown := C0.2.2.2.2.1; have hts := C0.2.2.2.2.2.1; have hKS := C0.2.2.2.2.2.2.1
  unfold f_X9_join at hf
  obtain ⟨H, hH⟩ : ∃ H, H = s.heap := ⟨_, rfl⟩
  obtain ⟨locs, hlc⟩ : ∃ q : List Loc, q = [] := ⟨_, rfl⟩
  rw [show W p0 l e rmX9_join s m args below meth c s.heap [] 0 0 (MQ below (QI g z.1 z.2 R P Z) args s 0 0 (AA g)) (F0 m 0 ls []) = W p0 l e rmX9_join s m args below meth c H locs 0 0 (MQ below (QI g z.1 z.2 R P Z) args s 0 0 (AA g)) (F0 m 0 ls []) by rw [hH, hlc]]
  have hW : Wd g I R P Z s.heap H locs := by rw [hH, hlc]; exact hW
  refine lv_aload_n hx hb dX9_join_0 rfl (lv_at hl 0 rfl) ?_
  refine lv_iconst (v := 0) hx hb dX9_join_1 (by decide) ?_
  refine aw_put C0 hW (lv_fix (by decide)) (cel_8 kd70) rfl inG8 tyX9 tyX9_ok nmX9 7 (by decide) wd79 rfl rfl (ty := .int) rfl rfl rfl (Nat.le_of_ble_eq_true rfl) (pu_8_7 kd70) dX9_join_2 (fun H locs hW => ?_)
  refine lv_iload_n hx hb dX9_join_5 rfl (lv_at hl 1 rfl) ?_
  obtain ⟨q1, hq1, hf⟩ := bnd hf
  refine aw_cSi (rest := []) C0 hW (c_X9_isColumn x1  hq1) (cw_X9_135 hts ⟨Nat.le_of_ble_eq_true rfl, Nat.le_of_ble_eq_true rfl⟩) rfl hl.1 rfl (Nat.le_of_ble_eq_true rfl) ⟨Nat.zero_le _, Nat.zero_le _⟩ dX9_join_6 (fun H locs hW => ?_)
  refine lv_if_eq (tgt := 19) hx hb dX9_join_9 rfl (fun hc => ?_) (fun hc => ?_)
  · have hf := ift hc hf
    refine lv_aload_n hx hb dX9_join_19 rfl (lv_at hl 0 rfl) ?_
    refine lv_iconst (v := 1) hx hb dX9_join_20 (by decide) ?_
    obtain ⟨q2, hq2, hf⟩ := bnd hf
    refine aw_cVi (rest := []) C0 hW (lv_fix (by decide)) (cel_8 kd70) rfl (c_X9_refuses 1  hq2) (cw_X9_119 hts ⟨Nat.le_of_ble_eq_true rfl, Nat.le_of_ble_eq_true rfl⟩) rfl hl.1 rfl (Nat.le_of_ble_eq_true rfl) ⟨Nat.zero_le _, Nat.zero_le _⟩ dX9_join_21 (fun H locs hW => ?_)
    have hz := Option.some.inj hf
    have hzV := congrArg (fun z : Int32 × Mem => z.1) hz
    have hzI := congrArg (fun z : Int32 × Mem => z.2) hz
    exact aw_iret C0 hW hzV hzI rfl dX9_join_24
  · have hf := iff_ hc hf
    refine lv_iload_n hx hb dX9_join_12 rfl (lv_at hl 2 rfl) ?_
    obtain ⟨q3, hq3, hf⟩ := bnd hf
    refine aw_cSi (rest := []) C0 hW (c_X9_isColumn x2  hq3) (cw_X9_135 hts ⟨Nat.le_of_ble_eq_true rfl, Nat.le_of_ble_eq_true rfl⟩) rfl hl.1 rfl (Nat.le_of_ble_eq_true rfl) ⟨Nat.zero_le _, Nat.zero_le _⟩ dX9_join_13 (fun H locs hW => ?_)
    refine lv_if_ne (tgt := 25) hx hb dX9_join_16 rfl (fun hc => ?_) (fun hc => ?_)
    · have hf := iff_ hc hf
      refine lv_iload_n hx hb dX9_join_25 rfl (lv_at hl 3 rfl) ?_
      refine lv_if_ge (tgt := 35) hx hb dX9_join_26 rfl (fun hc => ?_) (fun hc => ?_)
      · have hf := ift hc hf
        refine lv_iload_n hx hb dX9_join_35 rfl (lv_at hl 3 rfl) ?_
        refine lv_if_ne (tgt := 48) hx hb dX9_join_36 rfl (fun hc => ?_) (fun hc => ?_)
        · have hf := iff_ hc hf
          refine lv_iload_n hx hb dX9_join_48 rfl (lv_at hl 3 rfl) ?_
          refine lv_iconst (v := 3) hx hb dX9_join_49 (by decide) ?_
          refine lv_icmp_ge (tgt := 65) hx hb dX9_join_50 rfl (fun hc => ?_) (fun hc => ?_)
          · have hf := ift hc hf
            refine lv_aload_n hx hb dX9_join_65 rfl (lv_at hl 0 rfl) ?_
            refine lv_iload_n hx hb dX9_join_66 rfl (lv_at hl 1 rfl) ?_
            refine lv_iload_n hx hb dX9_join_67 rfl (lv_at hl 2 rfl) ?_
            refine lv_iload_n hx hb dX9_join_68 rfl (lv_at hl 3 rfl) ?_
            refine lv_iconst (v := 3) hx hb dX9_join_69 (by decide) ?_
            refine lv_isub hx hb dX9_join_70 ?_
            obtain ⟨q4, hq4, hf⟩ := bnd hf
            refine aw_cVi (rest := []) C0 hW (lv_fix (by decide)) (cel_8 kd70) rfl (c_X9_pair x1 x2 (x3 - 3)  hq4) (cw_X9_301 hts ⟨Nat.le_of_ble_eq_true rfl, Nat.le_of_ble_eq_true rfl⟩) rfl hl.1 rfl (Nat.le_of_ble_eq_true rfl) ⟨Nat.zero_le _, Nat.zero_le _⟩ dX9_join_71 (fun H locs hW => ?_)
            have hz := Option.some.inj hf
            have hzV := congrArg (fun z : Int32 × Mem => z.1) hz
            have hzI := congrArg (fun z : Int32 × Mem => z.2) hz
            exact aw_iret C0 hW hzV hzI rfl dX9_join_74
          · have hf := iff_ hc hf
            refine lv_aload_n hx hb dX9_join_53 rfl (lv_at hl 0 rfl) ?_
            refine lv_iload_n hx hb dX9_join_54 rfl (lv_at hl 3 rfl) ?_
            refine lv_iconst (v := 1) hx hb dX9_join_55 (by decide) ?_
            refine lv_isub hx hb dX9_join_56 ?_
            refine lv_iload_n hx hb dX9_join_57 rfl (lv_at hl 1 rfl) ?_
            refine lv_iload_n hx hb dX9_join_58 rfl (lv_at hl 2 rfl) ?_
            obtain ⟨q5, hq5, hf⟩ := bnd hf
            refine aw_cVi (rest := []) C0 hW (lv_fix (by decide)) (cel_8 kd70) rfl (c_X9_alone (x3 - 1) x1 x2  hq5) (cw_X9_307 hts ⟨Nat.le_of_ble_eq_true rfl, Nat.le_of_ble_eq_true rfl⟩) rfl hl.1 rfl (Nat.le_of_ble_eq_true rfl) ⟨Nat.zero_le _, Nat.zero_le _⟩ dX9_join_59 (fun H locs hW => ?_)
            refine lv_goto (tgt := 74) hx hb dX9_join_62 rfl ?_
            have hz := Option.some.inj hf
            have hzV := congrArg (fun z : Int32 × Mem => z.1) hz
            have hzI := congrArg (fun z : Int32 × Mem => z.2) hz
            exact aw_iret C0 hW hzV hzI rfl dX9_join_74
        · have hf := ift hc hf
          refine lv_aload_n hx hb dX9_join_39 rfl (lv_at hl 0 rfl) ?_
          refine lv_iload_n hx hb dX9_join_40 rfl (lv_at hl 1 rfl) ?_
          refine lv_iload_n hx hb dX9_join_41 rfl (lv_at hl 2 rfl) ?_
          obtain ⟨q6, hq6, hf⟩ := bnd hf
          refine aw_cVi (rest := []) C0 hW (lv_fix (by decide)) (cel_8 kd70) rfl (c_X9_pairs x1 x2  hq6) (cw_X9_304 hts ⟨Nat.le_of_ble_eq_true rfl, Nat.le_of_ble_eq_true rfl⟩) rfl hl.1 rfl (Nat.le_of_ble_eq_true rfl) ⟨Nat.zero_le _, Nat.zero_le _⟩ dX9_join_42 (fun H locs hW => ?_)
          refine lv_goto (tgt := 74) hx hb dX9_join_45 rfl ?_
          have hz := Option.some.inj hf
          have hzV := congrArg (fun z : Int32 × Mem => z.1) hz
          have hzI := congrArg (fun z : Int32 × Mem => z.2) hz
          exact aw_iret C0 hW hzV hzI rfl dX9_join_74
      · have hf := iff_ hc hf
        refine lv_aload_n hx hb dX9_join_29 rfl (lv_at hl 0 rfl) ?_
        refine lv_iconst (v := 2) hx hb dX9_join_30 (by decide) ?_
        obtain ⟨q7, hq7, hf⟩ := bnd hf
        refine aw_cVi (rest := []) C0 hW (lv_fix (by decide)) (cel_8 kd70) rfl (c_X9_refuses 2  hq7) (cw_X9_119 hts ⟨Nat.le_of_ble_eq_true rfl, Nat.le_of_ble_eq_true rfl⟩) rfl hl.1 rfl (Nat.le_of_ble_eq_true rfl) ⟨Nat.zero_le _, Nat.zero_le _⟩ dX9_join_31 (fun H locs hW => ?_)
        have hz := Option.some.inj hf
        have hzV := congrArg (fun z : Int32 × Mem => z.1) hz
        have hzI := congrArg (fun z : Int32 × Mem => z.2) hz
        exact aw_iret C0 hW hzV hzI rfl dX9_join_34
    · have hf := ift hc hf
      refine lv_aload_n hx hb dX9_join_19 rfl (lv_at hl 0 rfl) ?_
      refine lv_iconst (v := 1) hx hb dX9_join_20 (by decide) ?_
      obtain ⟨q8, hq8, hf⟩ := bnd hf
      refine aw_cVi (rest := []) C0 hW (lv_fix (by decide)) (cel_8 kd70) rfl (c_X9_refuses 1  hq8) (cw_X9_119 hts ⟨Nat.le_of_ble_eq_true rfl, Nat.le_of_ble_eq_true rfl⟩) rfl hl.1 rfl (Nat.le_of_ble_eq_true rfl) ⟨Nat.zero_le _, Nat.zero_le _⟩ dX9_join_21 (fun H locs hW => ?_)
      have hz := Option.some.inj hf
      have hzV := congrArg (fun z : Int32 × Mem => z.1) hz
      have hzI := congrArg (fun z : Int32 × Mem => z.2) hz
      exact aw_iret C0 hW hzV hzI rfl dX9_join_24
def f_X9_keep (x1 : Int32) (P : Pool) (I : Mem) : Option (Int32 × Mem) :=
  (f_X9_in x1 0 1).bind fun q1 =>
  if q1 = 0 then (
    (f_X9_refuses 1 ((up I 70 7 0))).bind fun q5 =>
    some (q5.1, q5.2)
  ) else (
    (f_X9_lays 71 0 73 (619 * x1) P ((up I 70 7 0))).bind fun q2 =>
    (wr q2 74 2 x1 (vp_nar .boolean 1)).bind fun I3 =>
    (f_X9_allRows I3).bind fun q4 =>
    some (q4, I3)
  )
abbrev rmX9_keep : Room := { frames := 2, cells := 0, slots := 0, locals := 41 }
set_option maxHeartbeats 4000000 in
set_option maxRecDepth 100000 in
theorem c_X9_keep {l : Launch} {g : Gam} {I : Mem} {R : Rem} {P : Pool} {Z : Zed} (x1 : Int32)  {z : Int32 × Mem} (hf : f_X9_keep x1 P I = some z) : Met l yX9_keep (Cond.code yX9_keep cX9_keep 2 (some .int) :: GT) rmX9_keep (va_Pc [.ref (g.2.2 + 70), .int x1] (PW g I R P Z)) (QI g z.1 z.2 R P Z) 0 0 (AA g) := by
  refine aw_ofW (lv0 := [(0, .ref (g.2.2 + 70)), (1, .int x1)]) (by decide) (by exact Nat.le_of_ble_eq_true rfl) (by rfl) (fun p0 e s m args below meth c ls C0 hl hW => ?_)
  have C0 : CX g p0 s m args meth c RX9 cX9_keep 2 (some .int) := C0
  have hx := C0.1; have hb := C0.2.1; have hown := C0.2.2.2.2.1; have hts := C0.2.2.2.2.2.1; have hKS := C0.2.2.2.2.2.2.1
  unfold f_X9_keep at hf
  obtain ⟨H, hH⟩ : ∃ H, H = s.heap := ⟨_, rfl⟩
  obtain ⟨locs, hlc⟩ : ∃ q : List Loc, q = [] := ⟨_, rfl⟩
  rw [show W p0 l e rmX9_keep s m args below meth c s.heap [] 0 0 (MQ below (QI g z.1 z.2 R P Z) args s 0 0 (AA g)) (F0 m 0 ls []) = W p0 l e rmX9_keep s m args below meth c H locs 0 0 (MQ below (QI g z.1 z.2 R P Z) args s 0 0 (AA g)) (F0 m 0 ls []) by rw [hH, hlc]]
  have hW : Wd g I R P Z s.heap H locs := by rw [hH, hlc]; exact hW
  refine lv_aload_n hx hb dX9_keep_0 rfl (lv_at hl 0 rfl) ?_
  refine lv_iconst (v := 0) hx hb dX9_keep_1 (by decide) ?_
  refine aw_put C0 hW (lv_fix (by decide)) (cel_8 kd70) rfl inG8 tyX9 tyX9_ok nmX9 7 (by decide) wd79 rfl rfl (ty := .int) rfl rfl rfl (Nat.le_of_ble_eq_true rfl) (pu_8_7 kd70) dX9_keep_2 (fun H locs hW => ?_)
  refine lv_iload_n hx hb dX9_keep_5 rfl (lv_at hl 1 rfl) ?_
  refine lv_iconst (v := 0) hx hb dX9_keep_6 (by decide) ?_
  refine lv_iconst (v := 1) hx hb dX9_keep_7 (by decide) ?_
  obtain ⟨q1, hq1, hf⟩ := bnd hf
  refine aw_cSi (rest := []) C0 hW (c_X9_in x1 0 1  hq1) (cw_X9_62 hts ⟨Nat.le_of_ble_eq_true rfl, Nat.le_of_ble_eq_true rfl⟩) rfl hl.1 rfl (Nat.le_of_ble_eq_true rfl) ⟨Nat.zero_le _, Nat.zero_le _⟩ dX9_keep_8 (fun H locs hW => ?_)
  refine lv_if_ne (tgt := 20) hx hb dX9_keep_11 rfl (fun hc => ?_) (fun hc => ?_)
  · have hf := iff_ hc hf
    refine lv_aload_n hx hb dX9_keep_20 rfl (lv_at hl 0 rfl) ?_
    refine aw_get (v := .ref (g.2.2 + 71)) C0 hW (lv_fix (by decide)) (cel_8 kd70) rfl inG8 0 (by decide) wd73 rfl rfl dX9_keep_21 ?_
    refine lv_iconst (v := 0) hx hb dX9_keep_24 (by decide) ?_
    refine lv_aload_n hx hb dX9_keep_25 rfl (lv_at hl 0 rfl) ?_
    refine aw_get (v := .ref (g.2.2 + 73)) C0 hW (lv_fix (by decide)) (cel_8 kd70) rfl inG8 3 (by decide) wd93 rfl rfl dX9_keep_26 ?_
    refine lv_sipush (v := 619) hx hb dX9_keep_29 (by decide) ?_
    refine lv_iload_n hx hb dX9_keep_32 rfl (lv_at hl 1 rfl) ?_
    refine lv_imul hx hb dX9_keep_33 ?_
    obtain ⟨q2, hq2, hf⟩ := bnd hf
    refine aw_cSv (rest := []) C0 hW (c_X9_lays 71 0 73 (619 * x1) kd71 kd73 hq2) (cw_X9_54 hts ⟨Nat.le_of_ble_eq_true rfl, Nat.le_of_ble_eq_true rfl⟩) rfl hl.1 rfl (Nat.le_of_ble_eq_true rfl) ⟨Nat.zero_le _, Nat.zero_le _⟩ dX9_keep_34 (fun H locs hW => ?_)
    refine lv_aload_n hx hb dX9_keep_37 rfl (lv_at hl 0 rfl) ?_
    refine aw_get (v := .ref (g.2.2 + 74)) C0 hW (lv_fix (by decide)) (cel_8 kd70) rfl inG8 4 (by decide) wd92 rfl rfl dX9_keep_38 ?_
    refine lv_iload_n hx hb dX9_keep_41 rfl (lv_at hl 1 rfl) ?_
    refine lv_iconst (v := 1) hx hb dX9_keep_42 (by decide) ?_
    obtain ⟨I3, hI3, hf⟩ := bnd hf
    refine aw_zast C0 hW kd74 ln74 hI3 dX9_keep_43 (fun H locs hW => ?_)
    refine lv_aload_n hx hb dX9_keep_44 rfl (lv_at hl 0 rfl) ?_
    obtain ⟨q4, hq4, hf⟩ := bnd hf
    refine aw_cVi (rest := []) C0 hW (lv_fix (by decide)) (cel_8 kd70) rfl (c_X9_allRows  hq4) (cw_X9_221 hts ⟨Nat.le_of_ble_eq_true rfl, Nat.le_of_ble_eq_true rfl⟩) rfl hl.1 rfl (Nat.le_of_ble_eq_true rfl) ⟨Nat.zero_le _, Nat.zero_le _⟩ dX9_keep_45 (fun H locs hW => ?_)
    have hz := Option.some.inj hf
    have hzV := congrArg (fun z : Int32 × Mem => z.1) hz
    have hzI := congrArg (fun z : Int32 × Mem => z.2) hz
    exact aw_iret C0 hW hzV hzI rfl dX9_keep_48
  · have hf := ift hc hf
    refine lv_aload_n hx hb dX9_keep_14 rfl (lv_at hl 0 rfl) ?_
    refine lv_iconst (v := 1) hx hb dX9_keep_15 (by decide) ?_
    obtain ⟨q5, hq5, hf⟩ := bnd hf
    refine aw_cVi (rest := []) C0 hW (lv_fix (by decide)) (cel_8 kd70) rfl (c_X9_refuses 1  hq5) (cw_X9_119 hts ⟨Nat.le_of_ble_eq_true rfl, Nat.le_of_ble_eq_true rfl⟩) rfl hl.1 rfl (Nat.le_of_ble_eq_true rfl) ⟨Nat.zero_le _, Nat.zero_le _⟩ dX9_keep_16 (fun H locs hW => ?_)
    have hz := Option.some.inj hf
    have hzV := congrArg (fun z : Int32 × Mem => z.1) hz
    have hzI := congrArg (fun z : Int32 × Mem => z.2) hz
    exact aw_iret C0 hW hzV hzI rfl dX9_keep_19
def f_X9_letter (x1 : Int32) (x2 : Int32) (I : Mem) : Option (Int32 × Mem) :=
  (f_X9_isSlot x1).bind fun q1 =>
  if q1 = 0 then (
    (f_X9_refuses 1 ((up I 70 7 0))).bind fun q5 =>
    some (q5.1, q5.2)
  ) else (
    if 0 ≤ x2 then (
      (f_X9_writesAll x1 ((up I 70 7 0))).bind fun q2 =>
      if q2.1 ≤ x2 then (
        some ((-2), q2.2)
      ) else (
        (rd q2.2 81 400 x2).bind fun v3 =>
        some (v3, q2.2)
      )
    ) else (
      (f_X9_refuses 2 ((up I 70 7 0))).bind fun q4 =>
      some (q4.1, q4.2)
    )
  )
abbrev rmX9_letter : Room := { frames := 4, cells := 0, slots := 0, locals := 93 }
set_option maxHeartbeats 4000000 in
set_option maxRecDepth 100000 in
theorem c_X9_letter {l : Launch} {g : Gam} {I : Mem} {R : Rem} {P : Pool} {Z : Zed} (x1 : Int32) (x2 : Int32)  {z : Int32 × Mem} (hf : f_X9_letter x1 x2 I = some z) : Met l yX9_letter (Cond.code yX9_letter cX9_letter 3 (some .int) :: GT) rmX9_letter (va_Pc [.ref (g.2.2 + 70), .int x1, .int x2] (PW g I R P Z)) (QI g z.1 z.2 R P Z) 0 0 (AA g) := by
  refine aw_ofW (lv0 := [(0, .ref (g.2.2 + 70)), (1, .int x1), (2, .int x2)]) (by decide) (by exact Nat.le_of_ble_eq_true rfl) (by rfl) (fun p0 e s m args below meth c ls C0 hl hW => ?_)
  have C0 : CX g p0 s m args meth c RX9 cX9_letter 3 (some .int) := C0
  have hx := C0.1; have hb := C0.2.1; have hown := C0.2.2.2.2.1; have hts := C0.2.2.2.2.2.1; have hKS := C0.2.2.2.2.2.2.1
  unfold f_X9_letter at hf
  obtain ⟨H, hH⟩ : ∃ H, H = s.heap := ⟨_, rfl⟩
  obtain ⟨locs, hlc⟩ : ∃ q : List Loc, q = [] := ⟨_, rfl⟩
  rw [show W p0 l e rmX9_letter s m args below meth c s.heap [] 0 0 (MQ below (QI g z.1 z.2 R P Z) args s 0 0 (AA g)) (F0 m 0 ls []) = W p0 l e rmX9_letter s m args below meth c H locs 0 0 (MQ below (QI g z.1 z.2 R P Z) args s 0 0 (AA g)) (F0 m 0 ls []) by rw [hH, hlc]]
  have hW : Wd g I R P Z s.heap H locs := by rw [hH, hlc]; exact hW
  refine lv_aload_n hx hb dX9_letter_0 rfl (lv_at hl 0 rfl) ?_
  refine lv_iconst (v := 0) hx hb dX9_letter_1 (by decide) ?_
  refine aw_put C0 hW (lv_fix (by decide)) (cel_8 kd70) rfl inG8 tyX9 tyX9_ok nmX9 7 (by decide) wd79 rfl rfl (ty := .int) rfl rfl rfl (Nat.le_of_ble_eq_true rfl) (pu_8_7 kd70) dX9_letter_2 (fun H locs hW => ?_)
  refine lv_iload_n hx hb dX9_letter_5 rfl (lv_at hl 1 rfl) ?_
  obtain ⟨q1, hq1, hf⟩ := bnd hf
  refine aw_cSi (rest := []) C0 hW (c_X9_isSlot x1  hq1) (cw_X9_147 hts ⟨Nat.le_of_ble_eq_true rfl, Nat.le_of_ble_eq_true rfl⟩) rfl hl.1 rfl (Nat.le_of_ble_eq_true rfl) ⟨Nat.zero_le _, Nat.zero_le _⟩ dX9_letter_6 (fun H locs hW => ?_)
  refine lv_if_ne (tgt := 18) hx hb dX9_letter_9 rfl (fun hc => ?_) (fun hc => ?_)
  · have hf := iff_ hc hf
    refine lv_iload_n hx hb dX9_letter_18 rfl (lv_at hl 2 rfl) ?_
    refine lv_if_ge (tgt := 28) hx hb dX9_letter_19 rfl (fun hc => ?_) (fun hc => ?_)
    · have hf := ift hc hf
      refine lv_iload_n hx hb dX9_letter_28 rfl (lv_at hl 2 rfl) ?_
      refine lv_aload_n hx hb dX9_letter_29 rfl (lv_at hl 0 rfl) ?_
      refine lv_iload_n hx hb dX9_letter_30 rfl (lv_at hl 1 rfl) ?_
      obtain ⟨q2, hq2, hf⟩ := bnd hf
      refine aw_cVi (rest := [.int x2]) C0 hW (lv_fix (by decide)) (cel_8 kd70) rfl (c_X9_writesAll x1  hq2) (cw_X9_286 hts ⟨Nat.le_of_ble_eq_true rfl, Nat.le_of_ble_eq_true rfl⟩) rfl hl.1 rfl (Nat.le_of_ble_eq_true rfl) ⟨Nat.zero_le _, Nat.zero_le _⟩ dX9_letter_31 (fun H locs hW => ?_)
      refine lv_icmp_ge (tgt := 46) hx hb dX9_letter_34 rfl (fun hc => ?_) (fun hc => ?_)
      · have hf := ift hc hf
        refine lv_bipush (v := (-2)) hx hb dX9_letter_46 (by decide) ?_
        have hz := Option.some.inj hf
        have hzV := congrArg (fun z : Int32 × Mem => z.1) hz
        have hzI := congrArg (fun z : Int32 × Mem => z.2) hz
        exact aw_iret C0 hW hzV hzI rfl dX9_letter_48
      · have hf := iff_ hc hf
        refine lv_aload_n hx hb dX9_letter_37 rfl (lv_at hl 0 rfl) ?_
        refine aw_get (v := .ref (g.2.2 + 81)) C0 hW (lv_fix (by decide)) (cel_8 kd70) rfl inG8 18 (by decide) wd76 rfl rfl dX9_letter_38 ?_
        refine lv_iload_n hx hb dX9_letter_41 rfl (lv_at hl 2 rfl) ?_
        obtain ⟨v3, hv3, hf⟩ := bnd hf
        refine aw_iald C0 hW kd81 ln81 hv3 dX9_letter_42 ?_
        refine lv_goto (tgt := 48) hx hb dX9_letter_43 rfl ?_
        have hz := Option.some.inj hf
        have hzV := congrArg (fun z : Int32 × Mem => z.1) hz
        have hzI := congrArg (fun z : Int32 × Mem => z.2) hz
        exact aw_iret C0 hW hzV hzI rfl dX9_letter_48
    · have hf := iff_ hc hf
      refine lv_aload_n hx hb dX9_letter_22 rfl (lv_at hl 0 rfl) ?_
      refine lv_iconst (v := 2) hx hb dX9_letter_23 (by decide) ?_
      obtain ⟨q4, hq4, hf⟩ := bnd hf
      refine aw_cVi (rest := []) C0 hW (lv_fix (by decide)) (cel_8 kd70) rfl (c_X9_refuses 2  hq4) (cw_X9_119 hts ⟨Nat.le_of_ble_eq_true rfl, Nat.le_of_ble_eq_true rfl⟩) rfl hl.1 rfl (Nat.le_of_ble_eq_true rfl) ⟨Nat.zero_le _, Nat.zero_le _⟩ dX9_letter_24 (fun H locs hW => ?_)
      have hz := Option.some.inj hf
      have hzV := congrArg (fun z : Int32 × Mem => z.1) hz
      have hzI := congrArg (fun z : Int32 × Mem => z.2) hz
      exact aw_iret C0 hW hzV hzI rfl dX9_letter_27
  · have hf := ift hc hf
    refine lv_aload_n hx hb dX9_letter_12 rfl (lv_at hl 0 rfl) ?_
    refine lv_iconst (v := 1) hx hb dX9_letter_13 (by decide) ?_
    obtain ⟨q5, hq5, hf⟩ := bnd hf
    refine aw_cVi (rest := []) C0 hW (lv_fix (by decide)) (cel_8 kd70) rfl (c_X9_refuses 1  hq5) (cw_X9_119 hts ⟨Nat.le_of_ble_eq_true rfl, Nat.le_of_ble_eq_true rfl⟩) rfl hl.1 rfl (Nat.le_of_ble_eq_true rfl) ⟨Nat.zero_le _, Nat.zero_le _⟩ dX9_letter_14 (fun H locs hW => ?_)
    have hz := Option.some.inj hf
    have hzV := congrArg (fun z : Int32 × Mem => z.1) hz
    have hzI := congrArg (fun z : Int32 × Mem => z.2) hz
    exact aw_iret C0 hW hzV hzI rfl dX9_letter_17
def f_X9_remove_L55 (x1 : Int32) (x2 : Int32) (P : Pool) (y3 : Int32) : Nat → Int32 → Mem → Option (Mem)
  | 0, _, _ => none
  | n + 1, w4, I =>
    if w4 < 0 then (
      some I
    ) else (
      if ((y3 >>> (w4 &&& 31)) &&& 1) = 1 then (
        (f_X9_drops x1 w4 I).bind fun q7 =>
        f_X9_remove_L55 x1 x2 P y3 n (w4 + (-1)) q7
      ) else (
        f_X9_remove_L55 x1 x2 P y3 n (w4 + (-1)) I
      )
    )
def f_X9_remove (x1 : Int32) (x2 : Int32) (P : Pool) (I : Mem) : Option (Int32 × Mem) :=
  (f_X9_isTable x1).bind fun q1 =>
  if q1 = 0 then (
    (f_X9_refuses 1 ((up I 70 7 0))).bind fun q2 =>
    some (q2.1, q2.2)
  ) else (
    (f_X9_isSlot x2).bind fun q3 =>
    if q3 = 0 then (
      (f_X9_refuses 1 ((up I 70 7 0))).bind fun q11 =>
      some (q11.1, q11.2)
    ) else (
      (f_X9_parts x2 ((up I 70 7 0))).bind fun q4 =>
      if q4 = 0 then (
        (f_X9_refuses 2 ((up I 70 7 0))).bind fun q10 =>
        some (q10.1, q10.2)
      ) else (
        (f_X9_saves P ((up I 70 7 0))).bind fun q5 =>
        (f_X9_rowsOf x1 x2 2 q5).bind fun q6 =>
        (f_X9_remove_L55 x1 x2 P q6.1 fuel 15 q6.2).bind fun q8 =>
        (f_X9_bits q6.1).bind fun q9 =>
        some (q9, q8)
      )
    )
  )
abbrev rmX9_remove : Room := { frames := 5, cells := 0, slots := 0, locals := 117 }
set_option maxHeartbeats 4000000 in
set_option maxRecDepth 100000 in
theorem c_X9_remove {l : Launch} {g : Gam} {I : Mem} {R : Rem} {P : Pool} {Z : Zed} (x1 : Int32) (x2 : Int32)  {z : Int32 × Mem} (hf : f_X9_remove x1 x2 P I = some z) : Met l yX9_remove (Cond.code yX9_remove cX9_remove 5 (some .int) :: GT) rmX9_remove (va_Pc [.ref (g.2.2 + 70), .int x1, .int x2] (PW g I R P Z)) (QI g z.1 z.2 R P Z) 0 0 (AA g) := by
  refine aw_ofW (lv0 := [(0, .ref (g.2.2 + 70)), (1, .int x1), (2, .int x2)]) (by decide) (by exact Nat.le_of_ble_eq_true rfl) (by rfl) (fun p0 e s m args below meth c ls C0 hl hW => ?_)
  have C0 : CX g p0 s m args meth c RX9 cX9_remove 5 (some .int) := C0
  have hx := C0.1; have hb := C0.2.1; have hown := C0.2.2.2.2.1; have hts := C0.2.2.2.2.2.1; have hKS := C0.2.2.2.2.2.2.1
  have L55 : ∀ (y3 : Int32) (n : Nat) (w4 : Int32) (I : Mem) (H : Heap) (locs : List Loc) (ls : Array Slot) (o : Mem), f_X9_remove_L55 x1 x2 P y3 n w4 I = some o → Wd g I R P Z s.heap H locs → lv_has ls 5 [(0, .ref (g.2.2 + 70)), (1, .int x1), (3, .int y3), (4, .int w4)] → (∀ (H : Heap) (locs : List Loc) (ls : Array Slot), Wd g o R P Z s.heap H locs → lv_has ls 5 [(3, .int y3)] → W p0 l e rmX9_remove s m args below meth c H locs 0 0 (MQ below (QI g z.1 z.2 R P Z) args s 0 0 (AA g)) (F0 m 83 ls [])) → W p0 l e rmX9_remove s m args below meth c H locs 0 0 (MQ below (QI g z.1 z.2 R P Z) args s 0 0 (AA g)) (F0 m 55 ls []) := by
    intro y3 n
    induction n with
    | zero => intro w4 I H locs ls o hf; cases hf
    | succ n ih =>
      intro w4 I H locs ls o hf hW hl hK
      rw [f_X9_remove_L55] at hf
      refine lv_iload hx hb dX9_remove_55 (lv_at hl 3 rfl) ?_
      refine lv_if_lt (tgt := 83) hx hb dX9_remove_57 rfl (fun hc => ?_) (fun hc => ?_)
      · have hf := ift hc hf
        have ho := Option.some.inj hf
        subst ho
        exact hK H locs ls hW (lv_sub hl [2] rfl)
      · have hf := iff_ hc hf
        refine lv_iload_n hx hb dX9_remove_60 rfl (lv_at hl 2 rfl) ?_
        refine lv_iload hx hb dX9_remove_61 (lv_at hl 3 rfl) ?_
        refine lv_ishr hx hb dX9_remove_63 ?_
        refine lv_iconst (v := 1) hx hb dX9_remove_64 (by decide) ?_
        refine lv_iand hx hb dX9_remove_65 ?_
        refine lv_iconst (v := 1) hx hb dX9_remove_66 (by decide) ?_
        refine lv_icmp_ne (tgt := 77) hx hb dX9_remove_67 rfl (fun hc => ?_) (fun hc => ?_)
        · have hf := iff_ hc hf
          refine lv_iinc (k := 3) (v := w4 + (-1)) (lv' := [(4, .int (w4 + (-1))), (0, .ref (g.2.2 + 70)), (1, .int x1), (3, .int y3)]) hx hb dX9_remove_77 hl rfl (congrArg (fun t => w4 + t) (by decide : Int32.ofInt (-1) = (-1))) (Nat.le_of_ble_eq_true rfl) rfl (fun ls hl => ?_)
          refine lv_goto (tgt := 55) hx hb dX9_remove_80 rfl ?_
          exact ih _ _ H locs ls o hf hW (lv_sub hl [1, 2, 3, 0] rfl) hK
        · have hf := ift hc hf
          refine lv_aload_n hx hb dX9_remove_70 rfl (lv_at hl 0 rfl) ?_
          refine lv_iload_n hx hb dX9_remove_71 rfl (lv_at hl 1 rfl) ?_
          refine lv_iload hx hb dX9_remove_72 (lv_at hl 3 rfl) ?_
          obtain ⟨q7, hq7, hf⟩ := bnd hf
          refine aw_cVv (rest := []) C0 hW (lv_fix (by decide)) (cel_8 kd70) rfl (c_X9_drops x1 w4  hq7) (cw_X9_138 hts ⟨Nat.le_of_ble_eq_true rfl, Nat.le_of_ble_eq_true rfl⟩) rfl hl.1 rfl (Nat.le_of_ble_eq_true rfl) ⟨Nat.zero_le _, Nat.zero_le _⟩ dX9_remove_74 (fun H locs hW => ?_)
          refine lv_iinc (k := 3) (v := w4 + (-1)) (lv' := [(4, .int (w4 + (-1))), (0, .ref (g.2.2 + 70)), (1, .int x1), (3, .int y3)]) hx hb dX9_remove_77 hl rfl (congrArg (fun t => w4 + t) (by decide : Int32.ofInt (-1) = (-1))) (Nat.le_of_ble_eq_true rfl) rfl (fun ls hl => ?_)
          refine lv_goto (tgt := 55) hx hb dX9_remove_80 rfl ?_
          exact ih _ _ H locs ls o hf hW (lv_sub hl [1, 2, 3, 0] rfl) hK
  unfold f_X9_remove at hf
  obtain ⟨H, hH⟩ : ∃ H, H = s.heap := ⟨_, rfl⟩
  obtain ⟨locs, hlc⟩ : ∃ q : List Loc, q = [] := ⟨_, rfl⟩
  rw [show W p0 l e rmX9_remove s m args below meth c s.heap [] 0 0 (MQ below (QI g z.1 z.2 R P Z) args s 0 0 (AA g)) (F0 m 0 ls []) = W p0 l e rmX9_remove s m args below meth c H locs 0 0 (MQ below (QI g z.1 z.2 R P Z) args s 0 0 (AA g)) (F0 m 0 ls []) by rw [hH, hlc]]
  have hW : Wd g I R P Z s.heap H locs := by rw [hH, hlc]; exact hW
  refine lv_aload_n hx hb dX9_remove_0 rfl (lv_at hl 0 rfl) ?_
  refine lv_iconst (v := 0) hx hb dX9_remove_1 (by decide) ?_
  refine aw_put C0 hW (lv_fix (by decide)) (cel_8 kd70) rfl inG8 tyX9 tyX9_ok nmX9 7 (by decide) wd79 rfl rfl (ty := .int) rfl rfl rfl (Nat.le_of_ble_eq_true rfl) (pu_8_7 kd70) dX9_remove_2 (fun H locs hW => ?_)
  refine lv_iload_n hx hb dX9_remove_5 rfl (lv_at hl 1 rfl) ?_
  obtain ⟨q1, hq1, hf⟩ := bnd hf
  refine aw_cSi (rest := []) C0 hW (c_X9_isTable x1  hq1) (cw_X9_66 hts ⟨Nat.le_of_ble_eq_true rfl, Nat.le_of_ble_eq_true rfl⟩) rfl hl.1 rfl (Nat.le_of_ble_eq_true rfl) ⟨Nat.zero_le _, Nat.zero_le _⟩ dX9_remove_6 (fun H locs hW => ?_)
  refine lv_if_eq (tgt := 19) hx hb dX9_remove_9 rfl (fun hc => ?_) (fun hc => ?_)
  · have hf := ift hc hf
    refine lv_aload_n hx hb dX9_remove_19 rfl (lv_at hl 0 rfl) ?_
    refine lv_iconst (v := 1) hx hb dX9_remove_20 (by decide) ?_
    obtain ⟨q2, hq2, hf⟩ := bnd hf
    refine aw_cVi (rest := []) C0 hW (lv_fix (by decide)) (cel_8 kd70) rfl (c_X9_refuses 1  hq2) (cw_X9_119 hts ⟨Nat.le_of_ble_eq_true rfl, Nat.le_of_ble_eq_true rfl⟩) rfl hl.1 rfl (Nat.le_of_ble_eq_true rfl) ⟨Nat.zero_le _, Nat.zero_le _⟩ dX9_remove_21 (fun H locs hW => ?_)
    have hz := Option.some.inj hf
    have hzV := congrArg (fun z : Int32 × Mem => z.1) hz
    have hzI := congrArg (fun z : Int32 × Mem => z.2) hz
    exact aw_iret C0 hW hzV hzI rfl dX9_remove_24
  · have hf := iff_ hc hf
    refine lv_iload_n hx hb dX9_remove_12 rfl (lv_at hl 2 rfl) ?_
    obtain ⟨q3, hq3, hf⟩ := bnd hf
    refine aw_cSi (rest := []) C0 hW (c_X9_isSlot x2  hq3) (cw_X9_147 hts ⟨Nat.le_of_ble_eq_true rfl, Nat.le_of_ble_eq_true rfl⟩) rfl hl.1 rfl (Nat.le_of_ble_eq_true rfl) ⟨Nat.zero_le _, Nat.zero_le _⟩ dX9_remove_13 (fun H locs hW => ?_)
    refine lv_if_ne (tgt := 25) hx hb dX9_remove_16 rfl (fun hc => ?_) (fun hc => ?_)
    · have hf := iff_ hc hf
      refine lv_aload_n hx hb dX9_remove_25 rfl (lv_at hl 0 rfl) ?_
      refine lv_iload_n hx hb dX9_remove_26 rfl (lv_at hl 2 rfl) ?_
      obtain ⟨q4, hq4, hf⟩ := bnd hf
      refine aw_cVi (rest := []) C0 hW (lv_fix (by decide)) (cel_8 kd70) rfl (c_X9_parts x2  hq4) (cw_X9_92 hts ⟨Nat.le_of_ble_eq_true rfl, Nat.le_of_ble_eq_true rfl⟩) rfl hl.1 rfl (Nat.le_of_ble_eq_true rfl) ⟨Nat.zero_le _, Nat.zero_le _⟩ dX9_remove_27 (fun H locs hW => ?_)
      refine lv_if_ne (tgt := 39) hx hb dX9_remove_30 rfl (fun hc => ?_) (fun hc => ?_)
      · have hf := iff_ hc hf
        refine lv_aload_n hx hb dX9_remove_39 rfl (lv_at hl 0 rfl) ?_
        obtain ⟨q5, hq5, hf⟩ := bnd hf
        refine aw_cVv (rest := []) C0 hW (lv_fix (by decide)) (cel_8 kd70) rfl (c_X9_saves  hq5) (cw_X9_125 hts ⟨Nat.le_of_ble_eq_true rfl, Nat.le_of_ble_eq_true rfl⟩) rfl hl.1 rfl (Nat.le_of_ble_eq_true rfl) ⟨Nat.zero_le _, Nat.zero_le _⟩ dX9_remove_40 (fun H locs hW => ?_)
        refine lv_aload_n hx hb dX9_remove_43 rfl (lv_at hl 0 rfl) ?_
        refine lv_iload_n hx hb dX9_remove_44 rfl (lv_at hl 1 rfl) ?_
        refine lv_iload_n hx hb dX9_remove_45 rfl (lv_at hl 2 rfl) ?_
        refine lv_iconst (v := 2) hx hb dX9_remove_46 (by decide) ?_
        obtain ⟨q6, hq6, hf⟩ := bnd hf
        refine aw_cVi (rest := []) C0 hW (lv_fix (by decide)) (cel_8 kd70) rfl (c_X9_rowsOf x1 x2 2  hq6) (cw_X9_163 hts ⟨Nat.le_of_ble_eq_true rfl, Nat.le_of_ble_eq_true rfl⟩) rfl hl.1 rfl (Nat.le_of_ble_eq_true rfl) ⟨Nat.zero_le _, Nat.zero_le _⟩ dX9_remove_47 (fun H locs hW => ?_)
        refine lv_istore_n (lv' := [(3, .int q6.1), (0, .ref (g.2.2 + 70)), (1, .int x1), (2, .int x2)]) hx hb dX9_remove_50 rfl hl (Nat.le_of_ble_eq_true rfl) rfl (fun ls hl => ?_)
        refine lv_bipush (v := 15) hx hb dX9_remove_51 (by decide) ?_
        refine lv_istore (lv' := [(4, .int 15), (3, .int q6.1), (0, .ref (g.2.2 + 70)), (1, .int x1), (2, .int x2)]) hx hb dX9_remove_53 hl (Nat.le_of_ble_eq_true rfl) rfl (fun ls hl => ?_)
        obtain ⟨q8, hq8, hf⟩ := bnd hf
        refine L55 q6.1 fuel 15 q6.2 H locs ls _ hq8 hW (lv_sub hl [2, 3, 1, 0] rfl) (fun H locs ls hW hl => ?_)
        refine lv_iload_n hx hb dX9_remove_83 rfl (lv_at hl 0 rfl) ?_
        obtain ⟨q9, hq9, hf⟩ := bnd hf
        refine aw_cSi (rest := []) C0 hW (c_X9_bits q6.1  hq9) (cw_X9_166 hts ⟨Nat.le_of_ble_eq_true rfl, Nat.le_of_ble_eq_true rfl⟩) rfl hl.1 rfl (Nat.le_of_ble_eq_true rfl) ⟨Nat.zero_le _, Nat.zero_le _⟩ dX9_remove_84 (fun H locs hW => ?_)
        have hz := Option.some.inj hf
        have hzV := congrArg (fun z : Int32 × Mem => z.1) hz
        have hzI := congrArg (fun z : Int32 × Mem => z.2) hz
        exact aw_iret C0 hW hzV hzI rfl dX9_remove_87
      · have hf := ift hc hf
        refine lv_aload_n hx hb dX9_remove_33 rfl (lv_at hl 0 rfl) ?_
        refine lv_iconst (v := 2) hx hb dX9_remove_34 (by decide) ?_
        obtain ⟨q10, hq10, hf⟩ := bnd hf
        refine aw_cVi (rest := []) C0 hW (lv_fix (by decide)) (cel_8 kd70) rfl (c_X9_refuses 2  hq10) (cw_X9_119 hts ⟨Nat.le_of_ble_eq_true rfl, Nat.le_of_ble_eq_true rfl⟩) rfl hl.1 rfl (Nat.le_of_ble_eq_true rfl) ⟨Nat.zero_le _, Nat.zero_le _⟩ dX9_remove_35 (fun H locs hW => ?_)
        have hz := Option.some.inj hf
        have hzV := congrArg (fun z : Int32 × Mem => z.1) hz
        have hzI := congrArg (fun z : Int32 × Mem => z.2) hz
        exact aw_iret C0 hW hzV hzI rfl dX9_remove_38
    · have hf := ift hc hf
      refine lv_aload_n hx hb dX9_remove_19 rfl (lv_at hl 0 rfl) ?_
      refine lv_iconst (v := 1) hx hb dX9_remove_20 (by decide) ?_
      obtain ⟨q11, hq11, hf⟩ := bnd hf
      refine aw_cVi (rest := []) C0 hW (lv_fix (by decide)) (cel_8 kd70) rfl (c_X9_refuses 1  hq11) (cw_X9_119 hts ⟨Nat.le_of_ble_eq_true rfl, Nat.le_of_ble_eq_true rfl⟩) rfl hl.1 rfl (Nat.le_of_ble_eq_true rfl) ⟨Nat.zero_le _, Nat.zero_le _⟩ dX9_remove_21 (fun H locs hW => ?_)
      have hz := Option.some.inj hf
      have hzV := congrArg (fun z : Int32 × Mem => z.1) hz
      have hzI := congrArg (fun z : Int32 × Mem => z.2) hz
      exact aw_iret C0 hW hzV hzI rfl dX9_remove_24
def f_X9_rows (x1 : Int32) (x2 : Int32) (x3 : Int32) (x4 : Int32) (I : Mem) : Option (Int32 × Mem) :=
  (f_X9_isTable x1).bind fun q1 =>
  if q1 = 0 then (
    (f_X9_refuses 1 ((up I 70 7 0))).bind fun q2 =>
    some (q2.1, q2.2)
  ) else (
    (f_X9_isSlot x2).bind fun q3 =>
    if q3 = 0 then (
      (f_X9_refuses 1 ((up I 70 7 0))).bind fun q10 =>
      some (q10.1, q10.2)
    ) else (
      (f_X9_in x3 0 2).bind fun q4 =>
      if q4 = 0 then (
        (f_X9_refuses 2 ((up I 70 7 0))).bind fun q5 =>
        some (q5.1, q5.2)
      ) else (
        (f_X9_in x4 0 1).bind fun q6 =>
        if q6 = 0 then (
          (f_X9_refuses 2 ((up I 70 7 0))).bind fun q9 =>
          some (q9.1, q9.2)
        ) else (
          (f_X9_parts x2 ((up I 70 7 0))).bind fun q7 =>
          if q7 = 0 then (
            some ((-2), (up I 70 7 0))
          ) else (
            (f_X9_rowsOf x1 x2 x3 ((up I 70 7 0))).bind fun q8 =>
            some (q8.1, q8.2)
          )
        )
      )
    )
  )
abbrev rmX9_rows : Room := { frames := 5, cells := 0, slots := 0, locals := 117 }
set_option maxHeartbeats 4000000 in
set_option maxRecDepth 100000 in
theorem c_X9_rows {l : Launch} {g : Gam} {I : Mem} {R : Rem} {P : Pool} {Z : Zed} (x1 : Int32) (x2 : Int32) (x3 : Int32) (x4 : Int32)  {z : Int32 × Mem} (hf : f_X9_rows x1 x2 x3 x4 I = some z) : Met l yX9_rows (Cond.code yX9_rows cX9_rows 5 (some .int) :: GT) rmX9_rows (va_Pc [.ref (g.2.2 + 70), .int x1, .int x2, .int x3, .int x4] (PW g I R P Z)) (QI g z.1 z.2 R P Z) 0 0 (AA g) := by
  refine aw_ofW (lv0 := [(0, .ref (g.2.2 + 70)), (1, .int x1), (2, .int x2), (3, .int x3), (4, .int x4)]) (by decide) (by exact Nat.le_of_ble_eq_true rfl) (by rfl) (fun p0 e s m args below meth c ls C0 hl hW => ?_)
  have C0 : CX g p0 s m args meth c RX9 cX9_rows 5 (some .int) := C0
  have hx := C0.1; have hb := C0.2.1; have hown := C0.2.2.2.2.1; have hts := C0.2.2.2.2.2.1; have hKS := C0.2.2.2.2.2.2.1
  unfold f_X9_rows at hf
  obtain ⟨H, hH⟩ : ∃ H, H = s.heap := ⟨_, rfl⟩
  obtain ⟨locs, hlc⟩ : ∃ q : List Loc, q = [] := ⟨_, rfl⟩
  rw [show W p0 l e rmX9_rows s m args below meth c s.heap [] 0 0 (MQ below (QI g z.1 z.2 R P Z) args s 0 0 (AA g)) (F0 m 0 ls []) = W p0 l e rmX9_rows s m args below meth c H locs 0 0 (MQ below (QI g z.1 z.2 R P Z) args s 0 0 (AA g)) (F0 m 0 ls []) by rw [hH, hlc]]
  have hW : Wd g I R P Z s.heap H locs := by rw [hH, hlc]; exact hW
  refine lv_aload_n hx hb dX9_rows_0 rfl (lv_at hl 0 rfl) ?_
  refine lv_iconst (v := 0) hx hb dX9_rows_1 (by decide) ?_
  refine aw_put C0 hW (lv_fix (by decide)) (cel_8 kd70) rfl inG8 tyX9 tyX9_ok nmX9 7 (by decide) wd79 rfl rfl (ty := .int) rfl rfl rfl (Nat.le_of_ble_eq_true rfl) (pu_8_7 kd70) dX9_rows_2 (fun H locs hW => ?_)
  refine lv_iload_n hx hb dX9_rows_5 rfl (lv_at hl 1 rfl) ?_
  obtain ⟨q1, hq1, hf⟩ := bnd hf
  refine aw_cSi (rest := []) C0 hW (c_X9_isTable x1  hq1) (cw_X9_66 hts ⟨Nat.le_of_ble_eq_true rfl, Nat.le_of_ble_eq_true rfl⟩) rfl hl.1 rfl (Nat.le_of_ble_eq_true rfl) ⟨Nat.zero_le _, Nat.zero_le _⟩ dX9_rows_6 (fun H locs hW => ?_)
  refine lv_if_eq (tgt := 19) hx hb dX9_rows_9 rfl (fun hc => ?_) (fun hc => ?_)
  · have hf := ift hc hf
    refine lv_aload_n hx hb dX9_rows_19 rfl (lv_at hl 0 rfl) ?_
    refine lv_iconst (v := 1) hx hb dX9_rows_20 (by decide) ?_
    obtain ⟨q2, hq2, hf⟩ := bnd hf
    refine aw_cVi (rest := []) C0 hW (lv_fix (by decide)) (cel_8 kd70) rfl (c_X9_refuses 1  hq2) (cw_X9_119 hts ⟨Nat.le_of_ble_eq_true rfl, Nat.le_of_ble_eq_true rfl⟩) rfl hl.1 rfl (Nat.le_of_ble_eq_true rfl) ⟨Nat.zero_le _, Nat.zero_le _⟩ dX9_rows_21 (fun H locs hW => ?_)
    have hz := Option.some.inj hf
    have hzV := congrArg (fun z : Int32 × Mem => z.1) hz
    have hzI := congrArg (fun z : Int32 × Mem => z.2) hz
    exact aw_iret C0 hW hzV hzI rfl dX9_rows_24
  · have hf := iff_ hc hf
    refine lv_iload_n hx hb dX9_rows_12 rfl (lv_at hl 2 rfl) ?_
    obtain ⟨q3, hq3, hf⟩ := bnd hf
    refine aw_cSi (rest := []) C0 hW (c_X9_isSlot x2  hq3) (cw_X9_147 hts ⟨Nat.le_of_ble_eq_true rfl, Nat.le_of_ble_eq_true rfl⟩) rfl hl.1 rfl (Nat.le_of_ble_eq_true rfl) ⟨Nat.zero_le _, Nat.zero_le _⟩ dX9_rows_13 (fun H locs hW => ?_)
    refine lv_if_ne (tgt := 25) hx hb dX9_rows_16 rfl (fun hc => ?_) (fun hc => ?_)
    · have hf := iff_ hc hf
      refine lv_iload_n hx hb dX9_rows_25 rfl (lv_at hl 3 rfl) ?_
      refine lv_iconst (v := 0) hx hb dX9_rows_26 (by decide) ?_
      refine lv_iconst (v := 2) hx hb dX9_rows_27 (by decide) ?_
      obtain ⟨q4, hq4, hf⟩ := bnd hf
      refine aw_cSi (rest := []) C0 hW (c_X9_in x3 0 2  hq4) (cw_X9_62 hts ⟨Nat.le_of_ble_eq_true rfl, Nat.le_of_ble_eq_true rfl⟩) rfl hl.1 rfl (Nat.le_of_ble_eq_true rfl) ⟨Nat.zero_le _, Nat.zero_le _⟩ dX9_rows_28 (fun H locs hW => ?_)
      refine lv_if_eq (tgt := 44) hx hb dX9_rows_31 rfl (fun hc => ?_) (fun hc => ?_)
      · have hf := ift hc hf
        refine lv_aload_n hx hb dX9_rows_44 rfl (lv_at hl 0 rfl) ?_
        refine lv_iconst (v := 2) hx hb dX9_rows_45 (by decide) ?_
        obtain ⟨q5, hq5, hf⟩ := bnd hf
        refine aw_cVi (rest := []) C0 hW (lv_fix (by decide)) (cel_8 kd70) rfl (c_X9_refuses 2  hq5) (cw_X9_119 hts ⟨Nat.le_of_ble_eq_true rfl, Nat.le_of_ble_eq_true rfl⟩) rfl hl.1 rfl (Nat.le_of_ble_eq_true rfl) ⟨Nat.zero_le _, Nat.zero_le _⟩ dX9_rows_46 (fun H locs hW => ?_)
        have hz := Option.some.inj hf
        have hzV := congrArg (fun z : Int32 × Mem => z.1) hz
        have hzI := congrArg (fun z : Int32 × Mem => z.2) hz
        exact aw_iret C0 hW hzV hzI rfl dX9_rows_49
      · have hf := iff_ hc hf
        refine lv_iload hx hb dX9_rows_34 (lv_at hl 4 rfl) ?_
        refine lv_iconst (v := 0) hx hb dX9_rows_36 (by decide) ?_
        refine lv_iconst (v := 1) hx hb dX9_rows_37 (by decide) ?_
        obtain ⟨q6, hq6, hf⟩ := bnd hf
        refine aw_cSi (rest := []) C0 hW (c_X9_in x4 0 1  hq6) (cw_X9_62 hts ⟨Nat.le_of_ble_eq_true rfl, Nat.le_of_ble_eq_true rfl⟩) rfl hl.1 rfl (Nat.le_of_ble_eq_true rfl) ⟨Nat.zero_le _, Nat.zero_le _⟩ dX9_rows_38 (fun H locs hW => ?_)
        refine lv_if_ne (tgt := 50) hx hb dX9_rows_41 rfl (fun hc => ?_) (fun hc => ?_)
        · have hf := iff_ hc hf
          refine lv_aload_n hx hb dX9_rows_50 rfl (lv_at hl 0 rfl) ?_
          refine lv_iload_n hx hb dX9_rows_51 rfl (lv_at hl 2 rfl) ?_
          obtain ⟨q7, hq7, hf⟩ := bnd hf
          refine aw_cVi (rest := []) C0 hW (lv_fix (by decide)) (cel_8 kd70) rfl (c_X9_parts x2  hq7) (cw_X9_92 hts ⟨Nat.le_of_ble_eq_true rfl, Nat.le_of_ble_eq_true rfl⟩) rfl hl.1 rfl (Nat.le_of_ble_eq_true rfl) ⟨Nat.zero_le _, Nat.zero_le _⟩ dX9_rows_52 (fun H locs hW => ?_)
          refine lv_if_ne (tgt := 63) hx hb dX9_rows_55 rfl (fun hc => ?_) (fun hc => ?_)
          · have hf := iff_ hc hf
            refine lv_aload_n hx hb dX9_rows_63 rfl (lv_at hl 0 rfl) ?_
            refine lv_iload_n hx hb dX9_rows_64 rfl (lv_at hl 1 rfl) ?_
            refine lv_iload_n hx hb dX9_rows_65 rfl (lv_at hl 2 rfl) ?_
            refine lv_iload_n hx hb dX9_rows_66 rfl (lv_at hl 3 rfl) ?_
            obtain ⟨q8, hq8, hf⟩ := bnd hf
            refine aw_cVi (rest := []) C0 hW (lv_fix (by decide)) (cel_8 kd70) rfl (c_X9_rowsOf x1 x2 x3  hq8) (cw_X9_163 hts ⟨Nat.le_of_ble_eq_true rfl, Nat.le_of_ble_eq_true rfl⟩) rfl hl.1 rfl (Nat.le_of_ble_eq_true rfl) ⟨Nat.zero_le _, Nat.zero_le _⟩ dX9_rows_67 (fun H locs hW => ?_)
            have hz := Option.some.inj hf
            have hzV := congrArg (fun z : Int32 × Mem => z.1) hz
            have hzI := congrArg (fun z : Int32 × Mem => z.2) hz
            exact aw_iret C0 hW hzV hzI rfl dX9_rows_70
          · have hf := ift hc hf
            refine lv_bipush (v := (-2)) hx hb dX9_rows_58 (by decide) ?_
            refine lv_goto (tgt := 70) hx hb dX9_rows_60 rfl ?_
            have hz := Option.some.inj hf
            have hzV := congrArg (fun z : Int32 × Mem => z.1) hz
            have hzI := congrArg (fun z : Int32 × Mem => z.2) hz
            exact aw_iret C0 hW hzV hzI rfl dX9_rows_70
        · have hf := ift hc hf
          refine lv_aload_n hx hb dX9_rows_44 rfl (lv_at hl 0 rfl) ?_
          refine lv_iconst (v := 2) hx hb dX9_rows_45 (by decide) ?_
          obtain ⟨q9, hq9, hf⟩ := bnd hf
          refine aw_cVi (rest := []) C0 hW (lv_fix (by decide)) (cel_8 kd70) rfl (c_X9_refuses 2  hq9) (cw_X9_119 hts ⟨Nat.le_of_ble_eq_true rfl, Nat.le_of_ble_eq_true rfl⟩) rfl hl.1 rfl (Nat.le_of_ble_eq_true rfl) ⟨Nat.zero_le _, Nat.zero_le _⟩ dX9_rows_46 (fun H locs hW => ?_)
          have hz := Option.some.inj hf
          have hzV := congrArg (fun z : Int32 × Mem => z.1) hz
          have hzI := congrArg (fun z : Int32 × Mem => z.2) hz
          exact aw_iret C0 hW hzV hzI rfl dX9_rows_49
    · have hf := ift hc hf
      refine lv_aload_n hx hb dX9_rows_19 rfl (lv_at hl 0 rfl) ?_
      refine lv_iconst (v := 1) hx hb dX9_rows_20 (by decide) ?_
      obtain ⟨q10, hq10, hf⟩ := bnd hf
      refine aw_cVi (rest := []) C0 hW (lv_fix (by decide)) (cel_8 kd70) rfl (c_X9_refuses 1  hq10) (cw_X9_119 hts ⟨Nat.le_of_ble_eq_true rfl, Nat.le_of_ble_eq_true rfl⟩) rfl hl.1 rfl (Nat.le_of_ble_eq_true rfl) ⟨Nat.zero_le _, Nat.zero_le _⟩ dX9_rows_21 (fun H locs hW => ?_)
      have hz := Option.some.inj hf
      have hzV := congrArg (fun z : Int32 × Mem => z.1) hz
      have hzI := congrArg (fun z : Int32 × Mem => z.2) hz
      exact aw_iret C0 hW hzV hzI rfl dX9_rows_24
def f_X9_share (x1 : Int32) (x2 : Int32) (I : Mem) : Option (UInt64 × Mem) :=
  (f_X9_isTable x1).bind fun q1 =>
  if q1 = 0 then (
    some (FP.dconst0, (up (up I 70 7 0) 70 7 1))
  ) else (
    (f_X9_isSlot x2).bind fun q2 =>
    if q2 = 0 then (
      some (FP.dconst0, (up (up I 70 7 0) 70 7 1))
    ) else (
      (f_X9_parts x2 ((up I 70 7 0))).bind fun q3 =>
      ((
        if q3 = 0 then (
          some (FP.dconst0, (up I 70 7 0))
        ) else (
          (f_X9_rowsOf x1 x2 2 ((up I 70 7 0))).bind fun q5 =>
          (f_X9_bits q5.1).bind fun q6 =>
          some (FP.i2d q6, q5.2)
        )
      ) : Option (UInt64 × Mem)).bind fun q4 =>
      (f_X9_many x1 q4.2).bind fun q7 =>
      if (Op.cmpValue (FP.dcmp (FP.i2d q7) FP.dconst0) .l) = 0 then (
        some (FP.dconst0, q4.2)
      ) else (
        if FP.ddiv q4.1 (FP.i2d q7) &&& 0x7fffffffffffffff ≤ 0x7ff0000000000000 then (
          some (FP.ddiv q4.1 (FP.i2d q7), q4.2)
        ) else none
      )
    )
  )
abbrev rmX9_share : Room := { frames := 5, cells := 0, slots := 0, locals := 117 }
set_option maxHeartbeats 4000000 in
set_option maxRecDepth 100000 in
theorem c_X9_share {l : Launch} {g : Gam} {I : Mem} {R : Rem} {P : Pool} {Z : Zed} (x1 : Int32) (x2 : Int32)  {z : UInt64 × Mem} (hf : f_X9_share x1 x2 I = some z) : Met l yX9_share (Cond.code yX9_share cX9_share 7 (some .double) :: GT) rmX9_share (va_Pc [.ref (g.2.2 + 70), .int x1, .int x2] (PW g I R P Z)) (QD g z.1 z.2 R P Z) 0 0 (AA g) := by
  refine aw_ofW (lv0 := [(0, .ref (g.2.2 + 70)), (1, .int x1), (2, .int x2)]) (by decide) (by exact Nat.le_of_ble_eq_true rfl) (by rfl) (fun p0 e s m args below meth c ls C0 hl hW => ?_)
  have C0 : CX g p0 s m args meth c RX9 cX9_share 7 (some .double) := C0
  have hx := C0.1; have hb := C0.2.1; have hown := C0.2.2.2.2.1; have hts := C0.2.2.2.2.2.1; have hKS := C0.2.2.2.2.2.2.1
  unfold f_X9_share at hf
  obtain ⟨H, hH⟩ : ∃ H, H = s.heap := ⟨_, rfl⟩
  obtain ⟨locs, hlc⟩ : ∃ q : List Loc, q = [] := ⟨_, rfl⟩
  rw [show W p0 l e rmX9_share s m args below meth c s.heap [] 0 0 (MQ below (QD g z.1 z.2 R P Z) args s 0 0 (AA g)) (F0 m 0 ls []) = W p0 l e rmX9_share s m args below meth c H locs 0 0 (MQ below (QD g z.1 z.2 R P Z) args s 0 0 (AA g)) (F0 m 0 ls []) by rw [hH, hlc]]
  have hW : Wd g I R P Z s.heap H locs := by rw [hH, hlc]; exact hW
  refine lv_aload_n hx hb dX9_share_0 rfl (lv_at hl 0 rfl) ?_
  refine lv_iconst (v := 0) hx hb dX9_share_1 (by decide) ?_
  refine aw_put C0 hW (lv_fix (by decide)) (cel_8 kd70) rfl inG8 tyX9 tyX9_ok nmX9 7 (by decide) wd79 rfl rfl (ty := .int) rfl rfl rfl (Nat.le_of_ble_eq_true rfl) (pu_8_7 kd70) dX9_share_2 (fun H locs hW => ?_)
  refine lv_iload_n hx hb dX9_share_5 rfl (lv_at hl 1 rfl) ?_
  obtain ⟨q1, hq1, hf⟩ := bnd hf
  refine aw_cSi (rest := []) C0 hW (c_X9_isTable x1  hq1) (cw_X9_66 hts ⟨Nat.le_of_ble_eq_true rfl, Nat.le_of_ble_eq_true rfl⟩) rfl hl.1 rfl (Nat.le_of_ble_eq_true rfl) ⟨Nat.zero_le _, Nat.zero_le _⟩ dX9_share_6 (fun H locs hW => ?_)
  refine lv_if_eq (tgt := 19) hx hb dX9_share_9 rfl (fun hc => ?_) (fun hc => ?_)
  · have hf := ift hc hf
    refine lv_aload_n hx hb dX9_share_19 rfl (lv_at hl 0 rfl) ?_
    refine lv_iconst (v := 1) hx hb dX9_share_20 (by decide) ?_
    refine aw_put C0 hW (lv_fix (by decide)) (cel_8 kd70) rfl inG8 tyX9 tyX9_ok nmX9 7 (by decide) wd79 rfl rfl (ty := .int) rfl rfl rfl (Nat.le_of_ble_eq_true rfl) (pu_8_7 kd70) dX9_share_21 (fun H locs hW => ?_)
    refine lv_dconst0 hx hb dX9_share_24 ?_
    have hz := Option.some.inj hf
    have hzV := congrArg (fun z : UInt64 × Mem => z.1) hz
    have hzI := congrArg (fun z : UInt64 × Mem => z.2) hz
    exact aw_dret C0 hW hzV hzI rfl dX9_share_25
  · have hf := iff_ hc hf
    refine lv_iload_n hx hb dX9_share_12 rfl (lv_at hl 2 rfl) ?_
    obtain ⟨q2, hq2, hf⟩ := bnd hf
    refine aw_cSi (rest := []) C0 hW (c_X9_isSlot x2  hq2) (cw_X9_147 hts ⟨Nat.le_of_ble_eq_true rfl, Nat.le_of_ble_eq_true rfl⟩) rfl hl.1 rfl (Nat.le_of_ble_eq_true rfl) ⟨Nat.zero_le _, Nat.zero_le _⟩ dX9_share_13 (fun H locs hW => ?_)
    refine lv_if_ne (tgt := 26) hx hb dX9_share_16 rfl (fun hc => ?_) (fun hc => ?_)
    · have hf := iff_ hc hf
      refine lv_aload_n hx hb dX9_share_26 rfl (lv_at hl 0 rfl) ?_
      refine lv_iload_n hx hb dX9_share_27 rfl (lv_at hl 2 rfl) ?_
      obtain ⟨q3, hq3, hf⟩ := bnd hf
      refine aw_cVi (rest := []) C0 hW (lv_fix (by decide)) (cel_8 kd70) rfl (c_X9_parts x2  hq3) (cw_X9_92 hts ⟨Nat.le_of_ble_eq_true rfl, Nat.le_of_ble_eq_true rfl⟩) rfl hl.1 rfl (Nat.le_of_ble_eq_true rfl) ⟨Nat.zero_le _, Nat.zero_le _⟩ dX9_share_28 (fun H locs hW => ?_)
      obtain ⟨q4, hq4, hf⟩ := bnd hf
      have J49_q4 : ∀ (H : Heap) (locs : List Loc) (ls : Array Slot), Wd g q4.2 R P Z s.heap H locs → lv_has ls 7 [(0, .ref (g.2.2 + 70)), (1, .int x1)] → W p0 l e rmX9_share s m args below meth c H locs 0 0 (MQ below (QD g z.1 z.2 R P Z) args s 0 0 (AA g)) (F0 m 49 ls ([.double q4.1])) := by
        intro H locs ls hW hl
        refine lv_dstore_n (lv' := [(3, .double q4.1), (0, .ref (g.2.2 + 70)), (1, .int x1)]) hx hb dX9_share_49 rfl hl (Nat.le_of_ble_eq_true rfl) rfl (fun ls hl => ?_)
        refine lv_aload_n hx hb dX9_share_50 rfl (lv_at hl 1 rfl) ?_
        refine lv_iload_n hx hb dX9_share_51 rfl (lv_at hl 2 rfl) ?_
        obtain ⟨q7, hq7, hf⟩ := bnd hf
        refine aw_cVi (rest := []) C0 hW (lv_fix (by decide)) (cel_8 kd70) rfl (c_X9_many x1  hq7) (cw_X9_70 hts ⟨Nat.le_of_ble_eq_true rfl, Nat.le_of_ble_eq_true rfl⟩) rfl hl.1 rfl (Nat.le_of_ble_eq_true rfl) ⟨Nat.zero_le _, Nat.zero_le _⟩ dX9_share_52 (fun H locs hW => ?_)
        refine lv_i2d hx hb dX9_share_55 ?_
        refine lv_dstore (lv' := [(5, .double (FP.i2d q7)), (3, .double q4.1), (0, .ref (g.2.2 + 70)), (1, .int x1)]) hx hb dX9_share_56 hl (Nat.le_of_ble_eq_true rfl) rfl (fun ls hl => ?_)
        refine lv_dload hx hb dX9_share_58 (lv_at hl 0 rfl) ?_
        refine lv_dconst0 hx hb dX9_share_60 ?_
        refine lv_dcmp hx hb dX9_share_61 ?_
        refine lv_if_ne (tgt := 69) hx hb dX9_share_62 rfl (fun hc => ?_) (fun hc => ?_)
        · have hf := iff_ hc hf
          refine lv_dload_n hx hb dX9_share_69 rfl (lv_at hl 1 rfl) ?_
          refine lv_dload hx hb dX9_share_70 (lv_at hl 0 rfl) ?_
          obtain ⟨hnn, hf⟩ := ifn hf
          refine lv_ddiv hx hb dX9_share_72 hnn ?_
          have hz := Option.some.inj hf
          have hzV := congrArg (fun z : UInt64 × Mem => z.1) hz
          have hzI := congrArg (fun z : UInt64 × Mem => z.2) hz
          exact aw_dret C0 hW hzV hzI rfl dX9_share_73
        · have hf := ift hc hf
          refine lv_dconst0 hx hb dX9_share_65 ?_
          refine lv_goto (tgt := 73) hx hb dX9_share_66 rfl ?_
          have hz := Option.some.inj hf
          have hzV := congrArg (fun z : UInt64 × Mem => z.1) hz
          have hzI := congrArg (fun z : UInt64 × Mem => z.2) hz
          exact aw_dret C0 hW hzV hzI rfl dX9_share_73
      have hf := hq4
      refine lv_if_ne (tgt := 38) hx hb dX9_share_31 rfl (fun hc => ?_) (fun hc => ?_)
      · have hf := iff_ hc hf
        refine lv_aload_n hx hb dX9_share_38 rfl (lv_at hl 0 rfl) ?_
        refine lv_iload_n hx hb dX9_share_39 rfl (lv_at hl 1 rfl) ?_
        refine lv_iload_n hx hb dX9_share_40 rfl (lv_at hl 2 rfl) ?_
        refine lv_iconst (v := 2) hx hb dX9_share_41 (by decide) ?_
        obtain ⟨q5, hq5, hf⟩ := bnd hf
        refine aw_cVi (rest := []) C0 hW (lv_fix (by decide)) (cel_8 kd70) rfl (c_X9_rowsOf x1 x2 2  hq5) (cw_X9_163 hts ⟨Nat.le_of_ble_eq_true rfl, Nat.le_of_ble_eq_true rfl⟩) rfl hl.1 rfl (Nat.le_of_ble_eq_true rfl) ⟨Nat.zero_le _, Nat.zero_le _⟩ dX9_share_42 (fun H locs hW => ?_)
        obtain ⟨q6, hq6, hf⟩ := bnd hf
        refine aw_cSi (rest := []) C0 hW (c_X9_bits q5.1  hq6) (cw_X9_166 hts ⟨Nat.le_of_ble_eq_true rfl, Nat.le_of_ble_eq_true rfl⟩) rfl hl.1 rfl (Nat.le_of_ble_eq_true rfl) ⟨Nat.zero_le _, Nat.zero_le _⟩ dX9_share_45 (fun H locs hW => ?_)
        refine lv_i2d hx hb dX9_share_48 ?_
        have ho := Option.some.inj hf
        subst ho
        exact J49_q4 H locs ls hW (lv_sub hl [0, 1] rfl)
      · have hf := ift hc hf
        refine lv_dconst0 hx hb dX9_share_34 ?_
        refine lv_goto (tgt := 49) hx hb dX9_share_35 rfl ?_
        have ho := Option.some.inj hf
        subst ho
        exact J49_q4 H locs ls hW (lv_sub hl [0, 1] rfl)
    · have hf := ift hc hf
      refine lv_aload_n hx hb dX9_share_19 rfl (lv_at hl 0 rfl) ?_
      refine lv_iconst (v := 1) hx hb dX9_share_20 (by decide) ?_
      refine aw_put C0 hW (lv_fix (by decide)) (cel_8 kd70) rfl inG8 tyX9 tyX9_ok nmX9 7 (by decide) wd79 rfl rfl (ty := .int) rfl rfl rfl (Nat.le_of_ble_eq_true rfl) (pu_8_7 kd70) dX9_share_21 (fun H locs hW => ?_)
      refine lv_dconst0 hx hb dX9_share_24 ?_
      have hz := Option.some.inj hf
      have hzV := congrArg (fun z : UInt64 × Mem => z.1) hz
      have hzI := congrArg (fun z : UInt64 × Mem => z.2) hz
      exact aw_dret C0 hW hzV hzI rfl dX9_share_25
def f_X9_thrown (I : Mem) : Option (Int32) :=
  some (I 70 7)
abbrev rmX9_thrown : Room := { frames := 0, cells := 0, slots := 0, locals := 0 }
set_option maxHeartbeats 4000000 in
set_option maxRecDepth 100000 in
theorem c_X9_thrown {l : Launch} {g : Gam} {I : Mem} {R : Rem} {P : Pool} {Z : Zed}   {z : Int32} (hf : f_X9_thrown I = some z) : Met l yX9_thrown (Cond.code yX9_thrown cX9_thrown 1 (some .int) :: GT) rmX9_thrown (va_Pc [.ref (g.2.2 + 70)] (PW g I R P Z)) (QI g z I R P Z) 0 0 (AA g) := by
  refine aw_ofW (lv0 := [(0, .ref (g.2.2 + 70))]) (by decide) (by exact Nat.le_of_ble_eq_true rfl) (by rfl) (fun p0 e s m args below meth c ls C0 hl hW => ?_)
  have C0 : CX g p0 s m args meth c RX9 cX9_thrown 1 (some .int) := C0
  have hx := C0.1; have hb := C0.2.1; have hown := C0.2.2.2.2.1; have hts := C0.2.2.2.2.2.1; have hKS := C0.2.2.2.2.2.2.1
  unfold f_X9_thrown at hf
  obtain ⟨H, hH⟩ : ∃ H, H = s.heap := ⟨_, rfl⟩
  obtain ⟨locs, hlc⟩ : ∃ q : List Loc, q = [] := ⟨_, rfl⟩
  rw [show W p0 l e rmX9_thrown s m args below meth c s.heap [] 0 0 (MQ below (QI g z I R P Z) args s 0 0 (AA g)) (F0 m 0 ls []) = W p0 l e rmX9_thrown s m args below meth c H locs 0 0 (MQ below (QI g z I R P Z) args s 0 0 (AA g)) (F0 m 0 ls []) by rw [hH, hlc]]
  have hW : Wd g I R P Z s.heap H locs := by rw [hH, hlc]; exact hW
  refine lv_aload_n hx hb dX9_thrown_0 rfl (lv_at hl 0 rfl) ?_
  refine aw_get (v := .int (I 70 7)) C0 hW (lv_fix (by decide)) (cel_8 kd70) rfl inG8 7 (by decide) wd79 rfl rfl dX9_thrown_1 ?_
  have hz := Option.some.inj hf
  exact aw_iret C0 hW hz rfl rfl dX9_thrown_4
def f_X9_truth (x1 : Int32) (x2 : Int32) (x3 : Int32) (I : Mem) : Option (Int32 × Mem) :=
  (f_X9_isRow x1 x2 ((up I 70 7 0))).bind fun q1 =>
  if q1 = 0 then (
    (f_X9_refuses 1 ((up I 70 7 0))).bind fun q2 =>
    some (q2.1, q2.2)
  ) else (
    (f_X9_isSlot x3).bind fun q3 =>
    if q3 = 0 then (
      (f_X9_refuses 1 ((up I 70 7 0))).bind fun q6 =>
      some (q6.1, q6.2)
    ) else (
      (f_X9_parts x3 ((up I 70 7 0))).bind fun q4 =>
      if q4 = 0 then (
        some ((-2), (up I 70 7 0))
      ) else (
        (f_X9_truthAt x1 x2 x3 ((up I 70 7 0))).bind fun q5 =>
        some (q5.1, q5.2)
      )
    )
  )
abbrev rmX9_truth : Room := { frames := 4, cells := 0, slots := 0, locals := 92 }
set_option maxHeartbeats 4000000 in
set_option maxRecDepth 100000 in
theorem c_X9_truth {l : Launch} {g : Gam} {I : Mem} {R : Rem} {P : Pool} {Z : Zed} (x1 : Int32) (x2 : Int32) (x3 : Int32)  {z : Int32 × Mem} (hf : f_X9_truth x1 x2 x3 I = some z) : Met l yX9_truth (Cond.code yX9_truth cX9_truth 4 (some .int) :: GT) rmX9_truth (va_Pc [.ref (g.2.2 + 70), .int x1, .int x2, .int x3] (PW g I R P Z)) (QI g z.1 z.2 R P Z) 0 0 (AA g) := by
  refine aw_ofW (lv0 := [(0, .ref (g.2.2 + 70)), (1, .int x1), (2, .int x2), (3, .int x3)]) (by decide) (by exact Nat.le_of_ble_eq_true rfl) (by rfl) (fun p0 e s m args below meth c ls C0 hl hW => ?_)
  have C0 : CX g p0 s m args meth c RX9 cX9_truth 4 (some .int) := C0
  have hx := C0.1; have hb := C0.2.1; have hown := C0.2.2.2.2.1; have hts := C0.2.2.2.2.2.1; have hKS := C0.2.2.2.2.2.2.1
  unfold f_X9_truth at hf
  obtain ⟨H, hH⟩ : ∃ H, H = s.heap := ⟨_, rfl⟩
  obtain ⟨locs, hlc⟩ : ∃ q : List Loc, q = [] := ⟨_, rfl⟩
  rw [show W p0 l e rmX9_truth s m args below meth c s.heap [] 0 0 (MQ below (QI g z.1 z.2 R P Z) args s 0 0 (AA g)) (F0 m 0 ls []) = W p0 l e rmX9_truth s m args below meth c H locs 0 0 (MQ below (QI g z.1 z.2 R P Z) args s 0 0 (AA g)) (F0 m 0 ls []) by rw [hH, hlc]]
  have hW : Wd g I R P Z s.heap H locs := by rw [hH, hlc]; exact hW
  refine lv_aload_n hx hb dX9_truth_0 rfl (lv_at hl 0 rfl) ?_
  refine lv_iconst (v := 0) hx hb dX9_truth_1 (by decide) ?_
  refine aw_put C0 hW (lv_fix (by decide)) (cel_8 kd70) rfl inG8 tyX9 tyX9_ok nmX9 7 (by decide) wd79 rfl rfl (ty := .int) rfl rfl rfl (Nat.le_of_ble_eq_true rfl) (pu_8_7 kd70) dX9_truth_2 (fun H locs hW => ?_)
  refine lv_aload_n hx hb dX9_truth_5 rfl (lv_at hl 0 rfl) ?_
  refine lv_iload_n hx hb dX9_truth_6 rfl (lv_at hl 1 rfl) ?_
  refine lv_iload_n hx hb dX9_truth_7 rfl (lv_at hl 2 rfl) ?_
  obtain ⟨q1, hq1, hf⟩ := bnd hf
  refine aw_cVi (rest := []) C0 hW (lv_fix (by decide)) (cel_8 kd70) rfl (c_X9_isRow x1 x2  hq1) (cw_X9_132 hts ⟨Nat.le_of_ble_eq_true rfl, Nat.le_of_ble_eq_true rfl⟩) rfl hl.1 rfl (Nat.le_of_ble_eq_true rfl) ⟨Nat.zero_le _, Nat.zero_le _⟩ dX9_truth_8 (fun H locs hW => ?_)
  refine lv_if_eq (tgt := 21) hx hb dX9_truth_11 rfl (fun hc => ?_) (fun hc => ?_)
  · have hf := ift hc hf
    refine lv_aload_n hx hb dX9_truth_21 rfl (lv_at hl 0 rfl) ?_
    refine lv_iconst (v := 1) hx hb dX9_truth_22 (by decide) ?_
    obtain ⟨q2, hq2, hf⟩ := bnd hf
    refine aw_cVi (rest := []) C0 hW (lv_fix (by decide)) (cel_8 kd70) rfl (c_X9_refuses 1  hq2) (cw_X9_119 hts ⟨Nat.le_of_ble_eq_true rfl, Nat.le_of_ble_eq_true rfl⟩) rfl hl.1 rfl (Nat.le_of_ble_eq_true rfl) ⟨Nat.zero_le _, Nat.zero_le _⟩ dX9_truth_23 (fun H locs hW => ?_)
    have hz := Option.some.inj hf
    have hzV := congrArg (fun z : Int32 × Mem => z.1) hz
    have hzI := congrArg (fun z : Int32 × Mem => z.2) hz
    exact aw_iret C0 hW hzV hzI rfl dX9_truth_26
  · have hf := iff_ hc hf
    refine lv_iload_n hx hb dX9_truth_14 rfl (lv_at hl 3 rfl) ?_
    obtain ⟨q3, hq3, hf⟩ := bnd hf
    refine aw_cSi (rest := []) C0 hW (c_X9_isSlot x3  hq3) (cw_X9_147 hts ⟨Nat.le_of_ble_eq_true rfl, Nat.le_of_ble_eq_true rfl⟩) rfl hl.1 rfl (Nat.le_of_ble_eq_true rfl) ⟨Nat.zero_le _, Nat.zero_le _⟩ dX9_truth_15 (fun H locs hW => ?_)
    refine lv_if_ne (tgt := 27) hx hb dX9_truth_18 rfl (fun hc => ?_) (fun hc => ?_)
    · have hf := iff_ hc hf
      refine lv_aload_n hx hb dX9_truth_27 rfl (lv_at hl 0 rfl) ?_
      refine lv_iload_n hx hb dX9_truth_28 rfl (lv_at hl 3 rfl) ?_
      obtain ⟨q4, hq4, hf⟩ := bnd hf
      refine aw_cVi (rest := []) C0 hW (lv_fix (by decide)) (cel_8 kd70) rfl (c_X9_parts x3  hq4) (cw_X9_92 hts ⟨Nat.le_of_ble_eq_true rfl, Nat.le_of_ble_eq_true rfl⟩) rfl hl.1 rfl (Nat.le_of_ble_eq_true rfl) ⟨Nat.zero_le _, Nat.zero_le _⟩ dX9_truth_29 (fun H locs hW => ?_)
      refine lv_if_ne (tgt := 40) hx hb dX9_truth_32 rfl (fun hc => ?_) (fun hc => ?_)
      · have hf := iff_ hc hf
        refine lv_aload_n hx hb dX9_truth_40 rfl (lv_at hl 0 rfl) ?_
        refine lv_iload_n hx hb dX9_truth_41 rfl (lv_at hl 1 rfl) ?_
        refine lv_iload_n hx hb dX9_truth_42 rfl (lv_at hl 2 rfl) ?_
        refine lv_iload_n hx hb dX9_truth_43 rfl (lv_at hl 3 rfl) ?_
        obtain ⟨q5, hq5, hf⟩ := bnd hf
        refine aw_cVi (rest := []) C0 hW (lv_fix (by decide)) (cel_8 kd70) rfl (c_X9_truthAt x1 x2 x3  hq5) (cw_X9_116 hts ⟨Nat.le_of_ble_eq_true rfl, Nat.le_of_ble_eq_true rfl⟩) rfl hl.1 rfl (Nat.le_of_ble_eq_true rfl) ⟨Nat.zero_le _, Nat.zero_le _⟩ dX9_truth_44 (fun H locs hW => ?_)
        have hz := Option.some.inj hf
        have hzV := congrArg (fun z : Int32 × Mem => z.1) hz
        have hzI := congrArg (fun z : Int32 × Mem => z.2) hz
        exact aw_iret C0 hW hzV hzI rfl dX9_truth_47
      · have hf := ift hc hf
        refine lv_bipush (v := (-2)) hx hb dX9_truth_35 (by decide) ?_
        refine lv_goto (tgt := 47) hx hb dX9_truth_37 rfl ?_
        have hz := Option.some.inj hf
        have hzV := congrArg (fun z : Int32 × Mem => z.1) hz
        have hzI := congrArg (fun z : Int32 × Mem => z.2) hz
        exact aw_iret C0 hW hzV hzI rfl dX9_truth_47
    · have hf := ift hc hf
      refine lv_aload_n hx hb dX9_truth_21 rfl (lv_at hl 0 rfl) ?_
      refine lv_iconst (v := 1) hx hb dX9_truth_22 (by decide) ?_
      obtain ⟨q6, hq6, hf⟩ := bnd hf
      refine aw_cVi (rest := []) C0 hW (lv_fix (by decide)) (cel_8 kd70) rfl (c_X9_refuses 1  hq6) (cw_X9_119 hts ⟨Nat.le_of_ble_eq_true rfl, Nat.le_of_ble_eq_true rfl⟩) rfl hl.1 rfl (Nat.le_of_ble_eq_true rfl) ⟨Nat.zero_le _, Nat.zero_le _⟩ dX9_truth_23 (fun H locs hW => ?_)
      have hz := Option.some.inj hf
      have hzV := congrArg (fun z : Int32 × Mem => z.1) hz
      have hzI := congrArg (fun z : Int32 × Mem => z.2) hz
      exact aw_iret C0 hW hzV hzI rfl dX9_truth_26
def f_X9_undo (P : Pool) (I : Mem) : Option (Int32 × Mem) :=
  if ((up I 70 7 0) 70 2) = 0 then (
    (f_X9_refuses 1 ((up I 70 7 0))).bind fun q2 =>
    some (q2.1, q2.2)
  ) else (
    (f_X9_lays 72 (619 * ((up (up I 70 7 0) 70 2 (((up I 70 7 0) 70 2) - 1)) 70 2)) 71 0 P ((up (up I 70 7 0) 70 2 (((up I 70 7 0) 70 2) - 1)))).bind fun q1 =>
    some (q1 70 2, q1)
  )
abbrev rmX9_undo : Room := { frames := 1, cells := 0, slots := 0, locals := 24 }
set_option maxHeartbeats 4000000 in
set_option maxRecDepth 100000 in
theorem c_X9_undo {l : Launch} {g : Gam} {I : Mem} {R : Rem} {P : Pool} {Z : Zed}   {z : Int32 × Mem} (hf : f_X9_undo P I = some z) : Met l yX9_undo (Cond.code yX9_undo cX9_undo 1 (some .int) :: GT) rmX9_undo (va_Pc [.ref (g.2.2 + 70)] (PW g I R P Z)) (QI g z.1 z.2 R P Z) 0 0 (AA g) := by
  refine aw_ofW (lv0 := [(0, .ref (g.2.2 + 70))]) (by decide) (by exact Nat.le_of_ble_eq_true rfl) (by rfl) (fun p0 e s m args below meth c ls C0 hl hW => ?_)
  have C0 : CX g p0 s m args meth c RX9 cX9_undo 1 (some .int) := C0
  have hx := C0.1; have hb := C0.2.1; have hown := C0.2.2.2.2.1; have hts := C0.2.2.2.2.2.1; have hKS := C0.2.2.2.2.2.2.1
  unfold f_X9_undo at hf
  obtain ⟨H, hH⟩ : ∃ H, H = s.heap := ⟨_, rfl⟩
  obtain ⟨locs, hlc⟩ : ∃ q : List Loc, q = [] := ⟨_, rfl⟩
  rw [show W p0 l e rmX9_undo s m args below meth c s.heap [] 0 0 (MQ below (QI g z.1 z.2 R P Z) args s 0 0 (AA g)) (F0 m 0 ls []) = W p0 l e rmX9_undo s m args below meth c H locs 0 0 (MQ below (QI g z.1 z.2 R P Z) args s 0 0 (AA g)) (F0 m 0 ls []) by rw [hH, hlc]]
  have hW : Wd g I R P Z s.heap H locs := by rw [hH, hlc]; exact hW
  refine lv_aload_n hx hb dX9_undo_0 rfl (lv_at hl 0 rfl) ?_
  refine lv_iconst (v := 0) hx hb dX9_undo_1 (by decide) ?_
  refine aw_put C0 hW (lv_fix (by decide)) (cel_8 kd70) rfl inG8 tyX9 tyX9_ok nmX9 7 (by decide) wd79 rfl rfl (ty := .int) rfl rfl rfl (Nat.le_of_ble_eq_true rfl) (pu_8_7 kd70) dX9_undo_2 (fun H locs hW => ?_)
  refine lv_aload_n hx hb dX9_undo_5 rfl (lv_at hl 0 rfl) ?_
  refine aw_get (v := .int ((up I 70 7 0) 70 2)) C0 hW (lv_fix (by decide)) (cel_8 kd70) rfl inG8 2 (by decide) wd80 rfl rfl dX9_undo_6 ?_
  refine lv_if_ne (tgt := 18) hx hb dX9_undo_9 rfl (fun hc => ?_) (fun hc => ?_)
  · have hf := iff_ hc hf
    refine lv_aload_n hx hb dX9_undo_18 rfl (lv_at hl 0 rfl) ?_
    refine lv_dup hx hb dX9_undo_19 rfl ?_
    refine aw_get (v := .int ((up I 70 7 0) 70 2)) C0 hW (lv_fix (by decide)) (cel_8 kd70) rfl inG8 2 (by decide) wd80 rfl rfl dX9_undo_20 ?_
    refine lv_iconst (v := 1) hx hb dX9_undo_23 (by decide) ?_
    refine lv_isub hx hb dX9_undo_24 ?_
    refine aw_put C0 hW (lv_fix (by decide)) (cel_8 kd70) rfl inG8 tyX9 tyX9_ok nmX9 2 (by decide) wd80 rfl rfl (ty := .int) rfl rfl rfl (Nat.le_of_ble_eq_true rfl) (pu_8_2 kd70) dX9_undo_25 (fun H locs hW => ?_)
    refine lv_aload_n hx hb dX9_undo_28 rfl (lv_at hl 0 rfl) ?_
    refine aw_get (v := .ref (g.2.2 + 72)) C0 hW (lv_fix (by decide)) (cel_8 kd70) rfl inG8 1 (by decide) wd81 rfl rfl dX9_undo_29 ?_
    refine lv_sipush (v := 619) hx hb dX9_undo_32 (by decide) ?_
    refine lv_aload_n hx hb dX9_undo_35 rfl (lv_at hl 0 rfl) ?_
    refine aw_get (v := .int ((up (up I 70 7 0) 70 2 (((up I 70 7 0) 70 2) - 1)) 70 2)) C0 hW (lv_fix (by decide)) (cel_8 kd70) rfl inG8 2 (by decide) wd80 rfl rfl dX9_undo_36 ?_
    refine lv_imul hx hb dX9_undo_39 ?_
    refine lv_aload_n hx hb dX9_undo_40 rfl (lv_at hl 0 rfl) ?_
    refine aw_get (v := .ref (g.2.2 + 71)) C0 hW (lv_fix (by decide)) (cel_8 kd70) rfl inG8 0 (by decide) wd73 rfl rfl dX9_undo_41 ?_
    refine lv_iconst (v := 0) hx hb dX9_undo_44 (by decide) ?_
    obtain ⟨q1, hq1, hf⟩ := bnd hf
    refine aw_cSv (rest := []) C0 hW (c_X9_lays 72 (619 * ((up (up I 70 7 0) 70 2 (((up I 70 7 0) 70 2) - 1)) 70 2)) 71 0 kd72 kd71 hq1) (cw_X9_54 hts ⟨Nat.le_of_ble_eq_true rfl, Nat.le_of_ble_eq_true rfl⟩) rfl hl.1 rfl (Nat.le_of_ble_eq_true rfl) ⟨Nat.zero_le _, Nat.zero_le _⟩ dX9_undo_45 (fun H locs hW => ?_)
    refine lv_aload_n hx hb dX9_undo_48 rfl (lv_at hl 0 rfl) ?_
    refine aw_get (v := .int (q1 70 2)) C0 hW (lv_fix (by decide)) (cel_8 kd70) rfl inG8 2 (by decide) wd80 rfl rfl dX9_undo_49 ?_
    have hz := Option.some.inj hf
    have hzV := congrArg (fun z : Int32 × Mem => z.1) hz
    have hzI := congrArg (fun z : Int32 × Mem => z.2) hz
    exact aw_iret C0 hW hzV hzI rfl dX9_undo_52
  · have hf := ift hc hf
    refine lv_aload_n hx hb dX9_undo_12 rfl (lv_at hl 0 rfl) ?_
    refine lv_iconst (v := 1) hx hb dX9_undo_13 (by decide) ?_
    obtain ⟨q2, hq2, hf⟩ := bnd hf
    refine aw_cVi (rest := []) C0 hW (lv_fix (by decide)) (cel_8 kd70) rfl (c_X9_refuses 1  hq2) (cw_X9_119 hts ⟨Nat.le_of_ble_eq_true rfl, Nat.le_of_ble_eq_true rfl⟩) rfl hl.1 rfl (Nat.le_of_ble_eq_true rfl) ⟨Nat.zero_le _, Nat.zero_le _⟩ dX9_undo_14 (fun H locs hW => ?_)
    have hz := Option.some.inj hf
    have hzV := congrArg (fun z : Int32 × Mem => z.1) hz
    have hzI := congrArg (fun z : Int32 × Mem => z.2) hz
    exact aw_iret C0 hW hzV hzI rfl dX9_undo_17
def f_X9_wouldViolate (x1 : Int32) (x2 : Int32) (x3 : Int32) (x4 : Int32) (I : Mem) : Option (Int32 × Mem) :=
  (f_X9_parts (6 + x1) I).bind fun q1 =>
  if q1 = 0 then (
    some (0, I)
  ) else (
    (f_X9_takesRow x1 x2 I).bind fun q2 =>
    (wr q2 76 4 x3 x4).bind fun I3 =>
    (wr I3 77 4 x3 x4).bind fun I4 =>
    (f_X9_truthOf (6 + x1) I4).bind fun q5 =>
    if q5.1 = 0 then (
      some (1, q5.2)
    ) else (
      some (0, q5.2)
    )
  )
abbrev rmX9_wouldViolate : Room := { frames := 3, cells := 0, slots := 0, locals := 69 }
set_option maxHeartbeats 4000000 in
set_option maxRecDepth 100000 in
theorem c_X9_wouldViolate {l : Launch} {g : Gam} {I : Mem} {R : Rem} {P : Pool} {Z : Zed} (x1 : Int32) (x2 : Int32) (x3 : Int32) (x4 : Int32)  {z : Int32 × Mem} (hf : f_X9_wouldViolate x1 x2 x3 x4 I = some z) : Met l yX9_wouldViolate (Cond.code yX9_wouldViolate cX9_wouldViolate 5 (some .boolean) :: GT) rmX9_wouldViolate (va_Pc [.ref (g.2.2 + 70), .int x1, .int x2, .int x3, .int x4] (PW g I R P Z)) (QI g z.1 z.2 R P Z) 0 0 (AA g) := by
  refine aw_ofW (lv0 := [(0, .ref (g.2.2 + 70)), (1, .int x1), (2, .int x2), (3, .int x3), (4, .int x4)]) (by decide) (by exact Nat.le_of_ble_eq_true rfl) (by rfl) (fun p0 e s m args below meth c ls C0 hl hW => ?_)
  have C0 : CX g p0 s m args meth c RX9 cX9_wouldViolate 5 (some .boolean) := C0
  have hx := C0.1; have hb := C0.2.1; have hown := C0.2.2.2.2.1; have hts := C0.2.2.2.2.2.1; have hKS := C0.2.2.2.2.2.2.1
  unfold f_X9_wouldViolate at hf
  obtain ⟨H, hH⟩ : ∃ H, H = s.heap := ⟨_, rfl⟩
  obtain ⟨locs, hlc⟩ : ∃ q : List Loc, q = [] := ⟨_, rfl⟩
  rw [show W p0 l e rmX9_wouldViolate s m args below meth c s.heap [] 0 0 (MQ below (QI g z.1 z.2 R P Z) args s 0 0 (AA g)) (F0 m 0 ls []) = W p0 l e rmX9_wouldViolate s m args below meth c H locs 0 0 (MQ below (QI g z.1 z.2 R P Z) args s 0 0 (AA g)) (F0 m 0 ls []) by rw [hH, hlc]]
  have hW : Wd g I R P Z s.heap H locs := by rw [hH, hlc]; exact hW
  refine lv_aload_n hx hb dX9_wouldViolate_0 rfl (lv_at hl 0 rfl) ?_
  refine lv_bipush (v := 6) hx hb dX9_wouldViolate_1 (by decide) ?_
  refine lv_iload_n hx hb dX9_wouldViolate_3 rfl (lv_at hl 1 rfl) ?_
  refine lv_iadd hx hb dX9_wouldViolate_4 ?_
  obtain ⟨q1, hq1, hf⟩ := bnd hf
  refine aw_cVi (rest := []) C0 hW (lv_fix (by decide)) (cel_8 kd70) rfl (c_X9_parts (6 + x1)  hq1) (cw_X9_92 hts ⟨Nat.le_of_ble_eq_true rfl, Nat.le_of_ble_eq_true rfl⟩) rfl hl.1 rfl (Nat.le_of_ble_eq_true rfl) ⟨Nat.zero_le _, Nat.zero_le _⟩ dX9_wouldViolate_5 (fun H locs hW => ?_)
  refine lv_if_ne (tgt := 13) hx hb dX9_wouldViolate_8 rfl (fun hc => ?_) (fun hc => ?_)
  · have hf := iff_ hc hf
    refine lv_aload_n hx hb dX9_wouldViolate_13 rfl (lv_at hl 0 rfl) ?_
    refine lv_iload_n hx hb dX9_wouldViolate_14 rfl (lv_at hl 1 rfl) ?_
    refine lv_iload_n hx hb dX9_wouldViolate_15 rfl (lv_at hl 2 rfl) ?_
    obtain ⟨q2, hq2, hf⟩ := bnd hf
    refine aw_cVv (rest := []) C0 hW (lv_fix (by decide)) (cel_8 kd70) rfl (c_X9_takesRow x1 x2  hq2) (cw_X9_109 hts ⟨Nat.le_of_ble_eq_true rfl, Nat.le_of_ble_eq_true rfl⟩) rfl hl.1 rfl (Nat.le_of_ble_eq_true rfl) ⟨Nat.zero_le _, Nat.zero_le _⟩ dX9_wouldViolate_16 (fun H locs hW => ?_)
    refine lv_aload_n hx hb dX9_wouldViolate_19 rfl (lv_at hl 0 rfl) ?_
    refine aw_get (v := .ref (g.2.2 + 76)) C0 hW (lv_fix (by decide)) (cel_8 kd70) rfl inG8 8 (by decide) wd82 rfl rfl dX9_wouldViolate_20 ?_
    refine lv_iload_n hx hb dX9_wouldViolate_23 rfl (lv_at hl 3 rfl) ?_
    refine lv_iload hx hb dX9_wouldViolate_24 (lv_at hl 4 rfl) ?_
    obtain ⟨I3, hI3, hf⟩ := bnd hf
    refine aw_iast C0 hW kd76 ln76 hI3 dX9_wouldViolate_26 (fun H locs hW => ?_)
    refine lv_aload_n hx hb dX9_wouldViolate_27 rfl (lv_at hl 0 rfl) ?_
    refine aw_get (v := .ref (g.2.2 + 77)) C0 hW (lv_fix (by decide)) (cel_8 kd70) rfl inG8 9 (by decide) wd83 rfl rfl dX9_wouldViolate_28 ?_
    refine lv_iload_n hx hb dX9_wouldViolate_31 rfl (lv_at hl 3 rfl) ?_
    refine lv_iload hx hb dX9_wouldViolate_32 (lv_at hl 4 rfl) ?_
    obtain ⟨I4, hI4, hf⟩ := bnd hf
    refine aw_iast C0 hW kd77 ln77 hI4 dX9_wouldViolate_34 (fun H locs hW => ?_)
    refine lv_aload_n hx hb dX9_wouldViolate_35 rfl (lv_at hl 0 rfl) ?_
    refine lv_bipush (v := 6) hx hb dX9_wouldViolate_36 (by decide) ?_
    refine lv_iload_n hx hb dX9_wouldViolate_38 rfl (lv_at hl 1 rfl) ?_
    refine lv_iadd hx hb dX9_wouldViolate_39 ?_
    obtain ⟨q5, hq5, hf⟩ := bnd hf
    refine aw_cVi (rest := []) C0 hW (lv_fix (by decide)) (cel_8 kd70) rfl (c_X9_truthOf (6 + x1)  hq5) (cw_X9_113 hts ⟨Nat.le_of_ble_eq_true rfl, Nat.le_of_ble_eq_true rfl⟩) rfl hl.1 rfl (Nat.le_of_ble_eq_true rfl) ⟨Nat.zero_le _, Nat.zero_le _⟩ dX9_wouldViolate_40 (fun H locs hW => ?_)
    refine lv_if_ne (tgt := 50) hx hb dX9_wouldViolate_43 rfl (fun hc => ?_) (fun hc => ?_)
    · have hf := iff_ hc hf
      refine lv_iconst (v := 0) hx hb dX9_wouldViolate_50 (by decide) ?_
      have hz := Option.some.inj hf
      have hzV := congrArg (fun z : Int32 × Mem => z.1) hz
      have hzI := congrArg (fun z : Int32 × Mem => z.2) hz
      exact aw_zret C0 hW rfl hzV hzI rfl dX9_wouldViolate_51
    · have hf := ift hc hf
      refine lv_iconst (v := 1) hx hb dX9_wouldViolate_46 (by decide) ?_
      refine lv_goto (tgt := 51) hx hb dX9_wouldViolate_47 rfl ?_
      have hz := Option.some.inj hf
      have hzV := congrArg (fun z : Int32 × Mem => z.1) hz
      have hzI := congrArg (fun z : Int32 × Mem => z.2) hz
      exact aw_zret C0 hW rfl hzV hzI rfl dX9_wouldViolate_51
  · have hf := ift hc hf
    refine lv_iconst (v := 0) hx hb dX9_wouldViolate_11 (by decide) ?_
    have hz := Option.some.inj hf
    have hzV := congrArg (fun z : Int32 × Mem => z.1) hz
    have hzI := congrArg (fun z : Int32 × Mem => z.2) hz
    exact aw_zret C0 hW rfl hzV hzI rfl dX9_wouldViolate_12
theorem cw_X9_172 {Rm : Room} {s : State} {args : Array Value} (ht : ∀ w ∈ GT, w.before args s = true) (hR : rmX9_wouldViolate.frames + 1 ≤ Rm.frames ∧ 8 + (5 + 11) + rmX9_wouldViolate.locals ≤ Rm.locals) : CallW Rm s args RX9 RX9 172 yX9_wouldViolate cX9_wouldViolate 5 (some .boolean) (Cond.code yX9_wouldViolate cX9_wouldViolate 5 (some .boolean) :: GT) rmX9_wouldViolate 0 0 4 := cwV 4 ht (goodV wd681 wd682 wd683 wd607 wd684) rfl rfl rfl ⟨rfl, by decide +kernel, by decide +kernel, by decide +kernel⟩ hR
def f_X9_update_L79 (x1 : Int32) (x2 : Int32) (x3 : Int32) (x4 : Int32) (P : Pool) (y5 : Int32) : Nat → Int32 → Int32 → Mem → Option (Int32 × Mem)
  | 0, _, _, _ => none
  | n + 1, w6, w7, I =>
    (f_X9_many x1 I).bind fun q10 =>
    if q10 ≤ w7 then (
      some (w6, I)
    ) else (
      if w6 = 0 then (
        if ((y5 >>> (w7 &&& 31)) &&& 1) = 1 then (
          (f_X9_wouldViolate x1 w7 x3 x4 I).bind fun q11 =>
          if q11.1 = 0 then (
            f_X9_update_L79 x1 x2 x3 x4 P y5 n 0 (w7 + 1) q11.2
          ) else (
            f_X9_update_L79 x1 x2 x3 x4 P y5 n 1 (w7 + 1) q11.2
          )
        ) else (
          f_X9_update_L79 x1 x2 x3 x4 P y5 n 0 (w7 + 1) I
        )
      ) else (
        f_X9_update_L79 x1 x2 x3 x4 P y5 n 1 (w7 + 1) I
      )
    )
def f_X9_update_L154 (x1 : Int32) (x2 : Int32) (x3 : Int32) (x4 : Int32) (P : Pool) (y5 : Int32) : Nat → Int32 → Mem → Option (Mem)
  | 0, _, _ => none
  | n + 1, w7, I =>
    (f_X9_many x1 I).bind fun q13 =>
    if q13 ≤ w7 then (
      some I
    ) else (
      (f_X9_at x1 w7 x3).bind fun q14 =>
      if ((y5 >>> (w7 &&& 31)) &&& 1) = 1 then (
        (wr I 71 619 q14 x4).bind fun I17 =>
        f_X9_update_L154 x1 x2 x3 x4 P y5 n (w7 + 1) I17
      ) else (
        (f_X9_of x1 w7 x3 I).bind fun q15 =>
        (wr I 71 619 q14 q15).bind fun I16 =>
        f_X9_update_L154 x1 x2 x3 x4 P y5 n (w7 + 1) I16
      )
    )
def f_X9_update (x1 : Int32) (x2 : Int32) (x3 : Int32) (x4 : Int32) (P : Pool) (I : Mem) : Option (Int32 × Mem) :=
  (f_X9_isTable x1).bind fun q1 =>
  if q1 = 0 then (
    (f_X9_refuses 1 ((up I 70 7 0))).bind fun q2 =>
    some (q2.1, q2.2)
  ) else (
    (f_X9_isSlot x2).bind fun q3 =>
    if q3 = 0 then (
      (f_X9_refuses 1 ((up I 70 7 0))).bind fun q4 =>
      some (q4.1, q4.2)
    ) else (
      (f_X9_isColumn x3).bind fun q5 =>
      if q5 = 0 then (
        (f_X9_refuses 1 ((up I 70 7 0))).bind fun q24 =>
        some (q24.1, q24.2)
      ) else (
        (f_X9_isValue x4).bind fun q6 =>
        if q6 = 0 then (
          (f_X9_refuses 2 ((up I 70 7 0))).bind fun q23 =>
          some (q23.1, q23.2)
        ) else (
          (f_X9_parts x2 ((up I 70 7 0))).bind fun q7 =>
          if q7 = 0 then (
            (f_X9_refuses 3 ((up I 70 7 0))).bind fun q22 =>
            some (q22.1, q22.2)
          ) else (
            (f_X9_saves P ((up I 70 7 0))).bind fun q8 =>
            (f_X9_rowsOf x1 x2 2 q8).bind fun q9 =>
            (f_X9_update_L79 x1 x2 x3 x4 P q9.1 fuel 0 0 q9.2).bind fun q12 =>
            if q12.1 = 0 then (
              (f_X9_update_L154 x1 x2 x3 x4 P q9.1 fuel 0 q12.2).bind fun q18 =>
              (f_X9_bits q9.1).bind fun q19 =>
              some (q19, q18)
            ) else (
              (rd q12.2 71 619 618).bind fun v20 =>
              (wr q12.2 71 619 618 (v20 + 1)).bind fun I21 =>
              some ((-2), I21)
            )
          )
        )
      )
    )
  )
abbrev rmX9_update : Room := { frames := 5, cells := 0, slots := 0, locals := 117 }
set_option maxHeartbeats 4000000 in
set_option maxRecDepth 100000 in
theorem c_X9_update {l : Launch} {g : Gam} {I : Mem} {R : Rem} {P : Pool} {Z : Zed} (x1 : Int32) (x2 : Int32) (x3 : Int32) (x4 : Int32)  {z : Int32 × Mem} (hf : f_X9_update x1 x2 x3 x4 P I = some z) : Met l yX9_update (Cond.code yX9_update cX9_update 8 (some .int) :: GT) rmX9_update (va_Pc [.ref (g.2.2 + 70), .int x1, .int x2, .int x3, .int x4] (PW g I R P Z)) (QI g z.1 z.2 R P Z) 0 0 (AA g) := by
  refine aw_ofW (lv0 := [(0, .ref (g.2.2 + 70)), (1, .int x1), (2, .int x2), (3, .int x3), (4, .int x4)]) (by decide) (by exact Nat.le_of_ble_eq_true rfl) (by rfl) (fun p0 e s m args below meth c ls C0 hl hW => ?_)
  have C0 : CX g p0 s m args meth c RX9 cX9_update 8 (some .int) := C0
  have hx := C0.1; have hb := C0.2.1; have hown := C0.2.2.2.2.1; have hts := C0.2.2.2.2.2.1; have hKS := C0.2.2.2.2.2.2.1
  have L79 : ∀ (y5 : Int32) (n : Nat) (w6 : Int32) (w7 : Int32) (I : Mem) (H : Heap) (locs : List Loc) (ls : Array Slot) (o : Int32 × Mem), f_X9_update_L79 x1 x2 x3 x4 P y5 n w6 w7 I = some o → Wd g I R P Z s.heap H locs → lv_has ls 8 [(0, .ref (g.2.2 + 70)), (1, .int x1), (3, .int x3), (4, .int x4), (5, .int y5), (6, .int w6), (7, .int w7)] → (∀ (H : Heap) (locs : List Loc) (ls : Array Slot), Wd g o.2 R P Z s.heap H locs → lv_has ls 8 [(0, .ref (g.2.2 + 70)), (1, .int x1), (3, .int x3), (4, .int x4), (5, .int y5), (6, .int o.1)] → W p0 l e rmX9_update s m args below meth c H locs 0 0 (MQ below (QI g z.1 z.2 R P Z) args s 0 0 (AA g)) (F0 m 131 ls [])) → W p0 l e rmX9_update s m args below meth c H locs 0 0 (MQ below (QI g z.1 z.2 R P Z) args s 0 0 (AA g)) (F0 m 79 ls []) := by
    intro y5 n
    induction n with
    | zero => intro w6 w7 I H locs ls o hf; cases hf
    | succ n ih =>
      intro w6 w7 I H locs ls o hf hW hl hK
      rw [f_X9_update_L79] at hf
      refine lv_iload hx hb dX9_update_79 (lv_at hl 6 rfl) ?_
      refine lv_aload_n hx hb dX9_update_81 rfl (lv_at hl 0 rfl) ?_
      refine lv_iload_n hx hb dX9_update_82 rfl (lv_at hl 1 rfl) ?_
      obtain ⟨q10, hq10, hf⟩ := bnd hf
      refine aw_cVi (rest := [.int w7]) C0 hW (lv_fix (by decide)) (cel_8 kd70) rfl (c_X9_many x1  hq10) (cw_X9_70 hts ⟨Nat.le_of_ble_eq_true rfl, Nat.le_of_ble_eq_true rfl⟩) rfl hl.1 rfl (Nat.le_of_ble_eq_true rfl) ⟨Nat.zero_le _, Nat.zero_le _⟩ dX9_update_83 (fun H locs hW => ?_)
      refine lv_icmp_ge (tgt := 131) hx hb dX9_update_86 rfl (fun hc => ?_) (fun hc => ?_)
      · have hf := ift hc hf
        have ho := Option.some.inj hf
        subst ho
        exact hK H locs ls hW (lv_sub hl [0, 1, 2, 3, 4, 5] rfl)
      · have hf := iff_ hc hf
        refine lv_iload hx hb dX9_update_89 (lv_at hl 5 rfl) ?_
        refine lv_if_ne (tgt := 118) hx hb dX9_update_91 rfl (fun hc => ?_) (fun hc => ?_)
        · have hf := iff_ hc hf
          refine lv_iconst (v := 1) hx hb dX9_update_118 (by decide) ?_
          refine lv_goto (tgt := 123) hx hb dX9_update_119 rfl ?_
          refine lv_istore (lv' := [(6, .int 1), (0, .ref (g.2.2 + 70)), (1, .int x1), (3, .int x3), (4, .int x4), (5, .int y5), (7, .int w7)]) hx hb dX9_update_123 hl (Nat.le_of_ble_eq_true rfl) rfl (fun ls hl => ?_)
          refine lv_iinc (k := 6) (v := w7 + 1) (lv' := [(7, .int (w7 + 1)), (6, .int 1), (0, .ref (g.2.2 + 70)), (1, .int x1), (3, .int x3), (4, .int x4), (5, .int y5)]) hx hb dX9_update_125 hl rfl (congrArg (fun t => w7 + t) (by decide : Int32.ofInt 1 = 1)) (Nat.le_of_ble_eq_true rfl) rfl (fun ls hl => ?_)
          refine lv_goto (tgt := 79) hx hb dX9_update_128 rfl ?_
          exact ih _ _ _ H locs ls o hf hW (lv_sub hl [2, 3, 4, 5, 6, 1, 0] rfl) hK
        · have hf := ift hc hf
          refine lv_iload hx hb dX9_update_94 (lv_at hl 4 rfl) ?_
          refine lv_iload hx hb dX9_update_96 (lv_at hl 6 rfl) ?_
          refine lv_ishr hx hb dX9_update_98 ?_
          refine lv_iconst (v := 1) hx hb dX9_update_99 (by decide) ?_
          refine lv_iand hx hb dX9_update_100 ?_
          refine lv_iconst (v := 1) hx hb dX9_update_101 (by decide) ?_
          refine lv_icmp_ne (tgt := 122) hx hb dX9_update_102 rfl (fun hc => ?_) (fun hc => ?_)
          · have hf := iff_ hc hf
            refine lv_iconst (v := 0) hx hb dX9_update_122 (by decide) ?_
            refine lv_istore (lv' := [(6, .int 0), (0, .ref (g.2.2 + 70)), (1, .int x1), (3, .int x3), (4, .int x4), (5, .int y5), (7, .int w7)]) hx hb dX9_update_123 hl (Nat.le_of_ble_eq_true rfl) rfl (fun ls hl => ?_)
            refine lv_iinc (k := 6) (v := w7 + 1) (lv' := [(7, .int (w7 + 1)), (6, .int 0), (0, .ref (g.2.2 + 70)), (1, .int x1), (3, .int x3), (4, .int x4), (5, .int y5)]) hx hb dX9_update_125 hl rfl (congrArg (fun t => w7 + t) (by decide : Int32.ofInt 1 = 1)) (Nat.le_of_ble_eq_true rfl) rfl (fun ls hl => ?_)
            refine lv_goto (tgt := 79) hx hb dX9_update_128 rfl ?_
            exact ih _ _ _ H locs ls o hf hW (lv_sub hl [2, 3, 4, 5, 6, 1, 0] rfl) hK
          · have hf := ift hc hf
            refine lv_aload_n hx hb dX9_update_105 rfl (lv_at hl 0 rfl) ?_
            refine lv_iload_n hx hb dX9_update_106 rfl (lv_at hl 1 rfl) ?_
            refine lv_iload hx hb dX9_update_107 (lv_at hl 6 rfl) ?_
            refine lv_iload_n hx hb dX9_update_109 rfl (lv_at hl 2 rfl) ?_
            refine lv_iload hx hb dX9_update_110 (lv_at hl 3 rfl) ?_
            obtain ⟨q11, hq11, hf⟩ := bnd hf
            refine aw_cVi (rest := []) C0 hW (lv_fix (by decide)) (cel_8 kd70) rfl (c_X9_wouldViolate x1 w7 x3 x4  hq11) (cw_X9_172 hts ⟨Nat.le_of_ble_eq_true rfl, Nat.le_of_ble_eq_true rfl⟩) rfl hl.1 rfl (Nat.le_of_ble_eq_true rfl) ⟨Nat.zero_le _, Nat.zero_le _⟩ dX9_update_112 (fun H locs hW => ?_)
            refine lv_if_eq (tgt := 122) hx hb dX9_update_115 rfl (fun hc => ?_) (fun hc => ?_)
            · have hf := ift hc hf
              refine lv_iconst (v := 0) hx hb dX9_update_122 (by decide) ?_
              refine lv_istore (lv' := [(6, .int 0), (0, .ref (g.2.2 + 70)), (1, .int x1), (3, .int x3), (4, .int x4), (5, .int y5), (7, .int w7)]) hx hb dX9_update_123 hl (Nat.le_of_ble_eq_true rfl) rfl (fun ls hl => ?_)
              refine lv_iinc (k := 6) (v := w7 + 1) (lv' := [(7, .int (w7 + 1)), (6, .int 0), (0, .ref (g.2.2 + 70)), (1, .int x1), (3, .int x3), (4, .int x4), (5, .int y5)]) hx hb dX9_update_125 hl rfl (congrArg (fun t => w7 + t) (by decide : Int32.ofInt 1 = 1)) (Nat.le_of_ble_eq_true rfl) rfl (fun ls hl => ?_)
              refine lv_goto (tgt := 79) hx hb dX9_update_128 rfl ?_
              exact ih _ _ _ H locs ls o hf hW (lv_sub hl [2, 3, 4, 5, 6, 1, 0] rfl) hK
            · have hf := iff_ hc hf
              refine lv_iconst (v := 1) hx hb dX9_update_118 (by decide) ?_
              refine lv_goto (tgt := 123) hx hb dX9_update_119 rfl ?_
              refine lv_istore (lv' := [(6, .int 1), (0, .ref (g.2.2 + 70)), (1, .int x1), (3, .int x3), (4, .int x4), (5, .int y5), (7, .int w7)]) hx hb dX9_update_123 hl (Nat.le_of_ble_eq_true rfl) rfl (fun ls hl => ?_)
              refine lv_iinc (k := 6) (v := w7 + 1) (lv' := [(7, .int (w7 + 1)), (6, .int 1), (0, .ref (g.2.2 + 70)), (1, .int x1), (3, .int x3), (4, .int x4), (5, .int y5)]) hx hb dX9_update_125 hl rfl (congrArg (fun t => w7 + t) (by decide : Int32.ofInt 1 = 1)) (Nat.le_of_ble_eq_true rfl) rfl (fun ls hl => ?_)
              refine lv_goto (tgt := 79) hx hb dX9_update_128 rfl ?_
              exact ih _ _ _ H locs ls o hf hW (lv_sub hl [2, 3, 4, 5, 6, 1, 0] rfl) hK
  have L154 : ∀ (y5 : Int32) (n : Nat) (w7 : Int32) (I : Mem) (H : Heap) (locs : List Loc) (ls : Array Slot) (o : Mem), f_X9_update_L154 x1 x2 x3 x4 P y5 n w7 I = some o → Wd g I R P Z s.heap H locs → lv_has ls 8 [(0, .ref (g.2.2 + 70)), (1, .int x1), (3, .int x3), (4, .int x4), (5, .int y5), (7, .int w7)] → (∀ (H : Heap) (locs : List Loc) (ls : Array Slot), Wd g o R P Z s.heap H locs → lv_has ls 8 [(5, .int y5)] → W p0 l e rmX9_update s m args below meth c H locs 0 0 (MQ below (QI g z.1 z.2 R P Z) args s 0 0 (AA g)) (F0 m 206 ls [])) → W p0 l e rmX9_update s m args below meth c H locs 0 0 (MQ below (QI g z.1 z.2 R P Z) args s 0 0 (AA g)) (F0 m 154 ls []) := by
    intro y5 n
    induction n with
    | zero => intro w7 I H locs ls o hf; cases hf
    | succ n ih =>
      intro w7 I H locs ls o hf hW hl hK
      rw [f_X9_update_L154] at hf
      refine lv_iload hx hb dX9_update_154 (lv_at hl 5 rfl) ?_
      refine lv_aload_n hx hb dX9_update_156 rfl (lv_at hl 0 rfl) ?_
      refine lv_iload_n hx hb dX9_update_157 rfl (lv_at hl 1 rfl) ?_
      obtain ⟨q13, hq13, hf⟩ := bnd hf
      refine aw_cVi (rest := [.int w7]) C0 hW (lv_fix (by decide)) (cel_8 kd70) rfl (c_X9_many x1  hq13) (cw_X9_70 hts ⟨Nat.le_of_ble_eq_true rfl, Nat.le_of_ble_eq_true rfl⟩) rfl hl.1 rfl (Nat.le_of_ble_eq_true rfl) ⟨Nat.zero_le _, Nat.zero_le _⟩ dX9_update_158 (fun H locs hW => ?_)
      refine lv_icmp_ge (tgt := 206) hx hb dX9_update_161 rfl (fun hc => ?_) (fun hc => ?_)
      · have hf := ift hc hf
        have ho := Option.some.inj hf
        subst ho
        exact hK H locs ls hW (lv_sub hl [4] rfl)
      · have hf := iff_ hc hf
        refine lv_aload_n hx hb dX9_update_164 rfl (lv_at hl 0 rfl) ?_
        refine aw_get (v := .ref (g.2.2 + 71)) C0 hW (lv_fix (by decide)) (cel_8 kd70) rfl inG8 0 (by decide) wd73 rfl rfl dX9_update_165 ?_
        refine lv_iload_n hx hb dX9_update_168 rfl (lv_at hl 1 rfl) ?_
        refine lv_iload hx hb dX9_update_169 (lv_at hl 5 rfl) ?_
        refine lv_iload_n hx hb dX9_update_171 rfl (lv_at hl 2 rfl) ?_
        obtain ⟨q14, hq14, hf⟩ := bnd hf
        refine aw_cSi (rest := [.ref (g.2.2 + 71)]) C0 hW (c_X9_at x1 w7 x3  hq14) (cw_X9_58 hts ⟨Nat.le_of_ble_eq_true rfl, Nat.le_of_ble_eq_true rfl⟩) rfl hl.1 rfl (Nat.le_of_ble_eq_true rfl) ⟨Nat.zero_le _, Nat.zero_le _⟩ dX9_update_172 (fun H locs hW => ?_)
        refine lv_iload hx hb dX9_update_175 (lv_at hl 4 rfl) ?_
        refine lv_iload hx hb dX9_update_177 (lv_at hl 5 rfl) ?_
        refine lv_ishr hx hb dX9_update_179 ?_
        refine lv_iconst (v := 1) hx hb dX9_update_180 (by decide) ?_
        refine lv_iand hx hb dX9_update_181 ?_
        refine lv_iconst (v := 1) hx hb dX9_update_182 (by decide) ?_
        refine lv_icmp_ne (tgt := 191) hx hb dX9_update_183 rfl (fun hc => ?_) (fun hc => ?_)
        · have hf := iff_ hc hf
          refine lv_aload_n hx hb dX9_update_191 rfl (lv_at hl 0 rfl) ?_
          refine lv_iload_n hx hb dX9_update_192 rfl (lv_at hl 1 rfl) ?_
          refine lv_iload hx hb dX9_update_193 (lv_at hl 5 rfl) ?_
          refine lv_iload_n hx hb dX9_update_195 rfl (lv_at hl 2 rfl) ?_
          obtain ⟨q15, hq15, hf⟩ := bnd hf
          refine aw_cVi (rest := [.int q14, .ref (g.2.2 + 71)]) C0 hW (lv_fix (by decide)) (cel_8 kd70) rfl (c_X9_of x1 w7 x3  hq15) (cw_X9_74 hts ⟨Nat.le_of_ble_eq_true rfl, Nat.le_of_ble_eq_true rfl⟩) rfl hl.1 rfl (Nat.le_of_ble_eq_true rfl) ⟨Nat.zero_le _, Nat.zero_le _⟩ dX9_update_196 (fun H locs hW => ?_)
          obtain ⟨I16, hI16, hf⟩ := bnd hf
          refine aw_iast C0 hW kd71 ln71 hI16 dX9_update_199 (fun H locs hW => ?_)
          refine lv_iinc (k := 5) (v := w7 + 1) (lv' := [(7, .int (w7 + 1)), (0, .ref (g.2.2 + 70)), (1, .int x1), (3, .int x3), (4, .int x4), (5, .int y5)]) hx hb dX9_update_200 hl rfl (congrArg (fun t => w7 + t) (by decide : Int32.ofInt 1 = 1)) (Nat.le_of_ble_eq_true rfl) rfl (fun ls hl => ?_)
          refine lv_goto (tgt := 154) hx hb dX9_update_203 rfl ?_
          exact ih _ _ H locs ls o hf hW (lv_sub hl [1, 2, 3, 4, 5, 0] rfl) hK
        · have hf := ift hc hf
          refine lv_iload hx hb dX9_update_186 (lv_at hl 3 rfl) ?_
          refine lv_goto (tgt := 199) hx hb dX9_update_188 rfl ?_
          obtain ⟨I17, hI17, hf⟩ := bnd hf
          refine aw_iast C0 hW kd71 ln71 hI17 dX9_update_199 (fun H locs hW => ?_)
          refine lv_iinc (k := 5) (v := w7 + 1) (lv' := [(7, .int (w7 + 1)), (0, .ref (g.2.2 + 70)), (1, .int x1), (3, .int x3), (4, .int x4), (5, .int y5)]) hx hb dX9_update_200 hl rfl (congrArg (fun t => w7 + t) (by decide : Int32.ofInt 1 = 1)) (Nat.le_of_ble_eq_true rfl) rfl (fun ls hl => ?_)
          refine lv_goto (tgt := 154) hx hb dX9_update_203 rfl ?_
          exact ih _ _ H locs ls o hf hW (lv_sub hl [1, 2, 3, 4, 5, 0] rfl) hK
  unfold f_X9_update at hf
  obtain ⟨H, hH⟩ : ∃ H, H = s.heap := ⟨_, rfl⟩
  obtain ⟨locs, hlc⟩ : ∃ q : List Loc, q = [] := ⟨_, rfl⟩
  rw [show W p0 l e rmX9_update s m args below meth c s.heap [] 0 0 (MQ below (QI g z.1 z.2 R P Z) args s 0 0 (AA g)) (F0 m 0 ls []) = W p0 l e rmX9_update s m args below meth c H locs 0 0 (MQ below (QI g z.1 z.2 R P Z) args s 0 0 (AA g)) (F0 m 0 ls []) by rw [hH, hlc]]
  have hW : Wd g I R P Z s.heap H locs := by rw [hH, hlc]; exact hW
  refine lv_aload_n hx hb dX9_update_0 rfl (lv_at hl 0 rfl) ?_
  refine lv_iconst (v := 0) hx hb dX9_update_1 (by decide) ?_
  refine aw_put C0 hW (lv_fix (by decide)) (cel_8 kd70) rfl inG8 tyX9 tyX9_ok nmX9 7 (by decide) wd79 rfl rfl (ty := .int) rfl rfl rfl (Nat.le_of_ble_eq_true rfl) (pu_8_7 kd70) dX9_update_2 (fun H locs hW => ?_)
  refine lv_iload_n hx hb dX9_update_5 rfl (lv_at hl 1 rfl) ?_
  obtain ⟨q1, hq1, hf⟩ := bnd hf
  refine aw_cSi (rest := []) C0 hW (c_X9_isTable x1  hq1) (cw_X9_66 hts ⟨Nat.le_of_ble_eq_true rfl, Nat.le_of_ble_eq_true rfl⟩) rfl hl.1 rfl (Nat.le_of_ble_eq_true rfl) ⟨Nat.zero_le _, Nat.zero_le _⟩ dX9_update_6 (fun H locs hW => ?_)
  refine lv_if_eq (tgt := 26) hx hb dX9_update_9 rfl (fun hc => ?_) (fun hc => ?_)
  · have hf := ift hc hf
    refine lv_aload_n hx hb dX9_update_26 rfl (lv_at hl 0 rfl) ?_
    refine lv_iconst (v := 1) hx hb dX9_update_27 (by decide) ?_
    obtain ⟨q2, hq2, hf⟩ := bnd hf
    refine aw_cVi (rest := []) C0 hW (lv_fix (by decide)) (cel_8 kd70) rfl (c_X9_refuses 1  hq2) (cw_X9_119 hts ⟨Nat.le_of_ble_eq_true rfl, Nat.le_of_ble_eq_true rfl⟩) rfl hl.1 rfl (Nat.le_of_ble_eq_true rfl) ⟨Nat.zero_le _, Nat.zero_le _⟩ dX9_update_28 (fun H locs hW => ?_)
    have hz := Option.some.inj hf
    have hzV := congrArg (fun z : Int32 × Mem => z.1) hz
    have hzI := congrArg (fun z : Int32 × Mem => z.2) hz
    exact aw_iret C0 hW hzV hzI rfl dX9_update_31
  · have hf := iff_ hc hf
    refine lv_iload_n hx hb dX9_update_12 rfl (lv_at hl 2 rfl) ?_
    obtain ⟨q3, hq3, hf⟩ := bnd hf
    refine aw_cSi (rest := []) C0 hW (c_X9_isSlot x2  hq3) (cw_X9_147 hts ⟨Nat.le_of_ble_eq_true rfl, Nat.le_of_ble_eq_true rfl⟩) rfl hl.1 rfl (Nat.le_of_ble_eq_true rfl) ⟨Nat.zero_le _, Nat.zero_le _⟩ dX9_update_13 (fun H locs hW => ?_)
    refine lv_if_eq (tgt := 26) hx hb dX9_update_16 rfl (fun hc => ?_) (fun hc => ?_)
    · have hf := ift hc hf
      refine lv_aload_n hx hb dX9_update_26 rfl (lv_at hl 0 rfl) ?_
      refine lv_iconst (v := 1) hx hb dX9_update_27 (by decide) ?_
      obtain ⟨q4, hq4, hf⟩ := bnd hf
      refine aw_cVi (rest := []) C0 hW (lv_fix (by decide)) (cel_8 kd70) rfl (c_X9_refuses 1  hq4) (cw_X9_119 hts ⟨Nat.le_of_ble_eq_true rfl, Nat.le_of_ble_eq_true rfl⟩) rfl hl.1 rfl (Nat.le_of_ble_eq_true rfl) ⟨Nat.zero_le _, Nat.zero_le _⟩ dX9_update_28 (fun H locs hW => ?_)
      have hz := Option.some.inj hf
      have hzV := congrArg (fun z : Int32 × Mem => z.1) hz
      have hzI := congrArg (fun z : Int32 × Mem => z.2) hz
      exact aw_iret C0 hW hzV hzI rfl dX9_update_31
    · have hf := iff_ hc hf
      refine lv_iload_n hx hb dX9_update_19 rfl (lv_at hl 3 rfl) ?_
      obtain ⟨q5, hq5, hf⟩ := bnd hf
      refine aw_cSi (rest := []) C0 hW (c_X9_isColumn x3  hq5) (cw_X9_135 hts ⟨Nat.le_of_ble_eq_true rfl, Nat.le_of_ble_eq_true rfl⟩) rfl hl.1 rfl (Nat.le_of_ble_eq_true rfl) ⟨Nat.zero_le _, Nat.zero_le _⟩ dX9_update_20 (fun H locs hW => ?_)
      refine lv_if_ne (tgt := 32) hx hb dX9_update_23 rfl (fun hc => ?_) (fun hc => ?_)
      · have hf := iff_ hc hf
        refine lv_iload hx hb dX9_update_32 (lv_at hl 4 rfl) ?_
        obtain ⟨q6, hq6, hf⟩ := bnd hf
        refine aw_cSi (rest := []) C0 hW (c_X9_isValue x4  hq6) (cw_X9_122 hts ⟨Nat.le_of_ble_eq_true rfl, Nat.le_of_ble_eq_true rfl⟩) rfl hl.1 rfl (Nat.le_of_ble_eq_true rfl) ⟨Nat.zero_le _, Nat.zero_le _⟩ dX9_update_34 (fun H locs hW => ?_)
        refine lv_if_ne (tgt := 46) hx hb dX9_update_37 rfl (fun hc => ?_) (fun hc => ?_)
        · have hf := iff_ hc hf
          refine lv_aload_n hx hb dX9_update_46 rfl (lv_at hl 0 rfl) ?_
          refine lv_iload_n hx hb dX9_update_47 rfl (lv_at hl 2 rfl) ?_
          obtain ⟨q7, hq7, hf⟩ := bnd hf
          refine aw_cVi (rest := []) C0 hW (lv_fix (by decide)) (cel_8 kd70) rfl (c_X9_parts x2  hq7) (cw_X9_92 hts ⟨Nat.le_of_ble_eq_true rfl, Nat.le_of_ble_eq_true rfl⟩) rfl hl.1 rfl (Nat.le_of_ble_eq_true rfl) ⟨Nat.zero_le _, Nat.zero_le _⟩ dX9_update_48 (fun H locs hW => ?_)
          refine lv_if_ne (tgt := 60) hx hb dX9_update_51 rfl (fun hc => ?_) (fun hc => ?_)
          · have hf := iff_ hc hf
            refine lv_aload_n hx hb dX9_update_60 rfl (lv_at hl 0 rfl) ?_
            obtain ⟨q8, hq8, hf⟩ := bnd hf
            refine aw_cVv (rest := []) C0 hW (lv_fix (by decide)) (cel_8 kd70) rfl (c_X9_saves  hq8) (cw_X9_125 hts ⟨Nat.le_of_ble_eq_true rfl, Nat.le_of_ble_eq_true rfl⟩) rfl hl.1 rfl (Nat.le_of_ble_eq_true rfl) ⟨Nat.zero_le _, Nat.zero_le _⟩ dX9_update_61 (fun H locs hW => ?_)
            refine lv_aload_n hx hb dX9_update_64 rfl (lv_at hl 0 rfl) ?_
            refine lv_iload_n hx hb dX9_update_65 rfl (lv_at hl 1 rfl) ?_
            refine lv_iload_n hx hb dX9_update_66 rfl (lv_at hl 2 rfl) ?_
            refine lv_iconst (v := 2) hx hb dX9_update_67 (by decide) ?_
            obtain ⟨q9, hq9, hf⟩ := bnd hf
            refine aw_cVi (rest := []) C0 hW (lv_fix (by decide)) (cel_8 kd70) rfl (c_X9_rowsOf x1 x2 2  hq9) (cw_X9_163 hts ⟨Nat.le_of_ble_eq_true rfl, Nat.le_of_ble_eq_true rfl⟩) rfl hl.1 rfl (Nat.le_of_ble_eq_true rfl) ⟨Nat.zero_le _, Nat.zero_le _⟩ dX9_update_68 (fun H locs hW => ?_)
            refine lv_istore (lv' := [(5, .int q9.1), (0, .ref (g.2.2 + 70)), (1, .int x1), (2, .int x2), (3, .int x3), (4, .int x4)]) hx hb dX9_update_71 hl (Nat.le_of_ble_eq_true rfl) rfl (fun ls hl => ?_)
            refine lv_iconst (v := 0) hx hb dX9_update_73 (by decide) ?_
            refine lv_istore (lv' := [(6, .int 0), (5, .int q9.1), (0, .ref (g.2.2 + 70)), (1, .int x1), (2, .int x2), (3, .int x3), (4, .int x4)]) hx hb dX9_update_74 hl (Nat.le_of_ble_eq_true rfl) rfl (fun ls hl => ?_)
            refine lv_iconst (v := 0) hx hb dX9_update_76 (by decide) ?_
            refine lv_istore (lv' := [(7, .int 0), (6, .int 0), (5, .int q9.1), (0, .ref (g.2.2 + 70)), (1, .int x1), (2, .int x2), (3, .int x3), (4, .int x4)]) hx hb dX9_update_77 hl (Nat.le_of_ble_eq_true rfl) rfl (fun ls hl => ?_)
            obtain ⟨q12, hq12, hf⟩ := bnd hf
            refine L79 q9.1 fuel 0 0 q9.2 H locs ls _ hq12 hW (lv_sub hl [3, 4, 6, 7, 2, 1, 0] rfl) (fun H locs ls hW hl => ?_)
            refine lv_iload hx hb dX9_update_131 (lv_at hl 5 rfl) ?_
            refine lv_if_eq (tgt := 151) hx hb dX9_update_133 rfl (fun hc => ?_) (fun hc => ?_)
            · have hf := ift hc hf
              refine lv_iconst (v := 0) hx hb dX9_update_151 (by decide) ?_
              refine lv_istore (lv' := [(7, .int 0), (0, .ref (g.2.2 + 70)), (1, .int x1), (3, .int x3), (4, .int x4), (5, .int q9.1), (6, .int q12.1)]) hx hb dX9_update_152 hl (Nat.le_of_ble_eq_true rfl) rfl (fun ls hl => ?_)
              obtain ⟨q18, hq18, hf⟩ := bnd hf
              refine L154 q9.1 fuel 0 q12.2 H locs ls _ hq18 hW (lv_sub hl [1, 2, 3, 4, 5, 0] rfl) (fun H locs ls hW hl => ?_)
              refine lv_iload hx hb dX9_update_206 (lv_at hl 0 rfl) ?_
              obtain ⟨q19, hq19, hf⟩ := bnd hf
              refine aw_cSi (rest := []) C0 hW (c_X9_bits q9.1  hq19) (cw_X9_166 hts ⟨Nat.le_of_ble_eq_true rfl, Nat.le_of_ble_eq_true rfl⟩) rfl hl.1 rfl (Nat.le_of_ble_eq_true rfl) ⟨Nat.zero_le _, Nat.zero_le _⟩ dX9_update_208 (fun H locs hW => ?_)
              have hz := Option.some.inj hf
              have hzV := congrArg (fun z : Int32 × Mem => z.1) hz
              have hzI := congrArg (fun z : Int32 × Mem => z.2) hz
              exact aw_iret C0 hW hzV hzI rfl dX9_update_211
            · have hf := iff_ hc hf
              refine lv_aload_n hx hb dX9_update_136 rfl (lv_at hl 0 rfl) ?_
              refine aw_get (v := .ref (g.2.2 + 71)) C0 hW (lv_fix (by decide)) (cel_8 kd70) rfl inG8 0 (by decide) wd73 rfl rfl dX9_update_137 ?_
              refine lv_sipush (v := 618) hx hb dX9_update_140 (by decide) ?_
              refine lv_dup2_11 hx hb dX9_update_143 rfl rfl ?_
              obtain ⟨v20, hv20, hf⟩ := bnd hf
              refine aw_iald C0 hW kd71 ln71 hv20 dX9_update_144 ?_
              refine lv_iconst (v := 1) hx hb dX9_update_145 (by decide) ?_
              refine lv_iadd hx hb dX9_update_146 ?_
              obtain ⟨I21, hI21, hf⟩ := bnd hf
              refine aw_iast C0 hW kd71 ln71 hI21 dX9_update_147 (fun H locs hW => ?_)
              refine lv_bipush (v := (-2)) hx hb dX9_update_148 (by decide) ?_
              have hz := Option.some.inj hf
              have hzV := congrArg (fun z : Int32 × Mem => z.1) hz
              have hzI := congrArg (fun z : Int32 × Mem => z.2) hz
              exact aw_iret C0 hW hzV hzI rfl dX9_update_150
          · have hf := ift hc hf
            refine lv_aload_n hx hb dX9_update_54 rfl (lv_at hl 0 rfl) ?_
            refine lv_iconst (v := 3) hx hb dX9_update_55 (by decide) ?_
            obtain ⟨q22, hq22, hf⟩ := bnd hf
            refine aw_cVi (rest := []) C0 hW (lv_fix (by decide)) (cel_8 kd70) rfl (c_X9_refuses 3  hq22) (cw_X9_119 hts ⟨Nat.le_of_ble_eq_true rfl, Nat.le_of_ble_eq_true rfl⟩) rfl hl.1 rfl (Nat.le_of_ble_eq_true rfl) ⟨Nat.zero_le _, Nat.zero_le _⟩ dX9_update_56 (fun H locs hW => ?_)
            have hz := Option.some.inj hf
            have hzV := congrArg (fun z : Int32 × Mem => z.1) hz
            have hzI := congrArg (fun z : Int32 × Mem => z.2) hz
            exact aw_iret C0 hW hzV hzI rfl dX9_update_59
        · have hf := ift hc hf
          refine lv_aload_n hx hb dX9_update_40 rfl (lv_at hl 0 rfl) ?_
          refine lv_iconst (v := 2) hx hb dX9_update_41 (by decide) ?_
          obtain ⟨q23, hq23, hf⟩ := bnd hf
          refine aw_cVi (rest := []) C0 hW (lv_fix (by decide)) (cel_8 kd70) rfl (c_X9_refuses 2  hq23) (cw_X9_119 hts ⟨Nat.le_of_ble_eq_true rfl, Nat.le_of_ble_eq_true rfl⟩) rfl hl.1 rfl (Nat.le_of_ble_eq_true rfl) ⟨Nat.zero_le _, Nat.zero_le _⟩ dX9_update_42 (fun H locs hW => ?_)
          have hz := Option.some.inj hf
          have hzV := congrArg (fun z : Int32 × Mem => z.1) hz
          have hzI := congrArg (fun z : Int32 × Mem => z.2) hz
          exact aw_iret C0 hW hzV hzI rfl dX9_update_45
      · have hf := ift hc hf
        refine lv_aload_n hx hb dX9_update_26 rfl (lv_at hl 0 rfl) ?_
        refine lv_iconst (v := 1) hx hb dX9_update_27 (by decide) ?_
        obtain ⟨q24, hq24, hf⟩ := bnd hf
        refine aw_cVi (rest := []) C0 hW (lv_fix (by decide)) (cel_8 kd70) rfl (c_X9_refuses 1  hq24) (cw_X9_119 hts ⟨Nat.le_of_ble_eq_true rfl, Nat.le_of_ble_eq_true rfl⟩) rfl hl.1 rfl (Nat.le_of_ble_eq_true rfl) ⟨Nat.zero_le _, Nat.zero_le _⟩ dX9_update_28 (fun H locs hW => ?_)
        have hz := Option.some.inj hf
        have hzV := congrArg (fun z : Int32 × Mem => z.1) hz
        have hzI := congrArg (fun z : Int32 × Mem => z.2) hz
        exact aw_iret C0 hW hzV hzI rfl dX9_update_31
end CON
