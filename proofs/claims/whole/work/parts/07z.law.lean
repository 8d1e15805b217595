/-! THE LAW's own rows: its long[] and double[], calls that throw and are caught, the script. -/
section LAX
theorem kq14 {P : Pool} (hP : Sh P) {k : Nat} (h : Kd P k = 14) : k = 83 := by
  by_cases hk : k < 85
  · have h' : kdL.getD k 99 = 14 := by unfold Kd at h; rwa [if_pos hk] at h
    have key : ∀ k, k < 85 → kdL.getD k 99 = 14 → k = 83 := by decide +kernel
    exact key k hk h'
  · unfold Kd at h
    rw [if_neg hk] at h
    rcases (hP k (by omega)).1 with h1 | h1 | h1 <;> rw [h1] at h <;> cases h
theorem kq15 {P : Pool} (hP : Sh P) {k : Nat} (h : Kd P k = 15) : k = 84 := by
  by_cases hk : k < 85
  · have h' : kdL.getD k 99 = 15 := by unfold Kd at h; rwa [if_pos hk] at h
    have key : ∀ k, k < 85 → kdL.getD k 99 = 15 → k = 84 := by decide +kernel
    exact key k hk h'
  · unfold Kd at h
    rw [if_neg hk] at h
    rcases (hP k (by omega)).1 with h1 | h1 | h1 <;> rw [h1] at h <;> cases h
theorem cel_Z {g : Gam} {I : Mem} {R : Rem} {P : Pool} {Z Z2 : Zed} {k : Nat} (h1 : Kd P k = 14 → Z2.1 = Z.1) (h2 : Kd P k = 15 → Z2.2 = Z.2) : cel g I R P Z2 k = cel g I R P Z k := by
  by_cases a : Kd P k = 14
  · rw [cel_14 a, cel_14 a, h1 a]
  · by_cases b : Kd P k = 15
    · rw [cel_15 b, cel_15 b, h2 b]
    · unfold cel; simp only [if_neg a, if_neg b]
theorem vin01 : vp_in 0 1 := by unfold vp_in; decide
theorem KL83 {P : Pool} : Kd P 83 = 14 := if_pos (by decide)
theorem KL84 {P : Pool} : Kd P 84 = 15 := if_pos (by decide)
theorem LL83 {P : Pool} : Ln P 83 = 1 := if_pos (by decide)
theorem LL84 {P : Pool} : Ln P 84 = 1 := if_pos (by decide)
section
variable {p : Program} {l : Launch} {e : Env} {Rm : Room} {s : State} {m : MethodId} {args : Array Value} {below : List Frame} {meth : Method} {c : Code} {H : Heap} {locs : List Loc} {cells slots : Nat} {Q : State → Prop}
variable {cc : ByteArray} {pc : Nat} {ls : Array Slot} {rest : List Value} {g : Gam} {I : Mem} {R : Rem} {P : Pool} {Z : Zed} {own : String} {nL : Nat} {ret : Option FieldType}
theorem aw_last (C0 : CX g p s m args meth c own cc nL ret) (hW : Wd g I R P Z s.heap H locs) {x : Int64} (hdg : decode cc pc = .ok (.lastore, 1))
    (K : ∀ (H1 : Heap) (locs1 : List Loc), Wd g I R P (vp_updL Z.1 0 x, Z.2) s.heap H1 locs1 → W p l e Rm s m args below meth c H1 locs1 cells slots Q (F0 m (pc + 1) ls rest)) : W p l e Rm s m args below meth c H locs cells slots Q (F0 m pc ls (.long x :: .int 0 :: .ref (g.2.2 + 83) :: rest)) := by
  obtain ⟨hx, hb, -, -, hown, hts, hK, -⟩ := C0
  obtain ⟨⟨hP, hD, hSh⟩, hS⟩ := hW
  have hk : 83 ∈ LV P := lv_fix (by decide)
  obtain ⟨q0, hq⟩ := ws_get (g := g) (I := I) (R := R) (Z := Z) hk
  have hset := ws_set (I2 := I) (R2 := R) (Z2 := (vp_updL Z.1 0 x, Z.2)) (e := .inl (g.2.1 14, Ln P 83, .inr (.inl (vp_updL Z.1 0 x)))) hD hk hq (fun i => by
    by_cases hi : i = 83
    · subst hi; rw [cel_14 KL83]; simp [va_up]
    · rw [va_up_ne _ _ hi]; exact (cel_Z (Z := Z) (Z2 := (vp_updL Z.1 0 x, Z.2)) (fun h => absurd (kq14 hSh h) hi) (fun _ => rfl)).symm)
  rw [LL83] at hset
  rw [cel_14 KL83, LL83] at hq
  exact va_last hx hb hK.1 hP hD hS q0 5 hq rfl vin01 hdg (fun H1 locs1 a1 a2 a3 => by
    have a1 : va_P g.1 vwCl ((ws g I R P Z).set q0 (g.2.2 + 83, .inl (g.2.1 14, 1, .inr (.inl (vp_updL Z.1 0 x))))) H1 := a1
    have a2 : va_D (AA g) ((ws g I R P Z).set q0 (g.2.2 + 83, .inl (g.2.1 14, 1, .inr (.inl (vp_updL Z.1 0 x))))) := a2
    rw [hset] at a1 a2
    exact K H1 locs1 ⟨⟨a1, a2, hSh⟩, a3⟩)
theorem aw_dast (C0 : CX g p s m args meth c own cc nL ret) (hW : Wd g I R P Z s.heap H locs) {x : UInt64} (hdg : decode cc pc = .ok (.dastore, 1))
    (K : ∀ (H1 : Heap) (locs1 : List Loc), Wd g I R P (Z.1, vf_upd Z.2 0 x) s.heap H1 locs1 → W p l e Rm s m args below meth c H1 locs1 cells slots Q (F0 m (pc + 1) ls rest)) : W p l e Rm s m args below meth c H locs cells slots Q (F0 m pc ls (.double x :: .int 0 :: .ref (g.2.2 + 84) :: rest)) := by
  obtain ⟨hx, hb, -, -, hown, hts, hK, -⟩ := C0
  obtain ⟨⟨hP, hD, hSh⟩, hS⟩ := hW
  have hk : 84 ∈ LV P := lv_fix (by decide)
  obtain ⟨q0, hq⟩ := ws_get (g := g) (I := I) (R := R) (Z := Z) hk
  have hset := ws_set (I2 := I) (R2 := R) (Z2 := (Z.1, vf_upd Z.2 0 x)) (e := .inl (g.2.1 15, Ln P 84, .inr (.inr (.inr (.inl (vf_upd Z.2 0 x)))))) hD hk hq (fun i => by
    by_cases hi : i = 84
    · subst hi; rw [cel_15 KL84]; simp [va_up]
    · rw [va_up_ne _ _ hi]; exact (cel_Z (Z := Z) (Z2 := (Z.1, vf_upd Z.2 0 x)) (fun _ => rfl) (fun h => absurd (kq15 hSh h) hi)).symm)
  rw [LL84] at hset
  rw [cel_15 KL84, LL84] at hq
  exact va_dast hx hb hK.1 hP hD hS q0 6 hq rfl vin01 hdg (fun H1 locs1 a1 a2 a3 => by
    have a1 : va_P g.1 vwCl ((ws g I R P Z).set q0 (g.2.2 + 84, .inl (g.2.1 15, 1, .inr (.inr (.inr (.inl (vf_upd Z.2 0 x))))))) H1 := a1
    have a2 : va_D (AA g) ((ws g I R P Z).set q0 (g.2.2 + 84, .inl (g.2.1 15, 1, .inr (.inr (.inr (.inl (vf_upd Z.2 0 x))))))) := a2
    rw [hset] at a1 a2
    exact K H1 locs1 ⟨⟨a1, a2, hSh⟩, a3⟩)
theorem aw_lald (C0 : CX g p s m args meth c own cc nL ret) (hW : Wd g I R P Z s.heap H locs) (hdg : decode cc pc = .ok (.laload, 1))
    (K : W p l e Rm s m args below meth c H locs cells slots Q (F0 m (pc + 1) ls (.long (Z.1 0) :: rest))) : W p l e Rm s m args below meth c H locs cells slots Q (F0 m pc ls (.int 0 :: .ref (g.2.2 + 83) :: rest)) := by
  obtain ⟨hx, hb, -, -, hown, hts, hK, -⟩ := C0
  obtain ⟨q0, hq⟩ := ws_get (g := g) (I := I) (R := R) (P := P) (Z := Z) (k := 83) (lv_fix (by decide))
  rw [cel_14 KL83, LL83] at hq
  exact va_lald hx hb hK.1 hW.1.1 q0 5 hq rfl vin01 hdg K
theorem aw_dald (C0 : CX g p s m args meth c own cc nL ret) (hW : Wd g I R P Z s.heap H locs) (hdg : decode cc pc = .ok (.daload, 1))
    (K : W p l e Rm s m args below meth c H locs cells slots Q (F0 m (pc + 1) ls (.double (Z.2 0) :: rest))) : W p l e Rm s m args below meth c H locs cells slots Q (F0 m pc ls (.int 0 :: .ref (g.2.2 + 84) :: rest)) := by
  obtain ⟨hx, hb, -, -, hown, hts, hK, -⟩ := C0
  obtain ⟨q0, hq⟩ := ws_get (g := g) (I := I) (R := R) (P := P) (Z := Z) (k := 84) (lv_fix (by decide))
  rw [cel_15 KL84, LL84] at hq
  exact va_dald hx hb hK.1 hW.1.1 q0 6 hq rfl vin01 hdg K
theorem aw_cVd (C0 : CX g p s m args meth c own cc nL ret) (hW : Wd g I R P Z s.heap H locs) {k ci : Nat} {fs : List Value} (hk : k ∈ LV P) (he : cel g I R P Z k = .inr (ci, fs)) {C : String} {T : u_T} {N : Nat} (hc : vwCl[ci]? = some (C, T, N)) {As : List Value} {y : MethodName} {bytes : ByteArray} {maxL n index : Nat} {rty : Option FieldType} {rm : Room} {r : UInt64} {I2 : Mem} {R2 : Rem} {P2 : Pool} {Z2 : Zed}
    (hM : Met l y (Cond.code y bytes maxL rty :: GT) rm (va_Pc (.ref (g.2.2 + k) :: As) (PW g I R P Z)) (QD g r I2 R2 P2 Z2) 0 0 (AA g)) (cw : CallW Rm s args own C index y bytes maxL rty (Cond.code y bytes maxL rty :: GT) rm 0 0 n)
    (hn : As.length = n) (hsize : ls.size = nL) {st0 : List Value} (hst : st0 = As.reverse ++ .ref (g.2.2 + k) :: rest) (hr : (rest.map fun v => v.category).sum ≤ 8) (hf : cells ≤ Rm.cells ∧ slots ≤ Rm.slots) (hdg : decode cc pc = .ok (.invokevirtual index, 3))
    (K : ∀ (H1 : Heap) (locs1 : List Loc), Wd g I2 R2 P2 Z2 s.heap H1 locs1 → W p l e Rm s m args below meth c H1 locs1 cells slots Q (F0 m (pc + 3) ls (.double r :: rest))) : W p l e Rm s m args below meth c H locs cells slots Q (F0 m pc ls st0) := by
  refine va_calld (va_runV (g := F0 m pc ls st0) (rest := rest) (aw_fix C0) hM cw (aw_preV C0 hW hk he hc) rfl hn hsize hst (lv_room hr) hdg hf) hW.2 (fun q _ h => h) (fun q h => h) (fun r0 u t H1 locs1 ht _ hp hB _ _ hS => ?_)
  subst ht; subst hp
  exact K t.heap locs1 ⟨hB, hS⟩
theorem aw_nVi {n0 mc ms : Nat} (C0 : CX g p s m args meth c own cc nL ret) (hW : Wd g I R P Z s.heap H locs) (hsz : H.size = g.2.2 + n0) {k ci : Nat} {fs : List Value} (hk : k ∈ LV P) (he : cel g I R P Z k = .inr (ci, fs)) {C : String} {T : u_T} {N : Nat} (hc : vwCl[ci]? = some (C, T, N)) {As : List Value} {y : MethodName} {bytes : ByteArray} {maxL n index : Nat} {rty : Option FieldType} {rm : Room} {r : Int32} {I2 : Mem} {R2 : Rem} {P2 : Pool} {Z2 : Zed}
    (hM : Met l y (Cond.code y bytes maxL rty :: GT) rm (va_Pc (.ref (g.2.2 + k) :: As) (PWn g I R P Z n0)) (QI g r I2 R2 P2 Z2) mc ms (AA g)) (cw : CallW Rm s args own C index y bytes maxL rty (Cond.code y bytes maxL rty :: GT) rm mc ms n)
    (hn : As.length = n) (hsize : ls.size = nL) {st0 : List Value} (hst : st0 = As.reverse ++ .ref (g.2.2 + k) :: rest) (hr : (rest.map fun v => v.category).sum ≤ 8) (hf : cells + mc ≤ Rm.cells ∧ slots + ms ≤ Rm.slots) (hdg : decode cc pc = .ok (.invokevirtual index, 3))
    (K : ∀ (H1 : Heap) (locs1 : List Loc), Wd g I2 R2 P2 Z2 s.heap H1 locs1 → W p l e Rm s m args below meth c H1 locs1 (cells + mc) (slots + ms) Q (F0 m (pc + 3) ls (.int r :: rest))) : W p l e Rm s m args below meth c H locs cells slots Q (F0 m pc ls st0) := by
  refine va_calli (va_runV (g := F0 m pc ls st0) (rest := rest) (aw_fix C0) hM cw (aw_preVn C0 hW hsz hk he hc) rfl hn hsize hst (lv_room hr) hdg hf) hW.2 (fun q _ h => h) (fun q h => h) (fun r0 u t H1 locs1 ht _ hp hB hz _ hS => ?_)
  subst ht; subst hp
  exact K t.heap locs1 ⟨hB, hS⟩
/-- a call that has thrown: the handlers come next -/
theorem aw_xCt {mc0 ms0 : Nat} (C0 : CX g p s m args meth c own cc nL ret) (hW : Wd g I R P Z s.heap H locs) {k ci : Nat} {fs : List Value} (hk : k ∈ LV P) (he : cel g I R P Z k = .inr (ci, fs)) {C : String} {T : u_T} {N : Nat} (hc : vwCl[ci]? = some (C, T, N)) {As : List Value} {y : MethodName} {bytes : ByteArray} {maxL n index : Nat} {rty : Option FieldType} {rm : Room} {ex : Nat} {I1 : Mem} {R1 : Rem}
    (hM : vx_Met l y (Cond.code y bytes maxL rty :: GT) rm (va_Pc (.ref (g.2.2 + k) :: As) (PW g I R P Z)) QN (XX g ex I1 R1 P Z) mc0 ms0 (AA g)) (cw : CallW Rm s args own C index y bytes maxL rty (Cond.code y bytes maxL rty :: GT) rm mc0 ms0 n)
    (hn : As.length = n) (hsize : ls.size = nL) {st0 : List Value} (hst : st0 = As.reverse ++ .ref (g.2.2 + k) :: rest) (hr : (rest.map fun v => v.category).sum ≤ 8) (hf : cells + mc0 ≤ Rm.cells ∧ slots + ms0 ≤ Rm.slots) (hdg : decode cc pc = .ok (.invokevirtual index, 3))
    (K : ∀ (H1 : Heap) (locs1 : List Loc) (q : Addr) (ce : Cell), Wd g I1 R1 P Z s.heap H1 locs1 → H1[q]? = some ce → ce.vm = .none → s.vm.findClass (exn ex) = some ce.cls → vx_W p l e Rm s m args below meth c H1 locs1 (cells + mc0) (slots + ms0) Q (F0 m pc ls rest) q) : W p l e Rm s m args below meth c H locs cells slots Q (F0 m pc ls st0) := by
  have hr2 : vx_Run p l e Rm s m args below meth c H locs cells slots mc0 ms0 (F0 m pc ls st0) rest _ (XX g ex I1 R1 P Z) (AA g) := vx_runV (g := F0 m pc ls st0) (rest := rest) (aw_fix C0) hM cw (aw_preV C0 hW hk he hc) rfl hn hsize hst (lv_room hr) hdg hf
  intro T hT X
  rcases hr2 T hT X with ⟨v, st₀, t, T', L, h0, X', hL, e1, e2, hq, st⟩ | ⟨q, st₀, t, T', L, E, ce, h0, X', hL, e1, e2, ⟨hE, hH, hF⟩, hce, hcv, hcl, st⟩
  · exact (show False from hq).elim
  · obtain ⟨k1, k2, k3⟩ := vx_keep h0 e1 hW.2 (fun q _ h => h) (fun q h => h) hL hF
    subst hE
    obtain ⟨t2, a1, b1⟩ := K T'.heap (locs ++ L) q ce ⟨by rw [e1]; exact hH, k3⟩ (by rw [e1]; exact hce) hcv hcl T' rfl X'
    exact ⟨t2, st.trans a1, b1⟩
theorem aw_iretz {mc ms : Nat} (C0 : CX g p s m args meth c own cc nL (some .int)) (hW : Wd g I R P Z s.heap H locs) (hmc : cells ≤ mc) (hms : slots ≤ ms) {x : Int32} {z : Int32 × Mem × Rem × Pool × Zed} (hz : (x, I, R, P, Z) = z) (hdg : decode cc pc = .ok (.ireturn, 1)) : W p l e Rm s m args below meth c H locs cells slots (MQ below (QI g z.1 z.2.1 z.2.2.1 z.2.2.2.1 z.2.2.2.2) args s mc ms (AA g)) (F0 m pc ls [.int x]) := by
  subst hz
  exact W.widen hmc hms (aw_iret C0 hW rfl rfl rfl hdg)
theorem aw_ofWH {n : Nat} {y : MethodName} {rty : Option FieldType} {maxL : Nat} {hh : List (Nat × Nat × Nat × Nat)} {av : List Value} {rm : Room} {Qc : Array Value → State → Outcome → State → Prop} {mc ms : Nat} (hy : plainName y.cls = true) {lv0 : List (Nat × Value)} (hlen : (lg_sl av).length ≤ maxL) (hav : lv_args 0 av = lv0)
    (body : ∀ (p : Program) (e : Env) (s : State) (m : MethodId) (args : Array Value) (below : List Frame) (meth : Method) (c : Code) (ls : Array Slot), CX g p s m args meth c y.cls cc maxL rty → c.exceptionTable.toList = tableOf hh → s.heap.size = g.2.2 + n → lv_has ls maxL lv0 → Wd g I R P Z s.heap s.heap [] →
      W p l e rm s m args below meth c s.heap [] 0 0 (MQ below Qc args s mc ms (AA g)) (F0 m 0 ls [])) : Met l y (Cond.codeWith y cc maxL rty hh :: GT) rm (va_Pc av (PWn g I R P Z n)) Qc mc ms (AA g) := by
  refine va_MetW (cc := cc) (maxL := maxL) (ret := rty) (hh := hh) hy rfl ?_
  intro p e s m args below meth c s₁ B hml hv
  obtain ⟨rfl, ⟨hH, hKS⟩, hsz⟩ := hv
  have hl := lv_entry av hlen
  rw [hav] at hl
  rw [lg_entry_eq]
  exact body p e s m _ below meth c _ ⟨B.exec, B.bytes, hml, B.returns, findClass_of_methodNamed B.named, fun w h => atoms_spec (ws := Cond.codeWith y cc maxL rty hh :: GT) B.pre w (List.mem_cons_of_mem _ h), hKS, B.notSynchronized⟩ (vx_table (x := y) (y := y) B (atoms_spec (ws := Cond.codeWith y cc maxL rty hh :: GT) B.pre _ List.mem_cons_self)) hsz hl ⟨hH, va_S.rf⟩
theorem aw_LS {n0 mc ms : Nat} {hh : List (Nat × Nat × Nat × Nat)} (C0 : CX g p s m args meth c own cc nL ret) (hW : Wd g I R P Z s.heap H locs) (hsz : H.size = g.2.2 + n0) {As : List Value} {y : MethodName} {bytes : ByteArray} {maxL n index : Nat} {rty : Option FieldType} {rm : Room} {r : Int32} {I2 : Mem} {R2 : Rem} {P2 : Pool} {Z2 : Zed}
    (hM : Met l y (Cond.codeWith y bytes maxL rty hh :: GT) rm (va_Pc As (PWn g I R P Z n0)) (QI g r I2 R2 P2 Z2) mc ms (AA g)) (cw : vx_CSW Rm s args own index y bytes maxL rty hh (Cond.codeWith y bytes maxL rty hh :: GT) rm mc ms n)
    (hn : As.length = n) (hsize : ls.size = nL) {st0 : List Value} (hst : st0 = As.reverse ++ rest) (hr : (rest.map fun v => v.category).sum ≤ 8) (hf : cells + mc ≤ Rm.cells ∧ slots + ms ≤ Rm.slots) (hdg : decode cc pc = .ok (.invokestatic index, 3))
    (K : ∀ (H1 : Heap) (locs1 : List Loc), Wd g I2 R2 P2 Z2 s.heap H1 locs1 → W p l e Rm s m args below meth c H1 locs1 (cells + mc) (slots + ms) Q (F0 m (pc + 3) ls (.int r :: rest))) : W p l e Rm s m args below meth c H locs cells slots Q (F0 m pc ls st0) := by
  refine va_calli (vx_runSW (g := F0 m pc ls st0) (rest := rest) (aw_fix C0) hM cw (aw_preSn C0 hW hsz) rfl hn hsize hst (lv_room hr) hdg hf) hW.2 (fun q _ h => h) (fun q h => h) (fun r0 u t H1 locs1 ht _ hp hB hz _ hS => ?_)
  subst ht; subst hp
  exact K t.heap locs1 ⟨hB, hS⟩
end
end LAX
