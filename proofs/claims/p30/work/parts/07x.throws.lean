/-! THROWS: a method that throws (its contract says which, and what the world is then); nothing is caught inside the class. -/
section THX
def exn (e : Nat) : String := if e = 0 then "java/lang/IndexOutOfBoundsException" else if e = 1 then "java/lang/IllegalArgumentException" else "java/lang/IllegalStateException"
def nmT : List String := ["java/lang/RuntimeException", "java/lang/Exception"]
def BW : List Cond := dclL.map Cond.declares ++ cstL.map (fun q => Cond.castable q.1 q.2)
theorem EX_B {g : Gam} {s : State} {args : Array Value} (h : KS g s) : ∀ w ∈ BW, w.before args s = true := by
  obtain ⟨-, -, -, -, h3, h4, -⟩ := h
  intro w hw
  rcases List.mem_append.mp hw with hw | hw
  · obtain ⟨x, hx, rfl⟩ := List.mem_map.mp hw
    exact va_Nw.use rfl (h3 x hx)
  · obtain ⟨x, hx, rfl⟩ := List.mem_map.mp hw
    exact va_Nw.use rfl (h4 x hx)
/-- what holds where e was thrown -/
def XX (g : Gam) (e : Nat) (I : Mem) (R : Rem) (P : Pool) (Z : Zed) : String → State → State → Prop := fun E st t => E = exn e ∧ HW g I R P Z t.heap ∧ va_F (AA g) st t
def QN : Array Value → State → Outcome → State → Prop := fun _ _ _ _ => False
theorem HW.kept {g : Gam} {I : Mem} {R : Rem} {P : Pool} {Z : Zed} {H H1 : Heap} (h : HW g I R P Z H) (hq : ∀ q : Nat, q < H.size → H1[q]? = H[q]?) : HW g I R P Z H1 :=
  ⟨fun k q hk => (h.1 k q hk).kept (hq _ (h.1 k q hk).lt), h.2.1, h.2.2⟩
section
variable {p : Program} {l : Launch} {e : Env} {Rm : Room} {s : State} {m : MethodId} {args : Array Value} {below : List Frame} {meth : Method} {c : Code} {H : Heap} {locs : List Loc} {cells slots : Nat} {Q : State → Prop}
variable {cc : ByteArray} {pc : Nat} {ls : Array Slot} {rest : List Value} {g : Gam} {I : Mem} {R : Rem} {P : Pool} {Z : Zed} {own : String} {nL : Nat} {ret : Option FieldType}
theorem aw_throwS (C0 : CX g p s m args meth c own cc nL ret) (htab : ∀ x ∈ c.exceptionTable.toList, False) (hl : l.stackTraces = false) (hlsz : ls.size = nL) (hW : Wd g I R P Z s.heap H locs) {ik is ic : Nat} {cls text : String} {ex ez : Nat} (hcls : exn ex = cls) (hfit : Bundle.fit cls = true)
    (hk : Cond.classLink own ik cls ∈ GT) (hini : Cond.initialized cls ∈ GT) (hstr : (own, is, text) ∈ strL) (hg1 : ∀ w ∈ (vx_atS own ic cls nmT).filter goodWord, w ∈ GT) (hg2 : ∀ w ∈ (vx_atS own ic cls nmT).filter (fun w => !goodWord w), w ∈ BW) (hg3 : ∀ w ∈ Cond.classLink own ik cls :: Cond.initialized cls :: vx_atS own ic cls nmT, vx_ot w = true)
    (d0 : decode cc pc = .ok (.new ik, 3)) (d3 : decode cc (pc + 3) = .ok (.dup, 1)) (d4 : decode cc (pc + 4) = .ok (.ldc is, 2)) (d6 : decode cc (pc + 6) = .ok (.invokespecial ic, 3)) (d9 : decode cc (pc + 9) = .ok (.athrow, 1))
    (hfr : 5 < Rm.frames) (hlo : (rest.map fun v => v.category).sum + 82 ≤ Rm.locals) (hRc : cells + 1 ≤ Rm.cells) (hRs : slots + 6 ≤ Rm.slots) {mc ms : Nat} (hc : cells + 1 ≤ mc) (hs : slots + 6 ≤ ms) {I2 : Mem} {R2 : Rem} {Qc : Array Value → State → Outcome → State → Prop} (ee : ex = ez) (eI : I = I2) (eR : R = R2) :
    W p l e Rm s m args below meth c H locs cells slots (vx_MQ below Qc (XX g ez I2 R2 P Z) args s mc ms (AA g)) (F0 m pc ls rest) := by
  subst ee; subst eI; subst eR
  obtain ⟨hx, hb, hml, -, hown, hts, hK, hlk⟩ := C0
  obtain ⟨sa, hsa⟩ := hK.2.2.2.2.2.2.1 _ hstr
  refine vx_throwS (names := nmT) (A := AA g) hx hb hl hown hfit (by decide +kernel) (hts _ hk) (hts _ hini) hsa (vx_hat (fun w hw => hts w (hg1 w hw)) hg2 (EX_B hK)) hg3 hK.2.2.2.2.2.2.2.1 hK.2.2.2.2.2.2.2.2.1 hW.2 (by rw [hml, hlsz]) d0 d3 d4 d6 d9 (fun x hx => (htab x hx).elim) hfr hlo hRc hRs hlk (fun t _ hz hq => ?_) hW.2.2.2 hc hs
  refine ⟨hcls.symm, hW.1.kept hq, Nat.le_trans hW.2.1 hz, fun q h1 h2 => ?_⟩
  rw [hq q (Nat.lt_of_lt_of_le h1 hW.2.1)]
  exact hW.2.2.1 q h1 h2
theorem aw_throwSW (C0 : CX g p s m args meth c own cc nL ret) (htab : ∀ x ∈ c.exceptionTable.toList, False) (hl : l.stackTraces = false) (hlsz : ls.size = nL) (hW : Wd g I R P Z s.heap H locs) {ik is ic : Nat} {cls text : String} {ex ez : Nat} (hcls : exn ex = cls) (hfit : Bundle.fit cls = true)
    (hk : Cond.classLink own ik cls ∈ GT) (hini : Cond.initialized cls ∈ GT) (hstr : (own, is, text) ∈ strL) (hg1 : ∀ w ∈ (vx_atS own ic cls nmT).filter goodWord, w ∈ GT) (hg2 : ∀ w ∈ (vx_atS own ic cls nmT).filter (fun w => !goodWord w), w ∈ BW) (hg3 : ∀ w ∈ Cond.classLink own ik cls :: Cond.initialized cls :: vx_atS own ic cls nmT, vx_ot w = true)
    (d0 : decode cc pc = .ok (.new ik, 3)) (d3 : decode cc (pc + 3) = .ok (.dup, 1)) (d4 : decode cc (pc + 4) = .ok (.ldc_w is, 3)) (d7 : decode cc (pc + 7) = .ok (.invokespecial ic, 3)) (d10 : decode cc (pc + 10) = .ok (.athrow, 1))
    (hfr : 5 < Rm.frames) (hlo : (rest.map fun v => v.category).sum + 82 ≤ Rm.locals) (hRc : cells + 1 ≤ Rm.cells) (hRs : slots + 6 ≤ Rm.slots) {mc ms : Nat} (hc : cells + 1 ≤ mc) (hs : slots + 6 ≤ ms) {I2 : Mem} {R2 : Rem} {Qc : Array Value → State → Outcome → State → Prop} (ee : ex = ez) (eI : I = I2) (eR : R = R2) :
    W p l e Rm s m args below meth c H locs cells slots (vx_MQ below Qc (XX g ez I2 R2 P Z) args s mc ms (AA g)) (F0 m pc ls rest) := by
  subst ee; subst eI; subst eR
  obtain ⟨hx, hb, hml, -, hown, hts, hK, hlk⟩ := C0
  obtain ⟨sa, hsa⟩ := hK.2.2.2.2.2.2.1 _ hstr
  refine vx_throwSW (names := nmT) (A := AA g) hx hb hl hown hfit (by decide +kernel) (hts _ hk) (hts _ hini) hsa (vx_hat (fun w hw => hts w (hg1 w hw)) hg2 (EX_B hK)) hg3 hK.2.2.2.2.2.2.2.1 hK.2.2.2.2.2.2.2.2.1 hW.2 (by rw [hml, hlsz]) d0 d3 d4 d7 d10 (fun x hx => (htab x hx).elim) hfr hlo hRc hRs hlk (fun t _ hz hq => ?_) hW.2.2.2 hc hs
  refine ⟨hcls.symm, hW.1.kept hq, Nat.le_trans hW.2.1 hz, fun q h1 h2 => ?_⟩
  rw [hq q (Nat.lt_of_lt_of_le h1 hW.2.1)]
  exact hW.2.2.1 q h1 h2
/-- behind a call that has thrown, in a method without handlers -/
theorem aw_xOut {st0 : List Value} {mc0 ms0 : Nat} {ex ez : Nat} {I1 I2 : Mem} {R1 R2 : Rem} {Qa : State → Outcome → State → Prop} (C0 : CX g p s m args meth c own cc nL ret) (htab : ∀ x ∈ c.exceptionTable.toList, False) (hS : va_S (AA g) s.heap H locs) (hQ : ∀ a b t, Qa a b t → False)
    (hr : vx_Run p l e Rm s m args below meth c H locs cells slots mc0 ms0 (F0 m pc ls st0) rest Qa (XX g ex I1 R1 P Z) (AA g)) {mc ms : Nat} (hc : cells + mc0 ≤ mc) (hs : slots + ms0 ≤ ms) {Qc : Array Value → State → Outcome → State → Prop} (ee : ex = ez) (eI : I1 = I2) (eR : R1 = R2) :
    W p l e Rm s m args below meth c H locs cells slots (vx_MQ below Qc (XX g ez I2 R2 P Z) args s mc ms (AA g)) (F0 m pc ls st0) := by
  subst ee; subst eI; subst eR
  intro T hT X
  rcases hr T hT X with ⟨v, st₀, t, T', L, h0, X', hL, e1, e2, hq, st⟩ | ⟨q, st₀, t, T', L, E, ce, h0, X', hL, e1, e2, ⟨hE, hH, hF⟩, hce, hcv, hcl, st⟩
  · exact (hQ _ _ _ hq).elim
  · obtain ⟨k1, k2, k3⟩ := vx_keep h0 e1 hS (fun q _ h => h) (fun q h => h) hL hF
    have ko : vx_W p l e Rm s m args below meth c T'.heap (locs ++ L) (cells + mc0) (slots + ms0) (vx_MQ below Qc (XX g ex I1 R1 P Z) args s mc ms (AA g)) (F0 m pc ls rest) q :=
      vx_out (fun x hx => (htab x hx).elim) C0.2.2.2.2.2.2.2 (by rw [e1]; exact hce) hcv hcl (fun t9 ht9 _ => ⟨hE, by rw [ht9, e1]; exact hH, k3.F ht9⟩) k3.2.2 hc hs
    obtain ⟨t2, a1, b1⟩ := ko T' rfl X'
    exact ⟨t2, st.trans a1, b1⟩
theorem aw_xV {mc ms mc0 ms0 : Nat} (C0 : CX g p s m args meth c own cc nL ret) (htab : ∀ x ∈ c.exceptionTable.toList, False) (hW : Wd g I R P Z s.heap H locs) {k ci : Nat} {fs : List Value} (hk : k ∈ LV P) (he : cel g I R P Z k = .inr (ci, fs)) {C : String} {T : u_T} {N : Nat} (hc : vwCl[ci]? = some (C, T, N)) {As : List Value} {y : MethodName} {bytes : ByteArray} {maxL n index : Nat} {rty : Option FieldType} {rm : Room} {ex ez : Nat} {I1 I2 : Mem} {R1 R2 : Rem}
    (hM : vx_Met l y (Cond.code y bytes maxL rty :: GT) rm (va_Pc (.ref (g.2.2.1 + k) :: As) (PW g I R P Z)) QN (XX g ex I1 R1 P Z) mc0 ms0 (AA g)) (cw : CallW Rm s args own C index y bytes maxL rty (Cond.code y bytes maxL rty :: GT) rm mc0 ms0 n)
    (hn : As.length = n) (hsize : ls.size = nL) {st0 : List Value} (hst : st0 = As.reverse ++ .ref (g.2.2.1 + k) :: rest) (hr : (rest.map fun v => v.category).sum ≤ 8) (hf : cells + mc0 ≤ Rm.cells ∧ slots + ms0 ≤ Rm.slots) (hdg : decode cc pc = .ok (.invokevirtual index, 3))
    (hc1 : cells + mc0 ≤ mc) (hs1 : slots + ms0 ≤ ms) {Qc : Array Value → State → Outcome → State → Prop} (ee : ex = ez) (eI : I1 = I2) (eR : R1 = R2) :
    W p l e Rm s m args below meth c H locs cells slots (vx_MQ below Qc (XX g ez I2 R2 P Z) args s mc ms (AA g)) (F0 m pc ls st0) :=
  aw_xOut C0 htab hW.2 (fun _ _ _ h => h) (vx_runV (g := F0 m pc ls st0) (rest := rest) (aw_fix C0) hM cw (aw_preV C0 hW hk he hc) rfl hn hsize hst (lv_room hr) hdg hf) hc1 hs1 ee eI eR
theorem aw_xS {mc ms mc0 ms0 : Nat} (C0 : CX g p s m args meth c own cc nL ret) (htab : ∀ x ∈ c.exceptionTable.toList, False) (hW : Wd g I R P Z s.heap H locs) {As : List Value} {y : MethodName} {bytes : ByteArray} {maxL n index : Nat} {rty : Option FieldType} {rm : Room} {ex ez : Nat} {I1 I2 : Mem} {R1 R2 : Rem}
    (hM : vx_Met l y (Cond.code y bytes maxL rty :: GT) rm (va_Pc As (PW g I R P Z)) QN (XX g ex I1 R1 P Z) mc0 ms0 (AA g)) (cw : CallB Rm s args own index y bytes maxL rty (Cond.code y bytes maxL rty :: GT) rm mc0 ms0 n ∧ (Cond.static y).before args s = true)
    (hn : As.length = n) (hsize : ls.size = nL) {st0 : List Value} (hst : st0 = As.reverse ++ rest) (hr : (rest.map fun v => v.category).sum ≤ 8) (hf : cells + mc0 ≤ Rm.cells ∧ slots + ms0 ≤ Rm.slots) (hdg : decode cc pc = .ok (.invokestatic index, 3))
    (hc1 : cells + mc0 ≤ mc) (hs1 : slots + ms0 ≤ ms) {Qc : Array Value → State → Outcome → State → Prop} (ee : ex = ez) (eI : I1 = I2) (eR : R1 = R2) :
    W p l e Rm s m args below meth c H locs cells slots (vx_MQ below Qc (XX g ez I2 R2 P Z) args s mc ms (AA g)) (F0 m pc ls st0) :=
  aw_xOut C0 htab hW.2 (fun _ _ _ h => h) (vx_runS (g := F0 m pc ls st0) (rest := rest) (aw_fix C0) hM cw (aw_preS C0 hW) rfl hn hsize hst (lv_room hr) hdg hf) hc1 hs1 ee eI eR
theorem aw_ofWX {y : MethodName} {rty : Option FieldType} {maxL : Nat} {av : List Value} {rm : Room} {Qc : Array Value → State → Outcome → State → Prop} {XC : String → State → State → Prop} {mc ms : Nat} (hy : plainName y.cls = true) {lv0 : List (Nat × Value)} (hlen : (lg_sl av).length ≤ maxL) (hav : lv_args 0 av = lv0)
    (body : ∀ (p : Program) (e : Env) (s : State) (m : MethodId) (args : Array Value) (below : List Frame) (meth : Method) (c : Code) (ls : Array Slot), CX g p s m args meth c y.cls cc maxL rty → (∀ x ∈ c.exceptionTable.toList, False) → lv_has ls maxL lv0 → Wd g I R P Z s.heap s.heap [] →
      W p l e rm s m args below meth c s.heap [] 0 0 (vx_MQ below Qc XC args s mc ms (AA g)) (F0 m 0 ls [])) : vx_Met l y (Cond.code y cc maxL rty :: GT) rm (va_Pc av (PW g I R P Z)) Qc XC mc ms (AA g) := by
  refine vx_ofW (cc := cc) (maxL := maxL) (ret := rty) hy rfl ?_
  intro p e s m args below meth c s₁ B hml ht hv
  obtain ⟨rfl, hH, hKS⟩ := hv
  have hl := lv_entry av hlen
  rw [hav] at hl
  rw [lg_entry_eq]
  exact body p e s m _ below meth c _ ⟨B.exec, B.bytes, hml, B.returns, findClass_of_methodNamed B.named, fun w h => atoms_spec (ws := Cond.code y cc maxL rty :: GT) B.pre w (List.mem_cons_of_mem _ h), hKS, B.notSynchronized⟩ ht hl ⟨hH, va_S.rf⟩
theorem aw_dret (C0 : CX g p s m args meth c own cc nL (some .double)) (hW : Wd g I R P Z s.heap H locs) {x r : UInt64} {I2 : Mem} {R2 : Rem} (ex : x = r) (eI : I = I2) (eR : R = R2) (hdg : decode cc pc = .ok (.dreturn, 1)) : W p l e Rm s m args below meth c H locs cells slots (MQ below (QD g r I2 R2 P Z) args s cells slots (AA g)) (F0 m pc ls [.double x]) := by
  subst ex; subst eI; subst eR
  obtain ⟨hx, hb, -, hr, hown, hts, hK, hlk⟩ := C0
  exact W.dret (hlocks := hlk) hx hb hr (fun t ht _ => ⟨⟨x, (), rfl, rfl, (show HW g I R P Z t.heap by rw [ht]; exact hW.1)⟩, hW.2.F ht⟩) hW.2.2.2 hdg
theorem aw_cVq (C0 : CX g p s m args meth c own cc nL ret) (hW : Wd g I R P Z s.heap H locs) {k ci : Nat} {fs : List Value} (hk : k ∈ LV P) (he : cel g I R P Z k = .inr (ci, fs)) {C : String} {T : u_T} {N : Nat} (hc : vwCl[ci]? = some (C, T, N)) {As : List Value} {y : MethodName} {bytes : ByteArray} {maxL n index : Nat} {rty : Option FieldType} {rm : Room} {r : Option Nat} {I2 : Mem} {R2 : Rem} {P2 : Pool} {Z2 : Zed}
    (hM : Met l y (Cond.code y bytes maxL rty :: GT) rm (va_Pc (.ref (g.2.2.1 + k) :: As) (PW g I R P Z)) (QQ g r I2 R2 P2 Z2) 0 0 (AA g)) (cw : CallW Rm s args own C index y bytes maxL rty (Cond.code y bytes maxL rty :: GT) rm 0 0 n)
    (hn : As.length = n) (hsize : ls.size = nL) {st0 : List Value} (hst : st0 = As.reverse ++ .ref (g.2.2.1 + k) :: rest) (hr : (rest.map fun v => v.category).sum ≤ 8) (hf : cells ≤ Rm.cells ∧ slots ≤ Rm.slots) (hdg : decode cc pc = .ok (.invokevirtual index, 3))
    (K : ∀ (H1 : Heap) (locs1 : List Loc), Wd g I2 R2 P2 Z2 s.heap H1 locs1 → W p l e Rm s m args below meth c H1 locs1 cells slots Q (F0 m (pc + 3) ls (va_rf (r.map (fun y => g.2.2.1 + y)) :: rest))) : W p l e Rm s m args below meth c H locs cells slots Q (F0 m pc ls st0) := by
  refine va_callq (va_runV (g := F0 m pc ls st0) (rest := rest) (aw_fix C0) hM cw (aw_preV C0 hW hk he hc) rfl hn hsize hst (lv_room hr) hdg hf) hW.2 (fun q _ h => h) (fun q h => h) (fun r0 u t H1 locs1 ht _ hp hB _ _ hS => ?_)
  subst ht; subst hp
  exact K t.heap locs1 ⟨hB, hS⟩
end
end THX
