/-! CALLS OUT OF THE LAW: a double, new objects in the pool, a call that has thrown. -/
section LRX
variable {p : Program} {l : Launch} {e : Env} {Rm : Room} {s : State} {m : MethodId} {args : Array Value} {below : List Frame} {meth : Method} {c : Code} {H : Heap} {locs : List Loc} {cells slots : Nat} {Q : State → Prop}
variable {cc : ByteArray} {pc : Nat} {ls : Array Slot} {rest : List Value} {g : Gam} {I : Mem} {R : Rem} {P : Pool} {Z : Zed} {own : String} {nL : Nat} {ret : Option FieldType}
theorem aw_cVd (C0 : CX g p s m args meth c own cc nL ret) (hW : Wd g I R P Z s.heap H locs) {k ci : Nat} {fs : List Value} (hk : k ∈ LV P) (he : cel g I R P Z k = .inr (ci, fs)) {C : String} {T : u_T} {N : Nat} (hc : vwCl[ci]? = some (C, T, N)) {As : List Value} {y : MethodName} {bytes : ByteArray} {maxL n index : Nat} {rty : Option FieldType} {rm : Room} {r : UInt64} {I2 : Mem} {R2 : Rem} {P2 : Pool} {Z2 : Zed}
    (hM : Met l y (Cond.code y bytes maxL rty :: GT) rm (va_Pc (.ref (g.2.2.1 + k) :: As) (PW g I R P Z)) (QD g r I2 R2 P2 Z2) 0 0 (AA g)) (cw : CallW Rm s args own C index y bytes maxL rty (Cond.code y bytes maxL rty :: GT) rm 0 0 n)
    (hn : As.length = n) (hsize : ls.size = nL) {st0 : List Value} (hst : st0 = As.reverse ++ .ref (g.2.2.1 + k) :: rest) (hr : (rest.map fun v => v.category).sum ≤ 8) (hf : cells ≤ Rm.cells ∧ slots ≤ Rm.slots) (hdg : decode cc pc = .ok (.invokevirtual index, 3))
    (K : ∀ (H1 : Heap) (locs1 : List Loc), Wd g I2 R2 P2 Z2 s.heap H1 locs1 → W p l e Rm s m args below meth c H1 locs1 cells slots Q (F0 m (pc + 3) ls (.double r :: rest))) : W p l e Rm s m args below meth c H locs cells slots Q (F0 m pc ls st0) := by
  refine va_calld (va_runV (g := F0 m pc ls st0) (rest := rest) (aw_fix C0) hM cw (aw_preV C0 hW hk he hc) rfl hn hsize hst (lv_room hr) hdg hf) hW.2 (fun q _ h => h) (fun q h => h) (fun r0 u t H1 locs1 ht _ hp hB _ _ hS => ?_)
  subst ht; subst hp
  exact K t.heap locs1 ⟨hB, hS⟩
theorem aw_nVi {n0 mc ms : Nat} (C0 : CX g p s m args meth c own cc nL ret) (hW : Wd g I R P Z s.heap H locs) (hsz : H.size = g.2.2.1 + n0) {k ci : Nat} {fs : List Value} (hk : k ∈ LV P) (he : cel g I R P Z k = .inr (ci, fs)) {C : String} {T : u_T} {N : Nat} (hc : vwCl[ci]? = some (C, T, N)) {As : List Value} {y : MethodName} {bytes : ByteArray} {maxL n index : Nat} {rty : Option FieldType} {rm : Room} {r : Int32} {I2 : Mem} {R2 : Rem} {P2 : Pool} {Z2 : Zed}
    (hM : Met l y (Cond.code y bytes maxL rty :: GT) rm (va_Pc (.ref (g.2.2.1 + k) :: As) (PWn g I R P Z n0)) (QI g r I2 R2 P2 Z2) mc ms (AA g)) (cw : CallW Rm s args own C index y bytes maxL rty (Cond.code y bytes maxL rty :: GT) rm mc ms n)
    (hn : As.length = n) (hsize : ls.size = nL) {st0 : List Value} (hst : st0 = As.reverse ++ .ref (g.2.2.1 + k) :: rest) (hr : (rest.map fun v => v.category).sum ≤ 8) (hf : cells + mc ≤ Rm.cells ∧ slots + ms ≤ Rm.slots) (hdg : decode cc pc = .ok (.invokevirtual index, 3))
    (K : ∀ (H1 : Heap) (locs1 : List Loc), Wd g I2 R2 P2 Z2 s.heap H1 locs1 → W p l e Rm s m args below meth c H1 locs1 (cells + mc) (slots + ms) Q (F0 m (pc + 3) ls (.int r :: rest))) : W p l e Rm s m args below meth c H locs cells slots Q (F0 m pc ls st0) := by
  refine va_calli (va_runV (g := F0 m pc ls st0) (rest := rest) (aw_fix C0) hM cw (aw_preVn C0 hW hsz hk he hc) rfl hn hsize hst (lv_room hr) hdg hf) hW.2 (fun q _ h => h) (fun q h => h) (fun r0 u t H1 locs1 ht _ hp hB hz _ hS => ?_)
  subst ht; subst hp
  exact K t.heap locs1 ⟨hB, hS⟩
/-- a call that has thrown: the handlers come next -/
theorem aw_xCt {mc0 ms0 : Nat} (C0 : CX g p s m args meth c own cc nL ret) (hW : Wd g I R P Z s.heap H locs) {k ci : Nat} {fs : List Value} (hk : k ∈ LV P) (he : cel g I R P Z k = .inr (ci, fs)) {C : String} {T : u_T} {N : Nat} (hc : vwCl[ci]? = some (C, T, N)) {As : List Value} {y : MethodName} {bytes : ByteArray} {maxL n index : Nat} {rty : Option FieldType} {rm : Room} {ex : Nat} {I1 : Mem} {R1 : Rem}
    (hM : vx_Met l y (Cond.code y bytes maxL rty :: GT) rm (va_Pc (.ref (g.2.2.1 + k) :: As) (PW g I R P Z)) QN (XX g ex I1 R1 P Z) mc0 ms0 (AA g)) (cw : CallW Rm s args own C index y bytes maxL rty (Cond.code y bytes maxL rty :: GT) rm mc0 ms0 n)
    (hn : As.length = n) (hsize : ls.size = nL) {st0 : List Value} (hst : st0 = As.reverse ++ .ref (g.2.2.1 + k) :: rest) (hr : (rest.map fun v => v.category).sum ≤ 8) (hf : cells + mc0 ≤ Rm.cells ∧ slots + ms0 ≤ Rm.slots) (hdg : decode cc pc = .ok (.invokevirtual index, 3))
    (K : ∀ (H1 : Heap) (locs1 : List Loc) (q : Addr) (ce : Cell), Wd g I1 R1 P Z s.heap H1 locs1 → H1[q]? = some ce → ce.vm = .none → s.vm.findClass (exn ex) = some ce.cls → vx_W p l e Rm s m args below meth c H1 locs1 (cells + mc0) (slots + ms0) Q (F0 m pc ls rest) q) : W p l e Rm s m args below meth c H locs cells slots Q (F0 m pc ls st0) := by
  have hr2 : vx_Run p l e Rm s m args below meth c H locs cells slots mc0 ms0 (F0 m pc ls st0) rest _ (XX g ex I1 R1 P Z) (AA g) := vx_runV (g := F0 m pc ls st0) (rest := rest) (aw_fix C0) hM cw (aw_preV C0 hW hk he hc) rfl hn hsize hst (lv_room hr) hdg hf
  intro T hT X
  rcases hr2 T hT X with ⟨v, st₀, t, T', L, h0, X', hL, e1, e2, hq, st⟩ | ⟨q, st₀, t, T', L, E, ce, h0, X', hL, e1, e2, ⟨hE, hH, hF⟩, hce, hcv, hcl, st⟩
  · exact (show False from hq).elim
  · obtain ⟨k1, k2, k3⟩ := vx_keep h0 e1 hW.2 (fun q _ h => h) (fun q h => h) hL hF
    subst hE
    obtain ⟨t2, a1, b1⟩ := K T'.heap (locs ++ L) q ce ⟨by rw [e1]; exact hH, k3⟩ (by rw [e1]; exact hce) hcv hcl T' rfl X'
    exact ⟨t2, st.trans a1, b1⟩
end LRX
