/-! THE LAW from its start. -/
section LSW
variable {p : Program} {l : Launch} {e : Env} {Rm : Room} {s : State} {m : MethodId} {args : Array Value} {below : List Frame} {meth : Method} {c : Code} {H : Heap} {locs : List Loc} {cells slots : Nat} {Q : State → Prop}
variable {cc : ByteArray} {pc : Nat} {ls : Array Slot} {rest : List Value} {g : Gam} {σ : Gst} {b : Bool} {Z : Zed} {nL : Nat} {ret : Option FieldType}
set_option maxHeartbeats 2000000 in
theorem lw_s0 (hfl : l.stackTraces = false) (C0 : CX g p s m args meth c RL cL_law 15 (some .boolean)) {bs : Nat} (hl : lv_has ls 15 [(3, .int 0), (2, .ref (g.2.2.1 + 70)), (1, .ref (g.2.2.1 + 0)), (0, .ref bs)]) (hW : WA g wgn0 true Z0 s.heap H locs) (hK : ∀ (H : Heap) (locs : List Loc) (ls : Array Slot), WA g wgn7 true Z0 s.heap H locs → lv_has ls 15 [(6, .int 0), (3, .int 0), (4, .long (seenA wan4)), (2, .ref (g.2.2.1 + 70)), (1, .ref (g.2.2.1 + 0)), (0, .ref bs)] → W p l e room_1 s m args below meth c H locs 1365 43874 Q (F0 m 105 ls [])) : W p l e room_1 s m args below meth c H locs 1361 43744 Q (F0 m 35 ls []) := by
  have hx := C0.1; have hb := C0.2.1; have hown := C0.2.2.2.2.1; have hts := C0.2.2.2.2.2.1
  refine lv_aload_n hx hb dL_law_35 rfl (lv_at hl 2 rfl) ?_
  refine lv_iconst (v := 0) hx hb dL_law_36 (by decide) ?_
  refine lv_iconst (v := 5) hx hb dL_law_37 (by decide) ?_
  refine lv_iconst (v := 1) hx hb dL_law_38 (by decide) ?_
  refine lv_iconst (v := (-1)) hx hb dL_law_39 (by decide) ?_
  refine lv_iconst (v := 2) hx hb dL_law_40 (by decide) ?_
  refine ar_add (rest := []) C0 hl.1 hW wfk1 (To_eq wfk2) ⟨Nat.le_of_ble_eq_true rfl, Nat.le_of_ble_eq_true rfl⟩ (Nat.le_of_ble_eq_true rfl) ⟨Nat.le_of_ble_eq_true rfl, Nat.le_of_ble_eq_true rfl⟩ dL_law_41 (fun H locs hW => ?_)
  refine lv_if_ne (tgt := 94) hx hb dL_law_44 rfl (fun hc => absurd hc (by decide)) (fun _ => ?_)
  refine lv_aload_n hx hb dL_law_47 rfl (lv_at hl 2 rfl) ?_
  refine lv_iconst (v := 1) hx hb dL_law_48 (by decide) ?_
  refine lv_iconst (v := 5) hx hb dL_law_49 (by decide) ?_
  refine lv_iconst (v := (-1)) hx hb dL_law_50 (by decide) ?_
  refine lv_iconst (v := 3) hx hb dL_law_51 (by decide) ?_
  refine lv_iconst (v := 0) hx hb dL_law_52 (by decide) ?_
  refine ar_add (rest := []) C0 hl.1 hW wfk3 (To_eq wfk4) ⟨Nat.le_of_ble_eq_true rfl, Nat.le_of_ble_eq_true rfl⟩ (Nat.le_of_ble_eq_true rfl) ⟨Nat.le_of_ble_eq_true rfl, Nat.le_of_ble_eq_true rfl⟩ dL_law_53 (fun H locs hW => ?_)
  refine lv_if_ne (tgt := 94) hx hb dL_law_56 rfl (fun hc => absurd hc (by decide)) (fun _ => ?_)
  refine lv_aload_n hx hb dL_law_59 rfl (lv_at hl 2 rfl) ?_
  refine lv_iconst (v := 0) hx hb dL_law_60 (by decide) ?_
  refine lv_ldc2 (v := 106911256830527) hx hb hown (hts _ wl244) dL_law_61 ?_
  refine lv_lconst (v := 0) hx hb dL_law_64 rfl ?_
  refine lv_iconst (v := 3) hx hb dL_law_65 (by decide) ?_
  refine al_cSi (rest := []) C0 hW (c_L_defines (B := ([] : List Nat)) (T1 := [97, 60, 55, 124, 98, 63]) (T2 := [97, 60, 55, 124, 98, 63]) (τ := wgn4) wfk5 wfk6 wfk7 wfk8 wfk9 (To_eq wfk10) rfl) (ls_defines hts ⟨Nat.le_of_ble_eq_true rfl, Nat.le_of_ble_eq_true rfl⟩) rfl hl.1 rfl (Nat.le_of_ble_eq_true rfl) ⟨Nat.le_of_ble_eq_true rfl, Nat.le_of_ble_eq_true rfl⟩ dL_law_66 (fun H locs hW => ?_)
  have hW : WA g wgn4 true Z0 s.heap H locs := hW
  refine lv_if_eq (tgt := 94) hx hb dL_law_69 rfl (fun hc => absurd hc (by decide)) (fun _ => ?_)
  refine lv_aload_n hx hb dL_law_72 rfl (lv_at hl 2 rfl) ?_
  refine lv_iconst (v := 1) hx hb dL_law_73 (by decide) ?_
  refine lv_ldc2 (v := 560151858) hx hb hown (hts _ wl245) dL_law_74 ?_
  refine lv_lconst (v := 0) hx hb dL_law_77 rfl ?_
  refine lv_iconst (v := 2) hx hb dL_law_78 (by decide) ?_
  refine al_cSi (rest := []) C0 hW (c_L_defines (B := ([] : List Nat)) (T1 := [33, 99, 61, 50]) (T2 := [33, 99, 61, 50]) (τ := wgn6) wfk11 wfk12 wfk13 wfk14 wfk15 (To_eq wfk16) rfl) (ls_defines hts ⟨Nat.le_of_ble_eq_true rfl, Nat.le_of_ble_eq_true rfl⟩) rfl hl.1 rfl (Nat.le_of_ble_eq_true rfl) ⟨Nat.le_of_ble_eq_true rfl, Nat.le_of_ble_eq_true rfl⟩ dL_law_79 (fun H locs hW => ?_)
  have hW : WA g wgn6 true Z0 s.heap H locs := hW
  refine lv_if_eq (tgt := 94) hx hb dL_law_82 rfl (fun hc => absurd hc (by decide)) (fun _ => ?_)
  refine lv_aload_n hx hb dL_law_85 rfl (lv_at hl 2 rfl) ?_
  refine lv_iconst (v := 0) hx hb dL_law_86 (by decide) ?_
  refine ar_keep (rest := []) C0 hl.1 hW wfk17 (To_eq wfk18) ⟨Nat.le_of_ble_eq_true rfl, Nat.le_of_ble_eq_true rfl⟩ (Nat.le_of_ble_eq_true rfl) ⟨Nat.le_of_ble_eq_true rfl, Nat.le_of_ble_eq_true rfl⟩ dL_law_87 (fun H locs hW => ?_)
  refine lv_iconst (v := 2) hx hb dL_law_90 (by decide) ?_
  refine lv_icmp_eq (tgt := 96) hx hb dL_law_91 rfl (fun _ => ?_) (fun hc => absurd (by decide) hc)
  refine lv_aload_n hx hb dL_law_96 rfl (lv_at hl 2 rfl) ?_
  refine al_cSl (rest := []) C0 hW (c_L_seen (σ := wgn7) (r := seenA wan4) (seen_A wgn7)) (ls_seen hts ⟨Nat.le_of_ble_eq_true rfl, Nat.le_of_ble_eq_true rfl⟩) rfl hl.1 rfl (Nat.le_of_ble_eq_true rfl) ⟨Nat.le_of_ble_eq_true rfl, Nat.le_of_ble_eq_true rfl⟩ dL_law_97 (fun H locs hW => ?_)
  refine lv_lstore (lv' := [(4, .long (seenA wan4)), (3, .int 0), (2, .ref (g.2.2.1 + 70)), (1, .ref (g.2.2.1 + 0)), (0, .ref bs)]) hx hb dL_law_100 hl (Nat.le_of_ble_eq_true rfl) rfl (fun ls hl => ?_)
  refine lv_iconst (v := 0) hx hb dL_law_102 (by decide) ?_
  refine lv_istore (lv' := [(6, .int 0), (4, .long (seenA wan4)), (3, .int 0), (2, .ref (g.2.2.1 + 70)), (1, .ref (g.2.2.1 + 0)), (0, .ref bs)]) hx hb dL_law_103 hl (Nat.le_of_ble_eq_true rfl) rfl (fun ls hl => ?_)
  have hl := lv_sub hl [0, 2, 1, 3, 4, 5] rfl
  have hl : lv_has ls 15 [(6, .int 0), (3, .int 0), (4, .long (seenA wan4)), (2, .ref (g.2.2.1 + 70)), (1, .ref (g.2.2.1 + 0)), (0, .ref bs)] := hl
  exact W.widen (Nat.le_of_ble_eq_true rfl) (Nat.le_of_ble_eq_true rfl) (hK H locs ls hW hl)
end LSW
def R_law : String := "TruthFiltersLaw"
def lw_P (b : Addr) (xs : List Int32) (args : Array Value) (s : State) : Prop := args = #[.ref b] ∧ s.IntsAt b xs ∧ xs.length ≤ 260 ∧ (Jvm.Cond.and given_1 narrow_1).before args s = true
/-- what a walk over the start with the record d0 says of its end, said of the start itself -/
theorem lw_closed {s t : State} {o : Outcome} {d0 : Drawn} {L : List Loc} {k n : Nat} (hd0 : s.drawn.sameBut d0 lw_cs) (hv : ∃ v, o = .returned v) (hW : (s.setDrawn d0).WarmedH t.vm) (hs : (s.setDrawn d0).sameButNew ({ t with vm := s.vm } : State) L k n) : State.butDraws s t lw_cs (fun t1 => Framed s o t1 L k n) := by
  have h2 : t.drawn = d0 := congrArg State.drawn hs.1
  refine ⟨⟨hv, hW, State.sameButNew.setDrawn hs s.drawn⟩, ?_, by decide⟩
  rw [h2]
  exact hd0
def lw_Q (_ : Array Value) (s : State) (o : Outcome) (t : State) : Prop := o = .returned (some (.int 1)) ∧ State.butDraws s t lw_cs (fun t1 => Framed s o t1 [] room_1.cells room_1.slots)
def lw_Z (below : List Frame) (a : Array Value) (s : State) : State → Prop := fun t => ∃ o, t.status = .running ∧ Ended t below o ∧ lw_Q a s o t
/-- the law's own end, with 1 on the stack, nothing written that was there before, its room as the claim has it; d0: the record of draws at this point (at the entry s.drawn: begin with 'refine W.base ?_' and 'have hd0 := Drawn.sameBut.refl s.drawn lw_cs') -/
theorem lw_ret {p : Program} {l : Launch} {e : Env} {s : State} {m : MethodId} {below : List Frame} {meth : Method} {c : Code} {b : Nat} {d0 : Drawn} (hd0 : s.drawn.sameBut d0 lw_cs) (hx : p.tables.exec = Jvm.exec) (hb : c.code = code) (hr : meth.sig.returnType = ret) (hlocks : meth.locks = false) {pc : Nat} {H : Heap} {ls : Array Slot} (hdg : decode code pc = .ok (.ireturn, 1)) : W p l e room_1 (s.setDrawn d0) m #[Value.ref b] below meth c H [] room_1.cells room_1.slots (lw_Z below #[Value.ref b] s) (F0 m pc ls [.int 1]) := by
  intro T hT X
  obtain ⟨fs, hret, hrun, hended, hW, hframe⟩ := X.leave (v := some (.int 1)) (hlocks := hlocks) (fun h => by rw [hr] at h; cases h)
  have hmeth' : T.vm.method? m = some meth := X.method'
  refine ⟨T.setFrames fs, ?_, .returned (some (.int 1)), hrun, hended, rfl, lw_closed hd0 ⟨_, rfl⟩ hW hframe⟩
  jvm_step X.here [X.here.top, hx, hb, hdg, hmeth', hr, ret, narrow_b1]
  (try refine ⟨rfl, ?_⟩); (try refine ⟨rfl, ?_⟩)
  first | (intro acts; rw [hret _ acts rfl rfl rfl]) | rw [hret _ _ rfl rfl rfl]
  exact Steps.refl _
/-- what holds at the law's entry: the machine, the code, the tables' words (any of lw_tbl by 'hts w (by decide +kernel)'), the script of L ints xs at the cell b, what the Statement gives of the start (any of its parts by flat_of_before) -/
def lw_At (p : Program) (s : State) (m : MethodId) (meth : Method) (c : Code) (b L : Nat) (xs : Nat → Int32) : Prop :=
  p.tables.exec = Jvm.exec ∧ c.code = code ∧ meth.sig.returnType = ret ∧ c.maxLocals = 15 ∧ s.vm.findClass R_law = some m.cls ∧ (∀ w ∈ lw_tbl, w.before #[Value.ref b] s = true) ∧ va_X b L xs s s.heap ∧ b < s.heap.size ∧ meth.locks = false ∧ (Jvm.Cond.and given_1 narrow_1).before #[Value.ref b] s = true
section LWT
set_option maxHeartbeats 4000000 in
set_option maxRecDepth 100000 in
theorem law_start {p : Program} {e : Env} {s : State} {m : MethodId} {below : List Frame} {meth : Method} {c : Code} (l : Launch) (hflags : l.flags = flags0) {b L : Nat} {xs : Nat → Int32} (hL : L ≤ 260) (C0 : lw_At p s m meth c b L xs) : W p l e room_1 s m #[Value.ref b] below meth c s.heap [] 0 0 (lw_Z below #[Value.ref b] s) (entryFrame m ([Value.ref b] : List Value).toArray 15) := by
  obtain ⟨hx, hb, hr, hml, hown, hts0, hX, hbl, hlocks, hgv⟩ := id C0
  have hfl : l.stackTraces = false := by unfold Launch.stackTraces; rw [hflags]; decide +kernel
  obtain ⟨g, hg, hKS⟩ := ks_start hts0 hgv
  have hts : ∀ w ∈ GT, w.before #[Value.ref b] s = true := fun w h => hts0 w (List.mem_filter.mp h).1
  have hb : c.code = cL_law := hb
  have C1 : ∀ nb : Nat, CX (g.1, g.2.1, nb, g.2.2.2) p s m #[Value.ref b] meth c RL cL_law 15 (some .boolean) := fun nb => ⟨hx, hb, hml, hr, hown, hts, hKS, hlocks⟩
  have hl := lv_entry ([.ref b]) (n := 15) (Nat.le_of_ble_eq_true rfl)
  rw [lg_entry_eq]
  generalize (lg_sl ([.ref b]) ++ List.replicate (15 - (lg_sl ([.ref b])).length) Slot.unset).toArray = ls at hl ⊢
  have hl : lv_has ls 15 [(0, .ref b)] := hl
  obtain ⟨H, hH⟩ : ∃ H, H = s.heap := ⟨_, rfl⟩
  obtain ⟨locs, hlc⟩ : ∃ q : List Loc, q = [] := ⟨_, rfl⟩
  rw [show W p l e room_1 s m #[Value.ref b] below meth c s.heap [] 0 0 (lw_Z below #[Value.ref b] s) (F0 m 0 ls []) = W p l e room_1 s m #[Value.ref b] below meth c H locs 0 0 (lw_Z below #[Value.ref b] s) (F0 m 0 ls []) by rw [hH, hlc]]
  have hS : va_S (AA g) s.heap H locs := by rw [hH, hlc]; exact va_S.rf
  refine al_cP (g := (g.1, g.2.1, H.size, g.2.2.2)) (C1 _) hS rfl (c_L_rows hfl) (ls_rows hts ⟨Nat.le_of_ble_eq_true rfl, Nat.le_of_ble_eq_true rfl⟩) rfl hl.1 (Nat.le_of_ble_eq_true rfl) ⟨Nat.le_of_ble_eq_true rfl, Nat.le_of_ble_eq_true rfl⟩ dL_law_0 (fun H locs hS => ?_)
  have hS : va_S (AA g) s.heap H locs := hS
  refine lv_if_eq (tgt := 18) hx hb dL_law_3 rfl (fun hc => absurd hc (by decide)) (fun _ => ?_)
  refine al_cP (g := (g.1, g.2.1, H.size, g.2.2.2)) (C1 _) hS rfl (c_L_limits hfl) (ls_limits hts ⟨Nat.le_of_ble_eq_true rfl, Nat.le_of_ble_eq_true rfl⟩) rfl hl.1 (Nat.le_of_ble_eq_true rfl) ⟨Nat.le_of_ble_eq_true rfl, Nat.le_of_ble_eq_true rfl⟩ dL_law_6 (fun H locs hS => ?_)
  have hS : va_S (AA g) s.heap H locs := hS
  refine lv_if_eq (tgt := 18) hx hb dL_law_9 rfl (fun hc => absurd hc (by decide)) (fun _ => ?_)
  refine al_cP (g := (g.1, g.2.1, H.size, g.2.2.2)) (C1 _) hS rfl (c_L_texts hfl) (ls_texts hts ⟨Nat.le_of_ble_eq_true rfl, Nat.le_of_ble_eq_true rfl⟩) rfl hl.1 (Nat.le_of_ble_eq_true rfl) ⟨Nat.le_of_ble_eq_true rfl, Nat.le_of_ble_eq_true rfl⟩ dL_law_12 (fun H locs hS => ?_)
  have hS : va_S (AA g) s.heap H locs := hS
  refine lv_if_ne (tgt := 20) hx hb dL_law_15 rfl (fun _ => ?_) (fun hc => absurd hc (by decide))
  obtain ⟨γ, Cg, hg1, hg2⟩ : ∃ γ : Gam, CX γ p s m #[Value.ref b] meth c RL cL_law 15 (some .boolean) ∧ H.size = γ.2.2.1 ∧ γ.2.2.2 = g.2.2.2 := ⟨(g.1, g.2.1, H.size, g.2.2.2), C1 _, rfl, rfl⟩
  have hS : va_S (AA γ) s.heap H locs := by
    have e : AA γ = AA g := by unfold AA; rw [hg2]
    rw [e]; exact hS
  have hbs : b < γ.2.2.2 := by rw [hg2, hg]; exact hbl
  refine al_new (g := γ) Cg hl.1 hS hg1 ⟨Nat.le_of_ble_eq_true rfl, Nat.le_of_ble_eq_true rfl⟩ ⟨Nat.le_of_ble_eq_true rfl, Nat.le_of_ble_eq_true rfl⟩ dL_law_20 dL_law_23 dL_law_24 (fun H locs hsz hW => ?_)
  have hW := WA_eq wfk0 hW
  refine lv_astore_n (lv' := [(1, .ref (γ.2.2.1 + 0)), (0, .ref b)]) hx hb dL_law_27 rfl hl (Nat.le_of_ble_eq_true rfl) rfl (fun ls hl => ?_)
  refine lv_bipush (v := 64) hx hb dL_law_28 (by decide) ?_
  refine al_newL Cg hW hsz (Nat.le_of_ble_eq_true rfl) (Nat.le_of_ble_eq_true rfl) dL_law_30 (fun H hW => ?_)
  refine lv_astore_n (lv' := [(2, .ref (γ.2.2.1 + 70)), (1, .ref (γ.2.2.1 + 0)), (0, .ref b)]) hx hb dL_law_32 rfl hl (Nat.le_of_ble_eq_true rfl) rfl (fun ls hl => ?_)
  refine lv_iconst (v := 0) hx hb dL_law_33 (by decide) ?_
  refine lv_istore_n (lv' := [(3, .int 0), (2, .ref (γ.2.2.1 + 70)), (1, .ref (γ.2.2.1 + 0)), (0, .ref b)]) hx hb dL_law_34 rfl hl (Nat.le_of_ble_eq_true rfl) rfl (fun ls hl => ?_)
  refine W.widen (k := 1361) (n := 43744) (Nat.le_of_ble_eq_true rfl) (Nat.le_of_ble_eq_true rfl) ?_
  refine lw_s0 hfl Cg hl hW (fun H locs ls hW hl => ?_)
  have hW : WA γ (wan4, [wan0, wan1, wan2, wan3], (kpO (some wan4) none), []) true Z0 s.heap H locs := hW
  refine lw_loop hfl Cg hX hbs hL (X := (kpO (some wan4) none)) (c0 := 1365) (s0 := 43874) ⟨Nat.le_of_ble_eq_true rfl, Nat.le_of_ble_eq_true rfl⟩ (fun n h N S Z H locs ls hn hLI hZ hW hl => ?_) 28 0 0 (fun _ => wan4) wan4 [wan0, wan1, wan2, wan3] Z0 H locs ls rfl (Nat.le_refl _) ⟨rfl, rfl, fun j _ hj => absurd hj (Nat.not_lt_zero _)⟩ (fun i hi => absurd hi (Nat.not_lt_zero _)) hW hl
  refine lw_mid hfl Cg (n := n) (by omega) hl hW (Nat.le_of_ble_eq_true rfl) (Nat.le_of_ble_eq_true rfl) (fun H locs ls hW hl => ?_)
  have hZ2 : ∀ i, i ≤ n → vp_updL Z n (seenF (N, S, (kpO (some wan4) none), [])) i = seenA (h i) := fun i hi => by
    by_cases e : i = n
    · rw [e, hLI.1]; exact if_pos rfl
    · exact (if_neg e).trans (hZ i (by omega))
  refine lw_u1 hfl Cg (n := n) (h := h) (by omega) hZ2 (Nat.le_of_ble_eq_true rfl) (Nat.le_of_ble_eq_true rfl) (fun N S H locs ls h6 hW hl => ?_) n 0 N S H locs ls (by omega) (LU.z hLI) hW hl
  refine lv_iconst (v := 0) hx hb dL_law_598 (by decide) ?_
  refine lv_istore (lv' := [(6, .int 0), (4, .long (seenA wan4)), (2, .ref (γ.2.2.1 + 70)), (1, .ref (γ.2.2.1 + 0)), (0, .ref b)]) hx hb dL_law_599 hl (Nat.le_of_ble_eq_true rfl) rfl (fun ls hl => ?_)
  refine lw_u2 hfl Cg (X := (kpO (some wan4) none)) (Nat.le_of_ble_eq_true rfl) (Nat.le_of_ble_eq_true rfl) (fun N H locs ls hW hl => ?_) 6 0 N S H locs ls rfl h6 hW hl
  refine lw_fin hfl Cg (A0 := wan4) (X := (kpO (some wan4) none)) rfl rfl hl hW (Nat.le_of_ble_eq_true rfl) (Nat.le_of_ble_eq_true rfl) (fun H locs ls hS => ?_)
  refine va_forget (fun q hq => ?_) ?_
  · have h9 : γ.2.2.2 ≤ q.base := hS.2.2 q hq
    rw [hg2, hg] at h9; exact h9
  · exact W.widen (Nat.le_of_ble_eq_true rfl) (Nat.le_of_ble_eq_true rfl) (lw_ret (d0 := s.drawn) (Drawn.sameBut.refl s.drawn lw_cs) hx hb hr hlocks dL_law_680)
end LWT
