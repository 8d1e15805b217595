/-! THE LAW'S OWN ROWS: its long[], calls of the methods that make their own object. -/
section LRX
theorem kq14 {P : Pool} (hP : Sh P) {k : Nat} (h : Kd P k = 14) : k = 70 := by
  by_cases hk : k < 70
  · have h' : kdL.getD k 99 = 14 := by unfold Kd at h; rwa [if_pos hk] at h
    have key : ∀ k, k < 70 → kdL.getD k 99 = 14 → k = 70 := by decide +kernel
    exact key k hk h'
  · unfold Kd at h
    rw [if_neg hk] at h
    rcases (hP k (by omega)).1 with h1 | h1 | h1 | h1
    · rw [h1] at h; cases h
    · rw [h1] at h; cases h
    · rw [h1] at h; cases h
    · exact h1.2
theorem cel_Z {g : Gam} {I : Mem} {R : Rem} {P : Pool} {Z Z2 : Zed} {k : Nat} (h1 : Kd P k = 14 → Z2 = Z) : cel g I R P Z2 k = cel g I R P Z k := by
  by_cases a : Kd P k = 14
  · rw [cel_14 a, cel_14 a, h1 a]
  · unfold cel; simp only [if_neg a]
theorem vin64 {j : Nat} (h : j < 64) : vp_in (nI j) 64 := by
  unfold vp_in
  rw [nI_clamp (by omega)]
  exact fun hh => hh.elim (nI_pos (by omega)) (fun h2 => by omega)
theorem CI.pkn {I : Mem} {R : Rem} {P : Pool} {σ : Gst} {n q len : Nat} (hC : CI I R P σ) (hf : FR P n) : CI I R (addP P n q len) σ := by
  have hK : PK I R P I R (addP P n q len) := PK.ad hf (fun _ _ => rfl)
  exact ⟨hC.1.pk hK rfl rfl rfl rfl rfl, hC.2.1.pk hK rfl (fun _ _ => rfl) (fun _ _ _ => rfl) (fun _ _ _ => rfl), fun j hj => ⟨(hC.2.2.1 j hj).1, (hC.2.2.1 j hj).2.pk hK rfl (fun _ _ => rfl) (fun _ _ => rfl)⟩, hC.2.2.2⟩
section
variable {p : Program} {l : Launch} {e : Env} {Rm : Room} {s : State} {m : MethodId} {args : Array Value} {below : List Frame} {meth : Method} {c : Code} {H : Heap} {locs : List Loc} {cells slots : Nat} {Q : State → Prop}
variable {cc : ByteArray} {pc : Nat} {ls : Array Slot} {rest : List Value} {g : Gam} {σ : Gst} {Z : Zed} {own : String} {nL : Nat} {ret : Option FieldType}
theorem al_last (C0 : CX g p s m args meth c own cc nL ret) (hW : WA g σ true Z s.heap H locs) {j : Nat} (hj : j < 64) {x : Int64} (hdg : decode cc pc = .ok (.lastore, 1))
    (K : ∀ (H1 : Heap) (locs1 : List Loc), WA g σ true (vp_updL Z j x) s.heap H1 locs1 → W p l e Rm s m args below meth c H1 locs1 cells slots Q (F0 m (pc + 1) ls rest)) : W p l e Rm s m args below meth c H locs cells slots Q (F0 m pc ls (.long x :: .int (nI j) :: .ref (g.2.2.1 + 70) :: rest)) := by
  obtain ⟨hx, hb, -, -, hown, hts, hK, -⟩ := C0
  obtain ⟨⟨I, R, P, ⟨hP, hD, hSh⟩, hC, hO, hA⟩, hS⟩ := hW
  have hk := lv_kd hSh (hA rfl).1 (by decide)
  obtain ⟨q0, hq⟩ := ws_get (g := g) (I := I) (R := R) (Z := Z) hk
  have hset := ws_set (I2 := I) (R2 := R) (Z2 := vp_updL Z j x) (e := .inl (g.2.1 14, Ln P 70, .inr (.inl (vp_updL Z j x)))) hD hk hq (fun i => by
    by_cases hi : i = 70
    · subst hi; rw [cel_14 (hA rfl).1]; simp [va_up]
    · rw [va_up_ne _ _ hi]; exact (cel_Z (Z := Z) (Z2 := vp_updL Z j x) (fun h => absurd (kq14 hSh h) hi)).symm)
  rw [(hA rfl).2] at hset
  rw [cel_14 (hA rfl).1, (hA rfl).2] at hq
  exact va_last hx hb hK.1 hP hD hS q0 5 hq rfl (vin64 hj) hdg (fun H1 locs1 a1 a2 a3 => by
    rw [nI_clamp (by omega)] at a1 a2
    have a1 : va_P g.1 vwCl ((ws g I R P Z).set q0 (g.2.2.1 + 70, .inl (g.2.1 14, 64, .inr (.inl (vp_updL Z j x))))) H1 := a1
    have a2 : va_D (AA g) ((ws g I R P Z).set q0 (g.2.2.1 + 70, .inl (g.2.1 14, 64, .inr (.inl (vp_updL Z j x))))) := a2
    rw [hset] at a1 a2
    exact K H1 locs1 ⟨⟨I, R, P, ⟨a1, a2, hSh⟩, hC, hO, hA⟩, a3⟩)
theorem al_lald (C0 : CX g p s m args meth c own cc nL ret) (hW : WA g σ true Z s.heap H locs) {j : Nat} (hj : j < 64) (hdg : decode cc pc = .ok (.laload, 1))
    (K : W p l e Rm s m args below meth c H locs cells slots Q (F0 m (pc + 1) ls (.long (Z j) :: rest))) : W p l e Rm s m args below meth c H locs cells slots Q (F0 m pc ls (.int (nI j) :: .ref (g.2.2.1 + 70) :: rest)) := by
  obtain ⟨hx, hb, -, -, hown, hts, hK, -⟩ := C0
  obtain ⟨⟨I, R, P, ⟨hP, hD, hSh⟩, hC, hO, hA⟩, hS⟩ := hW
  obtain ⟨q0, hq⟩ := ws_get (g := g) (I := I) (R := R) (P := P) (Z := Z) (k := 70) (lv_kd hSh (hA rfl).1 (by decide))
  rw [cel_14 (hA rfl).1, (hA rfl).2] at hq
  exact va_lald hx hb hK.1 hP q0 5 hq rfl (vin64 hj) hdg (by rw [nI_clamp (by omega)]; exact K)
theorem al_newL (C0 : CX g p s m args meth c own cc nL ret) (hW : WA g σ false Z0 s.heap H locs) (hsz : H.size = g.2.2.1 + 70) (hRc : cells + 1 ≤ Rm.cells) (hRs : slots + 64 ≤ Rm.slots) (hdg : decode cc pc = .ok (.newarray .long, 2))
    (K : ∀ H1 : Heap, WA g σ true Z0 s.heap H1 locs → W p l e Rm s m args below meth c H1 locs (cells + 1) (slots + 64) Q (F0 m (pc + 2) ls (.ref (g.2.2.1 + 70) :: rest))) : W p l e Rm s m args below meth c H locs cells slots Q (F0 m pc ls (.int 64 :: rest)) := by
  obtain ⟨⟨I, R, P, hH, hC, hO, hA⟩, hS⟩ := hW
  have hf := FR_of hH hsz
  obtain ⟨hx, hb, -, -, hown, hts, hK, -⟩ := C0
  obtain ⟨hP, hD, hSh⟩ := hH
  refine va_newaK (atype := .long) hx hb (hts _ wl250) rfl hdg rfl (by decide) (show (64 : Int32).toNatClampNeg = 64 by decide) (by decide) hRc hRs rfl fun H1 cA e1 z1 o1 hAr hNm => ?_
  have hcA : cA = g.2.1 14 := by
    have h2 := (hK.1.2 5 (g.2.1 14, .long) rfl).2
    have h3 : s.vm.findClass ("[" ++ (FieldType.long).toString) = some (g.2.1 14) := h2
    exact Option.some.inj (hNm.symm.trans h3)
  subst hcA
  have hkk : ∀ (k : Nat) (x : Nat × va_E), (ws g I R P Z0)[k]? = some x → H1[x.1]? = H[x.1]? := fun k x hx => o1 x.1 ((hP k x hx).lt)
  have hP1 : va_P g.1 vwCl (ws g I R P Z0 ++ [(H.size, .inl (g.2.1 14, 64, .inr (.inl Z0)))]) H1 := (hP.kept hkk).app (fun k x hx => by
    have hz : k < 1 := (List.getElem?_eq_some_iff.mp hx).1
    rw [show k = 0 by omega] at hx
    cases hx
    exact e1)
  have hD1 : va_D (AA g) (ws g I R P Z0 ++ [(H.size, .inl (g.2.1 14, 64, .inr (.inl Z0)))]) := hD.push hP rfl (Nat.le_trans hK.2.1 hS.1)
  rw [hsz] at hP1 hD1
  have hkn := kd_nw (q := 14) (len := 64) hf
  have hws := ws_push (g := g) (I := I) (I2 := I) (R := R) (R2 := R) (Z := Z0) (e := .inl (g.2.1 14, 64, .inr (.inl Z0))) (LV_ad (P := P) (n := 70) (q := 14) (len := 64)) (fr_lv hf) (fun k hk => by
    have hne := ad_ne hf hk
    exact cel_P (by unfold Kd addP; simp only [if_neg hne]) (by unfold Ln addP; simp only [if_neg hne])) (by rw [cel_14 hkn, ln_nw hf])
  rw [hws] at hP1 hD1
  have K1 := K H1 ⟨⟨I, R, _, ⟨hP1, hD1, sh_ad hSh hf (Or.inr (Or.inr ⟨rfl, rfl⟩))⟩, hC.pkn hf, hO, fun _ => ⟨hkn, ln_nw hf⟩⟩, ⟨Nat.le_trans hS.1 (by omega), fun x h1 h2 => (o1 x (Nat.lt_of_lt_of_le h1 hS.1)).trans (hS.2.1 x h1 h2), hS.2.2⟩⟩
  rw [← hsz] at K1
  exact K1
/-- a call of a method that makes its own object -/
theorem al_cP {mc ms : Nat} (C0 : CX g p s m args meth c own cc nL ret) (hS : va_S (AA g) s.heap H locs) (hsz : H.size = g.2.2.1) {y : MethodName} {bytes : ByteArray} {maxL n index : Nat} {rty : Option FieldType} {rm : Room}
    (hM : Met l y (Cond.code y bytes maxL rty :: GT) rm (va_Pc [] (PB g)) (QB g) mc ms (AA g)) (cw : CallB Rm s args own index y bytes maxL rty (Cond.code y bytes maxL rty :: GT) rm mc ms n ∧ (Cond.static y).before args s = true)
    (hn : ([] : List Value).length = n) (hsize : ls.size = nL) (hr : (rest.map fun v => v.category).sum ≤ 8) (hf : cells + mc ≤ Rm.cells ∧ slots + ms ≤ Rm.slots) (hdg : decode cc pc = .ok (.invokestatic index, 3))
    (K : ∀ (H1 : Heap) (locs1 : List Loc), va_S (AA g) s.heap H1 locs1 → W p l e Rm s m args below meth c H1 locs1 (cells + mc) (slots + ms) Q (F0 m (pc + 3) ls (.int 1 :: rest))) : W p l e Rm s m args below meth c H locs cells slots Q (F0 m pc ls rest) := by
  refine va_calli (va_runS (g := F0 m pc ls rest) (rest := rest) (aw_fix C0) hM cw ⟨PB_blind, fun U hU hWm => ⟨rfl, C0.2.2.2.2.2.2.1.at' hS hU hWm, by rw [hU]; exact hsz⟩⟩ rfl hn hsize rfl (lv_room hr) hdg hf) hS (fun q _ h => h) (fun q h => h) (fun r0 u t H1 locs1 ht _ hp hB _ _ hS => ?_)
  subst ht; subst hp
  exact K t.heap locs1 hS
end
end LRX
