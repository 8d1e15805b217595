/-! EACH CALL OF THE CLASS, out of the law: ar_ returns, ax_ throws. -/
section ARX
variable {p : Program} {l : Launch} {e : Env} {Rm : Room} {s : State} {m : MethodId} {args : Array Value} {below : List Frame} {meth : Method} {c : Code} {H : Heap} {locs : List Loc} {cells slots : Nat} {Q : State → Prop}
variable {cc : ByteArray} {pc : Nat} {ls : Array Slot} {rest : List Value} {g : Gam} {σ : Gst} {b : Bool} {Z : Zed} {nL : Nat} {ret : Option FieldType}
theorem lw_add (ht : ∀ w ∈ GT, w.before args s = true) (hR : rmX8_add.frames + 1 ≤ Rm.frames ∧ 8 + (8 + 11) + rmX8_add.locals ≤ Rm.locals) : CallW Rm s args RL RX8 13 yX8_add cX8_add 8 (some .int) (Cond.code yX8_add cX8_add 8 (some .int) :: GT) rmX8_add 0 0 5 := cwV 5 ht (goodV wl4 wl6 wl7 wd76 wl5) rfl rfl rfl ⟨rfl, by decide +kernel, by decide +kernel, by decide +kernel⟩ hR
theorem lx_add (ht : ∀ w ∈ GT, w.before args s = true) (hR : rmxX8_add.frames + 1 ≤ Rm.frames ∧ 8 + (8 + 11) + rmxX8_add.locals ≤ Rm.locals) : CallW Rm s args RL RX8 13 yX8_add cX8_add 8 (some .int) (Cond.code yX8_add cX8_add 8 (some .int) :: GT) rmxX8_add 1 6 5 := cwV 5 ht (goodV wl4 wl6 wl7 wd76 wl5) rfl rfl rfl ⟨rfl, by decide +kernel, by decide +kernel, by decide +kernel⟩ hR
theorem ar_add (C0 : CX g p s m args meth c RL cc nL ret) (hsize : ls.size = nL) (hW : WA g σ b Z s.heap H locs) {x1 x2 x3 x4 x5 : Int32} {v : Int32} {τ : Gst} (hop : (opAdd σ x1 x2 x3 x4 x5).1 = .inl v) (ht : To (opAdd σ x1 x2 x3 x4 x5).2 τ) (hR : rmX8_add.frames + 1 ≤ Rm.frames ∧ 8 + (8 + 11) + rmX8_add.locals ≤ Rm.locals) (hr : (rest.map fun v => v.category).sum ≤ 8) (hf : cells + 0 ≤ Rm.cells ∧ slots + 0 ≤ Rm.slots) (hdg : decode cc pc = .ok (.invokevirtual 13, 3))
    (K : ∀ (H1 : Heap) (locs1 : List Loc), WA g τ b Z s.heap H1 locs1 → W p l e Rm s m args below meth c H1 locs1 (cells + 0) (slots + 0) Q (F0 m (pc + 3) ls (.int v :: rest))) : W p l e Rm s m args below meth c H locs cells slots Q (F0 m pc ls (.int x5 :: .int x4 :: .int x3 :: .int x2 :: .int x1 :: .ref (g.2.2.1 + 0) :: rest)) := by
  have hts := C0.2.2.2.2.2.1
  obtain ⟨⟨I, R, P, hH, hC, hO, hA⟩, hS⟩ := hW
  obtain ⟨I1, R1, e1, e2, e3⟩ := m_add (x1 := x1) (x2 := x2) (x3 := x3) (x4 := x4) (x5 := x5) hC hO
  rw [hop] at e1
  exact aw_cVi (rest := rest) C0 ⟨hH, hS⟩ (lv_fix (by decide)) (cel_7 kd0) rfl (c_X8_add x1 x2 x3 x4 x5 e1) (lw_add hts hR) rfl hsize rfl hr hf hdg (fun H1 locs1 hW1 => K H1 locs1 ⟨⟨I1, R1, P, hW1.1, ht.1 _ _ _ e2, ht.2 e3, hA⟩, hW1.2⟩)
theorem ax_add (hfl : l.stackTraces = false) (C0 : CX g p s m args meth c RL cc nL ret) (hsize : ls.size = nL) (hW : WA g σ b Z s.heap H locs) {x1 x2 x3 x4 x5 : Int32} {v : Nat} {τ : Gst} (hop : (opAdd σ x1 x2 x3 x4 x5).1 = .inr v) (ht : To (opAdd σ x1 x2 x3 x4 x5).2 τ) (hR : rmxX8_add.frames + 1 ≤ Rm.frames ∧ 8 + (8 + 11) + rmxX8_add.locals ≤ Rm.locals) (hr : (rest.map fun v => v.category).sum ≤ 8) (hf : cells + 1 ≤ Rm.cells ∧ slots + 6 ≤ Rm.slots) (hdg : decode cc pc = .ok (.invokevirtual 13, 3))
    (K : ∀ (H1 : Heap) (locs1 : List Loc) (q : Addr) (ce : Cell), WA g τ b Z s.heap H1 locs1 → H1[q]? = some ce → ce.vm = .none → s.vm.findClass (exn v) = some ce.cls → vx_W p l e Rm s m args below meth c H1 locs1 (cells + 1) (slots + 6) Q (F0 m pc ls rest) q) : W p l e Rm s m args below meth c H locs cells slots Q (F0 m pc ls (.int x5 :: .int x4 :: .int x3 :: .int x2 :: .int x1 :: .ref (g.2.2.1 + 0) :: rest)) := by
  have hts := C0.2.2.2.2.2.1
  obtain ⟨⟨I, R, P, hH, hC, hO, hA⟩, hS⟩ := hW
  obtain ⟨I1, R1, e1, e2, e3⟩ := m_add (x1 := x1) (x2 := x2) (x3 := x3) (x4 := x4) (x5 := x5) hC hO
  rw [hop] at e1
  exact aw_xCt (rest := rest) C0 ⟨hH, hS⟩ (lv_fix (by decide)) (cel_7 kd0) rfl (x_X8_add hfl x1 x2 x3 x4 x5 e1) (lx_add hts hR) rfl hsize rfl hr hf hdg (fun H1 locs1 q ce hW1 h1 h2 h3 => K H1 locs1 q ce ⟨⟨I1, R1, P, hW1.1, ht.1 _ _ _ e2, ht.2 e3, hA⟩, hW1.2⟩ h1 h2 h3)
theorem lw_change (ht : ∀ w ∈ GT, w.before args s = true) (hR : rmX8_change.frames + 1 ≤ Rm.frames ∧ 8 + (7 + 11) + rmX8_change.locals ≤ Rm.locals) : CallW Rm s args RL RX8 19 yX8_change cX8_change 7 (some .int) (Cond.code yX8_change cX8_change 7 (some .int) :: GT) rmX8_change 0 0 4 := cwV 4 ht (goodV wl39 wl41 wl42 wd76 wl40) rfl rfl rfl ⟨rfl, by decide +kernel, by decide +kernel, by decide +kernel⟩ hR
theorem lx_change (ht : ∀ w ∈ GT, w.before args s = true) (hR : rmxX8_change.frames + 1 ≤ Rm.frames ∧ 8 + (7 + 11) + rmxX8_change.locals ≤ Rm.locals) : CallW Rm s args RL RX8 19 yX8_change cX8_change 7 (some .int) (Cond.code yX8_change cX8_change 7 (some .int) :: GT) rmxX8_change 1 6 4 := cwV 4 ht (goodV wl39 wl41 wl42 wd76 wl40) rfl rfl rfl ⟨rfl, by decide +kernel, by decide +kernel, by decide +kernel⟩ hR
theorem ar_change (C0 : CX g p s m args meth c RL cc nL ret) (hsize : ls.size = nL) (hW : WA g σ b Z s.heap H locs) {x1 x2 x3 x4 : Int32} {v : Int32} {τ : Gst} (hop : (opChange σ x1 x2 x3 x4).1 = .inl v) (ht : To (opChange σ x1 x2 x3 x4).2 τ) (hR : rmX8_change.frames + 1 ≤ Rm.frames ∧ 8 + (7 + 11) + rmX8_change.locals ≤ Rm.locals) (hr : (rest.map fun v => v.category).sum ≤ 8) (hf : cells + 0 ≤ Rm.cells ∧ slots + 0 ≤ Rm.slots) (hdg : decode cc pc = .ok (.invokevirtual 19, 3))
    (K : ∀ (H1 : Heap) (locs1 : List Loc), WA g τ b Z s.heap H1 locs1 → W p l e Rm s m args below meth c H1 locs1 (cells + 0) (slots + 0) Q (F0 m (pc + 3) ls (.int v :: rest))) : W p l e Rm s m args below meth c H locs cells slots Q (F0 m pc ls (.int x4 :: .int x3 :: .int x2 :: .int x1 :: .ref (g.2.2.1 + 0) :: rest)) := by
  have hts := C0.2.2.2.2.2.1
  obtain ⟨⟨I, R, P, hH, hC, hO, hA⟩, hS⟩ := hW
  obtain ⟨I1, R1, e1, e2, e3⟩ := m_change (x1 := x1) (x2 := x2) (x3 := x3) (x4 := x4) hC hO
  rw [hop] at e1
  exact aw_cVi (rest := rest) C0 ⟨hH, hS⟩ (lv_fix (by decide)) (cel_7 kd0) rfl (c_X8_change x1 x2 x3 x4 e1) (lw_change hts hR) rfl hsize rfl hr hf hdg (fun H1 locs1 hW1 => K H1 locs1 ⟨⟨I1, R1, P, hW1.1, ht.1 _ _ _ e2, ht.2 e3, hA⟩, hW1.2⟩)
theorem ax_change (hfl : l.stackTraces = false) (C0 : CX g p s m args meth c RL cc nL ret) (hsize : ls.size = nL) (hW : WA g σ b Z s.heap H locs) {x1 x2 x3 x4 : Int32} {v : Nat} {τ : Gst} (hop : (opChange σ x1 x2 x3 x4).1 = .inr v) (ht : To (opChange σ x1 x2 x3 x4).2 τ) (hR : rmxX8_change.frames + 1 ≤ Rm.frames ∧ 8 + (7 + 11) + rmxX8_change.locals ≤ Rm.locals) (hr : (rest.map fun v => v.category).sum ≤ 8) (hf : cells + 1 ≤ Rm.cells ∧ slots + 6 ≤ Rm.slots) (hdg : decode cc pc = .ok (.invokevirtual 19, 3))
    (K : ∀ (H1 : Heap) (locs1 : List Loc) (q : Addr) (ce : Cell), WA g τ b Z s.heap H1 locs1 → H1[q]? = some ce → ce.vm = .none → s.vm.findClass (exn v) = some ce.cls → vx_W p l e Rm s m args below meth c H1 locs1 (cells + 1) (slots + 6) Q (F0 m pc ls rest) q) : W p l e Rm s m args below meth c H locs cells slots Q (F0 m pc ls (.int x4 :: .int x3 :: .int x2 :: .int x1 :: .ref (g.2.2.1 + 0) :: rest)) := by
  have hts := C0.2.2.2.2.2.1
  obtain ⟨⟨I, R, P, hH, hC, hO, hA⟩, hS⟩ := hW
  obtain ⟨I1, R1, e1, e2, e3⟩ := m_change (x1 := x1) (x2 := x2) (x3 := x3) (x4 := x4) hC hO
  rw [hop] at e1
  exact aw_xCt (rest := rest) C0 ⟨hH, hS⟩ (lv_fix (by decide)) (cel_7 kd0) rfl (x_X8_change hfl x1 x2 x3 x4 e1) (lx_change hts hR) rfl hsize rfl hr hf hdg (fun H1 locs1 q ce hW1 h1 h2 h3 => K H1 locs1 q ce ⟨⟨I1, R1, P, hW1.1, ht.1 _ _ _ e2, ht.2 e3, hA⟩, hW1.2⟩ h1 h2 h3)
theorem lw_drop (ht : ∀ w ∈ GT, w.before args s = true) (hR : rmX8_drop.frames + 1 ≤ Rm.frames ∧ 8 + (3 + 11) + rmX8_drop.locals ≤ Rm.locals) : CallW Rm s args RL RX8 23 yX8_drop cX8_drop 3 (some .int) (Cond.code yX8_drop cX8_drop 3 (some .int) :: GT) rmX8_drop 0 0 2 := cwV 2 ht (goodV wl43 wl45 wl46 wd76 wl44) rfl rfl rfl ⟨rfl, by decide +kernel, by decide +kernel, by decide +kernel⟩ hR
theorem lx_drop (ht : ∀ w ∈ GT, w.before args s = true) (hR : rmxX8_drop.frames + 1 ≤ Rm.frames ∧ 8 + (3 + 11) + rmxX8_drop.locals ≤ Rm.locals) : CallW Rm s args RL RX8 23 yX8_drop cX8_drop 3 (some .int) (Cond.code yX8_drop cX8_drop 3 (some .int) :: GT) rmxX8_drop 1 6 2 := cwV 2 ht (goodV wl43 wl45 wl46 wd76 wl44) rfl rfl rfl ⟨rfl, by decide +kernel, by decide +kernel, by decide +kernel⟩ hR
theorem ar_drop (C0 : CX g p s m args meth c RL cc nL ret) (hsize : ls.size = nL) (hW : WA g σ b Z s.heap H locs) {x1 x2 : Int32} {v : Int32} {τ : Gst} (hop : (opDrop σ x1 x2).1 = .inl v) (ht : To (opDrop σ x1 x2).2 τ) (hR : rmX8_drop.frames + 1 ≤ Rm.frames ∧ 8 + (3 + 11) + rmX8_drop.locals ≤ Rm.locals) (hr : (rest.map fun v => v.category).sum ≤ 8) (hf : cells + 0 ≤ Rm.cells ∧ slots + 0 ≤ Rm.slots) (hdg : decode cc pc = .ok (.invokevirtual 23, 3))
    (K : ∀ (H1 : Heap) (locs1 : List Loc), WA g τ b Z s.heap H1 locs1 → W p l e Rm s m args below meth c H1 locs1 (cells + 0) (slots + 0) Q (F0 m (pc + 3) ls (.int v :: rest))) : W p l e Rm s m args below meth c H locs cells slots Q (F0 m pc ls (.int x2 :: .int x1 :: .ref (g.2.2.1 + 0) :: rest)) := by
  have hts := C0.2.2.2.2.2.1
  obtain ⟨⟨I, R, P, hH, hC, hO, hA⟩, hS⟩ := hW
  obtain ⟨I1, R1, e1, e2, e3⟩ := m_drop (x1 := x1) (x2 := x2) hC hO
  rw [hop] at e1
  exact aw_cVi (rest := rest) C0 ⟨hH, hS⟩ (lv_fix (by decide)) (cel_7 kd0) rfl (c_X8_drop x1 x2 e1) (lw_drop hts hR) rfl hsize rfl hr hf hdg (fun H1 locs1 hW1 => K H1 locs1 ⟨⟨I1, R1, P, hW1.1, ht.1 _ _ _ e2, ht.2 e3, hA⟩, hW1.2⟩)
theorem ax_drop (hfl : l.stackTraces = false) (C0 : CX g p s m args meth c RL cc nL ret) (hsize : ls.size = nL) (hW : WA g σ b Z s.heap H locs) {x1 x2 : Int32} {v : Nat} {τ : Gst} (hop : (opDrop σ x1 x2).1 = .inr v) (ht : To (opDrop σ x1 x2).2 τ) (hR : rmxX8_drop.frames + 1 ≤ Rm.frames ∧ 8 + (3 + 11) + rmxX8_drop.locals ≤ Rm.locals) (hr : (rest.map fun v => v.category).sum ≤ 8) (hf : cells + 1 ≤ Rm.cells ∧ slots + 6 ≤ Rm.slots) (hdg : decode cc pc = .ok (.invokevirtual 23, 3))
    (K : ∀ (H1 : Heap) (locs1 : List Loc) (q : Addr) (ce : Cell), WA g τ b Z s.heap H1 locs1 → H1[q]? = some ce → ce.vm = .none → s.vm.findClass (exn v) = some ce.cls → vx_W p l e Rm s m args below meth c H1 locs1 (cells + 1) (slots + 6) Q (F0 m pc ls rest) q) : W p l e Rm s m args below meth c H locs cells slots Q (F0 m pc ls (.int x2 :: .int x1 :: .ref (g.2.2.1 + 0) :: rest)) := by
  have hts := C0.2.2.2.2.2.1
  obtain ⟨⟨I, R, P, hH, hC, hO, hA⟩, hS⟩ := hW
  obtain ⟨I1, R1, e1, e2, e3⟩ := m_drop (x1 := x1) (x2 := x2) hC hO
  rw [hop] at e1
  exact aw_xCt (rest := rest) C0 ⟨hH, hS⟩ (lv_fix (by decide)) (cel_7 kd0) rfl (x_X8_drop hfl x1 x2 e1) (lx_drop hts hR) rfl hsize rfl hr hf hdg (fun H1 locs1 q ce hW1 h1 h2 h3 => K H1 locs1 q ce ⟨⟨I1, R1, P, hW1.1, ht.1 _ _ _ e2, ht.2 e3, hA⟩, hW1.2⟩ h1 h2 h3)
theorem lw_define (ht : ∀ w ∈ GT, w.before args s = true) (hR : rmX8_define.frames + 1 ≤ Rm.frames ∧ 8 + (3 + 11) + rmX8_define.locals ≤ Rm.locals) : CallW Rm s args RL RX8 27 yX8_define cX8_define 3 (some .int) (Cond.code yX8_define cX8_define 3 (some .int) :: GT) rmX8_define 2 65 1 := cwV 1 ht (goodV wl47 wl49 wl50 wd76 wl48) rfl rfl rfl ⟨rfl, by decide +kernel, by decide +kernel, by decide +kernel⟩ hR
theorem lx_define (ht : ∀ w ∈ GT, w.before args s = true) (hR : rmxX8_define.frames + 1 ≤ Rm.frames ∧ 8 + (3 + 11) + rmxX8_define.locals ≤ Rm.locals) : CallW Rm s args RL RX8 27 yX8_define cX8_define 3 (some .int) (Cond.code yX8_define cX8_define 3 (some .int) :: GT) rmxX8_define 1 6 1 := cwV 1 ht (goodV wl47 wl49 wl50 wd76 wl48) rfl rfl rfl ⟨rfl, by decide +kernel, by decide +kernel, by decide +kernel⟩ hR
theorem ar_define (C0 : CX g p s m args meth c RL cc nL ret) (hsize : ls.size = nL) (hW : WA g σ b Z s.heap H locs) {x1 : Int32} {v : Int32} {τ : Gst} (hop : (opDefine σ x1).1 = .inl v) (ht : To (opDefine σ x1).2 τ) (hR : rmX8_define.frames + 1 ≤ Rm.frames ∧ 8 + (3 + 11) + rmX8_define.locals ≤ Rm.locals) (hr : (rest.map fun v => v.category).sum ≤ 8) (hf : cells + 2 ≤ Rm.cells ∧ slots + 65 ≤ Rm.slots) (hdg : decode cc pc = .ok (.invokevirtual 27, 3))
    (K : ∀ (H1 : Heap) (locs1 : List Loc), WA g τ b Z s.heap H1 locs1 → W p l e Rm s m args below meth c H1 locs1 (cells + 2) (slots + 65) Q (F0 m (pc + 3) ls (.int v :: rest))) : W p l e Rm s m args below meth c H locs cells slots Q (F0 m pc ls (.int x1 :: .ref (g.2.2.1 + 0) :: rest)) := by
  have hts := C0.2.2.2.2.2.1
  obtain ⟨⟨I, R, P, hH, hC, hO, hA⟩, hS⟩ := hW
  obtain ⟨nx, hnx⟩ : ∃ nx, H.size = g.2.2.1 + nx := ⟨H.size - g.2.2.1, by have := ws_lt hH (lv_fix (P := P) (k := 69) (by decide)); omega⟩
  have hF0 := FR_of hH hnx
  have hF1 := FR_le (n := nx + 1) hH (by omega)
  obtain ⟨I1, R1, P1, e1, e2, e3⟩ := m_define (x1 := x1) hC hO hF0 hF1
  have e4 := kp_X8_define e1 hF0 hF1
  rw [hop] at e1
  exact aw_nVi (rest := rest) C0 ⟨hH, hS⟩ hnx (lv_fix (by decide)) (cel_7 kd0) rfl (c_X8_define x1 e1) (lw_define hts hR) rfl hsize rfl hr hf hdg (fun H1 locs1 hW1 => K H1 locs1 ⟨⟨I1, R1, P1, hW1.1, ht.1 _ _ _ e2, ht.2 e3, hA.kp e4⟩, hW1.2⟩)
theorem ax_define (hfl : l.stackTraces = false) (C0 : CX g p s m args meth c RL cc nL ret) (hsize : ls.size = nL) (hW : WA g σ b Z s.heap H locs) {x1 : Int32} {v : Nat} {τ : Gst} (hop : (opDefine σ x1).1 = .inr v) (ht : To (opDefine σ x1).2 τ) (hR : rmxX8_define.frames + 1 ≤ Rm.frames ∧ 8 + (3 + 11) + rmxX8_define.locals ≤ Rm.locals) (hr : (rest.map fun v => v.category).sum ≤ 8) (hf : cells + 1 ≤ Rm.cells ∧ slots + 6 ≤ Rm.slots) (hdg : decode cc pc = .ok (.invokevirtual 27, 3))
    (K : ∀ (H1 : Heap) (locs1 : List Loc) (q : Addr) (ce : Cell), WA g τ b Z s.heap H1 locs1 → H1[q]? = some ce → ce.vm = .none → s.vm.findClass (exn v) = some ce.cls → vx_W p l e Rm s m args below meth c H1 locs1 (cells + 1) (slots + 6) Q (F0 m pc ls rest) q) : W p l e Rm s m args below meth c H locs cells slots Q (F0 m pc ls (.int x1 :: .ref (g.2.2.1 + 0) :: rest)) := by
  have hts := C0.2.2.2.2.2.1
  obtain ⟨⟨I, R, P, hH, hC, hO, hA⟩, hS⟩ := hW
  obtain ⟨nx, hnx⟩ : ∃ nx, H.size = g.2.2.1 + nx := ⟨H.size - g.2.2.1, by have := ws_lt hH (lv_fix (P := P) (k := 69) (by decide)); omega⟩
  have hF0 := FR_of hH hnx
  have hF1 := FR_le (n := nx + 1) hH (by omega)
  obtain ⟨I1, R1, P1, e1, e2, e3⟩ := m_define (x1 := x1) hC hO hF0 hF1
  rw [hop] at e1
  have e5 := xp_X8_define e1
  subst e5
  exact aw_xCt (rest := rest) C0 ⟨hH, hS⟩ (lv_fix (by decide)) (cel_7 kd0) rfl (x_X8_define hfl x1 e1) (lx_define hts hR) rfl hsize rfl hr hf hdg (fun H1 locs1 q ce hW1 h1 h2 h3 => K H1 locs1 q ce ⟨⟨I1, R1, P1, hW1.1, ht.1 _ _ _ e2, ht.2 e3, hA⟩, hW1.2⟩ h1 h2 h3)
theorem lw_combine (ht : ∀ w ∈ GT, w.before args s = true) (hR : rmX8_combine.frames + 1 ≤ Rm.frames ∧ 8 + (7 + 11) + rmX8_combine.locals ≤ Rm.locals) : CallW Rm s args RL RX8 31 yX8_combine cX8_combine 7 (some .int) (Cond.code yX8_combine cX8_combine 7 (some .int) :: GT) rmX8_combine 2 65 4 := cwV 4 ht (goodV wl51 wl53 wl54 wd76 wl52) rfl rfl rfl ⟨rfl, by decide +kernel, by decide +kernel, by decide +kernel⟩ hR
theorem lx_combine (ht : ∀ w ∈ GT, w.before args s = true) (hR : rmxX8_combine.frames + 1 ≤ Rm.frames ∧ 8 + (7 + 11) + rmxX8_combine.locals ≤ Rm.locals) : CallW Rm s args RL RX8 31 yX8_combine cX8_combine 7 (some .int) (Cond.code yX8_combine cX8_combine 7 (some .int) :: GT) rmxX8_combine 1 6 4 := cwV 4 ht (goodV wl51 wl53 wl54 wd76 wl52) rfl rfl rfl ⟨rfl, by decide +kernel, by decide +kernel, by decide +kernel⟩ hR
theorem ar_combine (C0 : CX g p s m args meth c RL cc nL ret) (hsize : ls.size = nL) (hW : WA g σ b Z s.heap H locs) {x1 x2 x3 x4 : Int32} {v : Int32} {τ : Gst} (hop : (opCombine σ x1 x2 x3 x4).1 = .inl v) (ht : To (opCombine σ x1 x2 x3 x4).2 τ) (hR : rmX8_combine.frames + 1 ≤ Rm.frames ∧ 8 + (7 + 11) + rmX8_combine.locals ≤ Rm.locals) (hr : (rest.map fun v => v.category).sum ≤ 8) (hf : cells + 2 ≤ Rm.cells ∧ slots + 65 ≤ Rm.slots) (hdg : decode cc pc = .ok (.invokevirtual 31, 3))
    (K : ∀ (H1 : Heap) (locs1 : List Loc), WA g τ b Z s.heap H1 locs1 → W p l e Rm s m args below meth c H1 locs1 (cells + 2) (slots + 65) Q (F0 m (pc + 3) ls (.int v :: rest))) : W p l e Rm s m args below meth c H locs cells slots Q (F0 m pc ls (.int x4 :: .int x3 :: .int x2 :: .int x1 :: .ref (g.2.2.1 + 0) :: rest)) := by
  have hts := C0.2.2.2.2.2.1
  obtain ⟨⟨I, R, P, hH, hC, hO, hA⟩, hS⟩ := hW
  obtain ⟨nx, hnx⟩ : ∃ nx, H.size = g.2.2.1 + nx := ⟨H.size - g.2.2.1, by have := ws_lt hH (lv_fix (P := P) (k := 69) (by decide)); omega⟩
  have hF0 := FR_of hH hnx
  have hF1 := FR_le (n := nx + 1) hH (by omega)
  obtain ⟨I1, R1, P1, e1, e2, e3⟩ := m_combine (x1 := x1) (x2 := x2) (x3 := x3) (x4 := x4) hC hO hF0 hF1
  have e4 := kp_X8_combine e1 hF0 hF1
  rw [hop] at e1
  exact aw_nVi (rest := rest) C0 ⟨hH, hS⟩ hnx (lv_fix (by decide)) (cel_7 kd0) rfl (c_X8_combine x1 x2 x3 x4 e1) (lw_combine hts hR) rfl hsize rfl hr hf hdg (fun H1 locs1 hW1 => K H1 locs1 ⟨⟨I1, R1, P1, hW1.1, ht.1 _ _ _ e2, ht.2 e3, hA.kp e4⟩, hW1.2⟩)
theorem ax_combine (hfl : l.stackTraces = false) (C0 : CX g p s m args meth c RL cc nL ret) (hsize : ls.size = nL) (hW : WA g σ b Z s.heap H locs) {x1 x2 x3 x4 : Int32} {v : Nat} {τ : Gst} (hop : (opCombine σ x1 x2 x3 x4).1 = .inr v) (ht : To (opCombine σ x1 x2 x3 x4).2 τ) (hR : rmxX8_combine.frames + 1 ≤ Rm.frames ∧ 8 + (7 + 11) + rmxX8_combine.locals ≤ Rm.locals) (hr : (rest.map fun v => v.category).sum ≤ 8) (hf : cells + 1 ≤ Rm.cells ∧ slots + 6 ≤ Rm.slots) (hdg : decode cc pc = .ok (.invokevirtual 31, 3))
    (K : ∀ (H1 : Heap) (locs1 : List Loc) (q : Addr) (ce : Cell), WA g τ b Z s.heap H1 locs1 → H1[q]? = some ce → ce.vm = .none → s.vm.findClass (exn v) = some ce.cls → vx_W p l e Rm s m args below meth c H1 locs1 (cells + 1) (slots + 6) Q (F0 m pc ls rest) q) : W p l e Rm s m args below meth c H locs cells slots Q (F0 m pc ls (.int x4 :: .int x3 :: .int x2 :: .int x1 :: .ref (g.2.2.1 + 0) :: rest)) := by
  have hts := C0.2.2.2.2.2.1
  obtain ⟨⟨I, R, P, hH, hC, hO, hA⟩, hS⟩ := hW
  obtain ⟨nx, hnx⟩ : ∃ nx, H.size = g.2.2.1 + nx := ⟨H.size - g.2.2.1, by have := ws_lt hH (lv_fix (P := P) (k := 69) (by decide)); omega⟩
  have hF0 := FR_of hH hnx
  have hF1 := FR_le (n := nx + 1) hH (by omega)
  obtain ⟨I1, R1, P1, e1, e2, e3⟩ := m_combine (x1 := x1) (x2 := x2) (x3 := x3) (x4 := x4) hC hO hF0 hF1
  rw [hop] at e1
  have e5 := xp_X8_combine e1
  subst e5
  exact aw_xCt (rest := rest) C0 ⟨hH, hS⟩ (lv_fix (by decide)) (cel_7 kd0) rfl (x_X8_combine hfl x1 x2 x3 x4 e1) (lx_combine hts hR) rfl hsize rfl hr hf hdg (fun H1 locs1 q ce hW1 h1 h2 h3 => K H1 locs1 q ce ⟨⟨I1, R1, P1, hW1.1, ht.1 _ _ _ e2, ht.2 e3, hA⟩, hW1.2⟩ h1 h2 h3)
theorem lw_check (ht : ∀ w ∈ GT, w.before args s = true) (hR : rmX8_check.frames + 1 ≤ Rm.frames ∧ 8 + (5 + 11) + rmX8_check.locals ≤ Rm.locals) : CallW Rm s args RL RX8 34 yX8_check cX8_check 5 (some .int) (Cond.code yX8_check cX8_check 5 (some .int) :: GT) rmX8_check 0 0 2 := cwV 2 ht (goodV wl55 wl57 wl58 wd76 wl56) rfl rfl rfl ⟨rfl, by decide +kernel, by decide +kernel, by decide +kernel⟩ hR
theorem lx_check (ht : ∀ w ∈ GT, w.before args s = true) (hR : rmxX8_check.frames + 1 ≤ Rm.frames ∧ 8 + (5 + 11) + rmxX8_check.locals ≤ Rm.locals) : CallW Rm s args RL RX8 34 yX8_check cX8_check 5 (some .int) (Cond.code yX8_check cX8_check 5 (some .int) :: GT) rmxX8_check 1 6 2 := cwV 2 ht (goodV wl55 wl57 wl58 wd76 wl56) rfl rfl rfl ⟨rfl, by decide +kernel, by decide +kernel, by decide +kernel⟩ hR
theorem ar_check (C0 : CX g p s m args meth c RL cc nL ret) (hsize : ls.size = nL) (hW : WA g σ b Z s.heap H locs) {x1 x2 : Int32} {v : Int32} {τ : Gst} (hop : (opCheck σ x1 x2).1 = .inl v) (ht : To (opCheck σ x1 x2).2 τ) (hR : rmX8_check.frames + 1 ≤ Rm.frames ∧ 8 + (5 + 11) + rmX8_check.locals ≤ Rm.locals) (hr : (rest.map fun v => v.category).sum ≤ 8) (hf : cells + 0 ≤ Rm.cells ∧ slots + 0 ≤ Rm.slots) (hdg : decode cc pc = .ok (.invokevirtual 34, 3))
    (K : ∀ (H1 : Heap) (locs1 : List Loc), WA g τ b Z s.heap H1 locs1 → W p l e Rm s m args below meth c H1 locs1 (cells + 0) (slots + 0) Q (F0 m (pc + 3) ls (.int v :: rest))) : W p l e Rm s m args below meth c H locs cells slots Q (F0 m pc ls (.int x2 :: .int x1 :: .ref (g.2.2.1 + 0) :: rest)) := by
  have hts := C0.2.2.2.2.2.1
  obtain ⟨⟨I, R, P, hH, hC, hO, hA⟩, hS⟩ := hW
  obtain ⟨I1, R1, e1, e2, e3⟩ := m_check (x1 := x1) (x2 := x2) hC hO
  rw [hop] at e1
  exact aw_cVi (rest := rest) C0 ⟨hH, hS⟩ (lv_fix (by decide)) (cel_7 kd0) rfl (c_X8_check x1 x2 e1) (lw_check hts hR) rfl hsize rfl hr hf hdg (fun H1 locs1 hW1 => K H1 locs1 ⟨⟨I1, R1, P, hW1.1, ht.1 _ _ _ e2, ht.2 e3, hA⟩, hW1.2⟩)
theorem ax_check (hfl : l.stackTraces = false) (C0 : CX g p s m args meth c RL cc nL ret) (hsize : ls.size = nL) (hW : WA g σ b Z s.heap H locs) {x1 x2 : Int32} {v : Nat} {τ : Gst} (hop : (opCheck σ x1 x2).1 = .inr v) (ht : To (opCheck σ x1 x2).2 τ) (hR : rmxX8_check.frames + 1 ≤ Rm.frames ∧ 8 + (5 + 11) + rmxX8_check.locals ≤ Rm.locals) (hr : (rest.map fun v => v.category).sum ≤ 8) (hf : cells + 1 ≤ Rm.cells ∧ slots + 6 ≤ Rm.slots) (hdg : decode cc pc = .ok (.invokevirtual 34, 3))
    (K : ∀ (H1 : Heap) (locs1 : List Loc) (q : Addr) (ce : Cell), WA g τ b Z s.heap H1 locs1 → H1[q]? = some ce → ce.vm = .none → s.vm.findClass (exn v) = some ce.cls → vx_W p l e Rm s m args below meth c H1 locs1 (cells + 1) (slots + 6) Q (F0 m pc ls rest) q) : W p l e Rm s m args below meth c H locs cells slots Q (F0 m pc ls (.int x2 :: .int x1 :: .ref (g.2.2.1 + 0) :: rest)) := by
  have hts := C0.2.2.2.2.2.1
  obtain ⟨⟨I, R, P, hH, hC, hO, hA⟩, hS⟩ := hW
  obtain ⟨I1, R1, e1, e2, e3⟩ := m_check (x1 := x1) (x2 := x2) hC hO
  rw [hop] at e1
  exact aw_xCt (rest := rest) C0 ⟨hH, hS⟩ (lv_fix (by decide)) (cel_7 kd0) rfl (x_X8_check hfl x1 x2 e1) (lx_check hts hR) rfl hsize rfl hr hf hdg (fun H1 locs1 q ce hW1 h1 h2 h3 => K H1 locs1 q ce ⟨⟨I1, R1, P, hW1.1, ht.1 _ _ _ e2, ht.2 e3, hA⟩, hW1.2⟩ h1 h2 h3)
theorem lw_remove (ht : ∀ w ∈ GT, w.before args s = true) (hR : rmX8_remove.frames + 1 ≤ Rm.frames ∧ 8 + (5 + 11) + rmX8_remove.locals ≤ Rm.locals) : CallW Rm s args RL RX8 37 yX8_remove cX8_remove 5 (some .int) (Cond.code yX8_remove cX8_remove 5 (some .int) :: GT) rmX8_remove 0 0 2 := cwV 2 ht (goodV wl59 wl61 wl62 wd76 wl60) rfl rfl rfl ⟨rfl, by decide +kernel, by decide +kernel, by decide +kernel⟩ hR
theorem lx_remove (ht : ∀ w ∈ GT, w.before args s = true) (hR : rmxX8_remove.frames + 1 ≤ Rm.frames ∧ 8 + (5 + 11) + rmxX8_remove.locals ≤ Rm.locals) : CallW Rm s args RL RX8 37 yX8_remove cX8_remove 5 (some .int) (Cond.code yX8_remove cX8_remove 5 (some .int) :: GT) rmxX8_remove 1 6 2 := cwV 2 ht (goodV wl59 wl61 wl62 wd76 wl60) rfl rfl rfl ⟨rfl, by decide +kernel, by decide +kernel, by decide +kernel⟩ hR
theorem ar_remove (C0 : CX g p s m args meth c RL cc nL ret) (hsize : ls.size = nL) (hW : WA g σ b Z s.heap H locs) {x1 x2 : Int32} {v : Int32} {τ : Gst} (hop : (opRemove σ x1 x2).1 = .inl v) (ht : To (opRemove σ x1 x2).2 τ) (hR : rmX8_remove.frames + 1 ≤ Rm.frames ∧ 8 + (5 + 11) + rmX8_remove.locals ≤ Rm.locals) (hr : (rest.map fun v => v.category).sum ≤ 8) (hf : cells + 0 ≤ Rm.cells ∧ slots + 0 ≤ Rm.slots) (hdg : decode cc pc = .ok (.invokevirtual 37, 3))
    (K : ∀ (H1 : Heap) (locs1 : List Loc), WA g τ b Z s.heap H1 locs1 → W p l e Rm s m args below meth c H1 locs1 (cells + 0) (slots + 0) Q (F0 m (pc + 3) ls (.int v :: rest))) : W p l e Rm s m args below meth c H locs cells slots Q (F0 m pc ls (.int x2 :: .int x1 :: .ref (g.2.2.1 + 0) :: rest)) := by
  have hts := C0.2.2.2.2.2.1
  obtain ⟨⟨I, R, P, hH, hC, hO, hA⟩, hS⟩ := hW
  obtain ⟨I1, R1, e1, e2, e3⟩ := m_remove (x1 := x1) (x2 := x2) hC hO
  rw [hop] at e1
  exact aw_cVi (rest := rest) C0 ⟨hH, hS⟩ (lv_fix (by decide)) (cel_7 kd0) rfl (c_X8_remove x1 x2 e1) (lw_remove hts hR) rfl hsize rfl hr hf hdg (fun H1 locs1 hW1 => K H1 locs1 ⟨⟨I1, R1, P, hW1.1, ht.1 _ _ _ e2, ht.2 e3, hA⟩, hW1.2⟩)
theorem ax_remove (hfl : l.stackTraces = false) (C0 : CX g p s m args meth c RL cc nL ret) (hsize : ls.size = nL) (hW : WA g σ b Z s.heap H locs) {x1 x2 : Int32} {v : Nat} {τ : Gst} (hop : (opRemove σ x1 x2).1 = .inr v) (ht : To (opRemove σ x1 x2).2 τ) (hR : rmxX8_remove.frames + 1 ≤ Rm.frames ∧ 8 + (5 + 11) + rmxX8_remove.locals ≤ Rm.locals) (hr : (rest.map fun v => v.category).sum ≤ 8) (hf : cells + 1 ≤ Rm.cells ∧ slots + 6 ≤ Rm.slots) (hdg : decode cc pc = .ok (.invokevirtual 37, 3))
    (K : ∀ (H1 : Heap) (locs1 : List Loc) (q : Addr) (ce : Cell), WA g τ b Z s.heap H1 locs1 → H1[q]? = some ce → ce.vm = .none → s.vm.findClass (exn v) = some ce.cls → vx_W p l e Rm s m args below meth c H1 locs1 (cells + 1) (slots + 6) Q (F0 m pc ls rest) q) : W p l e Rm s m args below meth c H locs cells slots Q (F0 m pc ls (.int x2 :: .int x1 :: .ref (g.2.2.1 + 0) :: rest)) := by
  have hts := C0.2.2.2.2.2.1
  obtain ⟨⟨I, R, P, hH, hC, hO, hA⟩, hS⟩ := hW
  obtain ⟨I1, R1, e1, e2, e3⟩ := m_remove (x1 := x1) (x2 := x2) hC hO
  rw [hop] at e1
  exact aw_xCt (rest := rest) C0 ⟨hH, hS⟩ (lv_fix (by decide)) (cel_7 kd0) rfl (x_X8_remove hfl x1 x2 e1) (lx_remove hts hR) rfl hsize rfl hr hf hdg (fun H1 locs1 q ce hW1 h1 h2 h3 => K H1 locs1 q ce ⟨⟨I1, R1, P, hW1.1, ht.1 _ _ _ e2, ht.2 e3, hA⟩, hW1.2⟩ h1 h2 h3)
theorem lw_update (ht : ∀ w ∈ GT, w.before args s = true) (hR : rmX8_update.frames + 1 ≤ Rm.frames ∧ 8 + (8 + 11) + rmX8_update.locals ≤ Rm.locals) : CallW Rm s args RL RX8 40 yX8_update cX8_update 8 (some .int) (Cond.code yX8_update cX8_update 8 (some .int) :: GT) rmX8_update 0 0 4 := cwV 4 ht (goodV wl63 wl65 wl66 wd76 wl64) rfl rfl rfl ⟨rfl, by decide +kernel, by decide +kernel, by decide +kernel⟩ hR
theorem lx_update (ht : ∀ w ∈ GT, w.before args s = true) (hR : rmxX8_update.frames + 1 ≤ Rm.frames ∧ 8 + (8 + 11) + rmxX8_update.locals ≤ Rm.locals) : CallW Rm s args RL RX8 40 yX8_update cX8_update 8 (some .int) (Cond.code yX8_update cX8_update 8 (some .int) :: GT) rmxX8_update 1 6 4 := cwV 4 ht (goodV wl63 wl65 wl66 wd76 wl64) rfl rfl rfl ⟨rfl, by decide +kernel, by decide +kernel, by decide +kernel⟩ hR
theorem ar_update (C0 : CX g p s m args meth c RL cc nL ret) (hsize : ls.size = nL) (hW : WA g σ b Z s.heap H locs) {x1 x2 x3 x4 : Int32} {v : Int32} {τ : Gst} (hop : (opUpdate σ x1 x2 x3 x4).1 = .inl v) (ht : To (opUpdate σ x1 x2 x3 x4).2 τ) (hR : rmX8_update.frames + 1 ≤ Rm.frames ∧ 8 + (8 + 11) + rmX8_update.locals ≤ Rm.locals) (hr : (rest.map fun v => v.category).sum ≤ 8) (hf : cells + 0 ≤ Rm.cells ∧ slots + 0 ≤ Rm.slots) (hdg : decode cc pc = .ok (.invokevirtual 40, 3))
    (K : ∀ (H1 : Heap) (locs1 : List Loc), WA g τ b Z s.heap H1 locs1 → W p l e Rm s m args below meth c H1 locs1 (cells + 0) (slots + 0) Q (F0 m (pc + 3) ls (.int v :: rest))) : W p l e Rm s m args below meth c H locs cells slots Q (F0 m pc ls (.int x4 :: .int x3 :: .int x2 :: .int x1 :: .ref (g.2.2.1 + 0) :: rest)) := by
  have hts := C0.2.2.2.2.2.1
  obtain ⟨⟨I, R, P, hH, hC, hO, hA⟩, hS⟩ := hW
  obtain ⟨I1, R1, e1, e2, e3⟩ := m_update (x1 := x1) (x2 := x2) (x3 := x3) (x4 := x4) hC hO
  rw [hop] at e1
  exact aw_cVi (rest := rest) C0 ⟨hH, hS⟩ (lv_fix (by decide)) (cel_7 kd0) rfl (c_X8_update x1 x2 x3 x4 e1) (lw_update hts hR) rfl hsize rfl hr hf hdg (fun H1 locs1 hW1 => K H1 locs1 ⟨⟨I1, R1, P, hW1.1, ht.1 _ _ _ e2, ht.2 e3, hA⟩, hW1.2⟩)
theorem ax_update (hfl : l.stackTraces = false) (C0 : CX g p s m args meth c RL cc nL ret) (hsize : ls.size = nL) (hW : WA g σ b Z s.heap H locs) {x1 x2 x3 x4 : Int32} {v : Nat} {τ : Gst} (hop : (opUpdate σ x1 x2 x3 x4).1 = .inr v) (ht : To (opUpdate σ x1 x2 x3 x4).2 τ) (hR : rmxX8_update.frames + 1 ≤ Rm.frames ∧ 8 + (8 + 11) + rmxX8_update.locals ≤ Rm.locals) (hr : (rest.map fun v => v.category).sum ≤ 8) (hf : cells + 1 ≤ Rm.cells ∧ slots + 6 ≤ Rm.slots) (hdg : decode cc pc = .ok (.invokevirtual 40, 3))
    (K : ∀ (H1 : Heap) (locs1 : List Loc) (q : Addr) (ce : Cell), WA g τ b Z s.heap H1 locs1 → H1[q]? = some ce → ce.vm = .none → s.vm.findClass (exn v) = some ce.cls → vx_W p l e Rm s m args below meth c H1 locs1 (cells + 1) (slots + 6) Q (F0 m pc ls rest) q) : W p l e Rm s m args below meth c H locs cells slots Q (F0 m pc ls (.int x4 :: .int x3 :: .int x2 :: .int x1 :: .ref (g.2.2.1 + 0) :: rest)) := by
  have hts := C0.2.2.2.2.2.1
  obtain ⟨⟨I, R, P, hH, hC, hO, hA⟩, hS⟩ := hW
  obtain ⟨I1, R1, e1, e2, e3⟩ := m_update (x1 := x1) (x2 := x2) (x3 := x3) (x4 := x4) hC hO
  rw [hop] at e1
  exact aw_xCt (rest := rest) C0 ⟨hH, hS⟩ (lv_fix (by decide)) (cel_7 kd0) rfl (x_X8_update hfl x1 x2 x3 x4 e1) (lx_update hts hR) rfl hsize rfl hr hf hdg (fun H1 locs1 q ce hW1 h1 h2 h3 => K H1 locs1 q ce ⟨⟨I1, R1, P, hW1.1, ht.1 _ _ _ e2, ht.2 e3, hA⟩, hW1.2⟩ h1 h2 h3)
theorem lw_append (ht : ∀ w ∈ GT, w.before args s = true) (hR : rmX8_append.frames + 1 ≤ Rm.frames ∧ 8 + (2 + 11) + rmX8_append.locals ≤ Rm.locals) : CallW Rm s args RL RX8 43 yX8_append cX8_append 2 (some .int) (Cond.code yX8_append cX8_append 2 (some .int) :: GT) rmX8_append 0 0 1 := cwV 1 ht (goodV wl67 wl69 wl70 wd76 wl68) rfl rfl rfl ⟨rfl, by decide +kernel, by decide +kernel, by decide +kernel⟩ hR
theorem lx_append (ht : ∀ w ∈ GT, w.before args s = true) (hR : rmxX8_append.frames + 1 ≤ Rm.frames ∧ 8 + (2 + 11) + rmxX8_append.locals ≤ Rm.locals) : CallW Rm s args RL RX8 43 yX8_append cX8_append 2 (some .int) (Cond.code yX8_append cX8_append 2 (some .int) :: GT) rmxX8_append 1 6 1 := cwV 1 ht (goodV wl67 wl69 wl70 wd76 wl68) rfl rfl rfl ⟨rfl, by decide +kernel, by decide +kernel, by decide +kernel⟩ hR
theorem ar_append (C0 : CX g p s m args meth c RL cc nL ret) (hsize : ls.size = nL) (hW : WA g σ b Z s.heap H locs) {x1 : Int32} {v : Int32} {τ : Gst} (hop : (opAppend σ x1).1 = .inl v) (ht : To (opAppend σ x1).2 τ) (hR : rmX8_append.frames + 1 ≤ Rm.frames ∧ 8 + (2 + 11) + rmX8_append.locals ≤ Rm.locals) (hr : (rest.map fun v => v.category).sum ≤ 8) (hf : cells + 0 ≤ Rm.cells ∧ slots + 0 ≤ Rm.slots) (hdg : decode cc pc = .ok (.invokevirtual 43, 3))
    (K : ∀ (H1 : Heap) (locs1 : List Loc), WA g τ b Z s.heap H1 locs1 → W p l e Rm s m args below meth c H1 locs1 (cells + 0) (slots + 0) Q (F0 m (pc + 3) ls (.int v :: rest))) : W p l e Rm s m args below meth c H locs cells slots Q (F0 m pc ls (.int x1 :: .ref (g.2.2.1 + 0) :: rest)) := by
  have hts := C0.2.2.2.2.2.1
  obtain ⟨⟨I, R, P, hH, hC, hO, hA⟩, hS⟩ := hW
  obtain ⟨I1, e1, e2, e3⟩ := m_append (x1 := x1) hC hO
  rw [hop] at e1
  exact aw_cVi (rest := rest) C0 ⟨hH, hS⟩ (lv_fix (by decide)) (cel_7 kd0) rfl (c_X8_append x1 e1) (lw_append hts hR) rfl hsize rfl hr hf hdg (fun H1 locs1 hW1 => K H1 locs1 ⟨⟨I1, R, P, hW1.1, ht.1 _ _ _ e2, ht.2 e3, hA⟩, hW1.2⟩)
theorem ax_append (hfl : l.stackTraces = false) (C0 : CX g p s m args meth c RL cc nL ret) (hsize : ls.size = nL) (hW : WA g σ b Z s.heap H locs) {x1 : Int32} {v : Nat} {τ : Gst} (hop : (opAppend σ x1).1 = .inr v) (ht : To (opAppend σ x1).2 τ) (hR : rmxX8_append.frames + 1 ≤ Rm.frames ∧ 8 + (2 + 11) + rmxX8_append.locals ≤ Rm.locals) (hr : (rest.map fun v => v.category).sum ≤ 8) (hf : cells + 1 ≤ Rm.cells ∧ slots + 6 ≤ Rm.slots) (hdg : decode cc pc = .ok (.invokevirtual 43, 3))
    (K : ∀ (H1 : Heap) (locs1 : List Loc) (q : Addr) (ce : Cell), WA g τ b Z s.heap H1 locs1 → H1[q]? = some ce → ce.vm = .none → s.vm.findClass (exn v) = some ce.cls → vx_W p l e Rm s m args below meth c H1 locs1 (cells + 1) (slots + 6) Q (F0 m pc ls rest) q) : W p l e Rm s m args below meth c H locs cells slots Q (F0 m pc ls (.int x1 :: .ref (g.2.2.1 + 0) :: rest)) := by
  have hts := C0.2.2.2.2.2.1
  obtain ⟨⟨I, R, P, hH, hC, hO, hA⟩, hS⟩ := hW
  obtain ⟨I1, e1, e2, e3⟩ := m_append (x1 := x1) hC hO
  rw [hop] at e1
  exact aw_xCt (rest := rest) C0 ⟨hH, hS⟩ (lv_fix (by decide)) (cel_7 kd0) rfl (x_X8_append hfl x1 e1) (lx_append hts hR) rfl hsize rfl hr hf hdg (fun H1 locs1 q ce hW1 h1 h2 h3 => K H1 locs1 q ce ⟨⟨I1, R, P, hW1.1, ht.1 _ _ _ e2, ht.2 e3, hA⟩, hW1.2⟩ h1 h2 h3)
theorem lw_clearBuffer (ht : ∀ w ∈ GT, w.before args s = true) (hR : rmX8_clearBuffer.frames + 1 ≤ Rm.frames ∧ 8 + (2 + 11) + rmX8_clearBuffer.locals ≤ Rm.locals) : CallW Rm s args RL RX8 142 yX8_clearBuffer cX8_clearBuffer 2 (some .int) (Cond.code yX8_clearBuffer cX8_clearBuffer 2 (some .int) :: GT) rmX8_clearBuffer 0 0 0 := cwV 0 ht (goodV wl147 wl149 wl150 wd76 wl148) rfl rfl rfl ⟨rfl, by decide +kernel, by decide +kernel, by decide +kernel⟩ hR
theorem ar_clearBuffer (C0 : CX g p s m args meth c RL cc nL ret) (hsize : ls.size = nL) (hW : WA g σ b Z s.heap H locs) {v : Int32} {τ : Gst} (hop : (opClear σ).1 = v) (ht : To (opClear σ).2 τ) (hR : rmX8_clearBuffer.frames + 1 ≤ Rm.frames ∧ 8 + (2 + 11) + rmX8_clearBuffer.locals ≤ Rm.locals) (hr : (rest.map fun v => v.category).sum ≤ 8) (hf : cells + 0 ≤ Rm.cells ∧ slots + 0 ≤ Rm.slots) (hdg : decode cc pc = .ok (.invokevirtual 142, 3))
    (K : ∀ (H1 : Heap) (locs1 : List Loc), WA g τ b Z s.heap H1 locs1 → W p l e Rm s m args below meth c H1 locs1 (cells + 0) (slots + 0) Q (F0 m (pc + 3) ls (.int v :: rest))) : W p l e Rm s m args below meth c H locs cells slots Q (F0 m pc ls (.ref (g.2.2.1 + 0) :: rest)) := by
  have hts := C0.2.2.2.2.2.1
  obtain ⟨⟨I, R, P, hH, hC, hO, hA⟩, hS⟩ := hW
  obtain ⟨I1, e1, e2, e3⟩ := m_clearB hC hO
  rw [hop] at e1
  exact aw_cVi (rest := rest) C0 ⟨hH, hS⟩ (lv_fix (by decide)) (cel_7 kd0) rfl (c_X8_clearBuffer e1) (lw_clearBuffer hts hR) rfl hsize rfl hr hf hdg (fun H1 locs1 hW1 => K H1 locs1 ⟨⟨I1, R, P, hW1.1, ht.1 _ _ _ e2, ht.2 e3, hA⟩, hW1.2⟩)
theorem lw_firstError (ht : ∀ w ∈ GT, w.before args s = true) (hR : rmX8_firstError.frames + 1 ≤ Rm.frames ∧ 8 + (1 + 11) + rmX8_firstError.locals ≤ Rm.locals) : CallW Rm s args RL RX8 239 yX8_firstError cX8_firstError 1 (some .int) (Cond.code yX8_firstError cX8_firstError 1 (some .int) :: GT) rmX8_firstError 0 0 0 := cwV 0 ht (goodV wl172 wl174 wl175 wd76 wl173) rfl rfl rfl ⟨rfl, by decide +kernel, by decide +kernel, by decide +kernel⟩ hR
theorem ar_firstError (C0 : CX g p s m args meth c RL cc nL ret) (hsize : ls.size = nL) (hW : WA g σ b Z s.heap H locs) {v : Int32} (hop : errV σ = v) (hR : rmX8_firstError.frames + 1 ≤ Rm.frames ∧ 8 + (1 + 11) + rmX8_firstError.locals ≤ Rm.locals) (hr : (rest.map fun v => v.category).sum ≤ 8) (hf : cells + 0 ≤ Rm.cells ∧ slots + 0 ≤ Rm.slots) (hdg : decode cc pc = .ok (.invokevirtual 239, 3))
    (K : ∀ (H1 : Heap) (locs1 : List Loc), WA g σ b Z s.heap H1 locs1 → W p l e Rm s m args below meth c H1 locs1 (cells + 0) (slots + 0) Q (F0 m (pc + 3) ls (.int v :: rest))) : W p l e Rm s m args below meth c H locs cells slots Q (F0 m pc ls (.ref (g.2.2.1 + 0) :: rest)) := by
  have hts := C0.2.2.2.2.2.1
  obtain ⟨⟨I, R, P, hH, hC, hO, hA⟩, hS⟩ := hW
  obtain ⟨I1, e1, e2⟩ := m_firstError (P := P) hC hO
  rw [hop] at e1
  exact aw_cVi (rest := rest) C0 ⟨hH, hS⟩ (lv_fix (by decide)) (cel_7 kd0) rfl (c_X8_firstError e1) (lw_firstError hts hR) rfl hsize rfl hr hf hdg (fun H1 locs1 hW1 => K H1 locs1 ⟨⟨I1, R, P, hW1.1, hC.sc e2, hO, hA⟩, hW1.2⟩)
theorem lw_undo (ht : ∀ w ∈ GT, w.before args s = true) (hR : rmX8_undo.frames + 1 ≤ Rm.frames ∧ 8 + (1 + 11) + rmX8_undo.locals ≤ Rm.locals) : CallW Rm s args RL RX8 46 yX8_undo cX8_undo 1 (some .int) (Cond.code yX8_undo cX8_undo 1 (some .int) :: GT) rmX8_undo 0 0 0 := cwV 0 ht (goodV wl8 wl10 wl11 wd76 wl9) rfl rfl rfl ⟨rfl, by decide +kernel, by decide +kernel, by decide +kernel⟩ hR
theorem lx_undo (ht : ∀ w ∈ GT, w.before args s = true) (hR : rmxX8_undo.frames + 1 ≤ Rm.frames ∧ 8 + (1 + 11) + rmxX8_undo.locals ≤ Rm.locals) : CallW Rm s args RL RX8 46 yX8_undo cX8_undo 1 (some .int) (Cond.code yX8_undo cX8_undo 1 (some .int) :: GT) rmxX8_undo 1 6 0 := cwV 0 ht (goodV wl8 wl10 wl11 wd76 wl9) rfl rfl rfl ⟨rfl, by decide +kernel, by decide +kernel, by decide +kernel⟩ hR
theorem ar_undo (C0 : CX g p s m args meth c RL cc nL ret) (hsize : ls.size = nL) (hW : WA g σ b Z s.heap H locs) {v : Int32} {τ : Gst} (hop : (opUndo σ).1 = .inl v) (ht : To (opUndo σ).2 τ) (hR : rmX8_undo.frames + 1 ≤ Rm.frames ∧ 8 + (1 + 11) + rmX8_undo.locals ≤ Rm.locals) (hr : (rest.map fun v => v.category).sum ≤ 8) (hf : cells + 0 ≤ Rm.cells ∧ slots + 0 ≤ Rm.slots) (hdg : decode cc pc = .ok (.invokevirtual 46, 3))
    (K : ∀ (H1 : Heap) (locs1 : List Loc), WA g τ b Z s.heap H1 locs1 → W p l e Rm s m args below meth c H1 locs1 (cells + 0) (slots + 0) Q (F0 m (pc + 3) ls (.int v :: rest))) : W p l e Rm s m args below meth c H locs cells slots Q (F0 m pc ls (.ref (g.2.2.1 + 0) :: rest)) := by
  have hts := C0.2.2.2.2.2.1
  obtain ⟨⟨I, R, P, hH, hC, hO, hA⟩, hS⟩ := hW
  obtain ⟨I1, R1, e1, e2, e3⟩ := m_undo hC hO
  rw [hop] at e1
  exact aw_cVi (rest := rest) C0 ⟨hH, hS⟩ (lv_fix (by decide)) (cel_7 kd0) rfl (c_X8_undo e1) (lw_undo hts hR) rfl hsize rfl hr hf hdg (fun H1 locs1 hW1 => K H1 locs1 ⟨⟨I1, R1, P, hW1.1, ht.1 _ _ _ e2, ht.2 e3, hA⟩, hW1.2⟩)
theorem ax_undo (hfl : l.stackTraces = false) (C0 : CX g p s m args meth c RL cc nL ret) (hsize : ls.size = nL) (hW : WA g σ b Z s.heap H locs) {v : Nat} {τ : Gst} (hop : (opUndo σ).1 = .inr v) (ht : To (opUndo σ).2 τ) (hR : rmxX8_undo.frames + 1 ≤ Rm.frames ∧ 8 + (1 + 11) + rmxX8_undo.locals ≤ Rm.locals) (hr : (rest.map fun v => v.category).sum ≤ 8) (hf : cells + 1 ≤ Rm.cells ∧ slots + 6 ≤ Rm.slots) (hdg : decode cc pc = .ok (.invokevirtual 46, 3))
    (K : ∀ (H1 : Heap) (locs1 : List Loc) (q : Addr) (ce : Cell), WA g τ b Z s.heap H1 locs1 → H1[q]? = some ce → ce.vm = .none → s.vm.findClass (exn v) = some ce.cls → vx_W p l e Rm s m args below meth c H1 locs1 (cells + 1) (slots + 6) Q (F0 m pc ls rest) q) : W p l e Rm s m args below meth c H locs cells slots Q (F0 m pc ls (.ref (g.2.2.1 + 0) :: rest)) := by
  have hts := C0.2.2.2.2.2.1
  obtain ⟨⟨I, R, P, hH, hC, hO, hA⟩, hS⟩ := hW
  obtain ⟨I1, R1, e1, e2, e3⟩ := m_undo hC hO
  rw [hop] at e1
  exact aw_xCt (rest := rest) C0 ⟨hH, hS⟩ (lv_fix (by decide)) (cel_7 kd0) rfl (x_X8_undo hfl e1) (lx_undo hts hR) rfl hsize rfl hr hf hdg (fun H1 locs1 q ce hW1 h1 h2 h3 => K H1 locs1 q ce ⟨⟨I1, R1, P, hW1.1, ht.1 _ _ _ e2, ht.2 e3, hA⟩, hW1.2⟩ h1 h2 h3)
theorem lw_keep (ht : ∀ w ∈ GT, w.before args s = true) (hR : rmX8_keep.frames + 1 ≤ Rm.frames ∧ 8 + (2 + 11) + rmX8_keep.locals ≤ Rm.locals) : CallW Rm s args RL RX8 50 yX8_keep cX8_keep 2 (some .int) (Cond.code yX8_keep cX8_keep 2 (some .int) :: GT) rmX8_keep 0 0 1 := cwV 1 ht (goodV wl12 wl14 wl15 wd76 wl13) rfl rfl rfl ⟨rfl, by decide +kernel, by decide +kernel, by decide +kernel⟩ hR
theorem lx_keep (ht : ∀ w ∈ GT, w.before args s = true) (hR : rmxX8_keep.frames + 1 ≤ Rm.frames ∧ 8 + (2 + 11) + rmxX8_keep.locals ≤ Rm.locals) : CallW Rm s args RL RX8 50 yX8_keep cX8_keep 2 (some .int) (Cond.code yX8_keep cX8_keep 2 (some .int) :: GT) rmxX8_keep 1 6 1 := cwV 1 ht (goodV wl12 wl14 wl15 wd76 wl13) rfl rfl rfl ⟨rfl, by decide +kernel, by decide +kernel, by decide +kernel⟩ hR
theorem ar_keep (C0 : CX g p s m args meth c RL cc nL ret) (hsize : ls.size = nL) (hW : WA g σ b Z s.heap H locs) {x1 : Int32} {v : Int32} {τ : Gst} (hop : (opKeep σ x1).1 = .inl v) (ht : To (opKeep σ x1).2 τ) (hR : rmX8_keep.frames + 1 ≤ Rm.frames ∧ 8 + (2 + 11) + rmX8_keep.locals ≤ Rm.locals) (hr : (rest.map fun v => v.category).sum ≤ 8) (hf : cells + 0 ≤ Rm.cells ∧ slots + 0 ≤ Rm.slots) (hdg : decode cc pc = .ok (.invokevirtual 50, 3))
    (K : ∀ (H1 : Heap) (locs1 : List Loc), WA g τ b Z s.heap H1 locs1 → W p l e Rm s m args below meth c H1 locs1 (cells + 0) (slots + 0) Q (F0 m (pc + 3) ls (.int v :: rest))) : W p l e Rm s m args below meth c H locs cells slots Q (F0 m pc ls (.int x1 :: .ref (g.2.2.1 + 0) :: rest)) := by
  have hts := C0.2.2.2.2.2.1
  obtain ⟨⟨I, R, P, hH, hC, hO, hA⟩, hS⟩ := hW
  obtain ⟨I1, R1, e1, e2, e3⟩ := m_keep (x1 := x1) hC hO
  rw [hop] at e1
  exact aw_cVi (rest := rest) C0 ⟨hH, hS⟩ (lv_fix (by decide)) (cel_7 kd0) rfl (c_X8_keep x1 e1) (lw_keep hts hR) rfl hsize rfl hr hf hdg (fun H1 locs1 hW1 => K H1 locs1 ⟨⟨I1, R1, P, hW1.1, ht.1 _ _ _ e2, ht.2 e3, hA⟩, hW1.2⟩)
theorem ax_keep (hfl : l.stackTraces = false) (C0 : CX g p s m args meth c RL cc nL ret) (hsize : ls.size = nL) (hW : WA g σ b Z s.heap H locs) {x1 : Int32} {v : Nat} {τ : Gst} (hop : (opKeep σ x1).1 = .inr v) (ht : To (opKeep σ x1).2 τ) (hR : rmxX8_keep.frames + 1 ≤ Rm.frames ∧ 8 + (2 + 11) + rmxX8_keep.locals ≤ Rm.locals) (hr : (rest.map fun v => v.category).sum ≤ 8) (hf : cells + 1 ≤ Rm.cells ∧ slots + 6 ≤ Rm.slots) (hdg : decode cc pc = .ok (.invokevirtual 50, 3))
    (K : ∀ (H1 : Heap) (locs1 : List Loc) (q : Addr) (ce : Cell), WA g τ b Z s.heap H1 locs1 → H1[q]? = some ce → ce.vm = .none → s.vm.findClass (exn v) = some ce.cls → vx_W p l e Rm s m args below meth c H1 locs1 (cells + 1) (slots + 6) Q (F0 m pc ls rest) q) : W p l e Rm s m args below meth c H locs cells slots Q (F0 m pc ls (.int x1 :: .ref (g.2.2.1 + 0) :: rest)) := by
  have hts := C0.2.2.2.2.2.1
  obtain ⟨⟨I, R, P, hH, hC, hO, hA⟩, hS⟩ := hW
  obtain ⟨I1, R1, e1, e2, e3⟩ := m_keep (x1 := x1) hC hO
  rw [hop] at e1
  exact aw_xCt (rest := rest) C0 ⟨hH, hS⟩ (lv_fix (by decide)) (cel_7 kd0) rfl (x_X8_keep hfl x1 e1) (lx_keep hts hR) rfl hsize rfl hr hf hdg (fun H1 locs1 q ce hW1 h1 h2 h3 => K H1 locs1 q ce ⟨⟨I1, R1, P, hW1.1, ht.1 _ _ _ e2, ht.2 e3, hA⟩, hW1.2⟩ h1 h2 h3)
theorem lw_goBack (ht : ∀ w ∈ GT, w.before args s = true) (hR : rmX8_goBack.frames + 1 ≤ Rm.frames ∧ 8 + (2 + 11) + rmX8_goBack.locals ≤ Rm.locals) : CallW Rm s args RL RX8 53 yX8_goBack cX8_goBack 2 (some .int) (Cond.code yX8_goBack cX8_goBack 2 (some .int) :: GT) rmX8_goBack 0 0 1 := cwV 1 ht (goodV wl16 wl18 wl19 wd76 wl17) rfl rfl rfl ⟨rfl, by decide +kernel, by decide +kernel, by decide +kernel⟩ hR
theorem lx_goBack (ht : ∀ w ∈ GT, w.before args s = true) (hR : rmxX8_goBack.frames + 1 ≤ Rm.frames ∧ 8 + (2 + 11) + rmxX8_goBack.locals ≤ Rm.locals) : CallW Rm s args RL RX8 53 yX8_goBack cX8_goBack 2 (some .int) (Cond.code yX8_goBack cX8_goBack 2 (some .int) :: GT) rmxX8_goBack 1 6 1 := cwV 1 ht (goodV wl16 wl18 wl19 wd76 wl17) rfl rfl rfl ⟨rfl, by decide +kernel, by decide +kernel, by decide +kernel⟩ hR
theorem ar_goBack (C0 : CX g p s m args meth c RL cc nL ret) (hsize : ls.size = nL) (hW : WA g σ b Z s.heap H locs) {x1 : Int32} {v : Int32} {τ : Gst} (hop : (opGoBack σ x1).1 = .inl v) (ht : To (opGoBack σ x1).2 τ) (hR : rmX8_goBack.frames + 1 ≤ Rm.frames ∧ 8 + (2 + 11) + rmX8_goBack.locals ≤ Rm.locals) (hr : (rest.map fun v => v.category).sum ≤ 8) (hf : cells + 0 ≤ Rm.cells ∧ slots + 0 ≤ Rm.slots) (hdg : decode cc pc = .ok (.invokevirtual 53, 3))
    (K : ∀ (H1 : Heap) (locs1 : List Loc), WA g τ b Z s.heap H1 locs1 → W p l e Rm s m args below meth c H1 locs1 (cells + 0) (slots + 0) Q (F0 m (pc + 3) ls (.int v :: rest))) : W p l e Rm s m args below meth c H locs cells slots Q (F0 m pc ls (.int x1 :: .ref (g.2.2.1 + 0) :: rest)) := by
  have hts := C0.2.2.2.2.2.1
  obtain ⟨⟨I, R, P, hH, hC, hO, hA⟩, hS⟩ := hW
  obtain ⟨I1, R1, e1, e2, e3⟩ := m_goBack (x1 := x1) hC hO
  rw [hop] at e1
  exact aw_cVi (rest := rest) C0 ⟨hH, hS⟩ (lv_fix (by decide)) (cel_7 kd0) rfl (c_X8_goBack x1 e1) (lw_goBack hts hR) rfl hsize rfl hr hf hdg (fun H1 locs1 hW1 => K H1 locs1 ⟨⟨I1, R1, P, hW1.1, ht.1 _ _ _ e2, ht.2 e3, hA⟩, hW1.2⟩)
theorem ax_goBack (hfl : l.stackTraces = false) (C0 : CX g p s m args meth c RL cc nL ret) (hsize : ls.size = nL) (hW : WA g σ b Z s.heap H locs) {x1 : Int32} {v : Nat} {τ : Gst} (hop : (opGoBack σ x1).1 = .inr v) (ht : To (opGoBack σ x1).2 τ) (hR : rmxX8_goBack.frames + 1 ≤ Rm.frames ∧ 8 + (2 + 11) + rmxX8_goBack.locals ≤ Rm.locals) (hr : (rest.map fun v => v.category).sum ≤ 8) (hf : cells + 1 ≤ Rm.cells ∧ slots + 6 ≤ Rm.slots) (hdg : decode cc pc = .ok (.invokevirtual 53, 3))
    (K : ∀ (H1 : Heap) (locs1 : List Loc) (q : Addr) (ce : Cell), WA g τ b Z s.heap H1 locs1 → H1[q]? = some ce → ce.vm = .none → s.vm.findClass (exn v) = some ce.cls → vx_W p l e Rm s m args below meth c H1 locs1 (cells + 1) (slots + 6) Q (F0 m pc ls rest) q) : W p l e Rm s m args below meth c H locs cells slots Q (F0 m pc ls (.int x1 :: .ref (g.2.2.1 + 0) :: rest)) := by
  have hts := C0.2.2.2.2.2.1
  obtain ⟨⟨I, R, P, hH, hC, hO, hA⟩, hS⟩ := hW
  obtain ⟨I1, R1, e1, e2, e3⟩ := m_goBack (x1 := x1) hC hO
  rw [hop] at e1
  exact aw_xCt (rest := rest) C0 ⟨hH, hS⟩ (lv_fix (by decide)) (cel_7 kd0) rfl (x_X8_goBack hfl x1 e1) (lx_goBack hts hR) rfl hsize rfl hr hf hdg (fun H1 locs1 q ce hW1 h1 h2 h3 => K H1 locs1 q ce ⟨⟨I1, R1, P, hW1.1, ht.1 _ _ _ e2, ht.2 e3, hA⟩, hW1.2⟩ h1 h2 h3)
theorem lw_cell (ht : ∀ w ∈ GT, w.before args s = true) (hR : rmX8_cell.frames + 1 ≤ Rm.frames ∧ 8 + (4 + 11) + rmX8_cell.locals ≤ Rm.locals) : CallW Rm s args RL RX8 56 yX8_cell cX8_cell 4 (some .int) (Cond.code yX8_cell cX8_cell 4 (some .int) :: GT) rmX8_cell 0 0 3 := cwV 3 ht (goodV wl71 wl73 wl74 wd76 wl72) rfl rfl rfl ⟨rfl, by decide +kernel, by decide +kernel, by decide +kernel⟩ hR
theorem lx_cell (ht : ∀ w ∈ GT, w.before args s = true) (hR : rmxX8_cell.frames + 1 ≤ Rm.frames ∧ 8 + (4 + 11) + rmxX8_cell.locals ≤ Rm.locals) : CallW Rm s args RL RX8 56 yX8_cell cX8_cell 4 (some .int) (Cond.code yX8_cell cX8_cell 4 (some .int) :: GT) rmxX8_cell 1 6 3 := cwV 3 ht (goodV wl71 wl73 wl74 wd76 wl72) rfl rfl rfl ⟨rfl, by decide +kernel, by decide +kernel, by decide +kernel⟩ hR
theorem ar_cell (C0 : CX g p s m args meth c RL cc nL ret) (hsize : ls.size = nL) (hW : WA g σ b Z s.heap H locs) {x1 x2 x3 : Int32} {v : Int32} (hop : opCell σ.1 x1 x2 x3 = .inl v) (hR : rmX8_cell.frames + 1 ≤ Rm.frames ∧ 8 + (4 + 11) + rmX8_cell.locals ≤ Rm.locals) (hr : (rest.map fun v => v.category).sum ≤ 8) (hf : cells + 0 ≤ Rm.cells ∧ slots + 0 ≤ Rm.slots) (hdg : decode cc pc = .ok (.invokevirtual 56, 3))
    (K : ∀ (H1 : Heap) (locs1 : List Loc), WA g σ b Z s.heap H1 locs1 → W p l e Rm s m args below meth c H1 locs1 (cells + 0) (slots + 0) Q (F0 m (pc + 3) ls (.int v :: rest))) : W p l e Rm s m args below meth c H locs cells slots Q (F0 m pc ls (.int x3 :: .int x2 :: .int x1 :: .ref (g.2.2.1 + 0) :: rest)) := by
  have hts := C0.2.2.2.2.2.1
  obtain ⟨⟨I, R, P, hH, hC, hO, hA⟩, hS⟩ := hW
  have e1 := m_cell (x1 := x1) (x2 := x2) (x3 := x3) hC.1 hO.1
  rw [hop] at e1
  exact aw_cVi (rest := rest) C0 ⟨hH, hS⟩ (lv_fix (by decide)) (cel_7 kd0) rfl (c_X8_cell x1 x2 x3 e1) (lw_cell hts hR) rfl hsize rfl hr hf hdg (fun H1 locs1 hW1 => K H1 locs1 ⟨⟨I, R, P, hW1.1, hC, hO, hA⟩, hW1.2⟩)
theorem ax_cell (hfl : l.stackTraces = false) (C0 : CX g p s m args meth c RL cc nL ret) (hsize : ls.size = nL) (hW : WA g σ b Z s.heap H locs) {x1 x2 x3 : Int32} {v : Nat} (hop : opCell σ.1 x1 x2 x3 = .inr v) (hR : rmxX8_cell.frames + 1 ≤ Rm.frames ∧ 8 + (4 + 11) + rmxX8_cell.locals ≤ Rm.locals) (hr : (rest.map fun v => v.category).sum ≤ 8) (hf : cells + 1 ≤ Rm.cells ∧ slots + 6 ≤ Rm.slots) (hdg : decode cc pc = .ok (.invokevirtual 56, 3))
    (K : ∀ (H1 : Heap) (locs1 : List Loc) (q : Addr) (ce : Cell), WA g σ b Z s.heap H1 locs1 → H1[q]? = some ce → ce.vm = .none → s.vm.findClass (exn v) = some ce.cls → vx_W p l e Rm s m args below meth c H1 locs1 (cells + 1) (slots + 6) Q (F0 m pc ls rest) q) : W p l e Rm s m args below meth c H locs cells slots Q (F0 m pc ls (.int x3 :: .int x2 :: .int x1 :: .ref (g.2.2.1 + 0) :: rest)) := by
  have hts := C0.2.2.2.2.2.1
  obtain ⟨⟨I, R, P, hH, hC, hO, hA⟩, hS⟩ := hW
  have e1 := m_cell (x1 := x1) (x2 := x2) (x3 := x3) hC.1 hO.1
  rw [hop] at e1
  exact aw_xCt (rest := rest) C0 ⟨hH, hS⟩ (lv_fix (by decide)) (cel_7 kd0) rfl (x_X8_cell hfl x1 x2 x3 e1) (lx_cell hts hR) rfl hsize rfl hr hf hdg (fun H1 locs1 q ce hW1 h1 h2 h3 => K H1 locs1 q ce ⟨⟨I, R, P, hW1.1, hC, hO, hA⟩, hW1.2⟩ h1 h2 h3)
theorem lw_column (ht : ∀ w ∈ GT, w.before args s = true) (hR : rmX8_column.frames + 1 ≤ Rm.frames ∧ 8 + (11 + 11) + rmX8_column.locals ≤ Rm.locals) : CallW Rm s args RL RX8 60 yX8_column cX8_column 11 (some .int) (Cond.code yX8_column cX8_column 11 (some .int) :: GT) rmX8_column 0 0 3 := cwV 3 ht (goodV wl75 wl77 wl78 wd76 wl76) rfl rfl rfl ⟨rfl, by decide +kernel, by decide +kernel, by decide +kernel⟩ hR
theorem lx_column (ht : ∀ w ∈ GT, w.before args s = true) (hR : rmxX8_column.frames + 1 ≤ Rm.frames ∧ 8 + (11 + 11) + rmxX8_column.locals ≤ Rm.locals) : CallW Rm s args RL RX8 60 yX8_column cX8_column 11 (some .int) (Cond.code yX8_column cX8_column 11 (some .int) :: GT) rmxX8_column 1 6 3 := cwV 3 ht (goodV wl75 wl77 wl78 wd76 wl76) rfl rfl rfl ⟨rfl, by decide +kernel, by decide +kernel, by decide +kernel⟩ hR
theorem ar_column (C0 : CX g p s m args meth c RL cc nL ret) (hsize : ls.size = nL) (hW : WA g σ b Z s.heap H locs) {x1 x2 x3 : Int32} {v : Int32} (hop : opColumn σ.1 x1 x2 x3 = .inl v) (hR : rmX8_column.frames + 1 ≤ Rm.frames ∧ 8 + (11 + 11) + rmX8_column.locals ≤ Rm.locals) (hr : (rest.map fun v => v.category).sum ≤ 8) (hf : cells + 0 ≤ Rm.cells ∧ slots + 0 ≤ Rm.slots) (hdg : decode cc pc = .ok (.invokevirtual 60, 3))
    (K : ∀ (H1 : Heap) (locs1 : List Loc), WA g σ b Z s.heap H1 locs1 → W p l e Rm s m args below meth c H1 locs1 (cells + 0) (slots + 0) Q (F0 m (pc + 3) ls (.int v :: rest))) : W p l e Rm s m args below meth c H locs cells slots Q (F0 m pc ls (.int x3 :: .int x2 :: .int x1 :: .ref (g.2.2.1 + 0) :: rest)) := by
  have hts := C0.2.2.2.2.2.1
  obtain ⟨⟨I, R, P, hH, hC, hO, hA⟩, hS⟩ := hW
  have e1 := m_column (x1 := x1) (x2 := x2) (x3 := x3) hC.1 hO.1
  rw [hop] at e1
  exact aw_cVi (rest := rest) C0 ⟨hH, hS⟩ (lv_fix (by decide)) (cel_7 kd0) rfl (c_X8_column x1 x2 x3 e1) (lw_column hts hR) rfl hsize rfl hr hf hdg (fun H1 locs1 hW1 => K H1 locs1 ⟨⟨I, R, P, hW1.1, hC, hO, hA⟩, hW1.2⟩)
theorem ax_column (hfl : l.stackTraces = false) (C0 : CX g p s m args meth c RL cc nL ret) (hsize : ls.size = nL) (hW : WA g σ b Z s.heap H locs) {x1 x2 x3 : Int32} {v : Nat} (hop : opColumn σ.1 x1 x2 x3 = .inr v) (hR : rmxX8_column.frames + 1 ≤ Rm.frames ∧ 8 + (11 + 11) + rmxX8_column.locals ≤ Rm.locals) (hr : (rest.map fun v => v.category).sum ≤ 8) (hf : cells + 1 ≤ Rm.cells ∧ slots + 6 ≤ Rm.slots) (hdg : decode cc pc = .ok (.invokevirtual 60, 3))
    (K : ∀ (H1 : Heap) (locs1 : List Loc) (q : Addr) (ce : Cell), WA g σ b Z s.heap H1 locs1 → H1[q]? = some ce → ce.vm = .none → s.vm.findClass (exn v) = some ce.cls → vx_W p l e Rm s m args below meth c H1 locs1 (cells + 1) (slots + 6) Q (F0 m pc ls rest) q) : W p l e Rm s m args below meth c H locs cells slots Q (F0 m pc ls (.int x3 :: .int x2 :: .int x1 :: .ref (g.2.2.1 + 0) :: rest)) := by
  have hts := C0.2.2.2.2.2.1
  obtain ⟨⟨I, R, P, hH, hC, hO, hA⟩, hS⟩ := hW
  have e1 := m_column (x1 := x1) (x2 := x2) (x3 := x3) hC.1 hO.1
  rw [hop] at e1
  exact aw_xCt (rest := rest) C0 ⟨hH, hS⟩ (lv_fix (by decide)) (cel_7 kd0) rfl (x_X8_column hfl x1 x2 x3 e1) (lx_column hts hR) rfl hsize rfl hr hf hdg (fun H1 locs1 q ce hW1 h1 h2 h3 => K H1 locs1 q ce ⟨⟨I, R, P, hW1.1, hC, hO, hA⟩, hW1.2⟩ h1 h2 h3)
theorem lw_group (ht : ∀ w ∈ GT, w.before args s = true) (hR : rmX8_group.frames + 1 ≤ Rm.frames ∧ 8 + (8 + 11) + rmX8_group.locals ≤ Rm.locals) : CallW Rm s args RL RX8 63 yX8_group cX8_group 8 (some .int) (Cond.code yX8_group cX8_group 8 (some .int) :: GT) rmX8_group 0 0 4 := cwV 4 ht (goodV wl79 wl81 wl82 wd76 wl80) rfl rfl rfl ⟨rfl, by decide +kernel, by decide +kernel, by decide +kernel⟩ hR
theorem lx_group (ht : ∀ w ∈ GT, w.before args s = true) (hR : rmxX8_group.frames + 1 ≤ Rm.frames ∧ 8 + (8 + 11) + rmxX8_group.locals ≤ Rm.locals) : CallW Rm s args RL RX8 63 yX8_group cX8_group 8 (some .int) (Cond.code yX8_group cX8_group 8 (some .int) :: GT) rmxX8_group 1 6 4 := cwV 4 ht (goodV wl79 wl81 wl82 wd76 wl80) rfl rfl rfl ⟨rfl, by decide +kernel, by decide +kernel, by decide +kernel⟩ hR
theorem ar_group (C0 : CX g p s m args meth c RL cc nL ret) (hsize : ls.size = nL) (hW : WA g σ b Z s.heap H locs) {x1 x2 x3 x4 : Int32} {v : Int32} (hop : opGroup σ.1 x1 x2 x3 x4 = .inl v) (hR : rmX8_group.frames + 1 ≤ Rm.frames ∧ 8 + (8 + 11) + rmX8_group.locals ≤ Rm.locals) (hr : (rest.map fun v => v.category).sum ≤ 8) (hf : cells + 0 ≤ Rm.cells ∧ slots + 0 ≤ Rm.slots) (hdg : decode cc pc = .ok (.invokevirtual 63, 3))
    (K : ∀ (H1 : Heap) (locs1 : List Loc), WA g σ b Z s.heap H1 locs1 → W p l e Rm s m args below meth c H1 locs1 (cells + 0) (slots + 0) Q (F0 m (pc + 3) ls (.int v :: rest))) : W p l e Rm s m args below meth c H locs cells slots Q (F0 m pc ls (.int x4 :: .int x3 :: .int x2 :: .int x1 :: .ref (g.2.2.1 + 0) :: rest)) := by
  have hts := C0.2.2.2.2.2.1
  obtain ⟨⟨I, R, P, hH, hC, hO, hA⟩, hS⟩ := hW
  have e1 := m_group (x1 := x1) (x2 := x2) (x3 := x3) (x4 := x4) hC.1 hO.1
  rw [hop] at e1
  exact aw_cVi (rest := rest) C0 ⟨hH, hS⟩ (lv_fix (by decide)) (cel_7 kd0) rfl (c_X8_group x1 x2 x3 x4 e1) (lw_group hts hR) rfl hsize rfl hr hf hdg (fun H1 locs1 hW1 => K H1 locs1 ⟨⟨I, R, P, hW1.1, hC, hO, hA⟩, hW1.2⟩)
theorem ax_group (hfl : l.stackTraces = false) (C0 : CX g p s m args meth c RL cc nL ret) (hsize : ls.size = nL) (hW : WA g σ b Z s.heap H locs) {x1 x2 x3 x4 : Int32} {v : Nat} (hop : opGroup σ.1 x1 x2 x3 x4 = .inr v) (hR : rmxX8_group.frames + 1 ≤ Rm.frames ∧ 8 + (8 + 11) + rmxX8_group.locals ≤ Rm.locals) (hr : (rest.map fun v => v.category).sum ≤ 8) (hf : cells + 1 ≤ Rm.cells ∧ slots + 6 ≤ Rm.slots) (hdg : decode cc pc = .ok (.invokevirtual 63, 3))
    (K : ∀ (H1 : Heap) (locs1 : List Loc) (q : Addr) (ce : Cell), WA g σ b Z s.heap H1 locs1 → H1[q]? = some ce → ce.vm = .none → s.vm.findClass (exn v) = some ce.cls → vx_W p l e Rm s m args below meth c H1 locs1 (cells + 1) (slots + 6) Q (F0 m pc ls rest) q) : W p l e Rm s m args below meth c H locs cells slots Q (F0 m pc ls (.int x4 :: .int x3 :: .int x2 :: .int x1 :: .ref (g.2.2.1 + 0) :: rest)) := by
  have hts := C0.2.2.2.2.2.1
  obtain ⟨⟨I, R, P, hH, hC, hO, hA⟩, hS⟩ := hW
  have e1 := m_group (x1 := x1) (x2 := x2) (x3 := x3) (x4 := x4) hC.1 hO.1
  rw [hop] at e1
  exact aw_xCt (rest := rest) C0 ⟨hH, hS⟩ (lv_fix (by decide)) (cel_7 kd0) rfl (x_X8_group hfl x1 x2 x3 x4 e1) (lx_group hts hR) rfl hsize rfl hr hf hdg (fun H1 locs1 q ce hW1 h1 h2 h3 => K H1 locs1 q ce ⟨⟨I, R, P, hW1.1, hC, hO, hA⟩, hW1.2⟩ h1 h2 h3)
theorem lw_truth (ht : ∀ w ∈ GT, w.before args s = true) (hR : rmX8_truth.frames + 1 ≤ Rm.frames ∧ 8 + (5 + 11) + rmX8_truth.locals ≤ Rm.locals) : CallW Rm s args RL RX8 66 yX8_truth cX8_truth 5 (some .int) (Cond.code yX8_truth cX8_truth 5 (some .int) :: GT) rmX8_truth 0 0 3 := cwV 3 ht (goodV wl83 wl85 wl86 wd76 wl84) rfl rfl rfl ⟨rfl, by decide +kernel, by decide +kernel, by decide +kernel⟩ hR
theorem lx_truth (ht : ∀ w ∈ GT, w.before args s = true) (hR : rmxX8_truth.frames + 1 ≤ Rm.frames ∧ 8 + (5 + 11) + rmxX8_truth.locals ≤ Rm.locals) : CallW Rm s args RL RX8 66 yX8_truth cX8_truth 5 (some .int) (Cond.code yX8_truth cX8_truth 5 (some .int) :: GT) rmxX8_truth 1 6 3 := cwV 3 ht (goodV wl83 wl85 wl86 wd76 wl84) rfl rfl rfl ⟨rfl, by decide +kernel, by decide +kernel, by decide +kernel⟩ hR
theorem ar_truth (C0 : CX g p s m args meth c RL cc nL ret) (hsize : ls.size = nL) (hW : WA g σ b Z s.heap H locs) {x1 x2 x3 : Int32} {v : Int32} (hop : opTruth σ.1 x1 x2 x3 = .inl v) (hR : rmX8_truth.frames + 1 ≤ Rm.frames ∧ 8 + (5 + 11) + rmX8_truth.locals ≤ Rm.locals) (hr : (rest.map fun v => v.category).sum ≤ 8) (hf : cells + 0 ≤ Rm.cells ∧ slots + 0 ≤ Rm.slots) (hdg : decode cc pc = .ok (.invokevirtual 66, 3))
    (K : ∀ (H1 : Heap) (locs1 : List Loc), WA g σ b Z s.heap H1 locs1 → W p l e Rm s m args below meth c H1 locs1 (cells + 0) (slots + 0) Q (F0 m (pc + 3) ls (.int v :: rest))) : W p l e Rm s m args below meth c H locs cells slots Q (F0 m pc ls (.int x3 :: .int x2 :: .int x1 :: .ref (g.2.2.1 + 0) :: rest)) := by
  have hts := C0.2.2.2.2.2.1
  obtain ⟨⟨I, R, P, hH, hC, hO, hA⟩, hS⟩ := hW
  obtain ⟨I1, e1, e2⟩ := m_truth (x1 := x1) (x2 := x2) (x3 := x3) hC.1 hO.1
  rw [hop] at e1
  exact aw_cVi (rest := rest) C0 ⟨hH, hS⟩ (lv_fix (by decide)) (cel_7 kd0) rfl (c_X8_truth x1 x2 x3 e1) (lw_truth hts hR) rfl hsize rfl hr hf hdg (fun H1 locs1 hW1 => K H1 locs1 ⟨⟨I1, R, P, hW1.1, hC.sc e2, hO, hA⟩, hW1.2⟩)
theorem ax_truth (hfl : l.stackTraces = false) (C0 : CX g p s m args meth c RL cc nL ret) (hsize : ls.size = nL) (hW : WA g σ b Z s.heap H locs) {x1 x2 x3 : Int32} {v : Nat} (hop : opTruth σ.1 x1 x2 x3 = .inr v) (hR : rmxX8_truth.frames + 1 ≤ Rm.frames ∧ 8 + (5 + 11) + rmxX8_truth.locals ≤ Rm.locals) (hr : (rest.map fun v => v.category).sum ≤ 8) (hf : cells + 1 ≤ Rm.cells ∧ slots + 6 ≤ Rm.slots) (hdg : decode cc pc = .ok (.invokevirtual 66, 3))
    (K : ∀ (H1 : Heap) (locs1 : List Loc) (q : Addr) (ce : Cell), WA g σ b Z s.heap H1 locs1 → H1[q]? = some ce → ce.vm = .none → s.vm.findClass (exn v) = some ce.cls → vx_W p l e Rm s m args below meth c H1 locs1 (cells + 1) (slots + 6) Q (F0 m pc ls rest) q) : W p l e Rm s m args below meth c H locs cells slots Q (F0 m pc ls (.int x3 :: .int x2 :: .int x1 :: .ref (g.2.2.1 + 0) :: rest)) := by
  have hts := C0.2.2.2.2.2.1
  obtain ⟨⟨I, R, P, hH, hC, hO, hA⟩, hS⟩ := hW
  obtain ⟨I1, e1, e2⟩ := m_truth (x1 := x1) (x2 := x2) (x3 := x3) hC.1 hO.1
  rw [hop] at e1
  exact aw_xCt (rest := rest) C0 ⟨hH, hS⟩ (lv_fix (by decide)) (cel_7 kd0) rfl (x_X8_truth hfl x1 x2 x3 e1) (lx_truth hts hR) rfl hsize rfl hr hf hdg (fun H1 locs1 q ce hW1 h1 h2 h3 => K H1 locs1 q ce ⟨⟨I1, R, P, hW1.1, hC.sc e2, hO, hA⟩, hW1.2⟩ h1 h2 h3)
theorem lw_rows (ht : ∀ w ∈ GT, w.before args s = true) (hR : rmX8_rows.frames + 1 ≤ Rm.frames ∧ 8 + (6 + 11) + rmX8_rows.locals ≤ Rm.locals) : CallW Rm s args RL RX8 69 yX8_rows cX8_rows 6 (some .int) (Cond.code yX8_rows cX8_rows 6 (some .int) :: GT) rmX8_rows 0 0 4 := cwV 4 ht (goodV wl87 wl89 wl90 wd76 wl88) rfl rfl rfl ⟨rfl, by decide +kernel, by decide +kernel, by decide +kernel⟩ hR
theorem lx_rows (ht : ∀ w ∈ GT, w.before args s = true) (hR : rmxX8_rows.frames + 1 ≤ Rm.frames ∧ 8 + (6 + 11) + rmxX8_rows.locals ≤ Rm.locals) : CallW Rm s args RL RX8 69 yX8_rows cX8_rows 6 (some .int) (Cond.code yX8_rows cX8_rows 6 (some .int) :: GT) rmxX8_rows 1 6 4 := cwV 4 ht (goodV wl87 wl89 wl90 wd76 wl88) rfl rfl rfl ⟨rfl, by decide +kernel, by decide +kernel, by decide +kernel⟩ hR
theorem ar_rows (C0 : CX g p s m args meth c RL cc nL ret) (hsize : ls.size = nL) (hW : WA g σ b Z s.heap H locs) {x1 x2 x3 x4 : Int32} {v : Int32} (hop : opRows σ.1 x1 x2 x3 x4 = .inl v) (hR : rmX8_rows.frames + 1 ≤ Rm.frames ∧ 8 + (6 + 11) + rmX8_rows.locals ≤ Rm.locals) (hr : (rest.map fun v => v.category).sum ≤ 8) (hf : cells + 0 ≤ Rm.cells ∧ slots + 0 ≤ Rm.slots) (hdg : decode cc pc = .ok (.invokevirtual 69, 3))
    (K : ∀ (H1 : Heap) (locs1 : List Loc), WA g σ b Z s.heap H1 locs1 → W p l e Rm s m args below meth c H1 locs1 (cells + 0) (slots + 0) Q (F0 m (pc + 3) ls (.int v :: rest))) : W p l e Rm s m args below meth c H locs cells slots Q (F0 m pc ls (.int x4 :: .int x3 :: .int x2 :: .int x1 :: .ref (g.2.2.1 + 0) :: rest)) := by
  have hts := C0.2.2.2.2.2.1
  obtain ⟨⟨I, R, P, hH, hC, hO, hA⟩, hS⟩ := hW
  obtain ⟨I1, e1, e2⟩ := m_rows (x1 := x1) (x2 := x2) (x3 := x3) (x4 := x4) hC.1 hO.1
  rw [hop] at e1
  exact aw_cVi (rest := rest) C0 ⟨hH, hS⟩ (lv_fix (by decide)) (cel_7 kd0) rfl (c_X8_rows x1 x2 x3 x4 e1) (lw_rows hts hR) rfl hsize rfl hr hf hdg (fun H1 locs1 hW1 => K H1 locs1 ⟨⟨I1, R, P, hW1.1, hC.sc e2, hO, hA⟩, hW1.2⟩)
theorem ax_rows (hfl : l.stackTraces = false) (C0 : CX g p s m args meth c RL cc nL ret) (hsize : ls.size = nL) (hW : WA g σ b Z s.heap H locs) {x1 x2 x3 x4 : Int32} {v : Nat} (hop : opRows σ.1 x1 x2 x3 x4 = .inr v) (hR : rmxX8_rows.frames + 1 ≤ Rm.frames ∧ 8 + (6 + 11) + rmxX8_rows.locals ≤ Rm.locals) (hr : (rest.map fun v => v.category).sum ≤ 8) (hf : cells + 1 ≤ Rm.cells ∧ slots + 6 ≤ Rm.slots) (hdg : decode cc pc = .ok (.invokevirtual 69, 3))
    (K : ∀ (H1 : Heap) (locs1 : List Loc) (q : Addr) (ce : Cell), WA g σ b Z s.heap H1 locs1 → H1[q]? = some ce → ce.vm = .none → s.vm.findClass (exn v) = some ce.cls → vx_W p l e Rm s m args below meth c H1 locs1 (cells + 1) (slots + 6) Q (F0 m pc ls rest) q) : W p l e Rm s m args below meth c H locs cells slots Q (F0 m pc ls (.int x4 :: .int x3 :: .int x2 :: .int x1 :: .ref (g.2.2.1 + 0) :: rest)) := by
  have hts := C0.2.2.2.2.2.1
  obtain ⟨⟨I, R, P, hH, hC, hO, hA⟩, hS⟩ := hW
  obtain ⟨I1, e1, e2⟩ := m_rows (x1 := x1) (x2 := x2) (x3 := x3) (x4 := x4) hC.1 hO.1
  rw [hop] at e1
  exact aw_xCt (rest := rest) C0 ⟨hH, hS⟩ (lv_fix (by decide)) (cel_7 kd0) rfl (x_X8_rows hfl x1 x2 x3 x4 e1) (lx_rows hts hR) rfl hsize rfl hr hf hdg (fun H1 locs1 q ce hW1 h1 h2 h3 => K H1 locs1 q ce ⟨⟨I1, R, P, hW1.1, hC.sc e2, hO, hA⟩, hW1.2⟩ h1 h2 h3)
theorem lw_filter (ht : ∀ w ∈ GT, w.before args s = true) (hR : rmX8_filter.frames + 1 ≤ Rm.frames ∧ 8 + (4 + 11) + rmX8_filter.locals ≤ Rm.locals) : CallW Rm s args RL RX8 72 yX8_filter cX8_filter 4 (some .int) (Cond.code yX8_filter cX8_filter 4 (some .int) :: GT) rmX8_filter 0 0 2 := cwV 2 ht (goodV wl91 wl93 wl94 wd76 wl92) rfl rfl rfl ⟨rfl, by decide +kernel, by decide +kernel, by decide +kernel⟩ hR
theorem lx_filter (ht : ∀ w ∈ GT, w.before args s = true) (hR : rmxX8_filter.frames + 1 ≤ Rm.frames ∧ 8 + (4 + 11) + rmxX8_filter.locals ≤ Rm.locals) : CallW Rm s args RL RX8 72 yX8_filter cX8_filter 4 (some .int) (Cond.code yX8_filter cX8_filter 4 (some .int) :: GT) rmxX8_filter 1 6 2 := cwV 2 ht (goodV wl91 wl93 wl94 wd76 wl92) rfl rfl rfl ⟨rfl, by decide +kernel, by decide +kernel, by decide +kernel⟩ hR
theorem ar_filter (C0 : CX g p s m args meth c RL cc nL ret) (hsize : ls.size = nL) (hW : WA g σ b Z s.heap H locs) {x1 x2 : Int32} {v : Int32} (hop : opFilter σ.1 x1 x2 = .inl v) (hR : rmX8_filter.frames + 1 ≤ Rm.frames ∧ 8 + (4 + 11) + rmX8_filter.locals ≤ Rm.locals) (hr : (rest.map fun v => v.category).sum ≤ 8) (hf : cells + 0 ≤ Rm.cells ∧ slots + 0 ≤ Rm.slots) (hdg : decode cc pc = .ok (.invokevirtual 72, 3))
    (K : ∀ (H1 : Heap) (locs1 : List Loc), WA g σ b Z s.heap H1 locs1 → W p l e Rm s m args below meth c H1 locs1 (cells + 0) (slots + 0) Q (F0 m (pc + 3) ls (.int v :: rest))) : W p l e Rm s m args below meth c H locs cells slots Q (F0 m pc ls (.int x2 :: .int x1 :: .ref (g.2.2.1 + 0) :: rest)) := by
  have hts := C0.2.2.2.2.2.1
  obtain ⟨⟨I, R, P, hH, hC, hO, hA⟩, hS⟩ := hW
  obtain ⟨I1, e1, e2⟩ := m_filter (x1 := x1) (x2 := x2) hC.1 hO.1
  rw [hop] at e1
  exact aw_cVi (rest := rest) C0 ⟨hH, hS⟩ (lv_fix (by decide)) (cel_7 kd0) rfl (c_X8_filter x1 x2 e1) (lw_filter hts hR) rfl hsize rfl hr hf hdg (fun H1 locs1 hW1 => K H1 locs1 ⟨⟨I1, R, P, hW1.1, hC.sc e2, hO, hA⟩, hW1.2⟩)
theorem ax_filter (hfl : l.stackTraces = false) (C0 : CX g p s m args meth c RL cc nL ret) (hsize : ls.size = nL) (hW : WA g σ b Z s.heap H locs) {x1 x2 : Int32} {v : Nat} (hop : opFilter σ.1 x1 x2 = .inr v) (hR : rmxX8_filter.frames + 1 ≤ Rm.frames ∧ 8 + (4 + 11) + rmxX8_filter.locals ≤ Rm.locals) (hr : (rest.map fun v => v.category).sum ≤ 8) (hf : cells + 1 ≤ Rm.cells ∧ slots + 6 ≤ Rm.slots) (hdg : decode cc pc = .ok (.invokevirtual 72, 3))
    (K : ∀ (H1 : Heap) (locs1 : List Loc) (q : Addr) (ce : Cell), WA g σ b Z s.heap H1 locs1 → H1[q]? = some ce → ce.vm = .none → s.vm.findClass (exn v) = some ce.cls → vx_W p l e Rm s m args below meth c H1 locs1 (cells + 1) (slots + 6) Q (F0 m pc ls rest) q) : W p l e Rm s m args below meth c H locs cells slots Q (F0 m pc ls (.int x2 :: .int x1 :: .ref (g.2.2.1 + 0) :: rest)) := by
  have hts := C0.2.2.2.2.2.1
  obtain ⟨⟨I, R, P, hH, hC, hO, hA⟩, hS⟩ := hW
  obtain ⟨I1, e1, e2⟩ := m_filter (x1 := x1) (x2 := x2) hC.1 hO.1
  rw [hop] at e1
  exact aw_xCt (rest := rest) C0 ⟨hH, hS⟩ (lv_fix (by decide)) (cel_7 kd0) rfl (x_X8_filter hfl x1 x2 e1) (lx_filter hts hR) rfl hsize rfl hr hf hdg (fun H1 locs1 q ce hW1 h1 h2 h3 => K H1 locs1 q ce ⟨⟨I1, R, P, hW1.1, hC.sc e2, hO, hA⟩, hW1.2⟩ h1 h2 h3)
theorem lw_letter (ht : ∀ w ∈ GT, w.before args s = true) (hR : rmX8_letter.frames + 1 ≤ Rm.frames ∧ 8 + (4 + 11) + rmX8_letter.locals ≤ Rm.locals) : CallW Rm s args RL RX8 75 yX8_letter cX8_letter 4 (some .int) (Cond.code yX8_letter cX8_letter 4 (some .int) :: GT) rmX8_letter 0 0 2 := cwV 2 ht (goodV wl95 wl97 wl98 wd76 wl96) rfl rfl rfl ⟨rfl, by decide +kernel, by decide +kernel, by decide +kernel⟩ hR
theorem lx_letter (ht : ∀ w ∈ GT, w.before args s = true) (hR : rmxX8_letter.frames + 1 ≤ Rm.frames ∧ 8 + (4 + 11) + rmxX8_letter.locals ≤ Rm.locals) : CallW Rm s args RL RX8 75 yX8_letter cX8_letter 4 (some .int) (Cond.code yX8_letter cX8_letter 4 (some .int) :: GT) rmxX8_letter 1 6 2 := cwV 2 ht (goodV wl95 wl97 wl98 wd76 wl96) rfl rfl rfl ⟨rfl, by decide +kernel, by decide +kernel, by decide +kernel⟩ hR
theorem ar_letter (C0 : CX g p s m args meth c RL cc nL ret) (hsize : ls.size = nL) (hW : WA g σ b Z s.heap H locs) {x1 x2 : Int32} {v : Int32} (hop : opLetter σ.1 x1 x2 = .inl v) (hR : rmX8_letter.frames + 1 ≤ Rm.frames ∧ 8 + (4 + 11) + rmX8_letter.locals ≤ Rm.locals) (hr : (rest.map fun v => v.category).sum ≤ 8) (hf : cells + 0 ≤ Rm.cells ∧ slots + 0 ≤ Rm.slots) (hdg : decode cc pc = .ok (.invokevirtual 75, 3))
    (K : ∀ (H1 : Heap) (locs1 : List Loc), WA g σ b Z s.heap H1 locs1 → W p l e Rm s m args below meth c H1 locs1 (cells + 0) (slots + 0) Q (F0 m (pc + 3) ls (.int v :: rest))) : W p l e Rm s m args below meth c H locs cells slots Q (F0 m pc ls (.int x2 :: .int x1 :: .ref (g.2.2.1 + 0) :: rest)) := by
  have hts := C0.2.2.2.2.2.1
  obtain ⟨⟨I, R, P, hH, hC, hO, hA⟩, hS⟩ := hW
  obtain ⟨I1, e1, e2⟩ := m_letter (x1 := x1) (x2 := x2) hC.1 hO.1
  rw [hop] at e1
  exact aw_cVi (rest := rest) C0 ⟨hH, hS⟩ (lv_fix (by decide)) (cel_7 kd0) rfl (c_X8_letter x1 x2 e1) (lw_letter hts hR) rfl hsize rfl hr hf hdg (fun H1 locs1 hW1 => K H1 locs1 ⟨⟨I1, R, P, hW1.1, hC.sc e2, hO, hA⟩, hW1.2⟩)
theorem ax_letter (hfl : l.stackTraces = false) (C0 : CX g p s m args meth c RL cc nL ret) (hsize : ls.size = nL) (hW : WA g σ b Z s.heap H locs) {x1 x2 : Int32} {v : Nat} (hop : opLetter σ.1 x1 x2 = .inr v) (hR : rmxX8_letter.frames + 1 ≤ Rm.frames ∧ 8 + (4 + 11) + rmxX8_letter.locals ≤ Rm.locals) (hr : (rest.map fun v => v.category).sum ≤ 8) (hf : cells + 1 ≤ Rm.cells ∧ slots + 6 ≤ Rm.slots) (hdg : decode cc pc = .ok (.invokevirtual 75, 3))
    (K : ∀ (H1 : Heap) (locs1 : List Loc) (q : Addr) (ce : Cell), WA g σ b Z s.heap H1 locs1 → H1[q]? = some ce → ce.vm = .none → s.vm.findClass (exn v) = some ce.cls → vx_W p l e Rm s m args below meth c H1 locs1 (cells + 1) (slots + 6) Q (F0 m pc ls rest) q) : W p l e Rm s m args below meth c H locs cells slots Q (F0 m pc ls (.int x2 :: .int x1 :: .ref (g.2.2.1 + 0) :: rest)) := by
  have hts := C0.2.2.2.2.2.1
  obtain ⟨⟨I, R, P, hH, hC, hO, hA⟩, hS⟩ := hW
  obtain ⟨I1, e1, e2⟩ := m_letter (x1 := x1) (x2 := x2) hC.1 hO.1
  rw [hop] at e1
  exact aw_xCt (rest := rest) C0 ⟨hH, hS⟩ (lv_fix (by decide)) (cel_7 kd0) rfl (x_X8_letter hfl x1 x2 e1) (lx_letter hts hR) rfl hsize rfl hr hf hdg (fun H1 locs1 q ce hW1 h1 h2 h3 => K H1 locs1 q ce ⟨⟨I1, R, P, hW1.1, hC.sc e2, hO, hA⟩, hW1.2⟩ h1 h2 h3)
theorem lw_compare (ht : ∀ w ∈ GT, w.before args s = true) (hR : rmX8_compare.frames + 1 ≤ Rm.frames ∧ 8 + (9 + 11) + rmX8_compare.locals ≤ Rm.locals) : CallW Rm s args RL RX8 78 yX8_compare cX8_compare 9 (some .int) (Cond.code yX8_compare cX8_compare 9 (some .int) :: GT) rmX8_compare 0 0 4 := cwV 4 ht (goodV wl99 wl101 wl102 wd76 wl100) rfl rfl rfl ⟨rfl, by decide +kernel, by decide +kernel, by decide +kernel⟩ hR
theorem lx_compare (ht : ∀ w ∈ GT, w.before args s = true) (hR : rmxX8_compare.frames + 1 ≤ Rm.frames ∧ 8 + (9 + 11) + rmxX8_compare.locals ≤ Rm.locals) : CallW Rm s args RL RX8 78 yX8_compare cX8_compare 9 (some .int) (Cond.code yX8_compare cX8_compare 9 (some .int) :: GT) rmxX8_compare 1 6 4 := cwV 4 ht (goodV wl99 wl101 wl102 wd76 wl100) rfl rfl rfl ⟨rfl, by decide +kernel, by decide +kernel, by decide +kernel⟩ hR
theorem ar_compare (C0 : CX g p s m args meth c RL cc nL ret) (hsize : ls.size = nL) (hW : WA g σ b Z s.heap H locs) {x1 x2 x3 x4 : Int32} {v : Int32} (hop : opCompare σ.1 x1 x2 x3 x4 = .inl v) (hR : rmX8_compare.frames + 1 ≤ Rm.frames ∧ 8 + (9 + 11) + rmX8_compare.locals ≤ Rm.locals) (hr : (rest.map fun v => v.category).sum ≤ 8) (hf : cells + 0 ≤ Rm.cells ∧ slots + 0 ≤ Rm.slots) (hdg : decode cc pc = .ok (.invokevirtual 78, 3))
    (K : ∀ (H1 : Heap) (locs1 : List Loc), WA g σ b Z s.heap H1 locs1 → W p l e Rm s m args below meth c H1 locs1 (cells + 0) (slots + 0) Q (F0 m (pc + 3) ls (.int v :: rest))) : W p l e Rm s m args below meth c H locs cells slots Q (F0 m pc ls (.int x4 :: .int x3 :: .int x2 :: .int x1 :: .ref (g.2.2.1 + 0) :: rest)) := by
  have hts := C0.2.2.2.2.2.1
  obtain ⟨⟨I, R, P, hH, hC, hO, hA⟩, hS⟩ := hW
  obtain ⟨I1, e1, e2⟩ := m_compare (x1 := x1) (x2 := x2) (x3 := x3) (x4 := x4) hC.1 hO.1
  rw [hop] at e1
  exact aw_cVi (rest := rest) C0 ⟨hH, hS⟩ (lv_fix (by decide)) (cel_7 kd0) rfl (c_X8_compare x1 x2 x3 x4 e1) (lw_compare hts hR) rfl hsize rfl hr hf hdg (fun H1 locs1 hW1 => K H1 locs1 ⟨⟨I1, R, P, hW1.1, hC.sc e2, hO, hA⟩, hW1.2⟩)
theorem ax_compare (hfl : l.stackTraces = false) (C0 : CX g p s m args meth c RL cc nL ret) (hsize : ls.size = nL) (hW : WA g σ b Z s.heap H locs) {x1 x2 x3 x4 : Int32} {v : Nat} (hop : opCompare σ.1 x1 x2 x3 x4 = .inr v) (hR : rmxX8_compare.frames + 1 ≤ Rm.frames ∧ 8 + (9 + 11) + rmxX8_compare.locals ≤ Rm.locals) (hr : (rest.map fun v => v.category).sum ≤ 8) (hf : cells + 1 ≤ Rm.cells ∧ slots + 6 ≤ Rm.slots) (hdg : decode cc pc = .ok (.invokevirtual 78, 3))
    (K : ∀ (H1 : Heap) (locs1 : List Loc) (q : Addr) (ce : Cell), WA g σ b Z s.heap H1 locs1 → H1[q]? = some ce → ce.vm = .none → s.vm.findClass (exn v) = some ce.cls → vx_W p l e Rm s m args below meth c H1 locs1 (cells + 1) (slots + 6) Q (F0 m pc ls rest) q) : W p l e Rm s m args below meth c H locs cells slots Q (F0 m pc ls (.int x4 :: .int x3 :: .int x2 :: .int x1 :: .ref (g.2.2.1 + 0) :: rest)) := by
  have hts := C0.2.2.2.2.2.1
  obtain ⟨⟨I, R, P, hH, hC, hO, hA⟩, hS⟩ := hW
  obtain ⟨I1, e1, e2⟩ := m_compare (x1 := x1) (x2 := x2) (x3 := x3) (x4 := x4) hC.1 hO.1
  rw [hop] at e1
  exact aw_xCt (rest := rest) C0 ⟨hH, hS⟩ (lv_fix (by decide)) (cel_7 kd0) rfl (x_X8_compare hfl x1 x2 x3 x4 e1) (lx_compare hts hR) rfl hsize rfl hr hf hdg (fun H1 locs1 q ce hW1 h1 h2 h3 => K H1 locs1 q ce ⟨⟨I1, R, P, hW1.1, hC.sc e2, hO, hA⟩, hW1.2⟩ h1 h2 h3)
theorem lw_certain (ht : ∀ w ∈ GT, w.before args s = true) (hR : rmX8_certain.frames + 1 ≤ Rm.frames ∧ 8 + (7 + 11) + rmX8_certain.locals ≤ Rm.locals) : CallW Rm s args RL RX8 81 yX8_certain cX8_certain 7 (some .int) (Cond.code yX8_certain cX8_certain 7 (some .int) :: GT) rmX8_certain 0 0 3 := cwV 3 ht (goodV wl103 wl105 wl106 wd76 wl104) rfl rfl rfl ⟨rfl, by decide +kernel, by decide +kernel, by decide +kernel⟩ hR
theorem lx_certain (ht : ∀ w ∈ GT, w.before args s = true) (hR : rmxX8_certain.frames + 1 ≤ Rm.frames ∧ 8 + (7 + 11) + rmxX8_certain.locals ≤ Rm.locals) : CallW Rm s args RL RX8 81 yX8_certain cX8_certain 7 (some .int) (Cond.code yX8_certain cX8_certain 7 (some .int) :: GT) rmxX8_certain 1 6 3 := cwV 3 ht (goodV wl103 wl105 wl106 wd76 wl104) rfl rfl rfl ⟨rfl, by decide +kernel, by decide +kernel, by decide +kernel⟩ hR
theorem ar_certain (C0 : CX g p s m args meth c RL cc nL ret) (hsize : ls.size = nL) (hW : WA g σ b Z s.heap H locs) {x1 x2 x3 : Int32} {v : Int32} (hop : opCertain σ.1 x1 x2 x3 = .inl v) (hR : rmX8_certain.frames + 1 ≤ Rm.frames ∧ 8 + (7 + 11) + rmX8_certain.locals ≤ Rm.locals) (hr : (rest.map fun v => v.category).sum ≤ 8) (hf : cells + 0 ≤ Rm.cells ∧ slots + 0 ≤ Rm.slots) (hdg : decode cc pc = .ok (.invokevirtual 81, 3))
    (K : ∀ (H1 : Heap) (locs1 : List Loc), WA g σ b Z s.heap H1 locs1 → W p l e Rm s m args below meth c H1 locs1 (cells + 0) (slots + 0) Q (F0 m (pc + 3) ls (.int v :: rest))) : W p l e Rm s m args below meth c H locs cells slots Q (F0 m pc ls (.int x3 :: .int x2 :: .int x1 :: .ref (g.2.2.1 + 0) :: rest)) := by
  have hts := C0.2.2.2.2.2.1
  obtain ⟨⟨I, R, P, hH, hC, hO, hA⟩, hS⟩ := hW
  obtain ⟨I1, e1, e2⟩ := m_certain (x1 := x1) (x2 := x2) (x3 := x3) hC.1 hO.1
  rw [hop] at e1
  exact aw_cVi (rest := rest) C0 ⟨hH, hS⟩ (lv_fix (by decide)) (cel_7 kd0) rfl (c_X8_certain x1 x2 x3 e1) (lw_certain hts hR) rfl hsize rfl hr hf hdg (fun H1 locs1 hW1 => K H1 locs1 ⟨⟨I1, R, P, hW1.1, hC.sc e2, hO, hA⟩, hW1.2⟩)
theorem ax_certain (hfl : l.stackTraces = false) (C0 : CX g p s m args meth c RL cc nL ret) (hsize : ls.size = nL) (hW : WA g σ b Z s.heap H locs) {x1 x2 x3 : Int32} {v : Nat} (hop : opCertain σ.1 x1 x2 x3 = .inr v) (hR : rmxX8_certain.frames + 1 ≤ Rm.frames ∧ 8 + (7 + 11) + rmxX8_certain.locals ≤ Rm.locals) (hr : (rest.map fun v => v.category).sum ≤ 8) (hf : cells + 1 ≤ Rm.cells ∧ slots + 6 ≤ Rm.slots) (hdg : decode cc pc = .ok (.invokevirtual 81, 3))
    (K : ∀ (H1 : Heap) (locs1 : List Loc) (q : Addr) (ce : Cell), WA g σ b Z s.heap H1 locs1 → H1[q]? = some ce → ce.vm = .none → s.vm.findClass (exn v) = some ce.cls → vx_W p l e Rm s m args below meth c H1 locs1 (cells + 1) (slots + 6) Q (F0 m pc ls rest) q) : W p l e Rm s m args below meth c H locs cells slots Q (F0 m pc ls (.int x3 :: .int x2 :: .int x1 :: .ref (g.2.2.1 + 0) :: rest)) := by
  have hts := C0.2.2.2.2.2.1
  obtain ⟨⟨I, R, P, hH, hC, hO, hA⟩, hS⟩ := hW
  obtain ⟨I1, e1, e2⟩ := m_certain (x1 := x1) (x2 := x2) (x3 := x3) hC.1 hO.1
  rw [hop] at e1
  exact aw_xCt (rest := rest) C0 ⟨hH, hS⟩ (lv_fix (by decide)) (cel_7 kd0) rfl (x_X8_certain hfl x1 x2 x3 e1) (lx_certain hts hR) rfl hsize rfl hr hf hdg (fun H1 locs1 q ce hW1 h1 h2 h3 => K H1 locs1 q ce ⟨⟨I1, R, P, hW1.1, hC.sc e2, hO, hA⟩, hW1.2⟩ h1 h2 h3)
theorem lw_join (ht : ∀ w ∈ GT, w.before args s = true) (hR : rmX8_join.frames + 1 ≤ Rm.frames ∧ 8 + (4 + 11) + rmX8_join.locals ≤ Rm.locals) : CallW Rm s args RL RX8 84 yX8_join cX8_join 4 (some .int) (Cond.code yX8_join cX8_join 4 (some .int) :: GT) rmX8_join 0 0 3 := cwV 3 ht (goodV wl107 wl109 wl110 wd76 wl108) rfl rfl rfl ⟨rfl, by decide +kernel, by decide +kernel, by decide +kernel⟩ hR
theorem lx_join (ht : ∀ w ∈ GT, w.before args s = true) (hR : rmxX8_join.frames + 1 ≤ Rm.frames ∧ 8 + (4 + 11) + rmxX8_join.locals ≤ Rm.locals) : CallW Rm s args RL RX8 84 yX8_join cX8_join 4 (some .int) (Cond.code yX8_join cX8_join 4 (some .int) :: GT) rmxX8_join 1 6 3 := cwV 3 ht (goodV wl107 wl109 wl110 wd76 wl108) rfl rfl rfl ⟨rfl, by decide +kernel, by decide +kernel, by decide +kernel⟩ hR
theorem ar_join (C0 : CX g p s m args meth c RL cc nL ret) (hsize : ls.size = nL) (hW : WA g σ b Z s.heap H locs) {x1 x2 x3 : Int32} {v : Int32} (hop : opJoin σ.1 x1 x2 x3 = .inl v) (hR : rmX8_join.frames + 1 ≤ Rm.frames ∧ 8 + (4 + 11) + rmX8_join.locals ≤ Rm.locals) (hr : (rest.map fun v => v.category).sum ≤ 8) (hf : cells + 0 ≤ Rm.cells ∧ slots + 0 ≤ Rm.slots) (hdg : decode cc pc = .ok (.invokevirtual 84, 3))
    (K : ∀ (H1 : Heap) (locs1 : List Loc), WA g σ b Z s.heap H1 locs1 → W p l e Rm s m args below meth c H1 locs1 (cells + 0) (slots + 0) Q (F0 m (pc + 3) ls (.int v :: rest))) : W p l e Rm s m args below meth c H locs cells slots Q (F0 m pc ls (.int x3 :: .int x2 :: .int x1 :: .ref (g.2.2.1 + 0) :: rest)) := by
  have hts := C0.2.2.2.2.2.1
  obtain ⟨⟨I, R, P, hH, hC, hO, hA⟩, hS⟩ := hW
  have e1 := m_join (x1 := x1) (x2 := x2) (x3 := x3) hC.1 hO.1
  rw [hop] at e1
  exact aw_cVi (rest := rest) C0 ⟨hH, hS⟩ (lv_fix (by decide)) (cel_7 kd0) rfl (c_X8_join x1 x2 x3 e1) (lw_join hts hR) rfl hsize rfl hr hf hdg (fun H1 locs1 hW1 => K H1 locs1 ⟨⟨I, R, P, hW1.1, hC, hO, hA⟩, hW1.2⟩)
theorem ax_join (hfl : l.stackTraces = false) (C0 : CX g p s m args meth c RL cc nL ret) (hsize : ls.size = nL) (hW : WA g σ b Z s.heap H locs) {x1 x2 x3 : Int32} {v : Nat} (hop : opJoin σ.1 x1 x2 x3 = .inr v) (hR : rmxX8_join.frames + 1 ≤ Rm.frames ∧ 8 + (4 + 11) + rmxX8_join.locals ≤ Rm.locals) (hr : (rest.map fun v => v.category).sum ≤ 8) (hf : cells + 1 ≤ Rm.cells ∧ slots + 6 ≤ Rm.slots) (hdg : decode cc pc = .ok (.invokevirtual 84, 3))
    (K : ∀ (H1 : Heap) (locs1 : List Loc) (q : Addr) (ce : Cell), WA g σ b Z s.heap H1 locs1 → H1[q]? = some ce → ce.vm = .none → s.vm.findClass (exn v) = some ce.cls → vx_W p l e Rm s m args below meth c H1 locs1 (cells + 1) (slots + 6) Q (F0 m pc ls rest) q) : W p l e Rm s m args below meth c H locs cells slots Q (F0 m pc ls (.int x3 :: .int x2 :: .int x1 :: .ref (g.2.2.1 + 0) :: rest)) := by
  have hts := C0.2.2.2.2.2.1
  obtain ⟨⟨I, R, P, hH, hC, hO, hA⟩, hS⟩ := hW
  have e1 := m_join (x1 := x1) (x2 := x2) (x3 := x3) hC.1 hO.1
  rw [hop] at e1
  exact aw_xCt (rest := rest) C0 ⟨hH, hS⟩ (lv_fix (by decide)) (cel_7 kd0) rfl (x_X8_join hfl x1 x2 x3 e1) (lx_join hts hR) rfl hsize rfl hr hf hdg (fun H1 locs1 q ce hW1 h1 h2 h3 => K H1 locs1 q ce ⟨⟨I, R, P, hW1.1, hC, hO, hA⟩, hW1.2⟩ h1 h2 h3)
theorem lw_among (ht : ∀ w ∈ GT, w.before args s = true) (hR : rmX8_among.frames + 1 ≤ Rm.frames ∧ 8 + (8 + 11) + rmX8_among.locals ≤ Rm.locals) : CallW Rm s args RL RX8 87 yX8_among cX8_among 8 (some .int) (Cond.code yX8_among cX8_among 8 (some .int) :: GT) rmX8_among 0 0 3 := cwV 3 ht (goodV wl111 wl113 wl114 wd76 wl112) rfl rfl rfl ⟨rfl, by decide +kernel, by decide +kernel, by decide +kernel⟩ hR
theorem lx_among (ht : ∀ w ∈ GT, w.before args s = true) (hR : rmxX8_among.frames + 1 ≤ Rm.frames ∧ 8 + (8 + 11) + rmxX8_among.locals ≤ Rm.locals) : CallW Rm s args RL RX8 87 yX8_among cX8_among 8 (some .int) (Cond.code yX8_among cX8_among 8 (some .int) :: GT) rmxX8_among 1 6 3 := cwV 3 ht (goodV wl111 wl113 wl114 wd76 wl112) rfl rfl rfl ⟨rfl, by decide +kernel, by decide +kernel, by decide +kernel⟩ hR
theorem ar_among (C0 : CX g p s m args meth c RL cc nL ret) (hsize : ls.size = nL) (hW : WA g σ b Z s.heap H locs) {x1 x2 x3 : Int32} {v : Int32} (hop : opAmong σ.1 x1 x2 x3 = .inl v) (hR : rmX8_among.frames + 1 ≤ Rm.frames ∧ 8 + (8 + 11) + rmX8_among.locals ≤ Rm.locals) (hr : (rest.map fun v => v.category).sum ≤ 8) (hf : cells + 0 ≤ Rm.cells ∧ slots + 0 ≤ Rm.slots) (hdg : decode cc pc = .ok (.invokevirtual 87, 3))
    (K : ∀ (H1 : Heap) (locs1 : List Loc), WA g σ b Z s.heap H1 locs1 → W p l e Rm s m args below meth c H1 locs1 (cells + 0) (slots + 0) Q (F0 m (pc + 3) ls (.int v :: rest))) : W p l e Rm s m args below meth c H locs cells slots Q (F0 m pc ls (.int x3 :: .int x2 :: .int x1 :: .ref (g.2.2.1 + 0) :: rest)) := by
  have hts := C0.2.2.2.2.2.1
  obtain ⟨⟨I, R, P, hH, hC, hO, hA⟩, hS⟩ := hW
  have e1 := m_among (x1 := x1) (x2 := x2) (x3 := x3) hC.1 hO.1
  rw [hop] at e1
  exact aw_cVi (rest := rest) C0 ⟨hH, hS⟩ (lv_fix (by decide)) (cel_7 kd0) rfl (c_X8_among x1 x2 x3 e1) (lw_among hts hR) rfl hsize rfl hr hf hdg (fun H1 locs1 hW1 => K H1 locs1 ⟨⟨I, R, P, hW1.1, hC, hO, hA⟩, hW1.2⟩)
theorem ax_among (hfl : l.stackTraces = false) (C0 : CX g p s m args meth c RL cc nL ret) (hsize : ls.size = nL) (hW : WA g σ b Z s.heap H locs) {x1 x2 x3 : Int32} {v : Nat} (hop : opAmong σ.1 x1 x2 x3 = .inr v) (hR : rmxX8_among.frames + 1 ≤ Rm.frames ∧ 8 + (8 + 11) + rmxX8_among.locals ≤ Rm.locals) (hr : (rest.map fun v => v.category).sum ≤ 8) (hf : cells + 1 ≤ Rm.cells ∧ slots + 6 ≤ Rm.slots) (hdg : decode cc pc = .ok (.invokevirtual 87, 3))
    (K : ∀ (H1 : Heap) (locs1 : List Loc) (q : Addr) (ce : Cell), WA g σ b Z s.heap H1 locs1 → H1[q]? = some ce → ce.vm = .none → s.vm.findClass (exn v) = some ce.cls → vx_W p l e Rm s m args below meth c H1 locs1 (cells + 1) (slots + 6) Q (F0 m pc ls rest) q) : W p l e Rm s m args below meth c H locs cells slots Q (F0 m pc ls (.int x3 :: .int x2 :: .int x1 :: .ref (g.2.2.1 + 0) :: rest)) := by
  have hts := C0.2.2.2.2.2.1
  obtain ⟨⟨I, R, P, hH, hC, hO, hA⟩, hS⟩ := hW
  have e1 := m_among (x1 := x1) (x2 := x2) (x3 := x3) hC.1 hO.1
  rw [hop] at e1
  exact aw_xCt (rest := rest) C0 ⟨hH, hS⟩ (lv_fix (by decide)) (cel_7 kd0) rfl (x_X8_among hfl x1 x2 x3 e1) (lx_among hts hR) rfl hsize rfl hr hf hdg (fun H1 locs1 q ce hW1 h1 h2 h3 => K H1 locs1 q ce ⟨⟨I, R, P, hW1.1, hC, hO, hA⟩, hW1.2⟩ h1 h2 h3)
theorem lw_count (ht : ∀ w ∈ GT, w.before args s = true) (hR : rmX8_count.frames + 1 ≤ Rm.frames ∧ 8 + (2 + 11) + rmX8_count.locals ≤ Rm.locals) : CallW Rm s args RL RX8 90 yX8_count cX8_count 2 (some .int) (Cond.code yX8_count cX8_count 2 (some .int) :: GT) rmX8_count 0 0 1 := cwV 1 ht (goodV wl20 wl22 wl23 wd76 wl21) rfl rfl rfl ⟨rfl, by decide +kernel, by decide +kernel, by decide +kernel⟩ hR
theorem lx_count (ht : ∀ w ∈ GT, w.before args s = true) (hR : rmxX8_count.frames + 1 ≤ Rm.frames ∧ 8 + (2 + 11) + rmxX8_count.locals ≤ Rm.locals) : CallW Rm s args RL RX8 90 yX8_count cX8_count 2 (some .int) (Cond.code yX8_count cX8_count 2 (some .int) :: GT) rmxX8_count 1 6 1 := cwV 1 ht (goodV wl20 wl22 wl23 wd76 wl21) rfl rfl rfl ⟨rfl, by decide +kernel, by decide +kernel, by decide +kernel⟩ hR
theorem ar_count (C0 : CX g p s m args meth c RL cc nL ret) (hsize : ls.size = nL) (hW : WA g σ b Z s.heap H locs) {x1 : Int32} {v : Int32} (hop : opCount σ x1 = .inl v) (hR : rmX8_count.frames + 1 ≤ Rm.frames ∧ 8 + (2 + 11) + rmX8_count.locals ≤ Rm.locals) (hr : (rest.map fun v => v.category).sum ≤ 8) (hf : cells + 0 ≤ Rm.cells ∧ slots + 0 ≤ Rm.slots) (hdg : decode cc pc = .ok (.invokevirtual 90, 3))
    (K : ∀ (H1 : Heap) (locs1 : List Loc), WA g σ b Z s.heap H1 locs1 → W p l e Rm s m args below meth c H1 locs1 (cells + 0) (slots + 0) Q (F0 m (pc + 3) ls (.int v :: rest))) : W p l e Rm s m args below meth c H locs cells slots Q (F0 m pc ls (.int x1 :: .ref (g.2.2.1 + 0) :: rest)) := by
  have hts := C0.2.2.2.2.2.1
  obtain ⟨⟨I, R, P, hH, hC, hO, hA⟩, hS⟩ := hW
  obtain ⟨I1, e1, e2⟩ := m_count (x1 := x1) hC hO.1
  rw [hop] at e1
  exact aw_cVi (rest := rest) C0 ⟨hH, hS⟩ (lv_fix (by decide)) (cel_7 kd0) rfl (c_X8_count x1 e1) (lw_count hts hR) rfl hsize rfl hr hf hdg (fun H1 locs1 hW1 => K H1 locs1 ⟨⟨I1, R, P, hW1.1, hC.sc e2, hO, hA⟩, hW1.2⟩)
theorem ax_count (hfl : l.stackTraces = false) (C0 : CX g p s m args meth c RL cc nL ret) (hsize : ls.size = nL) (hW : WA g σ b Z s.heap H locs) {x1 : Int32} {v : Nat} (hop : opCount σ x1 = .inr v) (hR : rmxX8_count.frames + 1 ≤ Rm.frames ∧ 8 + (2 + 11) + rmxX8_count.locals ≤ Rm.locals) (hr : (rest.map fun v => v.category).sum ≤ 8) (hf : cells + 1 ≤ Rm.cells ∧ slots + 6 ≤ Rm.slots) (hdg : decode cc pc = .ok (.invokevirtual 90, 3))
    (K : ∀ (H1 : Heap) (locs1 : List Loc) (q : Addr) (ce : Cell), WA g σ b Z s.heap H1 locs1 → H1[q]? = some ce → ce.vm = .none → s.vm.findClass (exn v) = some ce.cls → vx_W p l e Rm s m args below meth c H1 locs1 (cells + 1) (slots + 6) Q (F0 m pc ls rest) q) : W p l e Rm s m args below meth c H locs cells slots Q (F0 m pc ls (.int x1 :: .ref (g.2.2.1 + 0) :: rest)) := by
  have hts := C0.2.2.2.2.2.1
  obtain ⟨⟨I, R, P, hH, hC, hO, hA⟩, hS⟩ := hW
  obtain ⟨I1, e1, e2⟩ := m_count (x1 := x1) hC hO.1
  rw [hop] at e1
  exact aw_xCt (rest := rest) C0 ⟨hH, hS⟩ (lv_fix (by decide)) (cel_7 kd0) rfl (x_X8_count hfl x1 e1) (lx_count hts hR) rfl hsize rfl hr hf hdg (fun H1 locs1 q ce hW1 h1 h2 h3 => K H1 locs1 q ce ⟨⟨I1, R, P, hW1.1, hC.sc e2, hO, hA⟩, hW1.2⟩ h1 h2 h3)
theorem lw_share (ht : ∀ w ∈ GT, w.before args s = true) (hR : rmX8_share.frames + 1 ≤ Rm.frames ∧ 8 + (4 + 11) + rmX8_share.locals ≤ Rm.locals) : CallW Rm s args RL RX8 93 yX8_share cX8_share 4 (some .double) (Cond.code yX8_share cX8_share 4 (some .double) :: GT) rmX8_share 0 0 2 := cwV 2 ht (goodV wl115 wl117 wl118 wd76 wl116) rfl rfl rfl ⟨rfl, by decide +kernel, by decide +kernel, by decide +kernel⟩ hR
theorem lx_share (ht : ∀ w ∈ GT, w.before args s = true) (hR : rmxX8_share.frames + 1 ≤ Rm.frames ∧ 8 + (4 + 11) + rmxX8_share.locals ≤ Rm.locals) : CallW Rm s args RL RX8 93 yX8_share cX8_share 4 (some .double) (Cond.code yX8_share cX8_share 4 (some .double) :: GT) rmxX8_share 1 6 2 := cwV 2 ht (goodV wl115 wl117 wl118 wd76 wl116) rfl rfl rfl ⟨rfl, by decide +kernel, by decide +kernel, by decide +kernel⟩ hR
theorem ar_share (C0 : CX g p s m args meth c RL cc nL ret) (hsize : ls.size = nL) (hW : WA g σ b Z s.heap H locs) {x1 x2 : Int32} {v : UInt64} (hop : opShare σ.1 x1 x2 = .inl v) (hR : rmX8_share.frames + 1 ≤ Rm.frames ∧ 8 + (4 + 11) + rmX8_share.locals ≤ Rm.locals) (hr : (rest.map fun v => v.category).sum ≤ 8) (hf : cells + 0 ≤ Rm.cells ∧ slots + 0 ≤ Rm.slots) (hdg : decode cc pc = .ok (.invokevirtual 93, 3))
    (K : ∀ (H1 : Heap) (locs1 : List Loc), WA g σ b Z s.heap H1 locs1 → W p l e Rm s m args below meth c H1 locs1 (cells + 0) (slots + 0) Q (F0 m (pc + 3) ls (.double v :: rest))) : W p l e Rm s m args below meth c H locs cells slots Q (F0 m pc ls (.int x2 :: .int x1 :: .ref (g.2.2.1 + 0) :: rest)) := by
  have hts := C0.2.2.2.2.2.1
  obtain ⟨⟨I, R, P, hH, hC, hO, hA⟩, hS⟩ := hW
  obtain ⟨I1, e1, e2⟩ := m_share (x1 := x1) (x2 := x2) hC.1 hO.1
  rw [hop] at e1
  exact aw_cVd (rest := rest) C0 ⟨hH, hS⟩ (lv_fix (by decide)) (cel_7 kd0) rfl (c_X8_share x1 x2 e1) (lw_share hts hR) rfl hsize rfl hr hf hdg (fun H1 locs1 hW1 => K H1 locs1 ⟨⟨I1, R, P, hW1.1, hC.sc e2, hO, hA⟩, hW1.2⟩)
theorem ax_share (hfl : l.stackTraces = false) (C0 : CX g p s m args meth c RL cc nL ret) (hsize : ls.size = nL) (hW : WA g σ b Z s.heap H locs) {x1 x2 : Int32} {v : Nat} (hop : opShare σ.1 x1 x2 = .inr v) (hR : rmxX8_share.frames + 1 ≤ Rm.frames ∧ 8 + (4 + 11) + rmxX8_share.locals ≤ Rm.locals) (hr : (rest.map fun v => v.category).sum ≤ 8) (hf : cells + 1 ≤ Rm.cells ∧ slots + 6 ≤ Rm.slots) (hdg : decode cc pc = .ok (.invokevirtual 93, 3))
    (K : ∀ (H1 : Heap) (locs1 : List Loc) (q : Addr) (ce : Cell), WA g σ b Z s.heap H1 locs1 → H1[q]? = some ce → ce.vm = .none → s.vm.findClass (exn v) = some ce.cls → vx_W p l e Rm s m args below meth c H1 locs1 (cells + 1) (slots + 6) Q (F0 m pc ls rest) q) : W p l e Rm s m args below meth c H locs cells slots Q (F0 m pc ls (.int x2 :: .int x1 :: .ref (g.2.2.1 + 0) :: rest)) := by
  have hts := C0.2.2.2.2.2.1
  obtain ⟨⟨I, R, P, hH, hC, hO, hA⟩, hS⟩ := hW
  obtain ⟨I1, e1, e2⟩ := m_share (x1 := x1) (x2 := x2) hC.1 hO.1
  rw [hop] at e1
  exact aw_xCt (rest := rest) C0 ⟨hH, hS⟩ (lv_fix (by decide)) (cel_7 kd0) rfl (x_X8_share hfl x1 x2 e1) (lx_share hts hR) rfl hsize rfl hr hf hdg (fun H1 locs1 q ce hW1 h1 h2 h3 => K H1 locs1 q ce ⟨⟨I1, R, P, hW1.1, hC.sc e2, hO, hA⟩, hW1.2⟩ h1 h2 h3)
end ARX
