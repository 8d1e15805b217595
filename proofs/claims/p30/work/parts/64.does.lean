/-! PURE PART 45: what the calls that change something answer and do. -/
section MB64
def opAdd (σ : Gst) (x1 x2 x3 x4 x5 : Int32) : (Int32 ⊕ Nat) × Gst := if ixb 2 x1 = true then (if (cvb x2 && cvb x3 && cvb x4 && cvb x5) = true then (if σ.1.1 (vN x1) = 16 then (.inr 2, σ) else (.inl (addV σ.1 (vN x1) (row4 x2 x3 x4 x5)), addA σ.1 (vN x1) (row4 x2 x3 x4 x5), svd σ.2.1 σ.1, σ.2.2)) else (.inr 1, σ)) else (.inr 0, σ)
theorem m_add {I : Mem} {R : Rem} {P : Pool} {σ : Gst} {x1 x2 x3 x4 x5 : Int32} (hC : CI I R P σ) (hO : GOk σ) : ∃ I' R', f_X8_add x1 x2 x3 x4 x5 P R I = some ((opAdd σ x1 x2 x3 x4 x5).1, I', R') ∧ CI I' R' P (opAdd σ x1 x2 x3 x4 x5).2 ∧ GOk (opAdd σ x1 x2 x3 x4 x5).2 := by
  have hA := hO.1
  unfold opAdd
  rcases a_tab x1 with ⟨t, ht, rfl, e0, b0, v0⟩ | ⟨e0, b0⟩
  rotate_left
  · rw [b0]; exact ⟨I, R, by unfold f_X8_add; rw [bs_r e0]; rfl, hC, hO⟩
  rw [if_pos b0, v0]
  rcases a_val x2 with ⟨hv1, e1, b1⟩ | ⟨e1, b1⟩
  rotate_left
  · rw [b1]; exact ⟨I, R, by unfold f_X8_add; rw [bs_l e0, bs_r e1]; rfl, hC, hO⟩
  rcases a_val x3 with ⟨hv2, e2, b2⟩ | ⟨e2, b2⟩
  rotate_left
  · rw [b1, b2]; exact ⟨I, R, by unfold f_X8_add; rw [bs_l e0, bs_l e1, bs_r e2]; rfl, hC, hO⟩
  rcases a_val x4 with ⟨hv3, e3, b3⟩ | ⟨e3, b3⟩
  rotate_left
  · rw [b1, b2, b3]; exact ⟨I, R, by unfold f_X8_add; rw [bs_l e0, bs_l e1, bs_l e2, bs_r e3]; rfl, hC, hO⟩
  rcases a_val x5 with ⟨hv4, e4, b4⟩ | ⟨e4, b4⟩
  rotate_left
  · rw [b1, b2, b3, b4]; exact ⟨I, R, by unfold f_X8_add; rw [bs_l e0, bs_l e1, bs_l e2, bs_l e3, bs_r e4]; rfl, hC, hO⟩
  rw [b1, b2, b3, b4, if_pos (show (true && true && true && true) = true from rfl)]
  obtain ⟨N, S, X⟩ := σ
  have hA : AOk N := hA
  have h16 := hA.1 t ht
  have cn := k_cnt hC.1 ht
  by_cases hfull : N.1 t = 16
  · have cn : rd I 3 2 (nI t) = some 16 := by rw [cn]; exact congrArg (fun z => some (nI z)) hfull
    rw [if_pos hfull]
    exact ⟨I, R, by unfold f_X8_add; rw [bs_l e0, bs_l e1, bs_l e2, bs_l e3, bs_l e4, bs_b cn]; rfl, hC, hO⟩
  · have hn : N.1 t < 16 := by omega
    rw [if_neg hfull]
    obtain ⟨I1, R1, g1, g2, g3⟩ := k_add hC hA ht hn e0 e1 e2 e3 e4
    exact ⟨I1, R1, g1, g2, (GOk.save hO).now (addA_ok hA hn (row4_cok hv1 hv2 hv3 hv4))⟩
def opChange (σ : Gst) (x1 x2 x3 x4 : Int32) : (Int32 ⊕ Nat) × Gst := if (ixb 2 x1 && ixb (σ.1.1 (vN x1)) x2) = true then (if ixb 4 x3 = true then (if cvb x4 = true then (.inl (chgV σ.1 (vN x1) (vN x2) (vN x3) x4), chgA σ.1 (vN x1) (vN x2) (vN x3) x4, svd σ.2.1 σ.1, σ.2.2) else (.inr 1, σ)) else (.inr 0, σ)) else (.inr 0, σ)
theorem m_change {I : Mem} {R : Rem} {P : Pool} {σ : Gst} {x1 x2 x3 x4 : Int32} (hC : CI I R P σ) (hO : GOk σ) : ∃ I' R', f_X8_change x1 x2 x3 x4 P R I = some ((opChange σ x1 x2 x3 x4).1, I', R') ∧ CI I' R' P (opChange σ x1 x2 x3 x4).2 ∧ GOk (opChange σ x1 x2 x3 x4).2 := by
  have hA := hO.1
  unfold opChange
  rcases a_row x1 x2 hC.1 hA with ⟨t, r, ht, hr, rfl, rfl, e0, b0, v0, v1⟩ | ⟨e0, b0⟩
  rotate_left
  · rw [b0]; exact ⟨I, R, by unfold f_X8_change; rw [bs_r e0]; rfl, hC, hO⟩
  rw [if_pos b0, v0, v1]
  rcases a_col x3 with ⟨c, hc, rfl, e1, b1, v2⟩ | ⟨e1, b1⟩
  rotate_left
  · rw [b1]; exact ⟨I, R, by unfold f_X8_change; rw [bs_l e0, bs_r e1]; rfl, hC, hO⟩
  rw [if_pos b1, v2]
  rcases a_val x4 with ⟨hv, e2, b2⟩ | ⟨e2, b2⟩
  rotate_left
  · rw [b2]; exact ⟨I, R, by unfold f_X8_change; rw [bs_l e0, bs_l e1, bs_r e2]; rfl, hC, hO⟩
  rw [if_pos b2]
  obtain ⟨N, S, X⟩ := σ
  have hA : AOk N := hA
  obtain ⟨I1, R1, g1, g2, g3⟩ := k_change hC hA ht hr hc e0 e1 e2
  exact ⟨I1, R1, g1, g2, (GOk.save hO).now (chgA_ok hA ht hr hv)⟩
def opDrop (σ : Gst) (x1 x2 : Int32) : (Int32 ⊕ Nat) × Gst := if (ixb 2 x1 && ixb (σ.1.1 (vN x1)) x2) = true then (.inl (dropV σ.1 (vN x1) (vN x2)), dropA σ.1 (vN x1) (vN x2), svd σ.2.1 σ.1, σ.2.2) else (.inr 0, σ)
theorem m_drop {I : Mem} {R : Rem} {P : Pool} {σ : Gst} {x1 x2 : Int32} (hC : CI I R P σ) (hO : GOk σ) : ∃ I' R', f_X8_drop x1 x2 P R I = some ((opDrop σ x1 x2).1, I', R') ∧ CI I' R' P (opDrop σ x1 x2).2 ∧ GOk (opDrop σ x1 x2).2 := by
  have hA := hO.1
  unfold opDrop
  rcases a_row x1 x2 hC.1 hA with ⟨t, r, ht, hr, rfl, rfl, e0, b0, v0, v1⟩ | ⟨e0, b0⟩
  rotate_left
  · rw [b0]; exact ⟨I, R, by unfold f_X8_drop; rw [bs_r e0]; rfl, hC, hO⟩
  rw [if_pos b0, v0, v1]
  obtain ⟨N, S, X⟩ := σ
  have hA : AOk N := hA
  obtain ⟨I1, R1, g1, g2, g3⟩ := k_drop hC hA ht e0
  exact ⟨I1, R1, g1, g2, (GOk.save hO).now (kp_ok hA ht _)⟩
def opCheck (σ : Gst) (x1 x2 : Int32) : (Int32 ⊕ Nat) × Gst := if ixb 2 x1 = true then (if x2 = -2 then (.inl 0, setF σ.1 (6 + vN x1) [], svd σ.2.1 σ.1, σ.2.2) else if ixb 6 x2 = true then (if σ.1.2.2.1 (vN x2) = [] then (.inr 2, σ) else (.inl (nI (brk σ.1 (vN x1) (vN x2))), chkA σ.1 (vN x1) (vN x2), svd σ.2.1 σ.1, σ.2.2)) else (.inr 0, σ)) else (.inr 0, σ)
theorem m_check {I : Mem} {R : Rem} {P : Pool} {σ : Gst} {x1 x2 : Int32} (hC : CI I R P σ) (hO : GOk σ) : ∃ I' R', f_X8_check x1 x2 P R I = some ((opCheck σ x1 x2).1, I', R') ∧ CI I' R' P (opCheck σ x1 x2).2 ∧ GOk (opCheck σ x1 x2).2 := by
  have hA := hO.1
  unfold opCheck
  rcases a_tab x1 with ⟨t, ht, rfl, e0, b0, v0⟩ | ⟨e0, b0⟩
  rotate_left
  · rw [b0]; exact ⟨I, R, by unfold f_X8_check; rw [bs_r e0]; rfl, hC, hO⟩
  rw [if_pos b0, v0]
  obtain ⟨N, S, X⟩ := σ
  have hA : AOk N := hA
  by_cases h2 : x2 = -2
  · rw [if_pos h2]
    subst h2
    obtain ⟨I1, R1, g1, g2, g3⟩ := k_uncheck hC hA ht e0
    exact ⟨I1, R1, g1, g2, (GOk.save hO).now (hA.setF (Or.inl rfl))⟩
  rw [if_neg h2]
  rcases a_slot x2 with ⟨s, hs, rfl, e1, b1, v1⟩ | ⟨e1, b1⟩
  rotate_left
  · rw [b1]; exact ⟨I, R, by unfold f_X8_check; rw [bs_l e0, if_neg h2, bs_r e1]; rfl, hC, hO⟩
  rw [if_pos b1, v1]
  rcases k_filled hC.1 hA hs with ⟨e2, hL⟩ | ⟨k, e2, hF, hV⟩
  · rw [if_pos hL]; exact ⟨I, R, by unfold f_X8_check; rw [bs_l e0, if_neg h2, bs_l e1, bs_r e2], hC, hO⟩
  · rw [if_neg (fV_ne hV)]
    obtain ⟨I1, R1, g1, g2, g3⟩ := k_check hC hA ht hs h2 e0 e1 e2 hF hV
    exact ⟨I1, R1, g1, g2, (GOk.save hO).now (chkA_ok hA hV)⟩
def opRemove (σ : Gst) (x1 x2 : Int32) : (Int32 ⊕ Nat) × Gst := if ixb 2 x1 = true then (if ixb 6 x2 = true then (if σ.1.2.2.1 (vN x2) = [] then (.inr 2, σ) else (.inl (remV σ.1 (vN x1) (vN x2)), remA σ.1 (vN x1) (vN x2), svd σ.2.1 σ.1, σ.2.2)) else (.inr 0, σ)) else (.inr 0, σ)
theorem m_remove {I : Mem} {R : Rem} {P : Pool} {σ : Gst} {x1 x2 : Int32} (hC : CI I R P σ) (hO : GOk σ) : ∃ I' R', f_X8_remove x1 x2 P R I = some ((opRemove σ x1 x2).1, I', R') ∧ CI I' R' P (opRemove σ x1 x2).2 ∧ GOk (opRemove σ x1 x2).2 := by
  have hA := hO.1
  unfold opRemove
  rcases a_tab x1 with ⟨t, ht, rfl, e0, b0, v0⟩ | ⟨e0, b0⟩
  rotate_left
  · rw [b0]; exact ⟨I, R, by unfold f_X8_remove; rw [bs_r e0]; rfl, hC, hO⟩
  rw [if_pos b0, v0]
  rcases a_slot x2 with ⟨s, hs, rfl, e1, b1, v1⟩ | ⟨e1, b1⟩
  rotate_left
  · rw [b1]; exact ⟨I, R, by unfold f_X8_remove; rw [bs_l e0, bs_r e1]; rfl, hC, hO⟩
  rw [if_pos b1, v1]
  obtain ⟨N, S, X⟩ := σ
  have hA : AOk N := hA
  rcases k_filled hC.1 hA hs with ⟨e2, hL⟩ | ⟨k, e2, hF, hV⟩
  · rw [if_pos hL]; exact ⟨I, R, by unfold f_X8_remove; rw [bs_l e0, bs_l e1, bs_r e2], hC, hO⟩
  · rw [if_neg (fV_ne hV)]
    obtain ⟨I1, R1, g1, g2, g3⟩ := k_remove hC hA ht hs e0 e1 e2 hF hV
    exact ⟨I1, R1, g1, g2, (GOk.save hO).now (kp_ok hA ht _)⟩
def opUpdate (σ : Gst) (x1 x2 x3 x4 : Int32) : (Int32 ⊕ Nat) × Gst := if ixb 2 x1 = true then (if ixb 6 x2 = true then (if ixb 4 x3 = true then (if cvb x4 = true then (if σ.1.2.2.1 (vN x2) = [] then (.inr 2, σ) else (.inl (upfV σ.1 (vN x1) (vN x2) (vN x3) x4), upfA σ.1 (vN x1) (vN x2) (vN x3) x4, svd σ.2.1 σ.1, σ.2.2)) else (.inr 1, σ)) else (.inr 0, σ)) else (.inr 0, σ)) else (.inr 0, σ)
theorem m_update {I : Mem} {R : Rem} {P : Pool} {σ : Gst} {x1 x2 x3 x4 : Int32} (hC : CI I R P σ) (hO : GOk σ) : ∃ I' R', f_X8_update x1 x2 x3 x4 P R I = some ((opUpdate σ x1 x2 x3 x4).1, I', R') ∧ CI I' R' P (opUpdate σ x1 x2 x3 x4).2 ∧ GOk (opUpdate σ x1 x2 x3 x4).2 := by
  have hA := hO.1
  unfold opUpdate
  rcases a_tab x1 with ⟨t, ht, rfl, e0, b0, v0⟩ | ⟨e0, b0⟩
  rotate_left
  · rw [b0]; exact ⟨I, R, by unfold f_X8_update; rw [bs_r e0]; rfl, hC, hO⟩
  rw [if_pos b0, v0]
  rcases a_slot x2 with ⟨s, hs, rfl, e1, b1, v1⟩ | ⟨e1, b1⟩
  rotate_left
  · rw [b1]; exact ⟨I, R, by unfold f_X8_update; rw [bs_l e0, bs_r e1]; rfl, hC, hO⟩
  rw [if_pos b1, v1]
  rcases a_col x3 with ⟨c, hc, rfl, e2, b2, v2⟩ | ⟨e2, b2⟩
  rotate_left
  · rw [b2]; exact ⟨I, R, by unfold f_X8_update; rw [bs_l e0, bs_l e1, bs_r e2]; rfl, hC, hO⟩
  rw [if_pos b2, v2]
  rcases a_val x4 with ⟨hv, e3, b3⟩ | ⟨e3, b3⟩
  rotate_left
  · rw [b3]; exact ⟨I, R, by unfold f_X8_update; rw [bs_l e0, bs_l e1, bs_l e2, bs_r e3]; rfl, hC, hO⟩
  rw [if_pos b3]
  obtain ⟨N, S, X⟩ := σ
  have hA : AOk N := hA
  rcases k_filled hC.1 hA hs with ⟨e4, hL⟩ | ⟨k, e4, hF, hV⟩
  · rw [if_pos hL]; exact ⟨I, R, by unfold f_X8_update; rw [bs_l e0, bs_l e1, bs_l e2, bs_l e3, bs_r e4], hC, hO⟩
  · rw [if_neg (fV_ne hV)]
    obtain ⟨I1, R1, g1, g2, g3⟩ := k_update hC hA ht hs hc e0 e1 e2 e3 e4 hF hV
    exact ⟨I1, R1, g1, g2, (GOk.save hO).now (upfA_ok hA hv)⟩
def opCombine (σ : Gst) (x1 x2 x3 x4 : Int32) : (Int32 ⊕ Nat) × Gst := if ixb 6 x1 = true then (if ixb 6 x2 = true then (if ixb 6 x3 = true then (if ixb 3 x4 = true then (if σ.1.2.2.1 (vN x2) = [] then (.inr 2, σ) else if ¬ vN x4 = 0 ∧ σ.1.2.2.1 (vN x3) = [] then (.inr 2, σ) else if cmbN σ.1 (vN x2) (vN x3) (vN x4) ≤ 40 then (.inl (nI (cmbN σ.1 (vN x2) (vN x3) (vN x4))), setF σ.1 (vN x1) (cmbL σ.1 (vN x2) (vN x3) (vN x4)), svd σ.2.1 σ.1, σ.2.2) else (.inr 2, σ)) else (.inr 1, σ)) else (.inr 0, σ)) else (.inr 0, σ)) else (.inr 0, σ)
theorem m_combine {I : Mem} {R : Rem} {P : Pool} {σ : Gst} {nx : Nat} {x1 x2 x3 x4 : Int32} (hC : CI I R P σ) (hO : GOk σ) (hF0 : FR P nx) (hF1 : FR P (nx + 1)) : ∃ I' R' P', f_X8_combine x1 x2 x3 x4 P R I nx = some ((opCombine σ x1 x2 x3 x4).1, I', R', P') ∧ CI I' R' P' (opCombine σ x1 x2 x3 x4).2 ∧ GOk (opCombine σ x1 x2 x3 x4).2 := by
  have hA := hO.1
  unfold opCombine
  rcases a_slot x1 with ⟨s, hs, rfl, e0, b0, v0⟩ | ⟨e0, b0⟩
  rotate_left
  · rw [b0]; exact ⟨I, R, P, by unfold f_X8_combine; rw [bs_r e0]; rfl, hC, hO⟩
  rw [if_pos b0, v0]
  rcases a_slot x2 with ⟨u, hu, rfl, e1, b1, v1⟩ | ⟨e1, b1⟩
  rotate_left
  · rw [b1]; exact ⟨I, R, P, by unfold f_X8_combine; rw [bs_l e0, bs_r e1]; rfl, hC, hO⟩
  rw [if_pos b1, v1]
  rcases a_slot x3 with ⟨v, hv, rfl, e2, b2, v2⟩ | ⟨e2, b2⟩
  rotate_left
  · rw [b2]; exact ⟨I, R, P, by unfold f_X8_combine; rw [bs_l e0, bs_l e1, bs_r e2]; rfl, hC, hO⟩
  rw [if_pos b2, v2]
  rcases a_rng x4 (n := 2) (by decide) with ⟨h, hh, rfl, e3, b3, v3⟩ | ⟨e3, b3⟩
  rotate_left
  · have e3 : f_X8_requireRange x4 (2 : Int32) = some (.inr 1) := e3
    rw [b3]; exact ⟨I, R, P, by unfold f_X8_combine; rw [bs_l e0, bs_l e1, bs_l e2, bs_r e3]; rfl, hC, hO⟩
  have e3 : f_X8_requireRange (nI h) (2 : Int32) = some (.inl ()) := e3
  rw [if_pos b3, v3]
  obtain ⟨N, S, X⟩ := σ
  have hA : AOk N := hA
  rcases k_filled hC.1 hA hu with ⟨e4, hLu⟩ | ⟨k, e4, hF, hVu⟩
  · rw [if_pos hLu]; exact ⟨I, R, P, by unfold f_X8_combine; rw [bs_l e0, bs_l e1, bs_l e2, bs_l e3, bs_r e4], hC, hO⟩
  rw [if_neg (fV_ne hVu)]
  by_cases h0 : h = 0
  · rw [if_neg (fun q => q.1 h0)]
    by_cases hl : cmbN N u v h ≤ 40
    · obtain ⟨I1, R1, P1, g1, g2, g3⟩ := k_comb (k2 := 0) hC hA hs hh hF0 hF1 hl e0 e1 e2 e3 e4 hF (Or.inl h0)
      rw [if_pos hl]
      exact ⟨I1, R1, P1, g1, g2, (GOk.save hO).now (hA.setF (Or.inr (cmb_ok hVu (Or.inl h0) hh hl)))⟩
    · rw [if_neg hl]
      exact ⟨I, R, P, by unfold f_X8_combine; rw [bs_l e0, bs_l e1, bs_l e2, bs_l e3, bs_l e4, if_pos (show nI h = 0 by rw [h0]; rfl), bs_b (k_neg0 hF hVu (fun h1 => hl (by have h1 : (N.2.2.1 u).length + 1 ≤ 40 := h1; unfold cmbN; rw [if_pos h0]; omega)))]; rfl, hC, hO⟩
  rcases k_filled hC.1 hA hv with ⟨e5, hLv⟩ | ⟨k2, e5, hF2, hVv⟩
  · rw [if_pos ⟨h0, hLv⟩]
    exact ⟨I, R, P, by unfold f_X8_combine; rw [bs_l e0, bs_l e1, bs_l e2, bs_l e3, bs_l e4, if_neg (nI_ne0 (by omega) (by omega)), bs_r e5], hC, hO⟩
  rw [if_neg (fun q => fV_ne hVv q.2)]
  by_cases hl : cmbN N u v h ≤ 40
  · obtain ⟨I1, R1, P1, g1, g2, g3⟩ := k_comb (k2 := k2) hC hA hs hh hF0 hF1 hl e0 e1 e2 e3 e4 hF (Or.inr ⟨e5, hF2⟩)
    rw [if_pos hl]
    exact ⟨I1, R1, P1, g1, g2, (GOk.save hO).now (hA.setF (Or.inr (cmb_ok hVu (Or.inr hVv) hh hl)))⟩
  · have hx : (if nI h = 1 then some 38 else some 124 : Option Int32) = some (enc h) := by
      rcases (show h = 1 ∨ h = 2 by omega) with rfl | rfl
      · rw [if_pos (show nI 1 = 1 from rfl)]; rfl
      · rw [if_neg (show ¬ nI 2 = 1 by decide)]; rfl
    rw [if_neg hl]
    exact ⟨I, R, P, by unfold f_X8_combine; rw [bs_l e0, bs_l e1, bs_l e2, bs_l e3, bs_l e4, if_neg (nI_ne0 (by omega) (by omega)), bs_l e5, bs_b hx, bs_b (k_join0 hF hVu hF2 hVv (fun h1 => hl (by have h1 : (N.2.2.1 u).length + (N.2.2.1 v).length + 1 ≤ 40 := h1; unfold cmbN; rw [if_neg h0]; omega)))]; rfl, hC, hO⟩
/-- what a whole text says -/
def rdL (B : List Nat) : List Nat := (rel 1 (stl (run p0 B).2).2.2.1 (stl (run p0 B).2).2.2.2.1).2.reverse
def opDefine (σ : Gst) (x1 : Int32) : (Int32 ⊕ Nat) × Gst := if ixb 6 x1 = true then (if (run p0 σ.2.2.2).1 = σ.2.2.2.length ∧ (stl (run p0 σ.2.2.2).2).1 = 4 ∧ (stl (run p0 σ.2.2.2).2).2.1 = 0 then (.inl (nI (rdL σ.2.2.2).length), setF σ.1 (vN x1) (rdL σ.2.2.2), svd σ.2.1 σ.1, σ.2.2.1, []) else (.inr 1, σ)) else (.inr 0, σ)
theorem m_define {I : Mem} {R : Rem} {P : Pool} {σ : Gst} {nx : Nat} {x1 : Int32} (hC : CI I R P σ) (hO : GOk σ) (hF0 : FR P nx) (hF1 : FR P (nx + 1)) : ∃ I' R' P', f_X8_define x1 P R I nx = some ((opDefine σ x1).1, I', R', P') ∧ CI I' R' P' (opDefine σ x1).2 ∧ GOk (opDefine σ x1).2 := by
  have hA := hO.1
  unfold opDefine
  rcases a_slot x1 with ⟨s, hs, rfl, e0, b0, v0⟩ | ⟨e0, b0⟩
  rotate_left
  · rw [b0]; exact ⟨I, R, P, by unfold f_X8_define; rw [bs_r e0]; rfl, hC, hO⟩
  rw [if_pos b0, v0]
  have hB := g_bk hC.2.2.2 hO
  obtain ⟨I1, a1, a2, a3⟩ := k_read (P := P) hC.2.2.2 hB.2
  have hlen := run_le σ.2.2.2 p0
  have h06 : I1 0 6 = nI σ.2.2.2.length := by rw [a2 0 (by decide)]; exact hC.2.2.2.1
  by_cases e1 : (run p0 σ.2.2.2).1 = σ.2.2.2.length
  · obtain ⟨hCR, hPV⟩ := a3 e1
    obtain ⟨I2, c1, c2, c3⟩ := k_fin (P := P) hCR hPV hB.1
    have hE2 : Eqx SP I I2 := a2.tr c2
    have hX : f_X8_define (nI s) P R I nx = ((f_X4_finish P I1).bind fun q5 => if q5.1 = 0 then (some (.inr 1, q5.2, R, P)) else ((f_X8_save P R q5.2).bind fun q6 => (f_X4_steps ((addP P nx 2 0)) q6.1 ((nx + 1))).bind fun q7 => q7.1.bind fun k8 => (f_X2_init nx k8 q7.2.2 ((nwR q6.2 nx))).bind fun q9 => (wrq q9 4 6 (nI s) ((some nx))).bind fun R10 => (f_X2_size nx q7.2.2 R10).bind fun q11 => some (.inl q11, (up q7.2.1 0 6 0), R10, q7.2.2))) := by
      unfold f_X8_define
      rw [bs_l e0, bs_b a1]
      dsimp only
      exact if_neg (show ¬ nI (run p0 σ.2.2.2).1 < I1 0 6 by rw [h06]; exact nI_nlt (by omega) (by have := hB.1; omega))
    by_cases e2 : (stl (run p0 σ.2.2.2).2).1 = 4 ∧ (stl (run p0 σ.2.2.2).2).2.1 = 0
    · rw [if_pos ⟨e1, e2⟩]
      obtain ⟨N, S, X, B⟩ := σ
      rw [if_pos e2] at c1
      have hPL := c3 e2
      obtain ⟨v1, v2, v3⟩ := p_good hPV hB.1 e2.1 e2.2
      obtain ⟨I3, R3, P3, d1, d2, d3⟩ := k_defn (hC.sc (hE2.mono (by decide))) hA hs hF0 hF1 hPL (by omega) v3
      refine ⟨I3, R3, P3, ?_, d2, ?_⟩
      · rw [hX, bs_b c1]
        dsimp only
        rw [if_neg (show ¬ (1 : Int32) = 0 by decide), d1]
        unfold rdL
        rw [List.length_reverse]
      · have := (GOk.save hO).now (A' := setF N s (rdL B)) (hA.setF (Or.inr v1))
        exact ⟨this.1, this.2.1, this.2.2.1, fun x hx => absurd hx (by simp)⟩
    · rw [if_neg (fun h => e2 h.2)]
      rw [if_neg e2] at c1
      exact ⟨I2, R, P, by rw [hX, bs_b c1]; rfl, hC.sc (hE2.mono (by decide)), hO⟩
  · rw [if_neg (fun h => e1 h.1)]
    refine ⟨I1, R, P, ?_, hC.sc (a2.mono (by decide)), hO⟩
    unfold f_X8_define
    rw [bs_l e0, bs_b a1]
    dsimp only
    exact if_pos (show nI (run p0 σ.2.2.2).1 < I1 0 6 by rw [h06]; exact nI_lt (by omega) (by have := hB.1; omega))
def errV (σ : Gst) : Int32 := nI (run p0 σ.2.2.2).1
theorem m_firstError {I : Mem} {R : Rem} {P : Pool} {σ : Gst} (hC : CI I R P σ) (hO : GOk σ) : ∃ I', f_X8_firstError P I = some (errV σ, I') ∧ Eqx SC I I' := by
  have hB := g_bk hC.2.2.2 hO
  obtain ⟨I1, a1, a2, a3⟩ := k_read (P := P) hC.2.2.2 hB.2
  exact ⟨I1, by unfold f_X8_firstError; rw [bs_b a1]; rfl, a2.mono (by decide)⟩
def opClear (σ : Gst) : Int32 × Gst := (nI σ.2.2.2.length, σ.1, σ.2.1, σ.2.2.1, [])
theorem m_clearB {I : Mem} {R : Rem} {P : Pool} {σ : Gst} (hC : CI I R P σ) (hO : GOk σ) : ∃ I', f_X8_clearBuffer I = some ((opClear σ).1, I') ∧ CI I' R P (opClear σ).2 ∧ GOk (opClear σ).2 := by
  obtain ⟨N, S, K, B⟩ := σ
  have b1 : I 0 6 = nI B.length := hC.2.2.2.1
  exact ⟨up I 0 6 0, by unfold f_X8_clearBuffer; rw [b1]; rfl, hC.clr, hO.1, hO.2.1, hO.2.2.1, fun x hx => absurd hx (by simp [opClear])⟩
def chb (x : Int32) : Bool := decide (¬ x < 33) && decide (x ≤ 126)
theorem a_code (x : Int32) : (∃ j, 33 ≤ j ∧ j ≤ 126 ∧ x = nI j ∧ ¬ x < 33 ∧ x ≤ 126 ∧ chb x = true ∧ vN x = j) ∨ ((x < 33 ∨ ¬ x ≤ 126) ∧ chb x = false) := by
  unfold chb
  by_cases h1 : x < 33
  · exact Or.inr ⟨Or.inl h1, by rw [decide_eq_false (fun h => h h1)]; rfl⟩
  · by_cases h2 : x ≤ 126
    · obtain ⟨j, hj, rfl⟩ := nI_of (x := x) (fun h => h1 (by rw [fa_lt] at h ⊢; have m0 : (0 : Int32).toInt = 0 := rfl; have m33 : (33 : Int32).toInt = 33 := rfl; rw [m0] at h; rw [m33]; omega))
      have l1 : ¬ j < 33 := fun h => h1 (nI_lt (b := 33) h (by decide))
      have l2 : j ≤ 126 := by rw [show (126 : Int32) = nI 126 from rfl, nI_leI hj (by decide)] at h2; exact h2
      exact Or.inl ⟨j, by omega, l2, rfl, h1, h2, by rw [decide_eq_true h1, decide_eq_true h2]; rfl, vN_n hj⟩
    · exact Or.inr ⟨Or.inr h2, by rw [decide_eq_false h2, Bool.and_false]⟩
def opAppend (σ : Gst) (x : Int32) : (Int32 ⊕ Nat) × Gst := if chb x = true then (if σ.2.2.2.length = 60 then (.inr 2, σ) else (.inl (nI (σ.2.2.2.length + 1)), σ.1, σ.2.1, σ.2.2.1, σ.2.2.2 ++ [vN x])) else (.inr 1, σ)
theorem m_append {I : Mem} {R : Rem} {P : Pool} {σ : Gst} {x1 : Int32} (hC : CI I R P σ) (hO : GOk σ) : ∃ I', f_X8_append x1 I = some ((opAppend σ x1).1, I') ∧ CI I' R P (opAppend σ x1).2 ∧ GOk (opAppend σ x1).2 := by
  unfold opAppend
  obtain ⟨N, S, K, B⟩ := σ
  have b1 : I 0 6 = nI B.length := hC.2.2.2.1
  have b2 : B.length ≤ 60 := hC.2.2.2.2.1
  rcases a_code x1 with ⟨j, hj1, hj2, rfl, n1, n2, c0, v0⟩ | ⟨n1, c0⟩
  rotate_left
  · rw [c0]
    exact ⟨I, by
      unfold f_X8_append
      by_cases h : x1 < 33
      · rw [if_pos h]; rfl
      · rw [if_neg h, if_neg (n1.resolve_left h)]; rfl, hC, hO⟩
  · rw [if_pos c0, v0]
    by_cases h60 : B.length = 60
    · rw [if_pos (show (N, S, K, B).2.2.2.length = 60 from h60)]
      exact ⟨I, by
        unfold f_X8_append
        rw [if_neg n1, if_pos n2, b1, h60, if_neg (show ¬ nI 60 < 60 by decide)], hC, hO⟩
    · have hl : B.length < 60 := by omega
      rw [if_neg (show ¬ (N, S, K, B).2.2.2.length = 60 from h60)]
      have e1 : vp_nar .char (((nI j).toUInt32 % 65536).toInt32) = nI j := by rw [chr_n (by omega)]; unfold vp_nar; rw [(pk_charN (show j < 65536 by omega)).1]
      obtain ⟨I1, hI1⟩ : ∃ I1, I1 = up (up I 9 B.length (nI j)) 0 6 (nI (B.length + 1)) := ⟨_, rfl⟩
      have hcl : f_X8_append (nI j) I = some (.inl (nI (B.length + 1)), I1) := by
        unfold f_X8_append
        rw [if_neg n1, if_pos n2, b1, if_pos (show nI B.length < 60 from nI_lt (b := 60) hl (by decide)), wr_e B.length rfl hl (by decide), e1]
        simp only [Option.bind_some]
        rw [up_ne _ _ _ (show 0 ≠ 9 by decide), b1, nI_1, up_eq, ← hI1]
      have hget : ∀ i x, (B ++ [j])[i]? = some x → (i < B.length ∧ B[i]? = some x) ∨ (i = B.length ∧ x = j) := fun i x hi => by
        by_cases hb : i < B.length
        · rw [List.getElem?_append_left hb] at hi; exact Or.inl ⟨hb, hi⟩
        · have hz := (List.getElem?_eq_some_iff.mp hi).1
          have : i = B.length := by simp at hz; omega
          subst this
          simp at hi
          exact Or.inr ⟨rfl, hi.symm⟩
      have hC1 : CI I1 R P (N, S, K, B ++ [j]) := by
        have hu : ∀ a, a ≠ 0 → a ≠ 9 → I1 a = I a := fun a h1 h2 => by rw [hI1, up_ne _ _ _ h1, up_ne _ _ _ h2]
        have hu0 : ∀ k, k ≠ 6 → I1 0 k = I 0 k := fun k hk => by rw [hI1, up_nk _ _ hk, up_ne _ _ _ (by decide)]
        obtain ⟨a, b, c, d⟩ := hC
        have hK : PK I R P I1 R P := fun a ha _ => ⟨hu a (by omega) (by omega), rfl, rfl, rfl⟩
        refine ⟨a.pk hK (hu _ (by decide) (by decide)) (hu _ (by decide) (by decide)) (hu _ (by decide) (by decide)) rfl rfl, b.pk hK (hu0 2 (by decide)) (fun _ _ => rfl) (fun a h1 h2 => hu a (by omega) (by omega)) (fun _ _ _ => rfl), fun i hi => ⟨(c i hi).1, (c i hi).2.pk hK (hu 8 (by decide) (by decide)) (fun k hk => hu _ (by omega) (by omega)) (fun k hk => rfl)⟩, ?_, ?_, fun i x hi => ?_⟩
        · rw [hI1, up_eq]; simp
        · show (B ++ [j]).length ≤ 60
          simp; omega
        · rw [hI1, up_ne _ _ _ (by decide)]
          rcases hget i x hi with ⟨h1, h2⟩ | ⟨h1, h2⟩
          · rw [up_nk _ _ (by omega)]; exact d.2.2 i x h2
          · rw [h1, h2, up_eq]
      refine ⟨I1, hcl, hC1, hO.1, hO.2.1, hO.2.2.1, fun x hx => ?_⟩
      rcases List.mem_append.mp hx with h | h
      · exact hO.2.2.2 x h
      · rw [List.mem_singleton.mp h]; exact ⟨hj1, hj2⟩
def opUndo (σ : Gst) : (Int32 ⊕ Nat) × Gst := match σ.2.1.getLast? with
  | none => (.inr 2, σ)
  | some A => (.inl (nI (σ.2.1.length - 1)), A, σ.2.1.dropLast, σ.2.2)
theorem m_undo {I : Mem} {R : Rem} {P : Pool} {σ : Gst} (hC : CI I R P σ) (hO : GOk σ) : ∃ I' R', f_X8_undo P R I = some ((opUndo σ).1, I', R') ∧ CI I' R' P (opUndo σ).2 ∧ GOk (opUndo σ).2 := by
  obtain ⟨N, S, K, B⟩ := σ
  unfold opUndo
  rcases List.eq_nil_or_concat S with rfl | ⟨S, A, rfl⟩
  · have c1 : I 0 2 = 0 := hC.2.1.1
    exact ⟨I, R, by unfold f_X8_undo; simp [c1], hC, hO⟩
  · rw [List.concat_eq_append] at hC hO ⊢
    dsimp only
    rw [List.getLast?_concat, List.dropLast_concat, List.length_append]
    have c1 : I 0 2 = nI (S.length + 1) := by have := hC.2.1.1; simpa using this
    have hl6 : S.length + 1 ≤ 6 := by have := hC.2.1.2.1; simpa using this
    obtain ⟨π, b3, b4, b5⟩ := hC.2.1.2.2
    have hgA : (S ++ [A])[S.length]? = some A := by simp
    have hAA : AOk A := hO.2.1 A (by simp)
    have hO2 : GOk (A, S, K, B) := ⟨hAA, fun X hX => hO.2.1 X (by simp [hX]), hO.2.2.1, hO.2.2.2⟩
    have hp := b3 S.length (by omega)
    have hC2 := hC.pop
    have hS : CSt (up I 0 2 (nI S.length)) R P (30 + 5 * π S.length) A := (b5 S.length A hgA).eqx (S := [0]) (Eqx.up (by decide)) (by decide) (by simp) (by simp) (by simp)
    obtain ⟨I2, R2, e1, e2, e3, e4⟩ := k_take (p := 1) hS hAA (by omega) (by decide) (by omega)
    have hC3 : CI I2 R2 P (A, S, K, B) := hC2.now (σ := (N, S, K, B)) (fun a h1 h2 h3 _ => e3 a (by omega)) (fun a h1 h2 => e4 a (by omega) (by omega)) e2
    have i02 : I2 0 2 = nI S.length := by rw [e3 0 (by decide), up_eq]
    exact ⟨I2, R2, by unfold f_X8_undo; rw [c1, if_pos (show (0 : Int32) < nI (S.length + 1) from nI_lt (a := 0) (by omega) (by omega)), nI_pred, up_eq, rdq_s S.length rfl (by omega) (by decide) hp.2 (kd_st _ (by omega))]; simp only [Option.bind_some]; rw [e1]; simp only [Option.bind_some]; rw [i02]; rfl, hC3, hO2⟩
def opKeep (σ : Gst) (x : Int32) : (Int32 ⊕ Nat) × Gst := if ixb 2 x = true then (.inl (nI (σ.1.1 0 + σ.1.1 1)), σ.1, σ.2.1, (fun i => if i = vN x then some σ.1 else σ.2.2.1 i), σ.2.2.2) else (.inr 1, σ)
theorem m_keep {I : Mem} {R : Rem} {P : Pool} {σ : Gst} {x1 : Int32} (hC : CI I R P σ) (hO : GOk σ) : ∃ I' R', f_X8_keep x1 P R I = some ((opKeep σ x1).1, I', R') ∧ CI I' R' P (opKeep σ x1).2 ∧ GOk (opKeep σ x1).2 := by
  have hA := hO.1
  unfold opKeep
  rcases a_rng x1 (n := 1) (by decide) with ⟨j, hj, rfl, e0, b0, v0⟩ | ⟨e0, b0⟩
  rotate_left
  · have e0 : f_X8_requireRange x1 (1 : Int32) = some (.inr 1) := e0
    have b0 : ixb 2 x1 = false := b0
    rw [b0]; exact ⟨I, R, by unfold f_X8_keep; rw [bs_r e0]; rfl, hC, hO⟩
  have e0 : f_X8_requireRange (nI j) (1 : Int32) = some (.inl ()) := e0
  have b0 : ixb 2 (nI j) = true := b0
  rw [if_pos b0, v0]
  obtain ⟨N, S, K, B⟩ := σ
  have hj2 : j < 2 := by omega
  obtain ⟨I1, R1, g1, g2, g3, g4⟩ := k_take (p := 60 + 5 * j) hC.1 hA (by omega) (by omega) (by omega)
  have i0 : ∀ a, a < 60 + 5 * j ∨ 63 + 5 * j ≤ a → a ≠ 8 → up I1 8 j 1 a = I a := fun a h1 h2 => by rw [up_ne _ _ _ h2, g3 a (by omega)]
  have hC2 : CI (up I1 8 j 1) R1 P (N, S, fun i => if i = j then some N else K i, B) := hC.keep hj2 i0 (fun i hi => by rw [up_nk _ _ hi, g3 8 (by omega)]) (up_eq _ _ _ _) (fun a h1 h2 => g4 a (by omega) (by omega)) (g2.eqx (S := [8]) (Eqx.up (by decide)) (by decide) (by simp; omega) (by simp; omega) (by simp; omega))
  have ar := k_allRows hC2.1
  have hO4 : GOk (N, S, fun i => if i = j then some N else K i, B) := ⟨hA, hO.2.1, fun i X hi hX => by
    have hX : (if i = j then some N else K i) = some X := hX
    by_cases e : i = j
    · rw [if_pos e] at hX; rw [← Option.some.inj hX]; exact hA
    · rw [if_neg e] at hX; exact hO.2.2.1 i X hi hX, hO.2.2.2⟩
  exact ⟨up I1 8 j 1, R1, by unfold f_X8_keep; rw [bs_l e0, rdq_s j rfl hj2 (by decide) (hC.2.2.1 j hj2).1 (kd_sn hj2)]; simp only [Option.bind_some]; rw [g1]; simp only [Option.bind_some]; rw [wr_e j rfl hj2 (by decide)]; simp only [Option.bind_some]; rw [show vp_nar .boolean 1 = 1 from rfl, ar]; rfl, hC2, hO4⟩
def opGoBack (σ : Gst) (x : Int32) : (Int32 ⊕ Nat) × Gst := if ixb 2 x = true then (match σ.2.2.1 (vN x) with
  | none => (.inr 2, σ)
  | some A => (.inl (nI (A.1 0 + A.1 1)), A, svd σ.2.1 σ.1, σ.2.2)) else (.inr 1, σ)
theorem m_goBack {I : Mem} {R : Rem} {P : Pool} {σ : Gst} {x1 : Int32} (hC : CI I R P σ) (hO : GOk σ) : ∃ I' R', f_X8_goBack x1 P R I = some ((opGoBack σ x1).1, I', R') ∧ CI I' R' P (opGoBack σ x1).2 ∧ GOk (opGoBack σ x1).2 := by
  have hA := hO.1
  unfold opGoBack
  rcases a_rng x1 (n := 1) (by decide) with ⟨j, hj, rfl, e0, b0, v0⟩ | ⟨e0, b0⟩
  rotate_left
  · have e0 : f_X8_requireRange x1 (1 : Int32) = some (.inr 1) := e0
    have b0 : ixb 2 x1 = false := b0
    rw [b0]; exact ⟨I, R, by unfold f_X8_goBack; rw [bs_r e0]; rfl, hC, hO⟩
  have e0 : f_X8_requireRange (nI j) (1 : Int32) = some (.inl ()) := e0
  have b0 : ixb 2 (nI j) = true := b0
  rw [if_pos b0, v0]
  obtain ⟨N, S, K, B⟩ := σ
  have hj2 : j < 2 := by omega
  have hsnC : snC I R P j (K j) := (hC.2.2.1 j hj2).2
  dsimp only
  cases hq : K j with
  | none =>
    rw [hq] at hsnC
    have c1 : rd I 8 2 (nI j) = some 0 := by rw [rd_e j rfl hj2 (by decide)]; exact congrArg some hsnC
    exact ⟨I, R, by unfold f_X8_goBack; rw [bs_l e0, bs_b c1]; rfl, hC, hO⟩
  | some A =>
    rw [hq] at hsnC
    have c1 : rd I 8 2 (nI j) = some 1 := by rw [rd_e j rfl hj2 (by decide)]; exact congrArg some hsnC.1
    have hAA : AOk A := hO.2.2.1 j A hj2 hq
    obtain ⟨I1, R1, g1, g2, g3, g4, g5⟩ := k_save hC hA
    have hC1 : CI I1 R1 P (N, svd S N, K, B) := g2
    have hs1 : snC I1 R1 P j (K j) := (hC1.2.2.1 j hj2).2
    rw [hq] at hs1
    obtain ⟨I2, R2, t1, t2, t3, t4⟩ := k_take (p := 1) hs1.2 hAA (by omega) (by decide) (by omega)
    have hC2 : CI I2 R2 P (A, svd S N, K, B) := hC1.now (σ := (N, svd S N, K, B)) (fun a h1 h2 h3 _ => t3 a (by omega)) (fun a h1 h2 => t4 a (by omega) (by omega)) t2
    have hO4 : GOk (A, svd S N, K, B) := (hO.save).now hAA
    have ar := k_allRows hC2.1
    exact ⟨I2, R2, by unfold f_X8_goBack; rw [bs_l e0, bs_b c1, if_neg (show ¬ (1 : Int32) = 0 by decide), g1]; simp only [Option.bind_some]; rw [rdq_s j rfl hj2 (by decide) (hC1.2.2.1 j hj2).1 (kd_sn hj2)]; simp only [Option.bind_some]; rw [t1]; simp only [Option.bind_some]; rw [ar]; rfl, hC2, hO4⟩
end MB64
