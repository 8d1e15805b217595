/-! PURE PART 43: what the calls that ask answer: op.. over a state, m_.. for the class. -/
section MB62
def opCell (A : Abs) (x1 x2 x3 : Int32) : Int32 ⊕ Nat := if (ixb 2 x1 && ixb (A.1 (vN x1)) x2) = true then (if ixb 4 x3 = true then .inl (A.2.1 (vN x1) (vN x2) (vN x3)) else .inr 0) else .inr 0
theorem m_cell {I : Mem} {R : Rem} {P : Pool} {A : Abs} {x1 x2 x3 : Int32} (hS : CSt I R P 1 A) (hA : AOk A) : f_X8_cell x1 x2 x3 I = some (opCell A x1 x2 x3) := by
  unfold opCell f_X8_cell
  rcases a_row x1 x2 hS hA with ⟨t, r, ht, hr, rfl, rfl, e0, b0, v0, v1⟩ | ⟨e0, b0⟩
  rotate_left
  · rw [bs_r e0, b0]; rfl
  rcases a_col x3 with ⟨c, hc, rfl, e1, b1, v2⟩ | ⟨e1, b1⟩
  rotate_left
  · rw [bs_l e0, bs_r e1, b0, b1]; rfl
  rw [bs_l e0, bs_l e1, bs_b (k_place t r c), bs_b (k_cell hS hA ht hr hc), if_pos b0, if_pos b1, v0, v1, v2]
def opColumn (A : Abs) (x1 x2 x3 : Int32) : Int32 ⊕ Nat := if ixb 2 x1 = true then (if ixb 4 x2 = true then (if ixb 7 x3 = true then .inl (colV A (vN x1) (vN x2) x3) else .inr 1) else .inr 0) else .inr 0
theorem m_column {I : Mem} {R : Rem} {P : Pool} {A : Abs} {x1 x2 x3 : Int32} (hS : CSt I R P 1 A) (hA : AOk A) : f_X8_column x1 x2 x3 I = some (opColumn A x1 x2 x3) := by
  unfold opColumn
  rcases a_tab x1 with ⟨t, ht, rfl, e0, b0, v0⟩ | ⟨e0, b0⟩
  rotate_left
  · unfold f_X8_column; rw [bs_r e0, b0]; rfl
  rcases a_col x2 with ⟨c, hc, rfl, e1, b1, v1⟩ | ⟨e1, b1⟩
  rotate_left
  · unfold f_X8_column; rw [bs_l e0, bs_r e1, b0, b1]; rfl
  rcases a_rng x3 (n := 6) (by decide) with ⟨w, hw, rfl, e2, b2, v2⟩ | ⟨e2, b2⟩
  rotate_left
  · have e2 : f_X8_requireRange x3 (6 : Int32) = some (.inr 1) := e2
    unfold f_X8_column; rw [bs_l e0, bs_l e1, bs_r e2, b0, b1, b2]; rfl
  have e2 : f_X8_requireRange (nI w) (6 : Int32) = some (.inl ()) := e2
  rw [if_pos b0, if_pos b1, if_pos b2, v0, v1]
  exact k_column hS hA ht hc e0 e1 e2
/-- the first place from u on (d of them) where h holds and g others before it -/
def fsr (h : Nat → Bool) (g : Nat) : Nat → Nat → Nat → Option Nat
  | 0, _, _ => none
  | d + 1, u, k => if h u = true then (if k = g then some u else fsr h g d (u + 1) (k + 1)) else fsr h g d (u + 1) k
theorem fsr_s {h : Nat → Bool} {g : Nat} : ∀ (d u k : Nat), k = cntb h u → k ≤ g → (∃ w, fsr h g d u k = some w ∧ u ≤ w ∧ w < u + d ∧ h w = true ∧ cntb h w = g) ∨ (fsr h g d u k = none ∧ cntb h (u + d) ≤ g)
  | 0, u, k, hk, hg => Or.inr ⟨rfl, by rw [Nat.add_zero, ← hk]; exact hg⟩
  | d + 1, u, k, hk, hg => by
    unfold fsr
    by_cases e : h u = true
    · rw [if_pos e]
      by_cases e2 : k = g
      · rw [if_pos e2]
        exact Or.inl ⟨u, rfl, Nat.le_refl _, by omega, e, by rw [← hk]; exact e2⟩
      · rw [if_neg e2]
        rcases fsr_s (h := h) (g := g) d (u + 1) (k + 1) (by rw [cntb_s, if_pos e, hk]) (by omega) with ⟨w, h1, h2, h3, h4, h5⟩ | ⟨h1, h2⟩
        · exact Or.inl ⟨w, h1, by omega, by omega, h4, h5⟩
        · exact Or.inr ⟨h1, by rw [show u + (d + 1) = u + 1 + d by omega]; exact h2⟩
    · rw [if_neg e]
      rcases fsr_s (h := h) (g := g) d (u + 1) k (by rw [cntb_s, if_neg e, hk]; rfl) hg with ⟨w, h1, h2, h3, h4, h5⟩ | ⟨h1, h2⟩
      · exact Or.inl ⟨w, h1, by omega, by omega, h4, h5⟩
      · exact Or.inr ⟨h1, by rw [show u + (d + 1) = u + 1 + d by omega]; exact h2⟩
def grpZ (A : Abs) (t c g : Nat) : Int32 := match fsr (hgv A t c) g 101 0 0 with
  | none => -2
  | some u => nI u - 1
theorem grpZ_s {A : Abs} {t c g : Nat} {z : Int32} (h : isGrp (hgv A t c) g z) : z = grpZ A t c g := by
  refine grp_uq h ?_
  unfold grpZ
  rcases fsr_s (h := hgv A t c) (g := g) 101 0 0 rfl (Nat.zero_le _) with ⟨w, h1, h2, h3, h4, h5⟩ | ⟨h1, h2⟩
  · rw [h1]; exact Or.inl ⟨w, by omega, h4, h5, rfl⟩
  · rw [h1]; exact Or.inr ⟨h2, rfl⟩
def opGroup (A : Abs) (x1 x2 x3 x4 : Int32) : Int32 ⊕ Nat := if ixb 2 x1 = true then (if ixb 4 x2 = true then (if 0 ≤ x3 then (if ixb 8 x4 = true then .inl (grpR A (vN x1) (vN x2) (vN x4) (grpZ A (vN x1) (vN x2) (vN x3))) else .inr 1) else .inr 1) else .inr 0) else .inr 0
theorem m_group {I : Mem} {R : Rem} {P : Pool} {A : Abs} {x1 x2 x3 x4 : Int32} (hS : CSt I R P 1 A) (hA : AOk A) : f_X8_group x1 x2 x3 x4 I = some (opGroup A x1 x2 x3 x4) := by
  unfold opGroup
  rcases a_tab x1 with ⟨t, ht, rfl, e0, b0, v0⟩ | ⟨e0, b0⟩
  rotate_left
  · unfold f_X8_group; rw [bs_r e0, b0]; rfl
  rcases a_col x2 with ⟨c, hc, rfl, e1, b1, v1⟩ | ⟨e1, b1⟩
  rotate_left
  · unfold f_X8_group; rw [bs_l e0, bs_r e1, b0, b1]; rfl
  by_cases hneg : x3 < 0
  · have hn : ¬ (0 : Int32) ≤ x3 := by rw [fa_lt] at hneg; rw [Int32.le_iff_toInt_le]; omega
    unfold f_X8_group; rw [bs_l e0, bs_l e1, if_neg hn, if_pos b0, if_pos b1, if_neg hn]
  obtain ⟨g, hg, rfl⟩ := nI_of hneg
  have hge : (0 : Int32) ≤ nI g := nI_le (a := 0) (by omega) (by omega)
  rcases a_rng x4 (n := 7) (by decide) with ⟨w, hw, rfl, e2, b2, v2⟩ | ⟨e2, b2⟩
  rotate_left
  · have e2 : f_X8_requireRange x4 7 = some (.inr 1) := e2
    unfold f_X8_group; rw [bs_l e0, bs_l e1, if_pos hge, bs_r e2, if_pos b0, if_pos b1, if_pos hge, b2]; rfl
  have e2 : f_X8_requireRange (nI w) 7 = some (.inl ()) := e2
  obtain ⟨z, g1, g2⟩ := k_group hS hA ht hc hw hg e0 e1 e2
  rw [if_pos b0, if_pos b1, if_pos hge, if_pos b2, v0, v1, v2, vN_n (by omega), ← grpZ_s g2]
  exact g1
def opTruth (A : Abs) (x1 x2 x3 : Int32) : Int32 ⊕ Nat := if (ixb 2 x1 && ixb (A.1 (vN x1)) x2) = true then (if ixb 6 x3 = true then (if A.2.2.1 (vN x3) = [] then .inl (-2) else .inl (tvA A (vN x1) (vN x2) (A.2.2.1 (vN x3)))) else .inr 0) else .inr 0
theorem m_truth {I : Mem} {R : Rem} {P : Pool} {A : Abs} {x1 x2 x3 : Int32} (hS : CSt I R P 1 A) (hA : AOk A) : ∃ I', f_X8_truth x1 x2 x3 P R I = some (opTruth A x1 x2 x3, I') ∧ Eqx SC I I' := by
  unfold opTruth f_X8_truth
  rcases a_row x1 x2 hS hA with ⟨t, r, ht, hr, rfl, rfl, e0, b0, v0, v1⟩ | ⟨e0, b0⟩
  rotate_left
  · exact ⟨I, by rw [bs_r e0, b0]; rfl, Eqx.rf⟩
  rcases a_slot x3 with ⟨s, hs, rfl, e1, b1, v2⟩ | ⟨e1, b1⟩
  rotate_left
  · exact ⟨I, by rw [bs_l e0, bs_r e1, b0, b1]; rfl, Eqx.rf⟩
  rw [bs_l e0, bs_l e1, if_pos b0, if_pos b1, v0, v1, v2]
  rcases s_slot hS hA hs with ⟨o1, o2⟩ | ⟨k, o1, o2, hF, hV⟩
  · exact ⟨I, by rw [o1, if_pos o2]; rfl, Eqx.rf⟩
  · obtain ⟨I1, g1, g2⟩ := k_truthFor hS hA ht hr hF hV
    exact ⟨I1, by rw [o1, if_neg (fV_ne hV)]; simp only [Option.bind_some, oq_s]; rw [g1]; rfl, g2.mono sub_SC1⟩
def opRows (A : Abs) (x1 x2 x3 x4 : Int32) : Int32 ⊕ Nat := if ixb 2 x1 = true then (if ixb 6 x2 = true then (if ixb 3 x3 = true then (if ixb 2 x4 = true then (if A.2.2.1 (vN x2) = [] then .inl (-2) else .inl (tmask A (vN x1) (A.2.2.1 (vN x2)) x3 (A.1 (vN x1)))) else .inr 1) else .inr 1) else .inr 0) else .inr 0
theorem m_rows {I : Mem} {R : Rem} {P : Pool} {A : Abs} {x1 x2 x3 x4 : Int32} (hS : CSt I R P 1 A) (hA : AOk A) : ∃ I', f_X8_rows x1 x2 x3 x4 P R I = some (opRows A x1 x2 x3 x4, I') ∧ Eqx SC I I' := by
  unfold opRows f_X8_rows
  rcases a_tab x1 with ⟨t, ht, rfl, e0, b0, v0⟩ | ⟨e0, b0⟩
  rotate_left
  · exact ⟨I, by rw [bs_r e0, b0]; rfl, Eqx.rf⟩
  rcases a_slot x2 with ⟨s, hs, rfl, e1, b1, v1⟩ | ⟨e1, b1⟩
  rotate_left
  · exact ⟨I, by rw [bs_l e0, bs_r e1, b0, b1]; rfl, Eqx.rf⟩
  rcases a_rng x3 (n := 2) (by decide) with ⟨v, hv, rfl, e2, b2, v2⟩ | ⟨e2, b2⟩
  rotate_left
  · have e2 : f_X8_requireRange x3 (2 : Int32) = some (.inr 1) := e2
    exact ⟨I, by rw [bs_l e0, bs_l e1, bs_r e2, b0, b1, b2]; rfl, Eqx.rf⟩
  have e2 : f_X8_requireRange (nI v) (2 : Int32) = some (.inl ()) := e2
  rcases a_rng x4 (n := 1) (by decide) with ⟨w, hw, rfl, e3, b3, v3⟩ | ⟨e3, b3⟩
  rotate_left
  · have e3 : f_X8_requireRange x4 (1 : Int32) = some (.inr 1) := e3
    exact ⟨I, by rw [bs_l e0, bs_l e1, bs_l e2, bs_r e3, b0, b1, b2, b3]; rfl, Eqx.rf⟩
  have e3 : f_X8_requireRange (nI w) (1 : Int32) = some (.inl ()) := e3
  rw [bs_l e0, bs_l e1, bs_l e2, bs_l e3, if_pos b0, if_pos b1, if_pos b2, if_pos b3, v0, v1]
  rcases s_slot hS hA hs with ⟨o1, o2⟩ | ⟨k, o1, o2, hF, hV⟩
  · exact ⟨I, by rw [o1, if_pos o2]; rfl, Eqx.rf⟩
  · rw [o1, if_neg (fV_ne hV)]
    simp only [Option.bind_some, oq_s]
    rcases (show w = 0 ∨ w = 1 by omega) with rfl | rfl
    · obtain ⟨I1, g1, g2⟩ := k_rowsWith (v := nI v) hS hA ht hF hV
      exact ⟨I1, by rw [if_pos (show nI 0 = 0 from rfl), g1]; rfl, g2.mono sub_SC1⟩
    · obtain ⟨I1, g1, g2⟩ := k_byBits hS hA ht hF hV (show v ≤ 2 by omega)
      exact ⟨I1, by rw [if_neg (show ¬ nI 1 = 0 by decide), g1]; rfl, g2.mono sub_SC1⟩
def opCompare (A : Abs) (x1 x2 x3 x4 : Int32) : Int32 ⊕ Nat := if ixb 2 x1 = true then (if ixb 6 x2 = true then (if ixb 6 x3 = true then (if ixb 3 x4 = true then (if A.2.2.1 (vN x2) = [] then .inl (-2) else if A.2.2.1 (vN x3) = [] then .inl (-2) else .inl (nI (cntb (cmpA A (vN x1) (A.2.2.1 (vN x2)) (A.2.2.1 (vN x3)) (vN x4)) (A.1 (vN x1))))) else .inr 1) else .inr 0) else .inr 0) else .inr 0
theorem m_compare {I : Mem} {R : Rem} {P : Pool} {A : Abs} {x1 x2 x3 x4 : Int32} (hS : CSt I R P 1 A) (hA : AOk A) : ∃ I', f_X8_compare x1 x2 x3 x4 P R I = some (opCompare A x1 x2 x3 x4, I') ∧ Eqx SC I I' := by
  unfold opCompare f_X8_compare
  rcases a_tab x1 with ⟨t, ht, rfl, e0, b0, v0⟩ | ⟨e0, b0⟩
  rotate_left
  · exact ⟨I, by rw [bs_r e0, b0]; rfl, Eqx.rf⟩
  rcases a_slot x2 with ⟨s, hs, rfl, e1, b1, v1⟩ | ⟨e1, b1⟩
  rotate_left
  · exact ⟨I, by rw [bs_l e0, bs_r e1, b0, b1]; rfl, Eqx.rf⟩
  rcases a_slot x3 with ⟨u, hu, rfl, e2, b2, v2⟩ | ⟨e2, b2⟩
  rotate_left
  · exact ⟨I, by rw [bs_l e0, bs_l e1, bs_r e2, b0, b1, b2]; rfl, Eqx.rf⟩
  rcases a_rng x4 (n := 2) (by decide) with ⟨w, hw, rfl, e3, b3, v3⟩ | ⟨e3, b3⟩
  rotate_left
  · have e3 : f_X8_requireRange x4 (2 : Int32) = some (.inr 1) := e3
    exact ⟨I, by rw [bs_l e0, bs_l e1, bs_l e2, bs_r e3, b0, b1, b2, b3]; rfl, Eqx.rf⟩
  have e3 : f_X8_requireRange (nI w) (2 : Int32) = some (.inl ()) := e3
  rw [bs_l e0, bs_l e1, bs_l e2, bs_l e3, if_pos b0, if_pos b1, if_pos b2, if_pos b3, v0, v1, v2, v3]
  rcases s_slot hS hA hs with ⟨o1, o2⟩ | ⟨k, o1, o2, hF, hV⟩
  · rw [if_pos o2]
    rcases s_slot hS hA hu with ⟨p1, p2⟩ | ⟨k2, p1, p2, hF2, hV2⟩
    · exact ⟨I, by simp [o1, p1, oq_n], Eqx.rf⟩
    · exact ⟨I, by simp [o1, p1, oq_n], Eqx.rf⟩
  · rw [if_neg (fV_ne hV)]
    rcases s_slot hS hA hu with ⟨p1, p2⟩ | ⟨k2, p1, p2, hF2, hV2⟩
    · rw [if_pos p2]
      exact ⟨I, by simp [o1, p1, oq_n, oq_s], Eqx.rf⟩
    · rw [if_neg (fV_ne hV2)]
      have h16 := hA.1 t ht
      obtain ⟨I1, g1, g2⟩ := k_cmp_L (x2 := nI s) (x3 := nI u) hA ht hV hV2 (show w ≤ 2 by omega) (A.1 t) 0 fuel I (by omega) (by unfold fuel; omega) hS hF hF2
      have g1 : f_X8_compare_L59 (nI t) (nI s) (nI u) (nI w) P k k2 R fuel 0 0 I = some (nI (cntb (cmpA A t (A.2.2.1 s) (A.2.2.1 u) w) (A.1 t)), I1) := g1
      exact ⟨I1, by simp [o1, p1, oq_s, g1], g2.mono sub_SC1⟩
def opJoin (A : Abs) (x1 x2 x3 : Int32) : Int32 ⊕ Nat := if ixb 4 x1 = true then (if ixb 4 x2 = true then (if 0 ≤ x3 then .inl (if x3 = 0 then nI (cntb (lin A (vN x1) (vN x2)) (A.1 1 * A.1 0)) else if x3 = 1 then msk (fun i => !anyb (gpr A 0 (vN x1) 1 (vN x2) i) (A.1 1)) (A.1 0) else if x3 = 2 then msk (fun i => !anyb (gpr A 1 (vN x2) 0 (vN x1) i) (A.1 0)) (A.1 1) else match fsr (lin A (vN x1) (vN x2)) (vN x3 - 3) (A.1 1 * A.1 0) 0 0 with
  | none => -2
  | some p => nI (100 * (p / A.1 1) + p % A.1 1)) else .inr 1) else .inr 0) else .inr 0
theorem m_join {I : Mem} {R : Rem} {P : Pool} {A : Abs} {x1 x2 x3 : Int32} (hS : CSt I R P 1 A) (hA : AOk A) : f_X8_join x1 x2 x3 I = some (opJoin A x1 x2 x3) := by
  unfold opJoin f_X8_join
  rcases a_col x1 with ⟨l, hl, rfl, e0, b0, v0⟩ | ⟨e0, b0⟩
  rotate_left
  · rw [bs_r e0, b0]; rfl
  rcases a_col x2 with ⟨r, hr, rfl, e1, b1, v1⟩ | ⟨e1, b1⟩
  rotate_left
  · rw [bs_l e0, bs_r e1, b0, b1]; rfl
  by_cases hneg : x3 < 0
  · have hn : ¬ (0 : Int32) ≤ x3 := by rw [fa_lt] at hneg; rw [Int32.le_iff_toInt_le]; omega
    rw [bs_l e0, bs_l e1, if_neg hn, if_pos b0, if_pos b1, if_neg hn]
  obtain ⟨k, hk, rfl⟩ := nI_of hneg
  have hge : (0 : Int32) ≤ nI k := nI_le (a := 0) (by omega) (by omega)
  have h0 := hA.1 0 (by decide)
  have h1 := hA.1 1 (by decide)
  rw [bs_l e0, bs_l e1, if_pos hge, if_pos b0, if_pos b1, if_pos hge, v0, v1, vN_n (by omega)]
  by_cases k0 : k = 0
  · subst k0
    have g1 : f_X8_pairCount (nI l) (nI r) I = some (nI (cntb (lin A l r) (A.1 1 * A.1 0))) := by
      unfold f_X8_pairCount
      rw [bs_b (show f_X8_pairCount_L5 (nI l) (nI r) I fuel 0 0 = _ from k_pc_L hS hA hl hr (A.1 0) 0 fuel (by omega) (by unfold fuel; omega))]
    rw [if_pos (show nI 0 = 0 from rfl), if_pos (show nI 0 = 0 from rfl), bs_b g1]
  have n0 : ¬ nI k = 0 := nI_ne0 (by omega) (by omega)
  rw [if_neg n0, if_neg n0]
  by_cases k1 : k = 1
  · subst k1
    have g1 := k_rwp hS hA (show 0 < 2 by decide) hl (show 1 < 2 by decide) hr
    have g1 : f_X8_rowsWithoutPartner 0 (nI l) 1 (nI r) I = some (msk (fun i => !anyb (gpr A 0 l 1 r i) (A.1 1)) (A.1 0)) := g1
    rw [if_pos (show nI 1 = 1 from rfl), if_pos (show nI 1 = 1 from rfl), bs_b g1]
  have n1 : ¬ nI k = 1 := fun h => k1 (by rw [show (1 : Int32) = nI 1 from rfl, nI_eq (by omega) (by decide)] at h; exact h)
  rw [if_neg n1, if_neg n1]
  by_cases k2 : k = 2
  · subst k2
    have g1 := k_rwp hS hA (show 1 < 2 by decide) hr (show 0 < 2 by decide) hl
    have g1 : f_X8_rowsWithoutPartner 1 (nI r) 0 (nI l) I = some (msk (fun i => !anyb (gpr A 1 r 0 l i) (A.1 0)) (A.1 1)) := g1
    rw [if_pos (show nI 2 = 2 from rfl), if_pos (show nI 2 = 2 from rfl), bs_b g1]
  have n2 : ¬ nI k = 2 := fun h => k2 (by rw [show (2 : Int32) = nI 2 from rfl, nI_eq (by omega) (by decide)] at h; exact h)
  rw [if_neg n2, if_neg n2]
  have hs3 : nI k - 3 = nI (k - 3) := pk_sub (b := 3) (by omega)
  obtain ⟨z, g1, g2⟩ := k_pa hS hA hl hr (show k - 3 < 2147483648 by omega)
  rw [hs3, bs_b g1]
  refine congrArg (fun z => some (Sum.inl z)) (pr_uq g2 ?_)
  rcases fsr_s (h := lin A l r) (g := k - 3) (A.1 1 * A.1 0) 0 0 rfl (Nat.zero_le _) with ⟨w, j1, j2, j3, j4, j5⟩ | ⟨j1, j2⟩
  · rw [j1]
    have hp : 0 < A.1 1 := by
      rcases Nat.eq_zero_or_pos (A.1 1) with h | h
      · rw [h, Nat.zero_mul] at j3; omega
      · exact h
    have hd : w / A.1 1 < A.1 0 := Nat.div_lt_of_lt_mul (by omega)
    have hm := Nat.mod_lt w hp
    refine Or.inl ⟨w / A.1 1, w % A.1 1, hd, hm, j4, ?_, rfl⟩
    rw [Nat.div_add_mod]; exact j5
  · rw [j1]; exact Or.inr ⟨by rw [Nat.zero_add] at j2; exact j2, rfl⟩
def opAmong (A : Abs) (x1 x2 x3 : Int32) : Int32 ⊕ Nat := if ixb (A.1 0) x1 = true then (if ixb 4 x2 = true then (if ixb 4 x3 = true then .inl (amN A (A.2.1 0 (vN x1) (vN x2)) (vN x3) (A.1 1)) else .inr 0) else .inr 0) else .inr 0
theorem m_among {I : Mem} {R : Rem} {P : Pool} {A : Abs} {x1 x2 x3 : Int32} (hS : CSt I R P 1 A) (hA : AOk A) : f_X8_among x1 x2 x3 I = some (opAmong A x1 x2 x3) := by
  unfold opAmong f_X8_among
  rcases a_row (0 : Int32) x1 hS hA with ⟨t, r, ht, hr, et, rfl, e0, b0, v0, v1⟩ | ⟨e0, b0⟩
  rotate_left
  · have b0 : ixb (A.1 0) x1 = false := b0
    rw [bs_r e0, b0]; rfl
  rcases a_col x2 with ⟨l, hl, rfl, e1, b1, v2⟩ | ⟨e1, b1⟩
  rotate_left
  · have b0 : ixb (A.1 0) (nI r) = true := b0
    rw [bs_l e0, bs_r e1, b0, b1]; rfl
  rcases a_col x3 with ⟨c, hc, rfl, e2, b2, v3⟩ | ⟨e2, b2⟩
  rotate_left
  · have b0 : ixb (A.1 0) (nI r) = true := b0
    rw [bs_l e0, bs_l e1, bs_r e2, b0, b1, b2]; rfl
  have b0 : ixb (A.1 0) (nI r) = true := b0
  obtain rfl : t = 0 := by
    rcases (show t = 0 ∨ t = 1 by omega) with h | h
    · exact h
    · subst h; exact absurd et (by decide)
  have h1 := hA.1 1 (by decide)
  have g1 : f_X8_among_L36 (nI r) (nI l) (nI c) (A.2.1 0 r l) I fuel 0 0 = _ := k_am_L (x1 := nI r) (x2 := nI l) (x := A.2.1 0 r l) hS hA hc (A.1 1) 0 fuel (by omega) (by unfold fuel; omega)
  rw [if_pos b0, if_pos b1, if_pos b2, v1, v2, v3, bs_l e0, bs_l e1, bs_l e2, bs_b (show f_X8_place 0 (nI r) (nI l) = _ from k_place 0 r l), bs_b (k_cell hS hA (show 0 < 2 by decide) hr hl), bs_b g1]
def opFilter (A : Abs) (x1 x2 : Int32) : Int32 ⊕ Nat := if ixb 6 x1 = true then (if ixb 5 x2 = true then (if A.2.2.1 (vN x1) = [] then .inl (-2) else .inl (if x2 = 0 then nI (A.2.2.1 (vN x1)).length else if x2 = 1 then nI ((dS (A.2.2.1 (vN x1)) []).headD 0) else if x2 = 2 then tcA (A.2.2.1 (vN x1)) 0 else if x2 = 3 then clA (A.2.2.1 (vN x1)) 0 else nI (wAll (A.2.2.1 (vN x1)) [] [] []).length)) else .inr 1) else .inr 0
theorem m_filter {I : Mem} {R : Rem} {P : Pool} {A : Abs} {x1 x2 : Int32} (hS : CSt I R P 1 A) (hA : AOk A) : ∃ I', f_X8_filter x1 x2 P R I = some (opFilter A x1 x2, I') ∧ Eqx SC I I' := by
  unfold opFilter
  rcases a_slot x1 with ⟨s, hs, rfl, e0, b0, v0⟩ | ⟨e0, b0⟩
  rotate_left
  · exact ⟨I, by unfold f_X8_filter; rw [bs_r e0, b0]; rfl, Eqx.rf⟩
  rcases a_rng x2 (n := 4) (by decide) with ⟨w, hw, rfl, e1, b1, v1⟩ | ⟨e1, b1⟩
  rotate_left
  · have e1 : f_X8_requireRange x2 (4 : Int32) = some (.inr 1) := e1
    exact ⟨I, by unfold f_X8_filter; rw [bs_l e0, bs_r e1, b0, b1]; rfl, Eqx.rf⟩
  have e1 : f_X8_requireRange (nI w) (4 : Int32) = some (.inl ()) := e1
  rw [if_pos b0, if_pos b1, v0]
  rcases s_slot hS hA hs with ⟨o1, o2⟩ | ⟨k, o1, -, hF, hV⟩
  · exact ⟨I, by unfold f_X8_filter; rw [bs_l e0, bs_l e1, o1, if_pos o2]; rfl, Eqx.rf⟩
  have pre : f_X8_filter (nI s) (nI w) P R I = (if nI w = 0 then ((f_X2_size k P R).bind fun q9 => some (.inl q9, I)) else (if nI w = 1 then ((f_X1_depthOf (some k) P R I).bind fun q10 => some (.inl q10.1, q10.2)) else (if nI w = 2 then ((f_X2_testCount k P R I).bind fun q11 => some (.inl q11, I)) else (if nI w = 3 then ((f_X2_columnSet k P R I).bind fun q12 => some (.inl q12, I)) else ((f_X5_write (some k) P R I).bind fun q13 => (f_X5_length q13).bind fun q14 => some (.inl q14, q13)))))) := by
    unfold f_X8_filter
    rw [bs_l e0, bs_l e1, o1]
    rfl
  rw [pre, if_neg (fV_ne hV)]
  rcases (show w = 0 ∨ w = 1 ∨ w = 2 ∨ w = 3 ∨ w = 4 by omega) with rfl | rfl | rfl | rfl | rfl
  · exact ⟨I, by rw [if_pos (show nI 0 = 0 from rfl), if_pos (show nI 0 = 0 from rfl), bs_b (k_size hF)], Eqx.rf⟩
  · obtain ⟨I1, a1, a2⟩ := k_dep (P := P) hF hV
    exact ⟨I1, by rw [if_neg (show ¬ nI 1 = 0 by decide), if_pos (show nI 1 = 1 from rfl), if_neg (show ¬ nI 1 = 0 by decide), if_pos (show nI 1 = 1 from rfl), bs_b a1], a2.mono (by decide)⟩
  · exact ⟨I, by rw [if_neg (show ¬ nI 2 = 0 by decide), if_neg (show ¬ nI 2 = 1 by decide), if_pos (show nI 2 = 2 from rfl), if_neg (show ¬ nI 2 = 0 by decide), if_neg (show ¬ nI 2 = 1 by decide), if_pos (show nI 2 = 2 from rfl), bs_b (k_tc hF hV)], Eqx.rf⟩
  · exact ⟨I, by rw [if_neg (show ¬ nI 3 = 0 by decide), if_neg (show ¬ nI 3 = 1 by decide), if_neg (show ¬ nI 3 = 2 by decide), if_pos (show nI 3 = 3 from rfl), if_neg (show ¬ nI 3 = 0 by decide), if_neg (show ¬ nI 3 = 1 by decide), if_neg (show ¬ nI 3 = 2 by decide), if_pos (show nI 3 = 3 from rfl), bs_b (k_cl hF hV)], Eqx.rf⟩
  · obtain ⟨I1, a1, a2, a3, a4⟩ := k_wr (P := P) hF hV
    exact ⟨I1, by rw [if_neg (show ¬ nI 4 = 0 by decide), if_neg (show ¬ nI 4 = 1 by decide), if_neg (show ¬ nI 4 = 2 by decide), if_neg (show ¬ nI 4 = 3 by decide), if_neg (show ¬ nI 4 = 0 by decide), if_neg (show ¬ nI 4 = 1 by decide), if_neg (show ¬ nI 4 = 2 by decide), if_neg (show ¬ nI 4 = 3 by decide), bs_b a1, bs_b (show f_X5_length I1 = some (nI (wAll (A.2.2.1 s) [] [] []).length) by unfold f_X5_length; rw [a2.1])], a4.mono (by decide)⟩
def opLetter (A : Abs) (x1 x2 : Int32) : Int32 ⊕ Nat := if ixb 6 x1 = true then (if 0 ≤ x2 then (if A.2.2.1 (vN x1) = [] then .inl (-2) else match (wAll (A.2.2.1 (vN x1)) [] [] [])[vN x2]? with
  | none => .inl (-2)
  | some ch => .inl (nI ch)) else .inr 1) else .inr 0
theorem m_letter {I : Mem} {R : Rem} {P : Pool} {A : Abs} {x1 x2 : Int32} (hS : CSt I R P 1 A) (hA : AOk A) : ∃ I', f_X8_letter x1 x2 P R I = some (opLetter A x1 x2, I') ∧ Eqx SC I I' := by
  unfold opLetter f_X8_letter
  rcases a_slot x1 with ⟨s, hs, rfl, e0, b0, v0⟩ | ⟨e0, b0⟩
  rotate_left
  · exact ⟨I, by rw [bs_r e0, b0]; rfl, Eqx.rf⟩
  by_cases hx : 0 ≤ x2
  rotate_left
  · exact ⟨I, by rw [bs_l e0, if_neg hx, if_pos b0, if_neg hx], Eqx.rf⟩
  have hx0 : ¬ x2 < 0 := by rw [fa_lt]; rw [Int32.le_iff_toInt_le] at hx; omega
  obtain ⟨j, hj, rfl⟩ := nI_of hx0
  rw [bs_l e0, if_pos hx, if_pos b0, if_pos hx, v0, vN_n hj]
  rcases s_slot hS hA hs with ⟨o1, o2⟩ | ⟨k, o1, -, hF, hV⟩
  · exact ⟨I, by rw [o1, if_pos o2]; rfl, Eqx.rf⟩
  · obtain ⟨I1, a1, a2, a3, a4⟩ := k_wr (P := P) hF hV
    refine ⟨I1, ?_, a4.mono (by decide)⟩
    rw [bo_s o1, bs_b a1, if_neg (fV_ne hV)]
    generalize wAll (A.2.2.1 s) [] [] [] = T at a2 a3 ⊢
    unfold f_X5_codeAt
    rw [if_neg hx0, a2.1]
    by_cases e : T.length ≤ j
    · rw [if_pos (nI_le e (by omega)), List.getElem?_eq_none e]; rfl
    · have hlt : j < T.length := by omega
      have hg : T[j]? = some T[j] := List.getElem?_eq_getElem hlt
      rw [if_neg (nI_ge hlt (by omega)), bs_b (rd_e j rfl (by omega) (by decide)), a2.2 j _ hg, hg]; rfl
end MB62
