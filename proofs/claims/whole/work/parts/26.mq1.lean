/-! PURE PART 7: what the law wants of cell, truth, compare; slots and checks. -/
section MB6
theorem INV.ex {I : Mem} {R : Rem} {P : Pool} {σ : Gst} {k : Int32} (hC : CI I R P σ) (hM : MI I σ) (hO : GOk σ) : INV (up (up I 70 7 0) 70 7 k) R P :=
  INV.q hC hM hO Eqx.rf ((Eqx.up (by decide)).tr (Eqx.up (by decide))) (KM.thr.tr KM.thr)
theorem upL0 (f : Nat → Int64) (x : Int64) : vp_updL f 0 x 0 = x := by simp [vp_updL]
theorem s_slot {I : Mem} {R : Rem} {P : Pool} {A : Abs} {s : Nat} (h : CSt I R P 1 A) (hA : AOk A) (hs : s < 6) : (rdq R P 4 6 2 (nI s) = some none ∧ A.2.2.1 s = []) ∨ ∃ k, rdq R P 4 6 2 (nI s) = some (some k) ∧ Kd P k = 2 ∧ FObj I R P k (A.2.2.1 s) ∧ fV (A.2.2.1 s) := by
  have h1 := h.2.2.1 s hs
  cases ho : R (1 + 3) s with
  | none => rw [ho] at h1; exact Or.inl ⟨rdq_n s rfl hs (by decide) ho, h1⟩
  | some k =>
    rw [ho] at h1
    exact Or.inr ⟨k, rdq_s s rfl hs (by decide) ho h1.2.2.1, h1.2.2.1, h1.2, (hA.2.2 s (by omega)).resolve_left h1.1⟩
theorem s_check {I : Mem} {R : Rem} {P : Pool} {A : Abs} {t : Nat} (h : CSt I R P 1 A) (hA : AOk A) (ht : t < 2) : (rdq R P 5 2 2 (nI t) = some none ∧ A.2.2.1 (6 + t) = []) ∨ ∃ k, rdq R P 5 2 2 (nI t) = some (some k) ∧ Kd P k = 2 ∧ FObj I R P k (A.2.2.1 (6 + t)) ∧ fV (A.2.2.1 (6 + t)) := by
  have h1 := h.2.2.2.1 t ht
  cases ho : R (1 + 4) t with
  | none => rw [ho] at h1; exact Or.inl ⟨rdq_n t rfl ht (by decide) ho, h1⟩
  | some k =>
    rw [ho] at h1
    exact Or.inr ⟨k, rdq_s t rfl ht (by decide) ho h1.2.2.1, h1.2.2.1, h1.2, (hA.2.2 (6 + t) (by omega)).resolve_left h1.1⟩
theorem fV_len {L : List Nat} (h : fV L) : 0 < L.length ∧ L.length < 2 ^ 31 ∧ ¬ nI L.length = 0 := by
  have h1 := fV_ne h
  have h2 := h.2.2.1
  have h3 : 0 < L.length := List.length_pos_iff.mpr h1
  exact ⟨h3, by omega, nI_ne0 h3 (by omega)⟩
theorem r_parts0 {I : Mem} {A : Abs} {s : Nat} (h : RSt (I 71) A) (hs : s < 8) (he : A.2.2.1 s = []) : f_X9_parts (nI s) I = some 0 := by
  rw [r_parts hs (h.2.2.1 s hs), he]; rfl
theorem r_partsN {I : Mem} {A : Abs} {s : Nat} (h : RSt (I 71) A) (hs : s < 8) : f_X9_parts (nI s) I = some (nI (A.2.2.1 s).length) := r_parts hs (h.2.2.1 s hs)
theorem sub_SC1 : ∀ a ∈ [10, 12, 13, 14, 15], a ∈ SC := by decide
theorem sub_SM1 : ∀ a ∈ [70, 76, 77, 78], a ∈ SM := by decide
theorem st_cell : ST_cell INV := by
  intro I R P Z nx x1 x2 x3 hI hF0 hF1
  obtain ⟨σ, hC, hM, hO⟩ := hI
  have hA := hO.1
  have hM0 := hM.t0 (x := 0)
  rcases a_row x1 x2 hC.1 hA with ⟨t, r, ht, hr, rfl, rfl, e0, f0⟩ | ⟨e0, f0⟩
  rotate_left
  · exact ⟨(1, I, R, P, Z), (0, up (up I 70 7 0) 70 7 1), by unfold f_L_cell f_X8_cell; simp [e0, sm_l, sm_r], by unfold f_X9_cell; simp [f0 _ hM0.1, f_X9_refuses], (show up (up I 70 7 0) 70 7 1 70 7 = 1 from up_eq _ _ _ _), fun h => absurd (show (1 : Int32) = 0 from h) (by decide), INV.ex hC hM hO⟩
  rcases a_col x3 with ⟨c, hc, rfl, e1, f1⟩ | ⟨e1, f1⟩
  rotate_left
  · exact ⟨(1, I, R, P, Z), (0, up (up I 70 7 0) 70 7 1), by unfold f_L_cell f_X8_cell; simp [e0, e1, sm_l, sm_r], by unfold f_X9_cell; simp [f0 _ hM0.1, f1, f_X9_refuses], (show up (up I 70 7 0) 70 7 1 70 7 = 1 from up_eq _ _ _ _), fun h => absurd (show (1 : Int32) = 0 from h) (by decide), INV.ex hC hM hO⟩
  exact ⟨(0, I, R, P, (vp_updL Z.1 0 (σ.1.2.1 t r c).toInt64, Z.2)), (σ.1.2.1 t r c, up I 70 7 0), by unfold f_L_cell f_X8_cell; simp [e0, e1, sm_l, k_place, k_cell hC.1 hA ht hr hc], by unfold f_X9_cell; simp [f0 _ hM0.1, f1, r_of hM0.1 hA ht hr hc], (show up I 70 7 0 70 7 = 0 from up_eq _ _ _ _), fun _ => upL0 Z.1 _, INV.q hC hM hO Eqx.rf (Eqx.up (by decide)) KM.thr⟩
theorem st_truth : ST_truth INV := by
  intro I R P Z nx x1 x2 x3 hI hF0 hF1
  obtain ⟨σ, hC, hM, hO⟩ := hI
  have hA := hO.1
  have hM0 := hM.t0 (x := 0)
  rcases a_row x1 x2 hC.1 hA with ⟨t, r, ht, hr, rfl, rfl, e0, f0⟩ | ⟨e0, f0⟩
  rotate_left
  · exact ⟨(1, I, R, P, Z), (0, up (up I 70 7 0) 70 7 1), by unfold f_L_truth f_X8_truth; simp [e0, sm_l, sm_r], by unfold f_X9_truth; simp [f0 _ hM0.1, f_X9_refuses], (show up (up I 70 7 0) 70 7 1 70 7 = 1 from up_eq _ _ _ _), fun h => absurd (show (1 : Int32) = 0 from h) (by decide), INV.ex hC hM hO⟩
  rcases a_slot x3 with ⟨s, hs, rfl, e1, f1⟩ | ⟨e1, f1⟩
  rotate_left
  · exact ⟨(1, I, R, P, Z), (0, up (up I 70 7 0) 70 7 1), by unfold f_L_truth f_X8_truth; simp [e0, e1, sm_l, sm_r], by unfold f_X9_truth; simp [f0 _ hM0.1, f1, f_X9_refuses], (show up (up I 70 7 0) 70 7 1 70 7 = 1 from up_eq _ _ _ _), fun h => absurd (show (1 : Int32) = 0 from h) (by decide), INV.ex hC hM hO⟩
  rcases s_slot hC.1 hA hs with ⟨o1, o2⟩ | ⟨k, o1, o2, hF, hV⟩
  · exact ⟨(0, I, R, P, (vp_updL Z.1 0 (-2 : Int32).toInt64, Z.2)), (-2, up I 70 7 0), by unfold f_L_truth f_X8_truth; simp [e0, e1, sm_l, o1, oq_n], by unfold f_X9_truth; simp [f0 _ hM0.1, f1, r_parts0 hM0.1 (show s < 8 by omega) o2], (show up I 70 7 0 70 7 = 0 from up_eq _ _ _ _), fun _ => upL0 Z.1 _, INV.q hC hM hO Eqx.rf (Eqx.up (by decide)) KM.thr⟩
  · obtain ⟨I1, g1, g2⟩ := k_truthFor hC.1 hA ht hr hF hV
    have hE1 : Eqx SC I I1 := g2.mono sub_SC1
    have hM1 := (hM.sc hE1).t0 (x := 0)
    obtain ⟨I2, q1, q2, q3⟩ := r_truthAt hM1.1 hA ht hr (show s < 8 by omega) (hM1.1.2.2.1 s (by omega)) hV
    exact ⟨(0, I1, R, P, (vp_updL Z.1 0 (tvA σ.1 t r (σ.1.2.2.1 s)).toInt64, Z.2)), (tvA σ.1 t r (σ.1.2.2.1 s), I2), by unfold f_L_truth f_X8_truth; simp [e0, e1, sm_l, o1, oq_s, g1], by unfold f_X9_truth; simp [f0 _ hM1.1, f1, r_partsN hM1.1 (show s < 8 by omega), (fV_len hV).2.2, q1], (show I2 70 7 = 0 by rw [q3 7 (by decide), up_eq]), fun _ => upL0 Z.1 _, INV.q hC hM hO hE1 ((Eqx.up (by decide)).tr (q2.mono sub_SM1)) (KM.thr.tr q3.km)⟩
end MB6
