/-! PURE PART 9: compare, count, share. -/
section MB8
theorem cntb_s (b : Nat → Bool) (n : Nat) : cntb b (n + 1) = cntb b n + (if b n then 1 else 0) := rfl
def relB (w : Nat) (a b : Int32) : Bool := if w = 0 then decide (a = b) else if w = 1 then (decide (a = 2) && !decide (b = 2)) else !decide (b ≤ a)
theorem k_related {w : Nat} (hw : w ≤ 2) (a b : Int32) : f_X8_related a b (nI w) = some (if relB w a b then 1 else 0) := by
  unfold f_X8_related relB
  rcases (show w = 0 ∨ w = 1 ∨ w = 2 by omega) with rfl | rfl | rfl
  · rw [if_pos (show nI 0 = 0 from rfl)]
    by_cases h : a = b <;> simp [h]
  · rw [if_neg (show ¬ nI 1 = 0 by decide), if_pos (show nI 1 = 1 from rfl)]
    by_cases h : a = 2 <;> by_cases h2 : b = 2 <;> simp [h, h2]
  · rw [if_neg (show ¬ nI 2 = 0 by decide), if_neg (show ¬ nI 2 = 1 by decide)]
    by_cases h : b ≤ a <;> simp [h]
theorem r_related {w : Nat} (hw : w ≤ 2) (a b : Int32) : ((if nI w = 0 then (if a = b then some 1 else some 0) else (if nI w = 1 then (if a = 2 then (if b = 2 then some 0 else some 1) else some 0) else (if b ≤ a then some 0 else some 1))) : Option Int32) = some (if relB w a b then 1 else 0) := by
  unfold relB
  rcases (show w = 0 ∨ w = 1 ∨ w = 2 by omega) with rfl | rfl | rfl
  · rw [if_pos (show nI 0 = 0 from rfl)]
    by_cases h : a = b <;> simp [h]
  · rw [if_neg (show ¬ nI 1 = 0 by decide), if_pos (show nI 1 = 1 from rfl)]
    by_cases h : a = 2 <;> by_cases h2 : b = 2 <;> simp [h, h2]
  · rw [if_neg (show ¬ nI 2 = 0 by decide), if_neg (show ¬ nI 2 = 1 by decide)]
    by_cases h : b ≤ a <;> simp [h]
def cmpA (A : Abs) (t : Nat) (L M : List Nat) (w r : Nat) : Bool := relB w (tvA A t r L) (tvA A t r M)
theorem k_cmp_L {R : Rem} {P : Pool} {A : Abs} {t k k2 w : Nat} {L M : List Nat} {x2 x3 : Int32} (hA : AOk A) (ht : t < 2) (hV : fV L) (hV2 : fV M) (hw : w ≤ 2) : ∀ (d r n : Nat) (I : Mem), r + d = A.1 t → d < n → CSt I R P 1 A → FObj I R P k L → FObj I R P k2 M →
    ∃ I', f_X8_compare_L59 (nI t) x2 x3 (nI w) P k k2 R n (nI (cntb (cmpA A t L M w) r)) (nI r) I = some (nI (cntb (cmpA A t L M w) (A.1 t)), I') ∧ Eqx [10, 12, 13, 14, 15] I I'
  | 0, r, n, I, hr, hn, hS, hF, hF2 => by
    obtain ⟨n, rfl⟩ : ∃ m, n = m + 1 := ⟨n - 1, by omega⟩
    have e : r = A.1 t := by omega
    subst e
    have := hA.1 t ht
    refine ⟨I, ?_, Eqx.rf⟩
    unfold f_X8_compare_L59
    rw [k_cnt hS ht]
    simp only [Option.bind_some]
    rw [if_pos (nI_le (Nat.le_refl _) (by omega))]
  | d + 1, r, n, I, hr, hn, hS, hF, hF2 => by
    obtain ⟨n, rfl⟩ : ∃ m, n = m + 1 := ⟨n - 1, by omega⟩
    have hn16 := hA.1 t ht
    obtain ⟨I1, e1, e2⟩ := k_truthFor hS hA ht (show r < A.1 t by omega) hF hV
    obtain ⟨I2, g1, g2⟩ := k_truthFor (hS.eqx e2 (by decide) (by decide) (by decide) (by decide)) hA ht (show r < A.1 t by omega) (hF2.eqx e2 (by decide)) hV2
    have e3 := e2.tr g2
    obtain ⟨I3, f1, f2⟩ := k_cmp_L (x2 := x2) (x3 := x3) hA ht hV hV2 hw d (r + 1) n I2 (by omega) (by omega) (hS.eqx e3 (by decide) (by decide) (by decide) (by decide)) (hF.eqx e3 (by decide)) (hF2.eqx e3 (by decide))
    refine ⟨I3, ?_, e3.tr f2⟩
    rw [cntb_s (cmpA A t L M w) r] at f1
    unfold f_X8_compare_L59
    rw [k_cnt hS ht]
    simp only [Option.bind_some]
    rw [if_neg (nI_ge (by omega) (by omega)), e1]
    simp only [Option.bind_some]
    rw [g1]
    simp only [Option.bind_some]
    rw [k_related hw]
    simp only [Option.bind_some]
    rw [nI_1 r]
    by_cases e : cmpA A t L M w r = true
    · rw [if_pos e] at f1
      rw [if_pos (show relB w (tvA A t r L) (tvA A t r M) = true from e), if_neg (show ¬ (1 : Int32) = 0 by decide), nI_1]
      exact f1
    · rw [if_neg e] at f1
      rw [if_neg (show ¬ relB w (tvA A t r L) (tvA A t r M) = true from e), if_pos (show (0 : Int32) = 0 from rfl)]
      exact f1
theorem r_cmp_L {A : Abs} {t s u w : Nat} {L M : List Nat} (hA : AOk A) (ht : t < 2) (hs : s < 8) (hu : u < 8) (hV : fV L) (hV2 : fV M) (hw : w ≤ 2) : ∀ (d r n : Nat) (I : Mem), r + d = A.1 t → d < n → RSt (I 71) A → FRf (I 71) s L → FRf (I 71) u M →
    ∃ I', f_X9_compare_L73 (nI t) (nI s) (nI u) (nI w) n (nI (cntb (cmpA A t L M w) r)) (nI r) I = some (nI (cntb (cmpA A t L M w) (A.1 t)), I') ∧ Eqx [70, 76, 77, 78] I I' ∧ K11 I I'
  | 0, r, n, I, hr, hn, hS, hF, hF2 => by
    obtain ⟨n, rfl⟩ : ∃ m, n = m + 1 := ⟨n - 1, by omega⟩
    have e : r = A.1 t := by omega
    subst e
    have := hA.1 t ht
    refine ⟨I, ?_, Eqx.rf, fun _ _ => rfl⟩
    unfold f_X9_compare_L73
    rw [r_many hS ht]
    simp only [Option.bind_some]
    rw [if_pos (nI_le (Nat.le_refl _) (by omega))]
  | d + 1, r, n, I, hr, hn, hS, hF, hF2 => by
    obtain ⟨n, rfl⟩ : ∃ m, n = m + 1 := ⟨n - 1, by omega⟩
    have hn16 := hA.1 t ht
    obtain ⟨I1, e1, e2, e3⟩ := r_truthAt hS hA ht (show r < A.1 t by omega) hs hF hV
    have h71 := e2 71 (by decide)
    obtain ⟨I2, g1, g2, g3⟩ := r_truthAt (I := I1) (A := A) (by rw [h71]; exact hS) hA ht (show r < A.1 t by omega) hu (by rw [h71]; exact hF2) hV2
    have h72 : I2 71 = I 71 := (g2 71 (by decide)).trans h71
    obtain ⟨I3, f1, f2, f3⟩ := r_cmp_L hA ht hs hu hV hV2 hw d (r + 1) n I2 (by omega) (by omega) (by rw [h72]; exact hS) (by rw [h72]; exact hF) (by rw [h72]; exact hF2)
    refine ⟨I3, ?_, (e2.tr g2).tr f2, fun j hj => ((f3 j hj).trans (g3 j hj)).trans (e3 j hj)⟩
    rw [cntb_s (cmpA A t L M w) r] at f1
    unfold f_X9_compare_L73
    rw [r_many hS ht]
    simp only [Option.bind_some]
    rw [if_neg (nI_ge (by omega) (by omega)), e1]
    simp only [Option.bind_some]
    rw [g1]
    simp only [Option.bind_some]
    rw [r_related hw]
    simp only [Option.bind_some]
    rw [nI_1 r]
    by_cases e : cmpA A t L M w r = true
    · rw [if_pos e] at f1
      rw [if_pos (show relB w (tvA A t r L) (tvA A t r M) = true from e), if_neg (show ¬ (1 : Int32) = 0 by decide), nI_1]
      exact f1
    · rw [if_neg e] at f1
      rw [if_neg (show ¬ relB w (tvA A t r L) (tvA A t r M) = true from e), if_pos (show (0 : Int32) = 0 from rfl), show nI (cntb (cmpA A t L M w) r) + 0 = nI (cntb (cmpA A t L M w) r + 0) from nI_add _ 0]
      exact f1
theorem st_compare : ST_compare INV := by
  intro I R P Z nx x1 x2 x3 x4 hI hF0 hF1
  obtain ⟨σ, hC, hM, hO⟩ := hI
  have hA := hO.1
  have hM0 := hM.t0 (x := 0)
  rcases a_tab x1 with ⟨t, ht, rfl, e0, f0⟩ | ⟨e0, f0⟩
  rotate_left
  · exact ⟨(1, I, R, P, Z), (0, up (up I 70 7 0) 70 7 1), by unfold f_L_compare f_X8_compare; simp [e0, sm_l, sm_r], by unfold f_X9_compare; simp [f0, f_X9_refuses], (show up (up I 70 7 0) 70 7 1 70 7 = 1 from up_eq _ _ _ _), fun h => absurd (show (1 : Int32) = 0 from h) (by decide), INV.ex hC hM hO⟩
  rcases a_slot x2 with ⟨s, hs, rfl, e1, f1⟩ | ⟨e1, f1⟩
  rotate_left
  · exact ⟨(1, I, R, P, Z), (0, up (up I 70 7 0) 70 7 1), by unfold f_L_compare f_X8_compare; simp [e0, e1, sm_l, sm_r], by unfold f_X9_compare; simp [f0, f1, f_X9_refuses], (show up (up I 70 7 0) 70 7 1 70 7 = 1 from up_eq _ _ _ _), fun h => absurd (show (1 : Int32) = 0 from h) (by decide), INV.ex hC hM hO⟩
  rcases a_slot x3 with ⟨u, hu, rfl, e2, f2⟩ | ⟨e2, f2⟩
  rotate_left
  · exact ⟨(1, I, R, P, Z), (0, up (up I 70 7 0) 70 7 1), by unfold f_L_compare f_X8_compare; simp [e0, e1, e2, sm_l, sm_r], by unfold f_X9_compare; simp [f0, f1, f2, f_X9_refuses], (show up (up I 70 7 0) 70 7 1 70 7 = 1 from up_eq _ _ _ _), fun h => absurd (show (1 : Int32) = 0 from h) (by decide), INV.ex hC hM hO⟩
  rcases a_rng x4 (n := 2) (by decide) with ⟨w, hw, rfl, e3, f3⟩ | ⟨e3, f3⟩
  rotate_left
  · have e3 : f_X8_requireRange x4 (2 : Int32) = some (.inr 1) := e3
    have f3 : f_X9_in x4 0 (2 : Int32) = some 0 := f3
    exact ⟨(2, I, R, P, Z), (0, up (up I 70 7 0) 70 7 2), by unfold f_L_compare f_X8_compare; simp [e0, e1, e2, e3, sm_l, sm_r], by unfold f_X9_compare; simp [f0, f1, f2, f3, f_X9_refuses], (show up (up I 70 7 0) 70 7 2 70 7 = 2 from up_eq _ _ _ _), fun h => absurd (show (2 : Int32) = 0 from h) (by decide), INV.ex hC hM hO⟩
  have e3 : f_X8_requireRange (nI w) (2 : Int32) = some (.inl ()) := e3
  have f3 : f_X9_in (nI w) 0 (2 : Int32) = some 1 := f3
  rcases s_slot hC.1 hA hs with ⟨o1, o2⟩ | ⟨k, o1, o2, hF, hV⟩
  · rcases s_slot hC.1 hA hu with ⟨p1, p2⟩ | ⟨k2, p1, p2, hF2, hV2⟩
    · exact ⟨(0, I, R, P, (vp_updL Z.1 0 (-2).toInt64, Z.2)), (-2, up I 70 7 0), by unfold f_L_compare f_X8_compare; simp [e0, e1, e2, e3, sm_l, o1, p1, oq_n], by unfold f_X9_compare; simp [f0, f1, f2, f3, r_parts0 hM0.1 (show s < 8 by omega) o2], (show (up I 70 7 0) 70 7 = 0 from up_eq _ _ _ _), fun _ => upL0 Z.1 _, INV.q hC hM hO Eqx.rf (Eqx.up (by decide)) KM.thr⟩
    · exact ⟨(0, I, R, P, (vp_updL Z.1 0 (-2).toInt64, Z.2)), (-2, up I 70 7 0), by unfold f_L_compare f_X8_compare; simp [e0, e1, e2, e3, sm_l, o1, p1, oq_n], by unfold f_X9_compare; simp [f0, f1, f2, f3, r_parts0 hM0.1 (show s < 8 by omega) o2], (show (up I 70 7 0) 70 7 = 0 from up_eq _ _ _ _), fun _ => upL0 Z.1 _, INV.q hC hM hO Eqx.rf (Eqx.up (by decide)) KM.thr⟩
  · rcases s_slot hC.1 hA hu with ⟨p1, p2⟩ | ⟨k2, p1, p2, hF2, hV2⟩
    · exact ⟨(0, I, R, P, (vp_updL Z.1 0 (-2).toInt64, Z.2)), (-2, up I 70 7 0), by unfold f_L_compare f_X8_compare; simp [e0, e1, e2, e3, sm_l, o1, p1, oq_n, oq_s], by unfold f_X9_compare; simp [f0, f1, f2, f3, r_partsN hM0.1 (show s < 8 by omega), (fV_len hV).2.2, r_parts0 hM0.1 (show u < 8 by omega) p2], (show (up I 70 7 0) 70 7 = 0 from up_eq _ _ _ _), fun _ => upL0 Z.1 _, INV.q hC hM hO Eqx.rf (Eqx.up (by decide)) KM.thr⟩
    · have h16 := hA.1 t ht
      obtain ⟨I1, g1, g2⟩ := k_cmp_L (x2 := nI s) (x3 := nI u) hA ht hV hV2 (show w ≤ 2 by omega) (σ.1.1 t) 0 fuel I (by omega) (by unfold fuel; omega) hC.1 hF hF2
      have g1 : f_X8_compare_L59 (nI t) (nI s) (nI u) (nI w) P k k2 R fuel 0 0 I = some (nI (cntb (cmpA σ.1 t (σ.1.2.2.1 s) (σ.1.2.2.1 u) w) (σ.1.1 t)), I1) := g1
      have hE1 : Eqx SC I I1 := g2.mono sub_SC1
      have hM1 := (hM.sc hE1).t0 (x := 0)
      obtain ⟨I2, q1, q2, q3⟩ := r_cmp_L hA ht (show s < 8 by omega) (show u < 8 by omega) hV hV2 (show w ≤ 2 by omega) (σ.1.1 t) 0 fuel (up I1 70 7 0) (by omega) (by unfold fuel; omega) hM1.1 (hM1.1.2.2.1 s (by omega)) (hM1.1.2.2.1 u (by omega))
      have q1 : f_X9_compare_L73 (nI t) (nI s) (nI u) (nI w) fuel 0 0 (up I1 70 7 0) = some (nI (cntb (cmpA σ.1 t (σ.1.2.2.1 s) (σ.1.2.2.1 u) w) (σ.1.1 t)), I2) := q1
      exact ⟨(0, I1, R, P, (vp_updL Z.1 0 (nI (cntb (cmpA σ.1 t (σ.1.2.2.1 s) (σ.1.2.2.1 u) w) (σ.1.1 t))).toInt64, Z.2)), (nI (cntb (cmpA σ.1 t (σ.1.2.2.1 s) (σ.1.2.2.1 u) w) (σ.1.1 t)), I2), by unfold f_L_compare f_X8_compare; simp [e0, e1, e2, e3, sm_l, o1, p1, oq_s, g1], by unfold f_X9_compare; simp [f0, f1, f2, f3, r_partsN hM1.1 (show s < 8 by omega), (fV_len hV).2.2, r_partsN hM1.1 (show u < 8 by omega), (fV_len hV2).2.2, q1], (show I2 70 7 = 0 by rw [q3 7 (by decide), up_eq]), fun _ => upL0 Z.1 _, INV.q hC hM hO hE1 ((Eqx.up (by decide)).tr (q2.mono sub_SM1)) (KM.thr.tr q3.km)⟩
theorem k_countRows {I : Mem} {R : Rem} {P : Pool} {A : Abs} {t k : Nat} {L : List Nat} {v : Int32} (hS : CSt I R P 1 A) (hA : AOk A) (ht : t < 2) (hF : FObj I R P k L) (hV : fV L) : ∃ I', f_X8_countRows (nI t) (some k) v P R I = some (nI (cntb (fun r => decide (tvA A t r L = v)) (A.1 t)), I') ∧ Eqx [10, 12, 13, 14, 15] I I' := by
  obtain ⟨I', e1, e2⟩ := k_rowsWith (v := v) hS hA ht hF hV
  refine ⟨I', ?_, e2⟩
  unfold f_X8_countRows
  rw [oq_s, e1]
  simp only [Option.bind_some]
  unfold tmask
  rw [k_bitsM (hA.1 t ht)]
  rfl
theorem k_filled_L {R : Rem} {P : Pool} {A : Abs} {I : Mem} (hS : CSt I R P 1 A) (hA : AOk A) : ∀ (d s n : Nat), s + d = 6 → d < n → f_X8_filledSlots_L4 P R n (nI (cntb (fun s => !decide (A.2.2.1 s = [])) s)) (nI s) = some (nI (cntb (fun s => !decide (A.2.2.1 s = [])) 6))
  | 0, s, n, hs, hn => by
    obtain ⟨n, rfl⟩ : ∃ m, n = m + 1 := ⟨n - 1, by omega⟩
    have e : s = 6 := by omega
    subst e
    unfold f_X8_filledSlots_L4
    rw [if_pos (show (6 : Int32) ≤ nI 6 by decide)]
  | d + 1, s, n, hs, hn => by
    obtain ⟨n, rfl⟩ : ∃ m, n = m + 1 := ⟨n - 1, by omega⟩
    have ih := k_filled_L hS hA d (s + 1) n (by omega) (by omega)
    rw [show cntb (fun s => !decide (A.2.2.1 s = [])) (s + 1) = cntb (fun s => !decide (A.2.2.1 s = [])) s + (if (!decide (A.2.2.1 s = [])) = true then 1 else 0) from rfl] at ih
    unfold f_X8_filledSlots_L4
    rw [if_neg (show ¬ (6 : Int32) ≤ nI s from nI_ge (b := 6) (by omega) (by decide)), nI_1]
    rcases s_slot hS hA (show s < 6 by omega) with ⟨o1, o2⟩ | ⟨k, o1, o2, hF, hV⟩
    · rw [o1]
      simp only [Option.bind_some, oq_n]
      rw [o2] at ih
      exact ih
    · rw [o1]
      simp only [Option.bind_some, oq_s]
      rw [if_pos (show (!decide (A.2.2.1 s = [])) = true by simp [fV_ne hV])] at ih
      rw [nI_1]
      exact ih
theorem r_filled_L {A : Abs} {I : Mem} (hS : RSt (I 71) A) (hA : AOk A) : ∀ (d s n : Nat), s + d = 6 → d < n → f_X9_filters_L4 I n (nI (cntb (fun s => !decide (A.2.2.1 s = [])) s)) (nI s) = some (nI (cntb (fun s => !decide (A.2.2.1 s = [])) 6))
  | 0, s, n, hs, hn => by
    obtain ⟨n, rfl⟩ : ∃ m, n = m + 1 := ⟨n - 1, by omega⟩
    have e : s = 6 := by omega
    subst e
    unfold f_X9_filters_L4
    rw [if_pos (show (6 : Int32) ≤ nI 6 by decide)]
  | d + 1, s, n, hs, hn => by
    obtain ⟨n, rfl⟩ : ∃ m, n = m + 1 := ⟨n - 1, by omega⟩
    have ih := r_filled_L hS hA d (s + 1) n (by omega) (by omega)
    rw [show cntb (fun s => !decide (A.2.2.1 s = [])) (s + 1) = cntb (fun s => !decide (A.2.2.1 s = [])) s + (if (!decide (A.2.2.1 s = [])) = true then 1 else 0) from rfl] at ih
    unfold f_X9_filters_L4
    rw [if_neg (show ¬ (6 : Int32) ≤ nI s from nI_ge (b := 6) (by omega) (by decide)), nI_1, r_partsN hS (show s < 8 by omega)]
    simp only [Option.bind_some]
    rcases hA.2.2 s (by omega) with o2 | hV
    · rw [o2] at ih ⊢
      rw [if_pos (show nI ([] : List Nat).length ≤ 0 by decide), show nI (cntb (fun s => !decide (A.2.2.1 s = [])) s) + 0 = nI (cntb (fun s => !decide (A.2.2.1 s = [])) s + 0) from nI_add _ 0]
      exact ih
    · rw [if_pos (show (!decide (A.2.2.1 s = [])) = true by simp [fV_ne hV])] at ih
      rw [if_neg (nI_nle (fV_len hV).1 (fV_len hV).2.1), nI_1]
      exact ih
theorem r_doubted {I : Mem} {A : Abs} {t : Nat} (h : RSt (I 71) A) (hA : AOk A) (ht : t < 2) : (A.2.2.1 (6 + t) = [] ∧ f_X9_doubted (nI t) I = some (0, I)) ∨ (fV (A.2.2.1 (6 + t)) ∧ ∃ I', f_X9_doubted (nI t) I = some (nI (cntb (fun r => decide (tvA A t r (A.2.2.1 (6 + t)) = 1)) (A.1 t)), I') ∧ Eqx [70, 76, 77, 78] I I' ∧ K11 I I') := by
  have e6 : (6 : Int32) + nI t = nI (6 + t) := nI_add 6 t
  rcases hA.2.2 (6 + t) (by omega) with o2 | hV
  · refine Or.inl ⟨o2, ?_⟩
    unfold f_X9_doubted
    rw [e6, r_parts0 h (by omega) o2]
    rfl
  · refine Or.inr ⟨hV, ?_⟩
    obtain ⟨I', e1, e2, e3⟩ := r_rowsOf (v := 1) h hA ht (show 6 + t < 8 by omega) (h.2.2.1 _ (by omega)) hV
    refine ⟨I', ?_, e2, e3⟩
    unfold f_X9_doubted
    rw [e6, r_partsN h (by omega)]
    simp only [Option.bind_some]
    rw [if_neg (fV_len hV).2.2, e1]
    simp only [Option.bind_some]
    unfold tmask
    rw [r_bitsM (hA.1 t ht)]
    rfl
theorem st_count : ST_count INV := by
  intro I R P Z nx x1 hI hF0 hF1
  obtain ⟨σ, hC, hM, hO⟩ := hI
  have hA := hO.1
  have hM0 := hM.t0 (x := 0)
  rcases pk_ix x1 (n := 8) (by decide) with h | h | ⟨j, hj, rfl⟩
  · have hne : ∀ k, k < 8 → ¬ x1 = nI k := fun k hk e => by subst e; exact absurd h (nI_pos (by omega))
    exact ⟨(1, I, R, P, Z), (0, up (up I 70 7 0) 70 7 1), by unfold f_L_count f_X8_count f_X8_requireRange; simp [h, sm_r], by unfold f_X9_count; rw [if_neg (show ¬ x1 = 0 from hne 0 (by decide)), if_neg (show ¬ x1 = 1 from hne 1 (by decide)), if_neg (show ¬ x1 = 2 from hne 2 (by decide)), if_neg (show ¬ x1 = 3 from hne 3 (by decide)), if_neg (show ¬ x1 = 4 from hne 4 (by decide)), if_neg (show ¬ x1 = 5 from hne 5 (by decide)), if_neg (show ¬ x1 = 6 from hne 6 (by decide)), if_neg (show ¬ x1 = 7 from hne 7 (by decide))]; rfl, (show up (up I 70 7 0) 70 7 1 70 7 = 1 from up_eq _ _ _ _), fun h => absurd (show (1 : Int32) = 0 from h) (by decide), INV.ex hC hM hO⟩
  · have hne : ∀ k, k < 8 → ¬ x1 = nI k := fun k hk e => by subst e; exact absurd h (nI_ge (b := 8) hk (by decide))
    have h0 : ¬ x1 < 0 := by rw [Int32.le_iff_toInt_le, nI_toInt (by decide)] at h; rw [fa_lt]; have m0 : (0 : Int32).toInt = 0 := rfl; rw [m0]; omega
    have h7 : ¬ x1 ≤ 7 := by rw [Int32.le_iff_toInt_le] at h ⊢; have m7 : (7 : Int32).toInt = 7 := rfl; have m8 : (nI 8).toInt = 8 := rfl; rw [m7]; rw [m8] at h; omega
    exact ⟨(1, I, R, P, Z), (0, up (up I 70 7 0) 70 7 1), by unfold f_L_count f_X8_count f_X8_requireRange; simp [h0, h7, sm_r], by unfold f_X9_count; rw [if_neg (show ¬ x1 = 0 from hne 0 (by decide)), if_neg (show ¬ x1 = 1 from hne 1 (by decide)), if_neg (show ¬ x1 = 2 from hne 2 (by decide)), if_neg (show ¬ x1 = 3 from hne 3 (by decide)), if_neg (show ¬ x1 = 4 from hne 4 (by decide)), if_neg (show ¬ x1 = 5 from hne 5 (by decide)), if_neg (show ¬ x1 = 6 from hne 6 (by decide)), if_neg (show ¬ x1 = 7 from hne 7 (by decide))]; rfl, (show up (up I 70 7 0) 70 7 1 70 7 = 1 from up_eq _ _ _ _), fun h => absurd (show (1 : Int32) = 0 from h) (by decide), INV.ex hC hM hO⟩
  · have e0 : f_X8_requireRange (nI j) 7 = some (.inl ()) := by
      unfold f_X8_requireRange; rw [if_neg (nI_pos (by omega)), if_pos (show nI j ≤ 7 from nI_le (b := 7) (by omega) (by decide))]
    rcases (show j = 0 ∨ j = 1 ∨ j = 2 ∨ j = 3 ∨ j = 4 ∨ j = 5 ∨ j = 6 ∨ j = 7 by omega) with rfl | rfl | rfl | rfl | rfl | rfl | rfl | rfl
    · exact ⟨(0, I, R, P, (vp_updL Z.1 0 (nI (σ.1.1 0)).toInt64, Z.2)), (nI (σ.1.1 0), up I 70 7 0), by
        unfold f_L_count f_X8_count
        rw [e0]
        simp only [Option.bind_some, sm_l]
        rw [if_pos (show nI 0 = 0 from rfl)]
        rw [k_cnt hC.1 (show 0 < 2 by decide)]; rfl, by
        unfold f_X9_count
        rw [if_pos (show nI 0 = 0 from rfl)]
        rw [r_many hM0.1 (show 0 < 2 by decide)]; rfl, (show (up I 70 7 0) 70 7 = 0 from up_eq _ _ _ _), fun _ => upL0 Z.1 _, INV.q hC hM hO Eqx.rf (Eqx.up (by decide)) KM.thr⟩
    · exact ⟨(0, I, R, P, (vp_updL Z.1 0 (nI (σ.1.1 1)).toInt64, Z.2)), (nI (σ.1.1 1), up I 70 7 0), by
        unfold f_L_count f_X8_count
        rw [e0]
        simp only [Option.bind_some, sm_l]
        rw [if_neg (show ¬ nI 1 = 0 by decide), if_pos (show nI 1 = 1 from rfl)]
        rw [k_cnt hC.1 (show 1 < 2 by decide)]; rfl, by
        unfold f_X9_count
        rw [if_neg (show ¬ nI 1 = 0 by decide), if_pos (show nI 1 = 1 from rfl)]
        rw [r_many hM0.1 (show 1 < 2 by decide)]; rfl, (show (up I 70 7 0) 70 7 = 0 from up_eq _ _ _ _), fun _ => upL0 Z.1 _, INV.q hC hM hO Eqx.rf (Eqx.up (by decide)) KM.thr⟩
    · exact ⟨(0, I, R, P, (vp_updL Z.1 0 (nI (cntb (fun s => !decide (σ.1.2.2.1 s = [])) 6)).toInt64, Z.2)), (nI (cntb (fun s => !decide (σ.1.2.2.1 s = [])) 6), up I 70 7 0), by
        unfold f_L_count f_X8_count
        rw [e0]
        simp only [Option.bind_some, sm_l]
        rw [if_neg (show ¬ nI 2 = 0 by decide), if_neg (show ¬ nI 2 = 1 by decide), if_pos (show nI 2 = 2 from rfl)]
        unfold f_X8_filledSlots; rw [show f_X8_filledSlots_L4 P R fuel 0 0 = _ from k_filled_L hC.1 hA 6 0 fuel rfl (by unfold fuel; omega)]; rfl, by
        unfold f_X9_count
        rw [if_neg (show ¬ nI 2 = 0 by decide), if_neg (show ¬ nI 2 = 1 by decide), if_pos (show nI 2 = 2 from rfl)]
        unfold f_X9_filters; rw [show f_X9_filters_L4 (up I 70 7 0) fuel 0 0 = _ from r_filled_L hM0.1 hA 6 0 fuel rfl (by unfold fuel; omega)]; rfl, (show (up I 70 7 0) 70 7 = 0 from up_eq _ _ _ _), fun _ => upL0 Z.1 _, INV.q hC hM hO Eqx.rf (Eqx.up (by decide)) KM.thr⟩
    · have e3 : (nI 3 : Int32) - 3 = nI 0 := pk_sub (a := 3) (b := 3) (by decide)
      rcases s_check hC.1 hA (show 0 < 2 by decide) with ⟨o1, o2⟩ | ⟨k, o1, o2, hF, hV⟩
      · rcases r_doubted hM0.1 hA (show 0 < 2 by decide) with ⟨d1, d2⟩ | ⟨d1, -⟩
        · exact ⟨(0, I, R, P, (vp_updL Z.1 0 (0).toInt64, Z.2)), (0, up I 70 7 0), by
        unfold f_L_count f_X8_count
        rw [e0]
        simp only [Option.bind_some, sm_l]
        rw [if_neg (show ¬ nI 3 = 0 by decide), if_neg (show ¬ nI 3 = 1 by decide), if_neg (show ¬ nI 3 = 2 by decide), if_pos (show nI 3 = 3 from rfl)]
        rw [e3, o1]; rfl, by
        unfold f_X9_count
        rw [if_neg (show ¬ nI 3 = 0 by decide), if_neg (show ¬ nI 3 = 1 by decide), if_neg (show ¬ nI 3 = 2 by decide), if_pos (show nI 3 = 3 from rfl)]
        rw [e3, d2]; rfl, (show (up I 70 7 0) 70 7 = 0 from up_eq _ _ _ _), fun _ => upL0 Z.1 _, INV.q hC hM hO Eqx.rf (Eqx.up (by decide)) KM.thr⟩
        · exact absurd o2 (fV_ne d1)
      · obtain ⟨I1, g1, g2⟩ := k_countRows (v := 1) hC.1 hA (show 0 < 2 by decide) hF hV
        have hE1 : Eqx SC I I1 := g2.mono sub_SC1
        have hM1 := (hM.sc hE1).t0 (x := 0)
        rcases r_doubted hM1.1 hA (show 0 < 2 by decide) with ⟨d1, d2⟩ | ⟨-, I2, q1, q2, q3⟩
        · exact absurd d1 (fV_ne hV)
        · exact ⟨(0, I1, R, P, (vp_updL Z.1 0 (nI (cntb (fun r => decide (tvA σ.1 0 r (σ.1.2.2.1 (6 + 0)) = 1)) (σ.1.1 0))).toInt64, Z.2)), (nI (cntb (fun r => decide (tvA σ.1 0 r (σ.1.2.2.1 (6 + 0)) = 1)) (σ.1.1 0)), I2), by
        unfold f_L_count f_X8_count
        rw [e0]
        simp only [Option.bind_some, sm_l]
        rw [if_neg (show ¬ nI 3 = 0 by decide), if_neg (show ¬ nI 3 = 1 by decide), if_neg (show ¬ nI 3 = 2 by decide), if_pos (show nI 3 = 3 from rfl)]
        rw [e3, o1]; simp only [Option.bind_some]; rw [g1]; rfl, by
        unfold f_X9_count
        rw [if_neg (show ¬ nI 3 = 0 by decide), if_neg (show ¬ nI 3 = 1 by decide), if_neg (show ¬ nI 3 = 2 by decide), if_pos (show nI 3 = 3 from rfl)]
        rw [e3, q1]; rfl, (show I2 70 7 = 0 by rw [q3 7 (by decide), up_eq]), fun _ => upL0 Z.1 _, INV.q hC hM hO hE1 ((Eqx.up (by decide)).tr (q2.mono sub_SM1)) (KM.thr.tr q3.km)⟩
    · have e3 : (nI 4 : Int32) - 3 = nI 1 := pk_sub (a := 4) (b := 3) (by decide)
      rcases s_check hC.1 hA (show 1 < 2 by decide) with ⟨o1, o2⟩ | ⟨k, o1, o2, hF, hV⟩
      · rcases r_doubted hM0.1 hA (show 1 < 2 by decide) with ⟨d1, d2⟩ | ⟨d1, -⟩
        · exact ⟨(0, I, R, P, (vp_updL Z.1 0 (0).toInt64, Z.2)), (0, up I 70 7 0), by
        unfold f_L_count f_X8_count
        rw [e0]
        simp only [Option.bind_some, sm_l]
        rw [if_neg (show ¬ nI 4 = 0 by decide), if_neg (show ¬ nI 4 = 1 by decide), if_neg (show ¬ nI 4 = 2 by decide), if_neg (show ¬ nI 4 = 3 by decide), if_pos (show nI 4 = 4 from rfl)]
        rw [e3, o1]; rfl, by
        unfold f_X9_count
        rw [if_neg (show ¬ nI 4 = 0 by decide), if_neg (show ¬ nI 4 = 1 by decide), if_neg (show ¬ nI 4 = 2 by decide), if_neg (show ¬ nI 4 = 3 by decide), if_pos (show nI 4 = 4 from rfl)]
        rw [e3, d2]; rfl, (show (up I 70 7 0) 70 7 = 0 from up_eq _ _ _ _), fun _ => upL0 Z.1 _, INV.q hC hM hO Eqx.rf (Eqx.up (by decide)) KM.thr⟩
        · exact absurd o2 (fV_ne d1)
      · obtain ⟨I1, g1, g2⟩ := k_countRows (v := 1) hC.1 hA (show 1 < 2 by decide) hF hV
        have hE1 : Eqx SC I I1 := g2.mono sub_SC1
        have hM1 := (hM.sc hE1).t0 (x := 0)
        rcases r_doubted hM1.1 hA (show 1 < 2 by decide) with ⟨d1, d2⟩ | ⟨-, I2, q1, q2, q3⟩
        · exact absurd d1 (fV_ne hV)
        · exact ⟨(0, I1, R, P, (vp_updL Z.1 0 (nI (cntb (fun r => decide (tvA σ.1 1 r (σ.1.2.2.1 (6 + 1)) = 1)) (σ.1.1 1))).toInt64, Z.2)), (nI (cntb (fun r => decide (tvA σ.1 1 r (σ.1.2.2.1 (6 + 1)) = 1)) (σ.1.1 1)), I2), by
        unfold f_L_count f_X8_count
        rw [e0]
        simp only [Option.bind_some, sm_l]
        rw [if_neg (show ¬ nI 4 = 0 by decide), if_neg (show ¬ nI 4 = 1 by decide), if_neg (show ¬ nI 4 = 2 by decide), if_neg (show ¬ nI 4 = 3 by decide), if_pos (show nI 4 = 4 from rfl)]
        rw [e3, o1]; simp only [Option.bind_some]; rw [g1]; rfl, by
        unfold f_X9_count
        rw [if_neg (show ¬ nI 4 = 0 by decide), if_neg (show ¬ nI 4 = 1 by decide), if_neg (show ¬ nI 4 = 2 by decide), if_neg (show ¬ nI 4 = 3 by decide), if_pos (show nI 4 = 4 from rfl)]
        rw [e3, q1]; rfl, (show I2 70 7 = 0 by rw [q3 7 (by decide), up_eq]), fun _ => upL0 Z.1 _, INV.q hC hM hO hE1 ((Eqx.up (by decide)).tr (q2.mono sub_SM1)) (KM.thr.tr q3.km)⟩
    · exact ⟨(0, I, R, P, (vp_updL Z.1 0 (σ.1.2.2.2).toInt64, Z.2)), (σ.1.2.2.2, up I 70 7 0), by
        unfold f_L_count f_X8_count
        rw [e0]
        simp only [Option.bind_some, sm_l]
        rw [if_neg (show ¬ nI 5 = 0 by decide), if_neg (show ¬ nI 5 = 1 by decide), if_neg (show ¬ nI 5 = 2 by decide), if_neg (show ¬ nI 5 = 3 by decide), if_neg (show ¬ nI 5 = 4 by decide), if_pos (show nI 5 = 5 from rfl)]
        rw [hC.1.2.2.2.2]; rfl, by
        unfold f_X9_count
        rw [if_neg (show ¬ nI 5 = 0 by decide), if_neg (show ¬ nI 5 = 1 by decide), if_neg (show ¬ nI 5 = 2 by decide), if_neg (show ¬ nI 5 = 3 by decide), if_neg (show ¬ nI 5 = 4 by decide), if_pos (show nI 5 = 5 from rfl)]
        rw [rd_e 618 (show (618 : Int32) = nI 618 from rfl) (by decide) (by decide), hM0.1.2.2.2]; rfl, (show (up I 70 7 0) 70 7 = 0 from up_eq _ _ _ _), fun _ => upL0 Z.1 _, INV.q hC hM hO Eqx.rf (Eqx.up (by decide)) KM.thr⟩
    · exact ⟨(0, I, R, P, (vp_updL Z.1 0 (nI σ.2.1.length).toInt64, Z.2)), (nI σ.2.1.length, up I 70 7 0), by
        unfold f_L_count f_X8_count
        rw [e0]
        simp only [Option.bind_some, sm_l]
        rw [if_neg (show ¬ nI 6 = 0 by decide), if_neg (show ¬ nI 6 = 1 by decide), if_neg (show ¬ nI 6 = 2 by decide), if_neg (show ¬ nI 6 = 3 by decide), if_neg (show ¬ nI 6 = 4 by decide), if_neg (show ¬ nI 6 = 5 by decide), if_pos (show nI 6 = 6 from rfl)]
        rw [hC.2.1.1]; rfl, by
        unfold f_X9_count
        rw [if_neg (show ¬ nI 6 = 0 by decide), if_neg (show ¬ nI 6 = 1 by decide), if_neg (show ¬ nI 6 = 2 by decide), if_neg (show ¬ nI 6 = 3 by decide), if_neg (show ¬ nI 6 = 4 by decide), if_neg (show ¬ nI 6 = 5 by decide), if_pos (show nI 6 = 6 from rfl)]
        dsimp only; rw [up_nk _ _ (show 2 ≠ 7 by decide), hM.2.1.1], (show (up I 70 7 0) 70 7 = 0 from up_eq _ _ _ _), fun _ => upL0 Z.1 _, INV.q hC hM hO Eqx.rf (Eqx.up (by decide)) KM.thr⟩
    · exact ⟨(0, I, R, P, (vp_updL Z.1 0 (nI σ.2.2.2.length).toInt64, Z.2)), (nI σ.2.2.2.length, up I 70 7 0), by
        unfold f_L_count f_X8_count
        rw [e0]
        simp only [Option.bind_some, sm_l]
        rw [if_neg (show ¬ nI 7 = 0 by decide), if_neg (show ¬ nI 7 = 1 by decide), if_neg (show ¬ nI 7 = 2 by decide), if_neg (show ¬ nI 7 = 3 by decide), if_neg (show ¬ nI 7 = 4 by decide), if_neg (show ¬ nI 7 = 5 by decide), if_neg (show ¬ nI 7 = 6 by decide)]
        rw [hC.2.2.2.1]; rfl, by
        unfold f_X9_count
        rw [if_neg (show ¬ nI 7 = 0 by decide), if_neg (show ¬ nI 7 = 1 by decide), if_neg (show ¬ nI 7 = 2 by decide), if_neg (show ¬ nI 7 = 3 by decide), if_neg (show ¬ nI 7 = 4 by decide), if_neg (show ¬ nI 7 = 5 by decide), if_neg (show ¬ nI 7 = 6 by decide), if_pos (show nI 7 = 7 from rfl)]
        dsimp only; rw [up_nk _ _ (show 6 ≠ 7 by decide), hM.2.2.2.1], (show (up I 70 7 0) 70 7 = 0 from up_eq _ _ _ _), fun _ => upL0 Z.1 _, INV.q hC hM hO Eqx.rf (Eqx.up (by decide)) KM.thr⟩
theorem fp_tab : ∀ n, n < 17 → ∀ k, k < 17 → k ≤ n → 0 < n → (FP.ddiv (FP.i2d (nI k)) (FP.i2d (nI n)) &&& 0x7fffffffffffffff ≤ 0x7ff0000000000000) ∧ Op.cmpValue (FP.dcmp (FP.ddiv (FP.i2d (nI k)) (FP.i2d (nI n))) (FP.ddiv (FP.i2d (nI k)) (FP.i2d (nI n)))) .l = 0 := by decide +kernel
theorem fp_zero : ∀ n, n < 17 → (Op.cmpValue (FP.dcmp (FP.i2d (nI n)) FP.dconst0) .l = 0 ↔ n = 0) := by decide +kernel
theorem fp_00 : Op.cmpValue (FP.dcmp FP.dconst0 FP.dconst0) .l = 0 := by decide +kernel
theorem fp_i0 : FP.i2d (nI 0) = FP.dconst0 := by decide +kernel
theorem upD0 (f : Nat → UInt64) (x : UInt64) : vf_upd f 0 x 0 = x := by simp [vf_upd]
theorem st_share : ST_share INV := by
  intro I R P Z nx x1 x2 hI hF0 hF1
  obtain ⟨σ, hC, hM, hO⟩ := hI
  have hA := hO.1
  have hM0 := hM.t0 (x := 0)
  rcases a_tab x1 with ⟨t, ht, rfl, e0, f0⟩ | ⟨e0, f0⟩
  rotate_left
  · exact ⟨(1, I, R, P, Z), (FP.dconst0, up (up I 70 7 0) 70 7 1), by unfold f_L_share f_X8_share; simp [e0, sm_l, sm_r], by unfold f_X9_share; simp [f0, f_X9_refuses], (show up (up I 70 7 0) 70 7 1 70 7 = 1 from up_eq _ _ _ _), fun h => absurd (show (1 : Int32) = 0 from h) (by decide), INV.ex hC hM hO⟩
  rcases a_slot x2 with ⟨s, hs, rfl, e1, f1⟩ | ⟨e1, f1⟩
  rotate_left
  · exact ⟨(1, I, R, P, Z), (FP.dconst0, up (up I 70 7 0) 70 7 1), by unfold f_L_share f_X8_share; simp [e0, e1, sm_l, sm_r], by unfold f_X9_share; simp [f0, f1, f_X9_refuses], (show up (up I 70 7 0) 70 7 1 70 7 = 1 from up_eq _ _ _ _), fun h => absurd (show (1 : Int32) = 0 from h) (by decide), INV.ex hC hM hO⟩
  have h16 := hA.1 t ht
  rcases Nat.eq_zero_or_pos (σ.1.1 t) with hn | hn
  · have hz : f_L_share (nI t) (nI s) P R I Z nx = some (0, I, R, P, (Z.1, vf_upd Z.2 0 FP.dconst0)) := by
      unfold f_L_share f_X8_share
      simp [e0, e1, sm_l, k_cnt hC.1 ht, hn, show nI 0 = 0 from rfl]
    have hcm : Op.cmpValue (FP.dcmp (FP.i2d (nI (σ.1.1 t))) FP.dconst0) .l = 0 := (fp_zero _ (by omega)).mpr hn
    rcases s_slot hC.1 hA hs with ⟨o1, o2⟩ | ⟨k, o1, o2, hF, hV⟩
    · exact ⟨(0, I, R, P, (Z.1, vf_upd Z.2 0 (FP.dconst0))), (FP.dconst0, up I 70 7 0), hz, by unfold f_X9_share; simp [f0, f1, r_parts0 hM0.1 (show s < 8 by omega) o2, r_many hM0.1 ht, hcm], (show (up I 70 7 0) 70 7 = 0 from up_eq _ _ _ _), fun _ => (by show Op.cmpValue (FP.dcmp (vf_upd Z.2 0 (FP.dconst0) 0) (FP.dconst0)) .l = 0; rw [upD0]; exact fp_00), INV.q hC hM hO Eqx.rf (Eqx.up (by decide)) KM.thr⟩
    · obtain ⟨I2, q1, q2, q3⟩ := r_rowsOf (v := 2) hM0.1 hA ht (show s < 8 by omega) (hM0.1.2.2.1 s (by omega)) hV
      have q4 := r_bitsM (b := fun r => decide (tvA σ.1 t r (σ.1.2.2.1 s) = 2)) h16
      have q5 : RSt (I2 71) σ.1 := by rw [q2 71 (by decide)]; exact hM0.1
      exact ⟨(0, I, R, P, (Z.1, vf_upd Z.2 0 (FP.dconst0))), (FP.dconst0, I2), hz, by unfold f_X9_share; simp [f0, f1, r_partsN hM0.1 (show s < 8 by omega), (fV_len hV).2.2, q1]; unfold tmask; simp [q4, r_many q5 ht, hcm], (show I2 70 7 = 0 by rw [q3 7 (by decide), up_eq]), fun _ => (by show Op.cmpValue (FP.dcmp (vf_upd Z.2 0 (FP.dconst0) 0) (FP.dconst0)) .l = 0; rw [upD0]; exact fp_00), INV.q hC hM hO Eqx.rf ((Eqx.up (by decide)).tr (q2.mono sub_SM1)) (KM.thr.tr q3.km)⟩
  · have hcm : ¬ Op.cmpValue (FP.dcmp (FP.i2d (nI (σ.1.1 t))) FP.dconst0) .l = 0 := fun h => by have := (fp_zero _ (by omega)).mp h; omega
    have hn0 : ¬ nI (σ.1.1 t) = 0 := nI_ne0 hn (by omega)
    rcases s_slot hC.1 hA hs with ⟨o1, o2⟩ | ⟨k, o1, o2, hF, hV⟩
    · obtain ⟨t1, t2⟩ := fp_tab (σ.1.1 t) (by omega) 0 (by omega) (by omega) hn
      rw [fp_i0] at t1 t2
      have fz : FP.i2d 0 = FP.dconst0 := fp_i0
      exact ⟨(0, I, R, P, (Z.1, vf_upd Z.2 0 (FP.ddiv FP.dconst0 (FP.i2d (nI (σ.1.1 t)))))), (FP.ddiv FP.dconst0 (FP.i2d (nI (σ.1.1 t))), up I 70 7 0), by unfold f_L_share f_X8_share f_X8_countRows; simp [e0, e1, sm_l, k_cnt hC.1 ht, hn0, o1, oq_n, fz, t1], by unfold f_X9_share; simp [f0, f1, r_parts0 hM0.1 (show s < 8 by omega) o2, r_many hM0.1 ht, hcm, t1], (show (up I 70 7 0) 70 7 = 0 from up_eq _ _ _ _), fun _ => (by show Op.cmpValue (FP.dcmp (vf_upd Z.2 0 (FP.ddiv FP.dconst0 (FP.i2d (nI (σ.1.1 t)))) 0) (FP.ddiv FP.dconst0 (FP.i2d (nI (σ.1.1 t))))) .l = 0; rw [upD0]; exact t2), INV.q hC hM hO Eqx.rf (Eqx.up (by decide)) KM.thr⟩
    · obtain ⟨I1, g1, g2⟩ := k_countRows (v := 2) hC.1 hA ht hF hV
      have hE1 : Eqx SC I I1 := g2.mono sub_SC1
      have hM1 := (hM.sc hE1).t0 (x := 0)
      obtain ⟨I2, q1, q2, q3⟩ := r_rowsOf (v := 2) hM1.1 hA ht (show s < 8 by omega) (hM1.1.2.2.1 s (by omega)) hV
      have q4 := r_bitsM (b := fun r => decide (tvA σ.1 t r (σ.1.2.2.1 s) = 2)) h16
      have q5 : RSt (I2 71) σ.1 := by rw [q2 71 (by decide)]; exact hM1.1
      have hc := cntb_le (fun r => decide (tvA σ.1 t r (σ.1.2.2.1 s) = 2)) (σ.1.1 t)
      obtain ⟨t1, t2⟩ := fp_tab (σ.1.1 t) (by omega) _ (by omega) hc hn
      exact ⟨(0, I1, R, P, (Z.1, vf_upd Z.2 0 (FP.ddiv (FP.i2d (nI (cntb (fun r => decide (tvA σ.1 t r (σ.1.2.2.1 s) = 2)) (σ.1.1 t)))) (FP.i2d (nI (σ.1.1 t)))))), (FP.ddiv (FP.i2d (nI (cntb (fun r => decide (tvA σ.1 t r (σ.1.2.2.1 s) = 2)) (σ.1.1 t)))) (FP.i2d (nI (σ.1.1 t))), I2), by unfold f_L_share f_X8_share; simp [e0, e1, sm_l, k_cnt hC.1 ht, hn0, o1, g1, t1], by unfold f_X9_share; simp [f0, f1, r_partsN hM1.1 (show s < 8 by omega), (fV_len hV).2.2, q1]; unfold tmask; simp [q4, r_many q5 ht, hcm, t1], (show I2 70 7 = 0 by rw [q3 7 (by decide), up_eq]), fun _ => (by show Op.cmpValue (FP.dcmp (vf_upd Z.2 0 (FP.ddiv (FP.i2d (nI (cntb (fun r => decide (tvA σ.1 t r (σ.1.2.2.1 s) = 2)) (σ.1.1 t)))) (FP.i2d (nI (σ.1.1 t)))) 0) (FP.ddiv (FP.i2d (nI (cntb (fun r => decide (tvA σ.1 t r (σ.1.2.2.1 s) = 2)) (σ.1.1 t)))) (FP.i2d (nI (σ.1.1 t))))) .l = 0; rw [upD0]; exact t2), INV.q hC hM hO hE1 ((Eqx.up (by decide)).tr (q2.mono sub_SM1)) (KM.thr.tr q3.km)⟩
end MB8
