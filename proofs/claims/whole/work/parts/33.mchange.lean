/-! PURE PART 14: change, check. -/
section MB13
def rowC (A : Abs) (t r c : Nat) (x : Int32) : Nat → Int32 := fun j => if j = c then x else A.2.1 t r j
def chgA (A : Abs) (t r c : Nat) (x : Int32) : Abs := if vioA A t (rowC A t r c x) = true then refA A else putA A t r (rowC A t r c x)
def chgV (A : Abs) (t r c : Nat) (x : Int32) : Int32 := if vioA A t (rowC A t r c x) = true then -2 else A.2.1 t r c
theorem k_change {I : Mem} {R : Rem} {P : Pool} {N : Abs} {S : List Abs} {X : (Nat → Option Abs) × List Nat} {t r c : Nat} {x : Int32} (hC : CI I R P (N, S, X)) (hA : AOk N) (ht : t < 2) (hr : r < N.1 t) (hc : c < 4) (e0 : f_X8_requireRow (nI t) (nI r) I = some (.inl ())) (e1 : f_X8_requireColumn (nI c) = some (.inl ())) (e2 : f_X8_requireCellValue x = some (.inl ())) :
    ∃ I' R', f_X8_change (nI t) (nI r) (nI c) x P R I = some (.inl (chgV N t r c x), I', R') ∧ CI I' R' P (chgA N t r c x, svd S N, X) ∧ (∀ a, 70 ≤ a → a < 85 → I' a = I a) := by
  obtain ⟨I1, R1, g1, g2, g3, g4, g5⟩ := k_save hC hA
  have g2 : CI I1 R1 P (N, svd S N, X) := g2
  have h16 := hA.1 t ht
  obtain ⟨I2, v1, v2⟩ := k_would (x := x) g2.1 hA ht hr hc
  have v1 : f_X8_wouldViolate (nI t) (nI r) (nI c) x P R1 I1 = some (if vioA N t (rowC N t r c x) = true then 1 else 0, I2) := v1
  have hC2 : CI I2 R1 P (N, svd S N, X) := g2.sc (v2.mono (by decide))
  have h70 : ∀ a, 70 ≤ a → a < 85 → I2 a = I a := fun a h1 h2 => by rw [v2 a (by simp; omega), g3 a (by omega) (by omega)]
  have head : f_X8_change (nI t) (nI r) (nI c) x P R I = (if (if vioA N t (rowC N t r c x) = true then 1 else 0 : Int32) = 0 then ((f_X8_place (nI t) (nI r) (nI c)).bind fun q12 => (rd I2 2 128 q12).bind fun v13 => (wr I2 2 128 q12 x).bind fun I14 => some (.inl v13, I14, R1)) else ((f_X8_refuse I2).bind fun q15 => some (.inl q15.1, q15.2, R1))) := by
    unfold f_X8_change
    rw [bs_l e0, bs_l e1, bs_l e2, bs_b g1, bs_b v1]
  by_cases hv : vioA N t (rowC N t r c x) = true
  · refine ⟨up I2 1 4 (I2 1 4 + 1), R1, ?_, ?_, fun a h1 h2 => by rw [up_ne _ _ _ (by omega)]; exact h70 a h1 h2⟩
    · unfold chgV
      rw [head, if_pos hv, if_pos hv, if_neg (show ¬ (1 : Int32) = 0 by decide)]
      rfl
    · unfold chgA
      rw [if_pos hv]
      exact hC2.now (σ := (N, svd S N, X)) (fun a h1 _ _ _ => up_ne _ _ _ h1) (fun _ _ _ => rfl) (hC2.1.ref (fun a h1 => up_ne _ _ _ h1) (up_eq _ _ _ _))
  · obtain ⟨p, hp⟩ : ∃ p, p = (t * 16 + r) * 4 + c := ⟨_, rfl⟩
    refine ⟨up I2 2 p x, R1, ?_, ?_, fun a h1 h2 => by rw [up_ne _ _ _ (by omega)]; exact h70 a h1 h2⟩
    · unfold chgV
      rw [head, if_neg hv, if_neg hv, if_pos (show (0 : Int32) = 0 from rfl), bs_b (k_place t r c), bs_b (k_cell hC2.1 hA ht hr hc), ← hp, bs_b (wr_e p rfl (by omega) (by decide))]
    · unfold chgA
      rw [if_neg hv]
      refine hC2.now (σ := (N, svd S N, X)) (fun a _ h1 h2 _ => up_ne _ _ _ h1) (fun _ _ _ => rfl) (hC2.1.set (fun a h1 => up_ne _ _ _ (by omega)) (fun t' ht' => by rw [up_ne _ _ _ (show 3 ≠ 2 by decide)]; exact hC2.1.1 t' ht') (fun t' r' c' ht' hr' hc' => ?_) rfl (by rw [up_ne _ _ _ (show 1 ≠ 2 by decide)]; exact hC2.1.2.2.2.2))
      have hr' : r' < N.1 t' := hr'
      have h162 := hA.1 t' ht'
      show up I2 2 p x 2 ((t' * 16 + r') * 4 + c') = (if t' = t ∧ r' = r then (if c' = c then x else N.2.1 t r c') else N.2.1 t' r' c')
      by_cases e : t' = t ∧ r' = r
      · rw [if_pos e]
        by_cases e2 : c' = c
        · rw [if_pos e2, e.1, e.2, e2, ← hp, up_eq]
        · rw [if_neg e2, e.1, e.2, up_nk _ _ (by omega)]
          exact hC2.1.2.1 t r c' ht hr hc'
      · rw [if_neg e, up_nk _ _ (by omega)]
        exact hC2.1.2.1 t' r' c' ht' hr' hc'
theorem r_change {I : Mem} {P : Pool} {N : Abs} {S : List Abs} {X : (Nat → Option Abs) × List Nat} {t r c : Nat} {x : Int32} (hM : MI (up I 70 7 0) (N, S, X)) (hO : GOk (N, S, X)) (h6 : S.length ≤ 6) (ht : t < 2) (hr : r < N.1 t) (hc : c < 4) (e0 : f_X9_isRow (nI t) (nI r) (up I 70 7 0) = some 1) (e1 : f_X9_isColumn (nI c) = some 1) (e2 : f_X9_isValue x = some 1) :
    ∃ I', f_X9_change (nI t) (nI r) (nI c) x P I = some (chgV N t r c x, I') ∧ MI I' (chgA N t r c x, svd S N, X) ∧ I' 70 7 = 0 ∧ (∀ a, a < 70 ∨ 85 ≤ a → I' a = I a) := by
  have hA : AOk N := hO.1
  have h16 := hA.1 t ht
  obtain ⟨I1, g1, g2, g3, g4⟩ := r_save (P := P) hM hO h6
  have g2 : MI I1 (N, svd S N, X) := g2
  obtain ⟨p, hp⟩ : ∃ p, p = 2 + 4 * (16 * t + r) + c := ⟨_, rfl⟩
  obtain ⟨I2, hI2⟩ : ∃ I2, I2 = up I1 71 p x := ⟨_, rfl⟩
  have hE2 : Eqx [71] I1 I2 := by rw [hI2]; exact Eqx.up (by decide)
  have u2 : ∀ k, k ≠ p → I2 71 k = I1 71 k := fun k hk => by rw [hI2, up_nk _ _ hk]
  have hrow : ∀ j, j < 4 → I2 71 (2 + 4 * (16 * t + r) + j) = rowC N t r c x j := by
    intro j hj
    unfold rowC
    by_cases e : j = c
    · rw [if_pos e, e, ← hp, hI2, up_eq]
    · rw [if_neg e, u2 _ (by omega)]; exact g2.1.2.1 t r j ht hr hj
  have hlen := hA.len (s := 6 + t) (by omega)
  have hF2 : FRf (I2 71) (6 + t) (N.2.2.1 (6 + t)) := by
    have h := g2.1.2.2.1 (6 + t) (by omega)
    refine ⟨by rw [u2 _ (by omega)]; exact h.1, fun j y hj => ?_⟩
    have := (List.getElem?_eq_some_iff.mp hj).1
    rw [u2 _ (by omega)]
    exact h.2 j y hj
  obtain ⟨I3, v1, v2, v3⟩ := r_vio (row := rowC N t r c x) hA ht (r_hof ht (show r < 16 by omega) hrow) hF2
  have a71 : I3 71 = I2 71 := v2 71 (by decide)
  have hothers : ∀ a, a < 70 ∨ 85 ≤ a → I3 a = I a := fun a h => by rw [v2 a (by simp; omega), hE2 a (by simp; omega), g3 a (by omega) (by omega), up_ne _ _ _ (by omega)]
  have h7x : ∀ a, 72 ≤ a → a ≤ 75 → I3 a = I1 a := fun a h1 h2 => by rw [v2 a (by simp; omega), hE2 a (by simp; omega)]
  have h702 : I3 70 2 = I1 70 2 := by rw [v3 2 (by decide), hE2 70 (by decide)]
  have h706 : I3 70 6 = I1 70 6 := by rw [v3 6 (by decide), hE2 70 (by decide)]
  have h707 : I3 70 7 = 0 := by rw [v3 7 (by decide), hE2 70 (by decide), g4 7 (by decide), up_eq]
  have head : f_X9_change (nI t) (nI r) (nI c) x P I = (if (if vioA N t (rowC N t r c x) = true then 1 else 0 : Int32) = 0 then some (N.2.1 t r c, I3) else ((f_X9_at (nI t) (nI r) (nI c)).bind fun q10 => (wr I3 71 619 q10 (N.2.1 t r c)).bind fun I11 => (rd I11 71 619 618).bind fun v12 => (wr I11 71 619 618 (v12 + 1)).bind fun I13 => some ((-2), I13))) := by
    unfold f_X9_change
    rw [bz_1 e0, bz_1 e1, bz_1 e2, bs_b g1, bs_b (r_of g2.1 hA ht hr hc), bs_b (r_at t r c), ← hp, bs_b (wr_e p rfl (by omega) (by decide)), ← hI2, bs_b v1]
  by_cases hv : vioA N t (rowC N t r c x) = true
  · obtain ⟨I4, hI4⟩ : ∃ I4, I4 = up I3 71 p (N.2.1 t r c) := ⟨_, rfl⟩
    have u4 : ∀ a, a ≠ 71 → I4 a = I3 a := fun a h => by rw [hI4, up_ne _ _ _ h]
    have u5 : ∀ k, I4 71 k = I1 71 k := fun k => by
      by_cases e : k = p
      · rw [e, hI4, up_eq, hp]; exact (g2.1.2.1 t r c ht hr hc).symm
      · rw [hI4, up_nk _ _ e, a71, u2 k e]
    refine ⟨up I4 71 618 (I4 71 618 + 1), ?_, ?_, by rw [up_ne _ _ _ (by decide), u4 70 (by decide)]; exact h707, fun a h => by rw [up_ne _ _ _ (by omega), u4 a (by omega)]; exact hothers a h⟩
    · unfold chgV
      rw [head, if_pos hv, if_pos hv, if_neg (show ¬ (1 : Int32) = 0 by decide), bs_b (r_at t r c), ← hp, bs_b (wr_e p rfl (by omega) (by decide)), ← hI4, bs_b (rd_e 618 (show (618 : Int32) = nI 618 from rfl) (by decide) (by decide)), bs_b (wr_e 618 (show (618 : Int32) = nI 618 from rfl) (by decide) (by decide))]
    · unfold chgA
      rw [if_pos hv]
      refine g2.now (σ := (N, svd S N, X)) (by rw [up_ne _ _ _ (by decide), u4 70 (by decide)]; exact h702) (by rw [up_ne _ _ _ (by decide), u4 70 (by decide)]; exact h706) (fun a h1 h2 => by rw [up_ne _ _ _ (by omega), u4 a (by omega)]; exact h7x a h1 h2) ?_
      refine g2.1.ref hA (fun k hk => ⟨fun t' r' c' h1 h2 h3 h4 => ?_, fun h => ?_, fun h => ?_⟩) ?_
      · rw [up_nk _ _ (by omega)]; exact u5 k
      · rw [up_nk _ _ (by omega)]; exact u5 k
      · rw [up_nk _ _ (by omega)]; exact u5 k
      · rw [up_eq]; rw [u5 618]
  · refine ⟨I3, ?_, ?_, h707, hothers⟩
    · unfold chgV
      rw [head, if_neg hv, if_neg hv, if_pos (show (0 : Int32) = 0 from rfl)]
    · unfold chgA
      rw [if_neg hv]
      refine g2.now (σ := (N, svd S N, X)) h702 h706 h7x ?_
      refine g2.1.set hA (fun k h1 h2 => ?_) (fun t' ht' => ?_) (fun t' r' c' ht' hr' hc' => ?_) rfl ?_
      · rw [a71, u2 _ (by omega)]
      · rw [a71, u2 _ (by omega)]; exact g2.1.1 t' ht'
      · have hr' : r' < N.1 t' := hr'
        have h162 := hA.1 t' ht'
        show I3 71 (2 + 4 * (16 * t' + r') + c') = (if t' = t ∧ r' = r then rowC N t r c x c' else N.2.1 t' r' c')
        by_cases e : t' = t ∧ r' = r
        · rw [if_pos e, e.1, e.2, a71]; exact hrow c' hc'
        · rw [if_neg e, a71, u2 _ (by omega)]; exact g2.1.2.1 t' r' c' ht' hr' hc'
      · rw [a71, u2 _ (by omega)]; exact g2.1.2.2.2
theorem rowC_ok {N : Abs} {t r c : Nat} {x : Int32} (hA : AOk N) (ht : t < 2) (hr : r < N.1 t) (hx : cok x) : ∀ j, j < 4 → cok (rowC N t r c x j) := by
  intro j hj
  unfold rowC
  split
  · exact hx
  · exact hA.2.1 t r j ht hr hj
theorem chgA_ok {N : Abs} {t r c : Nat} {x : Int32} (hA : AOk N) (ht : t < 2) (hr : r < N.1 t) (hx : cok x) : AOk (chgA N t r c x) := by
  unfold chgA
  split
  · exact hA.ref
  · exact hA.put (rowC_ok hA ht hr hx)
theorem st_change : ST_change INV := by
  intro I R P Z nx x1 x2 x3 x4 hI hF0 hF1
  obtain ⟨σ, hC, hM, hO⟩ := hI
  have hA := hO.1
  have hM0 := hM.t0 (x := 0)
  rcases a_row x1 x2 hC.1 hA with ⟨t, r, ht, hr, rfl, rfl, e0, f0⟩ | ⟨e0, f0⟩
  rotate_left
  · exact ⟨(1, I, R, P, Z), (0, up (up I 70 7 0) 70 7 1), by unfold f_L_change f_X8_change; rw [bs_r e0]; rfl, by unfold f_X9_change; rw [bz_0 (f0 _ hM0.1)]; rfl, (show up (up I 70 7 0) 70 7 1 70 7 = 1 from up_eq _ _ _ _), fun h => absurd (show (1 : Int32) = 0 from h) (by decide), INV.ex hC hM hO⟩
  rcases a_col x3 with ⟨c, hc, rfl, e1, f1⟩ | ⟨e1, f1⟩
  rotate_left
  · exact ⟨(1, I, R, P, Z), (0, up (up I 70 7 0) 70 7 1), by unfold f_L_change f_X8_change; rw [bs_l e0, bs_r e1]; rfl, by unfold f_X9_change; rw [bz_1 (f0 _ hM0.1), bz_0 f1]; rfl, (show up (up I 70 7 0) 70 7 1 70 7 = 1 from up_eq _ _ _ _), fun h => absurd (show (1 : Int32) = 0 from h) (by decide), INV.ex hC hM hO⟩
  rcases a_val x4 with ⟨hv, e2, f2⟩ | ⟨e2, f2⟩
  rotate_left
  · exact ⟨(2, I, R, P, Z), (0, up (up I 70 7 0) 70 7 2), by unfold f_L_change f_X8_change; rw [bs_l e0, bs_l e1, bs_r e2]; rfl, by unfold f_X9_change; rw [bz_1 (f0 _ hM0.1), bz_1 f1, bz_0 f2]; rfl, (show up (up I 70 7 0) 70 7 2 70 7 = 2 from up_eq _ _ _ _), fun h => absurd (show (2 : Int32) = 0 from h) (by decide), INV.ex hC hM hO⟩
  obtain ⟨N, S, X⟩ := σ
  have hA : AOk N := hA
  obtain ⟨I1, R1, g1, g2, g3⟩ := k_change hC hA ht hr hc e0 e1 e2
  have hM1 := (hM.cf g3).t0 (x := 0)
  obtain ⟨I2, q1, q2, q3, q4⟩ := r_change (P := P) hM1 hO hC.2.1.2.1 ht hr hc (f0 _ hM1.1) f1 f2
  have hO2 : GOk (chgA N t r c x4, svd S N, X) := (GOk.save hO).now (chgA_ok hA ht hr hv)
  exact ⟨(0, I1, R1, P, (vp_updL Z.1 0 (chgV N t r c x4).toInt64, Z.2)), (chgV N t r c x4, I2), by unfold f_L_change; rw [g1]; rfl, q1, (show I2 70 7 = 0 from q3), fun _ => upL0 Z.1 _, ⟨_, g2.e70 q4, q2, hO2⟩⟩
end MB13
