/-! PURE PART 14: change, check. -/
section MB13
def rowC (A : Abs) (t r c : Nat) (x : Int32) : Nat → Int32 := fun j => if j = c then x else A.2.1 t r j
def chgA (A : Abs) (t r c : Nat) (x : Int32) : Abs := if vioA A t (rowC A t r c x) = true then refA A else putA A t r (rowC A t r c x)
def chgV (A : Abs) (t r c : Nat) (x : Int32) : Int32 := if vioA A t (rowC A t r c x) = true then -2 else A.2.1 t r c
theorem k_change {I : Mem} {R : Rem} {P : Pool} {N : Abs} {S : List Abs} {X : (Nat → Option Abs) × List Nat} {t r c : Nat} {x : Int32} (hC : CI I R P (N, S, X)) (hA : AOk N) (ht : t < 2) (hr : r < N.1 t) (hc : c < 4) (e0 : f_X8_requireRow (nI t) (nI r) I = some (.inl ())) (e1 : f_X8_requireColumn (nI c) = some (.inl ())) (e2 : f_X8_requireCellValue x = some (.inl ())) :
    ∃ I' R', f_X8_change (nI t) (nI r) (nI c) x P R I = some (.inl (chgV N t r c x), I', R') ∧ CI I' R' P (chgA N t r c x, svd S N, X) ∧ (∀ a, 70 ≤ a → a < 70 → I' a = I a) := by
  obtain ⟨I1, R1, g1, g2, g3, g4, g5⟩ := k_save hC hA
  have g2 : CI I1 R1 P (N, svd S N, X) := g2
  have h16 := hA.1 t ht
  obtain ⟨I2, v1, v2⟩ := k_would (x := x) g2.1 hA ht hr hc
  have v1 : f_X8_wouldViolate (nI t) (nI r) (nI c) x P R1 I1 = some (if vioA N t (rowC N t r c x) = true then 1 else 0, I2) := v1
  have hC2 : CI I2 R1 P (N, svd S N, X) := g2.sc (v2.mono (by decide))
  have h70 : ∀ a, 70 ≤ a → a < 70 → I2 a = I a := fun a h1 h2 => by rw [v2 a (by simp; omega), g3 a (by omega) (by omega)]
  have head : f_X8_change (nI t) (nI r) (nI c) x P R I = (if (if vioA N t (rowC N t r c x) = true then 1 else 0 : Int32) = 0 then ((f_X8_place (nI t) (nI r) (nI c)).bind fun q12 => (rd I2 2 128 q12).bind fun v13 => (wr I2 2 128 q12 x).bind fun I14 => some (.inl v13, I14, R1)) else ((f_X8_refuse I2).bind fun q15 => some (.inl q15.1, q15.2, R1))) := by
    unfold f_X8_change
    rw [bs_l e0, bs_l e1, bs_l e2, bs_b g1, bs_b v1]
  by_cases hv : vioA N t (rowC N t r c x) = true
  · refine ⟨up I2 1 4 (I2 1 4 + 1), R1, ?_, ?_, fun a h1 h2 => by rw [up_ne _ _ _ (by omega)]; exact h70 a h1 h2⟩
    · unfold chgV
      rw [head, if_pos hv, if_pos hv, if_neg (show ¬ (1 : Int32) = 0 by decide)]
      rfl
    · unfold chgA
      rw [if_pos hv]
      exact hC2.now (σ := (N, svd S N, X)) (fun a h1 _ _ _ => up_ne _ _ _ h1) (fun _ _ _ => rfl) (hC2.1.ref (fun a h1 => up_ne _ _ _ h1) (up_eq _ _ _ _))
  · obtain ⟨p, hp⟩ : ∃ p, p = (t * 16 + r) * 4 + c := ⟨_, rfl⟩
    refine ⟨up I2 2 p x, R1, ?_, ?_, fun a h1 h2 => by rw [up_ne _ _ _ (by omega)]; exact h70 a h1 h2⟩
    · unfold chgV
      rw [head, if_neg hv, if_neg hv, if_pos (show (0 : Int32) = 0 from rfl), bs_b (k_place t r c), bs_b (k_cell hC2.1 hA ht hr hc), ← hp, bs_b (wr_e p rfl (by omega) (by decide))]
    · unfold chgA
      rw [if_neg hv]
      refine hC2.now (σ := (N, svd S N, X)) (fun a _ h1 h2 _ => up_ne _ _ _ h1) (fun _ _ _ => rfl) (hC2.1.set (fun a h1 => up_ne _ _ _ (by omega)) (fun t' ht' => by rw [up_ne _ _ _ (show 3 ≠ 2 by decide)]; exact hC2.1.1 t' ht') (fun t' r' c' ht' hr' hc' => ?_) rfl (by rw [up_ne _ _ _ (show 1 ≠ 2 by decide)]; exact hC2.1.2.2.2.2))
      have hr' : r' < N.1 t' := hr'
      have h162 := hA.1 t' ht'
      show up I2 2 p x 2 ((t' * 16 + r') * 4 + c') = (if t' = t ∧ r' = r then (if c' = c then x else N.2.1 t r c') else N.2.1 t' r' c')
      by_cases e : t' = t ∧ r' = r
      · rw [if_pos e]
        by_cases e2 : c' = c
        · rw [if_pos e2, e.1, e.2, e2, ← hp, up_eq]
        · rw [if_neg e2, e.1, e.2, up_nk _ _ (by omega)]
          exact hC2.1.2.1 t r c' ht hr hc'
      · rw [if_neg e, up_nk _ _ (by omega)]
        exact hC2.1.2.1 t' r' c' ht' hr' hc'
theorem rowC_ok {N : Abs} {t r c : Nat} {x : Int32} (hA : AOk N) (ht : t < 2) (hr : r < N.1 t) (hx : cok x) : ∀ j, j < 4 → cok (rowC N t r c x j) := by
  intro j hj
  unfold rowC
  split
  · exact hx
  · exact hA.2.1 t r j ht hr hj
theorem chgA_ok {N : Abs} {t r c : Nat} {x : Int32} (hA : AOk N) (ht : t < 2) (hr : r < N.1 t) (hx : cok x) : AOk (chgA N t r c x) := by
  unfold chgA
  split
  · exact hA.ref
  · exact hA.put (rowC_ok hA ht hr hx)
end MB13
