/-! PURE PART 15: check. -/
section MB14
theorem CSt.set5 {I : Mem} {R : Rem} {P : Pool} {A : Abs} {t : Nat} {ob : Option Nat} {L : List Nat} (h : CSt I R P 1 A) (ht : t < 2) (hF : FOp I R P ob L) : CSt I (upR R 5 t ob) P 1 (setF A (6 + t) L) := by
  have hK : PK I R P I (upR R 5 t ob) P := fun a ha _ => ⟨rfl, upR_ne _ _ _ (by omega), rfl, rfl⟩
  refine ⟨h.1, h.2.1, fun s hs => ?_, fun t' ht' => ?_, h.2.2.2.2⟩
  · show FOp I (upR R 5 t ob) P (upR R 5 t ob 4 s) (if s = 6 + t then L else A.2.2.1 s)
    rw [if_neg (by omega), upR_ne _ _ _ (show 4 ≠ 5 by decide)]
    exact (h.2.2.1 s hs).pk hK
  · show FOp I (upR R 5 t ob) P (upR R 5 t ob 5 t') (if 6 + t' = 6 + t then L else A.2.2.1 (6 + t'))
    by_cases e : t' = t
    · rw [if_pos (by omega), e, upR_eq]
      exact hF.pk hK
    · rw [if_neg (by omega), upR_nk _ _ e]
      exact (h.2.2.2.1 t' ht').pk hK
theorem k_filled {I : Mem} {R : Rem} {P : Pool} {A : Abs} {s : Nat} (h : CSt I R P 1 A) (hA : AOk A) (hs : s < 6) : (f_X8_filledSlot (nI s) P R = some (.inr 2) ∧ A.2.2.1 s = []) ∨ ∃ k, f_X8_filledSlot (nI s) P R = some (.inl (some k)) ∧ FObj I R P k (A.2.2.1 s) ∧ fV (A.2.2.1 s) := by
  unfold f_X8_filledSlot
  rcases s_slot h hA hs with ⟨o1, o2⟩ | ⟨k, o1, o2, hF, hV⟩
  · exact Or.inl ⟨by rw [bs_b o1]; rfl, o2⟩
  · exact Or.inr ⟨k, by rw [bs_b o1]; rfl, hF, hV⟩
theorem PK.sv {I I' : Mem} {R R' : Rem} {P : Pool} (g3 : ∀ a, a ≠ 0 → (a < 30 ∨ 60 ≤ a) → I' a = I a) (g5 : ∀ a, a ≠ 6 → (a < 30 ∨ 60 ≤ a) → R' a = R a) : PK I R P I' R' P := fun a ha _ => ⟨g3 a (by omega) (by omega), g5 a (by omega) (by omega), rfl, rfl⟩
def brk (A : Abs) (t s : Nat) : Nat := cntb (fun r => decide (tvA A t r (A.2.2.1 s) = 0)) (A.1 t)
def chkA (A : Abs) (t s : Nat) : Abs := if brk A t s = 0 then setF A (6 + t) (A.2.2.1 s) else refA A
theorem k_check {I : Mem} {R : Rem} {P : Pool} {N : Abs} {S : List Abs} {X : (Nat → Option Abs) × List Nat} {t s k : Nat} (hC : CI I R P (N, S, X)) (hA : AOk N) (ht : t < 2) (hs : s < 6) (h2 : ¬ nI s = -2) (e0 : f_X8_requireTable (nI t) = some (.inl ())) (e1 : f_X8_requireSlot (nI s) = some (.inl ())) (e2 : f_X8_filledSlot (nI s) P R = some (.inl (some k))) (hF : FObj I R P k (N.2.2.1 s)) (hV : fV (N.2.2.1 s)) :
    ∃ I' R', f_X8_check (nI t) (nI s) P R I = some (.inl (nI (brk N t s)), I', R') ∧ CI I' R' P (chkA N t s, svd S N, X) ∧ (∀ a, 70 ≤ a → a < 70 → I' a = I a) := by
  obtain ⟨I1, R1, g1, g2, g3, g4, g5⟩ := k_save hC hA
  have g2 : CI I1 R1 P (N, svd S N, X) := g2
  have hF1 := hF.pk (PK.sv g3 g5)
  obtain ⟨I2, v1, v2⟩ := k_countRows (v := 0) g2.1 hA ht hF1 hV
  have v1 : f_X8_countRows (nI t) (some k) 0 P R1 I1 = some (nI (brk N t s), I2) := v1
  have hC2 : CI I2 R1 P (N, svd S N, X) := g2.sc (v2.mono (by decide))
  have hF2 : FObj I2 R1 P k (N.2.2.1 s) := hF1.eqx v2 (by decide)
  have h70 : ∀ a, 70 ≤ a → a < 70 → I2 a = I a := fun a h1 h2 => by rw [v2 a (by simp; omega), g3 a (by omega) (by omega)]
  have hb : brk N t s ≤ 16 := Nat.le_trans (cntb_le _ _) (hA.1 t ht)
  have head : f_X8_check (nI t) (nI s) P R I = (if nI (brk N t s) ≤ 0 then ((wrq R1 5 2 (nI t) (some k)).bind fun R16 => some (.inl (nI (brk N t s)), I2, R16)) else some (.inl (nI (brk N t s)), (up I2 1 4 ((I2 1 4) + 1)), R1)) := by
    unfold f_X8_check
    rw [bs_l e0, if_neg h2, bs_l e1, bs_l e2, bs_b g1, oq_s, bs_b v1]
  by_cases hb0 : brk N t s = 0
  · refine ⟨I2, upR R1 5 t (some k), ?_, ?_, h70⟩
    · rw [head, if_pos (show nI (brk N t s) ≤ 0 by rw [hb0]; decide), bs_b (wrq_e t rfl ht (by decide))]
    · unfold chkA
      rw [if_pos hb0]
      exact hC2.now (σ := (N, svd S N, X)) (fun _ _ _ _ _ => rfl) (fun a _ h5 => upR_ne _ _ _ h5) (hC2.1.set5 ht ⟨fV_ne hV, hF2⟩)
  · refine ⟨up I2 1 4 (I2 1 4 + 1), R1, ?_, ?_, fun a h1 h2 => by rw [up_ne _ _ _ (by omega)]; exact h70 a h1 h2⟩
    · rw [head, if_neg (show ¬ nI (brk N t s) ≤ 0 from nI_ge (a := 0) (by omega) (by omega))]
    · unfold chkA
      rw [if_neg hb0]
      exact hC2.now (σ := (N, svd S N, X)) (fun a h1 _ _ _ => up_ne _ _ _ h1) (fun _ _ _ => rfl) (hC2.1.ref (fun a h1 => up_ne _ _ _ h1) (up_eq _ _ _ _))
/-- the check is taken away -/
theorem k_uncheck {I : Mem} {R : Rem} {P : Pool} {N : Abs} {S : List Abs} {X : (Nat → Option Abs) × List Nat} {t : Nat} (hC : CI I R P (N, S, X)) (hA : AOk N) (ht : t < 2) (e0 : f_X8_requireTable (nI t) = some (.inl ())) :
    ∃ I' R', f_X8_check (nI t) (-2) P R I = some (.inl 0, I', R') ∧ CI I' R' P (setF N (6 + t) [], svd S N, X) ∧ (∀ a, 70 ≤ a → a < 70 → I' a = I a) := by
  obtain ⟨I1, R1, g1, g2, g3, g4, g5⟩ := k_save hC hA
  have g2 : CI I1 R1 P (N, svd S N, X) := g2
  refine ⟨I1, upR R1 5 t none, ?_, ?_, fun a h1 h2 => g3 a (by omega) (by omega)⟩
  · unfold f_X8_check
    rw [bs_l e0, if_pos (show (-2 : Int32) = -2 from rfl), bs_b g1, bs_b (wrq_e t rfl ht (by decide))]
  · exact g2.now (σ := (N, svd S N, X)) (fun _ _ _ _ _ => rfl) (fun a _ h5 => upR_ne _ _ _ h5) (g2.1.set5 ht (ob := none) rfl)
theorem chkA_ok {N : Abs} {t s : Nat} (hA : AOk N) (hV : fV (N.2.2.1 s)) : AOk (chkA N t s) := by
  unfold chkA
  split
  · exact hA.setF (Or.inr hV)
  · exact hA.ref
end MB14
