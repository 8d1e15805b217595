/-! PURE PART 24: combine. -/
section MB23
/-- a new filter goes into a slot -/
theorem k_inst {I : Mem} {R : Rem} {P : Pool} {N : Abs} {S : List Abs} {X : (Nat → Option Abs) × List Nat} {s f : Nat} {M : List Nat} (hC : CI I R P (N, S, X)) (hA : AOk N) (hs : s < 6) (hF : FObj I R P f M) (hne : M ≠ []) : ∃ I' R1 R', f_X8_save P R I = some (I', R1) ∧ wrq R1 4 6 (nI s) (some f) = some R' ∧ f_X2_size f P R' = some (nI M.length) ∧ CI I' R' P (setF N s M, svd S N, X) ∧ (∀ a, a ≠ 0 → (a < 30 ∨ 60 ≤ a) → I' a = I a) ∧ (∀ j, j ≠ 2 → I' 0 j = I 0 j) := by
  obtain ⟨I1, R1, g1, g2, g3, g4, g5⟩ := k_save hC hA
  have g2 : CI I1 R1 P (N, svd S N, X) := g2
  have hF1 := hF.pk (PK.sv g3 g5)
  have hK : PK I1 R1 P I1 (upR R1 4 s (some f)) P := fun a ha _ => ⟨rfl, upR_ne _ _ _ (by omega), rfl, rfl⟩
  refine ⟨I1, R1, upR R1 4 s (some f), g1, wrq_e s rfl hs (by decide), k_size (hF1.pk hK), ?_, g3, g4⟩
  exact g2.now (σ := (N, svd S N, X)) (fun _ _ _ _ _ => rfl) (fun a h4 _ => upR_ne _ _ _ h4) (g2.1.set4 hs ⟨hne, hF1⟩)
def cmbL (N : Abs) (u v h : Nat) : List Nat := if h = 0 then N.2.2.1 u ++ [0] else N.2.2.1 u ++ (N.2.2.1 v ++ [h])
def cmbN (N : Abs) (u v h : Nat) : Nat := 1 + (N.2.2.1 u).length + (if h = 0 then 0 else (N.2.2.1 v).length)
theorem cmb_len (N : Abs) (u v h : Nat) : (cmbL N u v h).length = cmbN N u v h := by
  unfold cmbL cmbN
  split <;> simp <;> omega
theorem cmb_ok {N : Abs} {u v h : Nat} (hu : fV (N.2.2.1 u)) (hv : h = 0 ∨ fV (N.2.2.1 v)) (hh : h ≤ 2) (hl : cmbN N u v h ≤ 40) : fV (cmbL N u v h) := by
  unfold cmbN at hl
  unfold cmbL
  by_cases e : h = 0
  · rw [if_pos e] at hl ⊢
    exact fV_neg hu (by omega)
  · rw [if_neg e] at hl ⊢
    exact fV_join hu (hv.resolve_left e) (by omega) (by omega)
theorem k_comb {I : Mem} {R : Rem} {P : Pool} {N : Abs} {S : List Abs} {X : (Nat → Option Abs) × List Nat} {s u v h n k k2 : Nat} (hC : CI I R P (N, S, X)) (hA : AOk N) (hs : s < 6) (hh : h ≤ 2) (hn : FR P n) (hf : FR P (n + 1)) (hl : cmbN N u v h ≤ 40) (e0 : f_X8_requireSlot (nI s) = some (.inl ())) (e1 : f_X8_requireSlot (nI u) = some (.inl ())) (e2 : f_X8_requireSlot (nI v) = some (.inl ())) (e3 : f_X8_requireRange (nI h) 2 = some (.inl ())) (e4 : f_X8_filledSlot (nI u) P R = some (.inl (some k))) (hF : FObj I R P k (N.2.2.1 u)) (e5 : h = 0 ∨ (f_X8_filledSlot (nI v) P R = some (.inl (some k2)) ∧ FObj I R P k2 (N.2.2.1 v))) :
    ∃ I' R' P', f_X8_combine (nI s) (nI u) (nI v) (nI h) P R I n = some (.inl (nI (cmbN N u v h)), I', R', P') ∧ CI I' R' P' (setF N s (cmbL N u v h), svd S N, X) ∧ (∀ a, 70 ≤ a → a < 70 → I' a = I a) := by
  by_cases e : h = 0
  · have hL : cmbL N u v h = N.2.2.1 u ++ [0] := by unfold cmbL; rw [if_pos e]
    obtain ⟨I1, R1, P1, a1, a2, a3, a4⟩ := k_neg hC hF (by unfold cmbN at hl; omega) hn hf
    obtain ⟨I2, R2', R3, b1, b2, b3, b4, b5, b6⟩ := k_inst a2 hA hs a3 (by simp)
    have hlen := cmb_len N u v h
    rw [hL] at hlen ⊢
    rw [hlen] at b3
    refine ⟨I2, R3, P1, ?_, b4, fun a h1 h2 => by rw [b5 a (by omega) (by omega), a4 a (by omega)]⟩
    unfold f_X8_combine
    rw [bs_l e0, bs_l e1, bs_l e2, bs_l e3, bs_l e4, if_pos (show nI h = 0 by rw [e]; rfl), bs_b a1]
    dsimp only
    rw [sm_l, bs_b b1]
    dsimp only
    rw [bs_b b2, bs_b rfl, bs_b b3]
  · obtain ⟨e5, hF2⟩ := e5.resolve_left e
    have hL : cmbL N u v h = N.2.2.1 u ++ (N.2.2.1 v ++ [h]) := by unfold cmbL; rw [if_neg e]
    have hx : (if nI h = 1 then some 38 else some 124 : Option Int32) = some (enc h) := by
      rcases (show h = 1 ∨ h = 2 by omega) with rfl | rfl
      · rw [if_pos (show nI 1 = 1 from rfl)]; rfl
      · rw [if_neg (show ¬ nI 2 = 1 by decide)]; rfl
    obtain ⟨I1, R1, P1, a1, a2, a3, a4⟩ := k_join (j := h) hC hF hF2 (by unfold cmbN at hl; rw [if_neg e] at hl; omega) hn hf rfl
    obtain ⟨I2, R2', R3, b1, b2, b3, b4, b5, b6⟩ := k_inst a2 hA hs a3 (by simp)
    have hlen := cmb_len N u v h
    rw [hL] at hlen ⊢
    rw [hlen] at b3
    refine ⟨I2, R3, P1, ?_, b4, fun a h1 h2 => by rw [b5 a (by omega) (by omega), a4 a (by omega)]⟩
    unfold f_X8_combine
    rw [bs_l e0, bs_l e1, bs_l e2, bs_l e3, bs_l e4, if_neg (nI_ne0 (by omega) (by omega)), bs_l e5, bs_b hx, bs_b a1]
    dsimp only
    rw [sm_l, bs_b b1]
    dsimp only
    rw [bs_b b2, bs_b rfl, bs_b b3]
end MB23
