/-! PURE PART 24: combine. -/
section MB23
/-- a new filter goes into a slot -/
theorem k_inst {I : Mem} {R : Rem} {P : Pool} {N : Abs} {S : List Abs} {X : (Nat → Option Abs) × List Nat} {s f : Nat} {M : List Nat} (hC : CI I R P (N, S, X)) (hA : AOk N) (hs : s < 6) (hF : FObj I R P f M) (hne : M ≠ []) : ∃ I' R1 R', f_X8_save P R I = some (I', R1) ∧ wrq R1 4 6 (nI s) (some f) = some R' ∧ f_X2_size f P R' = some (nI M.length) ∧ CI I' R' P (setF N s M, svd S N, X) ∧ (∀ a, a ≠ 0 → (a < 30 ∨ 60 ≤ a) → I' a = I a) ∧ (∀ j, j ≠ 2 → I' 0 j = I 0 j) := by
  obtain ⟨I1, R1, g1, g2, g3, g4, g5⟩ := k_save hC hA
  have g2 : CI I1 R1 P (N, svd S N, X) := g2
  have hF1 := hF.pk (PK.sv g3 g5)
  have hK : PK I1 R1 P I1 (upR R1 4 s (some f)) P := fun a ha _ => ⟨rfl, upR_ne _ _ _ (by omega), rfl, rfl⟩
  refine ⟨I1, R1, upR R1 4 s (some f), g1, wrq_e s rfl hs (by decide), k_size (hF1.pk hK), ?_, g3, g4⟩
  exact g2.now (σ := (N, svd S N, X)) (fun _ _ _ _ _ => rfl) (fun a h4 _ => upR_ne _ _ _ h4) (g2.1.set4 hs ⟨hne, hF1⟩)
def cmbL (N : Abs) (u v h : Nat) : List Nat := if h = 0 then N.2.2.1 u ++ [0] else N.2.2.1 u ++ (N.2.2.1 v ++ [h])
def cmbN (N : Abs) (u v h : Nat) : Nat := 1 + (N.2.2.1 u).length + (if h = 0 then 0 else (N.2.2.1 v).length)
theorem cmb_len (N : Abs) (u v h : Nat) : (cmbL N u v h).length = cmbN N u v h := by
  unfold cmbL cmbN
  split <;> simp <;> omega
theorem cmb_ok {N : Abs} {u v h : Nat} (hu : fV (N.2.2.1 u)) (hv : h = 0 ∨ fV (N.2.2.1 v)) (hh : h ≤ 2) (hl : cmbN N u v h ≤ 40) : fV (cmbL N u v h) := by
  unfold cmbN at hl
  unfold cmbL
  by_cases e : h = 0
  · rw [if_pos e] at hl ⊢
    exact fV_neg hu (by omega)
  · rw [if_neg e] at hl ⊢
    exact fV_join hu (hv.resolve_left e) (by omega) (by omega)
theorem r_comb {I : Mem} {P : Pool} {N : Abs} {S : List Abs} {X : (Nat → Option Abs) × List Nat} {s u v h : Nat} (hM : MI (up I 70 7 0) (N, S, X)) (hO : GOk (N, S, X)) (h6 : S.length ≤ 6) (hs : s < 6) (hu : u < 6) (hv : v < 6) (hh : h ≤ 2) (hVu : fV (N.2.2.1 u)) (hVv : h = 0 ∨ fV (N.2.2.1 v)) (hl : cmbN N u v h ≤ 40) (f0 : f_X9_isSlot (nI s) = some 1) (f1 : f_X9_isSlot (nI u) = some 1) (f2 : f_X9_isSlot (nI v) = some 1) (f3 : f_X9_in (nI h) 0 2 = some 1) :
    ∃ I', f_X9_combine (nI s) (nI u) (nI v) (nI h) P I = some (nI (cmbN N u v h), I') ∧ MI I' (setF N s (cmbL N u v h), svd S N, X) ∧ I' 70 7 = 0 ∧ (∀ a, a < 70 ∨ 85 ≤ a → I' a = I a) := by
  have hA : AOk N := hO.1
  have hlu := hA.len (s := u) (by omega)
  have hlv := hA.len (s := v) (by omega)
  obtain ⟨I1, g1, g2, g3, g4⟩ := r_save (P := P) hM hO h6
  have g2 : MI I1 (N, svd S N, X) := g2
  obtain ⟨J, hJ⟩ : ∃ J, J = up I1 70 13 0 := ⟨_, rfl⟩
  have hJE : Eqx [70] I1 J := by rw [hJ]; exact Eqx.up (by decide)
  have hJK : K13 I1 J := fun j hj => by rw [hJ, up_nk _ _ hj]
  have hJM : MK J [] := ⟨by rw [hJ, up_eq]; rfl, fun j x hx => by simp at hx⟩
  have hSJ : RSt (J 71) N := by rw [hJE 71 (by decide)]; exact g2.1
  obtain ⟨I2, a1, a2, a3, a4⟩ := r_mall (M := []) (show u < 8 by omega) (by omega) (hSJ.2.2.1 u (by omega)) hJM (by simp; omega)
  rw [List.nil_append] at a2
  have q8 : ((if nI h = 0 then some 0 else (f_X9_parts (nI v) (up I 70 7 0)).bind fun q9 => some q9) : Option Int32) = some (nI (if h = 0 then 0 else (N.2.2.1 v).length)) := by
    by_cases e : h = 0
    · rw [if_pos e, if_pos (show nI h = 0 by rw [e]; rfl)]; rfl
    · rw [if_neg e, if_neg (nI_ne0 (by omega) (by omega)), bs_b (r_partsN hM.1 (show v < 8 by omega))]
  have hsum : (1 : Int32) + nI (N.2.2.1 u).length + nI (if h = 0 then 0 else (N.2.2.1 v).length) = nI (cmbN N u v h) := by
    rw [show (1 : Int32) = nI 1 from rfl, nI_add, nI_add]; rfl
  have h40 : nI (cmbN N u v h) ≤ 40 := nI_le (b := 40) hl (by decide)
  -- the second filter, then the joint
  have hmade : ∃ I3, (((if nI h ≤ 0 then some I2 else (f_X9_makesAll (nI v) I2).bind fun q => some q) : Option Mem)) = some I3 ∧ ∃ I4, f_X9_makes (nI h) I3 = some I4 ∧ MK I4 (cmbL N u v h) ∧ Eqx [70, 79] I2 I4 ∧ K13 I2 I4 := by
    by_cases e : h = 0
    · obtain ⟨I4, b1, b2, b3, b4⟩ := r_makes (t := h) a2 (by omega)
      refine ⟨I2, by rw [if_pos (show nI h ≤ 0 by rw [e]; decide)], I4, b1, ?_, b3, b4⟩
      unfold cmbL
      rw [if_pos e]
      rw [e] at b2
      exact b2
    · obtain ⟨I3, c1, c2, c3, c4⟩ := r_mall (show v < 8 by omega) (by omega) (show FRf (I2 71) v (N.2.2.1 v) by rw [a3 71 (by decide)]; exact hSJ.2.2.1 v (by omega)) a2 (by unfold cmbN at hl; rw [if_neg e] at hl; omega)
      obtain ⟨I4, b1, b2, b3, b4⟩ := r_makes (t := h) c2 (by unfold cmbN at hl; rw [if_neg e] at hl; simp; omega)
      refine ⟨I3, by rw [if_neg (show ¬ nI h ≤ 0 from nI_ge (a := 0) (by omega) (by omega)), bs_b c1], I4, b1, ?_, c3.tr b3, c4.tr b4⟩
      unfold cmbL
      rw [if_neg e]
      rw [List.append_assoc] at b2
      exact b2
  obtain ⟨I3, m1, I4, m2, m3, m4, m5⟩ := hmade
  have hE4 : Eqx [70, 79] I1 I4 := (hJE.mono (by decide)).tr (a3.tr m4)
  have hK4 : K13 I1 I4 := (hJK.tr a4).tr m5
  obtain ⟨I5, p1, p2, p3⟩ := r_puts (A := N) (show s < 8 by omega) (by rw [cmb_len]; omega) m3 (by rw [hE4 71 (by decide)]; exact g2.1) hA
  rw [cmb_len] at p1
  refine ⟨I5, ?_, g2.now (σ := (N, svd S N, X)) (by rw [p2 70 (by decide), hK4 2 (by decide)]) (by rw [p2 70 (by decide), hK4 6 (by decide)]) (fun a h1 h2 => by rw [p2 a (by simp; omega), hE4 a (by simp; omega)]) p3, by rw [p2 70 (by decide), hK4 7 (by decide), g4 7 (by decide), up_eq], fun a h => by rw [p2 a (by simp; omega), hE4 a (by simp; omega), g3 a (by omega) (by omega), up_ne _ _ _ (by omega)]⟩
  have hnu := (fV_len hVu).2.2
  unfold f_X9_combine
  rw [bz_1 f0, bz_1 f1, bz_1 f2, bz_1 f3, bs_b (r_partsN hM.1 (show u < 8 by omega)), bs_b q8, bs_b (r_partsN hM.1 (show u < 8 by omega)), if_neg hnu, hsum]
  rcases (show h = 0 ∨ h = 1 ∨ h = 2 by omega) with rfl | rfl | rfl
  · rw [if_pos (show nI 0 ≤ 0 by decide), if_pos h40, bs_b g1, ← hJ, bs_b a1, bs_b m1, if_pos (show nI 0 = 0 from rfl), bs_b (show f_X9_makes 0 I3 = some I4 from m2), bs_b p1]
  · have hnv := (fV_len (hVv.resolve_left (by decide))).2.2
    rw [if_neg (show ¬ nI 1 ≤ 0 by decide), bs_b (r_partsN hM.1 (show v < 8 by omega)), if_neg hnv, if_pos h40, bs_b g1, ← hJ, bs_b a1, bs_b m1, if_neg (show ¬ nI 1 = 0 by decide), if_pos (show nI 1 = 1 from rfl), bs_b (show f_X9_makes 1 I3 = some I4 from m2), bs_b p1]
  · have hnv := (fV_len (hVv.resolve_left (by decide))).2.2
    rw [if_neg (show ¬ nI 2 ≤ 0 by decide), bs_b (r_partsN hM.1 (show v < 8 by omega)), if_neg hnv, if_pos h40, bs_b g1, ← hJ, bs_b a1, bs_b m1, if_neg (show ¬ nI 2 = 0 by decide), if_neg (show ¬ nI 2 = 1 by decide), bs_b (show f_X9_makes 2 I3 = some I4 from m2), bs_b p1]
/-- the reference refuses: an empty slot, or a filter too large -/
theorem r_comb0 {I : Mem} {P : Pool} {N : Abs} {S : List Abs} {X : (Nat → Option Abs) × List Nat} {s u v h : Nat} (hM : MI (up I 70 7 0) (N, S, X)) (hA : AOk N) (hs : s < 6) (hu : u < 6) (hv : v < 6) (hh : h ≤ 2) (hbad : N.2.2.1 u = [] ∨ (fV (N.2.2.1 u) ∧ ((¬ h = 0 ∧ N.2.2.1 v = []) ∨ ((h = 0 ∨ fV (N.2.2.1 v)) ∧ ¬ cmbN N u v h ≤ 40)))) (f0 : f_X9_isSlot (nI s) = some 1) (f1 : f_X9_isSlot (nI u) = some 1) (f2 : f_X9_isSlot (nI v) = some 1) (f3 : f_X9_in (nI h) 0 2 = some 1) :
    f_X9_combine (nI s) (nI u) (nI v) (nI h) P I = some (0, up (up I 70 7 0) 70 7 3) := by
  have hlu := hA.len (s := u) (by omega)
  have hlv := hA.len (s := v) (by omega)
  have q8 : ((if nI h = 0 then some 0 else (f_X9_parts (nI v) (up I 70 7 0)).bind fun q9 => some q9) : Option Int32) = some (nI (if h = 0 then 0 else (N.2.2.1 v).length)) := by
    by_cases e : h = 0
    · rw [if_pos e, if_pos (show nI h = 0 by rw [e]; rfl)]; rfl
    · rw [if_neg e, if_neg (nI_ne0 (by omega) (by omega)), bs_b (r_partsN hM.1 (show v < 8 by omega))]
  have hsum : (1 : Int32) + nI (N.2.2.1 u).length + nI (if h = 0 then 0 else (N.2.2.1 v).length) = nI (cmbN N u v h) := by
    rw [show (1 : Int32) = nI 1 from rfl, nI_add, nI_add]; rfl
  unfold f_X9_combine
  rw [bz_1 f0, bz_1 f1, bz_1 f2, bz_1 f3, bs_b (r_partsN hM.1 (show u < 8 by omega)), bs_b q8, bs_b (r_partsN hM.1 (show u < 8 by omega)), hsum]
  rcases hbad with e | ⟨hVu, hbad⟩
  · rw [e, if_pos (show nI ([] : List Nat).length = 0 from rfl)]; rfl
  · rw [if_neg (fV_len hVu).2.2]
    rcases hbad with ⟨e0, e⟩ | ⟨hVv, hl⟩
    · rw [if_neg (show ¬ nI h ≤ 0 from nI_ge (a := 0) (by omega) (by omega)), bs_b (r_partsN hM.1 (show v < 8 by omega)), e, if_pos (show nI ([] : List Nat).length = 0 from rfl)]; rfl
    · have hn : ¬ nI (cmbN N u v h) ≤ 40 := nI_ge (a := 40) (by omega) (by unfold cmbN; split <;> omega)
      by_cases e0 : h = 0
      · rw [if_pos (show nI h ≤ 0 by rw [e0]; decide), if_neg hn]; rfl
      · rw [if_neg (show ¬ nI h ≤ 0 from nI_ge (a := 0) (by omega) (by omega)), bs_b (r_partsN hM.1 (show v < 8 by omega)), if_neg (fV_len (hVv.resolve_left e0)).2.2, if_neg hn]; rfl
theorem k_comb {I : Mem} {R : Rem} {P : Pool} {N : Abs} {S : List Abs} {X : (Nat → Option Abs) × List Nat} {s u v h n k k2 : Nat} (hC : CI I R P (N, S, X)) (hA : AOk N) (hs : s < 6) (hh : h ≤ 2) (hn : FR P n) (hf : FR P (n + 1)) (hl : cmbN N u v h ≤ 40) (e0 : f_X8_requireSlot (nI s) = some (.inl ())) (e1 : f_X8_requireSlot (nI u) = some (.inl ())) (e2 : f_X8_requireSlot (nI v) = some (.inl ())) (e3 : f_X8_requireRange (nI h) 2 = some (.inl ())) (e4 : f_X8_filledSlot (nI u) P R = some (.inl (some k))) (hF : FObj I R P k (N.2.2.1 u)) (e5 : h = 0 ∨ (f_X8_filledSlot (nI v) P R = some (.inl (some k2)) ∧ FObj I R P k2 (N.2.2.1 v))) :
    ∃ I' R' P', f_X8_combine (nI s) (nI u) (nI v) (nI h) P R I n = some (.inl (nI (cmbN N u v h)), I', R', P') ∧ CI I' R' P' (setF N s (cmbL N u v h), svd S N, X) ∧ (∀ a, 70 ≤ a → a < 85 → I' a = I a) := by
  by_cases e : h = 0
  · have hL : cmbL N u v h = N.2.2.1 u ++ [0] := by unfold cmbL; rw [if_pos e]
    obtain ⟨I1, R1, P1, a1, a2, a3, a4⟩ := k_neg hC hF (by unfold cmbN at hl; omega) hn hf
    obtain ⟨I2, R2', R3, b1, b2, b3, b4, b5, b6⟩ := k_inst a2 hA hs a3 (by simp)
    have hlen := cmb_len N u v h
    rw [hL] at hlen ⊢
    rw [hlen] at b3
    refine ⟨I2, R3, P1, ?_, b4, fun a h1 h2 => by rw [b5 a (by omega) (by omega), a4 a (by omega)]⟩
    unfold f_X8_combine
    rw [bs_l e0, bs_l e1, bs_l e2, bs_l e3, bs_l e4, if_pos (show nI h = 0 by rw [e]; rfl), bs_b a1]
    dsimp only
    rw [sm_l, bs_b b1]
    dsimp only
    rw [bs_b b2, bs_b rfl, bs_b b3]
  · obtain ⟨e5, hF2⟩ := e5.resolve_left e
    have hL : cmbL N u v h = N.2.2.1 u ++ (N.2.2.1 v ++ [h]) := by unfold cmbL; rw [if_neg e]
    have hx : (if nI h = 1 then some 38 else some 124 : Option Int32) = some (enc h) := by
      rcases (show h = 1 ∨ h = 2 by omega) with rfl | rfl
      · rw [if_pos (show nI 1 = 1 from rfl)]; rfl
      · rw [if_neg (show ¬ nI 2 = 1 by decide)]; rfl
    obtain ⟨I1, R1, P1, a1, a2, a3, a4⟩ := k_join (j := h) hC hF hF2 (by unfold cmbN at hl; rw [if_neg e] at hl; omega) hn hf rfl
    obtain ⟨I2, R2', R3, b1, b2, b3, b4, b5, b6⟩ := k_inst a2 hA hs a3 (by simp)
    have hlen := cmb_len N u v h
    rw [hL] at hlen ⊢
    rw [hlen] at b3
    refine ⟨I2, R3, P1, ?_, b4, fun a h1 h2 => by rw [b5 a (by omega) (by omega), a4 a (by omega)]⟩
    unfold f_X8_combine
    rw [bs_l e0, bs_l e1, bs_l e2, bs_l e3, bs_l e4, if_neg (nI_ne0 (by omega) (by omega)), bs_l e5, bs_b hx, bs_b a1]
    dsimp only
    rw [sm_l, bs_b b1]
    dsimp only
    rw [bs_b b2, bs_b rfl, bs_b b3]
theorem st_combine : ST_combine INV := by
  intro I R P Z nx x1 x2 x3 x4 hI hF0 hF1
  obtain ⟨σ, hC, hM, hO⟩ := hI
  have hA := hO.1
  have hM0 := hM.t0 (x := 0)
  rcases a_slot x1 with ⟨s, hs, rfl, e0, f0⟩ | ⟨e0, f0⟩
  rotate_left
  · exact ⟨(1, I, R, P, Z), (0, up (up I 70 7 0) 70 7 1), by unfold f_L_combine f_X8_combine; rw [bs_r e0]; rfl, by unfold f_X9_combine; rw [bz_0 f0]; rfl, (show up (up I 70 7 0) 70 7 1 70 7 = 1 from up_eq _ _ _ _), fun h => absurd (show (1 : Int32) = 0 from h) (by decide), INV.ex hC hM hO⟩
  rcases a_slot x2 with ⟨u, hu, rfl, e1, f1⟩ | ⟨e1, f1⟩
  rotate_left
  · exact ⟨(1, I, R, P, Z), (0, up (up I 70 7 0) 70 7 1), by unfold f_L_combine f_X8_combine; rw [bs_l e0, bs_r e1]; rfl, by unfold f_X9_combine; rw [bz_1 f0, bz_0 f1]; rfl, (show up (up I 70 7 0) 70 7 1 70 7 = 1 from up_eq _ _ _ _), fun h => absurd (show (1 : Int32) = 0 from h) (by decide), INV.ex hC hM hO⟩
  rcases a_slot x3 with ⟨v, hv, rfl, e2, f2⟩ | ⟨e2, f2⟩
  rotate_left
  · exact ⟨(1, I, R, P, Z), (0, up (up I 70 7 0) 70 7 1), by unfold f_L_combine f_X8_combine; rw [bs_l e0, bs_l e1, bs_r e2]; rfl, by unfold f_X9_combine; rw [bz_1 f0, bz_1 f1, bz_0 f2]; rfl, (show up (up I 70 7 0) 70 7 1 70 7 = 1 from up_eq _ _ _ _), fun h => absurd (show (1 : Int32) = 0 from h) (by decide), INV.ex hC hM hO⟩
  rcases a_rng x4 (n := 2) (by decide) with ⟨h, hh, rfl, e3, f3⟩ | ⟨e3, f3⟩
  rotate_left
  · have e3 : f_X8_requireRange x4 (2 : Int32) = some (.inr 1) := e3
    have f3 : f_X9_in x4 0 (2 : Int32) = some 0 := f3
    exact ⟨(2, I, R, P, Z), (0, up (up I 70 7 0) 70 7 2), by unfold f_L_combine f_X8_combine; rw [bs_l e0, bs_l e1, bs_l e2, bs_r e3]; rfl, by unfold f_X9_combine; rw [bz_1 f0, bz_1 f1, bz_1 f2, bz_0 f3]; rfl, (show up (up I 70 7 0) 70 7 2 70 7 = 2 from up_eq _ _ _ _), fun h => absurd (show (2 : Int32) = 0 from h) (by decide), INV.ex hC hM hO⟩
  have e3 : f_X8_requireRange (nI h) (2 : Int32) = some (.inl ()) := e3
  have f3 : f_X9_in (nI h) 0 (2 : Int32) = some 1 := f3
  obtain ⟨N, S, X⟩ := σ
  have hA : AOk N := hA
  rcases k_filled hC.1 hA hu with ⟨e4, hLu⟩ | ⟨k, e4, hF, hVu⟩
  · exact ⟨(3, I, R, P, Z), (0, up (up I 70 7 0) 70 7 3), by unfold f_L_combine f_X8_combine; rw [bs_l e0, bs_l e1, bs_l e2, bs_l e3, bs_r e4]; rfl, r_comb0 hM0 hA hs hu hv hh (Or.inl hLu) f0 f1 f2 f3, (show up (up I 70 7 0) 70 7 3 70 7 = 3 from up_eq _ _ _ _), fun h => absurd (show (3 : Int32) = 0 from h) (by decide), INV.ex hC hM hO⟩
  by_cases h0 : h = 0
  · by_cases hl : cmbN N u v h ≤ 40
    · obtain ⟨I1, R1, P1, g1, g2, g3⟩ := k_comb (k2 := 0) hC hA hs hh hF0 hF1 hl e0 e1 e2 e3 e4 hF (Or.inl h0)
      obtain ⟨I2, q1, q2, q3, q4⟩ := r_comb (P := P1) ((hM.cf g3).t0 (x := 0)) hO hC.2.1.2.1 hs hu hv hh hVu (Or.inl h0) hl f0 f1 f2 f3
      have hO2 : GOk (setF N s (cmbL N u v h), svd S N, X) := (GOk.save hO).now (hA.setF (Or.inr (cmb_ok hVu (Or.inl h0) hh hl)))
      exact ⟨(0, I1, R1, P1, (vp_updL Z.1 0 (nI (cmbN N u v h)).toInt64, Z.2)), (nI (cmbN N u v h), I2), by unfold f_L_combine; rw [g1]; rfl, q1, (show I2 70 7 = 0 from q3), fun _ => upL0 Z.1 _, ⟨_, g2.e70 q4, q2, hO2⟩⟩
    · exact ⟨(3, I, R, P, Z), (0, up (up I 70 7 0) 70 7 3), by unfold f_L_combine f_X8_combine; rw [bs_l e0, bs_l e1, bs_l e2, bs_l e3, bs_l e4, if_pos (show nI h = 0 by rw [h0]; rfl), bs_b (k_neg0 hF hVu (fun h1 => hl (by have h1 : (N.2.2.1 u).length + 1 ≤ 40 := h1; unfold cmbN; rw [if_pos h0]; omega)))]; rfl, r_comb0 hM0 hA hs hu hv hh (Or.inr ⟨hVu, Or.inr ⟨Or.inl h0, hl⟩⟩) f0 f1 f2 f3, (show up (up I 70 7 0) 70 7 3 70 7 = 3 from up_eq _ _ _ _), fun h => absurd (show (3 : Int32) = 0 from h) (by decide), INV.ex hC hM hO⟩
  rcases k_filled hC.1 hA hv with ⟨e5, hLv⟩ | ⟨k2, e5, hF2, hVv⟩
  · exact ⟨(3, I, R, P, Z), (0, up (up I 70 7 0) 70 7 3), by unfold f_L_combine f_X8_combine; rw [bs_l e0, bs_l e1, bs_l e2, bs_l e3, bs_l e4, if_neg (nI_ne0 (by omega) (by omega)), bs_r e5]; rfl, r_comb0 hM0 hA hs hu hv hh (Or.inr ⟨hVu, Or.inl ⟨h0, hLv⟩⟩) f0 f1 f2 f3, (show up (up I 70 7 0) 70 7 3 70 7 = 3 from up_eq _ _ _ _), fun h => absurd (show (3 : Int32) = 0 from h) (by decide), INV.ex hC hM hO⟩
  by_cases hl : cmbN N u v h ≤ 40
  · obtain ⟨I1, R1, P1, g1, g2, g3⟩ := k_comb (k2 := k2) hC hA hs hh hF0 hF1 hl e0 e1 e2 e3 e4 hF (Or.inr ⟨e5, hF2⟩)
    obtain ⟨I2, q1, q2, q3, q4⟩ := r_comb (P := P1) ((hM.cf g3).t0 (x := 0)) hO hC.2.1.2.1 hs hu hv hh hVu (Or.inr hVv) hl f0 f1 f2 f3
    have hO2 : GOk (setF N s (cmbL N u v h), svd S N, X) := (GOk.save hO).now (hA.setF (Or.inr (cmb_ok hVu (Or.inr hVv) hh hl)))
    exact ⟨(0, I1, R1, P1, (vp_updL Z.1 0 (nI (cmbN N u v h)).toInt64, Z.2)), (nI (cmbN N u v h), I2), by unfold f_L_combine; rw [g1]; rfl, q1, (show I2 70 7 = 0 from q3), fun _ => upL0 Z.1 _, ⟨_, g2.e70 q4, q2, hO2⟩⟩
  · have hx : (if nI h = 1 then some 38 else some 124 : Option Int32) = some (enc h) := by
      rcases (show h = 1 ∨ h = 2 by omega) with rfl | rfl
      · rw [if_pos (show nI 1 = 1 from rfl)]; rfl
      · rw [if_neg (show ¬ nI 2 = 1 by decide)]; rfl
    exact ⟨(3, I, R, P, Z), (0, up (up I 70 7 0) 70 7 3), by unfold f_L_combine f_X8_combine; rw [bs_l e0, bs_l e1, bs_l e2, bs_l e3, bs_l e4, if_neg (nI_ne0 (by omega) (by omega)), bs_l e5, bs_b hx, bs_b (k_join0 hF hVu hF2 hVv (fun h1 => hl (by have h1 : (N.2.2.1 u).length + (N.2.2.1 v).length + 1 ≤ 40 := h1; unfold cmbN; rw [if_neg h0]; omega)))]; rfl, r_comb0 hM0 hA hs hu hv hh (Or.inr ⟨hVu, Or.inr ⟨Or.inr hVv, hl⟩⟩) f0 f1 f2 f3, (show up (up I 70 7 0) 70 7 3 70 7 = 3 from up_eq _ _ _ _), fun h => absurd (show (3 : Int32) = 0 from h) (by decide), INV.ex hC hM hO⟩
end MB23
