/-! PURE PART 15: check. -/
section MB14
theorem CSt.set5 {I : Mem} {R : Rem} {P : Pool} {A : Abs} {t : Nat} {ob : Option Nat} {L : List Nat} (h : CSt I R P 1 A) (ht : t < 2) (hF : FOp I R P ob L) : CSt I (upR R 5 t ob) P 1 (setF A (6 + t) L) := by
  have hK : PK I R P I (upR R 5 t ob) P := fun a ha _ => ⟨rfl, upR_ne _ _ _ (by omega), rfl, rfl⟩
  refine ⟨h.1, h.2.1, fun s hs => ?_, fun t' ht' => ?_, h.2.2.2.2⟩
  · show FOp I (upR R 5 t ob) P (upR R 5 t ob 4 s) (if s = 6 + t then L else A.2.2.1 s)
    rw [if_neg (by omega), upR_ne _ _ _ (show 4 ≠ 5 by decide)]
    exact (h.2.2.1 s hs).pk hK
  · show FOp I (upR R 5 t ob) P (upR R 5 t ob 5 t') (if 6 + t' = 6 + t then L else A.2.2.1 (6 + t'))
    by_cases e : t' = t
    · rw [if_pos (by omega), e, upR_eq]
      exact hF.pk hK
    · rw [if_neg (by omega), upR_nk _ _ e]
      exact (h.2.2.2.1 t' ht').pk hK
theorem RSt.setF {f g : Nat → Int32} {A : Abs} {s : Nat} {L : List Nat} (h : RSt f A) (hA : AOk A) (hs : s < 8) (hg : ∀ k, k < 619 → (k < 130 + 61 * s ∨ 130 + 61 * s + 61 ≤ k) → g k = f k) (hF : FRf g s L) : RSt g (setF A s L) := by
  refine ⟨fun t ht => by rw [hg t (by omega) (by omega)]; exact h.1 t ht, fun t r c ht hr hc => ?_, fun s' hs' => ?_, by rw [hg 618 (by decide) (by omega)]; exact h.2.2.2⟩
  · have hr : r < A.1 t := hr
    have := hA.1 t ht
    rw [hg _ (by omega) (by omega)]
    exact h.2.1 t r c ht hr hc
  · show FRf g s' (if s' = s then L else A.2.2.1 s')
    by_cases e : s' = s
    · rw [if_pos e, e]; exact hF
    · rw [if_neg e]
      have hl := hA.len hs'
      refine ⟨by rw [hg _ (by omega) (by omega)]; exact (h.2.2.1 s' hs').1, fun j x hj => ?_⟩
      have := (List.getElem?_eq_some_iff.mp hj).1
      rw [hg _ (by omega) (by omega)]
      exact (h.2.2.1 s' hs').2 j x hj
theorem k_filled {I : Mem} {R : Rem} {P : Pool} {A : Abs} {s : Nat} (h : CSt I R P 1 A) (hA : AOk A) (hs : s < 6) : (f_X8_filledSlot (nI s) P R = some (.inr 2) ∧ A.2.2.1 s = []) ∨ ∃ k, f_X8_filledSlot (nI s) P R = some (.inl (some k)) ∧ FObj I R P k (A.2.2.1 s) ∧ fV (A.2.2.1 s) := by
  unfold f_X8_filledSlot
  rcases s_slot h hA hs with ⟨o1, o2⟩ | ⟨k, o1, o2, hF, hV⟩
  · exact Or.inl ⟨by rw [bs_b o1]; rfl, o2⟩
  · exact Or.inr ⟨k, by rw [bs_b o1]; rfl, hF, hV⟩
theorem PK.sv {I I' : Mem} {R R' : Rem} {P : Pool} (g3 : ∀ a, a ≠ 0 → (a < 30 ∨ 60 ≤ a) → I' a = I a) (g5 : ∀ a, a ≠ 6 → (a < 30 ∨ 60 ≤ a) → R' a = R a) : PK I R P I' R' P := fun a ha _ => ⟨g3 a (by omega) (by omega), g5 a (by omega) (by omega), rfl, rfl⟩
theorem r_copies_L {I0 : Mem} {s u : Nat} (hs : s < 8) (hu : u < 8) (hne : s ≠ u) : ∀ (d c n : Nat) (I : Mem), c + d = 61 → d < n → Eqx [71] I0 I → (∀ j, j < c → I 71 (130 + 61 * u + j) = I0 71 (130 + 61 * s + j)) → (∀ k, k < 130 + 61 * u ∨ 130 + 61 * u + c ≤ k → I 71 k = I0 71 k) →
    ∃ I', f_X9_copies_L2 (nI s) (nI u) n (nI c) I = some I' ∧ Eqx [71] I0 I' ∧ (∀ j, j < 61 → I' 71 (130 + 61 * u + j) = I0 71 (130 + 61 * s + j)) ∧ (∀ k, k < 130 + 61 * u ∨ 130 + 61 * u + 61 ≤ k → I' 71 k = I0 71 k)
  | 0, c, n, I, hc, hn, hE, h1, h2 => by
    obtain ⟨n, rfl⟩ : ∃ m, n = m + 1 := ⟨n - 1, by omega⟩
    have e : c = 61 := by omega
    subst e
    refine ⟨I, ?_, hE, h1, h2⟩
    unfold f_X9_copies_L2
    rw [if_pos (show (61 : Int32) ≤ nI 61 by decide)]
  | d + 1, c, n, I, hc, hn, hE, h1, h2 => by
    obtain ⟨n, rfl⟩ : ∃ m, n = m + 1 := ⟨n - 1, by omega⟩
    have ix : ∀ v : Nat, (130 : Int32) + 61 * nI v + nI c = nI (130 + 61 * v + c) := fun v => by rw [show (61 : Int32) = nI 61 from rfl, show (130 : Int32) = nI 130 from rfl, pk_mul, nI_add, nI_add]
    unfold f_X9_copies_L2
    rw [if_neg (show ¬ (61 : Int32) ≤ nI c from nI_ge (b := 61) (by omega) (by decide)), ix s, ix u, bs_b (rd_e (130 + 61 * s + c) rfl (by omega) (by decide)), bs_b (wr_e (130 + 61 * u + c) rfl (by omega) (by decide)), nI_1]
    have hv : I 71 (130 + 61 * s + c) = I0 71 (130 + 61 * s + c) := h2 _ (by omega)
    rw [hv]
    refine r_copies_L hs hu hne d (c + 1) n _ (by omega) (by omega) (hE.tr (Eqx.up (by decide))) (fun j hj => ?_) (fun k hk => ?_)
    · by_cases e : j = c
      · subst e; rw [up_eq]
      · rw [up_nk _ _ (by omega)]; exact h1 j (by omega)
    · rw [up_nk _ _ (by omega)]; exact h2 k (by omega)
theorem r_copies {I : Mem} {A : Abs} {s u : Nat} (hs : s < 8) (hu : u < 8) (hne : s ≠ u) (h : RSt (I 71) A) (hA : AOk A) : ∃ I', f_X9_copies (nI s) (nI u) I = some I' ∧ Eqx [71] I I' ∧ RSt (I' 71) (setF A u (A.2.2.1 s)) := by
  obtain ⟨I', e1, e2, e3, e4⟩ := r_copies_L (I0 := I) hs hu hne 61 0 fuel I rfl (by unfold fuel; omega) Eqx.rf (fun j hj => absurd hj (by omega)) (fun _ _ => rfl)
  refine ⟨I', ?_, e2, h.setF hA hu (fun k _ hk => e4 k hk) ⟨?_, fun j x hj => ?_⟩⟩
  · unfold f_X9_copies
    rw [bs_b (show f_X9_copies_L2 (nI s) (nI u) fuel 0 I = some I' from e1)]
  · have := e3 0 (by decide)
    rw [Nat.add_zero, Nat.add_zero] at this
    rw [this]; exact (h.2.2.1 s hs).1
  · have hl := hA.len hs
    have := (List.getElem?_eq_some_iff.mp hj).1
    rw [show 130 + 61 * u + 1 + j = 130 + 61 * u + (1 + j) by omega, e3 (1 + j) (by omega), show 130 + 61 * s + (1 + j) = 130 + 61 * s + 1 + j by omega]
    exact (h.2.2.1 s hs).2 j x hj
def brk (A : Abs) (t s : Nat) : Nat := cntb (fun r => decide (tvA A t r (A.2.2.1 s) = 0)) (A.1 t)
def chkA (A : Abs) (t s : Nat) : Abs := if brk A t s = 0 then setF A (6 + t) (A.2.2.1 s) else refA A
theorem k_check {I : Mem} {R : Rem} {P : Pool} {N : Abs} {S : List Abs} {X : (Nat → Option Abs) × List Nat} {t s k : Nat} (hC : CI I R P (N, S, X)) (hA : AOk N) (ht : t < 2) (hs : s < 6) (h2 : ¬ nI s = -2) (e0 : f_X8_requireTable (nI t) = some (.inl ())) (e1 : f_X8_requireSlot (nI s) = some (.inl ())) (e2 : f_X8_filledSlot (nI s) P R = some (.inl (some k))) (hF : FObj I R P k (N.2.2.1 s)) (hV : fV (N.2.2.1 s)) :
    ∃ I' R', f_X8_check (nI t) (nI s) P R I = some (.inl (nI (brk N t s)), I', R') ∧ CI I' R' P (chkA N t s, svd S N, X) ∧ (∀ a, 70 ≤ a → a < 85 → I' a = I a) := by
  obtain ⟨I1, R1, g1, g2, g3, g4, g5⟩ := k_save hC hA
  have g2 : CI I1 R1 P (N, svd S N, X) := g2
  have hF1 := hF.pk (PK.sv g3 g5)
  obtain ⟨I2, v1, v2⟩ := k_countRows (v := 0) g2.1 hA ht hF1 hV
  have v1 : f_X8_countRows (nI t) (some k) 0 P R1 I1 = some (nI (brk N t s), I2) := v1
  have hC2 : CI I2 R1 P (N, svd S N, X) := g2.sc (v2.mono (by decide))
  have hF2 : FObj I2 R1 P k (N.2.2.1 s) := hF1.eqx v2 (by decide)
  have h70 : ∀ a, 70 ≤ a → a < 85 → I2 a = I a := fun a h1 h2 => by rw [v2 a (by simp; omega), g3 a (by omega) (by omega)]
  have hb : brk N t s ≤ 16 := Nat.le_trans (cntb_le _ _) (hA.1 t ht)
  have head : f_X8_check (nI t) (nI s) P R I = (if nI (brk N t s) ≤ 0 then ((wrq R1 5 2 (nI t) (some k)).bind fun R16 => some (.inl (nI (brk N t s)), I2, R16)) else some (.inl (nI (brk N t s)), (up I2 1 4 ((I2 1 4) + 1)), R1)) := by
    unfold f_X8_check
    rw [bs_l e0, if_neg h2, bs_l e1, bs_l e2, bs_b g1, oq_s, bs_b v1]
  by_cases hb0 : brk N t s = 0
  · refine ⟨I2, upR R1 5 t (some k), ?_, ?_, h70⟩
    · rw [head, if_pos (show nI (brk N t s) ≤ 0 by rw [hb0]; decide), bs_b (wrq_e t rfl ht (by decide))]
    · unfold chkA
      rw [if_pos hb0]
      exact hC2.now (σ := (N, svd S N, X)) (fun _ _ _ _ _ => rfl) (fun a _ h5 => upR_ne _ _ _ h5) (hC2.1.set5 ht ⟨fV_ne hV, hF2⟩)
  · refine ⟨up I2 1 4 (I2 1 4 + 1), R1, ?_, ?_, fun a h1 h2 => by rw [up_ne _ _ _ (by omega)]; exact h70 a h1 h2⟩
    · rw [head, if_neg (show ¬ nI (brk N t s) ≤ 0 from nI_ge (a := 0) (by omega) (by omega))]
    · unfold chkA
      rw [if_neg hb0]
      exact hC2.now (σ := (N, svd S N, X)) (fun a h1 _ _ _ => up_ne _ _ _ h1) (fun _ _ _ => rfl) (hC2.1.ref (fun a h1 => up_ne _ _ _ h1) (up_eq _ _ _ _))
theorem r_check {I : Mem} {P : Pool} {N : Abs} {S : List Abs} {X : (Nat → Option Abs) × List Nat} {t s : Nat} (hM : MI (up I 70 7 0) (N, S, X)) (hO : GOk (N, S, X)) (h6 : S.length ≤ 6) (ht : t < 2) (hs : s < 6) (h2 : ¬ nI s = -2) (hV : fV (N.2.2.1 s)) (e0 : f_X9_isTable (nI t) = some 1) (e1 : f_X9_isSlot (nI s) = some 1) :
    ∃ I', f_X9_check (nI t) (nI s) P I = some (nI (brk N t s), I') ∧ MI I' (chkA N t s, svd S N, X) ∧ I' 70 7 = 0 ∧ (∀ a, a < 70 ∨ 85 ≤ a → I' a = I a) := by
  have hA : AOk N := hO.1
  obtain ⟨I1, g1, g2, g3, g4⟩ := r_save (P := P) hM hO h6
  have g2 : MI I1 (N, svd S N, X) := g2
  obtain ⟨I2, v1, v2, v3⟩ := r_rowsOf (v := 0) g2.1 hA ht (show s < 8 by omega) (g2.1.2.2.1 s (by omega)) hV
  have hS2 : RSt (I2 71) N := by rw [v2 71 (by decide)]; exact g2.1
  have hothers : ∀ a, a < 70 ∨ 85 ≤ a → I2 a = I a := fun a h => by rw [v2 a (by simp; omega), g3 a (by omega) (by omega), up_ne _ _ _ (by omega)]
  have h7x : ∀ a, 72 ≤ a → a ≤ 75 → I2 a = I1 a := fun a h1 h2 => by rw [v2 a (by simp; omega)]
  have h702 : I2 70 2 = I1 70 2 := v3 2 (by decide)
  have h706 : I2 70 6 = I1 70 6 := v3 6 (by decide)
  have h707 : I2 70 7 = 0 := by rw [v3 7 (by decide), g4 7 (by decide), up_eq]
  have hb : brk N t s ≤ 16 := Nat.le_trans (cntb_le _ _) (hA.1 t ht)
  have vb : f_X9_bits (tmask N t (N.2.2.1 s) 0 (N.1 t)) = some (nI (brk N t s)) := r_bitsM (hA.1 t ht)
  have head : f_X9_check (nI t) (nI s) P I = (if nI (brk N t s) ≤ 0 then ((f_X9_copies (nI s) (6 + nI t) I2).bind fun q31 => some (nI (brk N t s), q31)) else ((rd I2 71 619 618).bind fun v32 => (wr I2 71 619 618 (v32 + 1)).bind fun I33 => some (nI (brk N t s), I33))) := by
    unfold f_X9_check
    rw [bz_1 e0, if_neg h2, bz_1 e1, if_neg h2, bs_b (r_partsN hM.1 (show s < 8 by omega)), if_neg (fV_len hV).2.2, bs_b g1, if_neg h2, bs_b v1, bs_b vb]
  by_cases hb0 : brk N t s = 0
  · obtain ⟨I3, c1, c2, c3⟩ := r_copies (u := 6 + t) (show s < 8 by omega) (by omega) (by omega) hS2 hA
    refine ⟨I3, ?_, ?_, by rw [c2 70 (by decide)]; exact h707, fun a h => by rw [c2 a (by simp; omega)]; exact hothers a h⟩
    · rw [head, if_pos (show nI (brk N t s) ≤ 0 by rw [hb0]; decide), bs_b (show f_X9_copies (nI s) (6 + nI t) I2 = some I3 by rw [show (6 : Int32) + nI t = nI (6 + t) from nI_add 6 t]; exact c1)]
    · unfold chkA
      rw [if_pos hb0]
      exact g2.now (σ := (N, svd S N, X)) (by rw [c2 70 (by decide)]; exact h702) (by rw [c2 70 (by decide)]; exact h706) (fun a h1 h2 => by rw [c2 a (by simp; omega)]; exact h7x a h1 h2) c3
  · refine ⟨up I2 71 618 (I2 71 618 + 1), ?_, ?_, by rw [up_ne _ _ _ (by decide)]; exact h707, fun a h => by rw [up_ne _ _ _ (by omega)]; exact hothers a h⟩
    · rw [head, if_neg (show ¬ nI (brk N t s) ≤ 0 from nI_ge (a := 0) (by omega) (by omega)), bs_b (rd_e 618 (show (618 : Int32) = nI 618 from rfl) (by decide) (by decide)), bs_b (wr_e 618 (show (618 : Int32) = nI 618 from rfl) (by decide) (by decide))]
    · unfold chkA
      rw [if_neg hb0]
      refine g2.now (σ := (N, svd S N, X)) (by rw [up_ne _ _ _ (by decide)]; exact h702) (by rw [up_ne _ _ _ (by decide)]; exact h706) (fun a h1 h2 => by rw [up_ne _ _ _ (by omega)]; exact h7x a h1 h2) ?_
      exact hS2.ref hA (fun k hk => ⟨fun _ _ _ _ _ _ _ => up_nk _ _ (by omega), fun _ => up_nk _ _ (by omega), fun _ => up_nk _ _ (by omega)⟩) (up_eq _ _ _ _)
/-- the check is taken away -/
theorem k_uncheck {I : Mem} {R : Rem} {P : Pool} {N : Abs} {S : List Abs} {X : (Nat → Option Abs) × List Nat} {t : Nat} (hC : CI I R P (N, S, X)) (hA : AOk N) (ht : t < 2) (e0 : f_X8_requireTable (nI t) = some (.inl ())) :
    ∃ I' R', f_X8_check (nI t) (-2) P R I = some (.inl 0, I', R') ∧ CI I' R' P (setF N (6 + t) [], svd S N, X) ∧ (∀ a, 70 ≤ a → a < 85 → I' a = I a) := by
  obtain ⟨I1, R1, g1, g2, g3, g4, g5⟩ := k_save hC hA
  have g2 : CI I1 R1 P (N, svd S N, X) := g2
  refine ⟨I1, upR R1 5 t none, ?_, ?_, fun a h1 h2 => g3 a (by omega) (by omega)⟩
  · unfold f_X8_check
    rw [bs_l e0, if_pos (show (-2 : Int32) = -2 from rfl), bs_b g1, bs_b (wrq_e t rfl ht (by decide))]
  · exact g2.now (σ := (N, svd S N, X)) (fun _ _ _ _ _ => rfl) (fun a _ h5 => upR_ne _ _ _ h5) (g2.1.set5 ht (ob := none) rfl)
theorem r_uncheck {I : Mem} {P : Pool} {N : Abs} {S : List Abs} {X : (Nat → Option Abs) × List Nat} {t : Nat} (hM : MI (up I 70 7 0) (N, S, X)) (hO : GOk (N, S, X)) (h6 : S.length ≤ 6) (ht : t < 2) (e0 : f_X9_isTable (nI t) = some 1) :
    ∃ I', f_X9_check (nI t) (-2) P I = some (0, I') ∧ MI I' (setF N (6 + t) [], svd S N, X) ∧ I' 70 7 = 0 ∧ (∀ a, a < 70 ∨ 85 ≤ a → I' a = I a) := by
  have hA : AOk N := hO.1
  obtain ⟨I1, g1, g2, g3, g4⟩ := r_save (P := P) hM hO h6
  have g2 : MI I1 (N, svd S N, X) := g2
  have h22 : (-2 : Int32) = -2 := rfl
  refine ⟨up I1 71 (130 + 61 * (6 + t)) 0, ?_, ?_, by rw [up_ne _ _ _ (by decide), g4 7 (by decide), up_eq], fun a h => by rw [up_ne _ _ _ (by omega), g3 a (by omega) (by omega), up_ne _ _ _ (by omega)]⟩
  · unfold f_X9_check
    rw [bz_1 e0, if_pos h22, if_pos h22, bs_b g1, if_pos h22, bs_b (wr_e (130 + 61 * (6 + t)) (show (130 : Int32) + 61 * (6 + nI t) = nI (130 + 61 * (6 + t)) by rw [show (6 : Int32) = nI 6 from rfl, show (61 : Int32) = nI 61 from rfl, show (130 : Int32) = nI 130 from rfl, nI_add, pk_mul, nI_add]) (by omega) (by decide))]
  · refine g2.now (σ := (N, svd S N, X)) (by rw [up_ne _ _ _ (by decide)]) (by rw [up_ne _ _ _ (by decide)]) (fun a h1 h2 => up_ne _ _ _ (by omega)) (g2.1.setF hA (by omega) (fun k _ hk => up_nk _ _ (by omega)) ⟨by rw [up_eq]; rfl, fun j x hj => by simp at hj⟩)
theorem chkA_ok {N : Abs} {t s : Nat} (hA : AOk N) (hV : fV (N.2.2.1 s)) : AOk (chkA N t s) := by
  unfold chkA
  split
  · exact hA.setF (Or.inr hV)
  · exact hA.ref
theorem st_check : ST_check INV := by
  intro I R P Z nx x1 x2 hI hF0 hF1
  obtain ⟨σ, hC, hM, hO⟩ := hI
  have hA := hO.1
  have hM0 := hM.t0 (x := 0)
  rcases a_tab x1 with ⟨t, ht, rfl, e0, f0⟩ | ⟨e0, f0⟩
  rotate_left
  · exact ⟨(1, I, R, P, Z), (0, up (up I 70 7 0) 70 7 1), by unfold f_L_check f_X8_check; rw [bs_r e0]; rfl, by unfold f_X9_check; rw [bz_0 f0]; rfl, (show up (up I 70 7 0) 70 7 1 70 7 = 1 from up_eq _ _ _ _), fun h => absurd (show (1 : Int32) = 0 from h) (by decide), INV.ex hC hM hO⟩
  obtain ⟨N, S, X⟩ := σ
  have hA : AOk N := hA
  by_cases h2 : x2 = -2
  · subst h2
    obtain ⟨I1, R1, g1, g2, g3⟩ := k_uncheck hC hA ht e0
    obtain ⟨I2, q1, q2, q3, q4⟩ := r_uncheck (P := P) ((hM.cf g3).t0 (x := 0)) hO hC.2.1.2.1 ht f0
    have hO2 : GOk (setF N (6 + t) [], svd S N, X) := (GOk.save hO).now (hA.setF (Or.inl rfl))
    exact ⟨(0, I1, R1, P, (vp_updL Z.1 0 (0).toInt64, Z.2)), (0, I2), by unfold f_L_check; rw [g1]; rfl, q1, (show I2 70 7 = 0 from q3), fun _ => upL0 Z.1 _, ⟨_, g2.e70 q4, q2, hO2⟩⟩
  rcases a_slot x2 with ⟨s, hs, rfl, e1, f1⟩ | ⟨e1, f1⟩
  rotate_left
  · exact ⟨(1, I, R, P, Z), (0, up (up I 70 7 0) 70 7 1), by unfold f_L_check f_X8_check; rw [bs_l e0, if_neg h2, bs_r e1]; rfl, by unfold f_X9_check; rw [bz_1 f0, if_neg h2, bz_0 f1]; rfl, (show up (up I 70 7 0) 70 7 1 70 7 = 1 from up_eq _ _ _ _), fun h => absurd (show (1 : Int32) = 0 from h) (by decide), INV.ex hC hM hO⟩
  rcases k_filled hC.1 hA hs with ⟨e2, hL⟩ | ⟨k, e2, hF, hV⟩
  · exact ⟨(2, I, R, P, Z), (0, up (up I 70 7 0) 70 7 2), by unfold f_L_check f_X8_check; rw [bs_l e0, if_neg h2, bs_l e1, bs_r e2]; rfl, by unfold f_X9_check; rw [bz_1 f0, if_neg h2, bz_1 f1, if_neg h2, bz_0 (r_parts0 hM0.1 (show s < 8 by omega) hL)]; rfl, (show up (up I 70 7 0) 70 7 2 70 7 = 2 from up_eq _ _ _ _), fun h => absurd (show (2 : Int32) = 0 from h) (by decide), INV.ex hC hM hO⟩
  · obtain ⟨I1, R1, g1, g2, g3⟩ := k_check hC hA ht hs h2 e0 e1 e2 hF hV
    obtain ⟨I2, q1, q2, q3, q4⟩ := r_check (P := P) ((hM.cf g3).t0 (x := 0)) hO hC.2.1.2.1 ht hs h2 hV f0 f1
    have hO2 : GOk (chkA N t s, svd S N, X) := (GOk.save hO).now (chkA_ok hA hV)
    exact ⟨(0, I1, R1, P, (vp_updL Z.1 0 (nI (brk N t s)).toInt64, Z.2)), (nI (brk N t s), I2), by unfold f_L_check; rw [g1]; rfl, q1, (show I2 70 7 = 0 from q3), fun _ => upL0 Z.1 _, ⟨_, g2.e70 q4, q2, hO2⟩⟩
end MB14
