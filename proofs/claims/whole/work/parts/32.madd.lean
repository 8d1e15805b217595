/-! PURE PART 13: add, change, check. -/
section MB12
theorem CI.e70 {I I' : Mem} {R : Rem} {P : Pool} {σ : Gst} (h : CI I R P σ) (hE : ∀ a, a < 70 ∨ 85 ≤ a → I' a = I a) : CI I' R P σ := h.fr (fun a ha => hE a (by omega))
/-- one step of a call: what was asked for first is granted, is refused -/
theorem bs_l {α β δ : Type} {x : Option (α ⊕ β)} {a : α} {f : α → Option δ} {g : β → Option δ} (h : x = some (.inl a)) : (x.bind fun q => sm q f g) = f a := by rw [h]; rfl
theorem bs_r {α β δ : Type} {x : Option (α ⊕ β)} {b : β} {f : α → Option δ} {g : β → Option δ} (h : x = some (.inr b)) : (x.bind fun q => sm q f g) = g b := by rw [h]; rfl
theorem bz_1 {δ : Type} {x : Option Int32} {f g : Int32 → Option δ} (h : x = some 1) : (x.bind fun q => if q = 0 then f q else g q) = g 1 := by subst h; show (if (1 : Int32) = 0 then f 1 else g 1) = g 1; rw [if_neg (show ¬ (1 : Int32) = 0 by decide)]
theorem bz_0 {δ : Type} {x : Option Int32} {f g : Int32 → Option δ} (h : x = some 0) : (x.bind fun q => if q = 0 then f q else g q) = f 0 := by subst h; show (if (0 : Int32) = 0 then f 0 else g 0) = f 0; rw [if_pos (show (0 : Int32) = 0 from rfl)]
theorem bs_b {α δ : Type} {x : Option α} {a : α} {f : α → Option δ} (h : x = some a) : (x.bind f) = f a := by rw [h]; rfl
theorem k_put_L {I0 : Mem} {R : Rem} {P : Pool} {t r : Nat} {x2 x3 x4 x5 : Int32} (ht : t < 2) (hr : r < 16) : ∀ (d c n : Nat) (I : Mem), c + d = 4 → d < n → Eqx [2] I0 I → (∀ j, j < c → I 2 ((t * 16 + r) * 4 + j) = I0 10 j) → (∀ k, k < (t * 16 + r) * 4 ∨ (t * 16 + r) * 4 + c ≤ k → I 2 k = I0 2 k) →
    ∃ I', f_X8_add_L108 (nI t) x2 x3 x4 x5 P (nI r) R n (nI c) I = some I' ∧ Eqx [2] I0 I' ∧ (∀ j, j < 4 → I' 2 ((t * 16 + r) * 4 + j) = I0 10 j) ∧ (∀ k, k < (t * 16 + r) * 4 ∨ (t * 16 + r) * 4 + 4 ≤ k → I' 2 k = I0 2 k)
  | 0, c, n, I, hc, hn, hE, h1, h2 => by
    obtain ⟨n, rfl⟩ : ∃ m, n = m + 1 := ⟨n - 1, by omega⟩
    have e : c = 4 := by omega
    subst e
    refine ⟨I, ?_, hE, h1, h2⟩
    unfold f_X8_add_L108
    rw [if_pos (show (4 : Int32) ≤ nI 4 by decide)]
  | d + 1, c, n, I, hc, hn, hE, h1, h2 => by
    obtain ⟨n, rfl⟩ : ∃ m, n = m + 1 := ⟨n - 1, by omega⟩
    unfold f_X8_add_L108
    rw [if_neg (show ¬ (4 : Int32) ≤ nI c from nI_ge (b := 4) (by omega) (by decide)), k_place]
    simp only [Option.bind_some]
    rw [rd_e c rfl (by omega) (by decide)]
    simp only [Option.bind_some]
    rw [wr_e ((t * 16 + r) * 4 + c) rfl (by omega) (by decide)]
    simp only [Option.bind_some]
    rw [nI_1, hE 10 (by decide)]
    refine k_put_L ht hr d (c + 1) n _ (by omega) (by omega) (hE.tr (Eqx.up (by decide))) (fun j hj => ?_) (fun k hk => ?_)
    · by_cases e : j = c
      · subst e; rw [up_eq]
      · rw [up_nk _ _ (by omega)]; exact h1 j (by omega)
    · rw [up_nk _ _ (by omega)]; exact h2 k (by omega)
def row4 (x2 x3 x4 x5 : Int32) : Nat → Int32 := fun c => if c = 0 then x2 else if c = 1 then x3 else if c = 2 then x4 else x5
def addA (A : Abs) (t : Nat) (row : Nat → Int32) : Abs := if vioA A t row = true then refA A else incA (putA A t (A.1 t) row) t
def addV (A : Abs) (t : Nat) (row : Nat → Int32) : Int32 := if vioA A t row = true then -2 else nI (A.1 t)
theorem CSt.ref {I I' : Mem} {R : Rem} {P : Pool} {A : Abs} (h : CSt I R P 1 A) (hI : ∀ a, a ≠ 1 → I' a = I a) (h1 : I' 1 4 = I 1 4 + 1) : CSt I' R P 1 (refA A) :=
  h.set (fun a ha => hI a (by omega)) (fun t ht => by rw [hI 3 (by decide)]; exact h.1 t ht) (fun t r c ht hr hc => by rw [hI 2 (by decide)]; exact h.2.1 t r c ht hr hc) rfl (by rw [h1, h.2.2.2.2]; rfl)
theorem row4_cok {x2 x3 x4 x5 : Int32} (h2 : cok x2) (h3 : cok x3) (h4 : cok x4) (h5 : cok x5) : ∀ c, c < 4 → cok (row4 x2 x3 x4 x5 c) := by
  intro c hc
  unfold row4
  split
  · exact h2
  · split
    · exact h3
    · split
      · exact h4
      · exact h5
theorem k_add {I : Mem} {R : Rem} {P : Pool} {N : Abs} {S : List Abs} {X : (Nat → Option Abs) × List Nat} {t : Nat} {x2 x3 x4 x5 : Int32} (hC : CI I R P (N, S, X)) (hA : AOk N) (ht : t < 2) (hn : N.1 t < 16) (e0 : f_X8_requireTable (nI t) = some (.inl ())) (e1 : f_X8_requireCellValue x2 = some (.inl ())) (e2 : f_X8_requireCellValue x3 = some (.inl ())) (e3 : f_X8_requireCellValue x4 = some (.inl ())) (e4 : f_X8_requireCellValue x5 = some (.inl ())) :
    ∃ I' R', f_X8_add (nI t) x2 x3 x4 x5 P R I = some (.inl (addV N t (row4 x2 x3 x4 x5)), I', R') ∧ CI I' R' P (addA N t (row4 x2 x3 x4 x5), svd S N, X) ∧ (∀ a, 70 ≤ a → a < 85 → I' a = I a) := by
  obtain ⟨I1, R1, g1, g2, g3, g4, g5⟩ := k_save hC hA
  have g2 : CI I1 R1 P (N, svd S N, X) := g2
  obtain ⟨I2, hI2⟩ : ∃ I2, I2 = up (up (up (up I1 10 0 x2) 10 1 x3) 10 2 x4) 10 3 x5 := ⟨_, rfl⟩
  have hE2 : Eqx [10] I1 I2 := by rw [hI2]; exact (((Eqx.up (by decide)).tr (Eqx.up (by decide))).tr (Eqx.up (by decide))).tr (Eqx.up (by decide))
  have r2 : ∀ j, j < 4 → I2 10 j = row4 x2 x3 x4 x5 j := by
    intro j hj
    rw [hI2]
    rcases (show j = 0 ∨ j = 1 ∨ j = 2 ∨ j = 3 by omega) with rfl | rfl | rfl | rfl
    · rw [up_nk _ _ (by decide), up_nk _ _ (by decide), up_nk _ _ (by decide), up_eq]; rfl
    · rw [up_nk _ _ (by decide), up_nk _ _ (by decide), up_eq]; rfl
    · rw [up_nk _ _ (by decide), up_eq]; rfl
    · rw [up_eq]; rfl
  have hC2 : CI I2 R1 P (N, svd S N, X) := g2.sc (hE2.mono (by decide))
  obtain ⟨o, I3, v1, v2, v3⟩ := k_vio hC2.1 hA ht r2
  have hC3 : CI I3 R1 P (N, svd S N, X) := hC2.sc (v3.mono (by decide))
  have h70 : ∀ a, 70 ≤ a → a < 85 → I3 a = I a := fun a h1 h2 => by rw [v3 a (by simp; omega), hE2 a (by simp; omega), g3 a (by omega) (by omega)]
  have head : f_X8_add (nI t) x2 x3 x4 x5 P R I = (if (if vioA N t (row4 x2 x3 x4 x5) = true then 1 else 0 : Int32) = 0 then ((f_X8_add_L108 (nI t) x2 x3 x4 x5 P (nI (N.1 t)) R1 fuel 0 I3).bind fun q27 => (wr q27 3 2 (nI t) (nI (N.1 t) + 1)).bind fun I28 => some (.inl (nI (N.1 t)), I28, R1)) else ((f_X8_refuse I3).bind fun q29 => some (.inl q29.1, q29.2, R1))) := by
    unfold f_X8_add
    rw [bs_l e0, bs_l e1, bs_l e2, bs_l e3, bs_l e4]
    rw [bs_b (k_cnt hC.1 ht), if_pos (show nI (N.1 t) < 16 from nI_lt (b := 16) hn (by decide)), bs_b g1, bs_b (show wr I1 10 4 0 x2 = some (up I1 10 0 x2) from wr_e 0 rfl (by decide) (by decide)), bs_b (show wr (up I1 10 0 x2) 10 4 1 x3 = some (up (up I1 10 0 x2) 10 1 x3) from wr_e 1 rfl (by decide) (by decide)), bs_b (show wr (up (up I1 10 0 x2) 10 1 x3) 10 4 2 x4 = some (up (up (up I1 10 0 x2) 10 1 x3) 10 2 x4) from wr_e 2 rfl (by decide) (by decide)), bs_b (show wr (up (up (up I1 10 0 x2) 10 1 x3) 10 2 x4) 10 4 3 x5 = some (up (up (up (up I1 10 0 x2) 10 1 x3) 10 2 x4) 10 3 x5) from wr_e 3 rfl (by decide) (by decide)), ← hI2, bs_b v1, bs_b v2]
  by_cases hv : vioA N t (row4 x2 x3 x4 x5) = true
  · refine ⟨up I3 1 4 (I3 1 4 + 1), R1, ?_, ?_, fun a h1 h2 => by rw [up_ne _ _ _ (by omega)]; exact h70 a h1 h2⟩
    · unfold addV
      rw [head, if_pos hv, if_pos hv, if_neg (show ¬ (1 : Int32) = 0 by decide)]
      unfold f_X8_refuse
      simp only [Option.bind_some]
    · unfold addA
      rw [if_pos hv]
      exact hC3.now (σ := (N, svd S N, X)) (fun a h1 _ _ _ => up_ne _ _ _ h1) (fun _ _ _ => rfl) (hC3.1.ref (fun a h1 => up_ne _ _ _ h1) (up_eq _ _ _ _))
  · obtain ⟨I4, p1, p2, p3, p4⟩ := k_put_L (I0 := I3) (R := R1) (P := P) (x2 := x2) (x3 := x3) (x4 := x4) (x5 := x5) ht hn 4 0 fuel I3 rfl (by unfold fuel; omega) Eqx.rf (fun j hj => absurd hj (by omega)) (fun _ _ => rfl)
    have p1 : f_X8_add_L108 (nI t) x2 x3 x4 x5 P (nI (N.1 t)) R1 fuel 0 I3 = some I4 := p1
    have i0 : ∀ a, a ≠ 2 → a ≠ 3 → up I4 3 t (nI (N.1 t + 1)) a = I3 a := fun a h1 h2 => by rw [up_ne _ _ _ h2, p2 a (by simp; omega)]
    have hr10 : ∀ j, j < 4 → I3 10 j = row4 x2 x3 x4 x5 j := fun j hj => by rw [v3 10 (by decide)]; exact r2 j hj
    refine ⟨up I4 3 t (nI (N.1 t + 1)), R1, ?_, ?_, fun a h1 h2 => by rw [i0 a (by omega) (by omega)]; exact h70 a h1 h2⟩
    · unfold addV
      rw [head, if_neg hv, if_neg hv, if_pos (show (0 : Int32) = 0 from rfl), p1]
      simp only [Option.bind_some]
      rw [wr_e t rfl ht (by decide), nI_1]
      simp only [Option.bind_some]
    · unfold addA
      rw [if_neg hv]
      refine hC3.now (σ := (N, svd S N, X)) (fun a _ h1 h2 _ => i0 a h1 h2) (fun _ _ _ => rfl) (hC3.1.set (fun a h1 => i0 a (by omega) (by omega)) (fun t' ht' => ?_) (fun t' r' c' ht' hr' hc' => ?_) rfl (by rw [i0 1 (by decide) (by decide)]; exact hC3.1.2.2.2.2))
      · show up I4 3 t (nI (N.1 t + 1)) 3 t' = nI (if t' = t then N.1 t + 1 else N.1 t')
        by_cases e : t' = t
        · rw [if_pos e, e, up_eq]
        · rw [if_neg e, up_nk _ _ e, p2 3 (by decide)]; exact hC3.1.1 t' ht'
      · have hr' : r' < (if t' = t then N.1 t + 1 else N.1 t') := hr'
        show up I4 3 t (nI (N.1 t + 1)) 2 ((t' * 16 + r') * 4 + c') = (if t' = t ∧ r' = N.1 t then row4 x2 x3 x4 x5 c' else N.2.1 t' r' c')
        rw [up_ne _ _ _ (show 2 ≠ 3 by decide)]
        have h16 := hA.1 t' ht'
        by_cases e : t' = t ∧ r' = N.1 t
        · rw [if_pos e, e.1, e.2, p3 c' hc', hr10 c' hc']
        · rw [if_neg e]
          have hr2 : r' < N.1 t' := by
            split at hr'
            · rename_i e2
              have : r' ≠ N.1 t := fun h => e ⟨e2, h⟩
              rw [e2]; omega
            · exact hr'
          rw [p4 _ (by
            by_cases e2 : t' = t
            · have : r' ≠ N.1 t := fun h => e ⟨e2, h⟩
              omega
            · omega)]
          exact hC3.1.2.1 t' r' c' ht' hr2 hc'
theorem r_hof {I : Mem} {t r : Nat} {row : Nat → Int32} (ht : t < 2) (hr : r < 16) (h : ∀ c, c < 4 → I 71 (2 + 4 * (16 * t + r) + c) = row c) : ∀ (I1 : Mem) (c : Nat), Eqx [76, 77] I I1 → c < 4 → f_X9_of (nI t) (nI r) (nI c) I1 = some (row c) := by
  intro I1 c hE hc
  unfold f_X9_of
  rw [r_at]
  simp only [Option.bind_some]
  rw [rd_e (2 + 4 * (16 * t + r) + c) rfl (by omega) (by decide), hE 71 (by decide), h c hc]
  rfl
theorem RSt.ref {f g : Nat → Int32} {A : Abs} (h : RSt f A) (hA : AOk A) (hg : ∀ k, k < 618 → (∀ t r c, t < 2 → r < A.1 t → c < 4 → k = 2 + 4 * (16 * t + r) + c → g k = f k) ∧ (k < 2 → g k = f k) ∧ (130 ≤ k → g k = f k)) (h1 : g 618 = f 618 + 1) : RSt g (refA A) :=
  h.set hA (fun k h1 h2 => (hg k h2).2.2 h1) (fun t ht => by rw [(hg t (by omega)).2.1 ht]; exact h.1 t ht) (fun t r c ht hr hc => by have hr : r < A.1 t := hr; have := hA.1 t ht; rw [(hg _ (by omega)).1 t r c ht hr hc rfl]; exact h.2.1 t r c ht hr hc) rfl (by rw [h1, h.2.2.2]; rfl)
theorem r_add {I : Mem} {P : Pool} {N : Abs} {S : List Abs} {X : (Nat → Option Abs) × List Nat} {t : Nat} {x2 x3 x4 x5 : Int32} (hM : MI (up I 70 7 0) (N, S, X)) (hO : GOk (N, S, X)) (h6 : S.length ≤ 6) (ht : t < 2) (hn : N.1 t < 16) (e0 : f_X9_isTable (nI t) = some 1) (e1 : f_X9_isValue x2 = some 1) (e2 : f_X9_isValue x3 = some 1) (e3 : f_X9_isValue x4 = some 1) (e4 : f_X9_isValue x5 = some 1) :
    ∃ I', f_X9_add (nI t) x2 x3 x4 x5 P I = some (addV N t (row4 x2 x3 x4 x5), I') ∧ MI I' (addA N t (row4 x2 x3 x4 x5), svd S N, X) ∧ I' 70 7 = 0 ∧ (∀ a, a < 70 ∨ 85 ≤ a → I' a = I a) := by
  have hA : AOk N := hO.1
  obtain ⟨I1, g1, g2, g3, g4⟩ := r_save (P := P) hM hO h6
  have g2 : MI I1 (N, svd S N, X) := g2
  obtain ⟨p, hp⟩ : ∃ p, p = 2 + 4 * (16 * t + N.1 t) := ⟨_, rfl⟩
  obtain ⟨I2, hI2⟩ : ∃ I2, I2 = up (up (up (up I1 71 p x2) 71 (p + 1) x3) 71 (p + 2) x4) 71 (p + 3) x5 := ⟨_, rfl⟩
  have hE2 : Eqx [71] I1 I2 := by rw [hI2]; exact (((Eqx.up (by decide)).tr (Eqx.up (by decide))).tr (Eqx.up (by decide))).tr (Eqx.up (by decide))
  have r2 : ∀ j, j < 4 → I2 71 (p + j) = row4 x2 x3 x4 x5 j := by
    intro j hj
    rw [hI2]
    rcases (show j = 0 ∨ j = 1 ∨ j = 2 ∨ j = 3 by omega) with rfl | rfl | rfl | rfl
    · rw [up_nk _ _ (by omega), up_nk _ _ (by omega), up_nk _ _ (by omega), Nat.add_zero, up_eq]; rfl
    · rw [up_nk _ _ (by omega), up_nk _ _ (by omega), up_eq]; rfl
    · rw [up_nk _ _ (by omega), up_eq]; rfl
    · rw [up_eq]; rfl
  have u2 : ∀ k, k < p ∨ p + 4 ≤ k → I2 71 k = I1 71 k := by
    intro k hk
    rw [hI2, up_nk _ _ (by omega), up_nk _ _ (by omega), up_nk _ _ (by omega), up_nk _ _ (by omega)]
  have hlen := hA.len (s := 6 + t) (by omega)
  have hF2 : FRf (I2 71) (6 + t) (N.2.2.1 (6 + t)) := by
    have h := g2.1.2.2.1 (6 + t) (by omega)
    refine ⟨by rw [u2 _ (by omega)]; exact h.1, fun j x hj => ?_⟩
    have := (List.getElem?_eq_some_iff.mp hj).1
    rw [u2 _ (by omega)]
    exact h.2 j x hj
  obtain ⟨I3, v1, v2, v3⟩ := r_vio (row := row4 x2 x3 x4 x5) hA ht (r_hof ht hn (fun c hc => by rw [← hp]; exact r2 c hc)) hF2
  have a71 : I3 71 = I2 71 := v2 71 (by decide)
  have k70 : ∀ j, j ≠ 11 → j ≠ 2 → I3 70 j = up I 70 7 0 70 j := fun j h1 h2 => by rw [v3 j h1, hE2 70 (by decide), g4 j h2]
  have hothers : ∀ a, a < 70 ∨ 85 ≤ a → I3 a = I a := fun a h => by rw [v2 a (by simp; omega), hE2 a (by simp; omega), g3 a (by omega) (by omega), up_ne _ _ _ (by omega)]
  have h7x : ∀ a, 72 ≤ a → a ≤ 75 → I3 a = I1 a := fun a h1 h2 => by rw [v2 a (by simp; omega), hE2 a (by simp; omega)]
  have h702 : I3 70 2 = I1 70 2 := by rw [v3 2 (by decide), hE2 70 (by decide)]
  have h706 : I3 70 6 = I1 70 6 := by rw [v3 6 (by decide), hE2 70 (by decide)]
  have h707 : I3 70 7 = 0 := by rw [k70 7 (by decide) (by decide), up_eq]
  have hcell : ∀ t' r' c', t' < 2 → r' < N.1 t' → c' < 4 → I3 71 (2 + 4 * (16 * t' + r') + c') = I1 71 (2 + 4 * (16 * t' + r') + c') := fun t' r' c' h1 h2 h3 => by
    have h16 := hA.1 t' h1
    rw [a71, u2]
    by_cases e : t' = t
    · subst e; omega
    · omega
  have head : ∀ (K : Int32 × Mem → Option (Int32 × Mem)) (z : Option (Int32 × Mem)), K (if vioA N t (row4 x2 x3 x4 x5) = true then 1 else 0, I3) = z → ((f_X9_at (nI t) (nI (N.1 t)) 0).bind fun q12 => (wr I1 71 619 q12 x2).bind fun I13 => (wr I13 71 619 (q12 + 1) x3).bind fun I14 => (wr I14 71 619 (q12 + 2) x4).bind fun I15 => (wr I15 71 619 (q12 + 3) x5).bind fun I16 => (f_X9_violates (nI t) (nI (N.1 t)) I16).bind K) = z := by
    intro K z hz
    rw [show f_X9_at (nI t) (nI (N.1 t)) 0 = some (nI p) from by rw [hp]; exact r_at t (N.1 t) 0]
    simp only [Option.bind_some]
    rw [wr_e p rfl (by omega) (by decide)]
    simp only [Option.bind_some]
    rw [wr_e (p + 1) (show nI p + 1 = nI (p + 1) from nI_add p 1) (by omega) (by decide)]
    simp only [Option.bind_some]
    rw [wr_e (p + 2) (show nI p + 2 = nI (p + 2) from nI_add p 2) (by omega) (by decide)]
    simp only [Option.bind_some]
    rw [wr_e (p + 3) (show nI p + 3 = nI (p + 3) from nI_add p 3) (by omega) (by decide), ← hI2]
    simp only [Option.bind_some]
    rw [v1]
    exact hz
  unfold f_X9_add
  simp only [e0, e1, e2, e3, e4, Option.bind_some]
  rw [if_neg (show ¬ (1 : Int32) = 0 by decide), if_neg (show ¬ (1 : Int32) = 0 by decide), if_neg (show ¬ (1 : Int32) = 0 by decide), if_neg (show ¬ (1 : Int32) = 0 by decide), if_neg (show ¬ (1 : Int32) = 0 by decide), r_many hM.1 ht]
  simp only [Option.bind_some]
  rw [if_neg (show ¬ nI (N.1 t) = 16 from fun h => by rw [show (16 : Int32) = nI 16 from rfl, nI_eq (by omega) (by decide)] at h; omega), g1]
  simp only [Option.bind_some]
  rw [r_many g2.1 ht]
  simp only [Option.bind_some]
  by_cases hv : vioA N t (row4 x2 x3 x4 x5) = true
  · refine ⟨up I3 71 618 (I3 71 618 + 1), head _ _ ?_, ?_, by rw [up_ne _ _ _ (by decide)]; exact h707, fun a h => by rw [up_ne _ _ _ (by omega)]; exact hothers a h⟩
    · unfold addV
      rw [if_pos hv, if_pos hv, if_neg (show ¬ (1 : Int32) = 0 by decide)]
      dsimp only
      rw [rd_e 618 (show (618 : Int32) = nI 618 from rfl) (by decide) (by decide)]
      simp only [Option.bind_some]
      rw [wr_e 618 (show (618 : Int32) = nI 618 from rfl) (by decide) (by decide)]
      rfl
    · unfold addA
      rw [if_pos hv]
      refine g2.now (σ := (N, svd S N, X)) (by rw [up_ne _ _ _ (by decide)]; exact h702) (by rw [up_ne _ _ _ (by decide)]; exact h706) (fun a h1 h2 => by rw [up_ne _ _ _ (by omega)]; exact h7x a h1 h2) ?_
      refine g2.1.ref hA (fun k hk => ⟨fun t' r' c' h1 h2 h3 h4 => ?_, fun h => ?_, fun h => ?_⟩) ?_
      · rw [up_nk _ _ (by omega), h4]; exact hcell t' r' c' h1 h2 h3
      · rw [up_nk _ _ (by omega), a71, u2 _ (by omega)]
      · rw [up_nk _ _ (by omega), a71, u2 _ (by omega)]
      · rw [up_eq, a71, u2 _ (by omega)]
  · refine ⟨up I3 71 t (nI (N.1 t + 1)), head _ _ ?_, ?_, by rw [up_ne _ _ _ (by decide)]; exact h707, fun a h => by rw [up_ne _ _ _ (by omega)]; exact hothers a h⟩
    · unfold addV
      have h3t : I3 71 t = nI (N.1 t) := by rw [a71, u2 _ (by omega)]; exact g2.1.1 t ht
      rw [if_neg hv, if_neg hv, if_pos (show (0 : Int32) = 0 from rfl)]
      dsimp only
      rw [rd_e t (by rw [show (0 : Int32) = nI 0 from rfl, nI_add, Nat.zero_add]) (by omega) (by decide), h3t]
      simp only [Option.bind_some]
      rw [wr_e t (by rw [show (0 : Int32) = nI 0 from rfl, nI_add, Nat.zero_add]) (by omega) (by decide), nI_1]
      rfl
    · unfold addA
      rw [if_neg hv]
      refine g2.now (σ := (N, svd S N, X)) (by rw [up_ne _ _ _ (by decide)]; exact h702) (by rw [up_ne _ _ _ (by decide)]; exact h706) (fun a h1 h2 => by rw [up_ne _ _ _ (by omega)]; exact h7x a h1 h2) ?_
      refine g2.1.set hA (fun k h1 h2 => ?_) (fun t' ht' => ?_) (fun t' r' c' ht' hr' hc' => ?_) rfl ?_
      · rw [up_nk _ _ (by omega), a71, u2 _ (by omega)]
      · show up I3 71 t (nI (N.1 t + 1)) 71 t' = nI (if t' = t then N.1 t + 1 else N.1 t')
        by_cases e : t' = t
        · rw [if_pos e, e, up_eq]
        · rw [if_neg e, up_nk _ _ e, a71, u2 _ (by omega)]; exact g2.1.1 t' ht'
      · have hr' : r' < (if t' = t then N.1 t + 1 else N.1 t') := hr'
        show up I3 71 t (nI (N.1 t + 1)) 71 (2 + 4 * (16 * t' + r') + c') = (if t' = t ∧ r' = N.1 t then row4 x2 x3 x4 x5 c' else N.2.1 t' r' c')
        rw [up_nk _ _ (by omega)]
        by_cases e : t' = t ∧ r' = N.1 t
        · rw [if_pos e, e.1, e.2, a71, ← hp, r2 c' hc']
        · rw [if_neg e]
          have hr2 : r' < N.1 t' := by
            split at hr'
            · rename_i e2
              have : r' ≠ N.1 t := fun h => e ⟨e2, h⟩
              rw [e2]; omega
            · exact hr'
          rw [hcell t' r' c' ht' hr2 hc']
          exact g2.1.2.1 t' r' c' ht' hr2 hc'
      · rw [up_nk _ _ (by omega), a71, u2 _ (by omega)]
        exact g2.1.2.2.2
theorem addA_ok {N : Abs} {t : Nat} {row : Nat → Int32} (hA : AOk N) (hn : N.1 t < 16) (hr : ∀ c, c < 4 → cok (row c)) : AOk (addA N t row) := by
  unfold addA
  split
  · exact hA.ref
  · exact hA.add hr hn
theorem st_add : ST_add INV := by
  intro I R P Z nx x1 x2 x3 x4 x5 hI hF0 hF1
  obtain ⟨σ, hC, hM, hO⟩ := hI
  have hA := hO.1
  have hM0 := hM.t0 (x := 0)
  rcases a_tab x1 with ⟨t, ht, rfl, e0, f0⟩ | ⟨e0, f0⟩
  rotate_left
  · exact ⟨(1, I, R, P, Z), (0, up (up I 70 7 0) 70 7 1), by unfold f_L_add f_X8_add; rw [bs_r e0]; rfl, by unfold f_X9_add; rw [bz_0 f0]; rfl, (show up (up I 70 7 0) 70 7 1 70 7 = 1 from up_eq _ _ _ _), fun h => absurd (show (1 : Int32) = 0 from h) (by decide), INV.ex hC hM hO⟩
  rcases a_val x2 with ⟨hv1, e1, f1⟩ | ⟨e1, f1⟩
  rotate_left
  · exact ⟨(2, I, R, P, Z), (0, up (up I 70 7 0) 70 7 2), by unfold f_L_add f_X8_add; rw [bs_l e0, bs_r e1]; rfl, by unfold f_X9_add; rw [bz_1 f0, bz_0 f1]; rfl, (show up (up I 70 7 0) 70 7 2 70 7 = 2 from up_eq _ _ _ _), fun h => absurd (show (2 : Int32) = 0 from h) (by decide), INV.ex hC hM hO⟩
  rcases a_val x3 with ⟨hv2, e2, f2⟩ | ⟨e2, f2⟩
  rotate_left
  · exact ⟨(2, I, R, P, Z), (0, up (up I 70 7 0) 70 7 2), by unfold f_L_add f_X8_add; rw [bs_l e0, bs_l e1, bs_r e2]; rfl, by unfold f_X9_add; rw [bz_1 f0, bz_1 f1, bz_0 f2]; rfl, (show up (up I 70 7 0) 70 7 2 70 7 = 2 from up_eq _ _ _ _), fun h => absurd (show (2 : Int32) = 0 from h) (by decide), INV.ex hC hM hO⟩
  rcases a_val x4 with ⟨hv3, e3, f3⟩ | ⟨e3, f3⟩
  rotate_left
  · exact ⟨(2, I, R, P, Z), (0, up (up I 70 7 0) 70 7 2), by unfold f_L_add f_X8_add; rw [bs_l e0, bs_l e1, bs_l e2, bs_r e3]; rfl, by unfold f_X9_add; rw [bz_1 f0, bz_1 f1, bz_1 f2, bz_0 f3]; rfl, (show up (up I 70 7 0) 70 7 2 70 7 = 2 from up_eq _ _ _ _), fun h => absurd (show (2 : Int32) = 0 from h) (by decide), INV.ex hC hM hO⟩
  rcases a_val x5 with ⟨hv4, e4, f4⟩ | ⟨e4, f4⟩
  rotate_left
  · exact ⟨(2, I, R, P, Z), (0, up (up I 70 7 0) 70 7 2), by unfold f_L_add f_X8_add; rw [bs_l e0, bs_l e1, bs_l e2, bs_l e3, bs_r e4]; rfl, by unfold f_X9_add; rw [bz_1 f0, bz_1 f1, bz_1 f2, bz_1 f3, bz_0 f4]; rfl, (show up (up I 70 7 0) 70 7 2 70 7 = 2 from up_eq _ _ _ _), fun h => absurd (show (2 : Int32) = 0 from h) (by decide), INV.ex hC hM hO⟩
  obtain ⟨N, S, X⟩ := σ
  have hA : AOk N := hA
  have h16 := hA.1 t ht
  have cn := k_cnt hC.1 ht
  have rn := r_many hM0.1 ht
  by_cases hfull : N.1 t = 16
  · have cn : rd I 3 2 (nI t) = some 16 := by rw [cn]; exact congrArg (fun z => some (nI z)) hfull
    have rn : f_X9_many (nI t) (up I 70 7 0) = some 16 := by rw [rn]; exact congrArg (fun z => some (nI z)) hfull
    exact ⟨(3, I, R, P, Z), (0, up (up I 70 7 0) 70 7 3), by unfold f_L_add f_X8_add; rw [bs_l e0, bs_l e1, bs_l e2, bs_l e3, bs_l e4, bs_b cn]; rfl, by unfold f_X9_add; rw [bz_1 f0, bz_1 f1, bz_1 f2, bz_1 f3, bz_1 f4, bs_b rn]; rfl, (show up (up I 70 7 0) 70 7 3 70 7 = 3 from up_eq _ _ _ _), fun h => absurd (show (3 : Int32) = 0 from h) (by decide), INV.ex hC hM hO⟩
  · have hn : N.1 t < 16 := by omega
    obtain ⟨I1, R1, g1, g2, g3⟩ := k_add hC hA ht hn e0 e1 e2 e3 e4
    obtain ⟨I2, q1, q2, q3, q4⟩ := r_add (P := P) ((hM.cf g3).t0 (x := 0)) hO hC.2.1.2.1 ht hn f0 f1 f2 f3 f4
    have hO2 : GOk (addA N t (row4 x2 x3 x4 x5), svd S N, X) := (GOk.save hO).now (addA_ok hA hn (row4_cok hv1 hv2 hv3 hv4))
    exact ⟨(0, I1, R1, P, (vp_updL Z.1 0 (addV N t (row4 x2 x3 x4 x5)).toInt64, Z.2)), (addV N t (row4 x2 x3 x4 x5), I2), by unfold f_L_add; rw [g1]; rfl, q1, (show I2 70 7 = 0 from q3), fun _ => upL0 Z.1 _, ⟨_, g2.e70 q4, q2, hO2⟩⟩
end MB12
