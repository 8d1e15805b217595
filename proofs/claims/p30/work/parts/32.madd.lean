/-! PURE PART 13: add, change, check. -/
section MB12
theorem CI.e70 {I I' : Mem} {R : Rem} {P : Pool} {σ : Gst} (h : CI I R P σ) (hE : ∀ a, a < 70 ∨ 70 ≤ a → I' a = I a) : CI I' R P σ := h.fr (fun a ha => hE a (by omega))
/-- one step of a call: what was asked for first is granted, is refused -/
theorem bs_l {α β δ : Type} {x : Option (α ⊕ β)} {a : α} {f : α → Option δ} {g : β → Option δ} (h : x = some (.inl a)) : (x.bind fun q => sm q f g) = f a := by rw [h]; rfl
theorem bs_r {α β δ : Type} {x : Option (α ⊕ β)} {b : β} {f : α → Option δ} {g : β → Option δ} (h : x = some (.inr b)) : (x.bind fun q => sm q f g) = g b := by rw [h]; rfl
theorem bz_1 {δ : Type} {x : Option Int32} {f g : Int32 → Option δ} (h : x = some 1) : (x.bind fun q => if q = 0 then f q else g q) = g 1 := by subst h; show (if (1 : Int32) = 0 then f 1 else g 1) = g 1; rw [if_neg (show ¬ (1 : Int32) = 0 by decide)]
theorem bz_0 {δ : Type} {x : Option Int32} {f g : Int32 → Option δ} (h : x = some 0) : (x.bind fun q => if q = 0 then f q else g q) = f 0 := by subst h; show (if (0 : Int32) = 0 then f 0 else g 0) = f 0; rw [if_pos (show (0 : Int32) = 0 from rfl)]
theorem bs_b {α δ : Type} {x : Option α} {a : α} {f : α → Option δ} (h : x = some a) : (x.bind f) = f a := by rw [h]; rfl
theorem k_put_L {I0 : Mem} {R : Rem} {P : Pool} {t r : Nat} {x2 x3 x4 x5 : Int32} (ht : t < 2) (hr : r < 16) : ∀ (d c n : Nat) (I : Mem), c + d = 4 → d < n → Eqx [2] I0 I → (∀ j, j < c → I 2 ((t * 16 + r) * 4 + j) = I0 10 j) → (∀ k, k < (t * 16 + r) * 4 ∨ (t * 16 + r) * 4 + c ≤ k → I 2 k = I0 2 k) →
    ∃ I', f_X8_add_L108 (nI t) x2 x3 x4 x5 P (nI r) R n (nI c) I = some I' ∧ Eqx [2] I0 I' ∧ (∀ j, j < 4 → I' 2 ((t * 16 + r) * 4 + j) = I0 10 j) ∧ (∀ k, k < (t * 16 + r) * 4 ∨ (t * 16 + r) * 4 + 4 ≤ k → I' 2 k = I0 2 k)
  | 0, c, n, I, hc, hn, hE, h1, h2 => by
    obtain ⟨n, rfl⟩ : ∃ m, n = m + 1 := ⟨n - 1, by omega⟩
    have e : c = 4 := by omega
    subst e
    refine ⟨I, ?_, hE, h1, h2⟩
    unfold f_X8_add_L108
    rw [if_pos (show (4 : Int32) ≤ nI 4 by decide)]
  | d + 1, c, n, I, hc, hn, hE, h1, h2 => by
    obtain ⟨n, rfl⟩ : ∃ m, n = m + 1 := ⟨n - 1, by omega⟩
    unfold f_X8_add_L108
    rw [if_neg (show ¬ (4 : Int32) ≤ nI c from nI_ge (b := 4) (by omega) (by decide)), k_place]
    simp only [Option.bind_some]
    rw [rd_e c rfl (by omega) (by decide)]
    simp only [Option.bind_some]
    rw [wr_e ((t * 16 + r) * 4 + c) rfl (by omega) (by decide)]
    simp only [Option.bind_some]
    rw [nI_1, hE 10 (by decide)]
    refine k_put_L ht hr d (c + 1) n _ (by omega) (by omega) (hE.tr (Eqx.up (by decide))) (fun j hj => ?_) (fun k hk => ?_)
    · by_cases e : j = c
      · subst e; rw [up_eq]
      · rw [up_nk _ _ (by omega)]; exact h1 j (by omega)
    · rw [up_nk _ _ (by omega)]; exact h2 k (by omega)
def row4 (x2 x3 x4 x5 : Int32) : Nat → Int32 := fun c => if c = 0 then x2 else if c = 1 then x3 else if c = 2 then x4 else x5
def addA (A : Abs) (t : Nat) (row : Nat → Int32) : Abs := if vioA A t row = true then refA A else incA (putA A t (A.1 t) row) t
def addV (A : Abs) (t : Nat) (row : Nat → Int32) : Int32 := if vioA A t row = true then -2 else nI (A.1 t)
theorem CSt.ref {I I' : Mem} {R : Rem} {P : Pool} {A : Abs} (h : CSt I R P 1 A) (hI : ∀ a, a ≠ 1 → I' a = I a) (h1 : I' 1 4 = I 1 4 + 1) : CSt I' R P 1 (refA A) :=
  h.set (fun a ha => hI a (by omega)) (fun t ht => by rw [hI 3 (by decide)]; exact h.1 t ht) (fun t r c ht hr hc => by rw [hI 2 (by decide)]; exact h.2.1 t r c ht hr hc) rfl (by rw [h1, h.2.2.2.2]; rfl)
theorem row4_cok {x2 x3 x4 x5 : Int32} (h2 : cok x2) (h3 : cok x3) (h4 : cok x4) (h5 : cok x5) : ∀ c, c < 4 → cok (row4 x2 x3 x4 x5 c) := by
  intro c hc
  unfold row4
  split
  · exact h2
  · split
    · exact h3
    · split
      · exact h4
      · exact h5
theorem k_add {I : Mem} {R : Rem} {P : Pool} {N : Abs} {S : List Abs} {X : (Nat → Option Abs) × List Nat} {t : Nat} {x2 x3 x4 x5 : Int32} (hC : CI I R P (N, S, X)) (hA : AOk N) (ht : t < 2) (hn : N.1 t < 16) (e0 : f_X8_requireTable (nI t) = some (.inl ())) (e1 : f_X8_requireCellValue x2 = some (.inl ())) (e2 : f_X8_requireCellValue x3 = some (.inl ())) (e3 : f_X8_requireCellValue x4 = some (.inl ())) (e4 : f_X8_requireCellValue x5 = some (.inl ())) :
    ∃ I' R', f_X8_add (nI t) x2 x3 x4 x5 P R I = some (.inl (addV N t (row4 x2 x3 x4 x5)), I', R') ∧ CI I' R' P (addA N t (row4 x2 x3 x4 x5), svd S N, X) ∧ (∀ a, 70 ≤ a → a < 70 → I' a = I a) := by
  obtain ⟨I1, R1, g1, g2, g3, g4, g5⟩ := k_save hC hA
  have g2 : CI I1 R1 P (N, svd S N, X) := g2
  obtain ⟨I2, hI2⟩ : ∃ I2, I2 = up (up (up (up I1 10 0 x2) 10 1 x3) 10 2 x4) 10 3 x5 := ⟨_, rfl⟩
  have hE2 : Eqx [10] I1 I2 := by rw [hI2]; exact (((Eqx.up (by decide)).tr (Eqx.up (by decide))).tr (Eqx.up (by decide))).tr (Eqx.up (by decide))
  have r2 : ∀ j, j < 4 → I2 10 j = row4 x2 x3 x4 x5 j := by
    intro j hj
    rw [hI2]
    rcases (show j = 0 ∨ j = 1 ∨ j = 2 ∨ j = 3 by omega) with rfl | rfl | rfl | rfl
    · rw [up_nk _ _ (by decide), up_nk _ _ (by decide), up_nk _ _ (by decide), up_eq]; rfl
    · rw [up_nk _ _ (by decide), up_nk _ _ (by decide), up_eq]; rfl
    · rw [up_nk _ _ (by decide), up_eq]; rfl
    · rw [up_eq]; rfl
  have hC2 : CI I2 R1 P (N, svd S N, X) := g2.sc (hE2.mono (by decide))
  obtain ⟨o, I3, v1, v2, v3⟩ := k_vio hC2.1 hA ht r2
  have hC3 : CI I3 R1 P (N, svd S N, X) := hC2.sc (v3.mono (by decide))
  have h70 : ∀ a, 70 ≤ a → a < 70 → I3 a = I a := fun a h1 h2 => by rw [v3 a (by simp; omega), hE2 a (by simp; omega), g3 a (by omega) (by omega)]
  have head : f_X8_add (nI t) x2 x3 x4 x5 P R I = (if (if vioA N t (row4 x2 x3 x4 x5) = true then 1 else 0 : Int32) = 0 then ((f_X8_add_L108 (nI t) x2 x3 x4 x5 P (nI (N.1 t)) R1 fuel 0 I3).bind fun q27 => (wr q27 3 2 (nI t) (nI (N.1 t) + 1)).bind fun I28 => some (.inl (nI (N.1 t)), I28, R1)) else ((f_X8_refuse I3).bind fun q29 => some (.inl q29.1, q29.2, R1))) := by
    unfold f_X8_add
    rw [bs_l e0, bs_l e1, bs_l e2, bs_l e3, bs_l e4]
    rw [bs_b (k_cnt hC.1 ht), if_pos (show nI (N.1 t) < 16 from nI_lt (b := 16) hn (by decide)), bs_b g1, bs_b (show wr I1 10 4 0 x2 = some (up I1 10 0 x2) from wr_e 0 rfl (by decide) (by decide)), bs_b (show wr (up I1 10 0 x2) 10 4 1 x3 = some (up (up I1 10 0 x2) 10 1 x3) from wr_e 1 rfl (by decide) (by decide)), bs_b (show wr (up (up I1 10 0 x2) 10 1 x3) 10 4 2 x4 = some (up (up (up I1 10 0 x2) 10 1 x3) 10 2 x4) from wr_e 2 rfl (by decide) (by decide)), bs_b (show wr (up (up (up I1 10 0 x2) 10 1 x3) 10 2 x4) 10 4 3 x5 = some (up (up (up (up I1 10 0 x2) 10 1 x3) 10 2 x4) 10 3 x5) from wr_e 3 rfl (by decide) (by decide)), ← hI2, bs_b v1, bs_b v2]
  by_cases hv : vioA N t (row4 x2 x3 x4 x5) = true
  · refine ⟨up I3 1 4 (I3 1 4 + 1), R1, ?_, ?_, fun a h1 h2 => by rw [up_ne _ _ _ (by omega)]; exact h70 a h1 h2⟩
    · unfold addV
      rw [head, if_pos hv, if_pos hv, if_neg (show ¬ (1 : Int32) = 0 by decide)]
      unfold f_X8_refuse
      simp only [Option.bind_some]
    · unfold addA
      rw [if_pos hv]
      exact hC3.now (σ := (N, svd S N, X)) (fun a h1 _ _ _ => up_ne _ _ _ h1) (fun _ _ _ => rfl) (hC3.1.ref (fun a h1 => up_ne _ _ _ h1) (up_eq _ _ _ _))
  · obtain ⟨I4, p1, p2, p3, p4⟩ := k_put_L (I0 := I3) (R := R1) (P := P) (x2 := x2) (x3 := x3) (x4 := x4) (x5 := x5) ht hn 4 0 fuel I3 rfl (by unfold fuel; omega) Eqx.rf (fun j hj => absurd hj (by omega)) (fun _ _ => rfl)
    have p1 : f_X8_add_L108 (nI t) x2 x3 x4 x5 P (nI (N.1 t)) R1 fuel 0 I3 = some I4 := p1
    have i0 : ∀ a, a ≠ 2 → a ≠ 3 → up I4 3 t (nI (N.1 t + 1)) a = I3 a := fun a h1 h2 => by rw [up_ne _ _ _ h2, p2 a (by simp; omega)]
    have hr10 : ∀ j, j < 4 → I3 10 j = row4 x2 x3 x4 x5 j := fun j hj => by rw [v3 10 (by decide)]; exact r2 j hj
    refine ⟨up I4 3 t (nI (N.1 t + 1)), R1, ?_, ?_, fun a h1 h2 => by rw [i0 a (by omega) (by omega)]; exact h70 a h1 h2⟩
    · unfold addV
      rw [head, if_neg hv, if_neg hv, if_pos (show (0 : Int32) = 0 from rfl), p1]
      simp only [Option.bind_some]
      rw [wr_e t rfl ht (by decide), nI_1]
      simp only [Option.bind_some]
    · unfold addA
      rw [if_neg hv]
      refine hC3.now (σ := (N, svd S N, X)) (fun a _ h1 h2 _ => i0 a h1 h2) (fun _ _ _ => rfl) (hC3.1.set (fun a h1 => i0 a (by omega) (by omega)) (fun t' ht' => ?_) (fun t' r' c' ht' hr' hc' => ?_) rfl (by rw [i0 1 (by decide) (by decide)]; exact hC3.1.2.2.2.2))
      · show up I4 3 t (nI (N.1 t + 1)) 3 t' = nI (if t' = t then N.1 t + 1 else N.1 t')
        by_cases e : t' = t
        · rw [if_pos e, e, up_eq]
        · rw [if_neg e, up_nk _ _ e, p2 3 (by decide)]; exact hC3.1.1 t' ht'
      · have hr' : r' < (if t' = t then N.1 t + 1 else N.1 t') := hr'
        show up I4 3 t (nI (N.1 t + 1)) 2 ((t' * 16 + r') * 4 + c') = (if t' = t ∧ r' = N.1 t then row4 x2 x3 x4 x5 c' else N.2.1 t' r' c')
        rw [up_ne _ _ _ (show 2 ≠ 3 by decide)]
        have h16 := hA.1 t' ht'
        by_cases e : t' = t ∧ r' = N.1 t
        · rw [if_pos e, e.1, e.2, p3 c' hc', hr10 c' hc']
        · rw [if_neg e]
          have hr2 : r' < N.1 t' := by
            split at hr'
            · rename_i e2
              have : r' ≠ N.1 t := fun h => e ⟨e2, h⟩
              rw [e2]; omega
            · exact hr'
          rw [p4 _ (by
            by_cases e2 : t' = t
            · have : r' ≠ N.1 t := fun h => e ⟨e2, h⟩
              omega
            · omega)]
          exact hC3.1.2.1 t' r' c' ht' hr2 hc'
theorem addA_ok {N : Abs} {t : Nat} {row : Nat → Int32} (hA : AOk N) (hn : N.1 t < 16) (hr : ∀ c, c < 4 → cok (row c)) : AOk (addA N t row) := by
  unfold addA
  split
  · exact hA.ref
  · exact hA.add hr hn
end MB12
