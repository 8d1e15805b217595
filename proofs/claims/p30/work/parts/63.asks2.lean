/-! PURE PART 44: count, share, certain. -/
section MB63
def dbtN (A : Abs) (t : Nat) : Nat := if A.2.2.1 (6 + t) = [] then 0 else cntb (fun r => decide (tvA A t r (A.2.2.1 (6 + t)) = 1)) (A.1 t)
def cntV (σ : Gst) (j : Nat) : Int32 := if j = 0 then nI (σ.1.1 0) else if j = 1 then nI (σ.1.1 1) else if j = 2 then nI (cntb (fun s => !decide (σ.1.2.2.1 s = [])) 6) else if j = 3 then nI (dbtN σ.1 0) else if j = 4 then nI (dbtN σ.1 1) else if j = 5 then σ.1.2.2.2 else if j = 6 then nI σ.2.1.length else nI σ.2.2.2.length
def opCount (σ : Gst) (x : Int32) : Int32 ⊕ Nat := if ixb 8 x = true then .inl (cntV σ (vN x)) else .inr 1
theorem m_count {I : Mem} {R : Rem} {P : Pool} {σ : Gst} {x1 : Int32} (hC : CI I R P σ) (hA : AOk σ.1) : ∃ I', f_X8_count x1 P R I = some (opCount σ x1, I') ∧ Eqx SC I I' := by
  unfold opCount
  rcases a_rng x1 (n := 7) (by decide) with ⟨j, hj, rfl, e0, b0, v0⟩ | ⟨e0, b0⟩
  rotate_left
  · have e0 : f_X8_requireRange x1 (7 : Int32) = some (.inr 1) := e0
    exact ⟨I, by unfold f_X8_count; rw [bs_r e0, b0]; rfl, Eqx.rf⟩
  have e0 : f_X8_requireRange (nI j) (7 : Int32) = some (.inl ()) := e0
  rw [if_pos b0, v0]
  unfold f_X8_count
  rw [bs_l e0]
  rcases (show j = 0 ∨ j = 1 ∨ j = 2 ∨ j = 3 ∨ j = 4 ∨ j = 5 ∨ j = 6 ∨ j = 7 by omega) with rfl | rfl | rfl | rfl | rfl | rfl | rfl | rfl
  · refine ⟨I, ?_, Eqx.rf⟩
    rw [if_pos (show nI 0 = 0 from rfl), k_cnt hC.1 (show 0 < 2 by decide)]; rfl
  · refine ⟨I, ?_, Eqx.rf⟩
    rw [if_neg (show ¬ nI 1 = 0 by decide), if_pos (show nI 1 = 1 from rfl), k_cnt hC.1 (show 1 < 2 by decide)]; rfl
  · refine ⟨I, ?_, Eqx.rf⟩
    rw [if_neg (show ¬ nI 2 = 0 by decide), if_neg (show ¬ nI 2 = 1 by decide), if_pos (show nI 2 = 2 from rfl)]
    unfold f_X8_filledSlots; rw [show f_X8_filledSlots_L4 P R fuel 0 0 = _ from k_filled_L hC.1 hA 6 0 fuel rfl (by unfold fuel; omega)]; rfl
  · have e3 : (nI 3 : Int32) - 3 = nI 0 := pk_sub (a := 3) (b := 3) (by decide)
    rw [if_neg (show ¬ nI 3 = 0 by decide), if_neg (show ¬ nI 3 = 1 by decide), if_neg (show ¬ nI 3 = 2 by decide), if_pos (show nI 3 = 3 from rfl), e3]
    rw [show cntV σ 3 = nI (dbtN σ.1 0) from rfl]
    unfold dbtN
    rcases s_check hC.1 hA (show 0 < 2 by decide) with ⟨o1, o2⟩ | ⟨k, o1, o2, hF, hV⟩
    · exact ⟨I, by rw [o1, if_pos o2]; rfl, Eqx.rf⟩
    · obtain ⟨I1, g1, g2⟩ := k_countRows (v := 1) hC.1 hA (show 0 < 2 by decide) hF hV
      exact ⟨I1, by rw [o1, if_neg (fV_ne hV)]; simp only [Option.bind_some]; rw [g1]; rfl, g2.mono sub_SC1⟩
  · have e3 : (nI 4 : Int32) - 3 = nI 1 := pk_sub (a := 4) (b := 3) (by decide)
    rw [if_neg (show ¬ nI 4 = 0 by decide), if_neg (show ¬ nI 4 = 1 by decide), if_neg (show ¬ nI 4 = 2 by decide), if_neg (show ¬ nI 4 = 3 by decide), if_pos (show nI 4 = 4 from rfl), e3]
    rw [show cntV σ 4 = nI (dbtN σ.1 1) from rfl]
    unfold dbtN
    rcases s_check hC.1 hA (show 1 < 2 by decide) with ⟨o1, o2⟩ | ⟨k, o1, o2, hF, hV⟩
    · exact ⟨I, by rw [o1, if_pos o2]; rfl, Eqx.rf⟩
    · obtain ⟨I1, g1, g2⟩ := k_countRows (v := 1) hC.1 hA (show 1 < 2 by decide) hF hV
      exact ⟨I1, by rw [o1, if_neg (fV_ne hV)]; simp only [Option.bind_some]; rw [g1]; rfl, g2.mono sub_SC1⟩
  · refine ⟨I, ?_, Eqx.rf⟩
    rw [if_neg (show ¬ nI 5 = 0 by decide), if_neg (show ¬ nI 5 = 1 by decide), if_neg (show ¬ nI 5 = 2 by decide), if_neg (show ¬ nI 5 = 3 by decide), if_neg (show ¬ nI 5 = 4 by decide), if_pos (show nI 5 = 5 from rfl), hC.1.2.2.2.2]; rfl
  · refine ⟨I, ?_, Eqx.rf⟩
    rw [if_neg (show ¬ nI 6 = 0 by decide), if_neg (show ¬ nI 6 = 1 by decide), if_neg (show ¬ nI 6 = 2 by decide), if_neg (show ¬ nI 6 = 3 by decide), if_neg (show ¬ nI 6 = 4 by decide), if_neg (show ¬ nI 6 = 5 by decide), if_pos (show nI 6 = 6 from rfl), hC.2.1.1]; rfl
  · refine ⟨I, ?_, Eqx.rf⟩
    rw [if_neg (show ¬ nI 7 = 0 by decide), if_neg (show ¬ nI 7 = 1 by decide), if_neg (show ¬ nI 7 = 2 by decide), if_neg (show ¬ nI 7 = 3 by decide), if_neg (show ¬ nI 7 = 4 by decide), if_neg (show ¬ nI 7 = 5 by decide), if_neg (show ¬ nI 7 = 6 by decide), hC.2.2.2.1]; rfl
def shN (A : Abs) (t s : Nat) : Nat := if A.2.2.1 s = [] then 0 else cntb (fun r => decide (tvA A t r (A.2.2.1 s) = 2)) (A.1 t)
def shV (A : Abs) (t s : Nat) : UInt64 := if A.1 t = 0 then FP.dconst0 else FP.ddiv (FP.i2d (nI (shN A t s))) (FP.i2d (nI (A.1 t)))
def opShare (A : Abs) (x1 x2 : Int32) : UInt64 ⊕ Nat := if ixb 2 x1 = true then (if ixb 6 x2 = true then .inl (shV A (vN x1) (vN x2)) else .inr 0) else .inr 0
theorem m_share {I : Mem} {R : Rem} {P : Pool} {A : Abs} {x1 x2 : Int32} (hS : CSt I R P 1 A) (hA : AOk A) : ∃ I', f_X8_share x1 x2 P R I = some (opShare A x1 x2, I') ∧ Eqx SC I I' := by
  unfold opShare f_X8_share
  rcases a_tab x1 with ⟨t, ht, rfl, e0, b0, v0⟩ | ⟨e0, b0⟩
  rotate_left
  · exact ⟨I, by rw [bs_r e0, b0]; rfl, Eqx.rf⟩
  rcases a_slot x2 with ⟨s, hs, rfl, e1, b1, v1⟩ | ⟨e1, b1⟩
  rotate_left
  · exact ⟨I, by rw [bs_l e0, bs_r e1, b0, b1]; rfl, Eqx.rf⟩
  have h16 := hA.1 t ht
  rw [if_pos b0, if_pos b1, v0, v1]
  unfold shV
  rcases Nat.eq_zero_or_pos (A.1 t) with hn | hn
  · rw [if_pos hn]
    exact ⟨I, by simp [e0, e1, sm_l, k_cnt hS ht, hn, show nI 0 = 0 from rfl], Eqx.rf⟩
  · rw [if_neg (by omega)]
    have hn0 : ¬ nI (A.1 t) = 0 := nI_ne0 hn (by omega)
    unfold shN
    rcases s_slot hS hA hs with ⟨o1, o2⟩ | ⟨k, o1, o2, hF, hV⟩
    · obtain ⟨t1, t2⟩ := fp_tab (A.1 t) (by omega) 0 (by omega) (by omega) hn
      rw [if_pos o2]
      rw [fp_i0] at t1 ⊢
      have fz : FP.i2d 0 = FP.dconst0 := fp_i0
      exact ⟨I, by unfold f_X8_countRows; simp [e0, e1, sm_l, k_cnt hS ht, hn0, o1, oq_n, fz, t1], Eqx.rf⟩
    · obtain ⟨I1, g1, g2⟩ := k_countRows (v := 2) hS hA ht hF hV
      have hc := cntb_le (fun r => decide (tvA A t r (A.2.2.1 s) = 2)) (A.1 t)
      obtain ⟨t1, t2⟩ := fp_tab (A.1 t) (by omega) _ (by omega) hc hn
      rw [if_neg (fV_ne hV)]
      exact ⟨I1, by simp [e0, e1, sm_l, k_cnt hS ht, hn0, o1, g1, t1], g2.mono sub_SC1⟩
/-- over m times n pairs -/
def exB (f : Nat → Nat → Bool) (m n : Nat) : Bool := anyb (fun x => anyb (f x) n) m
theorem exB_iff {f : Nat → Nat → Bool} {m n : Nat} : exB f m n = true ↔ ∃ x y, x < m ∧ y < n ∧ f x y = true := by
  unfold exB
  rw [anyb_iff]
  constructor
  · rintro ⟨x, hx, h⟩
    obtain ⟨y, hy, h⟩ := (anyb_iff _ _).mp h
    exact ⟨x, y, hx, hy, h⟩
  · rintro ⟨x, y, hx, hy, h⟩
    exact ⟨x, hx, (anyb_iff _ _).mpr ⟨y, hy, h⟩⟩
def crtE (A : Abs) (t r : Nat) (L : List Nat) (p : Int32 → Bool) : Bool := exB (fun x y => p (ftv (A.2.1 t r) (fun c => decide (A.2.1 t r c = -1)) L (lo (dbt A t r L)) (lo (nx2 (dbt A t r L))) x y)) (if lo (dbt A t r L) < 4 then 100 else 1) (if lo (nx2 (dbt A t r L)) < 4 then 100 else 1)
def crtV (A : Abs) (t r : Nat) (L : List Nat) : Int32 := if cntb (dbt A t r L) 4 ≤ 2 then (if crtE A t r L (fun v => decide (v = 2)) = true then (if crtE A t r L (fun v => decide (¬ v = 2)) = true then 1 else 2) else 0) else -2
theorem crtE_iff {A : Abs} {t r : Nat} {L : List Nat} {p : Int32 → Bool} (hV : fV L) : crtE A t r L p = true ↔ ∃ x y, x < 100 ∧ y < 100 ∧ p (ftv (A.2.1 t r) (fun c => decide (A.2.1 t r c = -1)) L (lo (dbt A t r L)) (lo (nx2 (dbt A t r L))) x y) = true := by
  unfold crtE
  rw [exB_iff]
  generalize ha : lo (dbt A t r L) = a
  generalize hb : lo (nx2 (dbt A t r L)) = b
  have ha4 : a ≤ 4 := by rw [← ha]; exact lo_le _
  have hb4 : b ≤ 4 := by rw [← hb]; exact lo_le _
  constructor
  · rintro ⟨x, y, hx, hy, h⟩
    exact ⟨x, y, by split at hx <;> omega, by split at hy <;> omega, h⟩
  · rintro ⟨x, y, hx, hy, h⟩
    by_cases ea : a < 4
    · rw [if_pos ea]
      by_cases eb : b < 4
      · rw [if_pos eb]; exact ⟨x, y, hx, hy, h⟩
      · obtain rfl : b = 4 := by omega
        rw [if_neg eb]
        exact ⟨x, 0, hx, by decide, by rw [ftv_b (w' := y) hV.1]; exact h⟩
    · obtain rfl : a = 4 := by omega
      rw [if_neg ea]
      by_cases eb : b < 4
      · rw [if_pos eb]
        exact ⟨0, y, by decide, hy, by rw [ftv_a (v' := x) hV.1]; exact h⟩
      · obtain rfl : b = 4 := by omega
        rw [if_neg eb]
        exact ⟨0, 0, by decide, by decide, by rw [ftv_a (v' := x) hV.1, ftv_b (w' := y) hV.1]; exact h⟩
def opCertain (A : Abs) (x1 x2 x3 : Int32) : Int32 ⊕ Nat := if (ixb 2 x1 && ixb (A.1 (vN x1)) x2) = true then (if ixb 6 x3 = true then (if A.2.2.1 (vN x3) = [] then .inl (-2) else .inl (crtV A (vN x1) (vN x2) (A.2.2.1 (vN x3)))) else .inr 0) else .inr 0
theorem m_certain {I : Mem} {R : Rem} {P : Pool} {A : Abs} {x1 x2 x3 : Int32} (hS : CSt I R P 1 A) (hA : AOk A) : ∃ I', f_X8_certain x1 x2 x3 P R I = some (opCertain A x1 x2 x3, I') ∧ Eqx SC I I' := by
  unfold opCertain f_X8_certain
  rcases a_row x1 x2 hS hA with ⟨t, r, ht, hr, rfl, rfl, e0, b0, v0, v1⟩ | ⟨e0, b0⟩
  rotate_left
  · exact ⟨I, by rw [bs_r e0, b0]; rfl, Eqx.rf⟩
  rcases a_slot x3 with ⟨s, hs, rfl, e1, b1, v2⟩ | ⟨e1, b1⟩
  rotate_left
  · exact ⟨I, by rw [bs_l e0, bs_r e1, b0, b1]; rfl, Eqx.rf⟩
  rw [bs_l e0, bs_l e1, if_pos b0, if_pos b1, v0, v1, v2]
  rcases s_slot hS hA hs with ⟨o1, o2⟩ | ⟨k, o1, o2, hF, hV⟩
  · exact ⟨I, by rw [bo_n o1, if_pos o2], Eqx.rf⟩
  · obtain ⟨I1, v, g1, g2, g3⟩ := k_certX hS hA ht hr hF hV
    refine ⟨I1, ?_, g2⟩
    rw [bo_s o1, if_neg (fV_ne hV)]
    refine Eq.trans g1 (congrArg (fun z => some (Sum.inl z, I1)) ?_)
    unfold crtV
    by_cases e : cntb (dbt A t r (A.2.2.1 s)) 4 ≤ 2
    · rw [if_pos e] at g3 ⊢
      obtain ⟨w8, w9, h1, h2, h3⟩ := g3
      have c8 := crtE_iff (A := A) (t := t) (r := r) (p := fun v => decide (v = 2)) hV
      have c9 := crtE_iff (A := A) (t := t) (r := r) (p := fun v => decide (¬ v = 2)) hV
      simp only [decide_eq_true_eq] at c8 c9
      rw [h1]
      by_cases d8 : w8 = 0
      · rw [if_pos d8, if_neg (fun h => h2.z.1.mp d8 (c8.mp h))]
      · rw [if_neg d8]
        have hp8 : w8 = 1 := by rcases h2 with h | h; exact h.1; exact absurd h.1 d8
        rw [if_pos (c8.mpr (h2.z.2.mp hp8))]
        by_cases d9 : w9 = 0
        · rw [if_pos d9, if_neg (fun h => h3.z.1.mp d9 (c9.mp h))]
        · rw [if_neg d9]
          have hp9 : w9 = 1 := by rcases h3 with h | h; exact h.1; exact absurd h.1 d9
          rw [if_pos (c9.mpr (h3.z.2.mp hp9))]
    · rw [if_neg e] at g3 ⊢
      exact g3
end MB63
