/-! PURE PART 40: certain. -/
section MB39
/-- the cells that are unknown and stand in a test -/
def dbt (A : Abs) (t r : Nat) (L : List Nat) : Nat → Bool := fun c => decide (A.2.1 t r c = -1) && hb (clA L 0) c
theorem k_certX {I : Mem} {R : Rem} {P : Pool} {A : Abs} {t r k : Nat} {L : List Nat} (hS : CSt I R P 1 A) (hA : AOk A) (ht : t < 2) (hr : r < A.1 t) (hF : FObj I R P k L) (hV : fV L) :
    ∃ I' v, ((f_X8_loadRow (nI t) (nI r) I).bind fun q9 => (f_X8_unknownsOf 10 P q9).bind fun q10 => (f_X2_columnSet k P R q9).bind fun q11 => (f_J6_bitCount_0f7a4 (q10 &&& q11)).bind fun q12 => if q12 ≤ 2 then ((f_X0_list (some k) 10 P R q9).bind fun q13 => (f_X8_certainty (some k) q10 (q10 &&& q11) P R q13).bind fun q14 => some (.inl q14.1, q14.2)) else some (.inl (-2), q9) : Option ((Int32 ⊕ Nat) × Mem)) = some (.inl v, I') ∧ Eqx SC I I' ∧ (if cntb (dbt A t r L) 4 ≤ 2 then (∃ w8 w9, v = (if w8 = 0 then 0 else if w9 = 0 then 2 else 1) ∧ FL w8 (∃ x y, x < 100 ∧ y < 100 ∧ ftv (A.2.1 t r) (fun c => decide (A.2.1 t r c = -1)) L (lo (dbt A t r L)) (lo (nx2 (dbt A t r L))) x y = 2) ∧ FL w9 (∃ x y, x < 100 ∧ y < 100 ∧ ¬ ftv (A.2.1 t r) (fun c => decide (A.2.1 t r c = -1)) L (lo (dbt A t r L)) (lo (nx2 (dbt A t r L))) x y = 2)) else v = -2) := by
  obtain ⟨I1, a1, a2, a3⟩ := k_loadRow hS hA ht hr
  have hF1 : FObj I1 R P k L := hF.eqx a2 (by decide)
  have hmk : msk (fun j => decide (I1 10 j = -1)) 4 &&& clA L 0 = msk (dbt A t r L) 4 := by
    rw [msk_and]
    exact msk_cg (fun c hc => by unfold dbt; rw [a3 c hc])
  have hbc := k_bitsM (b := dbt A t r L) (n := 4) (by decide)
  have hc4 := cntb_le (dbt A t r L) 4
  have hok : ∀ j, j < 4 → cok (A.2.1 t r j) := fun j hj => hA.2.1 t r j ht hr hj
  rw [bs_b a1, bs_b (k_unk ln10), bs_b (k_cl hF1 hV), hmk, bs_b hbc]
  by_cases e : cntb (dbt A t r L) 4 ≤ 2
  · obtain ⟨I2, sz, b1, b2, b3⟩ := k_list hF1 hV (ln10 (P := P)) a3 hok
    obtain ⟨I3, w8, w9, c1, c2, c3, c4⟩ := k_certy (x2 := msk (fun j => decide (I1 10 j = -1)) 4) (b := dbt A t r L) (hF1.eqx b2 (by decide)) hV (ln10 (P := P)) (fun j hj => by rw [b2 10 (by decide)]; exact a3 j hj) hok b3
    have hG : ∀ x y, ftv (A.2.1 t r) (hb (msk (fun j => decide (I1 10 j = -1)) 4)) L (lo (dbt A t r L)) (lo (nx2 (dbt A t r L))) x y = ftv (A.2.1 t r) (fun c => decide (A.2.1 t r c = -1)) L (lo (dbt A t r L)) (lo (nx2 (dbt A t r L))) x y := fun x y => tv_cg hV.1 (fun _ _ => rfl) (fun c hc => by rw [hb_m4 hc, a3 c hc])
    refine ⟨I3, (if w8 = 0 then 0 else if w9 = 0 then 2 else 1), ?_, ((a2.mono (by decide)).tr (b2.mono (by decide))).tr (c2.mono (by decide)), ?_⟩
    · rw [if_pos (show nI (cntb (dbt A t r L) 4) ≤ 2 from nI_le (b := 2) e (by decide)), bs_b b1, bs_b c1]
    · rw [if_pos e]
      refine ⟨w8, w9, rfl, c3.cg ?_, c4.cg ?_⟩
      · exact ⟨fun ⟨x, y, h1, h2, h3⟩ => ⟨x, y, h1, h2, by rw [← hG]; exact h3⟩, fun ⟨x, y, h1, h2, h3⟩ => ⟨x, y, h1, h2, by rw [hG]; exact h3⟩⟩
      · exact ⟨fun ⟨x, y, h1, h2, h3⟩ => ⟨x, y, h1, h2, by rw [← hG]; exact h3⟩, fun ⟨x, y, h1, h2, h3⟩ => ⟨x, y, h1, h2, by rw [hG]; exact h3⟩⟩
  · refine ⟨I1, -2, ?_, a2.mono (by decide), by rw [if_neg e]⟩
    rw [if_neg (show ¬ nI (cntb (dbt A t r L) 4) ≤ 2 from nI_ge (a := 2) (by omega) (by omega))]
end MB39
