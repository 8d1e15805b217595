/-! PURE PART 40: certain. -/
section MB39
/-- the cells that are unknown and stand in a test -/
def dbt (A : Abs) (t r : Nat) (L : List Nat) : Nat → Bool := fun c => decide (A.2.1 t r c = -1) && hb (clA L 0) c
theorem k_certX {I : Mem} {R : Rem} {P : Pool} {A : Abs} {t r k : Nat} {L : List Nat} (hS : CSt I R P 1 A) (hA : AOk A) (ht : t < 2) (hr : r < A.1 t) (hF : FObj I R P k L) (hV : fV L) :
    ∃ I' v, ((f_X8_loadRow (nI t) (nI r) I).bind fun q9 => (f_X8_unknownsOf 10 P q9).bind fun q10 => (f_X2_columnSet k P R q9).bind fun q11 => (f_J6_bitCount_0f7a4 (q10 &&& q11)).bind fun q12 => if q12 ≤ 2 then ((f_X0_list (some k) 10 P R q9).bind fun q13 => (f_X8_certainty (some k) q10 (q10 &&& q11) P R q13).bind fun q14 => some (.inl q14.1, q14.2)) else some (.inl (-2), q9) : Option ((Int32 ⊕ Nat) × Mem)) = some (.inl v, I') ∧ Eqx SC I I' ∧ (if cntb (dbt A t r L) 4 ≤ 2 then (∃ w8 w9, v = (if w8 = 0 then 0 else if w9 = 0 then 2 else 1) ∧ FL w8 (∃ x y, x < 100 ∧ y < 100 ∧ ftv (A.2.1 t r) (fun c => decide (A.2.1 t r c = -1)) L (lo (dbt A t r L)) (lo (nx2 (dbt A t r L))) x y = 2) ∧ FL w9 (∃ x y, x < 100 ∧ y < 100 ∧ ¬ ftv (A.2.1 t r) (fun c => decide (A.2.1 t r c = -1)) L (lo (dbt A t r L)) (lo (nx2 (dbt A t r L))) x y = 2)) else v = -2) := by
  obtain ⟨I1, a1, a2, a3⟩ := k_loadRow hS hA ht hr
  have hF1 : FObj I1 R P k L := hF.eqx a2 (by decide)
  have hmk : msk (fun j => decide (I1 10 j = -1)) 4 &&& clA L 0 = msk (dbt A t r L) 4 := by
    rw [msk_and]
    exact msk_cg (fun c hc => by unfold dbt; rw [a3 c hc])
  have hbc := k_bitsM (b := dbt A t r L) (n := 4) (by decide)
  have hc4 := cntb_le (dbt A t r L) 4
  have hok : ∀ j, j < 4 → cok (A.2.1 t r j) := fun j hj => hA.2.1 t r j ht hr hj
  rw [bs_b a1, bs_b (k_unk ln10), bs_b (k_cl hF1 hV), hmk, bs_b hbc]
  by_cases e : cntb (dbt A t r L) 4 ≤ 2
  · obtain ⟨I2, sz, b1, b2, b3⟩ := k_list hF1 hV (ln10 (P := P)) a3 hok
    obtain ⟨I3, w8, w9, c1, c2, c3, c4⟩ := k_certy (x2 := msk (fun j => decide (I1 10 j = -1)) 4) (b := dbt A t r L) (hF1.eqx b2 (by decide)) hV (ln10 (P := P)) (fun j hj => by rw [b2 10 (by decide)]; exact a3 j hj) hok b3
    have hG : ∀ x y, ftv (A.2.1 t r) (hb (msk (fun j => decide (I1 10 j = -1)) 4)) L (lo (dbt A t r L)) (lo (nx2 (dbt A t r L))) x y = ftv (A.2.1 t r) (fun c => decide (A.2.1 t r c = -1)) L (lo (dbt A t r L)) (lo (nx2 (dbt A t r L))) x y := fun x y => tv_cg hV.1 (fun _ _ => rfl) (fun c hc => by rw [hb_m4 hc, a3 c hc])
    refine ⟨I3, (if w8 = 0 then 0 else if w9 = 0 then 2 else 1), ?_, ((a2.mono (by decide)).tr (b2.mono (by decide))).tr (c2.mono (by decide)), ?_⟩
    · rw [if_pos (show nI (cntb (dbt A t r L) 4) ≤ 2 from nI_le (b := 2) e (by decide)), bs_b b1, bs_b c1]
    · rw [if_pos e]
      refine ⟨w8, w9, rfl, c3.cg ?_, c4.cg ?_⟩
      · exact ⟨fun ⟨x, y, h1, h2, h3⟩ => ⟨x, y, h1, h2, by rw [← hG]; exact h3⟩, fun ⟨x, y, h1, h2, h3⟩ => ⟨x, y, h1, h2, by rw [hG]; exact h3⟩⟩
      · exact ⟨fun ⟨x, y, h1, h2, h3⟩ => ⟨x, y, h1, h2, by rw [← hG]; exact h3⟩, fun ⟨x, y, h1, h2, h3⟩ => ⟨x, y, h1, h2, by rw [hG]; exact h3⟩⟩
  · refine ⟨I1, -2, ?_, a2.mono (by decide), by rw [if_neg e]⟩
    rw [if_neg (show ¬ nI (cntb (dbt A t r L) 4) ≤ 2 from nI_ge (a := 2) (by omega) (by omega))]
theorem r_certX {I : Mem} {A : Abs} {t r s : Nat} {L : List Nat} (h : RSt (I 71) A) (hA : AOk A) (ht : t < 2) (hr : r < A.1 t) (hs : s < 8) (hF : FRf (I 71) s L) (hV : fV L) :
    ∃ I' v, f_X9_certainAt (nI t) (nI r) (nI s) I = some (v, I') ∧ Eqx [70, 76, 77, 78] I I' ∧ K11 I I' ∧ (if cntb (dbt A t r L) 4 ≤ 2 then (∃ w4 w5, v = (if w4 + w5 = 2 then 1 else if w4 = 1 then 2 else 0) ∧ FL w4 (∃ x y, x < 100 ∧ y < 100 ∧ ftv (A.2.1 t r) (fun c => decide (A.2.1 t r c = -1)) L (lo (dbt A t r L)) (lo (nx2 (dbt A t r L))) x y = 2) ∧ FL w5 (∃ x y, x < 100 ∧ y < 100 ∧ ftv (A.2.1 t r) (fun c => decide (A.2.1 t r c = -1)) L (lo (dbt A t r L)) (lo (nx2 (dbt A t r L))) x y = 0)) else v = -2) := by
  obtain ⟨I1, a1, a2, a3⟩ := r_takesRow h hA ht hr
  have hF1 : FRf (I1 71) s L := by rw [a2 71 (by decide)]; exact hF
  have hK1 : K11 I I1 := fun j _ => by rw [a2 70 (by decide)]
  have hcA := r_cA (x1 := nI t) (x2 := nI r) (x3 := nI s) (y4 := clA L 0) (I := I1) (b := dbt A t r L) (fun c hc => by unfold dbt; rw [(a3 c hc).1])
  have hc4 := cntb_le (dbt A t r L) 4
  have hab : lo (dbt A t r L) ≠ lo (nx2 (dbt A t r L)) ∨ lo (nx2 (dbt A t r L)) = 4 := by
    by_cases e : lo (nx2 (dbt A t r L)) = 4
    · exact Or.inr e
    · have hle := lo_le (nx2 (dbt A t r L))
      have := lo_t (b := nx2 (dbt A t r L)) (by omega)
      have h2 : dbt A t r L (lo (nx2 (dbt A t r L))) = true ∧ lo (dbt A t r L) < lo (nx2 (dbt A t r L)) := by
        have h3 : (dbt A t r L (lo (nx2 (dbt A t r L))) && decide (lo (dbt A t r L) < lo (nx2 (dbt A t r L)))) = true := this
        simpa using h3
      exact Or.inl (by omega)
  unfold f_X9_certainAt
  rw [bs_b a1, bs_b (r_cl hs hF1 hV), bs_b hcA]
  dsimp only
  by_cases e : cntb (dbt A t r L) 4 ≤ 2
  · obtain ⟨I2, w4, w5, c1, c2, c3, c4, c5⟩ := r_all (row := A.2.1 t r) (uk := fun c => decide (A.2.1 t r c = -1)) hs hF1 hV hab (lo_le _) (lo_le _) (fun c hc => by rw [(a3 c hc).2]) (fun j hj => (a3 j hj).1)
    refine ⟨I2, (if w4 + w5 = 2 then 1 else if w4 = 1 then 2 else 0), ?_, (a2.mono (by decide)).tr (c2.mono (by decide)), fun j hj => (c3 j hj).trans (hK1 j hj), ?_⟩
    · rw [if_pos (show nI (cntb (dbt A t r L) 4) ≤ 2 from nI_le (b := 2) e (by decide)), bs_b c1]
    · rw [if_pos e]
      exact ⟨w4, w5, rfl, c4, c5⟩
  · refine ⟨I1, -2, ?_, a2.mono (by decide), hK1, by rw [if_neg e]⟩
    rw [if_neg (show ¬ nI (cntb (dbt A t r L) 4) ≤ 2 from nI_ge (a := 2) (by omega) (by omega))]
theorem st_certain : ST_certain INV := by
  intro I R P Z nx x1 x2 x3 hI hF0 hF1
  obtain ⟨σ, hC, hM, hO⟩ := hI
  have hA := hO.1
  have hM0 := hM.t0 (x := 0)
  rcases a_row x1 x2 hC.1 hA with ⟨t, r, ht, hr, rfl, rfl, e0, f0⟩ | ⟨e0, f0⟩
  rotate_left
  · exact ⟨(1, I, R, P, Z), (0, up (up I 70 7 0) 70 7 1), by unfold f_L_certain f_X8_certain; rw [bs_r e0]; rfl, by unfold f_X9_certain; rw [bz_0 (f0 _ hM0.1)]; rfl, (show up (up I 70 7 0) 70 7 1 70 7 = 1 from up_eq _ _ _ _), fun h => absurd (show (1 : Int32) = 0 from h) (by decide), INV.ex hC hM hO⟩
  rcases a_slot x3 with ⟨s, hs, rfl, e1, f1⟩ | ⟨e1, f1⟩
  rotate_left
  · exact ⟨(1, I, R, P, Z), (0, up (up I 70 7 0) 70 7 1), by unfold f_L_certain f_X8_certain; rw [bs_l e0, bs_r e1]; rfl, by unfold f_X9_certain; rw [bz_1 (f0 _ hM0.1), bz_0 f1]; rfl, (show up (up I 70 7 0) 70 7 1 70 7 = 1 from up_eq _ _ _ _), fun h => absurd (show (1 : Int32) = 0 from h) (by decide), INV.ex hC hM hO⟩
  rcases s_slot hC.1 hA hs with ⟨o1, o2⟩ | ⟨k, o1, o2, hF, hV⟩
  · refine ⟨(0, I, R, P, (vp_updL Z.1 0 (-2 : Int32).toInt64, Z.2)), (-2, up I 70 7 0), by unfold f_L_certain f_X8_certain; rw [bs_l e0, bs_l e1, bo_n o1]; rfl, ?_, (show up I 70 7 0 70 7 = 0 from up_eq _ _ _ _), fun _ => upL0 Z.1 _, INV.q hC hM hO Eqx.rf (Eqx.up (by decide)) KM.thr⟩
    unfold f_X9_certain
    rw [bz_1 (f0 _ hM0.1), bz_1 f1, bs_b (r_partsN hM0.1 (show s < 8 by omega)), o2, if_pos (show nI ([] : List Nat).length = 0 from rfl)]
  · obtain ⟨I1, v, g1, g2, g3⟩ := k_certX hC.1 hA ht hr hF hV
    have hM1 := (hM.sc g2).t0 (x := 0)
    obtain ⟨I2, v2, q1, q2, q3, q4⟩ := r_certX hM1.1 hA ht hr (show s < 8 by omega) (hM1.1.2.2.1 s (by omega)) hV
    have hvv : v2 = v := by
      by_cases e : cntb (dbt σ.1 t r (σ.1.2.2.1 s)) 4 ≤ 2
      · rw [if_pos e] at g3 q4
        obtain ⟨w8, w9, h1, h2, h3⟩ := g3
        obtain ⟨w4, w5, j1, j2, j3⟩ := q4
        rw [h1, j1]
        refine (same_v h2 h3 j2 j3 ?_).symm
        have h20 : ∀ x y, x < 100 → y < 100 → ftv (σ.1.2.1 t r) (fun c => decide (σ.1.2.1 t r c = -1)) (σ.1.2.2.1 s) (lo (dbt σ.1 t r (σ.1.2.2.1 s))) (lo (nx2 (dbt σ.1 t r (σ.1.2.2.1 s)))) x y = 0 ∨ ftv (σ.1.2.1 t r) (fun c => decide (σ.1.2.1 t r c = -1)) (σ.1.2.2.1 s) (lo (dbt σ.1 t r (σ.1.2.2.1 s))) (lo (nx2 (dbt σ.1 t r (σ.1.2.2.1 s)))) x y = 2 := fun x y hx hy => by
          refine ftv_20 hV (fun u hu h3u j hj hc n1 n2 hun => ?_) hx hy
          have hT := vC_t (hV.1 u hu) h3u
          have hbt := clA_t (σ.1.2.2.1 s) 0 u j hu h3u hT hj hc
          have hd : dbt σ.1 t r (σ.1.2.2.1 s) j = true := by unfold dbt; rw [hbt, hun]; rfl
          have hbf := bf_cg (dbt σ.1 t r (σ.1.2.2.1 s))
          have := cnt_d (dbt σ.1 t r (σ.1.2.2.1 s) 0) (dbt σ.1 t r (σ.1.2.2.1 s) 1) (dbt σ.1 t r (σ.1.2.2.1 s) 2) (dbt σ.1 t r (σ.1.2.2.1 s) 3) (by rw [← cntb_cg hbf]; exact e) j hj (by rw [← hbf j hj]; exact hd)
          rw [← lo_cg hbf, ← lo_cg (nx2_cg hbf)] at this
          rcases this with h | h
          · exact n1 h
          · exact n2 h
        constructor
        · rintro ⟨x, y, hx, hy, h⟩
          exact ⟨x, y, hx, hy, (h20 x y hx hy).resolve_right h⟩
        · rintro ⟨x, y, hx, hy, h⟩
          exact ⟨x, y, hx, hy, by rw [h]; decide⟩
      · rw [if_neg e] at g3 q4
        rw [g3, q4]
    rw [hvv] at q1
    refine ⟨(0, I1, R, P, (vp_updL Z.1 0 v.toInt64, Z.2)), (v, I2), ?_, ?_, (show I2 70 7 = 0 by rw [q3 7 (by decide), up_eq]), fun _ => upL0 Z.1 _, INV.q hC hM hO g2 ((Eqx.up (by decide)).tr (q2.mono (by decide))) (KM.thr.tr q3.km)⟩
    · unfold f_L_certain f_X8_certain
      rw [bs_l e0, bs_l e1, bo_s o1]
      rw [bs_b g1]
      rfl
    · unfold f_X9_certain
      rw [bz_1 (f0 _ hM1.1), bz_1 f1, bs_b (r_partsN hM1.1 (show s < 8 by omega)), if_neg (fV_len hV).2.2, bs_b q1]
end MB39
