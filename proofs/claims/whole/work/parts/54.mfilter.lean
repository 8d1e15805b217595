/-! PURE PART 35: filter, letter. -/
section MB34
theorem bo_n {β : Type} {x : Option (Option Nat)} {a : Option β} {f : Nat → Option β} (h : x = some none) : (x.bind fun o => oq o a f) = a := by rw [h]; rfl
theorem bo_s {β : Type} {x : Option (Option Nat)} {k : Nat} {a : Option β} {f : Nat → Option β} (h : x = some (some k)) : (x.bind fun o => oq o a f) = f k := by rw [h]; rfl
theorem KW.km {I I' : Mem} (h : KW I I') : KM I I' := ⟨h 2 (by decide) (by decide), h 6 (by decide) (by decide)⟩
theorem st_filter : ST_filter INV := by
  intro I R P Z nx x1 x2 hI hF0 hF1
  obtain ⟨σ, hC, hM, hO⟩ := hI
  have hA := hO.1
  have hM0 := hM.t0 (x := 0)
  rcases a_slot x1 with ⟨s, hs, rfl, e0, f0⟩ | ⟨e0, f0⟩
  rotate_left
  · exact ⟨(1, I, R, P, Z), (0, up (up I 70 7 0) 70 7 1), by unfold f_L_filter f_X8_filter; rw [bs_r e0]; rfl, by unfold f_X9_filter; rw [bz_0 f0]; rfl, (show up (up I 70 7 0) 70 7 1 70 7 = 1 from up_eq _ _ _ _), fun h => absurd (show (1 : Int32) = 0 from h) (by decide), INV.ex hC hM hO⟩
  rcases a_rng x2 (n := 4) (by decide) with ⟨w, hw, rfl, e1, f1⟩ | ⟨e1, f1⟩
  rotate_left
  · have e1 : f_X8_requireRange x2 (4 : Int32) = some (.inr 1) := e1
    have f1 : f_X9_in x2 0 (4 : Int32) = some 0 := f1
    exact ⟨(2, I, R, P, Z), (0, up (up I 70 7 0) 70 7 2), by unfold f_L_filter f_X8_filter; rw [bs_l e0, bs_r e1]; rfl, by unfold f_X9_filter; rw [bz_1 f0, bz_0 f1]; rfl, (show up (up I 70 7 0) 70 7 2 70 7 = 2 from up_eq _ _ _ _), fun h => absurd (show (2 : Int32) = 0 from h) (by decide), INV.ex hC hM hO⟩
  have e1 : f_X8_requireRange (nI w) (4 : Int32) = some (.inl ()) := e1
  have f1 : f_X9_in (nI w) 0 (4 : Int32) = some 1 := f1
  rcases s_slot hC.1 hA hs with ⟨o1, o2⟩ | ⟨k, o1, -, hF, hV⟩
  · refine ⟨(0, I, R, P, (vp_updL Z.1 0 (-2 : Int32).toInt64, Z.2)), (-2, up I 70 7 0), by unfold f_L_filter f_X8_filter; rw [bs_l e0, bs_l e1, o1]; rfl, ?_, (show up I 70 7 0 70 7 = 0 from up_eq _ _ _ _), fun _ => upL0 Z.1 _, INV.q hC hM hO Eqx.rf (Eqx.up (by decide)) KM.thr⟩
    unfold f_X9_filter
    rw [bz_1 f0, bz_1 f1, bs_b (r_partsN hM0.1 (show s < 8 by omega)), o2, if_pos (show nI ([] : List Nat).length = 0 from rfl)]
  -- a filter stands there
  have good : ∀ (v : Int32) (I1 I2 : Mem), f_X8_filter (nI s) (nI w) P R I = some (.inl v, I1) → Eqx SC I I1 → f_X9_aboutFilter (nI s) (nI w) (up I1 70 7 0) = some (v, I2) → Eqx SM I1 I2 → KM I1 I2 → I2 70 7 = 0 → ∃ (z : Int32 × Mem × Rem × Pool × Zed) (q : Int32 × Mem), f_L_filter (nI s) (nI w) P R I Z nx = some z ∧ f_X9_filter (nI s) (nI w) z.2.1 = some q ∧ (q.2 70 7 = z.1) ∧ (z.1 = 0 → z.2.2.2.2.1 0 = q.1.toInt64) ∧ INV q.2 z.2.2.1 z.2.2.2.1 := by
    intro v I1 I2 hz hE hq hE2 hK h7
    have hM1 : MI (up I1 70 7 0) σ := (hM.sc hE).t0
    refine ⟨(0, I1, R, P, (vp_updL Z.1 0 v.toInt64, Z.2)), (v, I2), by unfold f_L_filter; rw [bs_b hz]; rfl, ?_, h7, fun _ => upL0 Z.1 _, INV.q hC hM hO hE hE2 hK⟩
    unfold f_X9_filter
    rw [bz_1 f0, bz_1 f1, bs_b (r_partsN hM1.1 (show s < 8 by omega)), if_neg (fV_len hV).2.2]
    show ((f_X9_aboutFilter (nI s) (nI w) (up I1 70 7 0)).bind fun q4 => _) = _
    rw [bs_b hq]
  have pre : f_X8_filter (nI s) (nI w) P R I = (if nI w = 0 then ((f_X2_size k P R).bind fun q9 => some (.inl q9, I)) else (if nI w = 1 then ((f_X1_depthOf (some k) P R I).bind fun q10 => some (.inl q10.1, q10.2)) else (if nI w = 2 then ((f_X2_testCount k P R I).bind fun q11 => some (.inl q11, I)) else (if nI w = 3 then ((f_X2_columnSet k P R I).bind fun q12 => some (.inl q12, I)) else ((f_X5_write (some k) P R I).bind fun q13 => (f_X5_length q13).bind fun q14 => some (.inl q14, q13)))))) := by
    unfold f_X8_filter
    rw [bs_l e0, bs_l e1, o1]
    rfl
  have hs8 : s < 8 := by omega
  have hFR : FRf ((up I 70 7 0) 71) s (σ.1.2.2.1 s) := hM0.1.2.2.1 s hs8
  rcases (show w = 0 ∨ w = 1 ∨ w = 2 ∨ w = 3 ∨ w = 4 by omega) with rfl | rfl | rfl | rfl | rfl
  · exact good (nI (σ.1.2.2.1 s).length) I (up I 70 7 0) (by rw [pre, if_pos (show nI 0 = 0 from rfl), bs_b (k_size hF)]) Eqx.rf (by unfold f_X9_aboutFilter; rw [if_pos (show nI 0 = 0 from rfl), bs_b (r_parts hs8 hFR)]) (Eqx.up (by decide)) KM.thr (up_eq _ _ _ _)
  · obtain ⟨I1, a1, a2⟩ := k_dep (P := P) hF hV
    have hE : Eqx SC I I1 := a2.mono (by decide)
    obtain ⟨I2, b1, b2, b3⟩ := r_dep (I := up I1 70 7 0) hs8 (((hM.sc hE).t0 (x := 0)).1.2.2.1 s hs8) hV
    exact good _ I1 I2 (by rw [pre, if_neg (show ¬ nI 1 = 0 by decide), if_pos (show nI 1 = 1 from rfl), bs_b a1]) hE (by unfold f_X9_aboutFilter; rw [if_neg (show ¬ nI 1 = 0 by decide), if_pos (show nI 1 = 1 from rfl), bs_b b1]) ((Eqx.up (by decide)).tr (b2.mono (by decide))) (KM.thr.tr b3.km) (by rw [b3 7 (by decide), up_eq])
  · exact good (tcA (σ.1.2.2.1 s) 0) I (up I 70 7 0) (by rw [pre, if_neg (show ¬ nI 2 = 0 by decide), if_neg (show ¬ nI 2 = 1 by decide), if_pos (show nI 2 = 2 from rfl), bs_b (k_tc hF hV)]) Eqx.rf (by unfold f_X9_aboutFilter; rw [if_neg (show ¬ nI 2 = 0 by decide), if_neg (show ¬ nI 2 = 1 by decide), if_pos (show nI 2 = 2 from rfl), bs_b (r_tc hs8 hFR hV)]) (Eqx.up (by decide)) KM.thr (up_eq _ _ _ _)
  · exact good (clA (σ.1.2.2.1 s) 0) I (up I 70 7 0) (by rw [pre, if_neg (show ¬ nI 3 = 0 by decide), if_neg (show ¬ nI 3 = 1 by decide), if_neg (show ¬ nI 3 = 2 by decide), if_pos (show nI 3 = 3 from rfl), bs_b (k_cl hF hV)]) Eqx.rf (by unfold f_X9_aboutFilter; rw [if_neg (show ¬ nI 3 = 0 by decide), if_neg (show ¬ nI 3 = 1 by decide), if_neg (show ¬ nI 3 = 2 by decide), if_pos (show nI 3 = 3 from rfl), bs_b (r_cl hs8 hFR hV)]) (Eqx.up (by decide)) KM.thr (up_eq _ _ _ _)
  · obtain ⟨I1, a1, a2, a3, a4⟩ := k_wr (P := P) hF hV
    have hE : Eqx SC I I1 := a4.mono (by decide)
    obtain ⟨I2, b1, b2, b3, b4⟩ := r_wr (I := up I1 70 7 0) hs8 (((hM.sc hE).t0 (x := 0)).1.2.2.1 s hs8) hV
    exact good _ I1 I2 (by rw [pre, if_neg (show ¬ nI 4 = 0 by decide), if_neg (show ¬ nI 4 = 1 by decide), if_neg (show ¬ nI 4 = 2 by decide), if_neg (show ¬ nI 4 = 3 by decide), bs_b a1, bs_b (show f_X5_length I1 = some (nI (wAll (σ.1.2.2.1 s) [] [] []).length) by unfold f_X5_length; rw [a2.1])]) hE (by unfold f_X9_aboutFilter; rw [if_neg (show ¬ nI 4 = 0 by decide), if_neg (show ¬ nI 4 = 1 by decide), if_neg (show ¬ nI 4 = 2 by decide), if_neg (show ¬ nI 4 = 3 by decide), bs_b b1]) ((Eqx.up (by decide)).tr (b3.mono (by decide))) (KM.thr.tr b4.km) (by rw [b4 7 (by decide) (by decide), up_eq])
theorem r_wr0 {I : Mem} {s : Nat} (hs : s < 8) (hF : FRf (I 71) s []) : ∃ I', f_X9_writesAll (nI s) I = some (0, I') ∧ Eqx SV I I' ∧ KW I I' := by
  obtain ⟨J, hJ⟩ : ∃ J, J = up (up I 70 19 0) 70 11 0 := ⟨_, rfl⟩
  have hE : Eqx SV I J := by rw [hJ]; exact (Eqx.up (by decide)).tr (Eqx.up (by decide))
  have hK : KW I J := fun j h1 h2 => by rw [hJ, up_nk _ _ h1, up_nk _ _ h2]
  have hl : f_X9_writesAll_L12 (nI s) fuel 0 J = some J := by
    obtain ⟨n, hn⟩ : ∃ n, fuel = n + 1 := ⟨fuel - 1, by unfold fuel; omega⟩
    rw [hn]
    unfold f_X9_writesAll_L12
    rw [bs_b (r_parts hs (show FRf (J 71) s [] by rw [hE 71 (by decide)]; exact hF)), if_pos (show nI ([] : List Nat).length ≤ 0 by decide)]
  refine ⟨J, ?_, hE, hK⟩
  unfold f_X9_writesAll
  rw [← hJ, bs_b hl, show J 70 19 = 0 by rw [hJ, up_nk _ _ (by decide), up_eq]]
theorem st_letter : ST_letter INV := by
  intro I R P Z nx x1 x2 hI hF0 hF1
  obtain ⟨σ, hC, hM, hO⟩ := hI
  have hA := hO.1
  have hM0 := hM.t0 (x := 0)
  rcases a_slot x1 with ⟨s, hs, rfl, e0, f0⟩ | ⟨e0, f0⟩
  rotate_left
  · exact ⟨(1, I, R, P, Z), (0, up (up I 70 7 0) 70 7 1), by unfold f_L_letter f_X8_letter; rw [bs_r e0]; rfl, by unfold f_X9_letter; rw [bz_0 f0]; rfl, (show up (up I 70 7 0) 70 7 1 70 7 = 1 from up_eq _ _ _ _), fun h => absurd (show (1 : Int32) = 0 from h) (by decide), INV.ex hC hM hO⟩
  by_cases hx : 0 ≤ x2
  rotate_left
  · exact ⟨(2, I, R, P, Z), (0, up (up I 70 7 0) 70 7 2), by unfold f_L_letter f_X8_letter; rw [bs_l e0, if_neg hx]; rfl, by unfold f_X9_letter; rw [bz_1 f0, if_neg hx]; rfl, (show up (up I 70 7 0) 70 7 2 70 7 = 2 from up_eq _ _ _ _), fun h => absurd (show (2 : Int32) = 0 from h) (by decide), INV.ex hC hM hO⟩
  have hx0 : ¬ x2 < 0 := by rw [fa_lt]; rw [Int32.le_iff_toInt_le] at hx; omega
  obtain ⟨j, hj, rfl⟩ := nI_of hx0
  have hs8 : s < 8 := by omega
  rcases s_slot hC.1 hA hs with ⟨o1, o2⟩ | ⟨k, o1, -, hF, hV⟩
  · obtain ⟨I2, b1, b2, b3⟩ := r_wr0 (I := up I 70 7 0) hs8 (by have := hM0.1.2.2.1 s hs8; rw [o2] at this; exact this)
    refine ⟨(0, I, R, P, (vp_updL Z.1 0 (-2 : Int32).toInt64, Z.2)), (-2, I2), by unfold f_L_letter f_X8_letter; rw [bs_l e0, if_pos hx, o1]; rfl, ?_, (show I2 70 7 = 0 by rw [b3 7 (by decide) (by decide), up_eq]), fun _ => upL0 Z.1 _, INV.q hC hM hO Eqx.rf ((Eqx.up (by decide)).tr (b2.mono (by decide))) (KM.thr.tr b3.km)⟩
    unfold f_X9_letter
    rw [bz_1 f0, if_pos hx, bs_b b1]
    exact if_pos hx
  · obtain ⟨I1, a1, a2, a3, a4⟩ := k_wr (P := P) hF hV
    have hE : Eqx SC I I1 := a4.mono (by decide)
    obtain ⟨I2, b1, b2, b3, b4⟩ := r_wr (I := up I1 70 7 0) hs8 (((hM.sc hE).t0 (x := 0)).1.2.2.1 s hs8) hV
    obtain ⟨T, hT⟩ : ∃ T, T = wAll (σ.1.2.2.1 s) [] [] [] := ⟨_, rfl⟩
    rw [← hT] at a2 a3 b1 b2
    have fin : ∀ v : Int32, f_X5_codeAt (nI j) I1 = some v → ((if nI T.length ≤ nI j then some (-2, I2) else ((rd I2 81 400 (nI j)).bind fun v3 => some (v3, I2))) : Option (Int32 × Mem)) = some (v, I2) → ∃ (z : Int32 × Mem × Rem × Pool × Zed) (q : Int32 × Mem), f_L_letter (nI s) (nI j) P R I Z nx = some z ∧ f_X9_letter (nI s) (nI j) z.2.1 = some q ∧ (q.2 70 7 = z.1) ∧ (z.1 = 0 → z.2.2.2.2.1 0 = q.1.toInt64) ∧ INV q.2 z.2.2.1 z.2.2.2.1 := by
      intro v hz hq
      have hk : f_X8_letter (nI s) (nI j) P R I = some (.inl v, I1) := by
        unfold f_X8_letter
        rw [bs_l e0, if_pos hx, bo_s o1, bs_b a1, bs_b hz]
      refine ⟨(0, I1, R, P, (vp_updL Z.1 0 v.toInt64, Z.2)), (v, I2), by unfold f_L_letter; rw [bs_b hk]; rfl, ?_, (show I2 70 7 = 0 by rw [b4 7 (by decide) (by decide), up_eq]), fun _ => upL0 Z.1 _, INV.q hC hM hO hE ((Eqx.up (by decide)).tr (b3.mono (by decide))) (KM.thr.tr b4.km)⟩
      unfold f_X9_letter
      rw [bz_1 f0, if_pos hx]
      show ((f_X9_writesAll (nI s) (up I1 70 7 0)).bind fun q2 => _) = _
      rw [bs_b b1]
      exact hq
    by_cases e : T.length ≤ j
    · exact fin (-2) (by unfold f_X5_codeAt; rw [if_neg hx0, a2.1, if_pos (nI_le e (by omega))]) (if_pos (nI_le e (by omega)))
    · have hlt : j < T.length := by omega
      have hg : T[j]? = some T[j] := List.getElem?_eq_getElem hlt
      have hn : ¬ nI T.length ≤ nI j := nI_ge hlt (by omega)
      refine fin (nI T[j]) ?_ ?_
      · unfold f_X5_codeAt
        rw [if_neg hx0, a2.1, if_neg hn, bs_b (rd_e j rfl (by omega) (by decide)), a2.2 j _ hg]
      · rw [if_neg hn, bs_b (rd_e j rfl (by omega) (by decide)), b2.2 j _ hg]
end MB34
