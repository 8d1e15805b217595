/-! PURE PART 29: the reference reads a whole text. -/
section MB28
theorem head_c {B : List Nat} {i x : Nat} (e : (B.drop i).head? = some x) : ∃ T, B.drop i = x :: T := by
  cases hh : B.drop i with
  | nil => rw [hh] at e; exact absurd e (by simp)
  | cons y T2 => rw [hh] at e; exact ⟨T2, by rw [show y = x from Option.some.inj e]⟩
theorem r_pre_L {B : List Nat} {c s v : Nat} {M : List Nat} (hB : BK B) : ∀ (d i op n : Nat) (W : List Nat) (I : Mem), i + d = B.length → d + 1 < n → RS I B i op W M → PV (0, op, W, M, c, s, v) i →
    ∃ I' j op' W', f_X9_isPart_L2 n 1 I = some I' ∧ RS I' B j op' W' M ∧ EN B (0, op, W, M, c, s, v) i = EN B (0, op', W', M, c, s, v) j ∧ PV (0, op', W', M, c, s, v) j ∧ i ≤ j ∧ j ≤ B.length ∧ (B.drop j).head? ≠ some 33 ∧ (B.drop j).head? ≠ some 40 ∧ FQ I I' := by
  intro d
  induction d with
  | zero =>
    intro i op n W I hd hn h hP
    obtain ⟨n, rfl⟩ : ∃ m, n = m + 1 + 1 := ⟨n - 2, by omega⟩
    have hz : B.drop i = [] := List.drop_eq_nil_of_le (by omega)
    have h33 : (B.drop i).head? ≠ some 33 := by rw [hz]; simp
    have h40 : (B.drop i).head? ≠ some 40 := by rw [hz]; simp
    obtain ⟨I1, a1, a2, a3⟩ := r_tk_n (c := 33) h hB (by omega) (by decide) h33
    obtain ⟨I2, b1, b2, b3⟩ := r_tk_n (c := 40) a2 hB (by omega) (by decide) h40
    refine ⟨I2, i, op, W, ?_, b2, rfl, hP, Nat.le_refl _, by omega, h33, h40, a3.tr b3⟩
    unfold f_X9_isPart_L2
    rw [if_neg (show ¬ (1 : Int32) = 0 by decide), bs_b (show f_X9_takes 33 I = some (0, I1) from a1)]
    dsimp only
    rw [if_pos rfl, bs_b (show f_X9_takes 40 I1 = some (0, I2) from b1)]
    dsimp only
    rw [if_pos rfl]
    unfold f_X9_isPart_L2
    rw [if_pos rfl]
  | succ d ih =>
    intro i op n W I hd hn h hP
    obtain ⟨n, rfl⟩ : ∃ m, n = m + 1 + 1 := ⟨n - 2, by omega⟩
    have h60 := hB.1
    have h9 : M.length + W.length + 0 ≤ i := hP.2.2.2.2.2.2.2.2.1
    unfold f_X9_isPart_L2
    rw [if_neg (show ¬ (1 : Int32) = 0 by decide)]
    by_cases h33 : (B.drop i).head? = some 33
    · obtain ⟨T, hT⟩ := head_c h33
      have hs : stp (0, op, W, M, c, s, v) 33 = some (0, op, 33 :: W, M, c, s, v) := by rw [stp_0, if_pos rfl]
      obtain ⟨I1, a1, a2, a3⟩ := r_tk_y h hB hT
      obtain ⟨I2, b1, b2, b3⟩ := r_hold (t := 33) a2 (by omega)
      obtain ⟨I3, j, op', W', c1, c2, c3, c4, c5, c6, c7, c8, c9⟩ := ih (i + 1) op (n + 1) (33 :: W) I2 (by omega) (by omega) b2 (PV_stp hP hs)
      refine ⟨I3, j, op', W', ?_, c2, (EN_s hT hs).trans c3, c4, by omega, c6, c7, c8, (a3.tr b3).tr c9⟩
      rw [bs_b (show f_X9_takes 33 I = some (1, I1) from a1)]
      dsimp only
      rw [if_neg (show ¬ (1 : Int32) = 0 by decide), bs_b (show f_X9_holdsBack 33 I1 = some I2 from b1)]
      exact c1
    · obtain ⟨I1, a1, a2, a3⟩ := r_tk_n (c := 33) h hB (by omega) (by decide) h33
      rw [bs_b (show f_X9_takes 33 I = some (0, I1) from a1)]
      dsimp only
      rw [if_pos rfl]
      by_cases h40 : (B.drop i).head? = some 40
      · obtain ⟨T, hT⟩ := head_c h40
        have hs : stp (0, op, W, M, c, s, v) 40 = some (0, op + 1, 40 :: W, M, c, s, v) := by rw [stp_0, if_neg (by decide), if_pos rfl]
        obtain ⟨I2, b1, b2, b3⟩ := r_tk_y a2 hB hT
        obtain ⟨I3, d1, d2, d3⟩ := r_hold (t := 40) b2 (by omega)
        have d4 : RS (up I3 70 17 (nI (op + 1))) B (i + 1) (op + 1) (40 :: W) M := d2.opn
        obtain ⟨I4, j, op', W', c1, c2, c3, c4, c5, c6, c7, c8, c9⟩ := ih (i + 1) (op + 1) (n + 1) (40 :: W) (up I3 70 17 (nI (op + 1))) (by omega) (by omega) d4 (PV_stp hP hs)
        refine ⟨I4, j, op', W', ?_, c2, (EN_s hT hs).trans c3, c4, by omega, c6, c7, c8, (((a3.tr b3).tr d3).tr (FQ.u70 (by decide))).tr c9⟩
        rw [bs_b (show f_X9_takes 40 I1 = some (1, I2) from b1)]
        dsimp only
        rw [if_neg (show ¬ (1 : Int32) = 0 by decide), bs_b (show f_X9_holdsBack 40 I2 = some I3 from d1), d2.2.2.1, nI_1]
        exact c1
      · obtain ⟨I2, b1, b2, b3⟩ := r_tk_n (c := 40) a2 hB (by omega) (by decide) h40
        refine ⟨I2, i, op, W, ?_, b2, rfl, hP, Nat.le_refl _, by omega, h33, h40, a3.tr b3⟩
        rw [bs_b (show f_X9_takes 40 I1 = some (0, I2) from b1)]
        dsimp only
        rw [if_pos rfl]
        unfold f_X9_isPart_L2
        rw [if_pos rfl]
theorem r_fpart {B : List Nat} {I : Mem} {i op c s v : Nat} {W M : List Nat} (hB : BK B) (h : RS I B i op W M) (hP : PV (0, op, W, M, c, s, v) i) (hi : i ≤ B.length) :
    ∃ I', FQ I I' ∧ ((f_X9_isPart I = some (0, I') ∧ I' 70 14 = nI (EN B (0, op, W, M, c, s, v) i).1 ∧ (EN B (0, op, W, M, c, s, v) i).2.1 ≠ 4) ∨ ∃ j op' W' M' c' s' v', f_X9_isPart I = some (1, I') ∧ RS I' B j op' (pps 33 0 W' M').1 (pps 33 0 W' M').2 ∧ EN B (0, op, W, M, c, s, v) i = EN B (4, op', W', M', c', s', v') j ∧ PV (4, op', W', M', c', s', v') j ∧ i < j ∧ j ≤ B.length) := by
  have h60 := hB.1
  obtain ⟨I1, k, op', W', a1, a2, a3, a4, a5, a6, a7, a8, a9⟩ := r_pre_L hB (B.length - i) i op fuel W I (by omega) (by unfold fuel; omega) h hP
  unfold f_X9_isPart
  rw [bs_b a1]
  obtain ⟨I2, f, ⟨g1, g2, g3⟩ | ⟨j, t, c', s', v', g1, g2, g3, g4, g5, g6⟩⟩ := r_tt hB a2 a4 a6 a7 a8
  · rw [bs_b g1]
    dsimp only
    refine ⟨I2, a9.tr f, Or.inl ⟨?_, by rw [a3]; exact g2, by rw [a3]; exact g3⟩⟩
    rw [if_pos rfl, if_pos (show narrow .boolean (.int 0) = .int 0 from rfl)]
  · have h9 : (t :: M).length + W'.length + 1 ≤ j := g4.2.2.2.2.2.2.2.2.1
    obtain ⟨I3, b1, b2, b3⟩ := r_ends (W := W') (M := t :: M) g4.2.2.1 (by omega) g2
    rw [bs_b g1]
    dsimp only
    refine ⟨I3, (a9.tr f).tr b3, Or.inr ⟨j, op', W', t :: M, c', s', v', ?_, b2, a3.trans g3, g4, by omega, g6⟩⟩
    rw [if_neg (show ¬ (1 : Int32) = 0 by decide), bs_b b1, if_pos (show narrow .boolean (.int 1) = .int 1 from rfl)]
theorem r_clo_L {B : List Nat} {c s v : Nat} (hB : BK B) : ∀ (d i op n : Nat) (W M : List Nat) (I : Mem), i + d = B.length → d < n → RS I B i op (pps 33 0 W M).1 (pps 33 0 W M).2 → PV (4, op, W, M, c, s, v) i →
    ∃ I' j op' W' M', f_X9_closes_L0 n I = some I' ∧ RS I' B j op' (pps 33 0 W' M').1 (pps 33 0 W' M').2 ∧ EN B (4, op, W, M, c, s, v) i = EN B (4, op', W', M', c, s, v) j ∧ PV (4, op', W', M', c, s, v) j ∧ i ≤ j ∧ j ≤ B.length ∧ (op' = 0 ∨ (B.drop j).head? ≠ some 41) ∧ FQ I I' := by
  intro d
  induction d with
  | zero =>
    intro i op n W M I hd hn h hP
    obtain ⟨n, rfl⟩ : ∃ m, n = m + 1 := ⟨n - 1, by omega⟩
    have hz : B.drop i = [] := List.drop_eq_nil_of_le (by omega)
    have h41 : (B.drop i).head? ≠ some 41 := by rw [hz]; simp
    have h60 := hB.1
    have h9 : M.length + W.length + 1 ≤ i := hP.2.2.2.2.2.2.2.2.1
    have hop : op = n4 W := hP.2.1
    have hop2 : n4 W ≤ W.length := by
      clear h9 hop hP h
      induction W with
      | nil => exact Nat.le_refl _
      | cons x W ih => rw [n4_c, List.length_cons]; split <;> omega
    unfold f_X9_closes_L0
    rw [h.2.2.1]
    by_cases e : op = 0
    · rw [if_pos (show nI op ≤ 0 by rw [e]; decide)]
      exact ⟨I, i, op, W, M, rfl, h, rfl, hP, Nat.le_refl _, by omega, Or.inl e, FQ.rf⟩
    · rw [if_neg (show ¬ nI op ≤ 0 from nI_ge (a := 0) (by omega) (by omega))]
      obtain ⟨I1, a1, a2, a3⟩ := r_tk_n (c := 41) h hB (by omega) (by decide) h41
      rw [bs_b (show f_X9_takes 41 I = some (0, I1) from a1)]
      dsimp only
      rw [if_pos rfl]
      exact ⟨I1, i, op, W, M, rfl, a2, rfl, hP, Nat.le_refl _, by omega, Or.inr h41, a3⟩
  | succ d ih =>
    intro i op n W M I hd hn h hP
    obtain ⟨n, rfl⟩ : ∃ m, n = m + 1 := ⟨n - 1, by omega⟩
    have h60 := hB.1
    have h9 : M.length + W.length + 1 ≤ i := hP.2.2.2.2.2.2.2.2.1
    have hop : op = n4 W := hP.2.1
    have hS : okS 2 W := hP.2.2.1
    have hop2 : n4 W ≤ W.length := by
      clear ih h9 hop hP h hS
      induction W with
      | nil => exact Nat.le_refl _
      | cons x W ih => rw [n4_c, List.length_cons]; split <;> omega
    unfold f_X9_closes_L0
    rw [h.2.2.1]
    by_cases e : op = 0
    · rw [if_pos (show nI op ≤ 0 by rw [e]; decide)]
      exact ⟨I, i, op, W, M, rfl, h, rfl, hP, Nat.le_refl _, by omega, Or.inl e, FQ.rf⟩
    · rw [if_neg (show ¬ nI op ≤ 0 from nI_ge (a := 0) (by omega) (by omega))]
      by_cases h41 : (B.drop i).head? = some 41
      · obtain ⟨T, hT⟩ := head_c h41
        obtain ⟨I1, a1, a2, a3⟩ := r_tk_y h hB hT
        have l0 := pps_len 33 0 W M
        obtain ⟨I2, b1, b2, b3⟩ := r_pops (x := 38) (y := 1) (by decide) (pps_ok W M hS) (by omega) a2
        have l1 := pps_len 38 1 (pps 33 0 W M).1 (pps 33 0 W M).2
        obtain ⟨I3, c1, c2, c3⟩ := r_pops (x := 124) (y := 2) (by decide) (pps_ok _ _ (pps_ok W M hS)) (by omega) b2
        rw [← rel1_pps _ _ (nrm_ok W M hS), nrm_rel (show 1 ≤ 3 by decide)] at c2
        have hrl := rel_len 1 W M
        have hr4 := rel_n4 (Nat.le_refl 1) W M
        rcases rel1_sh W M hS with b | ⟨W', b, bo⟩
        · rw [b] at hr4
          have : n4 [] = 0 := rfl
          omega
        · have hs : stp (4, op, W, M, c, s, v) 41 = some (4, op - 1, W', (rel 1 W M).2, c, s, v) := by
            rw [stp_4]
            unfold jnt
            rw [if_pos rfl, if_neg e, b]
            rfl
          have hP2 := PV_stp hP hs
          rw [b] at c2 hrl
          rw [List.length_cons] at hrl
          have d1 := c2.wai.2
          have d2 : RS (up (up I3 70 16 (nI W'.length)) 70 17 (nI (op - 1))) B (i + 1) (op - 1) W' (rel 1 W M).2 := d1.opn
          obtain ⟨I4, e1, e2, e3⟩ := r_ends (by exact bo) (by omega) d2
          obtain ⟨I5, j, op', W2, M2, f1, f2, f3, f4, f5, f6, f7, f8⟩ := ih (i + 1) (op - 1) n W' (rel 1 W M).2 I4 (by omega) (by omega) e2 hP2
          refine ⟨I5, j, op', W2, M2, ?_, f2, (EN_s hT hs).trans f3, f4, by omega, f6, f7, ((((((a3.tr b3).tr c3).tr (FQ.u70 (by decide))).tr (FQ.u70 (by decide))).tr e3).tr f8)⟩
          rw [bs_b (show f_X9_takes 41 I = some (1, I1) from a1)]
          dsimp only
          rw [if_neg (show ¬ (1 : Int32) = 0 by decide), bs_b (show f_X9_pops 38 1 I1 = some I2 from b1), bs_b (show f_X9_pops 124 2 I2 = some I3 from c1), c2.wai.1, d1.2.2.1, show nI op - 1 = nI (op - 1) from pk_sub (b := 1) (by omega), bs_b e1]
          exact f1
      · obtain ⟨I1, a1, a2, a3⟩ := r_tk_n (c := 41) h hB (by omega) (by decide) h41
        rw [bs_b (show f_X9_takes 41 I = some (0, I1) from a1)]
        dsimp only
        rw [if_pos rfl]
        exact ⟨I1, i, op, W, M, rfl, a2, rfl, hP, Nat.le_refl _, by omega, Or.inr h41, a3⟩
theorem r_sign {B : List Nat} {I : Mem} {i op c s v : Nat} {W M : List Nat} (hB : BK B) (h : RS I B i op (pps 33 0 W M).1 (pps 33 0 W M).2) (hP : PV (4, op, W, M, c, s, v) i) (hi : i ≤ B.length) (ho : op = 0 ∨ (B.drop i).head? ≠ some 41) :
    ∃ I', FQ I I' ∧ ((f_X9_isSign I = some (0, I') ∧ RS I' B i op (pps 33 0 W M).1 (pps 33 0 W M).2 ∧ EN B (4, op, W, M, c, s, v) i = (i, (4, op, W, M, c, s, v))) ∨ ∃ W' M', f_X9_isSign I = some (1, I') ∧ RS I' B (i + 1) op W' M' ∧ EN B (4, op, W, M, c, s, v) i = EN B (0, op, W', M', c, s, v) (i + 1) ∧ PV (0, op, W', M', c, s, v) (i + 1) ∧ i + 1 ≤ B.length) := by
  have h60 := hB.1
  have h9 : M.length + W.length + 1 ≤ i := hP.2.2.2.2.2.2.2.2.1
  have hS : okS 2 W := hP.2.2.1
  have l0 := pps_len 33 0 W M
  have l1 := pps_len 38 1 (pps 33 0 W M).1 (pps 33 0 W M).2
  unfold f_X9_isSign
  by_cases h38 : (B.drop i).head? = some 38
  · obtain ⟨T, hT⟩ := head_c h38
    have hl := (drop_c hT).2.2.1
    obtain ⟨I1, a1, a2, a3⟩ := r_tk_y h hB hT
    obtain ⟨I2, b1, b2, b3⟩ := r_pops (x := 38) (y := 1) (by decide) (pps_ok W M hS) (by omega) a2
    rw [← rel2_pps _ _ (nrm_ok W M hS), nrm_rel (show 2 ≤ 3 by decide)] at b2
    have hrl := rel_len 2 W M
    obtain ⟨I3, c1, c2, c3⟩ := r_hold (t := 38) b2 (by omega)
    have hs : stp (4, op, W, M, c, s, v) 38 = some (0, op, 38 :: (rel 2 W M).1, (rel 2 W M).2, c, s, v) := by
      rw [stp_4]
      unfold jnt
      rw [if_neg (by decide), if_pos rfl]
    refine ⟨I3, (a3.tr b3).tr c3, Or.inr ⟨_, _, ?_, c2, EN_s hT hs, PV_stp hP hs, by omega⟩⟩
    rw [bs_b (show f_X9_takes 38 I = some (1, I1) from a1)]
    dsimp only
    rw [if_neg (show ¬ (1 : Int32) = 0 by decide), bs_b (show f_X9_pops 38 1 I1 = some I2 from b1), bs_b (show f_X9_holdsBack 38 I2 = some I3 from c1)]
  · obtain ⟨I1, a1, a2, a3⟩ := r_tk_n (c := 38) h hB hi (by decide) h38
    rw [bs_b (show f_X9_takes 38 I = some (0, I1) from a1)]
    dsimp only
    rw [if_pos rfl]
    by_cases h124 : (B.drop i).head? = some 124
    · obtain ⟨T, hT⟩ := head_c h124
      have hl := (drop_c hT).2.2.1
      obtain ⟨I2, b1, b2, b3⟩ := r_tk_y a2 hB hT
      obtain ⟨I3, c1, c2, c3⟩ := r_pops (x := 38) (y := 1) (by decide) (pps_ok W M hS) (by omega) b2
      obtain ⟨I4, d1, d2, d3⟩ := r_pops (x := 124) (y := 2) (by decide) (pps_ok _ _ (pps_ok W M hS)) (by omega) c2
      rw [← rel1_pps _ _ (nrm_ok W M hS), nrm_rel (show 1 ≤ 3 by decide)] at d2
      have hrl := rel_len 1 W M
      obtain ⟨I5, e1, e2, e3⟩ := r_hold (t := 124) d2 (by omega)
      have hs : stp (4, op, W, M, c, s, v) 124 = some (0, op, 124 :: (rel 1 W M).1, (rel 1 W M).2, c, s, v) := by
        rw [stp_4]
        unfold jnt
        rw [if_neg (by decide), if_neg (by decide), if_pos rfl]
      refine ⟨I5, (((a3.tr b3).tr c3).tr d3).tr e3, Or.inr ⟨_, _, ?_, e2, EN_s hT hs, PV_stp hP hs, by omega⟩⟩
      rw [bs_b (show f_X9_takes 124 I1 = some (1, I2) from b1)]
      dsimp only
      rw [if_neg (show ¬ (1 : Int32) = 0 by decide), bs_b (show f_X9_pops 38 1 I2 = some I3 from c1), bs_b (show f_X9_pops 124 2 I3 = some I4 from d1), bs_b (show f_X9_holdsBack 124 I4 = some I5 from e1)]
    · obtain ⟨I2, b1, b2, b3⟩ := r_tk_n (c := 124) a2 hB hi (by decide) h124
      refine ⟨I2, a3.tr b3, Or.inl ⟨?_, b2, ?_⟩⟩
      · rw [bs_b (show f_X9_takes 124 I1 = some (0, I2) from b1)]
        dsimp only
        rw [if_pos rfl]
      · cases hh : B.drop i with
        | nil => exact EN_n hh
        | cons y T2 =>
          rw [hh] at h38 h124 ho
          refine EN_e hh ?_
          rw [stp_4]
          unfold jnt
          rw [if_neg (show ¬ y = 38 from fun e => h38 (by rw [e]; rfl)), if_neg (show ¬ y = 124 from fun e => h124 (by rw [e]; rfl))]
          by_cases e41 : y = 41
          · rw [if_pos e41]
            rcases ho with ho | ho
            · rw [if_pos ho]
            · exact absurd (by rw [e41]; rfl) ho
          · rw [if_neg e41]
theorem r_whole_L {B : List Nat} (hB : BK B) : ∀ (d i op n c s v : Nat) (W M : List Nat) (I : Mem), i ≤ B.length → B.length < i + d → d < n → RS I B i op W M → PV (0, op, W, M, c, s, v) i →
    ∃ z, f_X9_isWhole_L22 n 1 I = some z ∧ ∃ I', FQ I I' ∧ ((z = .inl (0, I') ∧ I' 70 14 = nI (EN B (0, op, W, M, c, s, v) i).1 ∧ (EN B (0, op, W, M, c, s, v) i).2.1 ≠ 4) ∨ ∃ j op' W' M' c' s' v', z = .inr I' ∧ RS I' B j op' (pps 33 0 W' M').1 (pps 33 0 W' M').2 ∧ EN B (0, op, W, M, c, s, v) i = (j, (4, op', W', M', c', s', v')) ∧ PV (4, op', W', M', c', s', v') j ∧ j ≤ B.length) := by
  intro d
  induction d with
  | zero =>
    intro i op n c s v W M I hi hd
    omega
  | succ d ih =>
    intro i op n c s v W M I hi hd hn h hP
    obtain ⟨n, rfl⟩ : ∃ m, n = m + 1 + 1 := ⟨n - 2, by omega⟩
    have h60 := hB.1
    unfold f_X9_isWhole_L22
    rw [if_neg (show ¬ (1 : Int32) = 0 by decide)]
    obtain ⟨I1, a0, ⟨a1, a2, a3⟩ | ⟨j, op', W', M', c', s', v', a1, a2, a3, a4, a5, a6⟩⟩ := r_fpart hB h hP hi
    · rw [bs_b a1]
      dsimp only
      rw [if_pos rfl]
      exact ⟨_, rfl, I1, a0, Or.inl ⟨rfl, a2, a3⟩⟩
    · obtain ⟨I2, k, op2, W2, M2, b1, b2, b3, b4, b5, b6, b7, b8⟩ := r_clo_L hB (B.length - j) j op' fuel W' M' I1 (by omega) (by unfold fuel; omega) a2 a4
      rw [bs_b a1]
      dsimp only
      rw [if_neg (show ¬ (1 : Int32) = 0 by decide), bs_b (show f_X9_closes I1 = some I2 by unfold f_X9_closes; rw [bs_b b1])]
      obtain ⟨I3, c0, ⟨c1, c2, c3⟩ | ⟨W3, M3, c1, c2, c3, c4, c5⟩⟩ := r_sign hB b2 b4 b6 b7
      · rw [bs_b c1]
        dsimp only
        unfold f_X9_isWhole_L22
        rw [if_pos rfl]
        exact ⟨_, rfl, I3, (a0.tr b8).tr c0, Or.inr ⟨k, op2, W2, M2, _, _, _, rfl, c2, (a3.trans b3).trans c3, b4, b6⟩⟩
      · rw [bs_b c1]
        dsimp only
        obtain ⟨z, d1, I4, d2, d3⟩ := ih (k + 1) op2 (n + 1) c' s' v' W3 M3 I3 c5 (by omega) (by omega) c2 c4
        refine ⟨z, d1, I4, ((a0.tr b8).tr c0).tr d2, ?_⟩
        rw [(a3.trans b3).trans c3]
        exact d3
/-- the reference reads the whole buffer -/
theorem r_whole {B : List Nat} {I : Mem} (hB : BK B) (hb : bfR I B) : ∃ I', f_X9_isWhole I = some (if (run p0 B).1 = B.length ∧ (stl (run p0 B).2).1 = 4 ∧ (stl (run p0 B).2).2.1 = 0 then 1 else 0, I') ∧ FQ I I' ∧ I' 70 14 = nI (run p0 B).1 ∧ ((run p0 B).1 = B.length ∧ (stl (run p0 B).2).1 = 4 ∧ (stl (run p0 B).2).2.1 = 0 → PJ I' 13 79 (rel 1 (stl (run p0 B).2).2.2.1 (stl (run p0 B).2).2.2.2.1).2) := by
  have h60 := hB.1
  obtain ⟨J, hJ⟩ : ∃ J, J = up (up (up (up I 70 14 0) 70 16 0) 70 17 0) 70 13 0 := ⟨_, rfl⟩
  have hF : FQ I J := by rw [hJ]; exact (((FQ.u70 (by decide)).tr (FQ.u70 (by decide))).tr (FQ.u70 (by decide))).tr (FQ.u70 (by decide))
  have hR : RS J B 0 0 [] [] := by
    refine ⟨⟨by rw [hF.2 6 (by decide) (by decide) (by decide) (by decide)]; exact hb.1, fun j x hj => by rw [hF.1 75 (by decide)]; exact hb.2 j x hj⟩, ?_, ?_, ⟨?_, trivial⟩, ⟨?_, trivial⟩⟩
    · rw [hJ, up_nk _ _ (by decide), up_nk _ _ (by decide), up_nk _ _ (by decide), up_eq]; rfl
    · rw [hJ, up_nk _ _ (by decide), up_eq]; rfl
    · rw [hJ, up_nk _ _ (by decide), up_nk _ _ (by decide), up_eq]; rfl
    · rw [hJ, up_eq]; rfl
  have hEN : EN B p0 0 = ((run p0 B).1, stl (run p0 B).2) := by
    unfold EN
    rw [List.drop_zero, Nat.zero_add]
  obtain ⟨z, a1, I1, a2, a3⟩ := r_whole_L hB (B.length + 1) 0 0 fuel 0 1 1 [] [] J (Nat.zero_le _) (by omega) (by unfold fuel; omega) hR PV_0
  rw [show ((0, 0, [], [], 0, 1, 1) : PS) = p0 from rfl, hEN] at a3
  unfold f_X9_isWhole
  rw [← hJ, bs_b a1]
  rcases a3 with ⟨rfl, b1, b2⟩ | ⟨j, op, W, M, c, s, v, rfl, b1, b2, b3, b4⟩
  · refine ⟨I1, ?_, hF.tr a2, b1, fun h => absurd h.2.1 b2⟩
    rw [sm_l, if_neg (fun h => b2 h.2.1)]
  · have e1 : (run p0 B).1 = j := congrArg Prod.fst b2
    have e2 : stl (run p0 B).2 = (4, op, W, M, c, s, v) := congrArg Prod.snd b2
    rw [e1, e2]
    have h9 : M.length + W.length + 1 ≤ j := b3.2.2.2.2.2.2.2.2.1
    have hS : okS 2 W := b3.2.2.1
    have hop : op = n4 W := b3.2.1
    have hop2 : n4 W ≤ W.length := by
      clear h9 hop b1 b2 b3 e2 hS
      induction W with
      | nil => exact Nat.le_refl _
      | cons x W ih => rw [n4_c, List.length_cons]; split <;> omega
    have l0 := pps_len 33 0 W M
    have l1 := pps_len 38 1 (pps 33 0 W M).1 (pps 33 0 W M).2
    obtain ⟨I2, c1, c2, c3⟩ := r_pops (x := 38) (y := 1) (by decide) (pps_ok W M hS) (by omega) b1
    obtain ⟨I3, d1, d2, d3⟩ := r_pops (x := 124) (y := 2) (by decide) (pps_ok _ _ (pps_ok W M hS)) (by omega) c2
    rw [← rel1_pps _ _ (nrm_ok W M hS), nrm_rel (show 1 ≤ 3 by decide)] at d2
    refine ⟨I3, ?_, ((hF.tr a2).tr c3).tr d3, d2.2.1, fun _ => d2.2.2.2.2⟩
    show ((f_X9_pops 38 1 I1).bind fun q6 => (f_X9_pops 124 2 q6).bind fun q7 => if (q7 70 14) = (q7 70 6) then (if (q7 70 17) = 0 then some (1, q7) else some (0, q7)) else some (0, q7)) = _
    rw [bs_b (show f_X9_pops 38 1 I1 = some I2 from c1), bs_b (show f_X9_pops 124 2 I2 = some I3 from d1), d2.2.1, d2.1.1, d2.2.2.1]
    by_cases e : j = B.length
    · rw [if_pos (show nI j = nI B.length by rw [e])]
      by_cases eo : op = 0
      · rw [if_pos (show nI op = 0 by rw [eo]; rfl), if_pos ⟨e, rfl, eo⟩]
      · rw [if_neg (show ¬ nI op = 0 from k_chne (b := 0) (by omega) (by decide) eo), if_neg (fun h => eo h.2.2)]
    · rw [if_neg (show ¬ nI j = nI B.length from k_chne (by omega) (by omega) e), if_neg (fun h => e h.1)]
end MB28
