/-! PURE PART 28: the reference reads a test, a part, a whole text. -/
section MB27
theorem stp_0 {op c s v ch : Nat} {W M : List Nat} : stp (0, op, W, M, c, s, v) ch = (if ch = 33 then some (0, op, 33 :: W, M, c, s, v) else if ch = 40 then some (0, op + 1, 40 :: W, M, c, s, v) else if 97 ≤ ch ∧ ch ≤ 100 then some (1, op, W, M, ch - 97, s, v) else none) := by
  show stpF 0 op W M c s v ch = _
  unfold stpF
  rw [if_pos rfl]
theorem stp_1 {op c s v ch : Nat} {W M : List Nat} : stp (1, op, W, M, c, s, v) ch = (if ch = 63 then some (4, op, W, tcode c 0 0 :: M, c, s, v) else if ch = 61 then some (2, op, W, M, c, 1, v) else if ch = 60 then some (2, op, W, M, c, 2, v) else if ch = 62 then some (2, op, W, M, c, 3, v) else none) := by
  show stpF 1 op W M c s v ch = _
  unfold stpF
  rw [if_neg (by decide), if_pos rfl]
theorem stp_2 {op c s v ch : Nat} {W M : List Nat} : stp (2, op, W, M, c, s, v) ch = (if 97 ≤ ch ∧ ch ≤ 100 then some (4, op, W, tcode c s (100 + (ch - 97)) :: M, c, s, v) else if 48 ≤ ch ∧ ch ≤ 57 then (if ch = 48 then some (4, op, W, tcode c s 0 :: M, c, s, 0) else some (3, op, W, M, c, s, ch - 48)) else none) := by
  show stpF 2 op W M c s v ch = _
  unfold stpF
  rw [if_neg (by decide), if_neg (by decide), if_pos rfl]
theorem stp_3d {op c s v ch : Nat} {W M : List Nat} (h : 48 ≤ ch ∧ ch ≤ 57) : stp (3, op, W, M, c, s, v) ch = some (4, op, W, tcode c s (v * 10 + (ch - 48)) :: M, c, s, v * 10 + (ch - 48)) := by
  show stpF 3 op W M c s v ch = _
  unfold stpF
  rw [if_neg (by decide), if_neg (by decide), if_neg (by decide), if_pos rfl, if_pos h]
theorem stp_4 {op c s v ch : Nat} {W M : List Nat} : stp (4, op, W, M, c, s, v) ch = jnt ch op W M c s v := by
  show stpF 4 op W M c s v ch = _
  unfold stpF
  rw [if_neg (by decide), if_neg (by decide), if_neg (by decide), if_neg (by decide)]
theorem stl_ne {m op c s v : Nat} {W M : List Nat} (h : ¬ m = 3) : stl (m, op, W, M, c, s, v) = (m, op, W, M, c, s, v) := by
  unfold stl
  exact if_neg h
def RP (B : List Nat) (I : Mem) (p : PS) (i op : Nat) (W M : List Nat) (z : Option (Int32 × Mem)) : Prop := ∃ I', FQ I I' ∧ ((z = some (0, I') ∧ I' 70 14 = nI (EN B p i).1 ∧ (EN B p i).2.1 ≠ 4) ∨ ∃ j t c' s' v', z = some (1, I') ∧ RS I' B j op W (t :: M) ∧ EN B p i = EN B (4, op, W, t :: M, c', s', v') j ∧ PV (4, op, W, t :: M, c', s', v') j ∧ i < j ∧ j ≤ B.length)
theorem RP.st {B : List Nat} {I I1 : Mem} {p q : PS} {i j op : Nat} {W M : List Nat} {z : Option (Int32 × Mem)} (h : RP B I1 q j op W M z) (hE : EN B p i = EN B q j) (hF : FQ I I1) (hij : i ≤ j) : RP B I p i op W M z := by
  obtain ⟨I', f, h | ⟨k, t, c, s, v, h1, h2, h3, h4, h5, h6⟩⟩ := h
  · exact ⟨I', hF.tr f, Or.inl (by rw [hE]; exact h)⟩
  · exact ⟨I', hF.tr f, Or.inr ⟨k, t, c, s, v, h1, h2, hE.trans h3, h4, by omega, h6⟩⟩
theorem RP.no {B : List Nat} {I : Mem} {m op i c s v : Nat} {W M W' M' : List Nat} (hE : EN B (m, op, W, M, c, s, v) i = (i, (m, op, W, M, c, s, v))) (hm : ¬ m = 4) (h : RS I B i op W M) : RP B I (m, op, W, M, c, s, v) i op W' M' (some (0, I)) :=
  ⟨I, FQ.rf, Or.inl ⟨rfl, by rw [hE]; exact h.2.1, by rw [hE]; exact hm⟩⟩
theorem r_test {c s o : Nat} : f_X9_test (nI c) (nI s) (nI o) = some (nI (tcode c s o)) := by
  unfold f_X9_test tcode
  rw [show (4 : Int32) = nI 4 from rfl, show (1000 : Int32) = nI 1000 from rfl, pk_mul, nI_add, pk_mul, nI_add, nI_add]
theorem r_right {B : List Nat} {I : Mem} {i op c s v : Nat} {W M : List Nat} (hB : BK B) (h : RS I B i op W M) (hP : PV (2, op, W, M, c, s, v) i) (hi : i ≤ B.length) : RP B I (2, op, W, M, c, s, v) i op W M (f_X9_isRight (nI c) (nI s) I) := by
  have h60 := hB.1
  have h9 : M.length + W.length + 2 ≤ i := hP.2.2.2.2.2.2.2.2.1
  unfold f_X9_isRight
  cases hd : B.drop i with
  | nil =>
    rw [bs_b (r_see_n h hB hi hd), if_pos rfl, bs_b (r_see_n h hB hi hd), if_pos rfl]
    exact RP.no (EN_n hd) (by decide) h
  | cons ch T =>
    have hdc := drop_c hd
    have hc := hB.2 ch hdc.2.2.2
    rw [bs_b (show f_X9_sees 97 100 I = some (if 97 ≤ ch ∧ ch ≤ 100 then 1 else 0) from r_see_c h hB hd (lo := 97) (hi := 100) (by decide) (by decide))]
    by_cases e1 : 97 ≤ ch ∧ ch ≤ 100
    · rw [if_pos e1, if_neg (show ¬ (1 : Int32) = 0 by decide), bs_b (r_rdc h hB hd)]
      have hs : stp (2, op, W, M, c, s, v) ch = some (4, op, W, tcode c s (100 + (ch - 97)) :: M, c, s, v) := by rw [stp_2, if_pos e1]
      have hv : (100 + nI ch) - 97 = nI (100 + (ch - 97)) := by rw [show (100 : Int32) = nI 100 from rfl, nI_add, show nI (100 + ch) - 97 = nI (100 + ch - 97) from pk_sub (b := 97) (by omega), show 100 + ch - 97 = 100 + (ch - 97) by omega]
      obtain ⟨I1, a1, a2, a3⟩ := r_mk (t := tcode c s (100 + (ch - 97))) h (by omega)
      rw [hv, bs_b r_test, bs_b a1, a2.2.1, nI_1]
      exact ⟨_, a3.tr (FQ.u70 (by decide)), Or.inr ⟨i + 1, _, c, s, v, rfl, a2.pos, EN_s hd hs, PV_stp hP hs, by omega, by omega⟩⟩
    · rw [if_neg e1, if_pos rfl, bs_b (show f_X9_sees 48 57 I = some (if 48 ≤ ch ∧ ch ≤ 57 then 1 else 0) from r_see_c h hB hd (lo := 48) (hi := 57) (by decide) (by decide))]
      by_cases e2 : 48 ≤ ch ∧ ch ≤ 57
      · rw [if_pos e2, if_neg (show ¬ (1 : Int32) = 0 by decide), bs_b (r_rdc h hB hd)]
        have h48 : nI ch - 48 = nI (ch - 48) := pk_sub (b := 48) e2.1
        have hJ : up I 70 14 ((I 70 14) + 1) = up I 70 14 (nI (i + 1)) := by rw [h.2.1, nI_1]
        rw [h48, hJ]
        have fin : ∀ (J : Mem) (j o c' s' v' : Nat), RS J B j op W M → FQ I J → EN B (2, op, W, M, c, s, v) i = EN B (4, op, W, tcode c s o :: M, c', s', v') j → PV (4, op, W, tcode c s o :: M, c', s', v') j → i < j → j ≤ B.length → RP B I (2, op, W, M, c, s, v) i op W M ((f_X9_test (nI c) (nI s) (nI o)).bind fun q7 => (f_X9_makes q7 J).bind fun q8 => some (1, q8)) := by
          intro J j o c' s' v' hR hF hE hPV hij hj
          obtain ⟨I1, a1, a2, a3⟩ := r_mk (t := tcode c s o) hR (by omega)
          rw [bs_b r_test, bs_b a1]
          exact ⟨I1, hF.tr a3, Or.inr ⟨j, _, c', s', v', rfl, a2, hE, hPV, hij, hj⟩⟩
        by_cases e3 : ch = 48
        · have hs : stp (2, op, W, M, c, s, v) ch = some (4, op, W, tcode c s 0 :: M, c, s, 0) := by rw [stp_2, if_neg e1, if_pos e2, if_pos e3]
          rw [if_pos (show nI (ch - 48) ≤ 0 by rw [e3]; decide), show ch - 48 = 0 by omega]
          exact fin _ (i + 1) 0 c s 0 h.pos (FQ.u70 (by decide)) (EN_s hd hs) (PV_stp hP hs) (by omega) (by omega)
        · have hs : stp (2, op, W, M, c, s, v) ch = some (3, op, W, M, c, s, ch - 48) := by rw [stp_2, if_neg e1, if_pos e2, if_neg e3]
          have hP3 := PV_stp hP hs
          have hR2 : RS (up I 70 14 (nI (i + 1))) B (i + 1) op W M := h.pos
          rw [if_neg (show ¬ nI (ch - 48) ≤ 0 from nI_ge (a := 0) (by omega) (by omega))]
          have one : (∀ ch' T', B.drop (i + 1) = ch' :: T' → ¬ (48 ≤ ch' ∧ ch' ≤ 57)) → RP B I (2, op, W, M, c, s, v) i op W M ((f_X9_test (nI c) (nI s) (nI (ch - 48))).bind fun q7 => (f_X9_makes q7 (up I 70 14 (nI (i + 1)))).bind fun q8 => some (1, q8)) := fun hn =>
            fin _ (i + 1) (ch - 48) c s (ch - 48) hR2 (FQ.u70 (by decide)) ((EN_s hd hs).trans (EN_3 hn)) (PV_stl hP3) (by omega) (by omega)
          cases hd2 : B.drop (i + 1) with
          | nil =>
            rw [bs_b (show f_X9_sees 48 57 _ = some 0 from r_see_n hR2 hB (by omega) hd2), if_pos rfl]
            exact one (fun ch' T' hh => by rw [hd2] at hh; exact absurd hh (by simp))
          | cons d T2 =>
            have hdd := drop_c hd2
            rw [bs_b (show f_X9_sees 48 57 _ = some (if 48 ≤ d ∧ d ≤ 57 then 1 else 0) from r_see_c hR2 hB hd2 (lo := 48) (hi := 57) (by decide) (by decide))]
            by_cases e4 : 48 ≤ d ∧ d ≤ 57
            · rw [if_pos e4, if_neg (show ¬ (1 : Int32) = 0 by decide), bs_b (r_rdc hR2 hB hd2), hR2.2.1, nI_1]
              have hs3 : stp (3, op, W, M, c, s, ch - 48) d = some (4, op, W, tcode c s ((ch - 48) * 10 + (d - 48)) :: M, c, s, (ch - 48) * 10 + (d - 48)) := stp_3d e4
              have hv : ((10 * nI (ch - 48)) + nI d) - 48 = nI ((ch - 48) * 10 + (d - 48)) := by
                rw [show (10 : Int32) = nI 10 from rfl, pk_mul, nI_add, show nI (10 * (ch - 48) + d) - 48 = nI (10 * (ch - 48) + d - 48) from pk_sub (b := 48) (by omega), show 10 * (ch - 48) + d - 48 = (ch - 48) * 10 + (d - 48) by omega]
              rw [hv]
              exact fin _ (i + 1 + 1) _ c s _ hR2.pos ((FQ.u70 (by decide)).tr (FQ.u70 (by decide))) ((EN_s hd hs).trans (EN_s hd2 hs3)) (PV_stp hP3 hs3) (by omega) (by omega)
            · rw [if_neg e4, if_pos rfl]
              exact one (fun ch' T' hh => by rw [hd2] at hh; injection hh with h1 h2; rw [← h1]; exact e4)
      · rw [if_neg e2, if_pos rfl]
        exact RP.no (EN_e hd (by rw [stp_2, if_neg e1, if_neg e2])) (by decide) h
theorem r_tt {B : List Nat} {I : Mem} {i op c s v : Nat} {W M : List Nat} (hB : BK B) (h : RS I B i op W M) (hP : PV (0, op, W, M, c, s, v) i) (hi : i ≤ B.length) (hn : (B.drop i).head? ≠ some 33) (hn2 : (B.drop i).head? ≠ some 40) : RP B I (0, op, W, M, c, s, v) i op W M (f_X9_isTestText I) := by
  have h60 := hB.1
  have h9 : M.length + W.length + 0 ≤ i := hP.2.2.2.2.2.2.2.2.1
  unfold f_X9_isTestText
  cases hd : B.drop i with
  | nil =>
    rw [bs_b (r_see_n h hB hi hd), if_pos rfl]
    exact RP.no (EN_n hd) (by decide) h
  | cons ch T =>
    have hdc := drop_c hd
    have hc := hB.2 ch hdc.2.2.2
    have n33 : ¬ ch = 33 := fun e => hn (by rw [hd, e]; rfl)
    have n40 : ¬ ch = 40 := fun e => hn2 (by rw [hd, e]; rfl)
    rw [bs_b (show f_X9_sees 97 100 I = some (if 97 ≤ ch ∧ ch ≤ 100 then 1 else 0) from r_see_c h hB hd (lo := 97) (hi := 100) (by decide) (by decide))]
    by_cases e1 : 97 ≤ ch ∧ ch ≤ 100
    · have hs : stp (0, op, W, M, c, s, v) ch = some (1, op, W, M, ch - 97, s, v) := by rw [stp_0, if_neg n33, if_neg n40, if_pos e1]
      have hP1 := PV_stp hP hs
      have hE1 := EN_s hd hs
      have h1 : RS (up I 70 14 (nI (i + 1))) B (i + 1) op W M := h.pos
      have hF1 : FQ I (up I 70 14 (nI (i + 1))) := FQ.u70 (by decide)
      have h97 : nI ch - 97 = nI (ch - 97) := pk_sub (b := 97) e1.1
      have hi1 : i + 1 ≤ B.length := by omega
      rw [if_pos e1, if_neg (show ¬ (1 : Int32) = 0 by decide), bs_b (r_rdc h hB hd), h.2.1, nI_1, h97]
      by_cases e2 : (B.drop (i + 1)).head? = some 63
      · obtain ⟨T2, hd2⟩ : ∃ T2, B.drop (i + 1) = 63 :: T2 := by
          cases hh : B.drop (i + 1) with
          | nil => rw [hh] at e2; exact absurd e2 (by simp)
          | cons y T2 => rw [hh] at e2; exact ⟨T2, by rw [show y = 63 from Option.some.inj e2]⟩
        have hs2 : stp (1, op, W, M, ch - 97, s, v) 63 = some (4, op, W, tcode (ch - 97) 0 0 :: M, ch - 97, s, v) := by rw [stp_1, if_pos rfl]
        obtain ⟨I2, a1, a2, a3⟩ := r_tk_y h1 hB hd2
        obtain ⟨I3, b1, b2, b3⟩ := r_mk (t := tcode (ch - 97) 0 0) a2 (by omega)
        have hl2 := (drop_c hd2).2.2.1
        rw [bs_b (show f_X9_takes 63 _ = some (1, I2) from a1)]
        dsimp only
        rw [if_neg (show ¬ (1 : Int32) = 0 by decide), bs_b (show f_X9_test (nI (ch - 97)) 0 0 = some (nI (tcode (ch - 97) 0 0)) from r_test (s := 0) (o := 0)), bs_b b1]
        exact ⟨I3, (hF1.tr a3).tr b3, Or.inr ⟨i + 1 + 1, _, ch - 97, s, v, rfl, b2, hE1.trans (EN_s hd2 hs2), PV_stp hP1 hs2, by omega, by omega⟩⟩
      · obtain ⟨J1, a1, a2, a3⟩ := r_tk_n (c := 63) h1 hB hi1 (by decide) e2
        have rest : ∀ (x k : Nat) (J : Mem) (T2 : List Nat), B.drop (i + 1) = x :: T2 → 1 ≤ k → k ≤ 3 → stp (1, op, W, M, ch - 97, s, v) x = some (2, op, W, M, ch - 97, k, v) → RS J B (i + 1 + 1) op W M → FQ I J → RP B I (0, op, W, M, c, s, v) i op W M (if nI k ≤ 0 then some (0, J) else (f_X9_isRight (nI (ch - 97)) (nI k) J).bind fun q8 => if q8.1 = 0 then some (0, q8.2) else some (1, q8.2)) := by
          intro x k J T2 hd2 k1 k3 hs2 hR hF
          have hl2 := (drop_c hd2).2.2.1
          have := (r_right hB hR (PV_stp hP1 hs2) (by omega)).st (hE1.trans (EN_s hd2 hs2)) hF (by omega)
          rw [if_neg (show ¬ nI k ≤ 0 from nI_ge (a := 0) (by omega) (by omega))]
          obtain ⟨I', f, ⟨g1, g2⟩ | ⟨j, t, c', s', v', g1, g2⟩⟩ := this
          · rw [bs_b g1]
            exact ⟨I', f, Or.inl ⟨if_pos rfl, g2⟩⟩
          · rw [bs_b g1]
            exact ⟨I', f, Or.inr ⟨j, t, c', s', v', if_neg (show ¬ (1 : Int32) = 0 by decide), g2⟩⟩
        have hdx : ∀ x, (B.drop (i + 1)).head? = some x → ∃ T2, B.drop (i + 1) = x :: T2 := fun x e => by
          cases hh : B.drop (i + 1) with
          | nil => rw [hh] at e; exact absurd e (by simp)
          | cons y T2 => rw [hh] at e; exact ⟨T2, by rw [show y = x from Option.some.inj e]⟩
        rw [bs_b (show f_X9_takes 63 _ = some (0, J1) from a1)]
        dsimp only
        rw [if_pos rfl]
        by_cases e3 : (B.drop (i + 1)).head? = some 61
        · obtain ⟨T2, hd2⟩ := hdx 61 e3
          obtain ⟨J2, b1, b2, b3⟩ := r_tk_y a2 hB hd2
          rw [bs_b (show f_X9_takes 61 _ = some (1, J2) from b1)]
          dsimp only
          rw [if_neg (show ¬ (1 : Int32) = 0 by decide)]
          exact rest 61 1 J2 T2 hd2 (by decide) (by decide) (by rw [stp_1, if_neg (by decide), if_pos rfl]) b2 ((hF1.tr a3).tr b3)
        · obtain ⟨J2, b1, b2, b3⟩ := r_tk_n (c := 61) a2 hB hi1 (by decide) e3
          rw [bs_b (show f_X9_takes 61 _ = some (0, J2) from b1)]
          dsimp only
          rw [if_pos rfl]
          by_cases e4 : (B.drop (i + 1)).head? = some 60
          · obtain ⟨T2, hd2⟩ := hdx 60 e4
            obtain ⟨J3, c1, c2, c3⟩ := r_tk_y b2 hB hd2
            rw [bs_b (show f_X9_takes 60 _ = some (1, J3) from c1)]
            dsimp only
            rw [if_neg (show ¬ (1 : Int32) = 0 by decide)]
            exact rest 60 2 J3 T2 hd2 (by decide) (by decide) (by rw [stp_1, if_neg (by decide), if_neg (by decide), if_pos rfl]) c2 (((hF1.tr a3).tr b3).tr c3)
          · obtain ⟨J3, c1, c2, c3⟩ := r_tk_n (c := 60) b2 hB hi1 (by decide) e4
            rw [bs_b (show f_X9_takes 60 _ = some (0, J3) from c1)]
            dsimp only
            rw [if_pos rfl]
            by_cases e5 : (B.drop (i + 1)).head? = some 62
            · obtain ⟨T2, hd2⟩ := hdx 62 e5
              obtain ⟨J4, d1, d2, d3⟩ := r_tk_y c2 hB hd2
              rw [bs_b (show f_X9_takes 62 _ = some (1, J4) from d1)]
              dsimp only
              rw [if_neg (show ¬ (1 : Int32) = 0 by decide)]
              exact rest 62 3 J4 T2 hd2 (by decide) (by decide) (by rw [stp_1, if_neg (by decide), if_neg (by decide), if_neg (by decide), if_pos rfl]) d2 ((((hF1.tr a3).tr b3).tr c3).tr d3)
            · obtain ⟨J4, d1, d2, d3⟩ := r_tk_n (c := 62) c2 hB hi1 (by decide) e5
              rw [bs_b (show f_X9_takes 62 _ = some (0, J4) from d1)]
              dsimp only
              rw [if_pos rfl]
              have hno : EN B (1, op, W, M, ch - 97, s, v) (i + 1) = (i + 1, (1, op, W, M, ch - 97, s, v)) := by
                cases hh : B.drop (i + 1) with
                | nil => exact EN_n hh
                | cons y T2 =>
                  rw [hh] at e2 e3 e4 e5
                  refine EN_e hh ?_
                  rw [stp_1, if_neg (fun e => e2 (by rw [e]; rfl)), if_neg (fun e => e3 (by rw [e]; rfl)), if_neg (fun e => e4 (by rw [e]; rfl)), if_neg (fun e => e5 (by rw [e]; rfl))]
              exact (RP.no hno (by decide) d2).st hE1 ((((hF1.tr a3).tr b3).tr c3).tr d3) (by omega)
    · rw [if_neg e1, if_pos rfl]
      exact RP.no (EN_e hd (by rw [stp_0, if_neg n33, if_neg n40, if_neg e1])) (by decide) h
end MB27
