/-! PURE PART 3: the evaluators. -/
section MB2
theorem k_truth_L {R : Rem} {P : Pool} {k a2 : Nat} {x : Int32} {row : Nat → Int32} (ha : Ln P a2 = 4) (ha2 : a2 ∉ [12, 13]) : ∀ (B A : List Nat) (st : List Int32) (I : Mem) (n : Nat), FObj I R P k (A ++ B) → (A ++ B).length ≤ 60 → B.length < n → I a2 = row → PL I 12 st → st.length + B.length ≤ 60 → wd B st.length → (∀ t ∈ B, vC t) →
    ∃ I', f_X1_truthOf_L7 (some k) a2 x P R n (nI A.length) I = some I' ∧ PL I' 12 (tvS row (hb x) B st) ∧ Eqx [12, 13] I I'
  | [], A, st, I, n, hF, hL, hn, hr, hP, hs, hw, hv => by
    obtain ⟨n, rfl⟩ : ∃ m, n = m + 1 := ⟨n - 1, by omega⟩
    refine ⟨I, ?_, hP, Eqx.rf⟩
    unfold f_X1_truthOf_L7
    simp only [Option.bind_some, k_size hF, List.append_nil]
    rw [if_pos (nI_le (Nat.le_refl _) (by simp at hL; omega))]
  | t :: B, A, st, I, n, hF, hL, hn, hr, hP, hs, hw, hv => by
    obtain ⟨n, rfl⟩ : ∃ m, n = m + 1 := ⟨n - 1, by omega⟩
    have hll : (A ++ t :: B).length = A.length + B.length + 1 := by simp; omega
    have hsl : st.length + B.length + 1 ≤ 60 := by simp at hs; omega
    have hv0 := hv t (by simp)
    have hF2 : A ++ t :: B = (A ++ [t]) ++ B := by simp
    have hnx : nI A.length + 1 = nI (A ++ [t]).length := by rw [nI_1]; simp
    unfold f_X1_truthOf_L7
    simp only [Option.bind_some, k_size hF]
    rw [if_neg (nI_ge (by omega) (by omega)), k_step hF (by omega) (mid_at A B t)]
    simp only [Option.bind_some, k_sign hv0]
    have go : ∀ (st' : List Int32) (I' : Mem), PL I' 12 st' → Eqx [12, 13] I I' → st' = rs1 (tst row (hb x)) (fun x => 2 - x) anI orI t st → st'.length + B.length ≤ 60 → wd B st'.length →
        ∃ I2, f_X1_truthOf_L7 (some k) a2 x P R n (nI A.length + 1) I' = some I2 ∧ PL I2 12 (tvS row (hb x) (t :: B) st) ∧ Eqx [12, 13] I I2 := by
      intro st' I' hP' hE hst hl hw'
      rw [hF2] at hF
      obtain ⟨I2, e1, e2, e3⟩ := k_truth_L (row := row) ha ha2 B (A ++ [t]) st' I' n (hF.eqx hE (by decide)) (by rw [← hF2]; exact hL) (by simp at hn; omega) ((hE a2 ha2).trans hr) hP' hl hw' (fun t ht => hv t (by simp [ht]))
      rw [hnx]
      refine ⟨I2, e1, ?_, hE.tr e3⟩
      unfold tvS rsG
      rw [← hst]
      exact e2
    by_cases ht : 3 ≤ t
    · obtain ⟨n1, n2, n3⟩ := sgn_ne (vC_t hv0 ht)
      rw [if_neg n1, if_neg n2, if_neg n3, k_test (vC_t hv0 ht) ha, hr]
      simp only [Option.bind_some]
      obtain ⟨I1, e1, e2, e3⟩ := m_push (x := tst row (hb x) t) (P := P) hP (by omega)
      rw [e1]
      simp only [Option.bind_some]
      exact go _ I1 e2 e3 (rs1_t _ _ _ _ ht _).symm (by simp; omega) (wd_t ht hw)
    · rcases (show t = 0 ∨ t = 1 ∨ t = 2 by omega) with rfl | rfl | rfl
      · obtain ⟨h1, h2⟩ := wd_0 hw
        obtain ⟨y, s, rfl⟩ := len1 h1
        simp only [List.length_cons] at hsl h2
        rw [if_pos (show nI (sgnN 0) = 33 from rfl)]
        obtain ⟨I1, e1, e2, e3⟩ := m_pop hP (by omega)
        obtain ⟨I2, e4, e5, e6⟩ := m_push (x := 2 - y) (P := P) e2 (by omega)
        rw [e1]
        simp only [Option.bind_some, e4]
        exact go _ I2 e5 ((e3.mono (by decide)).tr (e6.mono (by decide))) rfl (by simp; omega) h2
      · obtain ⟨h1, h2⟩ := wd_1 hw
        obtain ⟨y, z, s, rfl⟩ := len2 h1
        simp only [List.length_cons] at hsl h2
        rw [if_neg (show ¬ nI (sgnN 1) = 33 by decide), if_pos (show nI (sgnN 1) = 38 from rfl)]
        obtain ⟨I1, e1, e2, e3⟩ := m_pop hP (by simp; omega)
        obtain ⟨I2, e4, e5, e6⟩ := m_pop e2 (by omega)
        obtain ⟨I3, e7, e8, e9⟩ := m_push (x := jmin y z) (P := P) e5 (by omega)
        rw [e1]
        simp only [Option.bind_some, e4, e7]
        exact go _ I3 e8 (((e3.mono (by decide)).tr (e6.mono (by decide))).tr (e9.mono (by decide))) (by rw [jmin_an]; rfl) (by simp; omega) h2
      · obtain ⟨h1, h2⟩ := wd_2 hw
        obtain ⟨y, z, s, rfl⟩ := len2 h1
        simp only [List.length_cons] at hsl h2
        rw [if_neg (show ¬ nI (sgnN 2) = 33 by decide), if_neg (show ¬ nI (sgnN 2) = 38 by decide), if_pos (show nI (sgnN 2) = 124 from rfl)]
        obtain ⟨I1, e1, e2, e3⟩ := m_pop hP (by simp; omega)
        obtain ⟨I2, e4, e5, e6⟩ := m_pop e2 (by omega)
        obtain ⟨I3, e7, e8, e9⟩ := m_push (x := jmax y z) (P := P) e5 (by omega)
        rw [e1]
        simp only [Option.bind_some, e4, e7]
        exact go _ I3 e8 (((e3.mono (by decide)).tr (e6.mono (by decide))).tr (e9.mono (by decide))) (by rw [jmax_or]; rfl) (by simp; omega) h2
theorem k_start {I : Mem} : ∃ I', f_X1_start I = some I' ∧ PL I' 12 [] ∧ PL I' 14 [] ∧ Eqx [12, 13, 14, 15] I I' := by
  obtain ⟨I1, e1, e2, e3⟩ := m_clear (I := I) (p := 12)
  obtain ⟨I2, e4, e5, e6⟩ := m_clear (I := I1) (p := 14)
  refine ⟨I2, ?_, e2.eqx e6 (by decide) (by decide), e5, (e3.mono (by decide)).tr (e6.mono (by decide))⟩
  unfold f_X1_start
  rw [e1]
  simp only [Option.bind_some, e4]
theorem one_head {st : List Int32} (h : st.length = 1) : st = [st.headD 0] := by
  match st, h with
  | [x], _ => rfl
/-- the class's evaluator -/
theorem k_truth {R : Rem} {P : Pool} {k a2 : Nat} {x : Int32} {I : Mem} {L : List Nat} (ha : Ln P a2 = 4) (ha2 : a2 ∉ [12, 13, 14, 15]) (hF : FObj I R P k L) (hV : fV L) : ∃ I', f_X1_truthOf (some k) a2 x P R I = some (tv (I a2) (hb x) L, I') ∧ Eqx [12, 13, 14, 15] I I' := by
  obtain ⟨I1, e1, e2, e3, e4⟩ := k_start (I := I)
  have hF1 : FObj I1 R P k ([] ++ L) := hF.eqx e4 (by decide)
  have hl := hV.2.2.1
  obtain ⟨I2, f1, f2, f3⟩ := k_truth_L (row := I a2) (x := x) ha (fun h => ha2 (by simp at h ⊢; omega)) L [] [] I1 fuel hF1 (by simp; omega) (by unfold fuel; omega) (e4 a2 ha2) e2 (by simp; omega) hV.2.1 hV.1
  have h1 := rsG_len (tt := tst (I a2) (hb x)) (ng := fun x => 2 - x) (an := anI) (oo := orI) L [] hV.2.1
  refine ⟨I2, ?_, e4.tr (f3.mono (by decide))⟩
  unfold f_X1_truthOf
  rw [e1]
  simp only [Option.bind_some]
  rw [show (0 : Int32) = nI ([] : List Nat).length from rfl, f1]
  simp only [Option.bind_some]
  have f2' : PL I2 12 [tv (I a2) (hb x) L] := by
    have := one_head h1
    unfold tv
    unfold tvS at f2 ⊢
    rw [this] at f2
    exact f2
  rw [m_top f2' (by decide)]
  rfl
/-! the reference -/
/-- a reference's filter at a block f: its codes -/
def FRf (f : Nat → Int32) (s : Nat) (L : List Nat) : Prop := f (130 + 61 * s) = nI L.length ∧ ∀ j x, L[j]? = some x → f (130 + 61 * s + 1 + j) = nI x
theorem lit_mul (a : Nat) (s : Nat) : (nI a : Int32) * nI s = nI (a * s) := pk_mul a s
theorem r_parts {I : Mem} {s : Nat} {L : List Nat} (hs : s < 8) (h : FRf (I 71) s L) : f_X9_parts (nI s) I = some (nI L.length) := by
  unfold f_X9_parts
  rw [rd_e (130 + 61 * s) (by rw [show (61 : Int32) = nI 61 from rfl, show (130 : Int32) = nI 130 from rfl, pk_mul, nI_add]) (by omega) (by decide), h.1]
  rfl
theorem r_part {I : Mem} {s i t : Nat} {L : List Nat} (hs : s < 8) (h : FRf (I 71) s L) (hl : L.length ≤ 60) (hi : L[i]? = some t) : f_X9_part (nI s) (nI i) I = some (nI t) := by
  have hlt : i < L.length := (List.getElem?_eq_some_iff.mp hi).1
  unfold f_X9_part
  rw [rd_e (130 + 61 * s + 1 + i) (by rw [show (61 : Int32) = nI 61 from rfl, show (130 : Int32) = nI 130 from rfl, pk_mul, nI_add, nI_1, nI_add]) (by omega) (by decide), h.2 i t hi]
  rfl
theorem r_isTest {t : Nat} (ht : t < 2 ^ 31) : f_X9_isTest (nI t) = some (if t < 4 then 0 else 1) := by
  unfold f_X9_isTest
  by_cases h : t < 4
  · rw [if_pos (show nI t < 4 from nI_lt h (by decide)), if_pos h]
  · rw [if_neg (show ¬ nI t < 4 from nI_nlt (b := 4) (by omega) ht), if_neg h]
theorem r_columnOf {t : Nat} (h : vT t) : f_X9_columnOf (nI t) = some (nI (cC t)) := by
  have h1 := h.1; have h2 := h.2.1
  unfold f_X9_columnOf cC
  rw [show (4 : Int32) = nI 4 from rfl, show (1000 : Int32) = nI 1000 from rfl, pk_sub h1, pk_div (by omega) (by decide) (by decide), pk_div (by omega) (by decide) (by decide)]
theorem r_signOf {t : Nat} (h : vT t) : f_X9_signOf (nI t) = some (nI (cS t)) := by
  have h1 := h.1; have h2 := h.2.1
  unfold f_X9_signOf cS
  rw [show (4 : Int32) = nI 4 from rfl, show (1000 : Int32) = nI 1000 from rfl, pk_sub h1, pk_div (by omega) (by decide) (by decide), pk_rem (by omega) (by decide) (by decide)]
theorem r_otherOf {t : Nat} (h : vT t) : f_X9_otherOf (nI t) = some (nI (cO t)) := by
  have h1 := h.1; have h2 := h.2.1
  unfold f_X9_otherOf cO
  rw [show (4 : Int32) = nI 4 from rfl, show (1000 : Int32) = nI 1000 from rfl, pk_sub h1, pk_rem (by omega) (by decide) (by decide)]
theorem r_compared {s : Nat} (hs : s < 2 ^ 31) (x y : Int32) : f_X9_compared (nI s) x y = some (cmpv s x y) := by
  unfold f_X9_compared cmpv
  have e1 : (nI s = 1) = (s = 1) := propext (nI_eq (b := 1) hs (by decide))
  have e2 : (nI s = 2) = (s = 2) := propext (nI_eq (b := 2) hs (by decide))
  simp only [e1, e2]
  by_cases a : x = -1
  · simp [a]
  by_cases b : y = -1
  · simp [a, b]
  by_cases c : s = 1
  · subst c
    by_cases d : x = y <;> simp [a, b, d]
  by_cases c2 : s = 2
  · subst c2
    by_cases d : y ≤ x <;> simp [a, b, d]
  · by_cases d : x ≤ y <;> simp [a, b, c, c2, d]
theorem r_tested {I : Mem} {t : Nat} (h : vT t) : f_X9_tested (nI t) I = some (tst (I 76) (fun c => decide (I 77 c = -1)) t) := by
  have hc := cC_b h
  have ho := h.2.2.1
  have hs := cS_b t
  unfold f_X9_tested tst
  rw [r_signOf h]
  simp only [Option.bind_some]
  by_cases h0 : cS t = 0
  · rw [h0, if_pos (show nI 0 = 0 from rfl), if_pos rfl, r_columnOf h]
    simp only [Option.bind_some]
    rw [rd_e (cC t) rfl hc (by decide)]
    simp only [Option.bind_some]
    by_cases e : I 77 (cC t) = -1 <;> simp [e]
  · rw [if_neg (nI_ne0 (by omega) (by omega)), if_neg h0, r_otherOf h, r_columnOf h]
    simp only [Option.bind_some]
    rw [rd_e (cC t) rfl hc (by decide)]
    simp only [Option.bind_some]
    by_cases hw : cO t < 100
    · rw [if_neg (show ¬ (100 : Int32) ≤ nI (cO t) from nI_ge (b := 100) hw (by decide)), if_pos hw, r_compared (by omega)]
      rfl
    · rw [if_pos (show (100 : Int32) ≤ nI (cO t) from nI_le (a := 100) (by omega) (by omega)), if_neg hw, rd_e (cO t - 100) (show nI (cO t) - 100 = nI (cO t - 100) from pk_sub (b := 100) (by omega)) (by omega) (by decide)]
      simp only [Option.bind_some]
      rw [r_compared (by omega)]
      rfl
/-- the reference's stack at field 11, object 78 -/
def SK (I : Mem) (st : List Int32) : Prop := I 70 11 = nI st.length ∧ PI (I 78) st
theorem SK.eqx {S : List Nat} {I I' : Mem} {st : List Int32} (h : SK I st) (hE : Eqx S I I') (h1 : 70 ∉ S) (h2 : 78 ∉ S) : SK I' st := by
  unfold SK; rw [hE 70 h1, hE 78 h2]; exact h
/-- the model's object keeps all fields but 11 -/
def K11 (I I' : Mem) : Prop := ∀ j, j ≠ 11 → I' 70 j = I 70 j
theorem r_combines {I : Mem} {st : List Int32} {t : Nat} (ht : t < 3) (h : SK I st) (hl : st.length ≤ 60) (h1 : 1 ≤ st.length) (h2 : 0 < t → 2 ≤ st.length) : ∃ I', f_X9_combines (nI t) I = some I' ∧ SK I' (rs1 (fun _ => 0) (fun x => 2 - x) anI orI t st) ∧ Eqx [70, 78] I I' ∧ K11 I I' := by
  rcases (show t = 0 ∨ t = 1 ∨ t = 2 by omega) with rfl | rfl | rfl
  · obtain ⟨x, s, rfl⟩ := len1 h1
    simp only [List.length_cons] at hl
    have h3 : I 70 11 - 1 = nI s.length := by rw [h.1]; exact nI_pred _
    refine ⟨up I 78 s.length (2 - x), ?_, ⟨?_, ?_⟩, Eqx.up (by decide), fun j hj => by rw [up_ne _ _ _ (by decide)]⟩
    · unfold f_X9_combines
      rw [if_pos (show nI 0 = 0 from rfl), h3, rd_e s.length rfl (by omega) (by decide), h.2.1]
      simp only [Option.bind_some]
      rw [wr_e s.length rfl (by omega) (by decide)]
      rfl
    · rw [up_ne _ _ _ (by decide)]; exact h.1
    · rw [up_self]; exact ⟨by simp [upd], PI_upd h.2.2 (Nat.le_refl _)⟩
  all_goals
    obtain ⟨y, x, s, rfl⟩ := len2 (h2 (by decide))
    simp only [List.length_cons] at hl
    have h3 : I 70 11 - 1 = nI (s.length + 1) := by rw [h.1]; exact nI_pred _
    have h4 : I 70 11 - 2 = nI s.length := by rw [h.1]; exact pk_sub (a := s.length + 2) (b := 2) (by omega)
    have hv1 : I 78 (s.length + 1) = y := h.2.1
    have hv2 : I 78 s.length = x := h.2.2.1
    have h5 : nI (s.length + 1) - 1 = nI s.length := nI_pred _
    unfold f_X9_combines
  · refine ⟨up (up I 70 11 (nI (s.length + 1))) 78 s.length (anI x y), ?_, ⟨?_, ?_⟩, (Eqx.up (by decide)).tr (Eqx.up (by decide)), fun j hj => by rw [up_ne _ _ _ (by decide), up_nk _ _ hj]⟩
    · rw [if_neg (show ¬ nI 1 = 0 by decide), h3, h4, rd_e (s.length + 1) rfl (by omega) (by decide), rd_e s.length rfl (by omega) (by decide), hv1, hv2]
      simp only [Option.bind_some]
      rw [if_pos (show nI 1 = 1 from rfl), up_eq, h5]
      unfold anI
      by_cases hc : y ≤ x
      · simp only [if_pos hc, Option.bind_some, if_true, wr_e s.length rfl (show s.length < 60 by omega) (by decide)]
      · simp only [if_neg hc, Option.bind_some, wr_e s.length rfl (show s.length < 60 by omega) (by decide)]
        rfl
    · rw [up_ne _ _ _ (by decide), up_eq]; rfl
    · rw [up_self, up_ne _ _ _ (by decide)]; exact ⟨by simp [upd], PI_upd h.2.2.2 (Nat.le_refl _)⟩
  · refine ⟨up (up I 70 11 (nI (s.length + 1))) 78 s.length (orI x y), ?_, ⟨?_, ?_⟩, (Eqx.up (by decide)).tr (Eqx.up (by decide)), fun j hj => by rw [up_ne _ _ _ (by decide), up_nk _ _ hj]⟩
    · rw [if_neg (show ¬ nI 2 = 0 by decide), h3, h4, rd_e (s.length + 1) rfl (by omega) (by decide), rd_e s.length rfl (by omega) (by decide), hv1, hv2]
      simp only [Option.bind_some]
      rw [if_neg (show ¬ nI 2 = 1 by decide), up_eq, h5]
      unfold orI
      by_cases hc : x ≤ y
      · simp only [if_pos hc, Option.bind_some, if_true, wr_e s.length rfl (show s.length < 60 by omega) (by decide)]
      · simp only [if_neg hc, Option.bind_some, wr_e s.length rfl (show s.length < 60 by omega) (by decide)]
        rfl
    · rw [up_ne _ _ _ (by decide), up_eq]; rfl
    · rw [up_self, up_ne _ _ _ (by decide)]; exact ⟨by simp [upd], PI_upd h.2.2.2 (Nat.le_refl _)⟩
theorem rs1_j {α : Type} (tt tt2 : Nat → α) (ng : α → α) (an oo : α → α → α) {t : Nat} (ht : t < 3) (st : List α) : rs1 tt ng an oo t st = rs1 tt2 ng an oo t st := by
  rcases (show t = 0 ∨ t = 1 ∨ t = 2 by omega) with rfl | rfl | rfl <;> rfl
theorem r_truth_L {s : Nat} {row : Nat → Int32} {unk : Nat → Bool} (hs : s < 8) : ∀ (B A : List Nat) (st : List Int32) (I : Mem) (n : Nat), FRf (I 71) s (A ++ B) → (A ++ B).length ≤ 59 → B.length < n → I 76 = row → (fun c => decide (I 77 c = -1)) = unk → SK I st → st.length + B.length ≤ 59 → wd B st.length → (∀ t ∈ B, vC t) →
    ∃ I', f_X9_truthOf_L7 (nI s) n (nI A.length) I = some I' ∧ SK I' (tvS row unk B st) ∧ Eqx [70, 78] I I' ∧ K11 I I'
  | [], A, st, I, n, hF, hL, hn, hr, hu, hP, hsl, hw, hv => by
    obtain ⟨n, rfl⟩ : ∃ m, n = m + 1 := ⟨n - 1, by omega⟩
    refine ⟨I, ?_, hP, Eqx.rf, fun _ _ => rfl⟩
    unfold f_X9_truthOf_L7
    rw [r_parts hs hF]
    simp only [Option.bind_some, List.append_nil]
    rw [if_pos (nI_le (Nat.le_refl _) (by simp at hL; omega))]
  | t :: B, A, st, I, n, hF, hL, hn, hr, hu, hP, hsl, hw, hv => by
    obtain ⟨n, rfl⟩ : ∃ m, n = m + 1 := ⟨n - 1, by omega⟩
    have hll : (A ++ t :: B).length = A.length + B.length + 1 := by simp; omega
    have hsl : st.length + B.length + 1 ≤ 59 := by simp at hsl; omega
    have hv0 := hv t (by simp)
    have hF2 : A ++ t :: B = (A ++ [t]) ++ B := by simp
    have hnx : nI A.length + 1 = nI (A ++ [t]).length := by rw [nI_1]; simp
    unfold f_X9_truthOf_L7
    rw [r_parts hs hF]
    simp only [Option.bind_some]
    rw [if_neg (nI_ge (by omega) (by omega)), r_part hs hF (by omega) (mid_at A B t)]
    have ht31 : t < 2 ^ 31 := by rcases hv0 with h | h; omega; have := h.2.1; omega
    simp only [Option.bind_some]
    rw [r_isTest ht31]
    simp only [Option.bind_some]
    have go : ∀ (st' : List Int32) (I' : Mem), SK I' st' → Eqx [70, 78] I I' → K11 I I' → st' = rs1 (tst row unk) (fun x => 2 - x) anI orI t st → st'.length + B.length ≤ 59 → wd B st'.length →
        ∃ I2, f_X9_truthOf_L7 (nI s) n (nI A.length + 1) I' = some I2 ∧ SK I2 (tvS row unk (t :: B) st) ∧ Eqx [70, 78] I I2 ∧ K11 I I2 := by
      intro st' I' hP' hE hK hst hl hw'
      rw [hF2] at hF
      obtain ⟨I2, e1, e2, e3, e4⟩ := r_truth_L (row := row) (unk := unk) hs B (A ++ [t]) st' I' n (by rw [hE 71 (by decide)]; exact hF) (by rw [← hF2]; exact hL) (by simp at hn; omega) ((hE 76 (by decide)).trans hr) (by rw [hE 77 (by decide)]; exact hu) hP' hl hw' (fun t ht => hv t (by simp [ht]))
      rw [hnx]
      refine ⟨I2, e1, ?_, hE.tr e3, fun j hj => (e4 j hj).trans (hK j hj)⟩
      unfold tvS rsG
      rw [← hst]
      exact e2
    by_cases ht : 3 ≤ t
    · have h4 := (vC_t hv0 ht).1
      rw [if_neg (show ¬ t < 4 by omega), if_neg (show ¬ (1 : Int32) = 0 by decide), r_tested (vC_t hv0 ht), hr, hu]
      simp only [Option.bind_some]
      rw [hP.1, wr_e st.length rfl (by omega) (by decide)]
      simp only [Option.bind_some]
      rw [up_ne _ _ _ (by decide), hP.1, nI_1 st.length]
      refine go (tst row unk t :: st) (up (up I 78 st.length (tst row unk t)) 70 11 (nI (st.length + 1))) ⟨?_, ?_⟩ ((Eqx.up (by decide)).tr (Eqx.up (by decide))) (fun j hj => by rw [up_nk _ _ hj, up_ne _ _ _ (by decide)]) (rs1_t _ _ _ _ ht _).symm (by simp; omega) (wd_t ht hw)
      · rw [up_eq]; rfl
      · rw [up_ne _ _ _ (by decide), up_self]; exact PI_push hP.2
    · rw [if_pos (show t < 4 by omega), if_pos (show (0 : Int32) = 0 from rfl)]
      have h1 : 1 ≤ st.length ∧ (0 < t → 2 ≤ st.length) ∧ (rs1 (tst row unk) (fun x => 2 - x) anI orI t st).length + B.length ≤ 59 ∧ wd B (rs1 (tst row unk) (fun x => 2 - x) anI orI t st).length := by
        rcases (show t = 0 ∨ t = 1 ∨ t = 2 by omega) with rfl | rfl | rfl
        · obtain ⟨h1, h2⟩ := wd_0 hw
          obtain ⟨y, q, rfl⟩ := len1 h1
          refine ⟨h1, fun h => absurd h (by decide), ?_, h2⟩
          show (q.length + 1) + B.length ≤ 59
          simp at hsl; omega
        · obtain ⟨h1, h2⟩ := wd_1 hw
          obtain ⟨y, z, q, rfl⟩ := len2 h1
          refine ⟨by omega, fun _ => h1, ?_, h2⟩
          show (q.length + 1) + B.length ≤ 59
          simp at hsl; omega
        · obtain ⟨h1, h2⟩ := wd_2 hw
          obtain ⟨y, z, q, rfl⟩ := len2 h1
          refine ⟨by omega, fun _ => h1, ?_, h2⟩
          show (q.length + 1) + B.length ≤ 59
          simp at hsl; omega
      obtain ⟨I1, e1, e2, e3, e4⟩ := r_combines (show t < 3 by omega) hP (by omega) h1.1 h1.2.1
      rw [e1]
      simp only [Option.bind_some]
      rw [rs1_j _ (tst row unk) _ _ _ (show t < 3 by omega)] at e2
      exact go _ I1 e2 e3 e4 rfl h1.2.2.1 h1.2.2.2
/-- the reference's evaluator -/
theorem r_truth {s : Nat} {I : Mem} {L : List Nat} (hs : s < 8) (hF : FRf (I 71) s L) (hV : fV L) : ∃ I', f_X9_truthOf (nI s) I = some (tv (I 76) (fun c => decide (I 77 c = -1)) L, I') ∧ Eqx [70, 78] I I' ∧ K11 I I' := by
  have hl := hV.2.2.1
  obtain ⟨I2, f1, f2, f3, f4⟩ := r_truth_L (row := I 76) (unk := fun c => decide (I 77 c = -1)) hs L [] [] (up I 70 11 0) fuel (by rw [up_ne _ _ _ (by decide)]; exact hF) (by simp; omega) (by unfold fuel; omega) (by rw [up_ne _ _ _ (by decide)]) (by rw [up_ne _ _ _ (by decide)]) ⟨by rw [up_eq]; rfl, trivial⟩ (by simp; omega) hV.2.1 hV.1
  have h1 := rsG_len (tt := tst (I 76) (fun c => decide (I 77 c = -1))) (ng := fun x => 2 - x) (an := anI) (oo := orI) L [] hV.2.1
  refine ⟨I2, ?_, (Eqx.up (by decide)).tr f3, fun j hj => by rw [f4 j hj, up_nk _ _ hj]⟩
  unfold f_X9_truthOf
  rw [show f_X9_truthOf_L7 (nI s) fuel 0 (up I 70 11 0) = some I2 from f1]
  simp only [Option.bind_some]
  have f2' : PI (I2 78) [tv (I 76) (fun c => decide (I 77 c = -1)) L] := by
    have := one_head h1
    have f2 := f2.2
    unfold tv
    unfold tvS at f2 ⊢
    rw [this] at f2
    exact f2
  rw [rd_e 0 (show (0 : Int32) = nI 0 from rfl) (by decide) (by decide), show I2 78 0 = _ from f2'.1]
  rfl
end MB2
