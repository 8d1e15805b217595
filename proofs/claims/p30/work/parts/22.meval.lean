/-! PURE PART 3: the evaluators. -/
section MB2
theorem k_truth_L {R : Rem} {P : Pool} {k a2 : Nat} {x : Int32} {row : Nat → Int32} (ha : Ln P a2 = 4) (ha2 : a2 ∉ [12, 13]) : ∀ (B A : List Nat) (st : List Int32) (I : Mem) (n : Nat), FObj I R P k (A ++ B) → (A ++ B).length ≤ 60 → B.length < n → I a2 = row → PL I 12 st → st.length + B.length ≤ 60 → wd B st.length → (∀ t ∈ B, vC t) →
    ∃ I', f_X1_truthOf_L7 (some k) a2 x P R n (nI A.length) I = some I' ∧ PL I' 12 (tvS row (hb x) B st) ∧ Eqx [12, 13] I I'
  | [], A, st, I, n, hF, hL, hn, hr, hP, hs, hw, hv => by
    obtain ⟨n, rfl⟩ : ∃ m, n = m + 1 := ⟨n - 1, by omega⟩
    refine ⟨I, ?_, hP, Eqx.rf⟩
    unfold f_X1_truthOf_L7
    simp only [Option.bind_some, k_size hF, List.append_nil]
    rw [if_pos (nI_le (Nat.le_refl _) (by simp at hL; omega))]
  | t :: B, A, st, I, n, hF, hL, hn, hr, hP, hs, hw, hv => by
    obtain ⟨n, rfl⟩ : ∃ m, n = m + 1 := ⟨n - 1, by omega⟩
    have hll : (A ++ t :: B).length = A.length + B.length + 1 := by simp; omega
    have hsl : st.length + B.length + 1 ≤ 60 := by simp at hs; omega
    have hv0 := hv t (by simp)
    have hF2 : A ++ t :: B = (A ++ [t]) ++ B := by simp
    have hnx : nI A.length + 1 = nI (A ++ [t]).length := by rw [nI_1]; simp
    unfold f_X1_truthOf_L7
    simp only [Option.bind_some, k_size hF]
    rw [if_neg (nI_ge (by omega) (by omega)), k_step hF (by omega) (mid_at A B t)]
    simp only [Option.bind_some, k_sign hv0]
    have go : ∀ (st' : List Int32) (I' : Mem), PL I' 12 st' → Eqx [12, 13] I I' → st' = rs1 (tst row (hb x)) (fun x => 2 - x) anI orI t st → st'.length + B.length ≤ 60 → wd B st'.length →
        ∃ I2, f_X1_truthOf_L7 (some k) a2 x P R n (nI A.length + 1) I' = some I2 ∧ PL I2 12 (tvS row (hb x) (t :: B) st) ∧ Eqx [12, 13] I I2 := by
      intro st' I' hP' hE hst hl hw'
      rw [hF2] at hF
      obtain ⟨I2, e1, e2, e3⟩ := k_truth_L (row := row) ha ha2 B (A ++ [t]) st' I' n (hF.eqx hE (by decide)) (by rw [← hF2]; exact hL) (by simp at hn; omega) ((hE a2 ha2).trans hr) hP' hl hw' (fun t ht => hv t (by simp [ht]))
      rw [hnx]
      refine ⟨I2, e1, ?_, hE.tr e3⟩
      unfold tvS rsG
      rw [← hst]
      exact e2
    by_cases ht : 3 ≤ t
    · obtain ⟨n1, n2, n3⟩ := sgn_ne (vC_t hv0 ht)
      rw [if_neg n1, if_neg n2, if_neg n3, k_test (vC_t hv0 ht) ha, hr]
      simp only [Option.bind_some]
      obtain ⟨I1, e1, e2, e3⟩ := m_push (x := tst row (hb x) t) (P := P) hP (by omega)
      rw [e1]
      simp only [Option.bind_some]
      exact go _ I1 e2 e3 (rs1_t _ _ _ _ ht _).symm (by simp; omega) (wd_t ht hw)
    · rcases (show t = 0 ∨ t = 1 ∨ t = 2 by omega) with rfl | rfl | rfl
      · obtain ⟨h1, h2⟩ := wd_0 hw
        obtain ⟨y, s, rfl⟩ := len1 h1
        simp only [List.length_cons] at hsl h2
        rw [if_pos (show nI (sgnN 0) = 33 from rfl)]
        obtain ⟨I1, e1, e2, e3⟩ := m_pop hP (by omega)
        obtain ⟨I2, e4, e5, e6⟩ := m_push (x := 2 - y) (P := P) e2 (by omega)
        rw [e1]
        simp only [Option.bind_some, e4]
        exact go _ I2 e5 ((e3.mono (by decide)).tr (e6.mono (by decide))) rfl (by simp; omega) h2
      · obtain ⟨h1, h2⟩ := wd_1 hw
        obtain ⟨y, z, s, rfl⟩ := len2 h1
        simp only [List.length_cons] at hsl h2
        rw [if_neg (show ¬ nI (sgnN 1) = 33 by decide), if_pos (show nI (sgnN 1) = 38 from rfl)]
        obtain ⟨I1, e1, e2, e3⟩ := m_pop hP (by simp; omega)
        obtain ⟨I2, e4, e5, e6⟩ := m_pop e2 (by omega)
        obtain ⟨I3, e7, e8, e9⟩ := m_push (x := jmin y z) (P := P) e5 (by omega)
        rw [e1]
        simp only [Option.bind_some, e4, e7]
        exact go _ I3 e8 (((e3.mono (by decide)).tr (e6.mono (by decide))).tr (e9.mono (by decide))) (by rw [jmin_an]; rfl) (by simp; omega) h2
      · obtain ⟨h1, h2⟩ := wd_2 hw
        obtain ⟨y, z, s, rfl⟩ := len2 h1
        simp only [List.length_cons] at hsl h2
        rw [if_neg (show ¬ nI (sgnN 2) = 33 by decide), if_neg (show ¬ nI (sgnN 2) = 38 by decide), if_pos (show nI (sgnN 2) = 124 from rfl)]
        obtain ⟨I1, e1, e2, e3⟩ := m_pop hP (by simp; omega)
        obtain ⟨I2, e4, e5, e6⟩ := m_pop e2 (by omega)
        obtain ⟨I3, e7, e8, e9⟩ := m_push (x := jmax y z) (P := P) e5 (by omega)
        rw [e1]
        simp only [Option.bind_some, e4, e7]
        exact go _ I3 e8 (((e3.mono (by decide)).tr (e6.mono (by decide))).tr (e9.mono (by decide))) (by rw [jmax_or]; rfl) (by simp; omega) h2
theorem k_start {I : Mem} : ∃ I', f_X1_start I = some I' ∧ PL I' 12 [] ∧ PL I' 14 [] ∧ Eqx [12, 13, 14, 15] I I' := by
  obtain ⟨I1, e1, e2, e3⟩ := m_clear (I := I) (p := 12)
  obtain ⟨I2, e4, e5, e6⟩ := m_clear (I := I1) (p := 14)
  refine ⟨I2, ?_, e2.eqx e6 (by decide) (by decide), e5, (e3.mono (by decide)).tr (e6.mono (by decide))⟩
  unfold f_X1_start
  rw [e1]
  simp only [Option.bind_some, e4]
theorem one_head {st : List Int32} (h : st.length = 1) : st = [st.headD 0] := by
  match st, h with
  | [x], _ => rfl
/-- the class's evaluator -/
theorem k_truth {R : Rem} {P : Pool} {k a2 : Nat} {x : Int32} {I : Mem} {L : List Nat} (ha : Ln P a2 = 4) (ha2 : a2 ∉ [12, 13, 14, 15]) (hF : FObj I R P k L) (hV : fV L) : ∃ I', f_X1_truthOf (some k) a2 x P R I = some (tv (I a2) (hb x) L, I') ∧ Eqx [12, 13, 14, 15] I I' := by
  obtain ⟨I1, e1, e2, e3, e4⟩ := k_start (I := I)
  have hF1 : FObj I1 R P k ([] ++ L) := hF.eqx e4 (by decide)
  have hl := hV.2.2.1
  obtain ⟨I2, f1, f2, f3⟩ := k_truth_L (row := I a2) (x := x) ha (fun h => ha2 (by simp at h ⊢; omega)) L [] [] I1 fuel hF1 (by simp; omega) (by unfold fuel; omega) (e4 a2 ha2) e2 (by simp; omega) hV.2.1 hV.1
  have h1 := rsG_len (tt := tst (I a2) (hb x)) (ng := fun x => 2 - x) (an := anI) (oo := orI) L [] hV.2.1
  refine ⟨I2, ?_, e4.tr (f3.mono (by decide))⟩
  unfold f_X1_truthOf
  rw [e1]
  simp only [Option.bind_some]
  rw [show (0 : Int32) = nI ([] : List Nat).length from rfl, f1]
  simp only [Option.bind_some]
  have f2' : PL I2 12 [tv (I a2) (hb x) L] := by
    have := one_head h1
    unfold tv
    unfold tvS at f2 ⊢
    rw [this] at f2
    exact f2
  rw [m_top f2' (by decide)]
  rfl
/-! the reference -/
theorem lit_mul (a : Nat) (s : Nat) : (nI a : Int32) * nI s = nI (a * s) := pk_mul a s
theorem rs1_j {α : Type} (tt tt2 : Nat → α) (ng : α → α) (an oo : α → α → α) {t : Nat} (ht : t < 3) (st : List α) : rs1 tt ng an oo t st = rs1 tt2 ng an oo t st := by
  rcases (show t = 0 ∨ t = 1 ∨ t = 2 by omega) with rfl | rfl | rfl <;> rfl
end MB2
