/-! PURE PART 31: depth, tests and columns of a filter. -/
section MB30
theorem k_arr {I : Mem} {R : Rem} {P : Pool} {k : Nat} {L : List Nat} (h : FObj I R P k L) (hL : L.length ≤ 1000) : ∃ a, rdn R P k 0 10 = some a ∧ Int32.ofNat (Ln P a) = nI L.length ∧ ∀ i t, L[i]? = some t → rd I a (Ln P a) (nI i) = some (enc t) := by
  obtain ⟨h1, h2, a, h3, h4, h5, h6, h7⟩ := h
  refine ⟨a, rdn_e h3 h5, by rw [h6]; rfl, fun i t hi => ?_⟩
  have hl : i < L.length := (List.getElem?_eq_some_iff.mp hi).1
  rw [h6, rd_e i rfl hl (by omega), h7 i t hi]
theorem k_isT {t : Nat} (h : vC t) : f_X7_isTest (enc t) = some (if t < 3 then 0 else 1) := by
  unfold f_X7_isTest
  rw [bs_b (k_sign h)]
  by_cases e : t < 3
  · rw [if_pos e]
    rcases (show t = 0 ∨ t = 1 ∨ t = 2 by omega) with rfl | rfl | rfl
    · exact if_pos rfl
    · rw [if_neg (show ¬ nI (sgnN 1) = 33 by decide)]; exact if_pos rfl
    · rw [if_neg (show ¬ nI (sgnN 2) = 33 by decide), if_neg (show ¬ nI (sgnN 2) = 38 by decide)]; exact if_pos rfl
  · obtain ⟨n1, n2, n3⟩ := sgn_ne (vC_t h (by omega))
    rw [if_neg e, if_neg n1, if_neg n2, if_neg n3]
/-! the number of tests -/
def tcA : List Nat → Int32 → Int32
  | [], w => w
  | t :: B, w => tcA B (if t < 3 then w else w + 1)
def clA : List Nat → Int32 → Int32
  | [], w => w
  | t :: B, w => clA B (if t < 3 then w else ((w ||| ((1 : Int32) <<< (nI (cC t) &&& 31))) ||| (if cO t < 100 then (0 : Int32) else (1 : Int32) <<< (nI (cO t - 100) &&& 31))))
theorem nx_i (A : List Nat) (t : Nat) : nI A.length + 1 = nI (A ++ [t]).length := by rw [nI_1]; simp
theorem k_tc_L {I : Mem} {R : Rem} {P : Pool} {k : Nat} {L : List Nat} (h : FObj I R P k L) (hL : L.length ≤ 60) (hv : ∀ t ∈ L, vC t) : ∀ (B A : List Nat) (w : Int32) (n : Nat), L = A ++ B → B.length < n → f_X2_testCount_L4 k P R I n w (nI A.length) = some (tcA B w)
  | [], A, w, n, hAB, hn => by
    obtain ⟨n, rfl⟩ : ∃ m, n = m + 1 := ⟨n - 1, by omega⟩
    obtain ⟨a, a1, a2, a3⟩ := k_arr h (by omega)
    unfold f_X2_testCount_L4
    rw [bs_b a1, a2, if_pos (show nI L.length ≤ nI A.length from nI_le (by rw [hAB]; simp) (by rw [hAB] at hL; simp at hL; omega))]
    rfl
  | t :: B, A, w, n, hAB, hn => by
    obtain ⟨n, rfl⟩ : ∃ m, n = m + 1 := ⟨n - 1, by omega⟩
    obtain ⟨a, a1, a2, a3⟩ := k_arr h (by omega)
    have hg : L[A.length]? = some t := by rw [hAB]; exact mid_at A B t
    have hlt := (List.getElem?_eq_some_iff.mp hg).1
    have hn' : B.length + 1 < n + 1 := by simpa using hn
    unfold f_X2_testCount_L4
    rw [bs_b a1, a2, if_neg (nI_ge hlt (by omega)), bs_b a1, bs_b (a3 _ _ hg), bs_b (k_isT (hv t (by rw [hAB]; simp))), nx_i A t]
    show _ = some (tcA B (if t < 3 then w else w + 1))
    by_cases e : t < 3
    · rw [if_pos e, if_pos rfl, if_pos e]
      exact k_tc_L h hL hv B (A ++ [t]) w n (by rw [hAB]; simp) (by omega)
    · rw [if_neg e, if_neg (show ¬ (1 : Int32) = 0 by decide), if_neg e]
      exact k_tc_L h hL hv B (A ++ [t]) (w + 1) n (by rw [hAB]; simp) (by omega)
theorem k_tc {I : Mem} {R : Rem} {P : Pool} {k : Nat} {L : List Nat} (h : FObj I R P k L) (hV : fV L) : f_X2_testCount k P R I = some (tcA L 0) := by
  have hl := hV.2.2.1
  unfold f_X2_testCount
  rw [bs_b (show f_X2_testCount_L4 k P R I fuel 0 0 = some (tcA L 0) from k_tc_L h (by omega) hV.1 L [] 0 fuel rfl (by unfold fuel; omega))]
/-! the columns -/
theorem k_colOf {t : Nat} (h : vT t) : f_X7_columnOf (enc t) = some (nI (cC t)) := by
  rw [enc_t h, m_columnOf (by have := encT_b h; omega), encT_c h]
theorem k_cmpC {t : Nat} (h : vT t) : f_X7_comparesColumns (enc t) = some (if cO t < 100 then 0 else 1) := by
  rw [enc_t h, m_comparesColumns (by have := encT_b h; omega), encT_w h]
  split <;> rfl
theorem k_othC {t : Nat} (h : vT t) (ho : ¬ cO t < 100) : f_X7_otherColumnOf (enc t) = some (nI (cO t - 100)) := by
  have := h.2.2.1
  rw [enc_t h, m_otherColumnOf (by have := encT_b h; omega), encT_o h, if_neg ho, Nat.mod_eq_of_lt (by omega)]
theorem k_cl_L {I : Mem} {R : Rem} {P : Pool} {k : Nat} {L : List Nat} (h : FObj I R P k L) (hL : L.length ≤ 60) (hv : ∀ t ∈ L, vC t) : ∀ (B A : List Nat) (w : Int32) (n : Nat), L = A ++ B → B.length < n → f_X2_columnSet_L4 k P R I n w (nI A.length) = some (clA B w)
  | [], A, w, n, hAB, hn => by
    obtain ⟨n, rfl⟩ : ∃ m, n = m + 1 := ⟨n - 1, by omega⟩
    obtain ⟨a, a1, a2, a3⟩ := k_arr h (by omega)
    unfold f_X2_columnSet_L4
    rw [bs_b a1, a2, if_pos (show nI L.length ≤ nI A.length from nI_le (by rw [hAB]; simp) (by rw [hAB] at hL; simp at hL; omega))]
    rfl
  | t :: B, A, w, n, hAB, hn => by
    obtain ⟨n, rfl⟩ : ∃ m, n = m + 1 := ⟨n - 1, by omega⟩
    obtain ⟨a, a1, a2, a3⟩ := k_arr h (by omega)
    have hg : L[A.length]? = some t := by rw [hAB]; exact mid_at A B t
    have hlt := (List.getElem?_eq_some_iff.mp hg).1
    have hn' : B.length + 1 < n + 1 := by simpa using hn
    have hvt := hv t (by rw [hAB]; simp)
    unfold f_X2_columnSet_L4
    rw [bs_b a1, a2, if_neg (nI_ge hlt (by omega)), bs_b a1, bs_b (a3 _ _ hg), bs_b (k_isT hvt), nx_i A t]
    show _ = some (clA B (if t < 3 then w else ((w ||| ((1 : Int32) <<< (nI (cC t) &&& 31))) ||| (if cO t < 100 then (0 : Int32) else (1 : Int32) <<< (nI (cO t - 100) &&& 31)))))
    by_cases e : t < 3
    · rw [if_pos e, if_pos rfl, if_pos e]
      exact k_cl_L h hL hv B (A ++ [t]) w n (by rw [hAB]; simp) (by omega)
    · have hT := vC_t hvt (show 3 ≤ t by omega)
      rw [if_neg e, if_neg (show ¬ (1 : Int32) = 0 by decide), if_neg e, bs_b a1, bs_b (a3 _ _ hg), bs_b (k_colOf hT), bs_b a1, bs_b (a3 _ _ hg), bs_b (k_cmpC hT)]
      by_cases e2 : cO t < 100
      · rw [if_pos e2, if_pos rfl, if_pos e2, Int32.or_zero]
        exact k_cl_L h hL hv B (A ++ [t]) _ n (by rw [hAB]; simp) (by omega)
      · rw [if_neg e2, if_neg (show ¬ (1 : Int32) = 0 by decide), if_neg e2, bs_b a1, bs_b (a3 _ _ hg), bs_b (k_othC hT e2)]
        exact k_cl_L h hL hv B (A ++ [t]) _ n (by rw [hAB]; simp) (by omega)
theorem k_cl {I : Mem} {R : Rem} {P : Pool} {k : Nat} {L : List Nat} (h : FObj I R P k L) (hV : fV L) : f_X2_columnSet k P R I = some (clA L 0) := by
  have hl := hV.2.2.1
  unfold f_X2_columnSet
  rw [bs_b (show f_X2_columnSet_L4 k P R I fuel 0 0 = some (clA L 0) from k_cl_L h (by omega) hV.1 L [] 0 fuel rfl (by unfold fuel; omega))]
/-! the depth -/
def mx1 (x y : Nat) : Nat := (if x ≤ y then y else x) + 1
def dS (L st : List Nat) : List Nat := rsG (fun _ => 1) (fun x => x + 1) mx1 mx1 L st
theorem k_dep_L {R : Rem} {P : Pool} {k : Nat} : ∀ (B A st : List Nat) (I : Mem) (n : Nat), FObj I R P k (A ++ B) → (A ++ B).length ≤ 60 → B.length < n → PL I 12 (st.map nI) → st.length + B.length ≤ 60 → (∀ x ∈ st, x + B.length ≤ 60) → wd B st.length → (∀ t ∈ B, vC t) →
    ∃ I', f_X1_depthOf_L6 (some k) P R n (nI A.length) I = some I' ∧ PL I' 12 ((dS B st).map nI) ∧ Eqx [12, 13] I I'
  | [], A, st, I, n, hF, hL, hn, hP, hs, hb, hw, hv => by
    obtain ⟨n, rfl⟩ : ∃ m, n = m + 1 := ⟨n - 1, by omega⟩
    refine ⟨I, ?_, hP, Eqx.rf⟩
    rw [List.append_nil] at hF hL
    unfold f_X1_depthOf_L6
    rw [bs_b rfl, bs_b (k_size hF), if_pos (nI_le (Nat.le_refl _) (by omega))]
  | t :: B, A, st, I, n, hF, hL, hn, hP, hs, hb, hw, hv => by
    obtain ⟨n, rfl⟩ : ∃ m, n = m + 1 := ⟨n - 1, by omega⟩
    have hll : (A ++ t :: B).length = A.length + B.length + 1 := by simp; omega
    have hsl : st.length + B.length + 1 ≤ 60 := by simp at hs; omega
    have hbl : ∀ x ∈ st, x + (B.length + 1) ≤ 60 := fun x hx => by have := hb x hx; simpa using this
    have hv0 := hv t (by simp)
    have hF2 : A ++ t :: B = (A ++ [t]) ++ B := by simp
    have hn' : B.length + 1 < n + 1 := by simpa using hn
    unfold f_X1_depthOf_L6
    rw [bs_b rfl, bs_b (k_size hF), if_neg (nI_ge (by omega) (by omega)), bs_b rfl, bs_b (k_step hF (by omega) (mid_at A B t)), bs_b (k_sign hv0), nx_i A t]
    have go : ∀ (st' : List Nat) (I' : Mem), PL I' 12 (st'.map nI) → Eqx [12, 13] I I' → st' = rs1 (fun _ => 1) (fun x => x + 1) mx1 mx1 t st → st'.length + B.length ≤ 60 → (∀ x ∈ st', x + B.length ≤ 60) → wd B st'.length →
        ∃ I2, f_X1_depthOf_L6 (some k) P R n (nI (A ++ [t]).length) I' = some I2 ∧ PL I2 12 ((dS (t :: B) st).map nI) ∧ Eqx [12, 13] I I2 := by
      intro st' I' hP' hE hst hl hb' hw'
      rw [hF2] at hF
      obtain ⟨I2, e1, e2, e3⟩ := k_dep_L B (A ++ [t]) st' I' n (hF.eqx hE (by decide)) (by rw [← hF2]; exact hL) (by omega) hP' hl hb' hw' (fun t ht => hv t (by simp [ht]))
      refine ⟨I2, e1, ?_, hE.tr e3⟩
      unfold dS rsG
      rw [← hst]
      exact e2
    by_cases ht : 3 ≤ t
    · obtain ⟨n1, n2, n3⟩ := sgn_ne (vC_t hv0 ht)
      rw [if_neg n1, if_neg n2, if_neg n3]
      obtain ⟨I1, e1, e2, e3⟩ := m_push (x := nI 1) (P := P) hP (by rw [List.length_map]; omega)
      rw [bs_b (show f_X3_push 12 1 P I = some I1 from e1)]
      exact go (1 :: st) I1 e2 e3 (rs1_t (fun _ => 1) _ _ _ ht _).symm (by simp; omega) (fun x hx => by rcases List.mem_cons.mp hx with rfl | hx; omega; have := hbl x hx; omega) (wd_t ht hw)
    · rcases (show t = 0 ∨ t = 1 ∨ t = 2 by omega) with rfl | rfl | rfl
      · obtain ⟨h1, h2⟩ := wd_0 hw
        obtain ⟨y, s, rfl⟩ := len1 h1
        simp only [List.length_cons] at hsl h2
        have hy := hbl y (by simp)
        rw [if_pos (show nI (sgnN 0) = 33 from rfl)]
        obtain ⟨I1, e1, e2, e3⟩ := m_pop (show PL I 12 (nI y :: s.map nI) from hP) (by rw [List.length_map]; omega)
        obtain ⟨I2, e4, e5, e6⟩ := m_push (x := nI (y + 1)) (P := P) e2 (by rw [List.length_map]; omega)
        rw [bs_b e1]
        dsimp only
        rw [nI_1, bs_b e4]
        exact go ((y + 1) :: s) I2 e5 ((e3.mono (by decide)).tr (e6.mono (by decide))) rfl (by simp; omega) (fun x hx => by rcases List.mem_cons.mp hx with rfl | hx; omega; have := hbl x (by simp [hx]); omega) h2
      · obtain ⟨h1, h2⟩ := wd_1 hw
        obtain ⟨y, z, s, rfl⟩ := len2 h1
        simp only [List.length_cons] at hsl h2
        have hy := hbl y (by simp)
        have hz := hbl z (by simp)
        rw [if_neg (show ¬ nI (sgnN 1) = 33 by decide), if_pos (show nI (sgnN 1) = 38 from rfl)]
        obtain ⟨I1, e1, e2, e3⟩ := m_pop (show PL I 12 (nI y :: nI z :: s.map nI) from hP) (by simp; omega)
        obtain ⟨I2, e4, e5, e6⟩ := m_pop e2 (by rw [List.length_map]; omega)
        have hm : jmax (nI y) (nI z) + 1 = nI (mx1 z y) := by
          rw [jmax_or]
          unfold orI mx1
          by_cases c : z ≤ y
          · rw [if_pos (nI_le c (by omega)), if_pos c, nI_1]
          · rw [if_neg (nI_ge (by omega) (by omega)), if_neg c, nI_1]
        obtain ⟨I3, e7, e8, e9⟩ := m_push (x := nI (mx1 z y)) (P := P) e5 (by rw [List.length_map]; omega)
        rw [bs_b e1]
        dsimp only
        rw [bs_b e4]
        dsimp only
        rw [hm, bs_b e7]
        exact go (mx1 z y :: s) I3 e8 (((e3.mono (by decide)).tr (e6.mono (by decide))).tr (e9.mono (by decide))) rfl (by simp; omega) (fun x hx => by rcases List.mem_cons.mp hx with rfl | hx; (unfold mx1; split <;> omega); have := hbl x (by simp [hx]); omega) h2
      · obtain ⟨h1, h2⟩ := wd_2 hw
        obtain ⟨y, z, s, rfl⟩ := len2 h1
        simp only [List.length_cons] at hsl h2
        have hy := hbl y (by simp)
        have hz := hbl z (by simp)
        rw [if_neg (show ¬ nI (sgnN 2) = 33 by decide), if_neg (show ¬ nI (sgnN 2) = 38 by decide), if_pos (show nI (sgnN 2) = 124 from rfl)]
        obtain ⟨I1, e1, e2, e3⟩ := m_pop (show PL I 12 (nI y :: nI z :: s.map nI) from hP) (by simp; omega)
        obtain ⟨I2, e4, e5, e6⟩ := m_pop e2 (by rw [List.length_map]; omega)
        have hm : jmax (nI y) (nI z) + 1 = nI (mx1 z y) := by
          rw [jmax_or]
          unfold orI mx1
          by_cases c : z ≤ y
          · rw [if_pos (nI_le c (by omega)), if_pos c, nI_1]
          · rw [if_neg (nI_ge (by omega) (by omega)), if_neg c, nI_1]
        obtain ⟨I3, e7, e8, e9⟩ := m_push (x := nI (mx1 z y)) (P := P) e5 (by rw [List.length_map]; omega)
        rw [bs_b e1]
        dsimp only
        rw [bs_b e4]
        dsimp only
        rw [hm, bs_b e7]
        exact go (mx1 z y :: s) I3 e8 (((e3.mono (by decide)).tr (e6.mono (by decide))).tr (e9.mono (by decide))) rfl (by simp; omega) (fun x hx => by rcases List.mem_cons.mp hx with rfl | hx; (unfold mx1; split <;> omega); have := hbl x (by simp [hx]); omega) h2
theorem k_dep {I : Mem} {R : Rem} {P : Pool} {k : Nat} {L : List Nat} (hF : FObj I R P k L) (hV : fV L) : ∃ I', f_X1_depthOf (some k) P R I = some (nI ((dS L []).headD 0), I') ∧ Eqx [12, 13, 14, 15] I I' := by
  obtain ⟨I1, e1, e2, e3, e4⟩ := k_start (I := I)
  have hF1 : FObj I1 R P k ([] ++ L) := hF.eqx e4 (by decide)
  have hl := hV.2.2.1
  obtain ⟨I2, f1, f2, f3⟩ := k_dep_L L [] [] I1 fuel hF1 (by simp; omega) (by unfold fuel; omega) e2 (by simp; omega) (fun x hx => by simp at hx) hV.2.1 hV.1
  have h1 : (dS L []).length = 1 := rsG_len L [] hV.2.1
  have f2' : PL I2 12 [nI ((dS L []).headD 0)] := by
    cases hd : dS L [] with
    | nil => rw [hd] at h1; simp at h1
    | cons x q =>
      cases q with
      | nil => rw [hd] at f2; exact f2
      | cons y q => rw [hd] at h1; simp at h1
  refine ⟨I2, ?_, e4.tr (f3.mono (by decide))⟩
  unfold f_X1_depthOf
  rw [bs_b e1, bs_b (show f_X1_depthOf_L6 (some k) P R fuel 0 I1 = some I2 from f1), bs_b (m_top f2' (by decide))]
end MB30
