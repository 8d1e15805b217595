/-! PURE PART 26: the class reads filter texts. -/
section MB25
abbrev SP : List Nat := [19, 20, 21, 22, 23]
def CR (I : Mem) (p : PS) : Prop := I 19 2 = nI p.1 ∧ I 19 3 = nI p.2.1 ∧ PL I 20 (p.2.2.2.1.map enc) ∧ PL I 22 (p.2.2.1.map nI) ∧ (p.1 = 1 ∨ p.1 = 2 ∨ p.1 = 3 → I 19 4 = nI p.2.2.2.2.1) ∧ (p.1 = 2 ∨ p.1 = 3 → I 19 5 = nI (sch p.2.2.2.2.2.1)) ∧ (p.1 = 3 → I 19 6 = nI p.2.2.2.2.2.2)
def CT (r : Option PS) (I : Mem) (z : Option (Int32 × Mem)) : Prop := match r with
  | none => ∃ I', z = some (0, I') ∧ Eqx SP I I'
  | some q => ∃ I', z = some (1, I') ∧ CR I' q ∧ Eqx SP I I'
theorem k_str {x : Nat} (h : x = 33 ∨ x = 38 ∨ x = 124 ∨ x = 40) : f_X4_strength (nI x) = some (nI (str x)) := by
  unfold f_X4_strength
  rcases h with rfl | rfl | rfl | rfl
  · rw [if_pos (show nI 33 = 33 from rfl)]; rfl
  · rw [if_neg (show ¬ nI 38 = 33 by decide), if_pos (show nI 38 = 38 from rfl)]; rfl
  · rw [if_neg (show ¬ nI 124 = 33 by decide), if_neg (show ¬ nI 124 = 38 by decide), if_pos (show nI 124 = 124 from rfl)]; rfl
  · rw [if_neg (show ¬ nI 40 = 33 by decide), if_neg (show ¬ nI 40 = 38 by decide), if_neg (show ¬ nI 40 = 124 by decide)]; rfl
theorem str_3 (x : Nat) : str x ≤ 3 := by unfold str; split <;> (try split) <;> (try split) <;> omega
theorem enc_cd {x : Nat} (h : x = 33 ∨ x = 38 ∨ x = 124) : nI x = enc (cd x) := by
  rcases h with rfl | rfl | rfl <;> rfl
theorem k_rel_L {P : Pool} {l : Nat} (hl : 1 ≤ l) (hl3 : l ≤ 3) : ∀ (W M : List Nat) (I : Mem) (n : Nat), W.length < n → okS 2 W → M.length + W.length ≤ 60 → PL I 20 (M.map enc) → PL I 22 (W.map nI) → ∃ I', f_X4_release_L8 (nI l) P n (nI W.length) I = some I' ∧ PL I' 20 ((rel l W M).2.map enc) ∧ PL I' 22 ((rel l W M).1.map nI) ∧ Eqx [20, 21, 22, 23] I I'
  | [], M, I, n, hn, hS, hlen, h1, h2 => by
    obtain ⟨n, rfl⟩ : ∃ m, n = m + 1 := ⟨n - 1, by omega⟩
    refine ⟨I, ?_, h1, h2, Eqx.rf⟩
    unfold f_X4_release_L8
    rw [if_pos (show nI ([] : List Nat).length ≤ 0 by decide)]
  | x :: W, M, I, n, hn, hS, hlen, h1, h2 => by
    obtain ⟨n, rfl⟩ : ∃ m, n = m + 1 := ⟨n - 1, by omega⟩
    have hx := okS_x hS
    have hlen' : M.length + (W.length + 1) ≤ 60 := by simpa using hlen
    have hn' : W.length + 1 < n + 1 := by simpa using hn
    have h2' : PL I 22 (nI x :: W.map nI) := h2
    have hxb : x < 65536 := by omega
    unfold f_X4_release_L8
    rw [if_neg (show ¬ nI (x :: W).length ≤ 0 from nI_ge (a := 0) (by simp) (by simp; omega)), bs_b (m_top h2' (by simp; omega)), chr_n hxb, bs_b (k_str hx), rel_c]
    have h3 := str_3 x
    by_cases e : str x < l
    · rw [if_pos e, if_pos (nI_lt e (by omega))]
      exact ⟨I, rfl, h1, h2, Eqx.rf⟩
    · obtain ⟨I1, p1, p2, p3⟩ := m_pop h2' (by simp; omega)
      obtain ⟨I2, q1, q2, q3⟩ := m_push (P := P) (x := nI x) (h1.eqx p3 (by decide) (by decide)) (by simp; omega)
      have hE := (p3.mono (T := [20, 21, 22, 23]) (by decide)).tr (q3.mono (by decide))
      have q2' : PL I2 20 ((cd x :: M).map enc) := by
        have := enc_cd (str_c (show ¬ str x < 1 by omega))
        rw [List.map_cons, ← this]; exact q2
      obtain ⟨I3, r1, r2, r3, r4⟩ := k_rel_L (P := P) hl hl3 W (cd x :: M) I2 n (by omega) (okS_t hS) (by simp; omega) q2' (p2.eqx q3 (by decide) (by decide))
      refine ⟨I3, ?_, by rw [if_neg e]; exact r2, by rw [if_neg e]; exact r3, hE.tr r4⟩
      rw [if_neg (nI_nlt (by omega) (by omega)), bs_b p1]
      dsimp only
      rw [chr_n hxb, bs_b (show f_X7_joint (nI x) = some (nI x) from rfl), bs_b q1, show nI (x :: W).length + (-1) = nI W.length by rw [show nI (x :: W).length + (-1) = nI (x :: W).length - 1 from (Int32.sub_eq_add_neg _ _).symm, List.length_cons, nI_pred]]
      exact r1
theorem k_rel {P : Pool} {l : Nat} {W M : List Nat} {I : Mem} (hl : 1 ≤ l) (hl3 : l ≤ 3) (hS : okS 2 W) (hlen : M.length + W.length ≤ 60) (h1 : PL I 20 (M.map enc)) (h2 : PL I 22 (W.map nI)) : ∃ I', f_X4_release (nI l) P I = some I' ∧ PL I' 20 ((rel l W M).2.map enc) ∧ PL I' 22 ((rel l W M).1.map nI) ∧ Eqx [20, 21, 22, 23] I I' := by
  obtain ⟨I', e1, e2⟩ := k_rel_L (P := P) hl hl3 W M I fuel (by unfold fuel; omega) hS hlen h1 h2
  refine ⟨I', ?_, e2⟩
  have hh : I 22 1 = nI W.length := by have := h2.1; simpa using this
  unfold f_X4_release
  rw [bs_b (show f_X3_height 22 I = some (nI W.length) by unfold f_X3_height; rw [hh]), bs_b e1]
theorem k_mk {c s w o : Nat} (hc : c < 4) (hs : s < 4) (hw : (w = 0 ∧ o < 100) ∨ (w = 1 ∧ o < 4)) (h0 : s = 0 → w = 0 ∧ o = 0) : f_X7_test (nI (sch s)) (nI c) (nI w) (nI o) = some (enc (tcode c s (100 * w + o))) := by
  have hsc := sch_b s
  have hv : vT (tcode c s (100 * w + o)) := tc_v hc hs (by omega) (by omega)
  have e1 : sch s ||| c * 2 ^ 7 = 2 ^ 7 * c + sch s := by rw [Nat.or_comm, Nat.mul_comm]; exact fa_or_sum' (k := 7) (by omega)
  have e2 : 2 ^ 7 * c + sch s ||| w * 2 ^ 9 = 2 ^ 9 * w + (2 ^ 7 * c + sch s) := by rw [Nat.or_comm, Nat.mul_comm w]; exact fa_or_sum' (k := 9) (by omega)
  have e3 : 2 ^ 9 * w + (2 ^ 7 * c + sch s) ||| o * 2 ^ 10 = 2 ^ 10 * o + (2 ^ 9 * w + (2 ^ 7 * c + sch s)) := by rw [Nat.or_comm, Nat.mul_comm o]; exact fa_or_sum' (k := 10) (by omega)
  have hq : (if nI w = 0 then some 0 else some 1 : Option Int32) = some (nI w) := by
    rcases hw with ⟨rfl, _⟩ | ⟨rfl, _⟩
    · rw [if_pos (show nI 0 = 0 from rfl)]; rfl
    · rw [if_neg (show ¬ nI 1 = 0 by decide)]; rfl
  unfold f_X7_test
  rw [bs_b hq, pk_shlN _ 7 (by decide) (by omega), pk_shlN _ 9 (by decide) (by omega), pk_shlN _ 10 (by decide) (by omega), nx_or', nx_or', nx_or', e1, e2, e3, enc_t hv]
  refine congrArg (fun z => some (nI z)) ?_
  unfold encT
  rw [tc_c hs (by omega), tc_s hs (by omega), tc_o (by omega)]
  rcases hw with ⟨rfl, h⟩ | ⟨rfl, h⟩
  · rw [if_pos (by omega)]; omega
  · rw [if_neg (by omega)]; omega
/-- a test's end -/
theorem k_endTest {I : Mem} {P : Pool} {x1 x2 x3 : Int32} {t op c s v : Nat} {W M : List Nat} (ht : f_X7_test x1 (I 19 4) x2 x3 = some (enc t)) (h3 : I 19 3 = nI op) (h1 : PL I 20 (M.map enc)) (h2 : PL I 22 (W.map nI)) (hl : M.length < 60) : ∃ I', f_X4_endTest x1 x2 x3 P I = some I' ∧ CR I' (4, op, W, t :: M, c, s, v) ∧ Eqx SP I I' := by
  obtain ⟨I1, p1, p2, p3⟩ := m_push (P := P) (x := enc t) h1 (by simp; omega)
  have hE : Eqx [19] I1 (up I1 19 2 4) := Eqx.up (by decide)
  refine ⟨up I1 19 2 4, ?_, ⟨?_, ?_, p2.eqx hE (by decide) (by decide), (h2.eqx p3 (by decide) (by decide)).eqx hE (by decide) (by decide), fun h => ?_, fun h => ?_, fun h => ?_⟩, (p3.mono (by decide)).tr (hE.mono (by decide))⟩
  · unfold f_X4_endTest
    rw [bs_b ht, bs_b p1]
  · rw [up_eq]; rfl
  · rw [up_nk _ _ (by decide), p3 19 (by decide)]; exact h3
  · have h : 4 = 1 ∨ 4 = 2 ∨ 4 = 3 := h; omega
  · have h : 4 = 2 ∨ 4 = 3 := h; omega
  · have h : 4 = 3 := h; omega
theorem k_chne {a b : Nat} (ha : a < 1000) (hb : b < 1000) (h : ¬ a = b) : ¬ nI a = nI b := fun e => h (by rw [nI_eq (by omega) (by omega)] at e; exact e)
theorem k_joint {I : Mem} {P : Pool} {ch op c s v : Nat} {W M : List Nat} (hR : CR I (4, op, W, M, c, s, v)) (hS : okS 2 W) (hop : op = n4 W) (hlen : M.length + W.length ≤ 59) (ho : op < 1000) (hch : ch < 1000) : CT (jnt ch op W M c s v) I (f_X4_takesJoint (nI ch) P I) := by
  obtain ⟨r1, r2, r3, r4, r5, r6, r7⟩ := hR
  have r2 : I 19 3 = nI op := r2
  have r3 : PL I 20 (M.map enc) := r3
  have r4 : PL I 22 (W.map nI) := r4
  have push : ∀ (l x : Nat), 1 ≤ l → l ≤ 3 → f_X4_strength (nI x) = some (nI l) → ∃ I', ((f_X4_strength (nI x)).bind fun q => (f_X4_release q P I).bind fun q2 => (f_X3_push 22 (nI x) P q2).bind fun q3 => some (1, up q3 19 2 0) : Option (Int32 × Mem)) = some (1, I') ∧ CR I' (0, op, x :: (rel l W M).1, (rel l W M).2, c, s, v) ∧ Eqx SP I I' := by
    intro l x h1 h3 hs
    obtain ⟨I1, p1, p2, p3, p4⟩ := k_rel (P := P) h1 h3 hS (by omega) r3 r4
    have hrl := rel_len l W M
    obtain ⟨I2, q1, q2, q3⟩ := m_push (P := P) (x := nI x) p3 (by simp; omega)
    have hE : Eqx [19] I2 (up I2 19 2 0) := Eqx.up (by decide)
    refine ⟨up I2 19 2 0, ?_, ⟨?_, ?_, (p2.eqx q3 (by decide) (by decide)).eqx hE (by decide) (by decide), PL.eqx q2 hE (by decide) (by decide), fun h => ?_, fun h => ?_, fun h => ?_⟩, ((p4.mono (by decide)).tr (q3.mono (by decide))).tr (hE.mono (by decide))⟩
    · rw [bs_b hs, bs_b p1, bs_b q1]
    · rw [up_eq]; rfl
    · rw [up_nk _ _ (by decide), q3 19 (by decide), p4 19 (by decide)]; exact r2
    · have h : 0 = 1 ∨ 0 = 2 ∨ 0 = 3 := h; omega
    · have h : 0 = 2 ∨ 0 = 3 := h; omega
    · have h : 0 = 3 := h; omega
  unfold jnt f_X4_takesJoint
  by_cases e1 : ch = 41
  · rw [if_pos e1, if_pos (show nI ch = 41 by rw [e1]; rfl), r2]
    by_cases e2 : op = 0
    · rw [if_pos e2, if_pos (show nI op ≤ 0 by rw [e2]; decide), if_neg (show ¬ nI ch = 38 by rw [e1]; decide), if_neg (show ¬ nI ch = 124 by rw [e1]; decide)]
      exact ⟨I, rfl, Eqx.rf⟩
    · rw [if_neg e2, if_neg (show ¬ nI op ≤ 0 from nI_ge (a := 0) (by omega) (by omega))]
      obtain ⟨I1, p1, p2, p3, p4⟩ := k_rel (P := P) (l := 1) (by decide) (by decide) hS (by omega) r3 r4
      have hrl := rel_len 1 W M
      have a3 := rel_n4 (Nat.le_refl 1) W M
      rcases rel1_sh W M hS with b | ⟨W', b, b2⟩
      · rw [b] at a3
        have : n4 [] = 0 := rfl
        omega
      · rw [b] at p3 hrl ⊢
        rw [List.length_cons] at hrl
        obtain ⟨I2, q1, q2, q3⟩ := m_pop (show PL I1 22 (nI 40 :: W'.map nI) from p3) (by simp; omega)
        have i3 : I2 19 3 = nI op := by rw [q3 19 (by decide), p4 19 (by decide)]; exact r2
        have i2 : I2 19 2 = nI 4 := by rw [q3 19 (by decide), p4 19 (by decide)]; exact r1
        have hE : Eqx [19] I2 (up I2 19 3 (nI (op - 1))) := Eqx.up (by decide)
        refine ⟨up I2 19 3 (nI (op - 1)), ?_, ⟨?_, ?_, (p2.eqx q3 (by decide) (by decide)).eqx hE (by decide) (by decide), PL.eqx q2 hE (by decide) (by decide), fun h => ?_, fun h => ?_, fun h => ?_⟩, ((p4.mono (by decide)).tr (q3.mono (by decide))).tr (hE.mono (by decide))⟩
        · rw [bs_b (show f_X4_release 1 P I = some I1 from p1), bs_b q1]
          dsimp only
          rw [i3, show nI op - 1 = nI (op - 1) from pk_sub (b := 1) (by omega)]
        · rw [up_nk _ _ (by decide)]; exact i2
        · rw [up_eq]
        · have h : 4 = 1 ∨ 4 = 2 ∨ 4 = 3 := h; omega
        · have h : 4 = 2 ∨ 4 = 3 := h; omega
        · have h : 4 = 3 := h; omega
  · rw [if_neg e1, if_neg (show ¬ nI ch = 41 from k_chne hch (b := 41) (by decide) e1)]
    by_cases e2 : ch = 38
    · subst e2
      rw [if_pos rfl, if_pos (show nI 38 = 38 from rfl)]
      exact push 2 38 (by decide) (by decide) (k_str (by decide))
    · rw [if_neg e2, if_neg (show ¬ nI ch = 38 from k_chne hch (b := 38) (by decide) e2)]
      by_cases e3 : ch = 124
      · subst e3
        rw [if_pos rfl, if_pos (show nI 124 = 124 from rfl)]
        exact push 1 124 (by decide) (by decide) (k_str (by decide))
      · rw [if_neg e3, if_neg (show ¬ nI ch = 124 from k_chne hch (b := 124) (by decide) e3)]
        exact ⟨I, rfl, Eqx.rf⟩
theorem k_isCol {ch : Nat} (hch : ch < 1000) : f_X4_isColumn (nI ch) = some (if 97 ≤ ch ∧ ch ≤ 100 then 1 else 0) := by
  unfold f_X4_isColumn
  by_cases h1 : ch < 97
  · rw [if_pos (show nI ch < 97 from nI_lt (b := 97) h1 (by decide)), if_neg (by omega)]
  · rw [if_neg (show ¬ nI ch < 97 from nI_nlt (b := 97) (by omega) (by omega))]
    by_cases h2 : 100 < ch
    · rw [if_pos (show (100 : Int32) < nI ch from nI_lt (a := 100) h2 (by omega)), if_neg (by omega)]
    · rw [if_neg (show ¬ (100 : Int32) < nI ch from nI_nlt (a := 100) (by omega) (by omega)), if_pos (by omega)]
theorem k_isDig {ch : Nat} (hch : ch < 1000) : f_X4_isDigit (nI ch) = some (if 48 ≤ ch ∧ ch ≤ 57 then 1 else 0) := by
  unfold f_X4_isDigit
  by_cases h1 : ch < 48
  · rw [if_pos (show nI ch < 48 from nI_lt (b := 48) h1 (by decide)), if_neg (by omega)]
  · rw [if_neg (show ¬ nI ch < 48 from nI_nlt (b := 48) (by omega) (by omega))]
    by_cases h2 : 57 < ch
    · rw [if_pos (show (57 : Int32) < nI ch from nI_lt (a := 57) h2 (by omega)), if_neg (by omega)]
    · rw [if_neg (show ¬ (57 : Int32) < nI ch from nI_nlt (a := 57) (by omega) (by omega)), if_pos (by omega)]
/-- a pending value ends -/
theorem k_endVal {I : Mem} {P : Pool} {p : PS} {i : Nat} (hR : CR I p) (hP : PV p i) (hi : i ≤ 60) : ∃ I', f_X4_endValue P I = some I' ∧ CR I' (stl p) ∧ Eqx SP I I' := by
  obtain ⟨m, op, W, M, c, s, v⟩ := p
  obtain ⟨r1, r2, r3, r4, r5, r6, r7⟩ := hR
  obtain ⟨h1, h2, h3, h4, h5, h6, h7, h8, h9, h10⟩ := hP
  have r1 : I 19 2 = nI m := r1
  have r2 : I 19 3 = nI op := r2
  have r3 : PL I 20 (M.map enc) := r3
  have r4 : PL I 22 (W.map nI) := r4
  have h1 : m ≤ 4 := h1
  unfold f_X4_endValue stl
  rw [r1]
  by_cases e : m = 3
  · subst e
    have r5 : I 19 4 = nI c := r5 (Or.inr (Or.inr rfl))
    have r6 : I 19 5 = nI (sch s) := r6 (Or.inr rfl)
    have r7 : I 19 6 = nI v := r7 rfl
    have h6 : c < 4 := h6
    have h7 : 1 ≤ s ∧ s ≤ 3 := h7 (Or.inr rfl)
    have h8 : 1 ≤ v ∧ v ≤ 9 := h8 rfl
    have h9 : M.length + W.length + 3 ≤ i := h9
    rw [if_pos (show nI 3 = 3 from rfl), if_pos (show (3, op, W, M, c, s, v).1 = 3 from rfl)]
    have ht : f_X7_test (I 19 5) (I 19 4) 0 (I 19 6) = some (enc (tcode c s v)) := by
      rw [r5, r6, r7]
      have := k_mk (c := c) (s := s) (w := 0) (o := v) h6 (by omega) (by omega) (by omega)
      rw [Nat.mul_zero, Nat.zero_add] at this
      exact this
    obtain ⟨I', q1, q2, q3⟩ := k_endTest (P := P) (c := c) (s := s) (v := v) (op := op) (W := W) (M := M) ht r2 r3 r4 (by omega)
    exact ⟨I', by rw [bs_b q1], q2, q3⟩
  · rw [if_neg (show ¬ nI m = 3 from k_chne (b := 3) (by omega) (by decide) e), if_neg (show ¬ (m, op, W, M, c, s, v).1 = 3 from e)]
    exact ⟨I, rfl, ⟨r1, r2, r3, r4, r5, r6, r7⟩, Eqx.rf⟩
theorem k_takes {I : Mem} {P : Pool} {p : PS} {i ch : Nat} (hR : CR I p) (hP : PV p i) (hi : i < 60) (hch : ch < 1000) : CT (stp p ch) I (f_X4_takes (nI ch) P I) := by
  have hR0 := hR
  have hP0 := hP
  obtain ⟨m, op, W, M, c, s, v⟩ := p
  obtain ⟨r1, r2, r3, r4, r5, r6, r7⟩ := hR
  obtain ⟨h1, h2, h3, h4, h5, h6, h7, h8, h9, h10⟩ := hP
  have r1 : I 19 2 = nI m := r1
  have r2 : I 19 3 = nI op := r2
  have r3 : PL I 20 (M.map enc) := r3
  have r4 : PL I 22 (W.map nI) := r4
  have r5 : m = 1 ∨ m = 2 ∨ m = 3 → I 19 4 = nI c := r5
  have r6 : m = 2 ∨ m = 3 → I 19 5 = nI (sch s) := r6
  have r7 : m = 3 → I 19 6 = nI v := r7
  have h1 : m ≤ 4 := h1
  have h2 : op = n4 W := h2
  have h3 : okS 2 W := h3
  have h6 : c < 4 := h6
  have h7 : m = 2 ∨ m = 3 → 1 ≤ s ∧ s ≤ 3 := h7
  have h8 : m = 3 → 1 ≤ v ∧ v ≤ 9 := h8
  have h9 : M.length + W.length + sl1 m ≤ i := h9
  have hop : ∀ W : List Nat, n4 W ≤ W.length := fun W => by
    induction W with
    | nil => exact Nat.le_refl _
    | cons x W ih => rw [n4_c, List.length_cons]; split <;> omega
  have hop' := hop W
  -- the flag of a call within is 0 or 1
  have bool : ∀ (r : Option PS) (z : Option (Int32 × Mem)), CT r I z → CT r I (z.bind fun q1 => if narrow .boolean (.int q1.1) = .int q1.1 then some (q1.1, q1.2) else none) := by
    intro r z hz
    cases r with
    | none =>
      obtain ⟨I', a1, a2⟩ := hz
      exact ⟨I', by rw [bs_b a1]; exact if_pos (show narrow .boolean (.int 0) = .int 0 from rfl), a2⟩
    | some q =>
      obtain ⟨I', a1, a2⟩ := hz
      exact ⟨I', by rw [bs_b a1]; exact if_pos (show narrow .boolean (.int 1) = .int 1 from rfl), a2⟩
  have fixR : ∀ (I1 : Mem) (k : Nat) (x : Int32) (st : List Int32) (a : Nat), PL I1 a st → a ≠ 19 → a + 1 ≠ 19 → PL (up I1 19 k x) a st := fun I1 k x st a h n1 n2 => h.cg (up_ne _ _ _ n1) (up_ne _ _ _ n2)
  show CT (stpF m op W M c s v ch) I (f_X4_takes (nI ch) P I)
  unfold stpF f_X4_takes
  rw [r1]
  by_cases m0 : m = 0
  · subst m0
    rw [if_pos rfl, if_pos (show nI 0 = 0 from rfl)]
    have h9 : M.length + W.length + 0 ≤ i := h9
    refine bool _ _ ?_
    have push : ∀ (x : Nat), ∃ I1, f_X3_push 22 (nI x) P I = some I1 ∧ ∀ (y : Int32) (o' : Nat), nI op + y = nI o' → CR (up I1 19 3 (I1 19 3 + y)) (0, o', x :: W, M, c, s, v) ∧ Eqx SP I (up I1 19 3 (I1 19 3 + y)) := by
      intro x
      obtain ⟨I1, q1, q2, q3⟩ := m_push (P := P) (x := nI x) r4 (by simp; omega)
      have i3 : I1 19 3 = nI op := by rw [q3 19 (by decide)]; exact r2
      refine ⟨I1, q1, fun y o' ho => ⟨⟨?_, ?_, fixR _ _ _ _ 20 (r3.eqx q3 (by decide) (by decide)) (by decide) (by decide), fixR _ _ _ _ 22 q2 (by decide) (by decide), fun h => ?_, fun h => ?_, fun h => ?_⟩, (q3.mono (by decide)).tr (Eqx.up (by decide))⟩⟩
      · rw [up_nk _ _ (by decide), q3 19 (by decide)]; exact r1
      · rw [up_eq, i3]; exact ho
      · have h : 0 = 1 ∨ 0 = 2 ∨ 0 = 3 := h; omega
      · have h : 0 = 2 ∨ 0 = 3 := h; omega
      · have h : 0 = 3 := h; omega
    unfold f_X4_takesFactor
    by_cases e1 : ch = 33
    · subst e1
      obtain ⟨I1, q1, q2⟩ := push 33
      obtain ⟨a, b⟩ := q2 0 op (nI_z op)
      rw [if_pos rfl, if_pos (show nI 33 = 33 from rfl), bs_b q1, if_neg (show ¬ nI 33 = 40 by decide)]
      exact ⟨_, rfl, a, b⟩
    · rw [if_neg e1, if_neg (show ¬ nI ch = 33 from k_chne hch (b := 33) (by decide) e1)]
      by_cases e2 : ch = 40
      · subst e2
        obtain ⟨I1, q1, q2⟩ := push 40
        obtain ⟨a, b⟩ := q2 1 (op + 1) (nI_1 op)
        rw [if_pos rfl, if_pos (show nI 40 = 40 from rfl), bs_b q1, if_pos (show nI 40 = 40 from rfl)]
        exact ⟨_, rfl, a, b⟩
      · rw [if_neg e2, if_neg (show ¬ nI ch = 40 from k_chne hch (b := 40) (by decide) e2), bs_b (k_isCol hch)]
        by_cases e3 : 97 ≤ ch ∧ ch ≤ 100
        · rw [if_pos e3, if_pos e3, if_neg (show ¬ (1 : Int32) = 0 by decide), show nI ch - 97 = nI (ch - 97) from pk_sub (b := 97) e3.1]
          refine ⟨_, rfl, ⟨up_eq _ _ _ _, ?_, fixR _ _ _ _ 20 (fixR _ _ _ _ 20 r3 (by decide) (by decide)) (by decide) (by decide), fixR _ _ _ _ 22 (fixR _ _ _ _ 22 r4 (by decide) (by decide)) (by decide) (by decide), fun h => ?_, fun h => ?_, fun h => ?_⟩, (Eqx.up (by decide)).tr (Eqx.up (by decide))⟩
          · rw [up_nk _ _ (by decide), up_nk _ _ (by decide)]; exact r2
          · rw [up_nk _ _ (by decide), up_eq]
          · have h : 1 = 2 ∨ 1 = 3 := h; omega
          · have h : 1 = 3 := h; omega
        · rw [if_neg e3, if_neg e3, if_pos (show (0 : Int32) = 0 from rfl)]
          exact ⟨I, rfl, Eqx.rf⟩
  rw [if_neg m0, if_neg (show ¬ nI m = 0 from k_chne (a := m) (b := 0) (by omega) (by decide) m0)]
  by_cases m1 : m = 1
  · subst m1
    rw [if_pos rfl, if_pos (show nI 1 = 1 from rfl)]
    have h9 : M.length + W.length + 1 ≤ i := h9
    have r5 := r5 (Or.inl rfl)
    refine bool _ _ ?_
    have sgn : ∀ (x s' : Nat), nI x = nI (sch s') → CR (up (up I 19 5 (nI x)) 19 2 2) (2, op, W, M, c, s', v) ∧ Eqx SP I (up (up I 19 5 (nI x)) 19 2 2) := by
      intro x s' hx
      refine ⟨⟨up_eq _ _ _ _, ?_, fixR _ _ _ _ 20 (fixR _ _ _ _ 20 r3 (by decide) (by decide)) (by decide) (by decide), fixR _ _ _ _ 22 (fixR _ _ _ _ 22 r4 (by decide) (by decide)) (by decide) (by decide), fun h => ?_, fun h => ?_, fun h => ?_⟩, (Eqx.up (by decide)).tr (Eqx.up (by decide))⟩
      · rw [up_nk _ _ (by decide), up_nk _ _ (by decide)]; exact r2
      · rw [up_nk _ _ (by decide), up_nk _ _ (by decide)]; exact r5
      · rw [up_nk _ _ (by decide), up_eq]; exact hx
      · have h : 2 = 3 := h; omega
    unfold f_X4_takesSign
    by_cases e1 : ch = 63
    · subst e1
      rw [if_pos rfl, if_pos (show nI 63 = 63 from rfl)]
      have ht : f_X7_test (nI 63) (I 19 4) 0 0 = some (enc (tcode c 0 0)) := by
        rw [r5]
        have := k_mk (c := c) (s := 0) (w := 0) (o := 0) h6 (by omega) (by omega) (by omega)
        exact this
      obtain ⟨I', q1, q2, q3⟩ := k_endTest (P := P) (c := c) (s := s) (v := v) (op := op) (W := W) (M := M) ht r2 r3 r4 (by omega)
      exact ⟨I', by rw [bs_b q1], q2, q3⟩
    · rw [if_neg e1, if_neg (show ¬ nI ch = 63 from k_chne hch (b := 63) (by decide) e1)]
      by_cases e2 : ch = 61
      · subst e2
        rw [if_pos rfl, if_pos (show nI 61 = 61 from rfl), if_pos (show narrow .char (.int (nI 61)) = .int (nI 61) from rfl)]
        obtain ⟨a, b⟩ := sgn 61 1 rfl
        exact ⟨_, rfl, a, b⟩
      · rw [if_neg e2, if_neg (show ¬ nI ch = 61 from k_chne hch (b := 61) (by decide) e2)]
        by_cases e3 : ch = 60
        · subst e3
          rw [if_pos rfl, if_pos (show nI 60 = 60 from rfl), if_pos (show narrow .char (.int (nI 60)) = .int (nI 60) from rfl)]
          obtain ⟨a, b⟩ := sgn 60 2 rfl
          exact ⟨_, rfl, a, b⟩
        · rw [if_neg e3, if_neg (show ¬ nI ch = 60 from k_chne hch (b := 60) (by decide) e3)]
          by_cases e4 : ch = 62
          · subst e4
            rw [if_pos rfl, if_pos (show nI 62 = 62 from rfl), if_pos (show narrow .char (.int (nI 62)) = .int (nI 62) from rfl)]
            obtain ⟨a, b⟩ := sgn 62 3 rfl
            exact ⟨_, rfl, a, b⟩
          · rw [if_neg e4, if_neg (show ¬ nI ch = 62 from k_chne hch (b := 62) (by decide) e4)]
            exact ⟨I, rfl, Eqx.rf⟩
  rw [if_neg m1, if_neg (show ¬ nI m = 1 from k_chne (a := m) (b := 1) (by omega) (by decide) m1)]
  by_cases m2 : m = 2
  · subst m2
    rw [if_pos rfl, if_pos (show nI 2 = 2 from rfl)]
    have h9 : M.length + W.length + 2 ≤ i := h9
    have r5 := r5 (Or.inr (Or.inl rfl))
    have r6 := r6 (Or.inl rfl)
    have h7 := h7 (Or.inl rfl)
    refine bool _ _ ?_
    unfold f_X4_takesOperand
    rw [bs_b (k_isCol hch)]
    by_cases e1 : 97 ≤ ch ∧ ch ≤ 100
    · rw [if_pos e1, if_pos e1, if_neg (show ¬ (1 : Int32) = 0 by decide), show nI ch - 97 = nI (ch - 97) from pk_sub (b := 97) e1.1]
      have ht : f_X7_test (I 19 5) (I 19 4) 1 (nI (ch - 97)) = some (enc (tcode c s (100 + (ch - 97)))) := by
        rw [r5, r6]
        have := k_mk (c := c) (s := s) (w := 1) (o := ch - 97) h6 (by omega) (by omega) (by omega)
        rw [Nat.mul_one] at this
        exact this
      obtain ⟨I', q1, q2, q3⟩ := k_endTest (P := P) (c := c) (s := s) (v := v) (op := op) (W := W) (M := M) ht r2 r3 r4 (by omega)
      exact ⟨I', by rw [bs_b q1], q2, q3⟩
    · rw [if_neg e1, if_neg e1, if_pos (show (0 : Int32) = 0 from rfl), bs_b (k_isDig hch)]
      by_cases e2 : 48 ≤ ch ∧ ch ≤ 57
      · rw [if_pos e2, if_pos e2, if_neg (show ¬ (1 : Int32) = 0 by decide), show nI ch - 48 = nI (ch - 48) from pk_sub (b := 48) e2.1]
        obtain ⟨J, hJ⟩ : ∃ J, J = up (up I 19 6 (nI (ch - 48))) 19 2 3 := ⟨_, rfl⟩
        have hJE : Eqx [19] I J := by rw [hJ]; exact (Eqx.up (by decide)).tr (Eqx.up (by decide))
        have j6 : J 19 6 = nI (ch - 48) := by rw [hJ, up_nk _ _ (by decide), up_eq]
        have j3 : J 19 3 = nI op := by rw [hJ, up_nk _ _ (by decide), up_nk _ _ (by decide)]; exact r2
        have j4 : J 19 4 = nI c := by rw [hJ, up_nk _ _ (by decide), up_nk _ _ (by decide)]; exact r5
        have j5 : J 19 5 = nI (sch s) := by rw [hJ, up_nk _ _ (by decide), up_nk _ _ (by decide)]; exact r6
        have j2 : J 19 2 = 3 := by rw [hJ, up_eq]
        have jM := r3.eqx hJE (by decide) (by decide)
        have jW := r4.eqx hJE (by decide) (by decide)
        rw [← hJ, j6]
        by_cases e3 : ch = 48
        · rw [if_pos e3, if_pos (show nI (ch - 48) = 0 by rw [e3]; rfl)]
          have ht : f_X7_test (J 19 5) (J 19 4) 0 (J 19 6) = some (enc (tcode c s 0)) := by
            rw [j4, j5, j6, e3]
            have := k_mk (c := c) (s := s) (w := 0) (o := 0) h6 (by omega) (by omega) (by omega)
            exact this
          obtain ⟨I', q1, q2, q3⟩ := k_endTest (P := P) (c := c) (s := s) (v := 0) ht j3 jM jW (by omega)
          refine ⟨I', ?_, q2, (hJE.mono (by decide)).tr q3⟩
          have hv : f_X4_endValue P J = some I' := by
            unfold f_X4_endValue
            rw [j2, if_pos (show (3 : Int32) = 3 from rfl), bs_b q1]
          rw [bs_b hv]
        · rw [if_neg e3, if_neg (nI_ne0 (show 0 < ch - 48 by omega) (by omega))]
          refine ⟨J, rfl, ⟨j2, j3, jM, jW, fun _ => j4, fun _ => j5, fun _ => j6⟩, hJE.mono (by decide)⟩
      · rw [if_neg e2, if_neg e2, if_pos (show (0 : Int32) = 0 from rfl)]
        exact ⟨I, rfl, Eqx.rf⟩
  rw [if_neg m2, if_neg (show ¬ nI m = 2 from k_chne (a := m) (b := 2) (by omega) (by decide) m2)]
  by_cases m3 : m = 3
  · subst m3
    rw [if_pos rfl, if_pos (show nI 3 = 3 from rfl)]
    have h9 : M.length + W.length + 3 ≤ i := h9
    have r5 := r5 (Or.inr (Or.inr rfl))
    have r6 := r6 (Or.inr rfl)
    have r7 := r7 rfl
    have h7 := h7 (Or.inr rfl)
    have h8 := h8 rfl
    refine bool _ _ ?_
    unfold f_X4_takesSecondDigit
    rw [bs_b (k_isDig hch)]
    by_cases e2 : 48 ≤ ch ∧ ch ≤ 57
    · rw [if_pos e2, if_pos e2, if_neg (show ¬ (1 : Int32) = 0 by decide), r7, show nI v * 10 + (nI ch - 48) = nI (v * 10 + (ch - 48)) by rw [show nI ch - 48 = nI (ch - 48) from pk_sub (b := 48) e2.1, show (10 : Int32) = nI 10 from rfl, pk_mul, nI_add]]
      obtain ⟨J, hJ⟩ : ∃ J, J = up I 19 6 (nI (v * 10 + (ch - 48))) := ⟨_, rfl⟩
      have hJE : Eqx [19] I J := by rw [hJ]; exact Eqx.up (by decide)
      have j6 : J 19 6 = nI (v * 10 + (ch - 48)) := by rw [hJ, up_eq]
      have j3 : J 19 3 = nI op := by rw [hJ, up_nk _ _ (by decide)]; exact r2
      have j4 : J 19 4 = nI c := by rw [hJ, up_nk _ _ (by decide)]; exact r5
      have j5 : J 19 5 = nI (sch s) := by rw [hJ, up_nk _ _ (by decide)]; exact r6
      have j2 : J 19 2 = 3 := by rw [hJ, up_nk _ _ (by decide)]; exact r1
      have jM := r3.eqx hJE (by decide) (by decide)
      have jW := r4.eqx hJE (by decide) (by decide)
      rw [← hJ]
      have ht : f_X7_test (J 19 5) (J 19 4) 0 (J 19 6) = some (enc (tcode c s (v * 10 + (ch - 48)))) := by
        rw [j4, j5, j6]
        have := k_mk (c := c) (s := s) (w := 0) (o := v * 10 + (ch - 48)) h6 (by omega) (by omega) (by omega)
        rw [Nat.mul_zero, Nat.zero_add] at this
        exact this
      obtain ⟨I', q1, q2, q3⟩ := k_endTest (P := P) (c := c) (s := s) (v := v * 10 + (ch - 48)) ht j3 jM jW (by omega)
      refine ⟨I', ?_, q2, (hJE.mono (by decide)).tr q3⟩
      have hv : f_X4_endValue P J = some I' := by
        unfold f_X4_endValue
        rw [j2, if_pos (show (3 : Int32) = 3 from rfl), bs_b q1]
      rw [bs_b hv]
    · rw [if_neg e2, if_neg e2, if_pos (show (0 : Int32) = 0 from rfl)]
      obtain ⟨I1, a1, a2, a3⟩ := k_endVal (P := P) hR0 hP0 (by omega)
      rw [show stl (3, op, W, M, c, s, v) = (4, op, W, tcode c s v :: M, c, s, v) from rfl] at a2
      have hj := k_joint (P := P) (ch := ch) a2 h3 h2 (by simp; omega) (by omega) hch
      rw [bs_b a1]
      cases hr : jnt ch op W (tcode c s v :: M) c s v with
      | none =>
        rw [hr] at hj
        obtain ⟨I', b1, b2⟩ := hj
        exact ⟨I', by rw [bs_b b1]; exact if_pos (show narrow .boolean (.int 0) = .int 0 from rfl), a3.tr b2⟩
      | some q =>
        rw [hr] at hj
        obtain ⟨I', b1, b2, b3⟩ := hj
        exact ⟨I', by rw [bs_b b1]; exact if_pos (show narrow .boolean (.int 1) = .int 1 from rfl), b2, a3.tr b3⟩
  rw [if_neg m3, if_neg (show ¬ nI m = 3 from k_chne (a := m) (b := 3) (by omega) (by decide) m3)]
  have m4 : m = 4 := by omega
  subst m4
  have h9 : M.length + W.length + 1 ≤ i := h9
  refine bool _ _ ?_
  exact k_joint hR0 h3 h2 (by omega) (by omega) hch
/-! a whole text -/
theorem k_read_L {P : Pool} {T : List Nat} {I0 : Mem} (hT : ∀ j x, T[j]? = some x → I0 9 j = nI x) (hc : ∀ x ∈ T, x < 1000) (hl : T.length ≤ 60) : ∀ (B C : List Nat) (p : PS) (I : Mem) (n : Nat), T = C ++ B → B.length < n → Eqx SP I0 I → CR I p → PV p C.length →
    ∃ q, f_X4_read_L26 9 (nI T.length) P n (nI C.length) I = some q ∧ (((run p B).1 < B.length ∧ ∃ I', q = .inl (nI (C.length + (run p B).1), I') ∧ Eqx SP I0 I') ∨ ((run p B).1 = B.length ∧ ∃ I', q = .inr I' ∧ Eqx SP I0 I' ∧ CR I' (run p B).2 ∧ PV (run p B).2 T.length))
  | [], C, p, I, n, hTC, hn, hE, hR, hP => by
    obtain ⟨n, rfl⟩ : ∃ m, n = m + 1 := ⟨n - 1, by omega⟩
    rw [List.append_nil] at hTC
    subst hTC
    refine ⟨.inr I, ?_, Or.inr ⟨rfl, I, rfl, hE, hR, hP⟩⟩
    unfold f_X4_read_L26
    rw [if_pos (nI_le (Nat.le_refl _) (by omega))]
  | ch :: B, C, p, I, n, hTC, hn, hE, hR, hP => by
    obtain ⟨n, rfl⟩ : ∃ m, n = m + 1 := ⟨n - 1, by omega⟩
    have hlen : T.length = C.length + B.length + 1 := by rw [hTC]; simp; omega
    have hget : T[C.length]? = some ch := by rw [hTC]; exact mid_at C B ch
    have hch : ch < 1000 := hc ch (by rw [hTC]; simp)
    have hn' : B.length + 1 < n + 1 := by simpa using hn
    have l9 : Ln P 9 = 60 := if_pos (by decide)
    have hk := k_takes (P := P) (ch := ch) hR hP (show C.length < 60 by omega) hch
    unfold f_X4_read_L26
    rw [if_neg (nI_ge (by omega) (by omega)), l9, if_neg (show ¬ Int32.ofNat 60 ≤ nI C.length from nI_ge (b := 60) (by omega) (by decide)), bs_b (rd_e C.length rfl (show C.length < 60 by omega) (by decide)), hE 9 (by decide), hT _ _ hget]
    cases hs : stp p ch with
    | none =>
      rw [hs] at hk
      obtain ⟨I', a1, a2⟩ := hk
      refine ⟨.inl (nI C.length, I'), ?_, Or.inl ⟨by rw [run_e hs]; simp, I', by rw [run_e hs]; rfl, hE.tr a2⟩⟩
      rw [bs_b a1]
      dsimp only
      rw [if_pos (show (0 : Int32) = 0 from rfl)]
    | some q =>
      rw [hs] at hk
      obtain ⟨I', a1, a2, a3⟩ := hk
      obtain ⟨z, b1, b2⟩ := k_read_L (P := P) hT hc hl B (C ++ [ch]) q I' n (by rw [hTC]; simp) (by omega) (hE.tr a3) a2 (by rw [List.length_append]; exact PV_stp hP hs)
      refine ⟨z, ?_, ?_⟩
      · rw [bs_b a1]
        dsimp only
        rw [if_neg (show ¬ (1 : Int32) = 0 by decide), nI_1]
        rw [show (C ++ [ch]).length = C.length + 1 by simp] at b1
        exact b1
      · rw [run_s hs]
        rcases b2 with ⟨c1, I2, c2, c3⟩ | ⟨c1, c2⟩
        · refine Or.inl ⟨by simp; omega, I2, ?_, c3⟩
          rw [c2, show (C ++ [ch]).length = C.length + 1 by simp]
          refine congrArg (fun z => Sum.inl (nI z, I2)) ?_
          show C.length + 1 + (run q B).1 = C.length + ((run q B).1 + 1)
          omega
        · exact Or.inr ⟨by simp; omega, c2⟩
theorem k_read {I : Mem} {P : Pool} {T : List Nat} (hB : bfC I T) (hc : ∀ x ∈ T, x < 1000) : ∃ I', f_X4_read 9 (I 0 6) P I = some (nI (run p0 T).1, I') ∧ Eqx SP I I' ∧ ((run p0 T).1 = T.length → CR I' (run p0 T).2 ∧ PV (run p0 T).2 T.length) := by
  obtain ⟨b1, b2, b3⟩ := hB
  obtain ⟨I1, e1, e2, e3⟩ := m_clear (I := I) (p := 20)
  obtain ⟨I2, f1, f2, f3⟩ := m_clear (I := I1) (p := 22)
  obtain ⟨J, hJ⟩ : ∃ J, J = up (up I2 19 2 0) 19 3 0 := ⟨_, rfl⟩
  have hJE : Eqx [19] I2 J := by rw [hJ]; exact (Eqx.up (by decide)).tr (Eqx.up (by decide))
  have hE : Eqx SP I J := ((e3.mono (by decide)).tr (f3.mono (by decide))).tr (hJE.mono (by decide))
  have hCR : CR J p0 := ⟨by rw [hJ, up_nk _ _ (by decide), up_eq]; rfl, by rw [hJ, up_eq]; rfl, (e2.eqx f3 (by decide) (by decide)).eqx hJE (by decide) (by decide), f2.eqx hJE (by decide) (by decide), fun h => by simp [p0] at h, fun h => by simp [p0] at h, fun h => by simp [p0] at h⟩
  obtain ⟨q, q1, q2⟩ := k_read_L (P := P) (I0 := J) (T := T) (fun j x hj => by rw [hE 9 (by decide)]; exact b3 j x hj) hc b2 T [] p0 J fuel rfl (by unfold fuel; omega) Eqx.rf hCR PV_0
  have hrun : f_X4_read 9 (I 0 6) P I = sm q (fun r => some r) (fun q6 => some (nI T.length, q6)) := by
    unfold f_X4_read
    rw [bs_b e1, bs_b f1, ← hJ, b1, bs_b (show f_X4_read_L26 9 (nI T.length) P fuel 0 J = some q from q1)]
  rcases q2 with ⟨c1, I', rfl, c3⟩ | ⟨c1, I', rfl, c3, c4, c5⟩
  · refine ⟨I', ?_, hE.tr c3, fun h => by omega⟩
    rw [hrun, sm_l, show ([] : List Nat).length + (run p0 T).1 = (run p0 T).1 from Nat.zero_add _]
  · refine ⟨I', ?_, hE.tr c3, fun _ => ⟨c4, c5⟩⟩
    rw [hrun, sm_r, c1]
theorem k_fin {I : Mem} {P : Pool} {p : PS} {i : Nat} (hR : CR I p) (hP : PV p i) (hi : i ≤ 60) : ∃ I', f_X4_finish P I = some (if (stl p).1 = 4 ∧ (stl p).2.1 = 0 then 1 else 0, I') ∧ Eqx SP I I' ∧ ((stl p).1 = 4 ∧ (stl p).2.1 = 0 → PL I' 20 ((rel 1 (stl p).2.2.1 (stl p).2.2.2.1).2.map enc)) := by
  obtain ⟨I1, a1, a2, a3⟩ := k_endVal (P := P) hR hP hi
  have hP2 := PV_stl hP
  rcases hq : stl p with ⟨m, op, W, M, c, s, v⟩
  rw [hq] at a2 hP2
  obtain ⟨r1, r2, r3, r4, -⟩ := a2
  obtain ⟨h1, h2, h3, h4, h5, h6, h7, h8, h9, h10⟩ := hP2
  have r1 : I1 19 2 = nI m := r1
  have r2 : I1 19 3 = nI op := r2
  have h1 : m ≤ 4 := h1
  have h2 : op = n4 W := h2
  have h9 : M.length + W.length + sl1 m ≤ i := h9
  have hop : ∀ W : List Nat, n4 W ≤ W.length := fun W => by
    induction W with
    | nil => exact Nat.le_refl _
    | cons x W ih => rw [n4_c, List.length_cons]; split <;> omega
  have hop' := hop W
  unfold f_X4_finish
  rw [bs_b a1, r1, r2]
  show ∃ I', _ = some (if m = 4 ∧ op = 0 then 1 else 0, I') ∧ Eqx SP I I' ∧ (m = 4 ∧ op = 0 → PL I' 20 ((rel 1 W M).2.map enc))
  by_cases e : m = 4
  · rw [if_pos (show nI m = 4 by rw [e]; rfl)]
    by_cases e2 : op = 0
    · obtain ⟨I2, p1, p2, p3, p4⟩ := k_rel (P := P) (l := 1) (by decide) (by decide) h3 (by omega) r3 r4
      refine ⟨I2, ?_, a3.tr (p4.mono (by decide)), fun _ => p2⟩
      rw [if_pos (show nI op ≤ 0 by rw [e2]; decide), if_pos ⟨e, e2⟩, bs_b (show f_X4_release 1 P I1 = some I2 from p1)]
    · refine ⟨I1, ?_, a3, fun h => absurd h.2 e2⟩
      rw [if_neg (show ¬ nI op ≤ 0 from nI_ge (a := 0) (by omega) (by omega)), if_neg (fun h => e2 h.2)]
  · refine ⟨I1, ?_, a3, fun h => absurd h.1 e⟩
    rw [if_neg (show ¬ nI m = 4 from k_chne (b := 4) (by omega) (by decide) e), if_neg (fun h => e h.1)]
end MB25
