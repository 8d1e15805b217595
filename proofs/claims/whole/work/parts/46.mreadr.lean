/-! PURE PART 27: the reference reads filter texts. -/
section MB26
abbrev SQ : List Nat := [70, 79, 80]
def FQ (I I' : Mem) : Prop := Eqx SQ I I' ∧ ∀ j, j ≠ 13 → j ≠ 14 → j ≠ 16 → j ≠ 17 → I' 70 j = I 70 j
theorem FQ.rf {I : Mem} : FQ I I := ⟨Eqx.rf, fun _ _ _ _ _ => rfl⟩
theorem FQ.tr {I I1 I2 : Mem} (h : FQ I I1) (h2 : FQ I1 I2) : FQ I I2 := ⟨h.1.tr h2.1, fun j a b c d => (h2.2 j a b c d).trans (h.2 j a b c d)⟩
theorem FQ.u70 {I : Mem} {k : Nat} {x : Int32} (hk : k = 13 ∨ k = 14 ∨ k = 16 ∨ k = 17) : FQ I (up I 70 k x) := ⟨Eqx.up (by decide), fun j a b c d => up_nk _ _ (by omega)⟩
theorem FQ.u79 {I : Mem} {a k : Nat} {x : Int32} (hk : a = 79 ∨ a = 80) : FQ I (up I a k x) := ⟨Eqx.up (by rcases hk with rfl | rfl <;> decide), fun j _ _ _ _ => by rw [up_ne _ _ _ (show 70 ≠ a by omega)]⟩
def PJ (I : Mem) (k p : Nat) (L : List Nat) : Prop := I 70 k = nI L.length ∧ PI (I p) (L.map nI)
/-- the text, the position, open parentheses, waiting signs and made parts (the newest first) -/
def RS (I : Mem) (B : List Nat) (i op : Nat) (W M : List Nat) : Prop := bfR I B ∧ I 70 14 = nI i ∧ I 70 17 = nI op ∧ PJ I 16 80 W ∧ PJ I 13 79 M
theorem RS.w70 {I : Mem} {B : List Nat} {i op i' op' : Nat} {W M W' M' : List Nat} {k : Nat} {x : Int32} (h : RS I B i op W M) (hk : k = 13 ∨ k = 14 ∨ k = 16 ∨ k = 17) (h14 : up I 70 k x 70 14 = nI i') (h17 : up I 70 k x 70 17 = nI op') (hW : up I 70 k x 70 16 = nI W'.length) (hW2 : PI (I 80) (W'.map nI)) (hM : up I 70 k x 70 13 = nI M'.length) (hM2 : PI (I 79) (M'.map nI)) : RS (up I 70 k x) B i' op' W' M' :=
  ⟨⟨by rw [up_nk _ _ (by omega)]; exact h.1.1, fun j y hj => by rw [up_ne _ _ _ (show 75 ≠ 70 by decide)]; exact h.1.2 j y hj⟩, h14, h17, ⟨hW, by rw [up_ne _ _ _ (show 80 ≠ 70 by decide)]; exact hW2⟩, ⟨hM, by rw [up_ne _ _ _ (show 79 ≠ 70 by decide)]; exact hM2⟩⟩
theorem RS.pos {I : Mem} {B : List Nat} {i op : Nat} {W M : List Nat} {i' : Nat} (h : RS I B i op W M) : RS (up I 70 14 (nI i')) B i' op W M :=
  h.w70 (by decide) (up_eq _ _ _ _) (by rw [up_nk _ _ (by decide)]; exact h.2.2.1) (by rw [up_nk _ _ (by decide)]; exact h.2.2.2.1.1) h.2.2.2.1.2 (by rw [up_nk _ _ (by decide)]; exact h.2.2.2.2.1) h.2.2.2.2.2
theorem RS.opn {I : Mem} {B : List Nat} {i op : Nat} {W M : List Nat} {op' : Nat} (h : RS I B i op W M) : RS (up I 70 17 (nI op')) B i op' W M :=
  h.w70 (by decide) (by rw [up_nk _ _ (by decide)]; exact h.2.1) (up_eq _ _ _ _) (by rw [up_nk _ _ (by decide)]; exact h.2.2.2.1.1) h.2.2.2.1.2 (by rw [up_nk _ _ (by decide)]; exact h.2.2.2.2.1) h.2.2.2.2.2
theorem RS.wai {I : Mem} {B : List Nat} {i op z : Nat} {W M : List Nat} (h : RS I B i op (z :: W) M) : up I 70 16 ((I 70 16) - 1) = up I 70 16 (nI W.length) ∧ RS (up I 70 16 (nI W.length)) B i op W M :=
  ⟨by rw [h.2.2.2.1.1, List.length_cons, nI_pred], h.w70 (by decide) (by rw [up_nk _ _ (by decide)]; exact h.2.1) (by rw [up_nk _ _ (by decide)]; exact h.2.2.1) (up_eq _ _ _ _) h.2.2.2.1.2.2 (by rw [up_nk _ _ (by decide)]; exact h.2.2.2.2.1) h.2.2.2.2.2⟩
theorem r_mk {I : Mem} {B : List Nat} {i op t : Nat} {W M : List Nat} (h : RS I B i op W M) (hl : M.length < 60) : ∃ I', f_X9_makes (nI t) I = some I' ∧ RS I' B i op W (t :: M) ∧ FQ I I' := by
  obtain ⟨h1, h2, h3, ⟨h4, h5⟩, ⟨h6, h7⟩⟩ := h
  have hs : RS (up I 79 M.length (nI t)) B i op W M ∨ True := Or.inr trivial
  have e70 : up I 79 M.length (nI t) 70 = I 70 := up_ne _ _ _ (by decide)
  refine ⟨up (up I 79 M.length (nI t)) 70 13 (nI (M.length + 1)), ?_, ⟨⟨by rw [up_nk _ _ (by decide), e70]; exact h1.1, fun j y hj => by rw [up_ne _ _ _ (show 75 ≠ 70 by decide), up_ne _ _ _ (show 75 ≠ 79 by decide)]; exact h1.2 j y hj⟩, by rw [up_nk _ _ (by decide), e70]; exact h2, by rw [up_nk _ _ (by decide), e70]; exact h3, ⟨by rw [up_nk _ _ (by decide), e70]; exact h4, by rw [up_ne _ _ _ (show 80 ≠ 70 by decide), up_ne _ _ _ (show 80 ≠ 79 by decide)]; exact h5⟩, ⟨by rw [up_eq]; rfl, ?_⟩⟩, (FQ.u79 (Or.inl rfl)).tr (FQ.u70 (by decide))⟩
  · unfold f_X9_makes
    rw [bs_b (wr_e M.length h6 hl (by decide)), e70, h6, nI_1]
  · rw [up_ne _ _ _ (show 79 ≠ 70 by decide), up_self]
    have := PI_push (x := nI t) h7
    rw [List.length_map] at this
    exact this
theorem r_hold {I : Mem} {B : List Nat} {i op t : Nat} {W M : List Nat} (h : RS I B i op W M) (hl : W.length < 60) : ∃ I', f_X9_holdsBack (nI t) I = some I' ∧ RS I' B i op (t :: W) M ∧ FQ I I' := by
  obtain ⟨h1, h2, h3, ⟨h4, h5⟩, ⟨h6, h7⟩⟩ := h
  have e70 : up I 80 W.length (nI t) 70 = I 70 := up_ne _ _ _ (by decide)
  refine ⟨up (up I 80 W.length (nI t)) 70 16 (nI (W.length + 1)), ?_, ⟨⟨by rw [up_nk _ _ (by decide), e70]; exact h1.1, fun j y hj => by rw [up_ne _ _ _ (show 75 ≠ 70 by decide), up_ne _ _ _ (show 75 ≠ 80 by decide)]; exact h1.2 j y hj⟩, by rw [up_nk _ _ (by decide), e70]; exact h2, by rw [up_nk _ _ (by decide), e70]; exact h3, ⟨by rw [up_eq]; rfl, ?_⟩, ⟨by rw [up_nk _ _ (by decide), e70]; exact h6, by rw [up_ne _ _ _ (show 79 ≠ 70 by decide), up_ne _ _ _ (show 79 ≠ 80 by decide)]; exact h7⟩⟩, (FQ.u79 (Or.inr rfl)).tr (FQ.u70 (by decide))⟩
  · unfold f_X9_holdsBack
    rw [bs_b (wr_e W.length h4 hl (by decide)), e70, h4, nI_1]
  · rw [up_ne _ _ _ (show 80 ≠ 70 by decide), up_self]
    have := PI_push (x := nI t) h5
    rw [List.length_map] at this
    exact this
/-! what stands at the position -/
abbrev BK (B : List Nat) : Prop := B.length ≤ 60 ∧ ∀ x ∈ B, x < 1000
theorem drop_c {B : List Nat} {i ch : Nat} {T : List Nat} (h : B.drop i = ch :: T) : B[i]? = some ch ∧ B.drop (i + 1) = T ∧ i < B.length ∧ ch ∈ B := by
  have hl : i < B.length := by
    by_cases e : i < B.length
    · exact e
    · rw [List.drop_eq_nil_of_le (by omega)] at h; exact absurd h (by simp)
  rw [List.drop_eq_getElem_cons hl] at h
  injection h with h1 h2
  exact ⟨by rw [List.getElem?_eq_getElem hl, h1], h2, hl, h1 ▸ List.getElem_mem hl⟩
theorem drop_z {B : List Nat} {i : Nat} (h : B.drop i = []) : B.length ≤ i := by
  have := congrArg List.length h
  simp at this
  omega
theorem r_rdc {I : Mem} {B : List Nat} {i op ch : Nat} {W M T : List Nat} (h : RS I B i op W M) (hB : BK B) (hT : B.drop i = ch :: T) : rd I 75 60 (I 70 14) = some (nI ch) := by
  have hd := drop_c hT
  have h60 := hB.1
  rw [rd_e i h.2.1 (by omega) (by decide), h.1.2 i ch hd.1]
theorem r_in3 {ch lo hi : Nat} (hc : ch < 1000) (h1 : lo < 1000) (h2 : hi < 1000) : f_X9_in (nI ch) (nI lo) (nI hi) = some (if lo ≤ ch ∧ ch ≤ hi then 1 else 0) := by
  unfold f_X9_in
  by_cases a : ch < lo
  · rw [if_pos (nI_lt a (by omega)), if_neg (by omega)]
  · rw [if_neg (nI_nlt (by omega) (by omega))]
    by_cases b : hi < ch
    · rw [if_pos (nI_lt b (by omega)), if_neg (by omega)]
    · rw [if_neg (nI_nlt (by omega) (by omega)), if_pos (by omega)]
theorem r_see_n {I : Mem} {B : List Nat} {i op : Nat} {W M : List Nat} {x y : Int32} (h : RS I B i op W M) (hB : BK B) (hi : i ≤ B.length) (hT : B.drop i = []) : f_X9_sees x y I = some 0 := by
  have hz := drop_z hT
  have h60 := hB.1
  unfold f_X9_sees
  rw [h.1.1, h.2.1, if_pos (nI_le hz (by omega))]
theorem r_see_c {I : Mem} {B : List Nat} {i op ch lo hi : Nat} {W M T : List Nat} (h : RS I B i op W M) (hB : BK B) (hT : B.drop i = ch :: T) (h1 : lo < 1000) (h2 : hi < 1000) : f_X9_sees (nI lo) (nI hi) I = some (if lo ≤ ch ∧ ch ≤ hi then 1 else 0) := by
  have hd := drop_c hT
  have hc := hB.2 ch hd.2.2.2
  have h60 := hB.1
  unfold f_X9_sees
  rw [if_neg (show ¬ I 70 6 ≤ I 70 14 by rw [h.1.1, h.2.1]; exact nI_ge hd.2.2.1 (by omega)), bs_b (r_rdc h hB hT), bs_b (r_in3 hc h1 h2)]
  by_cases e : lo ≤ ch ∧ ch ≤ hi
  · rw [if_pos e, if_neg (show ¬ (1 : Int32) = 0 by decide)]
  · rw [if_neg e, if_pos rfl]
theorem r_tk_y {I : Mem} {B : List Nat} {i op c : Nat} {W M T : List Nat} (h : RS I B i op W M) (hB : BK B) (hT : B.drop i = c :: T) : ∃ I', f_X9_takes (nI c) I = some (1, I') ∧ RS I' B (i + 1) op W M ∧ FQ I I' := by
  have hc := hB.2 c (drop_c hT).2.2.2
  refine ⟨up I 70 14 (nI (i + 1)), ?_, h.pos, FQ.u70 (by decide)⟩
  unfold f_X9_takes
  rw [bs_b (r_see_c h hB hT hc hc), if_pos (show c ≤ c ∧ c ≤ c by omega), if_neg (show ¬ (1 : Int32) = 0 by decide), if_pos (show narrow .boolean (.int 1) = .int 1 from rfl), h.2.1, nI_1]
theorem r_tk_n {I : Mem} {B : List Nat} {i op c : Nat} {W M : List Nat} (h : RS I B i op W M) (hB : BK B) (hi : i ≤ B.length) (hc : c < 1000) (hT : (B.drop i).head? ≠ some c) : ∃ I', f_X9_takes (nI c) I = some (0, I') ∧ RS I' B i op W M ∧ FQ I I' := by
  refine ⟨up I 70 14 (nI i), ?_, h.pos, FQ.u70 (by decide)⟩
  have hs : f_X9_sees (nI c) (nI c) I = some 0 := by
    cases hd : B.drop i with
    | nil => exact r_see_n h hB hi hd
    | cons ch T =>
      rw [r_see_c h hB hd hc hc, if_neg (fun e => hT (by rw [hd]; show some ch = some c; rw [show ch = c by omega]))]
  unfold f_X9_takes
  rw [bs_b hs, if_pos rfl, if_pos (show narrow .boolean (.int 0) = .int 0 from rfl), h.2.1, Int32.add_zero]
/-! waiting signs that are made -/
def pps (x y : Nat) : List Nat → List Nat → List Nat × List Nat
  | [], M => ([], M)
  | z :: W, M => if z = x then pps x y W (y :: M) else (z :: W, M)
theorem pps_c (x y z : Nat) (W M : List Nat) : pps x y (z :: W) M = if z = x then pps x y W (y :: M) else (z :: W, M) := rfl
theorem pps_len (x y : Nat) : ∀ (W M : List Nat), (pps x y W M).1.length + (pps x y W M).2.length = W.length + M.length
  | [], M => rfl
  | z :: W, M => by
    rw [pps_c]
    split
    · rw [pps_len x y W]; simp; omega
    · rfl
theorem pps_ok {x y : Nat} : ∀ (W M : List Nat), okS 2 W → okS 2 (pps x y W M).1
  | [], M, h => trivial
  | z :: W, M, h => by
    rw [pps_c]
    split
    · exact pps_ok W _ (okS_t h)
    · exact h
theorem nrm_ok {y : Nat} : ∀ (W M : List Nat), okS 2 W → okS 0 (pps 33 y W M).1
  | [], M, h => trivial
  | z :: W, M, h => by
    rw [pps_c]
    rcases h with ⟨a, b, c⟩ | ⟨a, b, c⟩ | ⟨a, c⟩ | ⟨a, c⟩
    · rw [if_pos a]; exact nrm_ok W _ c
    · rw [a, if_neg (by decide)]; exact Or.inr (Or.inl ⟨rfl, by decide, c⟩)
    · rw [a, if_neg (by decide)]; exact Or.inr (Or.inr (Or.inl ⟨rfl, c⟩))
    · rw [a, if_neg (by decide)]; exact Or.inr (Or.inr (Or.inr ⟨rfl, c⟩))
theorem nrm_rel {l : Nat} (hl : l ≤ 3) : ∀ (W M : List Nat), rel l (pps 33 0 W M).1 (pps 33 0 W M).2 = rel l W M
  | [], M => rfl
  | z :: W, M => by
    rw [pps_c]
    by_cases e : z = 33
    · rw [if_pos e, nrm_rel hl W (0 :: M), rel_c, e, if_neg (show ¬ str 33 < l from by rw [show str 33 = 3 from rfl]; omega)]
      rfl
    · rw [if_neg e]
theorem rel2_pps : ∀ (W M : List Nat), okS 0 W → rel 2 W M = pps 38 1 W M
  | [], M, h => rfl
  | z :: W, M, h => by
    rw [pps_c, rel_c]
    rcases h with ⟨a, b, c⟩ | ⟨a, b, c⟩ | ⟨a, c⟩ | ⟨a, c⟩
    · exact absurd b (by decide)
    · subst a
      rw [if_neg (by decide), if_pos rfl]
      exact rel2_pps W _ c
    · rw [a, if_pos (by decide), if_neg (by decide)]
    · rw [a, if_pos (by decide), if_neg (by decide)]
theorem rel1_pps1 : ∀ (W M : List Nat), okS 1 W → rel 1 W M = pps 124 2 W M
  | [], M, h => rfl
  | z :: W, M, h => by
    rw [pps_c, rel_c]
    rcases h with ⟨a, b, c⟩ | ⟨a, b, c⟩ | ⟨a, c⟩ | ⟨a, c⟩
    · exact absurd b (by decide)
    · exact absurd rfl b
    · subst a
      rw [if_neg (by decide), if_pos rfl]
      exact rel1_pps1 W _ c
    · rw [a, if_pos (by decide), if_neg (by decide)]
theorem rel1_pps : ∀ (W M : List Nat), okS 0 W → rel 1 W M = pps 124 2 (pps 38 1 W M).1 (pps 38 1 W M).2
  | [], M, h => rfl
  | z :: W, M, h => by
    rw [pps_c, rel_c]
    have h' := h
    rcases h with ⟨a, b, c⟩ | ⟨a, b, c⟩ | ⟨a, c⟩ | ⟨a, c⟩
    · exact absurd b (by decide)
    · subst a
      rw [if_neg (by decide), if_pos rfl]
      exact rel1_pps W _ c
    · subst a
      rw [if_neg (show ¬ 124 = 38 by decide), ← rel_c]
      exact rel1_pps1 _ _ (Or.inr (Or.inr (Or.inl ⟨rfl, c⟩)))
    · subst a
      rw [if_neg (show ¬ 40 = 38 by decide), ← rel_c]
      exact rel1_pps1 _ _ (Or.inr (Or.inr (Or.inr ⟨rfl, c⟩)))
theorem r_wait_n {I : Mem} {B : List Nat} {i op : Nat} {M : List Nat} {x : Int32} (h : RS I B i op [] M) : f_X9_isWaiting x I = some 0 := by
  unfold f_X9_isWaiting
  rw [h.2.2.2.1.1, if_pos (by decide)]
theorem r_wait_c {I : Mem} {B : List Nat} {i op z x : Nat} {W M : List Nat} (h : RS I B i op (z :: W) M) (hl : W.length < 60) (hz : z < 1000) (hx : x < 1000) : f_X9_isWaiting (nI x) I = some (if z = x then 1 else 0) := by
  have hw : I 80 W.length = nI z := by
    have := h.2.2.2.1.2.1
    rw [List.length_map] at this
    exact this
  have h16 : I 70 16 = nI (W.length + 1) := h.2.2.2.1.1
  unfold f_X9_isWaiting
  rw [h16, if_neg (show ¬ nI (W.length + 1) ≤ 0 from nI_ge (a := 0) (by omega) (by omega)), nI_pred, bs_b (rd_e W.length rfl hl (by decide)), hw]
  by_cases e : z = x
  · rw [if_pos e, if_pos (by rw [e])]
  · rw [if_neg e, if_neg (k_chne hz hx e)]
theorem r_pops_L {x y : Nat} {B : List Nat} {i op : Nat} (hx : x < 1000) : ∀ (W M : List Nat) (I : Mem) (n : Nat), W.length < n → okS 2 W → W.length + M.length ≤ 60 → RS I B i op W M → ∃ I', f_X9_pops_L0 (nI x) (nI y) n I = some I' ∧ RS I' B i op (pps x y W M).1 (pps x y W M).2 ∧ FQ I I'
  | [], M, I, n, hn, hS, hl, h => by
    obtain ⟨n, rfl⟩ : ∃ m, n = m + 1 := ⟨n - 1, by omega⟩
    refine ⟨I, ?_, h, FQ.rf⟩
    unfold f_X9_pops_L0
    rw [bs_b (r_wait_n h), if_pos rfl]
  | z :: W, M, I, n, hn, hS, hl, h => by
    obtain ⟨n, rfl⟩ : ∃ m, n = m + 1 := ⟨n - 1, by omega⟩
    have hz := okS_x hS
    have hl' : W.length + 1 + M.length ≤ 60 := by simpa using hl
    have hn' : W.length + 1 < n + 1 := by simpa using hn
    rw [pps_c]
    unfold f_X9_pops_L0
    rw [bs_b (r_wait_c h (by omega) (by omega) hx)]
    by_cases e : z = x
    · rw [if_pos e, if_pos e, if_neg (show ¬ (1 : Int32) = 0 by decide), h.wai.1]
      obtain ⟨I1, a1, a2, a3⟩ := r_mk (t := y) h.wai.2 (by omega)
      obtain ⟨I2, b1, b2, b3⟩ := r_pops_L hx W (y :: M) I1 n (by omega) (okS_t hS) (by simp; omega) a2
      exact ⟨I2, by rw [bs_b a1]; exact b1, b2, ((FQ.u70 (by decide)).tr a3).tr b3⟩
    · rw [if_neg e, if_neg e, if_pos rfl]
      exact ⟨I, rfl, h, FQ.rf⟩
theorem r_pops {x y : Nat} {B : List Nat} {i op : Nat} {W M : List Nat} {I : Mem} (hx : x < 1000) (hS : okS 2 W) (hl : W.length + M.length ≤ 60) (h : RS I B i op W M) : ∃ I', f_X9_pops (nI x) (nI y) I = some I' ∧ RS I' B i op (pps x y W M).1 (pps x y W M).2 ∧ FQ I I' := by
  obtain ⟨I', e1, e2⟩ := r_pops_L (y := y) hx W M I fuel (by unfold fuel; omega) hS hl h
  exact ⟨I', by unfold f_X9_pops; rw [bs_b e1], e2⟩
theorem ends_pops : ∀ (n : Nat) (I : Mem), f_X9_ends_L0 n I = f_X9_pops_L0 33 0 n I
  | 0, I => rfl
  | n + 1, I => by
    unfold f_X9_ends_L0 f_X9_pops_L0
    refine congrArg (Option.bind _) (funext fun q => ?_)
    by_cases e : q = 0
    · rw [if_pos e, if_pos e]
    · rw [if_neg e, if_neg e]
      exact congrArg (Option.bind _) (funext fun q2 => ends_pops n q2)
theorem r_ends {B : List Nat} {i op : Nat} {W M : List Nat} {I : Mem} (hS : okS 2 W) (hl : W.length + M.length ≤ 60) (h : RS I B i op W M) : ∃ I', f_X9_ends I = some I' ∧ RS I' B i op (pps 33 0 W M).1 (pps 33 0 W M).2 ∧ FQ I I' := by
  obtain ⟨I', e1, e2⟩ := r_pops_L (x := 33) (y := 0) (by decide) W M I fuel (by unfold fuel; omega) hS hl h
  exact ⟨I', by unfold f_X9_ends; rw [ends_pops, bs_b (show f_X9_pops_L0 33 0 fuel I = some I' from e1)], e2⟩
/-! where the reading ends, and in which state -/
def EN (B : List Nat) (p : PS) (i : Nat) : Nat × PS := (i + (run p (B.drop i)).1, stl (run p (B.drop i)).2)
theorem EN_s {B : List Nat} {p q : PS} {i ch : Nat} {T : List Nat} (hT : B.drop i = ch :: T) (h : stp p ch = some q) : EN B p i = EN B q (i + 1) := by
  unfold EN
  rw [hT, run_s h, (drop_c hT).2.1]
  simp only [Prod.mk.injEq, and_true]
  omega
theorem EN_e {B : List Nat} {p : PS} {i ch : Nat} {T : List Nat} (hT : B.drop i = ch :: T) (h : stp p ch = none) : EN B p i = (i, stl p) := by
  unfold EN
  rw [hT, run_e h]
  rfl
theorem EN_n {B : List Nat} {p : PS} {i : Nat} (hT : B.drop i = []) : EN B p i = (i, stl p) := by
  unfold EN
  rw [hT, run_n]
  rfl
theorem EN_3 {B : List Nat} {op c s v i : Nat} {W M : List Nat} (hT : ∀ ch T, B.drop i = ch :: T → ¬ (48 ≤ ch ∧ ch ≤ 57)) : EN B (3, op, W, M, c, s, v) i = EN B (4, op, W, tcode c s v :: M, c, s, v) i := by
  cases hd : B.drop i with
  | nil => rw [EN_n hd, EN_n hd]; rfl
  | cons ch T =>
    have hs : stp (3, op, W, M, c, s, v) ch = stp (4, op, W, tcode c s v :: M, c, s, v) ch := by
      show stpF 3 op W M c s v ch = stpF 4 op W (tcode c s v :: M) c s v ch
      unfold stpF
      rw [if_neg (by decide), if_neg (by decide), if_neg (by decide), if_pos rfl, if_neg (hT ch T hd), if_neg (by decide), if_neg (by decide), if_neg (by decide), if_neg (by decide)]
    cases h : stp (4, op, W, tcode c s v :: M, c, s, v) ch with
    | none => rw [EN_e hd (hs.trans h), EN_e hd h]; rfl
    | some q => rw [EN_s hd (hs.trans h), EN_s hd h]
end MB26
