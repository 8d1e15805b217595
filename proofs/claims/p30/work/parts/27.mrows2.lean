/-! PURE PART 8: bit sets; rows. -/
section MB7
def okp (n r : Nat) (p : Int32 × Int32) (v : Int32) : Prop := if r < n then hb p.1 r = decide (v = 2) ∧ hb p.2 r = decide (v = 0) ∧ (v = 0 ∨ v = 1 ∨ v = 2) else hb p.1 r = false ∧ hb p.2 r = false
def brel (n r : Nat) : List (Int32 × Int32) → List Int32 → Prop
  | [], [] => True
  | p :: st, v :: sv => okp n r p v ∧ brel n r st sv
  | _, _ => False
def ngP (p : Int32 × Int32) : Int32 × Int32 := (p.2, p.1)
def anP (x y : Int32 × Int32) : Int32 × Int32 := (x.1 &&& y.1, x.2 ||| y.2)
def ooP (x y : Int32 × Int32) : Int32 × Int32 := (x.1 ||| y.1, x.2 &&& y.2)
theorem okp_ng {n r : Nat} {p : Int32 × Int32} {v : Int32} (h : okp n r p v) : okp n r (ngP p) (2 - v) := by
  unfold okp ngP at *
  by_cases hr : r < n
  · rw [if_pos hr] at h ⊢
    obtain ⟨h1, h2, h3⟩ := h
    rcases h3 with rfl | rfl | rfl
    · exact ⟨by rw [h2]; decide, by rw [h1]; decide, by decide⟩
    · exact ⟨by rw [h2]; decide, by rw [h1]; decide, by decide⟩
    · exact ⟨by rw [h2]; decide, by rw [h1]; decide, by decide⟩
  · rw [if_neg hr] at h ⊢
    exact ⟨h.2, h.1⟩
theorem okp_an {n r : Nat} {p q : Int32 × Int32} {v w : Int32} (hr32 : r < 32) (h : okp n r p v) (g : okp n r q w) : okp n r (anP p q) (anI v w) := by
  unfold okp anP at *
  by_cases hr : r < n
  · rw [if_pos hr] at h g ⊢
    obtain ⟨h1, h2, h3⟩ := h
    obtain ⟨g1, g2, g3⟩ := g
    rw [hb_and _ _ hr32, hb_or _ _ hr32, h1, h2, g1, g2]
    rcases h3 with rfl | rfl | rfl <;> rcases g3 with rfl | rfl | rfl <;> decide
  · rw [if_neg hr] at h g ⊢
    rw [hb_and _ _ hr32, hb_or _ _ hr32, h.1, h.2, g.1, g.2]
    decide
theorem okp_oo {n r : Nat} {p q : Int32 × Int32} {v w : Int32} (hr32 : r < 32) (h : okp n r p v) (g : okp n r q w) : okp n r (ooP p q) (orI v w) := by
  unfold okp ooP at *
  by_cases hr : r < n
  · rw [if_pos hr] at h g ⊢
    obtain ⟨h1, h2, h3⟩ := h
    obtain ⟨g1, g2, g3⟩ := g
    rw [hb_and _ _ hr32, hb_or _ _ hr32, h1, h2, g1, g2]
    rcases h3 with rfl | rfl | rfl <;> rcases g3 with rfl | rfl | rfl <;> decide
  · rw [if_neg hr] at h g ⊢
    rw [hb_and _ _ hr32, hb_or _ _ hr32, h.1, h.2, g.1, g.2]
    decide
theorem brel_run {n r : Nat} {ttP : Nat → Int32 × Int32} {tt : Nat → Int32} (hr32 : r < 32) : ∀ (L : List Nat) (st : List (Int32 × Int32)) (sv : List Int32), (∀ t ∈ L, 3 ≤ t → okp n r (ttP t) (tt t)) → wd L st.length → brel n r st sv → brel n r (rsG ttP ngP anP ooP L st) (rsG tt (fun x => 2 - x) anI orI L sv)
  | [], st, sv, _, _, h => h
  | t :: L, st, sv, ht, hw, h => by
    unfold rsG
    have ht' : ∀ u ∈ L, 3 ≤ u → okp n r (ttP u) (tt u) := fun u hu => ht u (by simp [hu])
    by_cases h3 : 3 ≤ t
    · rw [rs1_t _ _ _ _ h3, rs1_t _ _ _ _ h3]
      exact brel_run hr32 L _ _ ht' (wd_t h3 hw) ⟨ht t (by simp) h3, h⟩
    · rcases (show t = 0 ∨ t = 1 ∨ t = 2 by omega) with rfl | rfl | rfl
      · obtain ⟨h1, h2⟩ := wd_0 hw
        obtain ⟨p, s, rfl⟩ := len1 h1
        match sv, h with
        | v :: sv, h => exact brel_run hr32 L (ngP p :: s) ((2 - v) :: sv) ht' h2 ⟨okp_ng h.1, h.2⟩
      · obtain ⟨h1, h2⟩ := wd_1 hw
        obtain ⟨q, p, s, rfl⟩ := len2 h1
        match sv, h with
        | w :: v :: sv, h => exact brel_run hr32 L (anP p q :: s) (anI v w :: sv) ht' h2 ⟨okp_an hr32 h.2.1 h.1, h.2.2⟩
      · obtain ⟨h1, h2⟩ := wd_2 hw
        obtain ⟨q, p, s, rfl⟩ := len2 h1
        match sv, h with
        | w :: v :: sv, h => exact brel_run hr32 L (ooP p q :: s) (orI v w :: sv) ht' h2 ⟨okp_oo hr32 h.2.1 h.1, h.2.2⟩
theorem tst3 (row : Nat → Int32) (unk : Nat → Bool) (t : Nat) : tst row unk t = 0 ∨ tst row unk t = 1 ∨ tst row unk t = 2 := by
  unfold tst cmpv
  split
  · split <;> simp
  · generalize row (cC t) = a
    generalize (if cO t < 100 then nI (cO t) else row (cO t - 100)) = b
    by_cases h1 : a = -1 <;> by_cases h2 : b = -1 <;> by_cases h3 : cS t = 1 <;> by_cases h4 : cS t = 2 <;> by_cases h5 : a = b <;> by_cases h6 : b ≤ a <;> by_cases h7 : a ≤ b <;> simp [h1, h2, h3, h4, h5, h6, h7]
/-- a test's truth value for a row of a table -/
def tsA (A : Abs) (t r u : Nat) : Int32 := tst (A.2.1 t r) (fun c => decide (A.2.1 t r c = -1)) u
def ttP (A : Abs) (t n : Nat) (u : Nat) : Int32 × Int32 := (msk (fun r => decide (tsA A t r u = 2)) n, msk (fun r => decide (tsA A t r u = 0)) n)
theorem ttP_ok {A : Abs} {t n r : Nat} (hn : n ≤ 16) (hr : r < 32) (u : Nat) : okp n r (ttP A t n u) (tsA A t r u) := by
  unfold okp ttP
  rw [hb_msk (by omega) hr, hb_msk (by omega) hr]
  by_cases h : r < n
  · rw [if_pos h]
    exact ⟨by simp [h], by simp [h], tst3 _ _ _⟩
  · rw [if_neg h]
    simp [h]
def bsP (A : Abs) (t n : Nat) (L : List Nat) (st : List (Int32 × Int32)) : List (Int32 × Int32) := rsG (ttP A t n) ngP anP ooP L st
theorem eq_hb {x y : Int32} (h : ∀ i, i < 32 → hb x i = hb y i) : x = y := b_ext (fun i hi => by rw [← hb_bt _ hi, ← hb_bt _ hi]; exact h i hi)
theorem bs_end {A : Abs} {t n : Nat} {L : List Nat} (hn : n ≤ 16) (hV : fV L) : ∃ p : Int32 × Int32, bsP A t n L [] = [p] ∧ (∀ r, r < 32 → okp n r p (tvA A t r L)) := by
  have hl := rsG_len (tt := ttP A t n) (ng := ngP) (an := anP) (oo := ooP) L [] hV.2.1
  obtain ⟨p, hp⟩ := List.length_eq_one_iff.mp hl
  · refine ⟨p, hp, fun r hr => ?_⟩
    have h := brel_run (n := n) (r := r) (tt := fun u => tsA A t r u) (ttP := ttP A t n) hr L [] [] (fun u _ _ => ttP_ok hn hr u) hV.2.1 trivial
    have h1 := rsG_len (tt := fun u => tsA A t r u) (ng := fun x => 2 - x) (an := anI) (oo := orI) L [] hV.2.1
    have h2 : rsG (fun u => tsA A t r u) (fun x => 2 - x) anI orI L [] = [tvA A t r L] := by
      have := one_head h1
      exact this
    rw [h2] at h
    rw [show rsG (ttP A t n) ngP anP ooP L [] = [p] from hp] at h
    exact h.1
theorem bs_true {A : Abs} {t n : Nat} {L : List Nat} {p : Int32 × Int32} (hn : n ≤ 16) (hp : ∀ r, r < 32 → okp n r p (tvA A t r L)) : p.1 = tmask A t L 2 n ∧ p.2 = tmask A t L 0 n := by
  constructor
  · apply eq_hb
    intro i hi
    have h := hp i hi
    unfold okp at h
    unfold tmask
    rw [hb_msk (by omega) hi]
    by_cases hr : i < n
    · rw [if_pos hr] at h; rw [h.1]; simp [hr]
    · rw [if_neg hr] at h; rw [h.1]; simp [hr]
  · apply eq_hb
    intro i hi
    have h := hp i hi
    unfold okp at h
    unfold tmask
    rw [hb_msk (by omega) hi]
    by_cases hr : i < n
    · rw [if_pos hr] at h; rw [h.2.1]; simp [hr]
    · rw [if_neg hr] at h; rw [h.2]; simp [hr]
theorem low_bits : ∀ n, n < 17 → ∀ i, i < 32 → hb (((1 : Int32) <<< (nI n &&& 31)) - 1) i = decide (i < n) := by decide +kernel
theorem hb_not (x : Int32) {i : Nat} (hi : i < 32) : hb (x ^^^ (-1)) i = !hb x i := by
  rw [hb_bt _ hi, hb_bt _ hi, b_xor, b_m1 i hi]
  simp
theorem bs_unk {A : Abs} {t n : Nat} {L : List Nat} {p : Int32 × Int32} (hn : n ≤ 16) (hp : ∀ r, r < 32 → okp n r p (tvA A t r L)) : ((((1 : Int32) <<< (nI n &&& 31)) - 1) &&& ((p.1 ||| p.2) ^^^ (-1))) = tmask A t L 1 n := by
  apply eq_hb
  intro i hi
  have h := hp i hi
  unfold okp at h
  unfold tmask
  rw [hb_msk (by omega) hi, hb_and _ _ hi, low_bits n (by omega) i hi, hb_not _ hi, hb_or _ _ hi]
  by_cases hr : i < n
  · rw [if_pos hr] at h
    rw [h.1, h.2.1]
    rcases h.2.2 with e | e | e <;> rw [e] <;> simp [hr]
  · simp [hr]
/-! the class's walk -/
def P2 (I : Mem) (st : List (Int32 × Int32)) : Prop := PL I 12 (st.map Prod.fst) ∧ PL I 14 (st.map Prod.snd)
theorem k_pushSets {I : Mem} {P : Pool} {x y : Int32} {st : List (Int32 × Int32)} (h : P2 I st) (hl : st.length < 64) : ∃ I', f_X1_pushSets x y P I = some I' ∧ P2 I' ((x, y) :: st) ∧ Eqx [12, 13, 14, 15] I I' := by
  obtain ⟨I1, e1, e2, e3⟩ := m_push (x := x) (P := P) h.1 (by simpa using hl)
  obtain ⟨I2, f1, f2, f3⟩ := m_push (x := y) (P := P) (h.2.eqx e3 (by decide) (by decide)) (by simpa using hl)
  refine ⟨I2, ?_, ⟨e2.eqx f3 (by decide) (by decide), f2⟩, (e3.mono (by decide)).tr (f3.mono (by decide))⟩
  unfold f_X1_pushSets
  rw [e1]
  simp only [Option.bind_some, f1]
theorem k_pops {I : Mem} {x : Int32 × Int32} {st : List (Int32 × Int32)} (h : P2 I (x :: st)) (hl : st.length < 64) : ∃ I1 I', f_X3_pop 12 I = some (x.1, I1) ∧ f_X3_pop 14 I1 = some (x.2, I') ∧ P2 I' st ∧ Eqx [12, 13, 14, 15] I I' := by
  obtain ⟨I1, e1, e2, e3⟩ := m_pop (p := 12) (x := x.1) (st := st.map Prod.fst) h.1 (by simpa using hl)
  obtain ⟨I2, f1, f2, f3⟩ := m_pop (p := 14) (x := x.2) (st := st.map Prod.snd) (h.2.eqx e3 (by decide) (by decide)) (by simpa using hl)
  exact ⟨I1, I2, e1, f1, ⟨e2.eqx f3 (by decide) (by decide), f2⟩, (e3.mono (by decide)).tr (f3.mono (by decide))⟩
theorem k_joinSets {I : Mem} {P : Pool} {t : Nat} {st : List (Int32 × Int32)} (ht : t < 3) (h : P2 I st) (hl : st.length ≤ 60) (h1 : 1 ≤ st.length) (h2 : 0 < t → 2 ≤ st.length) : ∃ I', f_X1_joinSets (nI (sgnN t)) P I = some I' ∧ P2 I' (rs1 (fun _ => (0, 0)) ngP anP ooP t st) ∧ Eqx [12, 13, 14, 15] I I' := by
  rcases (show t = 0 ∨ t = 1 ∨ t = 2 by omega) with rfl | rfl | rfl
  · obtain ⟨x, s, rfl⟩ := len1 h1
    simp only [List.length_cons] at hl
    obtain ⟨I1, I2, e1, e2, e3, e4⟩ := k_pops h (by omega)
    obtain ⟨I3, g1, g2, g3⟩ := k_pushSets (x := x.2) (y := x.1) (P := P) e3 (by omega)
    refine ⟨I3, ?_, g2, e4.tr g3⟩
    unfold f_X1_joinSets
    rw [e1]
    simp only [Option.bind_some, e2]
    rw [if_pos (show nI (sgnN 0) = 33 from rfl), g1]
    rfl
  · obtain ⟨y, x, s, rfl⟩ := len2 (h2 (by decide))
    simp only [List.length_cons] at hl
    obtain ⟨I1, I2, e1, e2, e3, e4⟩ := k_pops h (by simp; omega)
    obtain ⟨I3, I4, f1, f2, f3, f4⟩ := k_pops e3 (by omega)
    obtain ⟨I5, g1, g2, g3⟩ := k_pushSets (x := x.1 &&& y.1) (y := x.2 ||| y.2) (P := P) f3 (by omega)
    refine ⟨I5, ?_, g2, (e4.tr f4).tr g3⟩
    unfold f_X1_joinSets
    rw [e1]
    simp only [Option.bind_some, e2]
    rw [if_neg (show ¬ nI (sgnN 1) = 33 by decide), if_pos (show nI (sgnN 1) = 38 from rfl), f1]
    simp only [Option.bind_some, f2]
    rw [g1]
    rfl
  · obtain ⟨y, x, s, rfl⟩ := len2 (h2 (by decide))
    simp only [List.length_cons] at hl
    obtain ⟨I1, I2, e1, e2, e3, e4⟩ := k_pops h (by simp; omega)
    obtain ⟨I3, I4, f1, f2, f3, f4⟩ := k_pops e3 (by omega)
    obtain ⟨I5, g1, g2, g3⟩ := k_pushSets (x := x.1 ||| y.1) (y := x.2 &&& y.2) (P := P) f3 (by omega)
    refine ⟨I5, ?_, g2, (e4.tr f4).tr g3⟩
    unfold f_X1_joinSets
    rw [e1]
    simp only [Option.bind_some, e2]
    rw [if_neg (show ¬ nI (sgnN 2) = 33 by decide), if_neg (show ¬ nI (sgnN 2) = 38 by decide), f1]
    simp only [Option.bind_some, f2]
    rw [g1]
    rfl
theorem k_pts_L {R : Rem} {P : Pool} {A : Abs} {t u : Nat} (hA : AOk A) (ht : t < 2) (hu : vT u) : ∀ (d r n : Nat) (I : Mem), r + d = A.1 t → d < n → CSt I R P 1 A →
    ∃ I', f_X8_pushTestSets_L8 (nI t) (enc u) P n (msk (fun r => decide (tsA A t r u = 2)) r) (msk (fun r => decide (tsA A t r u = 0)) r) (nI r) I = some ((ttP A t (A.1 t) u).1, (ttP A t (A.1 t) u).2, I') ∧ Eqx [10] I I'
  | 0, r, n, I, hr, hn, hS => by
    obtain ⟨n, rfl⟩ : ∃ m, n = m + 1 := ⟨n - 1, by omega⟩
    have e : r = A.1 t := by omega
    subst e
    have := hA.1 t ht
    refine ⟨I, ?_, Eqx.rf⟩
    unfold f_X8_pushTestSets_L8
    rw [k_cnt hS ht]
    simp only [Option.bind_some]
    rw [if_pos (nI_le (Nat.le_refl _) (by omega))]
    rfl
  | d + 1, r, n, I, hr, hn, hS => by
    obtain ⟨n, rfl⟩ : ∃ m, n = m + 1 := ⟨n - 1, by omega⟩
    have hn16 := hA.1 t ht
    obtain ⟨I1, e1, e2, e3⟩ := k_loadRow hS hA ht (show r < A.1 t by omega)
    obtain ⟨I2, f1, f2⟩ := k_pts_L hA ht hu d (r + 1) n I1 (by omega) (by omega) (hS.eqx e2 (by decide) (by decide) (by decide) (by decide))
    refine ⟨I2, ?_, e2.tr f2⟩
    have ev : tst (I1 10) (hb (msk (fun j => decide (I1 10 j = -1)) 4)) u = tsA A t r u := tst_cg hu e3 (fun c hc => by rw [hb_m4 hc, e3 c hc])
    unfold msk at f1
    unfold f_X8_pushTestSets_L8
    rw [k_cnt hS ht]
    simp only [Option.bind_some]
    rw [if_neg (nI_ge (by omega) (by omega)), e1]
    simp only [Option.bind_some]
    rw [k_unk ln10]
    simp only [Option.bind_some]
    rw [k_test hu ln10, ev]
    simp only [Option.bind_some]
    rw [nI_1]
    rcases tst3 (A.2.1 t r) (fun c => decide (A.2.1 t r c = -1)) u with e | e | e
    · rw [show tsA A t r u = 0 from e] at f1 ⊢
      simpa using f1
    · rw [show tsA A t r u = 1 from e] at f1 ⊢
      simpa using f1
    · rw [show tsA A t r u = 2 from e] at f1 ⊢
      simpa using f1
theorem k_pts {I : Mem} {R : Rem} {P : Pool} {A : Abs} {t u : Nat} {st : List (Int32 × Int32)} (hS : CSt I R P 1 A) (hA : AOk A) (ht : t < 2) (hu : vT u) (h : P2 I st) (hl : st.length < 64) : ∃ I', f_X8_pushTestSets (nI t) (enc u) P I = some I' ∧ P2 I' (ttP A t (A.1 t) u :: st) ∧ Eqx [10, 12, 13, 14, 15] I I' := by
  have := hA.1 t ht
  obtain ⟨I1, e1, e2⟩ := k_pts_L (R := R) (P := P) hA ht hu (A.1 t) 0 fuel I (by omega) (by unfold fuel; omega) hS
  obtain ⟨I2, f1, f2, f3⟩ := k_pushSets (x := (ttP A t (A.1 t) u).1) (y := (ttP A t (A.1 t) u).2) (P := P) (st := st) ⟨h.1.eqx e2 (by decide) (by decide), h.2.eqx e2 (by decide) (by decide)⟩ hl
  refine ⟨I2, ?_, f2, (e2.mono (by decide)).tr (f3.mono (by decide))⟩
  unfold f_X8_pushTestSets
  rw [show f_X8_pushTestSets_L8 (nI t) (enc u) P fuel 0 0 0 I = _ from e1]
  simp only [Option.bind_some, f1]
theorem k_isTest {t : Nat} (h : vC t) : f_X7_isTest (enc t) = some (if t < 3 then 0 else 1) := by
  unfold f_X7_isTest
  rw [k_sign h]
  simp only [Option.bind_some]
  by_cases ht : 3 ≤ t
  · obtain ⟨n1, n2, n3⟩ := sgn_ne (vC_t h ht)
    rw [if_neg n1, if_neg n2, if_neg n3, if_neg (by omega)]
  · rcases (show t = 0 ∨ t = 1 ∨ t = 2 by omega) with rfl | rfl | rfl <;> rfl
theorem k_bs_L {R : Rem} {P : Pool} {A : Abs} {t k : Nat} {x3 y4 : Int32} (hA : AOk A) (ht : t < 2) : ∀ (B C : List Nat) (st : List (Int32 × Int32)) (I : Mem) (n : Nat), CSt I R P 1 A → FObj I R P k (C ++ B) → (C ++ B).length ≤ 60 → B.length < n → P2 I st → st.length + B.length ≤ 60 → wd B st.length → (∀ t ∈ B, vC t) →
    ∃ I', f_X8_rowsByBitSets_L21 (nI t) (some k) x3 P y4 R n (nI C.length) I = some I' ∧ P2 I' (bsP A t (A.1 t) B st) ∧ Eqx [10, 12, 13, 14, 15] I I'
  | [], C, st, I, n, hS, hF, hL, hn, hP, hs, hw, hv => by
    obtain ⟨n, rfl⟩ : ∃ m, n = m + 1 := ⟨n - 1, by omega⟩
    refine ⟨I, ?_, hP, Eqx.rf⟩
    unfold f_X8_rowsByBitSets_L21
    simp only [Option.bind_some, k_size hF, List.append_nil]
    rw [if_pos (nI_le (Nat.le_refl _) (by simp at hL; omega))]
  | u :: B, C, st, I, n, hS, hF, hL, hn, hP, hs, hw, hv => by
    obtain ⟨n, rfl⟩ : ∃ m, n = m + 1 := ⟨n - 1, by omega⟩
    have hll : (C ++ u :: B).length = C.length + B.length + 1 := by simp; omega
    have hsl : st.length + B.length + 1 ≤ 60 := by simp at hs; omega
    have hv0 := hv u (by simp)
    have hF2 : C ++ u :: B = (C ++ [u]) ++ B := by simp
    have hnx : nI C.length + 1 = nI (C ++ [u]).length := by rw [nI_1]; simp
    have hll2 : (C ++ [u]).length + B.length ≤ 60 := by simp; omega
    unfold f_X8_rowsByBitSets_L21
    simp only [Option.bind_some, k_size hF]
    rw [if_neg (nI_ge (by omega) (by omega)), k_step hF (by omega) (mid_at C B u)]
    simp only [Option.bind_some, k_isTest hv0]
    have go : ∀ (st' : List (Int32 × Int32)) (I' : Mem), P2 I' st' → Eqx [10, 12, 13, 14, 15] I I' → st' = rs1 (ttP A t (A.1 t)) ngP anP ooP u st → st'.length + B.length ≤ 60 → wd B st'.length →
        ∃ I2, f_X8_rowsByBitSets_L21 (nI t) (some k) x3 P y4 R n (nI C.length + 1) I' = some I2 ∧ P2 I2 (bsP A t (A.1 t) (u :: B) st) ∧ Eqx [10, 12, 13, 14, 15] I I2 := by
      intro st' I' hP' hE hst hl hw'
      rw [hF2] at hF
      obtain ⟨I2, e1, e2, e3⟩ := k_bs_L hA ht B (C ++ [u]) st' I' n (hS.eqx hE (by decide) (by decide) (by decide) (by decide)) (hF.eqx hE (by decide)) (by rw [← hF2]; exact hL) (by simp at hn; omega) hP' hl hw' (fun t ht => hv t (by simp [ht]))
      rw [hnx]
      refine ⟨I2, e1, ?_, hE.tr e3⟩
      unfold bsP rsG
      rw [← hst]
      exact e2
    by_cases h3 : 3 ≤ u
    · rw [if_neg (show ¬ u < 3 by omega), if_neg (show ¬ (1 : Int32) = 0 by decide)]
      obtain ⟨I1, e1, e2, e3⟩ := k_pts hS hA ht (vC_t hv0 h3) hP (by omega)
      rw [e1]
      simp only [Option.bind_some]
      exact go _ I1 e2 e3 (rs1_t _ _ _ _ h3 _).symm (by simp; omega) (wd_t h3 hw)
    · rw [if_pos (show u < 3 by omega), if_pos (show (0 : Int32) = 0 from rfl), k_sign hv0]
      simp only [Option.bind_some]
      have h1 : 1 ≤ st.length ∧ (0 < u → 2 ≤ st.length) ∧ (rs1 (ttP A t (A.1 t)) ngP anP ooP u st).length + B.length ≤ 60 ∧ wd B (rs1 (ttP A t (A.1 t)) ngP anP ooP u st).length := by
        rcases (show u = 0 ∨ u = 1 ∨ u = 2 by omega) with rfl | rfl | rfl
        · obtain ⟨h1, h2⟩ := wd_0 hw
          obtain ⟨y, q, rfl⟩ := len1 h1
          refine ⟨h1, fun h => absurd h (by decide), ?_, h2⟩
          show (q.length + 1) + B.length ≤ 60
          simp at hsl; omega
        · obtain ⟨h1, h2⟩ := wd_1 hw
          obtain ⟨y, z, q, rfl⟩ := len2 h1
          refine ⟨by omega, fun _ => h1, ?_, h2⟩
          show (q.length + 1) + B.length ≤ 60
          simp at hsl; omega
        · obtain ⟨h1, h2⟩ := wd_2 hw
          obtain ⟨y, z, q, rfl⟩ := len2 h1
          refine ⟨by omega, fun _ => h1, ?_, h2⟩
          show (q.length + 1) + B.length ≤ 60
          simp at hsl; omega
      obtain ⟨I1, e1, e2, e3⟩ := k_joinSets (P := P) (show u < 3 by omega) hP (by omega) h1.1 h1.2.1
      rw [e1]
      simp only [Option.bind_some]
      rw [rs1_j _ (ttP A t (A.1 t)) _ _ _ (show u < 3 by omega)] at e2
      exact go _ I1 e2 (e3.mono (by decide)) rfl h1.2.2.1 h1.2.2.2
theorem k_byBits {I : Mem} {R : Rem} {P : Pool} {A : Abs} {t k v : Nat} {L : List Nat} (hS : CSt I R P 1 A) (hA : AOk A) (ht : t < 2) (hF : FObj I R P k L) (hV : fV L) (hv : v ≤ 2) : ∃ I', f_X8_rowsByBitSets (nI t) (some k) (nI v) P R I = some (tmask A t L (nI v) (A.1 t), I') ∧ Eqx [10, 12, 13, 14, 15] I I' := by
  have hn := hA.1 t ht
  have hl := hV.2.2.1
  obtain ⟨I1, e1, e2, e3, e4⟩ := k_start (I := I)
  obtain ⟨I2, f1, f2, f3⟩ := k_bs_L (x3 := nI v) (y4 := nI (A.1 t)) (k := k) (R := R) (P := P) hA ht L [] [] I1 fuel (hS.eqx e4 (by decide) (by decide) (by decide) (by decide)) (hF.eqx e4 (by decide)) (by simp; omega) (by unfold fuel; omega) ⟨e2, e3⟩ (by simp; omega) hV.2.1 hV.1
  obtain ⟨p, h1, h2⟩ := bs_end (A := A) (t := t) hn hV
  rw [h1] at f2
  obtain ⟨b1, b2⟩ := bs_true hn h2
  have b3 := bs_unk hn h2
  refine ⟨I2, ?_, (e4.mono (by decide)).tr f3⟩
  unfold f_X8_rowsByBitSets
  rw [k_cnt hS ht]
  simp only [Option.bind_some]
  rw [e1]
  simp only [Option.bind_some]
  rw [show f_X8_rowsByBitSets_L21 (nI t) (some k) (nI v) P (nI (A.1 t)) R fuel 0 I1 = some I2 from f1]
  simp only [Option.bind_some]
  unfold f_X1_trueSet f_X1_falseSet
  rw [m_top (x := p.1) (st := []) f2.1 (by decide), m_top (x := p.2) (st := []) f2.2 (by decide)]
  simp only [Option.bind_some]
  rw [b3, b1, b2]
  rcases (show v = 0 ∨ v = 1 ∨ v = 2 by omega) with rfl | rfl | rfl <;> rfl
end MB7
