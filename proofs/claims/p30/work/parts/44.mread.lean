/-! PURE PART 25: the reading of filter texts, as a machine of its own. -/
section MB24
/-- what is expected (0 a factor, 1 a sign, 2 an operand, 3 a second digit, 4 a joint), open parentheses, waiting signs and made parts (the newest first), column, sign, value -/
abbrev PS : Type := Nat × Nat × List Nat × List Nat × Nat × Nat × Nat
def str (x : Nat) : Nat := if x = 33 then 3 else if x = 38 then 2 else if x = 124 then 1 else 0
def cd (x : Nat) : Nat := if x = 33 then 0 else if x = 38 then 1 else 2
def rel (l : Nat) : List Nat → List Nat → List Nat × List Nat
  | [], M => ([], M)
  | x :: W, M => if str x < l then (x :: W, M) else rel l W (cd x :: M)
theorem rel_n (l : Nat) (M : List Nat) : rel l [] M = ([], M) := rfl
theorem rel_c (l x : Nat) (W M : List Nat) : rel l (x :: W) M = if str x < l then (x :: W, M) else rel l W (cd x :: M) := rfl
def tcode (c s o : Nat) : Nat := 4 + 1000 * (4 * c + s) + o
def jnt (ch op : Nat) (W M : List Nat) (c s v : Nat) : Option PS :=
  if ch = 41 then (if op = 0 then none else some (4, op - 1, (rel 1 W M).1.tail, (rel 1 W M).2, c, s, v))
  else if ch = 38 then some (0, op, 38 :: (rel 2 W M).1, (rel 2 W M).2, c, s, v)
  else if ch = 124 then some (0, op, 124 :: (rel 1 W M).1, (rel 1 W M).2, c, s, v)
  else none
def stpF (m op : Nat) (W M : List Nat) (c s v ch : Nat) : Option PS :=
  if m = 0 then (if ch = 33 then some (0, op, 33 :: W, M, c, s, v) else if ch = 40 then some (0, op + 1, 40 :: W, M, c, s, v) else if 97 ≤ ch ∧ ch ≤ 100 then some (1, op, W, M, ch - 97, s, v) else none)
  else if m = 1 then (if ch = 63 then some (4, op, W, tcode c 0 0 :: M, c, s, v) else if ch = 61 then some (2, op, W, M, c, 1, v) else if ch = 60 then some (2, op, W, M, c, 2, v) else if ch = 62 then some (2, op, W, M, c, 3, v) else none)
  else if m = 2 then (if 97 ≤ ch ∧ ch ≤ 100 then some (4, op, W, tcode c s (100 + (ch - 97)) :: M, c, s, v) else if 48 ≤ ch ∧ ch ≤ 57 then (if ch = 48 then some (4, op, W, tcode c s 0 :: M, c, s, 0) else some (3, op, W, M, c, s, ch - 48)) else none)
  else if m = 3 then (if 48 ≤ ch ∧ ch ≤ 57 then some (4, op, W, tcode c s (v * 10 + (ch - 48)) :: M, c, s, v * 10 + (ch - 48)) else jnt ch op W (tcode c s v :: M) c s v)
  else jnt ch op W M c s v
def stp (p : PS) (ch : Nat) : Option PS := stpF p.1 p.2.1 p.2.2.1 p.2.2.2.1 p.2.2.2.2.1 p.2.2.2.2.2.1 p.2.2.2.2.2.2 ch
def stl (p : PS) : PS := if p.1 = 3 then (4, p.2.1, p.2.2.1, tcode p.2.2.2.2.1 p.2.2.2.2.2.1 p.2.2.2.2.2.2 :: p.2.2.2.1, p.2.2.2.2) else p
/-- how many characters can be read, and what stands then -/
def run : PS → List Nat → Nat × PS
  | p, [] => (0, p)
  | p, ch :: B => match stp p ch with
    | none => (0, p)
    | some q => ((run q B).1 + 1, (run q B).2)
theorem run_n (p : PS) : run p [] = (0, p) := rfl
theorem run_e {p : PS} {ch : Nat} {B : List Nat} (h : stp p ch = none) : run p (ch :: B) = (0, p) := by
  show (match stp p ch with
    | none => (0, p)
    | some q => ((run q B).1 + 1, (run q B).2)) = (0, p)
  rw [h]
theorem run_s {p q : PS} {ch : Nat} {B : List Nat} (h : stp p ch = some q) : run p (ch :: B) = ((run q B).1 + 1, (run q B).2) := by
  show (match stp p ch with
    | none => (0, p)
    | some q => ((run q B).1 + 1, (run q B).2)) = _
  rw [h]
theorem run_le : ∀ (B : List Nat) (p : PS), (run p B).1 ≤ B.length
  | [], p => Nat.le_refl _
  | ch :: B, p => by
    cases h : stp p ch with
    | none => rw [run_e h]; exact Nat.zero_le _
    | some q => rw [run_s h]; have := run_le B q; simp; omega
/-! the shape of the waiting signs -/
def okS : Nat → List Nat → Prop
  | _, [] => True
  | m, x :: W => (x = 33 ∧ m = 2 ∧ okS 2 W) ∨ (x = 38 ∧ m ≠ 1 ∧ okS 0 W) ∨ (x = 124 ∧ okS 1 W) ∨ (x = 40 ∧ okS 2 W)
theorem okS_2 : ∀ {m : Nat} {W : List Nat}, okS m W → okS 2 W
  | _, [], _ => trivial
  | m, x :: W, h => by
    rcases h with ⟨a, b, c⟩ | ⟨a, b, c⟩ | ⟨a, c⟩ | ⟨a, c⟩
    · exact Or.inl ⟨a, rfl, c⟩
    · exact Or.inr (Or.inl ⟨a, by decide, c⟩)
    · exact Or.inr (Or.inr (Or.inl ⟨a, c⟩))
    · exact Or.inr (Or.inr (Or.inr ⟨a, c⟩))
theorem okS_t {m x : Nat} {W : List Nat} (h : okS m (x :: W)) : okS 2 W := by
  rcases h with ⟨a, b, c⟩ | ⟨a, b, c⟩ | ⟨a, c⟩ | ⟨a, c⟩ <;> exact okS_2 c
theorem okS_x {m x : Nat} {W : List Nat} (h : okS m (x :: W)) : x = 33 ∨ x = 38 ∨ x = 124 ∨ x = 40 := by
  rcases h with ⟨a, b, c⟩ | ⟨a, b, c⟩ | ⟨a, c⟩ | ⟨a, c⟩
  · exact Or.inl a
  · exact Or.inr (Or.inl a)
  · exact Or.inr (Or.inr (Or.inl a))
  · exact Or.inr (Or.inr (Or.inr a))
def nbW : List Nat → Nat
  | [] => 0
  | x :: W => (if x = 38 ∨ x = 124 then 1 else 0) + nbW W
def n4 : List Nat → Nat
  | [] => 0
  | x :: W => (if x = 40 then 1 else 0) + n4 W
def wtW : List Nat → Nat
  | [] => 0
  | x :: W => (if x = 33 then 1 else if x = 40 then 0 else 3) + wtW W
theorem nbW_c (x : Nat) (W : List Nat) : nbW (x :: W) = (if x = 38 ∨ x = 124 then 1 else 0) + nbW W := rfl
theorem n4_c (x : Nat) (W : List Nat) : n4 (x :: W) = (if x = 40 then 1 else 0) + n4 W := rfl
theorem wtW_c (x : Nat) (W : List Nat) : wtW (x :: W) = (if x = 33 then 1 else if x = 40 then 0 else 3) + wtW W := rfl
/-- the made parts (the newest first) leave e values on a stack -/
def wnr : List Nat → Nat → Prop
  | [], e => e = 0
  | t :: M, e => 1 ≤ e ∧ (if t = 0 then wnr M e else if t < 3 then wnr M (e + 1) else wnr M (e - 1))
theorem wnr_c (t : Nat) (M : List Nat) (e : Nat) : wnr (t :: M) e = (1 ≤ e ∧ (if t = 0 then wnr M e else if t < 3 then wnr M (e + 1) else wnr M (e - 1))) := rfl
theorem wnr_wd : ∀ (M : List Nat) (e : Nat) (L : List Nat), wnr M e → wd L e → wd (M.reverse ++ L) 0
  | [], e, L, h, hL => by
    have h : e = 0 := h
    rw [h] at hL
    simpa using hL
  | t :: M, e, L, h, hL => by
    rw [wnr_c] at h
    rw [List.reverse_cons, List.append_assoc]
    by_cases e0 : t = 0
    · rw [if_pos e0] at h
      exact wnr_wd M e ([t] ++ L) h.2 (by rw [e0]; exact (show 1 ≤ e ∧ wd L e from ⟨h.1, hL⟩))
    · rw [if_neg e0] at h
      by_cases e1 : t < 3
      · rw [if_pos e1] at h
        refine wnr_wd M (e + 1) ([t] ++ L) h.2 ?_
        show wd (t :: L) (e + 1)
        unfold wd
        rw [if_neg e0, if_pos e1]
        exact ⟨by omega, hL⟩
      · rw [if_neg e1] at h
        refine wnr_wd M (e - 1) ([t] ++ L) h.2 ?_
        show wd (t :: L) (e - 1)
        unfold wd
        rw [if_neg e0, if_neg e1, show e - 1 + 1 = e by omega]
        exact hL
theorem fW_app : ∀ (A B : List Nat), fW (A ++ B) = fW A + fW B
  | [], B => (Nat.zero_add _).symm
  | t :: A, B => by
    show (if t = 0 then 1 else if t < 3 then 3 else tl t) + fW (A ++ B) = (if t = 0 then 1 else if t < 3 then 3 else tl t) + fW A + fW B
    rw [fW_app A B, Nat.add_assoc]
theorem fW_c (t : Nat) (M : List Nat) : fW (t :: M) = (if t = 0 then 1 else if t < 3 then 3 else tl t) + fW M := rfl
theorem fW_rev : ∀ (A : List Nat), fW A.reverse = fW A
  | [] => rfl
  | t :: A => by
    rw [List.reverse_cons, fW_app, fW_rev A, fW_c, fW_c]
    show fW A + ((if t = 0 then 1 else if t < 3 then 3 else tl t) + 0) = _
    omega
/-! release -/
theorem rel_len (l : Nat) : ∀ (W M : List Nat), (rel l W M).1.length + (rel l W M).2.length = W.length + M.length
  | [], M => rfl
  | x :: W, M => by
    rw [rel_c]
    split
    · rfl
    · rw [rel_len l W]; simp; omega
theorem str_c {x : Nat} (h : ¬ str x < 1) : x = 33 ∨ x = 38 ∨ x = 124 := by
  unfold str at h
  by_cases a : x = 33
  · exact Or.inl a
  · rw [if_neg a] at h
    by_cases b : x = 38
    · exact Or.inr (Or.inl b)
    · rw [if_neg b] at h
      by_cases c : x = 124
      · exact Or.inr (Or.inr c)
      · rw [if_neg c] at h; exact absurd (by decide) h
theorem rel_wt {l : Nat} (hl : 1 ≤ l) : ∀ (W M : List Nat), fW (rel l W M).2 + wtW (rel l W M).1 = fW M + wtW W
  | [], M => rfl
  | x :: W, M => by
    rw [rel_c]
    split
    · rfl
    · rename_i h
      rw [rel_wt hl W, fW_c, wtW_c]
      rcases str_c (show ¬ str x < 1 by omega) with rfl | rfl | rfl
      · rw [show cd 33 = 0 from rfl, if_pos rfl, if_pos rfl]; omega
      · rw [show cd 38 = 1 from rfl, if_neg (by decide), if_pos (by decide), if_neg (by decide), if_neg (by decide)]; omega
      · rw [show cd 124 = 2 from rfl, if_neg (by decide), if_pos (by decide), if_neg (by decide), if_neg (by decide)]; omega
theorem rel_n4 {l : Nat} (hl : 1 ≤ l) : ∀ (W M : List Nat), n4 (rel l W M).1 = n4 W
  | [], M => rfl
  | x :: W, M => by
    rw [rel_c]
    split
    · rfl
    · rename_i h
      rw [rel_n4 hl W, n4_c]
      rcases str_c (show ¬ str x < 1 by omega) with rfl | rfl | rfl
      · rw [if_neg (by decide)]; omega
      · rw [if_neg (by decide)]; omega
      · rw [if_neg (by decide)]; omega
theorem rel_vC {l : Nat} : ∀ (W M : List Nat), (∀ t ∈ M, vC t) → ∀ t ∈ (rel l W M).2, vC t
  | [], M, h => h
  | x :: W, M, h => by
    rw [rel_c]
    split
    · exact h
    · refine rel_vC W (cd x :: M) (fun t ht => ?_)
      rcases List.mem_cons.mp ht with e | e
      · rw [e]; exact Or.inl (by unfold cd; split <;> (try split) <;> decide)
      · exact h t e
theorem rel_wnr {l : Nat} (hl : 1 ≤ l) : ∀ (W M : List Nat), wnr M (nbW W + 1) → wnr (rel l W M).2 (nbW (rel l W M).1 + 1)
  | [], M, h => h
  | x :: W, M, h => by
    rw [rel_c]
    split
    · exact h
    · rename_i h2
      refine rel_wnr hl W (cd x :: M) ?_
      rw [nbW_c] at h
      rw [wnr_c]
      rcases str_c (show ¬ str x < 1 by omega) with rfl | rfl | rfl
      · rw [if_neg (by decide), Nat.zero_add] at h
        rw [show cd 33 = 0 from rfl, if_pos rfl]
        exact ⟨by omega, h⟩
      · rw [if_pos (by decide)] at h
        rw [show cd 38 = 1 from rfl, if_neg (by decide), if_pos (by decide)]
        exact ⟨by omega, by rw [show nbW W + 1 + 1 = 1 + nbW W + 1 by omega]; exact h⟩
      · rw [if_pos (by decide)] at h
        rw [show cd 124 = 2 from rfl, if_neg (by decide), if_pos (by decide)]
        exact ⟨by omega, by rw [show nbW W + 1 + 1 = 1 + nbW W + 1 by omega]; exact h⟩
theorem rel_ok {l : Nat} : ∀ (W M : List Nat), okS 2 W → okS 2 (rel l W M).1
  | [], M, h => h
  | x :: W, M, h => by
    rw [rel_c]
    split
    · exact h
    · exact rel_ok W _ (okS_t h)
theorem rel2_ok : ∀ (W M : List Nat), okS 2 W → okS 0 (rel 2 W M).1
  | [], M, h => trivial
  | x :: W, M, h => by
    rw [rel_c]
    rcases h with ⟨a, b, c⟩ | ⟨a, b, c⟩ | ⟨a, c⟩ | ⟨a, c⟩
    · rw [a, if_neg (by decide)]; exact rel2_ok W _ c
    · rw [a, if_neg (by decide)]; exact rel2_ok W _ (okS_2 c)
    · rw [a, if_pos (by decide)]; exact Or.inr (Or.inr (Or.inl ⟨rfl, c⟩))
    · rw [a, if_pos (by decide)]; exact Or.inr (Or.inr (Or.inr ⟨rfl, c⟩))
theorem rel1_sh : ∀ (W M : List Nat), okS 2 W → (rel 1 W M).1 = [] ∨ ∃ W', (rel 1 W M).1 = 40 :: W' ∧ okS 2 W'
  | [], M, h => Or.inl rfl
  | x :: W, M, h => by
    rw [rel_c]
    rcases h with ⟨a, b, c⟩ | ⟨a, b, c⟩ | ⟨a, c⟩ | ⟨a, c⟩
    · rw [a, if_neg (by decide)]; exact rel1_sh W _ c
    · rw [a, if_neg (by decide)]; exact rel1_sh W _ (okS_2 c)
    · rw [a, if_neg (by decide)]; exact rel1_sh W _ (okS_2 c)
    · rw [a, if_pos (by decide)]; exact Or.inr ⟨W, rfl, c⟩
/-! what holds of every state -/
def sl1 (m : Nat) : Nat := if m = 4 then 1 else m
def sl2 (m : Nat) : Nat := if m = 4 then 1 else 2 * m
def PV (p : PS) (i : Nat) : Prop := p.1 ≤ 4 ∧ p.2.1 = n4 p.2.2.1 ∧ okS 2 p.2.2.1 ∧ wnr p.2.2.2.1 (nbW p.2.2.1 + if p.1 = 4 then 1 else 0) ∧ (∀ t ∈ p.2.2.2.1, vC t) ∧ p.2.2.2.2.1 < 4 ∧ (p.1 = 2 ∨ p.1 = 3 → 1 ≤ p.2.2.2.2.2.1 ∧ p.2.2.2.2.2.1 ≤ 3) ∧ (p.1 = 3 → 1 ≤ p.2.2.2.2.2.2 ∧ p.2.2.2.2.2.2 ≤ 9) ∧ p.2.2.2.1.length + p.2.2.1.length + sl1 p.1 ≤ i ∧ fW p.2.2.2.1 + wtW p.2.2.1 + sl2 p.1 ≤ 2 * i + 1
def p0 : PS := (0, 0, [], [], 0, 1, 1)
theorem PV_0 : PV p0 0 := ⟨by decide, rfl, trivial, rfl, fun t ht => absurd ht (by simp [p0]), by decide, fun h => by simp [p0] at h, fun h => by simp [p0] at h, by decide, by decide⟩
theorem tc_c {c s o : Nat} (hs : s < 4) (ho : o < 1000) : cC (tcode c s o) = c := by unfold cC tcode; omega
theorem tc_s {c s o : Nat} (hs : s < 4) (ho : o < 1000) : cS (tcode c s o) = s := by unfold cS tcode; omega
theorem tc_o {c s o : Nat} (ho : o < 1000) : cO (tcode c s o) = o := by unfold cO tcode; omega
theorem tc_v {c s o : Nat} (hc : c < 4) (hs : s < 4) (ho : o < 104) (h0 : s = 0 → o = 0) : vT (tcode c s o) := by
  refine ⟨by unfold tcode; omega, by unfold tcode; omega, by rw [tc_o (by omega)]; exact ho, fun h => ?_⟩
  rw [tc_s hs (by omega)] at h
  rw [tc_o (by omega)]; exact h0 h
theorem tc_3 (c s o : Nat) : ¬ tcode c s o = 0 ∧ ¬ tcode c s o < 3 := by unfold tcode; omega
/-- a test is made -/
theorem PV_test {m op c s v c2 s2 v2 i t : Nat} {W M : List Nat} (h : PV (m, op, W, M, c, s, v) i) (hm : m = 1 ∨ m = 2 ∨ m = 3) (ht : vT t) (hl : (m = 1 → tl t ≤ 2) ∧ (m = 2 → tl t ≤ 3) ∧ (m = 3 → tl t ≤ 4)) (hc : c2 < 4) : PV (4, op, W, t :: M, c2, s2, v2) (i + 1) := by
  obtain ⟨h1, h2, h3, h4, h5, h6, h7, h8, h9, h10⟩ := h
  have h4 : wnr M (nbW W + if m = 4 then 1 else 0) := h4
  rw [if_neg (by omega), Nat.add_zero] at h4
  have h9 : M.length + W.length + sl1 m ≤ i := h9
  have h10 : fW M + wtW W + sl2 m ≤ 2 * i + 1 := h10
  have t3 := ht.1
  refine ⟨by show 4 ≤ 4; decide, h2, h3, ?_, fun u hu => ?_, hc, fun h => ?_, fun h => ?_, ?_, ?_⟩
  · show wnr (t :: M) (nbW W + if 4 = 4 then 1 else 0)
    rw [if_pos rfl, wnr_c, if_neg (by omega), if_neg (by omega)]
    exact ⟨by omega, h4⟩
  · rcases List.mem_cons.mp hu with e | e
    · rw [e]; exact Or.inr ht
    · exact h5 u e
  · have h : 4 = 2 ∨ 4 = 3 := h; omega
  · have h : 4 = 3 := h; omega
  · show (t :: M).length + W.length + sl1 4 ≤ i + 1
    unfold sl1 at h9 ⊢
    rw [if_neg (by omega)] at h9
    rw [if_pos rfl]
    simp
    omega
  · show fW (t :: M) + wtW W + sl2 4 ≤ 2 * (i + 1) + 1
    unfold sl2 at h10 ⊢
    rw [if_neg (by omega)] at h10
    rw [if_pos rfl, fW_c, if_neg (by omega), if_neg (by omega)]
    rcases hm with rfl | rfl | rfl
    · have := hl.1 rfl; omega
    · have := hl.2.1 rfl; omega
    · have := hl.2.2 rfl; omega
theorem PV_stl {p : PS} {i : Nat} (h : PV p i) : PV (stl p) i := by
  obtain ⟨m, op, W, M, c, s, v⟩ := p
  unfold stl
  by_cases e : m = 3
  · subst e
    rw [if_pos (show (3, op, W, M, c, s, v).1 = 3 from rfl)]
    obtain ⟨h1, h2, h3, h4, h5, h6, h7, h8, h9, h10⟩ := h
    have h4 : wnr M (nbW W + if 3 = 4 then 1 else 0) := h4
    rw [if_neg (by omega), Nat.add_zero] at h4
    have h9 : M.length + W.length + 3 ≤ i := h9
    have h10 : fW M + wtW W + 6 ≤ 2 * i + 1 := h10
    have h6 : c < 4 := h6
    have h7 : 1 ≤ s ∧ s ≤ 3 := h7 (Or.inr rfl)
    have h8 : 1 ≤ v ∧ v ≤ 9 := h8 rfl
    have t3 := tc_3 c s v
    refine ⟨by show 4 ≤ 4; decide, h2, h3, ?_, fun u hu => ?_, h6, fun h => ?_, fun h => ?_, ?_, ?_⟩
    · show wnr (tcode c s v :: M) (nbW W + if 4 = 4 then 1 else 0)
      rw [if_pos rfl, wnr_c, if_neg t3.1, if_neg t3.2]
      exact ⟨by omega, h4⟩
    · rcases List.mem_cons.mp hu with e | e
      · rw [e]; exact Or.inr (tc_v h6 (by omega) (by omega) (by omega))
      · exact h5 u e
    · have h : 4 = 2 ∨ 4 = 3 := h; omega
    · have h : 4 = 3 := h; omega
    · show (tcode c s v :: M).length + W.length + 1 ≤ i
      simp
      omega
    · show fW (tcode c s v :: M) + wtW W + 1 ≤ 2 * i + 1
      rw [fW_c, if_neg t3.1, if_neg t3.2]
      have : tl (tcode c s v) = 3 := by
        unfold tl
        rw [tc_s (by omega) (by omega), tc_o (by omega), if_neg (by omega), if_pos (by omega)]
      omega
  · rw [if_neg (show ¬ (m, op, W, M, c, s, v).1 = 3 from e)]
    exact h
theorem PV_jnt {ch op c s v i : Nat} {W M : List Nat} {q : PS} (h : PV (4, op, W, M, c, s, v) i) (hq : jnt ch op W M c s v = some q) : PV q (i + 1) := by
  obtain ⟨h1, h2, h3, h4, h5, h6, h7, h8, h9, h10⟩ := h
  have h2 : op = n4 W := h2
  have h3 : okS 2 W := h3
  have h4 : wnr M (nbW W + if 4 = 4 then 1 else 0) := h4
  rw [if_pos rfl] at h4
  have h5 : ∀ t ∈ M, vC t := h5
  have h9 : M.length + W.length + 1 ≤ i := h9
  have h10 : fW M + wtW W + 1 ≤ 2 * i + 1 := h10
  unfold jnt at hq
  by_cases e1 : ch = 41
  · rw [if_pos e1] at hq
    by_cases e2 : op = 0
    · rw [if_pos e2] at hq; exact absurd hq (by simp)
    · rw [if_neg e2] at hq
      have hq := Option.some.inj hq
      subst hq
      have a1 := rel_len 1 W M
      have a2 := rel_wt (Nat.le_refl 1) W M
      have a3 := rel_n4 (Nat.le_refl 1) W M
      have a4 := rel_wnr (Nat.le_refl 1) W M h4
      have a5 := rel_vC (l := 1) W M h5
      rcases rel1_sh W M h3 with b | ⟨W', b, b2⟩
      · rw [b] at a3
        have : n4 [] = 0 := rfl
        omega
      · rw [b] at a1 a2 a3 a4 ⊢
        rw [n4_c, if_pos rfl] at a3
        rw [wtW_c, if_neg (by decide), if_pos rfl, Nat.zero_add] at a2
        rw [nbW_c, if_neg (by decide), Nat.zero_add] at a4
        simp only [List.length_cons] at a1
        refine ⟨by show 4 ≤ 4; decide, by show op - 1 = n4 W'; omega, b2, ?_, a5, h6, fun h => ?_, fun h => ?_, ?_, ?_⟩
        · show wnr (rel 1 W M).2 (nbW W' + if 4 = 4 then 1 else 0)
          rw [if_pos rfl]; exact a4
        · have h : 4 = 2 ∨ 4 = 3 := h; omega
        · have h : 4 = 3 := h; omega
        · show (rel 1 W M).2.length + W'.length + 1 ≤ i + 1
          omega
        · show fW (rel 1 W M).2 + wtW W' + 1 ≤ 2 * (i + 1) + 1
          omega
  · rw [if_neg e1] at hq
    by_cases e2 : ch = 38
    · rw [if_pos e2] at hq
      have hq := Option.some.inj hq
      subst hq
      have a1 := rel_len 2 W M
      have a2 := rel_wt (show 1 ≤ 2 by decide) W M
      have a3 := rel_n4 (show 1 ≤ 2 by decide) W M
      have a4 := rel_wnr (show 1 ≤ 2 by decide) W M h4
      have a5 := rel_vC (l := 2) W M h5
      have a6 := rel2_ok W M h3
      refine ⟨by show 0 ≤ 4; decide, ?_, Or.inr (Or.inl ⟨rfl, by decide, a6⟩), ?_, a5, h6, fun h => ?_, fun h => ?_, ?_, ?_⟩
      · show op = n4 (38 :: (rel 2 W M).1)
        rw [n4_c, if_neg (by decide), a3]; omega
      · show wnr (rel 2 W M).2 (nbW (38 :: (rel 2 W M).1) + if 0 = 4 then 1 else 0)
        rw [if_neg (by decide), nbW_c, if_pos (by decide), Nat.add_zero, Nat.add_comm]; exact a4
      · have h : 0 = 2 ∨ 0 = 3 := h; omega
      · have h : 0 = 3 := h; omega
      · show (rel 2 W M).2.length + (38 :: (rel 2 W M).1).length + 0 ≤ i + 1
        simp; omega
      · show fW (rel 2 W M).2 + wtW (38 :: (rel 2 W M).1) + 0 ≤ 2 * (i + 1) + 1
        rw [wtW_c, if_neg (by decide), if_neg (by decide)]; omega
    · rw [if_neg e2] at hq
      by_cases e3 : ch = 124
      · rw [if_pos e3] at hq
        have hq := Option.some.inj hq
        subst hq
        have a1 := rel_len 1 W M
        have a2 := rel_wt (Nat.le_refl 1) W M
        have a3 := rel_n4 (Nat.le_refl 1) W M
        have a4 := rel_wnr (Nat.le_refl 1) W M h4
        have a5 := rel_vC (l := 1) W M h5
        have a6 : okS 1 (rel 1 W M).1 := by
          rcases rel1_sh W M h3 with b | ⟨W', b, b2⟩
          · rw [b]; trivial
          · rw [b]; exact Or.inr (Or.inr (Or.inr ⟨rfl, b2⟩))
        refine ⟨by show 0 ≤ 4; decide, ?_, Or.inr (Or.inr (Or.inl ⟨rfl, a6⟩)), ?_, a5, h6, fun h => ?_, fun h => ?_, ?_, ?_⟩
        · show op = n4 (124 :: (rel 1 W M).1)
          rw [n4_c, if_neg (by decide), a3]; omega
        · show wnr (rel 1 W M).2 (nbW (124 :: (rel 1 W M).1) + if 0 = 4 then 1 else 0)
          rw [if_neg (by decide), nbW_c, if_pos (by decide), Nat.add_zero, Nat.add_comm]; exact a4
        · have h : 0 = 2 ∨ 0 = 3 := h; omega
        · have h : 0 = 3 := h; omega
        · show (rel 1 W M).2.length + (124 :: (rel 1 W M).1).length + 0 ≤ i + 1
          simp; omega
        · show fW (rel 1 W M).2 + wtW (124 :: (rel 1 W M).1) + 0 ≤ 2 * (i + 1) + 1
          rw [wtW_c, if_neg (by decide), if_neg (by decide)]; omega
      · rw [if_neg e3] at hq; exact absurd hq (by simp)
theorem PV_stp {p q : PS} {ch i : Nat} (h : PV p i) (hq : stp p ch = some q) : PV q (i + 1) := by
  obtain ⟨m, op, W, M, c, s, v⟩ := p
  have hh := h
  obtain ⟨h1, h2, h3, h4, h5, h6, h7, h8, h9, h10⟩ := hh
  have h1 : m ≤ 4 := h1
  have h2 : op = n4 W := h2
  have h3 : okS 2 W := h3
  have h4 : wnr M (nbW W + if m = 4 then 1 else 0) := h4
  have h5 : ∀ t ∈ M, vC t := h5
  have h6 : c < 4 := h6
  have h7 : m = 2 ∨ m = 3 → 1 ≤ s ∧ s ≤ 3 := h7
  have h8 : m = 3 → 1 ≤ v ∧ v ≤ 9 := h8
  have h9 : M.length + W.length + sl1 m ≤ i := h9
  have h10 : fW M + wtW W + sl2 m ≤ 2 * i + 1 := h10
  have hq : stpF m op W M c s v ch = some q := hq
  unfold stpF at hq
  by_cases m0 : m = 0
  · subst m0
    rw [if_pos rfl] at hq
    rw [if_neg (by decide)] at h4
    have h9 : M.length + W.length + 0 ≤ i := h9
    have h10 : fW M + wtW W + 0 ≤ 2 * i + 1 := h10
    have n2 : ¬ ((0 : Nat) = 2 ∨ (0 : Nat) = 3) := by omega
    by_cases e1 : ch = 33
    · rw [if_pos e1] at hq
      have hq := Option.some.inj hq
      subst hq
      refine ⟨by show 0 ≤ 4; decide, by show op = n4 (33 :: W); rw [n4_c, if_neg (by decide)]; omega, Or.inl ⟨rfl, rfl, h3⟩, ?_, h5, h6, fun h => absurd h n2, fun h => absurd (show (0 : Nat) = 3 from h) (by omega), ?_, ?_⟩
      · show wnr M (nbW (33 :: W) + if 0 = 4 then 1 else 0)
        rw [if_neg (by decide), nbW_c, if_neg (by decide), Nat.zero_add]; exact h4
      · show M.length + (33 :: W).length + 0 ≤ i + 1
        simp; omega
      · show fW M + wtW (33 :: W) + 0 ≤ 2 * (i + 1) + 1
        rw [wtW_c, if_pos rfl]; omega
    · rw [if_neg e1] at hq
      by_cases e2 : ch = 40
      · rw [if_pos e2] at hq
        have hq := Option.some.inj hq
        subst hq
        refine ⟨by show 0 ≤ 4; decide, by show op + 1 = n4 (40 :: W); rw [n4_c, if_pos rfl]; omega, Or.inr (Or.inr (Or.inr ⟨rfl, h3⟩)), ?_, h5, h6, fun h => absurd h n2, fun h => absurd (show (0 : Nat) = 3 from h) (by omega), ?_, ?_⟩
        · show wnr M (nbW (40 :: W) + if 0 = 4 then 1 else 0)
          rw [if_neg (by decide), nbW_c, if_neg (by decide), Nat.zero_add]; exact h4
        · show M.length + (40 :: W).length + 0 ≤ i + 1
          simp; omega
        · show fW M + wtW (40 :: W) + 0 ≤ 2 * (i + 1) + 1
          rw [wtW_c, if_neg (by decide), if_pos rfl]; omega
      · rw [if_neg e2] at hq
        by_cases e3 : 97 ≤ ch ∧ ch ≤ 100
        · rw [if_pos e3] at hq
          have hq := Option.some.inj hq
          subst hq
          refine ⟨by show 1 ≤ 4; decide, h2, h3, h4, h5, by show ch - 97 < 4; omega, fun h => absurd (show (1 : Nat) = 2 ∨ (1 : Nat) = 3 from h) (by omega), fun h => absurd (show (1 : Nat) = 3 from h) (by omega), ?_, ?_⟩
          · show M.length + W.length + 1 ≤ i + 1
            omega
          · show fW M + wtW W + 2 ≤ 2 * (i + 1) + 1
            omega
        · rw [if_neg e3] at hq; exact absurd hq (by simp)
  rw [if_neg m0] at hq
  by_cases m1 : m = 1
  · subst m1
    rw [if_pos rfl] at hq
    rw [if_neg (by decide)] at h4
    have h9 : M.length + W.length + 1 ≤ i := h9
    have h10 : fW M + wtW W + 2 ≤ 2 * i + 1 := h10
    have g9 : M.length + W.length + 2 ≤ i + 1 := by omega
    have g10 : fW M + wtW W + 4 ≤ 2 * (i + 1) + 1 := by omega
    by_cases e1 : ch = 63
    · rw [if_pos e1] at hq
      have hq := Option.some.inj hq
      subst hq
      have ht : tl (tcode c 0 0) = 2 := by unfold tl; rw [tc_s (by omega) (by omega), if_pos rfl]
      exact PV_test h (Or.inl rfl) (tc_v h6 (by decide) (by decide) (fun _ => rfl)) ⟨fun _ => by rw [ht]; decide, fun _ => by rw [ht]; decide, fun _ => by rw [ht]; decide⟩ h6
    · rw [if_neg e1] at hq
      by_cases e2 : ch = 61
      · rw [if_pos e2] at hq
        have hq := Option.some.inj hq
        subst hq
        exact ⟨by show 2 ≤ 4; decide, h2, h3, h4, h5, h6, fun _ => by show 1 ≤ 1 ∧ 1 ≤ 3; decide, fun h => absurd (show (2 : Nat) = 3 from h) (by omega), g9, g10⟩
      · rw [if_neg e2] at hq
        by_cases e3 : ch = 60
        · rw [if_pos e3] at hq
          have hq := Option.some.inj hq
          subst hq
          exact ⟨by show 2 ≤ 4; decide, h2, h3, h4, h5, h6, fun _ => by show 1 ≤ 2 ∧ 2 ≤ 3; decide, fun h => absurd (show (2 : Nat) = 3 from h) (by omega), g9, g10⟩
        · rw [if_neg e3] at hq
          by_cases e4 : ch = 62
          · rw [if_pos e4] at hq
            have hq := Option.some.inj hq
            subst hq
            exact ⟨by show 2 ≤ 4; decide, h2, h3, h4, h5, h6, fun _ => by show 1 ≤ 3 ∧ 3 ≤ 3; decide, fun h => absurd (show (2 : Nat) = 3 from h) (by omega), g9, g10⟩
          · rw [if_neg e4] at hq; exact absurd hq (by simp)
  rw [if_neg m1] at hq
  by_cases m2 : m = 2
  · subst m2
    rw [if_pos rfl] at hq
    have h7 := h7 (Or.inl rfl)
    by_cases e1 : 97 ≤ ch ∧ ch ≤ 100
    · rw [if_pos e1] at hq
      have hq := Option.some.inj hq
      subst hq
      have ht : tl (tcode c s (100 + (ch - 97))) = 3 := by unfold tl; rw [tc_s (by omega) (by omega), tc_o (by omega), if_neg (by omega), if_neg (by omega), if_neg (by omega)]
      exact PV_test h (Or.inr (Or.inl rfl)) (tc_v h6 (by omega) (by omega) (by omega)) ⟨fun h => by omega, fun _ => by rw [ht]; decide, fun _ => by rw [ht]; decide⟩ h6
    · rw [if_neg e1] at hq
      by_cases e2 : 48 ≤ ch ∧ ch ≤ 57
      · rw [if_pos e2] at hq
        by_cases e3 : ch = 48
        · rw [if_pos e3] at hq
          have hq := Option.some.inj hq
          subst hq
          have ht : tl (tcode c s 0) = 3 := by unfold tl; rw [tc_s (by omega) (by omega), tc_o (by omega), if_neg (by omega), if_pos (by omega)]
          exact PV_test h (Or.inr (Or.inl rfl)) (tc_v h6 (by omega) (by omega) (by omega)) ⟨fun h => by omega, fun _ => by rw [ht]; decide, fun _ => by rw [ht]; decide⟩ h6
        · rw [if_neg e3] at hq
          have hq := Option.some.inj hq
          subst hq
          have h9 : M.length + W.length + 2 ≤ i := h9
          have h10 : fW M + wtW W + 4 ≤ 2 * i + 1 := h10
          refine ⟨by show 3 ≤ 4; decide, h2, h3, h4, h5, h6, fun _ => h7, fun _ => by show 1 ≤ ch - 48 ∧ ch - 48 ≤ 9; omega, ?_, ?_⟩
          · show M.length + W.length + 3 ≤ i + 1
            omega
          · show fW M + wtW W + 6 ≤ 2 * (i + 1) + 1
            omega
      · rw [if_neg e2] at hq; exact absurd hq (by simp)
  rw [if_neg m2] at hq
  by_cases m3 : m = 3
  · subst m3
    rw [if_pos rfl] at hq
    have h7 := h7 (Or.inr rfl)
    have h8 := h8 rfl
    by_cases e2 : 48 ≤ ch ∧ ch ≤ 57
    · rw [if_pos e2] at hq
      have hq := Option.some.inj hq
      subst hq
      exact PV_test h (Or.inr (Or.inr rfl)) (tc_v h6 (by omega) (by omega) (by omega)) ⟨fun h => by omega, fun h => by omega, fun _ => tl_4 _⟩ h6
    · rw [if_neg e2] at hq
      have hs := PV_stl h
      rw [show stl (3, op, W, M, c, s, v) = (4, op, W, tcode c s v :: M, c, s, v) from rfl] at hs
      exact PV_jnt hs hq
  rw [if_neg m3] at hq
  have m4 : m = 4 := by omega
  subst m4
  exact PV_jnt h hq
end MB24
