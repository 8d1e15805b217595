/-! PURE PART 1: memory, piles, codes of steps. What follows speaks of f_X8.. (class) and f_X9.. (reference) as functions alone. -/
section MB0
theorem nin {k n : Nat} (h : k < n) (hn : n ≤ 2147483647) : ¬ nI k < 0 ∧ (nI k).toNatClampNeg < n := ⟨nI_pos (by omega), by rw [nI_clamp (by omega)]; exact h⟩
theorem rd_e {I : Mem} {a n : Nat} {i : Int32} (k : Nat) (hi : i = nI k) (h : k < n) (hn : n ≤ 2147483647) : rd I a n i = some (I a k) := by
  subst hi; unfold rd; rw [if_pos (nin h hn), nI_clamp (by omega)]
theorem wr_e {I : Mem} {a n : Nat} {i x : Int32} (k : Nat) (hi : i = nI k) (h : k < n) (hn : n ≤ 2147483647) : wr I a n i x = some (up I a k x) := by
  subst hi; unfold wr; rw [if_pos (nin h hn), nI_clamp (by omega)]
theorem rdq_n {R : Rem} {P : Pool} {a n q : Nat} {i : Int32} (k : Nat) (hi : i = nI k) (h : k < n) (hn : n ≤ 2147483647) (hR : R a k = none) : rdq R P a n q i = some none := by
  subst hi; unfold rdq; rw [if_pos (nin h hn), nI_clamp (by omega), hR]
theorem rdq_s {R : Rem} {P : Pool} {a n q j : Nat} {i : Int32} (k : Nat) (hi : i = nI k) (h : k < n) (hn : n ≤ 2147483647) (hR : R a k = some j) (hj : Kd P j = q) : rdq R P a n q i = some (some j) := by
  subst hi; unfold rdq; rw [if_pos (nin h hn), nI_clamp (by omega), hR]; exact if_pos hj
theorem rdq_o {R : Rem} {P : Pool} {a n q : Nat} {i : Int32} {o : Option Nat} (k : Nat) (hi : i = nI k) (h : k < n) (hn : n ≤ 2147483647) (hR : R a k = o) (hj : ∀ j, o = some j → Kd P j = q) : rdq R P a n q i = some o := by
  cases o with
  | none => exact rdq_n k hi h hn hR
  | some j => exact rdq_s k hi h hn hR (hj j rfl)
theorem wrq_e {R : Rem} {a n : Nat} {i : Int32} {x : Option Nat} (k : Nat) (hi : i = nI k) (h : k < n) (hn : n ≤ 2147483647) : wrq R a n i x = some (upR R a k x) := by
  subst hi; unfold wrq; rw [if_pos (nin h hn), nI_clamp (by omega)]
theorem rdn_e {R : Rem} {P : Pool} {a j q v : Nat} (h : R a j = some v) (hq : Kd P v = q) : rdn R P a j q = some v := by
  unfold rdn; rw [h]; exact if_pos hq
theorem cpy_e {I : Mem} {a0 n0 a1 n1 : Nat} {sp dp n : Int32} (s d m : Nat) (hs : sp = nI s) (hd : dp = nI d) (hm : n = nI m) (h0 : s + m ≤ n0) (h1 : d + m ≤ n1) (b0 : n0 ≤ 2147483647) (b1 : n1 ≤ 2147483647) : cpy I a0 n0 a1 n1 sp dp n = some (fun b => if b = a1 then va_cpy (I a0) (I a1) s d m else I b) := by
  subst hs; subst hd; subst hm
  unfold cpy
  rw [nI_clamp (show s < 2 ^ 31 by omega), nI_clamp (show d < 2 ^ 31 by omega), nI_clamp (show m < 2 ^ 31 by omega), if_pos ⟨nI_pos (by omega), nI_pos (by omega), nI_pos (by omega), h0, h1⟩]
theorem up_eq (I : Mem) (a k : Nat) (x : Int32) : up I a k x a k = x := by simp [up, upd]
theorem up_nk (I : Mem) {a k j : Nat} (x : Int32) (h : j ≠ k) : up I a k x a j = I a j := by simp [up, upd, h]
theorem upR_eq (R : Rem) (a k : Nat) (x : Option Nat) : upR R a k x a k = x := by simp [upR, va_up]
theorem upR_nk (R : Rem) {a k j : Nat} (x : Option Nat) (h : j ≠ k) : upR R a k x a j = R a j := by simp [upR, va_up, h]
/-- the same but at the objects of S -/
def Eqx (S : List Nat) (I I' : Mem) : Prop := ∀ a, a ∉ S → I' a = I a
theorem Eqx.rf {S : List Nat} {I : Mem} : Eqx S I I := fun _ _ => rfl
theorem Eqx.tr {S : List Nat} {I I1 I2 : Mem} (h : Eqx S I I1) (h2 : Eqx S I1 I2) : Eqx S I I2 := fun a ha => (h2 a ha).trans (h a ha)
theorem Eqx.mono {S T : List Nat} {I I1 : Mem} (h : Eqx S I I1) (hST : ∀ a ∈ S, a ∈ T) : Eqx T I I1 := fun a ha => h a (fun h2 => ha (hST a h2))
theorem Eqx.up {S : List Nat} {I : Mem} {a k : Nat} {x : Int32} (h : a ∈ S) : Eqx S I (up I a k x) := fun b hb => up_ne I k x (fun e => hb (by rw [e]; exact h))
theorem Eqx.then {S T : List Nat} {I I1 I2 : Mem} (h : Eqx S I I1) (h2 : Eqx T I1 I2) (hST : ∀ a ∈ T, a ∈ S) : Eqx S I I2 := h.tr (h2.mono hST)
/-! piles: the top is the head -/
def PI (f : Nat → Int32) : List Int32 → Prop
  | [] => True
  | x :: st => f st.length = x ∧ PI f st
theorem PI_upd {f : Nat → Int32} {k : Nat} {x : Int32} : ∀ {st : List Int32}, PI f st → st.length ≤ k → PI (upd f k x) st
  | [], _, _ => trivial
  | y :: st, h, hk => by
    have hk' : st.length + 1 ≤ k := hk
    refine ⟨?_, PI_upd h.2 (by omega)⟩
    unfold upd
    rw [if_neg (by omega)]
    exact h.1
theorem PI_push {f : Nat → Int32} {x : Int32} {st : List Int32} (h : PI f st) : PI (upd f st.length x) (x :: st) := ⟨by simp [upd], PI_upd h (Nat.le_refl _)⟩
theorem PI_cong {f g : Nat → Int32} : ∀ {st : List Int32}, PI f st → (∀ k, k < st.length → g k = f k) → PI g st
  | [], _, _ => trivial
  | y :: st, h, hk => ⟨(hk _ (by simp)).trans h.1, PI_cong h.2 (fun k hk2 => hk k (by simp; omega))⟩
def PL (I : Mem) (p : Nat) (st : List Int32) : Prop := I p 1 = nI st.length ∧ PI (I (p + 1)) st
theorem PL.cg {I I' : Mem} {p : Nat} {st : List Int32} (h : PL I p st) (h1 : I' p = I p) (h2 : I' (p + 1) = I (p + 1)) : PL I' p st := by
  unfold PL; rw [h1, h2]; exact h
theorem PL.eqx {S : List Nat} {I I' : Mem} {p : Nat} {st : List Int32} (h : PL I p st) (hE : Eqx S I I') (h1 : p ∉ S) (h2 : p + 1 ∉ S) : PL I' p st := h.cg (hE p h1) (hE (p + 1) h2)
theorem m_push {I : Mem} {p : Nat} {x : Int32} {P : Pool} {st : List Int32} (h : PL I p st) (hl : st.length < 64) : ∃ I', f_X3_push p x P I = some I' ∧ PL I' p (x :: st) ∧ Eqx [p, p + 1] I I' := by
  refine ⟨up (up I (p + 1) st.length x) p 1 (nI (st.length + 1)), ?_, ⟨?_, ?_⟩, ?_⟩
  · unfold f_X3_push
    rw [h.1, if_neg (show ¬ (64 : Int32) ≤ nI st.length from nI_ge (a := st.length) (b := 64) hl (by decide)), wr_e st.length rfl hl (by decide)]
    simp only [Option.bind_some]
    rw [up_ne I _ x (show p ≠ p + 1 by omega), h.1, nI_1]
  · rw [up_eq]; rfl
  · rw [up_ne _ _ _ (show p + 1 ≠ p by omega), up_self]; exact PI_push h.2
  · intro a ha
    simp only [List.mem_cons, List.not_mem_nil, or_false, not_or] at ha
    rw [up_ne _ _ _ ha.1, up_ne _ _ _ ha.2]
theorem m_pop {I : Mem} {p : Nat} {x : Int32} {st : List Int32} (h : PL I p (x :: st)) (hl : st.length < 64) : ∃ I', f_X3_pop p I = some (x, I') ∧ PL I' p st ∧ Eqx [p] I I' := by
  have h1 : I p 1 = nI (st.length + 1) := h.1
  refine ⟨up I p 1 (nI st.length), ?_, ⟨?_, ?_⟩, Eqx.up (by simp)⟩
  · unfold f_X3_pop
    rw [h1, if_pos (show (0 : Int32) < nI (st.length + 1) from nI_lt (a := 0) (by omega) (by omega)), nI_pred, up_eq, rd_e st.length rfl (by omega) (by decide)]
    simp only [Option.bind_some]
    rw [up_ne I _ _ (show p + 1 ≠ p by omega), h.2.1]
  · rw [up_eq]
  · rw [up_ne _ _ _ (show p + 1 ≠ p by omega)]; exact h.2.2
theorem m_top {I : Mem} {p : Nat} {x : Int32} {st : List Int32} (h : PL I p (x :: st)) (hl : st.length < 64) : f_X3_top p I = some x := by
  have h1 : I p 1 = nI (st.length + 1) := h.1
  unfold f_X3_top
  rw [h1, if_pos (show (0 : Int32) < nI (st.length + 1) from nI_lt (a := 0) (by omega) (by omega)), nI_pred, rd_e st.length rfl (by omega) (by decide)]
  simp only [Option.bind_some]
  rw [h.2.1]
theorem m_clear {I : Mem} {p : Nat} : ∃ I', f_X3_clear p I = some I' ∧ PL I' p [] ∧ Eqx [p] I I' := ⟨_, rfl, ⟨by rw [up_eq]; rfl, trivial⟩, Eqx.up (by simp)⟩
/-! codes of steps, as the reference has them -/
def cC (t : Nat) : Nat := (t - 4) / 1000 / 4
def cS (t : Nat) : Nat := (t - 4) / 1000 % 4
def cO (t : Nat) : Nat := (t - 4) % 1000
def vT (t : Nat) : Prop := 4 ≤ t ∧ t < 16004 ∧ cO t < 104 ∧ (cS t = 0 → cO t = 0)
def vC (t : Nat) : Prop := t < 3 ∨ vT t
def sch (s : Nat) : Nat := if s = 0 then 63 else if s = 1 then 61 else if s = 2 then 60 else 62
def encT (t : Nat) : Nat := sch (cS t) + 128 * cC t + (if cO t < 100 then 1024 * cO t else 512 + 1024 * (cO t - 100))
def enc (t : Nat) : Int32 := if t = 0 then 33 else if t = 1 then 38 else if t = 2 then 124 else nI (encT t)
theorem sch_b (s : Nat) : 60 ≤ sch s ∧ sch s ≤ 63 := by unfold sch; split <;> (try split) <;> (try split) <;> omega
theorem cC_b {t : Nat} (h : vT t) : cC t < 4 := by have := h.2.1; unfold cC; omega
theorem cS_b (t : Nat) : cS t < 4 := by unfold cS; omega
theorem encT_b {t : Nat} (h : vT t) : encT t < 131072 := by
  have h1 := sch_b (cS t); have h2 := cC_b h; have h3 := h.2.2.1
  unfold encT; split <;> omega
theorem encT_7 {t : Nat} (h : vT t) : encT t % 128 = sch (cS t) := by
  have h1 := sch_b (cS t); have h2 := cC_b h; have h3 := h.2.2.1
  unfold encT; split <;> omega
theorem encT_c {t : Nat} (h : vT t) : encT t / 128 % 4 = cC t := by
  have h1 := sch_b (cS t); have h2 := cC_b h; have h3 := h.2.2.1
  unfold encT; split <;> omega
theorem encT_w {t : Nat} (h : vT t) : encT t / 512 % 2 = if cO t < 100 then 0 else 1 := by
  have h1 := sch_b (cS t); have h2 := cC_b h; have h3 := h.2.2.1
  unfold encT; split <;> omega
theorem encT_o {t : Nat} (h : vT t) : encT t / 1024 = if cO t < 100 then cO t else cO t - 100 := by
  have h1 := sch_b (cS t); have h2 := cC_b h; have h3 := h.2.2.1
  unfold encT; split <;> omega
theorem enc_t {t : Nat} (h : vT t) : enc t = nI (encT t) := by
  have := h.1
  unfold enc; rw [if_neg (by omega), if_neg (by omega), if_neg (by omega)]
theorem chr_n {m : Nat} (h : m < 65536) : ((nI m).toUInt32 % 65536).toInt32 = nI m := by rw [pk_char, pk_tn (by omega), Nat.mod_eq_of_lt h]
theorem m_signOf {n : Nat} (hn : n < 2 ^ 31) : f_X7_signOf (nI n) = some (nI (n % 128)) := by
  unfold f_X7_signOf
  rw [pk_andN (by omega) 7 (by decide), chr_n (by omega), if_pos (pk_charN (by omega)).1]
theorem m_columnOf {n : Nat} (hn : n < 2 ^ 31) : f_X7_columnOf (nI n) = some (nI (n / 128 % 4)) := by
  unfold f_X7_columnOf
  rw [pk_shrN hn _ 7 (by decide), pk_andN (by omega) 2 (by decide)]
theorem m_otherColumnOf {n : Nat} (hn : n < 2 ^ 31) : f_X7_otherColumnOf (nI n) = some (nI (n / 1024 % 4)) := by
  unfold f_X7_otherColumnOf
  rw [pk_shrN hn _ 10 (by decide), pk_andN (by omega) 2 (by decide)]
theorem m_valueOf {n : Nat} (hn : n < 2 ^ 31) : f_X7_valueOf (nI n) = some (nI (n / 1024)) := by
  unfold f_X7_valueOf
  rw [pk_shrN hn _ 10 (by decide)]
theorem m_comparesColumns {n : Nat} (hn : n < 2 ^ 31) : f_X7_comparesColumns (nI n) = some (nI (n / 512 % 2)) := by
  unfold f_X7_comparesColumns
  rw [pk_shrN hn _ 9 (by decide), pk_andN (by omega) 1 (by decide)]
  rcases (show n / 2 ^ 9 % 2 ^ 1 = 0 ∨ n / 2 ^ 9 % 2 ^ 1 = 1 by omega) with h | h
  · rw [h]; rfl
  · rw [h]; rfl
end MB0
