/-! PURE PART 38: how certain a filter is, in the class. -/
section MB37
def bf (b0 b1 b2 b3 : Bool) (k : Nat) : Bool := if k = 0 then b0 else if k = 1 then b1 else if k = 2 then b2 else if k = 3 then b3 else false
theorem bf_cg (b : Nat → Bool) : ∀ k, k < 4 → b k = bf (b 0) (b 1) (b 2) (b 3) k := fun k hk => by
  rcases (show k = 0 ∨ k = 1 ∨ k = 2 ∨ k = 3 by omega) with rfl | rfl | rfl | rfl <;> rfl
/-- the lowest of four -/
def lo (b : Nat → Bool) : Nat := if b 0 = true then 0 else if b 1 = true then 1 else if b 2 = true then 2 else if b 3 = true then 3 else 4
def nx2 (b : Nat → Bool) : Nat → Bool := fun c => b c && decide (lo b < c)
theorem lo_le (b : Nat → Bool) : lo b ≤ 4 := by unfold lo; split <;> (try split) <;> (try split) <;> (try split) <;> omega
theorem lo_b {b : Nat → Bool} {c : Nat} (hc : c < 4) (h : b c = true) : lo b ≤ c := by
  unfold lo
  by_cases h0 : b 0 = true
  · rw [if_pos h0]; exact Nat.zero_le _
  · rw [if_neg h0]
    have n0 : c ≠ 0 := fun e => h0 (by rw [e] at h; exact h)
    by_cases h1 : b 1 = true
    · rw [if_pos h1]; omega
    · rw [if_neg h1]
      have n1 : c ≠ 1 := fun e => h1 (by rw [e] at h; exact h)
      by_cases h2 : b 2 = true
      · rw [if_pos h2]; omega
      · rw [if_neg h2]
        have n2 : c ≠ 2 := fun e => h2 (by rw [e] at h; exact h)
        by_cases h3 : b 3 = true
        · rw [if_pos h3]; omega
        · exact absurd h (by rw [show c = 3 by omega]; exact h3)
theorem lo_t {b : Nat → Bool} (h : lo b < 4) : b (lo b) = true := by
  unfold lo at h ⊢
  by_cases h0 : b 0 = true
  · rw [if_pos h0]; exact h0
  · rw [if_neg h0] at h ⊢
    by_cases h1 : b 1 = true
    · rw [if_pos h1]; exact h1
    · rw [if_neg h1] at h ⊢
      by_cases h2 : b 2 = true
      · rw [if_pos h2]; exact h2
      · rw [if_neg h2] at h ⊢
        by_cases h3 : b 3 = true
        · rw [if_pos h3]; exact h3
        · rw [if_neg h3] at h; omega
theorem low_d : ∀ b0 b1 b2 b3 : Bool, msk (bf b0 b1 b2 b3) 4 &&& (msk (bf b0 b1 b2 b3) 4 - 1) = msk (nx2 (bf b0 b1 b2 b3)) 4 := by decide +kernel
theorem lo_bf (b : Nat → Bool) : lo (bf (b 0) (b 1) (b 2) (b 3)) = lo b := rfl
theorem low_n (b : Nat → Bool) : msk b 4 &&& (msk b 4 - 1) = msk (nx2 b) 4 := by
  rw [msk_cg (bf_cg b), low_d]
  exact msk_cg (fun k hk => by unfold nx2; rw [lo_bf, ← bf_cg b k hk])
theorem cnt_d : ∀ b0 b1 b2 b3 : Bool, cntb (bf b0 b1 b2 b3) 4 ≤ 2 → ∀ c, c < 4 → bf b0 b1 b2 b3 c = true → c = lo (bf b0 b1 b2 b3) ∨ c = lo (nx2 (bf b0 b1 b2 b3)) := by decide +kernel
theorem lb_s {x : Int32} {n w : Nat} (hw : w < 4) : f_X8_lowestBit_L2 x (n + 1) (nI w) = if hb x w = true then some (nI w) else f_X8_lowestBit_L2 x n (nI (w + 1)) := by
  show (if 4 ≤ nI w then some (nI w) else ((f_X8_hasBit x (nI w)).bind fun q1 => if q1 = 0 then f_X8_lowestBit_L2 x n (nI w + 1) else some (nI w))) = _
  rw [if_neg (show ¬ (4 : Int32) ≤ nI w from nI_ge (b := 4) hw (by decide)), bs_b (k_hasBit x w), nI_1]
  by_cases e : hb x w = true
  · rw [if_pos e, if_pos e, if_neg (show ¬ (1 : Int32) = 0 by decide)]
  · rw [if_neg e, if_neg e, if_pos rfl]
theorem k_low (b : Nat → Bool) : f_X8_lowestBit (msk b 4) = some (nI (lo b)) := by
  obtain ⟨n, hn⟩ : ∃ n, fuel = n + 1 + 1 + 1 + 1 + 1 := ⟨fuel - 5, by unfold fuel; omega⟩
  unfold f_X8_lowestBit
  rw [hn, show (0 : Int32) = nI 0 from rfl, lb_s (by decide), lb_s (by decide), lb_s (by decide), lb_s (by decide), hb_m4 (by decide), hb_m4 (by decide), hb_m4 (by decide), hb_m4 (by decide)]
  unfold lo
  by_cases h0 : b 0 = true
  · rw [if_pos h0, if_pos h0]; rfl
  · rw [if_neg h0, if_neg h0]
    by_cases h1 : b (0 + 1) = true
    · rw [if_pos h1, if_pos (show b 1 = true from h1)]; rfl
    · rw [if_neg h1, if_neg (show ¬ b 1 = true from h1)]
      by_cases h2 : b (0 + 1 + 1) = true
      · rw [if_pos h2, if_pos (show b 2 = true from h2)]; rfl
      · rw [if_neg h2, if_neg (show ¬ b 2 = true from h2)]
        by_cases h3 : b (0 + 1 + 1 + 1) = true
        · rw [if_pos h3, if_pos (show b 3 = true from h3)]; rfl
        · rw [if_neg h3, if_neg (show ¬ b 3 = true from h3)]
          show ((if 4 ≤ nI 4 then some (nI 4) else _).bind fun q2 => some q2) = _
          rw [if_pos (show (4 : Int32) ≤ nI 4 by decide)]
          rfl
theorem msk_and {u : Nat → Bool} {y : Int32} : msk u 4 &&& y = msk (fun c => u c && hb y c) 4 := by
  refine eq_hb (fun i hi => ?_)
  rw [hb_and _ _ hi, hb_msk (by decide) hi, hb_msk (by decide) hi, Bool.and_assoc]
theorem ftv_b {row : Nat → Int32} {unk : Nat → Bool} {L : List Nat} {a v w w' : Nat} (hL : ∀ t ∈ L, vC t) : ftv row unk L a 4 v w = ftv row unk L a 4 v w' :=
  tv_cg hL (fun c hc => by
    unfold mix
    by_cases e : c = a
    · rw [if_pos e, if_pos e]
    · rw [if_neg e, if_neg e, if_neg (by omega), if_neg (by omega)]) (fun _ _ => rfl)
theorem ftv_a {row : Nat → Int32} {unk : Nat → Bool} {L : List Nat} {b v w v' : Nat} (hL : ∀ t ∈ L, vC t) : ftv row unk L 4 b v w = ftv row unk L 4 b v' w :=
  tv_cg hL (fun c hc => by unfold mix; rw [if_neg (show ¬ c = 4 by omega), if_neg (show ¬ c = 4 by omega)]) (fun _ _ => rfl)
abbrev SY : List Nat := [10, 12, 13, 14, 15]
theorem k_c105 {R : Rem} {P : Pool} {k a b n2 v sz : Nat} {L : List Nat} {row : Nat → Int32} {x2 x3 y4 y6 y10 : Int32} {I0 : Mem} {vals : Nat → Nat} (hF : FObj I0 R P k L) (hV : fV L) (h10 : Ln P 10 = 4) (hab : a ≠ b ∨ b = 4) (hb4 : b ≤ 4) (hsz : I0 16 2 = nI sz) (hsz2 : sz ≤ 100) (hvals : ∀ i, i < sz → I0 18 i = nI (vals i)) (hn2 : n2 = if b = 4 then 1 else sz) :
    ∀ (d w n : Nat) (w8 w9 : Int32) (A B : Prop) (I : Mem), w + d = n2 → d < n → FL w8 A → FL w9 B → Eqx SY I0 I → (∀ j, j < 4 → j ≠ a → j ≠ b → I 10 j = row j) → (a < 4 → I 10 a = nI v) →
    ∃ w8' w9' I', f_X8_certainty_L105 (some k) x2 x3 P y4 (nI b) y6 (nI n2) y10 R n w8 w9 (nI w) I = some (w8', w9', I') ∧ FL w8' (A ∨ ∃ j, w ≤ j ∧ j < n2 ∧ ftv row (hb x2) L a b v (vals j) = 2) ∧ FL w9' (B ∨ ∃ j, w ≤ j ∧ j < n2 ∧ ¬ ftv row (hb x2) L a b v (vals j) = 2) ∧ Eqx SY I0 I' ∧ (∀ j, j < 4 → j ≠ a → j ≠ b → I' 10 j = row j) := by
  have hn100 : n2 ≤ 100 := by rw [hn2]; split <;> omega
  intro d
  induction d with
  | zero =>
    intro w n w8 w9 A B I hd hn hA hB hE hr hra
    obtain ⟨n, rfl⟩ : ∃ m, n = m + 1 := ⟨n - 1, by omega⟩
    refine ⟨w8, w9, I, ?_, hA.cg ⟨Or.inl, fun h => h.resolve_right (fun ⟨j, h1, h2, _⟩ => by omega)⟩, hB.cg ⟨Or.inl, fun h => h.resolve_right (fun ⟨j, h1, h2, _⟩ => by omega)⟩, hE, hr⟩
    unfold f_X8_certainty_L105
    rw [if_pos (nI_le (by omega) (by omega))]
  | succ d ih =>
    intro w n w8 w9 A B I hd hn hA hB hE hr hra
    obtain ⟨n, rfl⟩ : ∃ m, n = m + 1 := ⟨n - 1, by omega⟩
    have hw : w < n2 := by omega
    -- one pair of values on trial
    have body : ∃ I1, ((if 4 ≤ nI b then some I else ((f_X0_valueAt (nI w) I).bind fun q11 => (wr I 10 4 (nI b) q11).bind fun I12 => some I12)) : Option Mem) = some I1 ∧ Eqx SY I0 I1 ∧ ∀ j, j < 4 → I1 10 j = mix row a v b (vals w) j := by
      by_cases e : b = 4
      · refine ⟨I, by rw [if_pos (show (4 : Int32) ≤ nI b by rw [e]; decide)], hE, fun j hj => ?_⟩
        unfold mix
        by_cases ea : j = a
        · rw [if_pos ea, ea]; exact hra (by omega)
        · rw [if_neg ea, if_neg (by omega)]; exact hr j hj ea (by omega)
      · rw [if_neg e] at hn2
        have hval : f_X0_valueAt (nI w) I = some (nI (vals w)) := by
          unfold f_X0_valueAt
          rw [if_neg (nI_pos (by omega)), hE 16 (by decide), hsz, if_neg (nI_ge (by omega) (by omega)), bs_b (rd_e w rfl (by omega) (by decide)), hE 18 (by decide), hvals w (by omega)]
        refine ⟨up I 10 b (nI (vals w)), ?_, hE.tr (Eqx.up (by decide)), fun j hj => ?_⟩
        · rw [if_neg (show ¬ (4 : Int32) ≤ nI b from nI_ge (b := 4) (by omega) (by decide)), bs_b hval, bs_b (wr_e b rfl (by omega) (by decide))]
        · unfold mix
          by_cases eb : j = b
          · rw [eb, up_eq, if_neg (show ¬ b = a from fun h => (hab.resolve_right e) h.symm), if_pos rfl]
          · rw [up_nk _ _ eb, if_neg eb]
            by_cases ea : j = a
            · rw [if_pos ea, ea]; exact hra (by omega)
            · rw [if_neg ea]; exact hr j hj ea eb
    obtain ⟨I1, b1, b2, b3⟩ := body
    obtain ⟨I2, c1, c2⟩ := k_truth (x := x2) (I := I1) h10 (show 10 ∉ [12, 13, 14, 15] by decide) (hF.eqx b2 (by decide)) hV
    have htv : tv (I1 10) (hb x2) L = ftv row (hb x2) L a b v (vals w) := tv_cg hV.1 b3 (fun _ _ => rfl)
    rw [htv] at c1
    have hE2 : Eqx SY I0 I2 := b2.tr (c2.mono (by decide))
    have hr2 : ∀ j, j < 4 → j ≠ a → j ≠ b → I2 10 j = row j := fun j hj h1 h2 => by
      rw [c2 10 (by decide), b3 j hj]; unfold mix; rw [if_neg h1, if_neg h2]
    have hra2 : a < 4 → I2 10 a = nI v := fun h => by
      rw [c2 10 (by decide), b3 a h]; unfold mix; rw [if_pos rfl]
    have go : ∃ w8' w9' I', ((((if 4 ≤ nI b then some I else ((f_X0_valueAt (nI w) I).bind fun q11 => (wr I 10 4 (nI b) q11).bind fun I12 => some I12)) : Option Mem).bind fun q10 => (f_X1_truthOf (some k) 10 x2 P R q10).bind fun q13 => if q13.1 = 2 then f_X8_certainty_L105 (some k) x2 x3 P y4 (nI b) y6 (nI n2) y10 R n 1 w9 (nI w + 1) q13.2 else f_X8_certainty_L105 (some k) x2 x3 P y4 (nI b) y6 (nI n2) y10 R n w8 1 (nI w + 1) q13.2) : Option (Int32 × Int32 × Mem)) = some (w8', w9', I') ∧ FL w8' (A ∨ ∃ j, w ≤ j ∧ j < n2 ∧ ftv row (hb x2) L a b v (vals j) = 2) ∧ FL w9' (B ∨ ∃ j, w ≤ j ∧ j < n2 ∧ ¬ ftv row (hb x2) L a b v (vals j) = 2) ∧ Eqx SY I0 I' ∧ (∀ j, j < 4 → j ≠ a → j ≠ b → I' 10 j = row j) := by
      rw [bs_b b1, bs_b c1]
      dsimp only
      rw [nI_1]
      have ex : ∀ (Pr : Nat → Prop) (Z : Prop), ((Z ∨ Pr w) ∨ ∃ j, w + 1 ≤ j ∧ j < n2 ∧ Pr j) ↔ (Z ∨ ∃ j, w ≤ j ∧ j < n2 ∧ Pr j) := fun Pr Z => by
        constructor
        · rintro ((h | h) | ⟨j, h1, h2, h3⟩)
          · exact Or.inl h
          · exact Or.inr ⟨w, Nat.le_refl _, hw, h⟩
          · exact Or.inr ⟨j, by omega, h2, h3⟩
        · rintro (h | ⟨j, h1, h2, h3⟩)
          · exact Or.inl (Or.inl h)
          · by_cases e : j = w
            · rw [e] at h3; exact Or.inl (Or.inr h3)
            · exact Or.inr ⟨j, by omega, h2, h3⟩
      by_cases e : ftv row (hb x2) L a b v (vals w) = 2
      · rw [if_pos e]
        obtain ⟨w8', w9', I', g1, g2, g3, g4, g5⟩ := ih (w + 1) n 1 w9 (A ∨ ftv row (hb x2) L a b v (vals w) = 2) (B ∨ ¬ ftv row (hb x2) L a b v (vals w) = 2) I2 (by omega) (by omega) (FL.y (Or.inr e)) (hB.cg ⟨Or.inl, fun h => h.resolve_right (fun h => h e)⟩) hE2 hr2 hra2
        exact ⟨w8', w9', I', g1, g2.cg (ex (fun j => ftv row (hb x2) L a b v (vals j) = 2) A), g3.cg (ex (fun j => ¬ ftv row (hb x2) L a b v (vals j) = 2) B), g4, g5⟩
      · rw [if_neg e]
        obtain ⟨w8', w9', I', g1, g2, g3, g4, g5⟩ := ih (w + 1) n w8 1 (A ∨ ftv row (hb x2) L a b v (vals w) = 2) (B ∨ ¬ ftv row (hb x2) L a b v (vals w) = 2) I2 (by omega) (by omega) (hA.cg ⟨Or.inl, fun h => h.resolve_right e⟩) (FL.y (Or.inr e)) hE2 hr2 hra2
        exact ⟨w8', w9', I', g1, g2.cg (ex (fun j => ftv row (hb x2) L a b v (vals j) = 2) A), g3.cg (ex (fun j => ¬ ftv row (hb x2) L a b v (vals j) = 2) B), g4, g5⟩
    unfold f_X8_certainty_L105
    rw [if_neg (nI_ge hw (by omega))]
    by_cases e8 : w8 = 0
    · rw [if_pos e8]
      exact go
    · rw [if_neg e8]
      by_cases e9 : w9 = 0
      · rw [if_pos e9]
        exact go
      · rw [if_neg e9]
        have tA : A := by rcases hA with h | h; exact h.2; exact absurd h.1 e8
        have tB : B := by rcases hB with h | h; exact h.2; exact absurd h.1 e9
        exact ⟨w8, w9, I, rfl, hA.cg ⟨Or.inl, fun _ => tA⟩, hB.cg ⟨Or.inl, fun _ => tB⟩, hE, hr⟩
theorem k_c63 {R : Rem} {P : Pool} {k a b n1 n2 sz : Nat} {L : List Nat} {row : Nat → Int32} {x2 x3 : Int32} {I0 : Mem} {vals : Nat → Nat} (hF : FObj I0 R P k L) (hV : fV L) (h10 : Ln P 10 = 4) (hab : a ≠ b ∨ b = 4) (ha4 : a ≤ 4) (hb4 : b ≤ 4) (hsz : I0 16 2 = nI sz) (hsz2 : sz ≤ 100) (hvals : ∀ i, i < sz → I0 18 i = nI (vals i)) (hn1 : n1 = if a = 4 then 1 else sz) (hn2 : n2 = if b = 4 then 1 else sz) :
    ∀ (d w n : Nat) (w8 w9 : Int32) (A B : Prop) (I : Mem), w + d = n1 → d < n → FL w8 A → FL w9 B → Eqx SY I0 I → (∀ j, j < 4 → j ≠ a → j ≠ b → I 10 j = row j) →
    ∃ w8' w9' I', f_X8_certainty_L63 (some k) x2 x3 P (nI a) (nI b) (nI n1) (nI n2) R n w8 w9 (nI w) I = some (w8', w9', I') ∧ FL w8' (A ∨ ∃ i j, w ≤ i ∧ i < n1 ∧ j < n2 ∧ ftv row (hb x2) L a b (vals i) (vals j) = 2) ∧ FL w9' (B ∨ ∃ i j, w ≤ i ∧ i < n1 ∧ j < n2 ∧ ¬ ftv row (hb x2) L a b (vals i) (vals j) = 2) ∧ Eqx SY I0 I' := by
  have hn100 : n1 ≤ 100 := by rw [hn1]; split <;> omega
  have hn100' : n2 ≤ 100 := by rw [hn2]; split <;> omega
  intro d
  induction d with
  | zero =>
    intro w n w8 w9 A B I hd hn hA hB hE hr
    obtain ⟨n, rfl⟩ : ∃ m, n = m + 1 := ⟨n - 1, by omega⟩
    refine ⟨w8, w9, I, ?_, hA.cg ⟨Or.inl, fun h => h.resolve_right (fun ⟨i, j, h1, h2, _⟩ => by omega)⟩, hB.cg ⟨Or.inl, fun h => h.resolve_right (fun ⟨i, j, h1, h2, _⟩ => by omega)⟩, hE⟩
    unfold f_X8_certainty_L63
    rw [if_pos (nI_le (by omega) (by omega))]
  | succ d ih =>
    intro w n w8 w9 A B I hd hn hA hB hE hr
    obtain ⟨n, rfl⟩ : ∃ m, n = m + 1 := ⟨n - 1, by omega⟩
    have hw : w < n1 := by omega
    have body : ∃ I1, ((if 4 ≤ nI a then some I else ((f_X0_valueAt (nI w) I).bind fun q8 => (wr I 10 4 (nI a) q8).bind fun I9 => some I9)) : Option Mem) = some I1 ∧ Eqx SY I0 I1 ∧ (∀ j, j < 4 → j ≠ a → j ≠ b → I1 10 j = row j) ∧ (a < 4 → I1 10 a = nI (vals w)) := by
      by_cases e : a = 4
      · exact ⟨I, by rw [if_pos (show (4 : Int32) ≤ nI a by rw [e]; decide)], hE, hr, fun h => by omega⟩
      · rw [if_neg e] at hn1
        have hval : f_X0_valueAt (nI w) I = some (nI (vals w)) := by
          unfold f_X0_valueAt
          rw [if_neg (nI_pos (by omega)), hE 16 (by decide), hsz, if_neg (nI_ge (by omega) (by omega)), bs_b (rd_e w rfl (by omega) (by decide)), hE 18 (by decide), hvals w (by omega)]
        refine ⟨up I 10 a (nI (vals w)), ?_, hE.tr (Eqx.up (by decide)), fun j hj h1 h2 => by rw [up_nk _ _ h1]; exact hr j hj h1 h2, fun _ => up_eq _ _ _ _⟩
        rw [if_neg (show ¬ (4 : Int32) ≤ nI a from nI_ge (b := 4) (by omega) (by decide)), bs_b hval, bs_b (wr_e a rfl (by omega) (by decide))]
    obtain ⟨I1, b1, b2, b3, b4⟩ := body
    have go : ∃ w8' w9' I', ((((if 4 ≤ nI a then some I else ((f_X0_valueAt (nI w) I).bind fun q8 => (wr I 10 4 (nI a) q8).bind fun I9 => some I9)) : Option Mem).bind fun q7 => (f_X8_certainty_L105 (some k) x2 x3 P (nI a) (nI b) (nI n1) (nI n2) (nI w) R fuel w8 w9 0 q7).bind fun q18 => f_X8_certainty_L63 (some k) x2 x3 P (nI a) (nI b) (nI n1) (nI n2) R n q18.1 q18.2.1 (nI w + 1) q18.2.2) : Option (Int32 × Int32 × Mem)) = some (w8', w9', I') ∧ FL w8' (A ∨ ∃ i j, w ≤ i ∧ i < n1 ∧ j < n2 ∧ ftv row (hb x2) L a b (vals i) (vals j) = 2) ∧ FL w9' (B ∨ ∃ i j, w ≤ i ∧ i < n1 ∧ j < n2 ∧ ¬ ftv row (hb x2) L a b (vals i) (vals j) = 2) ∧ Eqx SY I0 I' := by
      obtain ⟨v8, v9, I2, c1, c2, c3, c4, c5⟩ := k_c105 (v := vals w) (x2 := x2) (x3 := x3) (y4 := nI a) (y6 := nI n1) (y10 := nI w) hF hV h10 hab hb4 hsz hsz2 hvals hn2 n2 0 fuel w8 w9 A B I1 (by omega) (by unfold fuel; omega) hA hB b2 b3 b4
      obtain ⟨w8', w9', I', g1, g2, g3, g4⟩ := ih (w + 1) n v8 v9 _ _ I2 (by omega) (by omega) c2 c3 c4 c5
      have ex : ∀ (Pr : Nat → Nat → Prop) (Z : Prop), ((Z ∨ ∃ j, 0 ≤ j ∧ j < n2 ∧ Pr w j) ∨ ∃ i j, w + 1 ≤ i ∧ i < n1 ∧ j < n2 ∧ Pr i j) ↔ (Z ∨ ∃ i j, w ≤ i ∧ i < n1 ∧ j < n2 ∧ Pr i j) := fun Pr Z => by
        constructor
        · rintro ((h | ⟨j, -, h2, h3⟩) | ⟨i, j, h1, h2, h3, h4⟩)
          · exact Or.inl h
          · exact Or.inr ⟨w, j, Nat.le_refl _, hw, h2, h3⟩
          · exact Or.inr ⟨i, j, by omega, h2, h3, h4⟩
        · rintro (h | ⟨i, j, h1, h2, h3, h4⟩)
          · exact Or.inl (Or.inl h)
          · by_cases e : i = w
            · rw [e] at h4; exact Or.inl (Or.inr ⟨j, Nat.zero_le _, h3, h4⟩)
            · exact Or.inr ⟨i, j, by omega, h2, h3, h4⟩
      refine ⟨w8', w9', I', ?_, g2.cg (ex (fun i j => ftv row (hb x2) L a b (vals i) (vals j) = 2) A), g3.cg (ex (fun i j => ¬ ftv row (hb x2) L a b (vals i) (vals j) = 2) B), g4⟩
      rw [bs_b b1, bs_b (show f_X8_certainty_L105 (some k) x2 x3 P (nI a) (nI b) (nI n1) (nI n2) (nI w) R fuel w8 w9 0 I1 = some (v8, v9, I2) from c1)]
      dsimp only
      rw [nI_1]
      exact g1
    unfold f_X8_certainty_L63
    rw [if_neg (nI_ge hw (by omega))]
    by_cases e8 : w8 = 0
    · rw [if_pos e8]
      exact go
    · rw [if_neg e8]
      by_cases e9 : w9 = 0
      · rw [if_pos e9]
        exact go
      · rw [if_neg e9]
        have tA : A := by rcases hA with h | h; exact h.2; exact absurd h.1 e8
        have tB : B := by rcases hB with h | h; exact h.2; exact absurd h.1 e9
        exact ⟨w8, w9, I, rfl, hA.cg ⟨Or.inl, fun _ => tA⟩, hB.cg ⟨Or.inl, fun _ => tB⟩, hE⟩
/-- the class's certainty over the listed candidates -/
theorem k_certy {I : Mem} {R : Rem} {P : Pool} {k sz : Nat} {L : List Nat} {row : Nat → Int32} {x2 : Int32} {b : Nat → Bool} (hF : FObj I R P k L) (hV : fV L) (h10 : Ln P 10 = 4) (hrow : ∀ j, j < 4 → I 10 j = row j) (hok : ∀ j, j < 4 → cok (row j)) (hLC : LCd I (mkd (cbs row L)) sz 100) :
    ∃ I' w8 w9, f_X8_certainty (some k) x2 (msk b 4) P R I = some (if w8 = 0 then 0 else if w9 = 0 then 2 else 1, I') ∧ Eqx SY I I' ∧ FL w8 (∃ v w, v < 100 ∧ w < 100 ∧ ftv row (hb x2) L (lo b) (lo (nx2 b)) v w = 2) ∧ FL w9 (∃ v w, v < 100 ∧ w < 100 ∧ ¬ ftv row (hb x2) L (lo b) (lo (nx2 b)) v w = 2) := by
  obtain ⟨l1, l2, l3, l4⟩ := hLC
  have ha4 := lo_le b
  have hb4 := lo_le (nx2 b)
  have hab : lo b ≠ lo (nx2 b) ∨ lo (nx2 b) = 4 := by
    by_cases e : lo (nx2 b) = 4
    · exact Or.inr e
    · have := lo_t (b := nx2 b) (by omega)
      unfold nx2 at this
      simp only [Bool.and_eq_true, decide_eq_true_eq] at this
      exact Or.inl (by have := this.2; unfold nx2; omega)
  have ha_b : lo b = 4 → lo (nx2 b) = 4 := fun h => by
    by_cases e : lo (nx2 b) = 4
    · exact e
    · have h2 := lo_t (b := nx2 b) (by omega)
      unfold nx2 at h2
      simp only [Bool.and_eq_true, decide_eq_true_eq] at h2
      have h3 : lo (nx2 b) ≤ 4 := hb4
      unfold nx2 at h3 e
      omega
  obtain ⟨vals, hvals0⟩ : ∃ vals : Nat → Nat, ∀ i, i < sz → vals i < 100 ∧ I 18 i = nI (vals i) := ⟨fun i => (I 18 i).toNatClampNeg, fun i hi => by
    obtain ⟨v, v1, v2, v3⟩ := l3 i hi
    have hv : (I 18 i).toNatClampNeg = v := by rw [v3, nI_clamp (by omega)]
    show (I 18 i).toNatClampNeg < 100 ∧ I 18 i = nI (I 18 i).toNatClampNeg
    rw [hv]
    exact ⟨v1, v3⟩⟩
  have hvals : ∀ i, i < sz → I 18 i = nI (vals i) := fun i hi => (hvals0 i hi).2
  have hget : ∀ u, mkd (cbs row L) u → ∃ i, i < sz ∧ vals i = u := fun u hu => by
    obtain ⟨i, i1, i2⟩ := l4 u hu.1 hu
    refine ⟨i, i1, ?_⟩
    have h1 := (hvals0 i i1).1
    have h2 := hu.1
    rw [hvals i i1, nI_eq (by omega) (by omega)] at i2
    exact i2
  have hsz1 : 1 ≤ sz := by
    obtain ⟨i, i1, -⟩ := hget 0 ⟨by decide, 0, Or.inl rfl, Nat.le_refl _, by decide⟩
    omega
  obtain ⟨n1, hn1⟩ : ∃ n1, n1 = if lo b = 4 then 1 else sz := ⟨_, rfl⟩
  obtain ⟨n2, hn2⟩ : ∃ n2, n2 = if lo (nx2 b) = 4 then 1 else sz := ⟨_, rfl⟩
  have hn1s : n1 ≤ sz := by rw [hn1]; split <;> omega
  have hn2s : n2 ≤ sz := by rw [hn2]; split <;> omega
  obtain ⟨w8, w9, I', c1, c2, c3, c4⟩ := k_c63 (x2 := x2) (x3 := msk b 4) (row := row) hF hV h10 hab ha4 hb4 l1 l2 hvals hn1 hn2 n1 0 fuel 0 0 False False I (by omega) (by unfold fuel; omega) (FL.n (fun h => h)) (FL.n (fun h => h)) Eqx.rf (fun j hj _ _ => hrow j hj)
  have ex : ∀ Pr : Int32 → Prop, (False ∨ ∃ i j, 0 ≤ i ∧ i < n1 ∧ j < n2 ∧ Pr (ftv row (hb x2) L (lo b) (lo (nx2 b)) (vals i) (vals j))) ↔ ∃ v w, v < 100 ∧ w < 100 ∧ Pr (ftv row (hb x2) L (lo b) (lo (nx2 b)) v w) := fun Pr => by
    constructor
    · rintro (h | ⟨i, j, -, h2, h3, h4⟩)
      · exact absurd h (fun h => h)
      · exact ⟨vals i, vals j, (hvals0 i (by omega)).1, (hvals0 j (by omega)).1, h4⟩
    · rintro ⟨v, w, h1, h2, h3⟩
      obtain ⟨u, z, u1, z1, e⟩ := ftv_small (unk := hb x2) (a := lo b) (b := lo (nx2 b)) hok hV.1 h1 h2
      rw [← e] at h3
      obtain ⟨i, i1, rfl⟩ := hget u u1
      obtain ⟨j, j1, rfl⟩ := hget z z1
      have hj : ∃ j', j' < n2 ∧ ftv row (hb x2) L (lo b) (lo (nx2 b)) (vals i) (vals j') = ftv row (hb x2) L (lo b) (lo (nx2 b)) (vals i) (vals j) := by
        by_cases e4 : lo (nx2 b) = 4
        · refine ⟨0, by rw [hn2, if_pos e4]; decide, ?_⟩
          rw [e4]
          exact ftv_b hV.1
        · exact ⟨j, by rw [hn2, if_neg e4]; exact j1, rfl⟩
      obtain ⟨j', j2, j3⟩ := hj
      have hi : ∃ i', i' < n1 ∧ ftv row (hb x2) L (lo b) (lo (nx2 b)) (vals i') (vals j') = ftv row (hb x2) L (lo b) (lo (nx2 b)) (vals i) (vals j') := by
        by_cases e4 : lo b = 4
        · refine ⟨0, by rw [hn1, if_pos e4]; decide, ?_⟩
          rw [e4]
          exact ftv_a hV.1
        · exact ⟨i, by rw [hn1, if_neg e4]; exact i1, rfl⟩
      obtain ⟨i', i2, i3⟩ := hi
      exact Or.inr ⟨i', j', Nat.zero_le _, i2, j2, by rw [i3, j3]; exact h3⟩
  refine ⟨I', w8, w9, ?_, c4, c2.cg (ex (fun x => x = 2)), c3.cg (ex (fun x => ¬ x = 2))⟩
  have q3 : ((if 4 ≤ nI (lo b) then some 1 else ((f_X0_size I).bind fun q4 => some q4)) : Option Int32) = some (nI n1) := by
    by_cases e4 : lo b = 4
    · rw [hn1, if_pos e4, if_pos (show (4 : Int32) ≤ nI (lo b) by rw [e4]; decide)]; rfl
    · rw [hn1, if_neg e4, if_neg (show ¬ (4 : Int32) ≤ nI (lo b) from nI_ge (b := 4) (by omega) (by decide)), bs_b (show f_X0_size I = some (nI sz) by unfold f_X0_size; rw [l1])]
  have q5 : ((if 4 ≤ nI (lo (nx2 b)) then some 1 else ((f_X0_size I).bind fun q6 => some q6)) : Option Int32) = some (nI n2) := by
    by_cases e4 : lo (nx2 b) = 4
    · rw [hn2, if_pos e4, if_pos (show (4 : Int32) ≤ nI (lo (nx2 b)) by rw [e4]; decide)]; rfl
    · rw [hn2, if_neg e4, if_neg (show ¬ (4 : Int32) ≤ nI (lo (nx2 b)) from nI_ge (b := 4) (by omega) (by decide)), bs_b (show f_X0_size I = some (nI sz) by unfold f_X0_size; rw [l1])]
  unfold f_X8_certainty
  rw [bs_b (k_low b), low_n, bs_b (k_low (nx2 b)), bs_b q3, bs_b q5, bs_b (show f_X8_certainty_L63 (some k) x2 (msk b 4) P (nI (lo b)) (nI (lo (nx2 b))) (nI n1) (nI n2) R fuel 0 0 0 I = some (w8, w9, I') from c1)]
  dsimp only
  by_cases e8 : w8 = 0
  · rw [if_pos e8, if_pos e8, if_pos e8]
  · rw [if_neg e8, if_neg e8]
    by_cases e9 : w9 = 0
    · rw [if_pos e9, if_neg e8, if_pos e9]
    · rw [if_neg e9, if_neg e9, if_neg e8]
end MB37
