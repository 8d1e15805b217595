/-! PURE PART 39: how certain a filter is, in the reference; certain. -/
section MB38
def st3 (bc : Bool) (c : Int32) (s : Int32 × Int32 × Int32) : Int32 × Int32 × Int32 := if bc = true then ((if s.2.2 = 0 then c else s.1), (if s.2.2 = 1 then c else s.2.1), s.2.2 + 1) else s
theorem r_cA_s {x1 x2 x3 y4 : Int32} {I : Mem} {n c : Nat} {s : Int32 × Int32 × Int32} {bc : Bool} (hc : c < 4) (hb1 : bc = (decide (I 76 c = -1) && hb y4 c)) : f_X9_certainAt_L27 x1 x2 x3 y4 I (n + 1) s.1 s.2.1 s.2.2 (nI c) = f_X9_certainAt_L27 x1 x2 x3 y4 I n (st3 bc (nI c) s).1 (st3 bc (nI c) s).2.1 (st3 bc (nI c) s).2.2 (nI (c + 1)) := by
  conv => lhs; unfold f_X9_certainAt_L27
  rw [if_neg (show ¬ (4 : Int32) ≤ nI c from nI_ge (b := 4) hc (by decide)), nI_1]
  unfold st3
  by_cases e1 : hb y4 c = true
  · rw [if_pos (hb_iff.mpr e1), bs_b (rd_e c rfl hc (by decide))]
    by_cases e2 : I 76 c = -1
    · rw [if_pos e2, if_pos (show bc = true by rw [hb1, e1]; simp [e2])]
      by_cases e3 : s.2.2 = 1
      · rw [if_pos e3, bs_b rfl]
        by_cases e4 : s.2.2 = 0
        · rw [e3] at e4; exact absurd e4 (by decide)
        · simp only [if_neg e4, if_pos e3]
      · rw [if_neg e3, bs_b rfl]
        by_cases e4 : s.2.2 = 0
        · simp only [if_pos e4, if_neg e3]
        · simp only [if_neg e4, if_neg e3]
    · rw [if_neg e2, if_neg (show ¬ bc = true by rw [hb1]; simp [e2])]
  · rw [if_neg (fun h => e1 (hb_iff.mp h)), if_neg (show ¬ bc = true by rw [hb1]; simp [e1])]
def tw (a : Nat) : Int32 := if a < 4 then nI a else -2
theorem st3_d : ∀ b0 b1 b2 b3 : Bool, st3 b3 3 (st3 b2 2 (st3 b1 1 (st3 b0 0 (-2, -2, 0)))) = (tw (lo (bf b0 b1 b2 b3)), tw (lo (nx2 (bf b0 b1 b2 b3))), nI (cntb (bf b0 b1 b2 b3) 4)) := by decide +kernel
theorem lo_cg {b b2 : Nat → Bool} (h : ∀ k, k < 4 → b k = b2 k) : lo b = lo b2 := by
  unfold lo
  rw [h 0 (by decide), h 1 (by decide), h 2 (by decide), h 3 (by decide)]
theorem nx2_cg {b b2 : Nat → Bool} (h : ∀ k, k < 4 → b k = b2 k) : ∀ k, k < 4 → nx2 b k = nx2 b2 k := fun k hk => by
  unfold nx2
  rw [h k hk, lo_cg h]
theorem r_cA {x1 x2 x3 y4 : Int32} {I : Mem} {b : Nat → Bool} (hb1 : ∀ c, c < 4 → b c = (decide (I 76 c = -1) && hb y4 c)) : f_X9_certainAt_L27 x1 x2 x3 y4 I fuel (-2) (-2) 0 0 = some (tw (lo b), tw (lo (nx2 b)), nI (cntb b 4)) := by
  obtain ⟨n, hn⟩ : ∃ n, fuel = n + 1 + 1 + 1 + 1 + 1 := ⟨fuel - 5, by unfold fuel; omega⟩
  rw [hn]
  have h0 := r_cA_s (x1 := x1) (x2 := x2) (x3 := x3) (n := n + 1 + 1 + 1 + 1) (s := (-2, -2, 0)) (show 0 < 4 by decide) (hb1 0 (by decide))
  have h1 := r_cA_s (x1 := x1) (x2 := x2) (x3 := x3) (n := n + 1 + 1 + 1) (s := st3 (b 0) (nI 0) (-2, -2, 0)) (show 1 < 4 by decide) (hb1 1 (by decide))
  have h2 := r_cA_s (x1 := x1) (x2 := x2) (x3 := x3) (n := n + 1 + 1) (s := st3 (b 1) (nI 1) (st3 (b 0) (nI 0) (-2, -2, 0))) (show 2 < 4 by decide) (hb1 2 (by decide))
  have h3 := r_cA_s (x1 := x1) (x2 := x2) (x3 := x3) (n := n + 1) (s := st3 (b 2) (nI 2) (st3 (b 1) (nI 1) (st3 (b 0) (nI 0) (-2, -2, 0)))) (show 3 < 4 by decide) (hb1 3 (by decide))
  have h4 : ∀ s : Int32 × Int32 × Int32, f_X9_certainAt_L27 x1 x2 x3 y4 I (n + 1) s.1 s.2.1 s.2.2 (nI (3 + 1)) = some s := fun s => by
    unfold f_X9_certainAt_L27
    rw [if_pos (show (4 : Int32) ≤ nI (3 + 1) by decide)]
  refine ((((h0.trans h1).trans h2).trans h3).trans (h4 _)).trans ?_
  have hd := st3_d (b 0) (b 1) (b 2) (b 3)
  refine congrArg some ?_
  show st3 (b 3) 3 (st3 (b 2) 2 (st3 (b 1) 1 (st3 (b 0) 0 (-2, -2, 0)))) = _
  rw [hd, lo_bf, ← lo_cg (nx2_cg (bf_cg b)), ← cntb_cg (bf_cg b)]
/-! all values -/
theorem tw_y {a : Nat} (h : a < 4) : tw a = nI a := if_pos h
theorem tw_n {a : Nat} (h : ¬ a < 4) : tw a = -2 := if_neg h
def cnd (a b w : Nat) : Prop := (a < 4 ∨ w % 100 = 0) ∧ (b < 4 ∨ w / 100 = 0)
theorem q5_c {a b w : Nat} (hw : w < 10000) (h : Decidable (cnd a b w)) : ((if 0 ≤ tw a then (if 0 ≤ tw b then some 1 else (if (nI w / 100) = 0 then some 1 else some 0)) else (if (nI w - nI w / 100 * 100) = 0 then (if 0 ≤ tw b then some 1 else (if (nI w / 100) = 0 then some 1 else some 0)) else some 0)) : Option Int32) = some (if cnd a b w then 1 else 0) := by
  have eD : nI w / 100 = nI (w / 100) := pk_div (d := 100) (by omega) (by decide) (by decide)
  have eR : nI w - nI w / 100 * 100 = nI (w % 100) := pk_rem (d := 100) (by omega) (by decide) (by decide)
  have zD : (nI (w / 100) = 0) ↔ w / 100 = 0 := nI_eq (b := 0) (by omega) (by decide)
  have zR : (nI (w % 100) = 0) ↔ w % 100 = 0 := nI_eq (b := 0) (by omega) (by decide)
  have sg1 : ∀ c, c < 4 → (0 : Int32) ≤ tw c := fun c hc => by rw [tw_y hc]; exact nI_le (a := 0) (Nat.zero_le _) (by omega)
  have sg2 : ∀ c, ¬ c < 4 → ¬ (0 : Int32) ≤ tw c := fun c hc => by rw [tw_n hc]; decide
  rw [eR, eD]
  by_cases a4 : a < 4
  · rw [if_pos (sg1 a a4)]
    by_cases b4 : b < 4
    · rw [if_pos (sg1 b b4), if_pos ⟨Or.inl a4, Or.inl b4⟩]
    · rw [if_neg (sg2 b b4)]
      by_cases e : w / 100 = 0
      · rw [if_pos (zD.mpr e), if_pos ⟨Or.inl a4, Or.inr e⟩]
      · rw [if_neg (fun hh => e (zD.mp hh)), if_neg (fun hh => (hh.2.elim b4 e))]
  · rw [if_neg (sg2 a a4)]
    by_cases e0 : w % 100 = 0
    · rw [if_pos (zR.mpr e0)]
      by_cases b4 : b < 4
      · rw [if_pos (sg1 b b4), if_pos ⟨Or.inr e0, Or.inl b4⟩]
      · rw [if_neg (sg2 b b4)]
        by_cases e : w / 100 = 0
        · rw [if_pos (zD.mpr e), if_pos ⟨Or.inr e0, Or.inr e⟩]
        · rw [if_neg (fun hh => e (zD.mp hh)), if_neg (fun hh => (hh.2.elim b4 e))]
    · rw [if_neg (fun hh => e0 (zR.mp hh)), if_neg (fun hh => (hh.1.elim a4 e0))]
theorem FL.or1 {w : Int32} {P Q : Prop} (h : FL w P) (hQ : Q) : FL (w ||| 1) (P ∨ Q) := by
  rcases h with ⟨a, b⟩ | ⟨a, b⟩
  · rw [a]; exact Or.inl ⟨by decide, Or.inl b⟩
  · rw [a]; exact Or.inl ⟨by decide, Or.inr hQ⟩
theorem FL.or0 {w : Int32} {P Q : Prop} (h : FL w P) (hQ : ¬ Q) : FL (w ||| 0) (P ∨ Q) := by
  rw [or_z]
  exact h.cg ⟨Or.inl, fun h => h.resolve_right hQ⟩
theorem r_all_L {s a b : Nat} {L : List Nat} {row : Nat → Int32} {uk : Nat → Bool} {I0 : Mem} (hs : s < 8) (hF : FRf (I0 71) s L) (hV : fV L) (hab : a ≠ b ∨ b = 4) (ha4 : a ≤ 4) (hb4 : b ≤ 4) (huk : ∀ c, c < 4 → decide (I0 77 c = -1) = uk c) :
    ∀ (d w n : Nat) (w4 w5 : Int32) (A B : Prop) (I : Mem), w + d = 10000 → d < n → FL w4 A → FL w5 B → Eqx [70, 76, 78] I0 I → K11 I0 I → (∀ j, j < 4 → j ≠ a → j ≠ b → I 76 j = row j) →
    ∃ w4' w5' I', f_X9_forAll_L9 (nI s) (tw a) (tw b) n w4 w5 (nI w) I = some (w4', w5', I') ∧ FL w4' (A ∨ ∃ k, w ≤ k ∧ k < 10000 ∧ cnd a b k ∧ ftv row uk L a b (k % 100) (k / 100) = 2) ∧ FL w5' (B ∨ ∃ k, w ≤ k ∧ k < 10000 ∧ cnd a b k ∧ ftv row uk L a b (k % 100) (k / 100) = 0) ∧ Eqx [70, 76, 78] I0 I' ∧ K11 I0 I' := by
  intro d
  induction d with
  | zero =>
    intro w n w4 w5 A B I hd hn hA hB hE hK hr
    obtain ⟨n, rfl⟩ : ∃ m, n = m + 1 := ⟨n - 1, by omega⟩
    refine ⟨w4, w5, I, ?_, hA.cg ⟨Or.inl, fun h => h.resolve_right (fun ⟨k, h1, h2, _⟩ => by omega)⟩, hB.cg ⟨Or.inl, fun h => h.resolve_right (fun ⟨k, h1, h2, _⟩ => by omega)⟩, hE, hK⟩
    unfold f_X9_forAll_L9
    rw [if_pos (show (10000 : Int32) ≤ nI w from nI_le (a := 10000) (by omega) (by omega))]
  | succ d ih =>
    intro w n w4 w5 A B I hd hn hA hB hE hK hr
    obtain ⟨n, rfl⟩ : ∃ m, n = m + 1 := ⟨n - 1, by omega⟩
    have hw : w < 10000 := by omega
    have eD : nI w / 100 = nI (w / 100) := pk_div (d := 100) (by omega) (by decide) (by decide)
    have eR : nI w - nI w / 100 * 100 = nI (w % 100) := pk_rem (d := 100) (by omega) (by decide) (by decide)
    have p1 : ∃ I1, ((if tw a < 0 then some I else ((wr I 76 4 (tw a) (nI w - nI w / 100 * 100)).bind fun I2 => some I2)) : Option Mem) = some I1 ∧ Eqx [76] I I1 ∧ (∀ j, j < 4 → j ≠ a → I1 76 j = I 76 j) ∧ (a < 4 → I1 76 a = nI (w % 100)) := by
      by_cases e : a < 4
      · refine ⟨up I 76 a (nI (w % 100)), ?_, Eqx.up (by decide), fun j hj h1 => up_nk _ _ h1, fun _ => up_eq _ _ _ _⟩
        rw [tw_y e, if_neg (nI_pos (by omega)), eR, bs_b (wr_e a rfl e (by decide))]
      · exact ⟨I, by rw [tw_n e, if_pos (show (-2 : Int32) < 0 by decide)], Eqx.rf, fun j hj h1 => rfl, fun h => absurd h e⟩
    obtain ⟨I1, b1, b2, b3, b4⟩ := p1
    have p2 : ∃ I2, ((if tw b < 0 then some I1 else ((wr I1 76 4 (tw b) (nI w / 100)).bind fun I4 => some I4)) : Option Mem) = some I2 ∧ Eqx [76] I1 I2 ∧ (∀ j, j < 4 → j ≠ b → I2 76 j = I1 76 j) ∧ (b < 4 → I2 76 b = nI (w / 100)) := by
      by_cases e : b < 4
      · refine ⟨up I1 76 b (nI (w / 100)), ?_, Eqx.up (by decide), fun j hj h1 => up_nk _ _ h1, fun _ => up_eq _ _ _ _⟩
        rw [tw_y e, if_neg (nI_pos (by omega)), eD, bs_b (wr_e b rfl e (by decide))]
      · exact ⟨I1, by rw [tw_n e, if_pos (show (-2 : Int32) < 0 by decide)], Eqx.rf, fun j hj h1 => rfl, fun h => absurd h e⟩
    obtain ⟨I2, c1, c2, c3, c4⟩ := p2
    have hE2 : Eqx [70, 76, 78] I0 I2 := (hE.tr (b2.mono (by decide))).tr (c2.mono (by decide))
    have hK2 : K11 I0 I2 := fun j hj => by rw [c2 70 (by decide), b2 70 (by decide)]; exact hK j hj
    have hmix : ∀ j, j < 4 → I2 76 j = mix row a (w % 100) b (w / 100) j := fun j hj => by
      unfold mix
      by_cases ea : j = a
      · rw [if_pos ea, ea, c3 a (by omega) (by rcases hab with h | h <;> omega)]
        exact b4 (by omega)
      · rw [if_neg ea]
        by_cases eb : j = b
        · rw [if_pos eb, eb]; exact c4 (by omega)
        · rw [if_neg eb, c3 j hj eb, b3 j hj ea]; exact hr j hj ea eb
    have hr2 : ∀ j, j < 4 → j ≠ a → j ≠ b → I2 76 j = row j := fun j hj h1 h2 => by rw [c3 j hj h2, b3 j hj h1]; exact hr j hj h1 h2
    have ex : ∀ (Pr : Nat → Prop) (Z : Prop), ((Z ∨ (cnd a b w ∧ Pr w)) ∨ ∃ k, w + 1 ≤ k ∧ k < 10000 ∧ cnd a b k ∧ Pr k) ↔ (Z ∨ ∃ k, w ≤ k ∧ k < 10000 ∧ cnd a b k ∧ Pr k) := fun Pr Z => by
      constructor
      · rintro ((h | ⟨h, h'⟩) | ⟨j, h1, h2, h3⟩)
        · exact Or.inl h
        · exact Or.inr ⟨w, Nat.le_refl _, hw, h, h'⟩
        · exact Or.inr ⟨j, by omega, h2, h3⟩
      · rintro (h | ⟨j, h1, h2, h3⟩)
        · exact Or.inl (Or.inl h)
        · by_cases e : j = w
          · rw [e] at h3; exact Or.inl (Or.inr h3)
          · exact Or.inr ⟨j, by omega, h2, h3⟩
    have hdec : Decidable (cnd a b w) := by unfold cnd; infer_instance
    have next : ∀ (v4 v5 : Int32) (J : Mem), FL v4 (A ∨ (cnd a b w ∧ ftv row uk L a b (w % 100) (w / 100) = 2)) → FL v5 (B ∨ (cnd a b w ∧ ftv row uk L a b (w % 100) (w / 100) = 0)) → Eqx [70, 76, 78] I0 J → K11 I0 J → (∀ j, j < 4 → j ≠ a → j ≠ b → J 76 j = row j) → ∃ w4' w5' I', f_X9_forAll_L9 (nI s) (tw a) (tw b) n v4 v5 (nI w + 1) J = some (w4', w5', I') ∧ FL w4' (A ∨ ∃ k, w ≤ k ∧ k < 10000 ∧ cnd a b k ∧ ftv row uk L a b (k % 100) (k / 100) = 2) ∧ FL w5' (B ∨ ∃ k, w ≤ k ∧ k < 10000 ∧ cnd a b k ∧ ftv row uk L a b (k % 100) (k / 100) = 0) ∧ Eqx [70, 76, 78] I0 I' ∧ K11 I0 I' := by
      intro v4 v5 J h4 h5 hEJ hKJ hrJ
      obtain ⟨w4', w5', I', g1, g2, g3, g4, g5⟩ := ih (w + 1) n v4 v5 _ _ J (by omega) (by omega) h4 h5 hEJ hKJ hrJ
      exact ⟨w4', w5', I', by rw [nI_1]; exact g1, g2.cg (ex (fun k => ftv row uk L a b (k % 100) (k / 100) = 2) A), g3.cg (ex (fun k => ftv row uk L a b (k % 100) (k / 100) = 0) B), g4, g5⟩
    unfold f_X9_forAll_L9
    rw [if_neg (show ¬ (10000 : Int32) ≤ nI w from nI_ge (b := 10000) hw (by decide)), bs_b b1, bs_b c1, bs_b (q5_c hw hdec)]
    by_cases hcn : cnd a b w
    · obtain ⟨I3, d1, d2, d3⟩ := r_truth (I := I2) hs (by rw [hE2 71 (by decide)]; exact hF) hV
      have htv : tv (I2 76) (fun c => decide (I2 77 c = -1)) L = ftv row uk L a b (w % 100) (w / 100) := tv_cg hV.1 hmix (fun c hc => by rw [hE2 77 (by decide)]; exact huk c hc)
      rw [htv] at d1
      have hE3 : Eqx [70, 76, 78] I0 I3 := hE2.tr (d2.mono (by decide))
      have hK3 : K11 I0 I3 := fun j hj => (d3 j hj).trans (hK2 j hj)
      have hr3 : ∀ j, j < 4 → j ≠ a → j ≠ b → I3 76 j = row j := fun j hj h1 h2 => by rw [d2 76 (by decide)]; exact hr2 j hj h1 h2
      have n10 : ¬ (1 : Int32) = 0 := by decide
      rw [if_pos hcn, if_neg n10, bs_b (show ((f_X9_truthOf (nI s) I2).bind fun q7 => some (q7.1, q7.2)) = some (ftv row uk L a b (w % 100) (w / 100), I3) by rw [bs_b d1])]
      dsimp only
      rw [if_neg n10]
      by_cases e2 : ftv row uk L a b (w % 100) (w / 100) = 2
      · have e0 : ¬ ftv row uk L a b (w % 100) (w / 100) = 0 := by rw [e2]; decide
        rw [if_pos e2, bs_b rfl, if_neg n10, if_neg e0]
        exact next _ _ I3 (hA.or1 ⟨hcn, e2⟩) (hB.or0 (fun h => e0 h.2)) hE3 hK3 hr3
      · rw [if_neg e2, bs_b rfl, if_neg n10]
        by_cases e0 : ftv row uk L a b (w % 100) (w / 100) = 0
        · rw [if_pos e0]
          exact next _ _ I3 (hA.or0 (fun h => e2 h.2)) (hB.or1 ⟨hcn, e0⟩) hE3 hK3 hr3
        · rw [if_neg e0]
          exact next _ _ I3 (hA.or0 (fun h => e2 h.2)) (hB.or0 (fun h => e0 h.2)) hE3 hK3 hr3
    · rw [if_neg hcn, if_pos rfl, bs_b rfl, if_pos rfl, bs_b rfl, if_pos rfl]
      exact next _ _ I2 (hA.or0 (fun h => hcn h.1)) (hB.or0 (fun h => hcn h.1)) hE2 hK2 hr2
theorem r_all {s a b : Nat} {L : List Nat} {row : Nat → Int32} {uk : Nat → Bool} {I : Mem} (hs : s < 8) (hF : FRf (I 71) s L) (hV : fV L) (hab : a ≠ b ∨ b = 4) (ha4 : a ≤ 4) (hb4 : b ≤ 4) (huk : ∀ c, c < 4 → decide (I 77 c = -1) = uk c) (hr : ∀ j, j < 4 → I 76 j = row j) :
    ∃ I' w4 w5, f_X9_forAll (nI s) (tw a) (tw b) I = some (if w4 + w5 = 2 then 1 else if w4 = 1 then 2 else 0, I') ∧ Eqx [70, 76, 78] I I' ∧ K11 I I' ∧ FL w4 (∃ v w, v < 100 ∧ w < 100 ∧ ftv row uk L a b v w = 2) ∧ FL w5 (∃ v w, v < 100 ∧ w < 100 ∧ ftv row uk L a b v w = 0) := by
  obtain ⟨w4, w5, I', c1, c2, c3, c4, c5⟩ := r_all_L hs hF hV hab ha4 hb4 huk 10000 0 fuel 0 0 False False I rfl (by unfold fuel; omega) (FL.n (fun h => h)) (FL.n (fun h => h)) Eqx.rf (fun _ _ => rfl) (fun j hj _ _ => hr j hj)
  have ex : ∀ Pr : Int32 → Prop, (False ∨ ∃ k, 0 ≤ k ∧ k < 10000 ∧ cnd a b k ∧ Pr (ftv row uk L a b (k % 100) (k / 100))) ↔ ∃ v w, v < 100 ∧ w < 100 ∧ Pr (ftv row uk L a b v w) := fun Pr => by
    constructor
    · rintro (h | ⟨k, -, h2, h3, h4⟩)
      · exact absurd h (fun h => h)
      · exact ⟨k % 100, k / 100, by omega, by omega, h4⟩
    · rintro ⟨v, w, h1, h2, h3⟩
      have hv : ∃ v', v' < 100 ∧ (a < 4 ∨ v' = 0) ∧ ftv row uk L a b v' w = ftv row uk L a b v w := by
        by_cases e : a < 4
        · exact ⟨v, h1, Or.inl e, rfl⟩
        · have : a = 4 := by omega
          exact ⟨0, by decide, Or.inr rfl, by rw [this]; exact ftv_a hV.1⟩
      obtain ⟨v', v1, v2, v3⟩ := hv
      have hw : ∃ w', w' < 100 ∧ (b < 4 ∨ w' = 0) ∧ ftv row uk L a b v' w' = ftv row uk L a b v' w := by
        by_cases e : b < 4
        · exact ⟨w, h2, Or.inl e, rfl⟩
        · have : b = 4 := by omega
          exact ⟨0, by decide, Or.inr rfl, by rw [this]; exact ftv_b hV.1⟩
      obtain ⟨w', u1, u2, u3⟩ := hw
      have m1 : (w' * 100 + v') % 100 = v' := by omega
      have m2 : (w' * 100 + v') / 100 = w' := by omega
      exact Or.inr ⟨w' * 100 + v', Nat.zero_le _, by omega, ⟨by rw [m1]; exact v2, by rw [m2]; exact u2⟩, by rw [m1, m2, u3, v3]; exact h3⟩
  refine ⟨I', w4, w5, ?_, c4, c5, c2.cg (ex (fun x => x = 2)), c3.cg (ex (fun x => x = 0))⟩
  unfold f_X9_forAll
  rw [bs_b (show f_X9_forAll_L9 (nI s) (tw a) (tw b) fuel 0 0 0 I = some (w4, w5, I') from c1)]
  dsimp only
  by_cases e : w4 + w5 = 2
  · rw [if_pos e, if_pos e]
  · rw [if_neg e, if_neg e]
    by_cases e2 : w4 = 1
    · rw [if_pos e2, if_pos e2]
    · rw [if_neg e2, if_neg e2]
theorem same_v {w8 w9 w4 w5 : Int32} {T N F : Prop} (h8 : FL w8 T) (h9 : FL w9 N) (h4 : FL w4 T) (h5 : FL w5 F) (hNF : N ↔ F) : (if w8 = 0 then (0 : Int32) else if w9 = 0 then 2 else 1) = (if w4 + w5 = 2 then (1 : Int32) else if w4 = 1 then 2 else 0) := by
  rcases h8 with ⟨rfl, t⟩ | ⟨rfl, t⟩ <;> rcases h4 with ⟨rfl, t2⟩ | ⟨rfl, t2⟩ <;> rcases h9 with ⟨rfl, u⟩ | ⟨rfl, u⟩ <;> rcases h5 with ⟨rfl, u2⟩ | ⟨rfl, u2⟩
  all_goals first | rfl | decide | exact absurd t t2 | exact absurd t2 t | exact absurd (hNF.mp u) u2 | exact absurd (hNF.mpr u2) u
/-! a column of a test -/
theorem clA_m : ∀ (L : List Nat) (w : Int32) (j : Nat), j < 4 → hb w j = true → hb (clA L w) j = true
  | [], w, j, hj, h => h
  | t :: L, w, j, hj, h => by
    show hb (clA L (if t < 3 then w else _)) j = true
    refine clA_m L _ j hj ?_
    by_cases e : t < 3
    · rw [if_pos e]; exact h
    · rw [if_neg e, hb_or _ _ (by omega), hb_or _ _ (by omega), h]; rfl
theorem clA_t : ∀ (L : List Nat) (w : Int32) (t j : Nat), t ∈ L → 3 ≤ t → vT t → j < 4 → (j = cC t ∨ (¬ cO t < 100 ∧ j = cO t - 100)) → hb (clA L w) j = true
  | u :: L, w, t, j, hm, h3, hT, hj, hc => by
    show hb (clA L (if u < 3 then w else _)) j = true
    rcases List.mem_cons.mp hm with e | e
    · subst e
      refine clA_m L _ j hj ?_
      have hcC := cC_b hT
      have hcO := hT.2.2.1
      rw [if_neg (show ¬ t < 3 by omega), hb_or _ _ (by omega), hb_or _ _ (by omega)]
      rcases hc with e | ⟨e, e2⟩
      · rw [hb_one (by omega) (by omega), e]; simp
      · rw [if_neg e, hb_one (n := cO t - 100) (by omega) (by omega), e2]; simp
    · exact clA_t L _ t j e h3 hT hj hc
end MB38
