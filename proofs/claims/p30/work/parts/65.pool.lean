/-! THE POOL: what stands there stays. -/
section KPX
theorem xp_X8_define {x1 : Int32} {P zP : Pool} {R zR : Rem} {I zI : Mem} {nx e : Nat} (h : f_X8_define x1 P R I nx = some (.inr e, zI, zR, zP)) : zP = P := by
  unfold f_X8_define at h
  obtain ⟨q1, -, h⟩ := bnd h
  rcases q1 with v | e1
  · have h := sm_le h
    obtain ⟨q4, -, h⟩ := bnd h
    by_cases hc : q4.1 < q4.2 0 6
    · have h := ift hc h
      cases h; rfl
    · have h := iff_ hc h
      obtain ⟨q5, -, h⟩ := bnd h
      by_cases hc : q5.1 = 0
      · have h := ift hc h
        cases h; rfl
      · have h := iff_ hc h
        obtain ⟨q6, -, h⟩ := bnd h
        obtain ⟨q7, -, h⟩ := bnd h
        obtain ⟨q8, -, h⟩ := bnd h
        obtain ⟨q9, -, h⟩ := bnd h
        obtain ⟨q10, -, h⟩ := bnd h
        obtain ⟨q11, -, h⟩ := bnd h
        cases h
  · have h := sm_re h
    cases h; rfl
theorem xn_X8_negationOf {o0 : Option Nat} {P : Pool} {R : Rem} {I : Mem} {nx e : Nat} {q : (Option Nat ⊕ Nat) × Mem × Rem × Pool} (h : f_X8_negationOf o0 P R I nx = some q) (he : q.1 = .inr e) : q.2.2.2 = P := by
  unfold f_X8_negationOf at h
  obtain ⟨k1, -, h⟩ := bnd h
  obtain ⟨q2, -, h⟩ := bnd h
  obtain ⟨q3, -, h⟩ := bnd h
  rcases q3 with v4 | e1
  · have h := sm_le h
    obtain ⟨-, h⟩ := ifn h
    obtain ⟨k6, -, h⟩ := bnd h
    obtain ⟨q7, -, h⟩ := bnd h
    obtain ⟨q8, -, h⟩ := bnd h
    obtain ⟨I9, -, h⟩ := bnd h
    obtain ⟨q10, -, h⟩ := bnd h
    cases h; cases he
  · have h := sm_re h
    cases h; rfl
theorem xn_X8_joinOf {o0 o1 : Option Nat} {x2 : Int32} {P : Pool} {R : Rem} {I : Mem} {nx e : Nat} {q : (Option Nat ⊕ Nat) × Mem × Rem × Pool} (h : f_X8_joinOf o0 o1 x2 P R I nx = some q) (he : q.1 = .inr e) : q.2.2.2 = P := by
  unfold f_X8_joinOf at h
  obtain ⟨k1, -, h⟩ := bnd h
  obtain ⟨q2, -, h⟩ := bnd h
  obtain ⟨k3, -, h⟩ := bnd h
  obtain ⟨q4, -, h⟩ := bnd h
  obtain ⟨q5, -, h⟩ := bnd h
  rcases q5 with v4 | e1
  · have h := sm_le h
    obtain ⟨-, h⟩ := ifn h
    obtain ⟨k6, -, h⟩ := bnd h
    obtain ⟨q7, -, h⟩ := bnd h
    obtain ⟨k8, -, h⟩ := bnd h
    obtain ⟨q9, -, h⟩ := bnd h
    obtain ⟨k10, -, h⟩ := bnd h
    obtain ⟨q11, -, h⟩ := bnd h
    obtain ⟨q12, -, h⟩ := bnd h
    obtain ⟨I9, -, h⟩ := bnd h
    obtain ⟨q10, -, h⟩ := bnd h
    cases h; cases he
  · have h := sm_re h
    cases h; rfl
theorem xp_X8_combine {x1 x2 x3 x4 : Int32} {P zP : Pool} {R zR : Rem} {I zI : Mem} {nx e : Nat} (h : f_X8_combine x1 x2 x3 x4 P R I nx = some (.inr e, zI, zR, zP)) : zP = P := by
  unfold f_X8_combine at h
  obtain ⟨q1, -, h⟩ := bnd h
  rcases q1 with v | e1
  rotate_left
  · have h := sm_re h
    cases h; rfl
  have h := sm_le h
  obtain ⟨q1, -, h⟩ := bnd h
  rcases q1 with v | e1
  rotate_left
  · have h := sm_re h
    cases h; rfl
  have h := sm_le h
  obtain ⟨q1, -, h⟩ := bnd h
  rcases q1 with v | e1
  rotate_left
  · have h := sm_re h
    cases h; rfl
  have h := sm_le h
  obtain ⟨q1, -, h⟩ := bnd h
  rcases q1 with v | e1
  rotate_left
  · have h := sm_re h
    cases h; rfl
  have h := sm_le h
  obtain ⟨q1, -, h⟩ := bnd h
  rcases q1 with v | e1
  rotate_left
  · have h := sm_re h
    cases h; rfl
  have h := sm_le h
  by_cases hc : x4 = 0
  · have h := ift hc h
    obtain ⟨q2, h2, h⟩ := bnd h
    rcases hs : q2.1 with v | e1
    · rw [hs] at h
      have h := sm_le h
      obtain ⟨q3, -, h⟩ := bnd h
      obtain ⟨q4, -, h⟩ := bnd h
      obtain ⟨q5, -, h⟩ := bnd h
      obtain ⟨q6, -, h⟩ := bnd h
      cases h
    · rw [hs] at h
      have h := sm_re h
      have hx := xn_X8_negationOf h2 hs
      cases h
      exact hx
  · have h := iff_ hc h
    obtain ⟨q1, -, h⟩ := bnd h
    rcases q1 with v | e1
    rotate_left
    · have h := sm_re h
      cases h; rfl
    have h := sm_le h
    obtain ⟨q0, -, h⟩ := bnd h
    obtain ⟨q2, h2, h⟩ := bnd h
    rcases hs : q2.1 with v | e1
    · rw [hs] at h
      have h := sm_le h
      obtain ⟨q3, -, h⟩ := bnd h
      obtain ⟨q4, -, h⟩ := bnd h
      obtain ⟨q5, -, h⟩ := bnd h
      obtain ⟨q6, -, h⟩ := bnd h
      cases h
    · rw [hs] at h
      have h := sm_re h
      have hx := xn_X8_joinOf h2 hs
      cases h
      exact hx
def KP (P P2 : Pool) : Prop := ∀ k, Kd P k ≠ 99 → Kd P2 k = Kd P k ∧ Ln P2 k = Ln P k
theorem KP.rf {P : Pool} : KP P P := fun _ _ => ⟨rfl, rfl⟩
theorem KP.tr {P P1 P2 : Pool} (h : KP P P1) (h2 : KP P1 P2) : KP P P2 := fun k hk => by
  have a := h k hk
  have b := h2 k (by rw [a.1]; exact hk)
  exact ⟨b.1.trans a.1, b.2.trans a.2⟩
theorem kp_ad {P : Pool} {n q len : Nat} (hf : FR P n) : KP P (addP P n q len) := fun k hk => ⟨kd_ad hk hf rfl, ln_ad hf rfl hk⟩
theorem kp_X4_steps {P : Pool} {I : Mem} {nx : Nat} {q : Option Nat × Mem × Pool} (h : f_X4_steps P I nx = some q) (hf : FR P nx) : KP P q.2.2 := by
  obtain ⟨z, -, h2⟩ := ar_X4_steps h
  rw [h2]; exact kp_ad hf
theorem kp_X8_define {x1 : Int32} {P : Pool} {R : Rem} {I : Mem} {nx : Nat} {q : (Int32 ⊕ Nat) × Mem × Rem × Pool} (h : f_X8_define x1 P R I nx = some q) (hf : FR P nx) (hg : FR P (nx + 1)) : KP P q.2.2.2 := by
  unfold f_X8_define at h
  obtain ⟨q1, -, h⟩ := bnd h
  rcases q1 with v | e1
  · have h := sm_le h
    obtain ⟨q4, -, h⟩ := bnd h
    by_cases hc : q4.1 < q4.2 0 6
    · have h := ift hc h
      cases h; exact KP.rf
    · have h := iff_ hc h
      obtain ⟨q5, -, h⟩ := bnd h
      by_cases hc : q5.1 = 0
      · have h := ift hc h
        cases h; exact KP.rf
      · have h := iff_ hc h
        obtain ⟨q6, -, h⟩ := bnd h
        obtain ⟨q7, h7, h⟩ := bnd h
        obtain ⟨q8, -, h⟩ := bnd h
        obtain ⟨q9, -, h⟩ := bnd h
        obtain ⟨q10, -, h⟩ := bnd h
        obtain ⟨q11, -, h⟩ := bnd h
        cases h
        exact (kp_ad hf).tr (kp_X4_steps h7 (fr_ad hg (by omega)))
  · have h := sm_re h
    cases h; exact KP.rf
theorem kp_neg {o0 : Option Nat} {P : Pool} {R : Rem} {I : Mem} {nx : Nat} {q : (Option Nat ⊕ Nat) × Mem × Rem × Pool} (h : f_X8_negationOf o0 P R I nx = some q) (hf : FR P nx) (hg : FR P (nx + 1)) : KP P q.2.2.2 := by
  rcases hs : q.1 with v | e
  · have h := h.trans (congrArg some (show q = ((.inl v, q.2.1, q.2.2.1, q.2.2.2) : (Option Nat ⊕ Nat) × Mem × Rem × Pool) by rw [← hs]))
    obtain ⟨z, -, h2⟩ := ar_X8_negationOf h
    rw [h2]; exact (kp_ad hf).tr (kp_ad (fr_ad hg (by omega)))
  · rw [xn_X8_negationOf h hs]; exact KP.rf
theorem kp_jn {o0 o1 : Option Nat} {x2 : Int32} {P : Pool} {R : Rem} {I : Mem} {nx : Nat} {q : (Option Nat ⊕ Nat) × Mem × Rem × Pool} (h : f_X8_joinOf o0 o1 x2 P R I nx = some q) (hf : FR P nx) (hg : FR P (nx + 1)) : KP P q.2.2.2 := by
  rcases hs : q.1 with v | e
  · have h := h.trans (congrArg some (show q = ((.inl v, q.2.1, q.2.2.1, q.2.2.2) : (Option Nat ⊕ Nat) × Mem × Rem × Pool) by rw [← hs]))
    obtain ⟨z, -, h2⟩ := ar_X8_joinOf h
    rw [h2]; exact (kp_ad hf).tr (kp_ad (fr_ad hg (by omega)))
  · rw [xn_X8_joinOf h hs]; exact KP.rf
theorem kp_X8_combine {x1 x2 x3 x4 : Int32} {P : Pool} {R : Rem} {I : Mem} {nx : Nat} {q : (Int32 ⊕ Nat) × Mem × Rem × Pool} (h : f_X8_combine x1 x2 x3 x4 P R I nx = some q) (hf : FR P nx) (hg : FR P (nx + 1)) : KP P q.2.2.2 := by
  unfold f_X8_combine at h
  obtain ⟨q1, -, h⟩ := bnd h
  rcases q1 with v0 | e1
  rotate_left
  · have h := sm_re h
    cases h; exact KP.rf
  have h := sm_le h
  obtain ⟨q1, -, h⟩ := bnd h
  rcases q1 with v1 | e1
  rotate_left
  · have h := sm_re h
    cases h; exact KP.rf
  have h := sm_le h
  obtain ⟨q1, -, h⟩ := bnd h
  rcases q1 with v2 | e1
  rotate_left
  · have h := sm_re h
    cases h; exact KP.rf
  have h := sm_le h
  obtain ⟨q1, -, h⟩ := bnd h
  rcases q1 with v3 | e1
  rotate_left
  · have h := sm_re h
    cases h; exact KP.rf
  have h := sm_le h
  obtain ⟨q1, -, h⟩ := bnd h
  rcases q1 with v4 | e1
  rotate_left
  · have h := sm_re h
    cases h; exact KP.rf
  have h := sm_le h
  by_cases hc : x4 = 0
  · have h := ift hc h
    obtain ⟨q2, h2, h⟩ := bnd h
    have hk := kp_neg h2 hf hg
    rcases hs : q2.1 with v | e1
    · rw [hs] at h
      have h := sm_le h
      obtain ⟨q3, -, h⟩ := bnd h
      obtain ⟨q4, -, h⟩ := bnd h
      obtain ⟨q5, -, h⟩ := bnd h
      obtain ⟨q6, -, h⟩ := bnd h
      cases h
      exact hk
    · rw [hs] at h
      have h := sm_re h
      cases h
      exact hk
  · have h := iff_ hc h
    obtain ⟨q1, -, h⟩ := bnd h
    rcases q1 with v | e1
    rotate_left
    · have h := sm_re h
      cases h; exact KP.rf
    have h := sm_le h
    obtain ⟨q0, -, h⟩ := bnd h
    obtain ⟨q2, h2, h⟩ := bnd h
    have hk := kp_jn h2 hf hg
    rcases hs : q2.1 with v | e1
    · rw [hs] at h
      have h := sm_le h
      obtain ⟨q3, -, h⟩ := bnd h
      obtain ⟨q4, -, h⟩ := bnd h
      obtain ⟨q5, -, h⟩ := bnd h
      obtain ⟨q6, -, h⟩ := bnd h
      cases h
      exact hk
    · rw [hs] at h
      have h := sm_re h
      cases h
      exact hk
end KPX
