/-! PURE PART 33: the class writes a short text. -/
section MB32
abbrev SW : List Nat := [24, 25, 26, 27, 28, 29]
def WKs (I : Mem) (T A K : List Nat) : Prop := TK I T ∧ PL I 26 (A.map nI) ∧ PL I 28 (K.map (fun t => nI (sgnN t)))
theorem TK.eqx {S : List Nat} {I I' : Mem} {T : List Nat} (h : TK I T) (hE : Eqx S I I') (h1 : 24 ∉ S) (h2 : 25 ∉ S) : TK I' T := by
  unfold TK; rw [hE 24 h1, hE 25 h2]; exact h
theorem kk {k : Nat} (h : vC k) : (nI (sgnN k) = 38 ↔ k = 1) ∧ (nI (sgnN k) = 124 ↔ k = 2) := by
  by_cases e : k < 3
  · rcases (show k = 0 ∨ k = 1 ∨ k = 2 by omega) with rfl | rfl | rfl <;> exact ⟨by decide, by decide⟩
  · obtain ⟨n1, n2, n3⟩ := sgn_ne (vC_t h (by omega))
    exact ⟨⟨fun h => absurd h n2, fun h => by omega⟩, ⟨fun h => absurd h n3, fun h => by omega⟩⟩
theorem k_app {I : Mem} {P : Pool} {T : List Nat} {ch : Nat} (h : TK I T) (hc : ∀ x ∈ T, x < 1000) (hch : ch < 1000) (hl : T.length < 160) : ∃ I', f_X5_insert (I 24 3) (nI ch) P I = some I' ∧ TK I' (T ++ [ch]) ∧ Eqx [24, 25] I I' := by
  obtain ⟨I1, a1, a2, a3⟩ := k_ins (P := P) h hc hch (Nat.le_refl _) hl
  rw [TX_app] at a2
  exact ⟨I1, by rw [h.1]; exact a1, a2, a3⟩
theorem k_negL {I : Mem} {P : Pool} {B T A K : List Nat} {b k : Nat} (hW : WI (0 :: B) T (b :: A) (k :: K)) (h : WKs I T (b :: A) (k :: K)) : ∃ I', f_X5_negateLast P I = some I' ∧ WKs I' (ins b 33 (w1 b k T)) (b :: A) (0 :: K) ∧ Eqx SW I I' := by
  obtain ⟨g1, g2, g3, g4⟩ := hW.s0
  have hk := kk (hW.2.2.2.2.2.2.2 k (by simp))
  obtain ⟨h1, h2, h3, h4, h5, h6, h7, h8⟩ := hW
  simp only [List.length_cons] at h1 h3
  obtain ⟨t1, t2, t3⟩ := h
  obtain ⟨I1, a1, a2, a3⟩ := m_pop (show PL I 28 (nI (sgnN k) :: K.map (fun t => nI (sgnN t))) from t3) (by rw [List.length_map]; omega)
  have t1a := t1.eqx a3 (by decide) (by decide)
  have t2a : PL I1 26 (nI b :: A.map nI) := t2.eqx a3 (by decide) (by decide)
  have hl1 := w1_len (b := b) (k := k) (T := T) g2
  have hwr : ∃ I2, ((if nI (sgnN k) = 38 then ((f_X3_top 26 I1).bind fun q3 => (f_X5_wrap q3 (I1 24 3) P I1).bind fun q4 => some q4) else (if nI (sgnN k) = 124 then ((f_X3_top 26 I1).bind fun q5 => (f_X5_wrap q5 (I1 24 3) P I1).bind fun q6 => some q6) else some I1) : Option Mem)) = some I2 ∧ TK I2 (w1 b k T) ∧ Eqx [24, 25] I1 I2 := by
    by_cases e : k = 1 ∨ k = 2
    · rw [if_pos e] at hl1
      obtain ⟨I2, b1, b2, b3⟩ := k_wrap (P := P) (p := b) t1a h5 g2 (Nat.le_refl _) (by omega)
      refine ⟨I2, ?_, by unfold w1; rw [if_pos e]; exact b2, b3⟩
      rw [← t1a.1] at b1
      rcases e with e | e
      · rw [if_pos (hk.1.mpr e), bs_b (m_top t2a (by rw [List.length_map]; omega)), bs_b b1]
      · rw [if_neg (fun hh => by have := hk.1.mp hh; omega), if_pos (hk.2.mpr e), bs_b (m_top t2a (by rw [List.length_map]; omega)), bs_b b1]
    · refine ⟨I1, ?_, by unfold w1; rw [if_neg e]; exact t1a, Eqx.rf⟩
      rw [if_neg (fun hh => e (Or.inl (hk.1.mp hh))), if_neg (fun hh => e (Or.inr (hk.2.mp hh)))]
  obtain ⟨I2, b1, b2, b3⟩ := hwr
  have t2b : PL I2 26 (nI b :: A.map nI) := t2a.eqx b3 (by decide) (by decide)
  have a2b := a2.eqx b3 (by decide) (by decide)
  obtain ⟨I3, c1, c2, c3⟩ := k_ins (P := P) (p := b) (ch := 33) b2 (w1_c h5) (by decide) g4 g3
  obtain ⟨I4, d1, d2, d3⟩ := m_push (P := P) (x := nI (sgnN 0)) (a2b.eqx c3 (by decide) (by decide)) (by rw [List.length_map]; omega)
  refine ⟨I4, ?_, ⟨c2.eqx d3 (by decide) (by decide), (PL.eqx (t2b.eqx c3 (by decide) (by decide)) d3 (by decide) (by decide)), d2⟩, ((((a3.mono (by decide)).tr (b3.mono (by decide))).tr (c3.mono (by decide))).tr (d3.mono (by decide)))⟩
  unfold f_X5_negateLast
  rw [bs_b a1]
  dsimp only
  rw [bs_b b1, bs_b (m_top t2b (by rw [List.length_map]; omega)), bs_b (show f_X5_insert (nI b) 33 P I2 = some I3 from c1), bs_b (show f_X3_push 28 33 P I3 = some I4 from d1)]
theorem k_joinL {I : Mem} {P : Pool} {B T A K : List Nat} {t a b ka kb : Nat} (ht : t = 1 ∨ t = 2) (hW : WI (t :: B) T (b :: a :: A) (kb :: ka :: K)) (h : WKs I T (b :: a :: A) (kb :: ka :: K)) : ∃ I', f_X5_joinLastTwo (nI (sgnN t)) P I = some I' ∧ WKs I' (w3 t a b ka (ins b (sg t) (w2 t b kb T))) (a :: A) (t :: K) ∧ Eqx SW I I' := by
  obtain ⟨g1, g2, g3, g4, g5⟩ := hW.sj ht
  have hkb := kk (hW.2.2.2.2.2.2.2 kb (by simp))
  have hka := kk (hW.2.2.2.2.2.2.2 ka (by simp))
  obtain ⟨h1, h2, h3, h4, h5, h6, h7, h8⟩ := hW
  simp only [List.length_cons] at h1 h3
  obtain ⟨t1, t2, t3⟩ := h
  obtain ⟨I1, a1, a2, a3⟩ := m_pop (show PL I 26 (nI b :: nI a :: A.map nI) from t2) (by simp; omega)
  obtain ⟨I2, b1, b2, b3⟩ := m_pop (show PL I1 28 (nI (sgnN kb) :: nI (sgnN ka) :: K.map (fun t => nI (sgnN t))) from t3.eqx a3 (by decide) (by decide)) (by simp; omega)
  obtain ⟨I3, c1, c2, c3⟩ := m_pop b2 (by rw [List.length_map]; omega)
  have hE3 : Eqx [26, 28] I I3 := ((a3.mono (by decide)).tr (b3.mono (by decide))).tr (c3.mono (by decide))
  have u1 := t1.eqx hE3 (by decide) (by decide)
  have u2 : PL I3 26 (nI a :: A.map nI) := (a2.eqx b3 (by decide) (by decide)).eqx c3 (by decide) (by decide)
  have l2 := w2_len (kb := kb) (b := b) (T := T) ht g2
  have hsg : nI (sgnN t) = nI (sg t) := by rcases ht with rfl | rfl <;> rfl
  -- the second part
  have hwr : ∃ I4, ((if nI (sgnN kb) = nI (sg t) then ((f_X5_wrap (nI b) (I3 24 3) P I3).bind fun q5 => some q5) else (if nI (sg t) = 38 then (if nI (sgnN kb) = 124 then ((f_X5_wrap (nI b) (I3 24 3) P I3).bind fun q6 => some q6) else some I3) else some I3) : Option Mem)) = some I4 ∧ TK I4 (w2 t b kb T) ∧ Eqx [24, 25] I3 I4 := by
    by_cases e : kb = t ∨ (t = 1 ∧ kb = 2)
    · have hw2 : w2 t b kb T = wrp b T.length T := by unfold w2; rw [if_pos e]
      have hwl := wrp_len g2 (Nat.le_refl T.length)
      rw [hw2, hwl] at g5
      obtain ⟨I4, d1, d2, d3⟩ := k_wrap (P := P) (p := b) u1 h5 g2 (Nat.le_refl _) (by omega)
      rw [← u1.1] at d1
      refine ⟨I4, ?_, by rw [hw2]; exact d2, d3⟩
      rcases e with e | ⟨e, e2⟩
      · rw [if_pos (by rw [e]; exact hsg), bs_b d1]
      · subst e
        rw [if_neg (show ¬ nI (sgnN kb) = nI (sg 1) from fun hh => by have := hkb.1.mp hh; omega), if_pos (show nI (sg 1) = 38 from rfl), if_pos (hkb.2.mpr e2), bs_b d1]
    · refine ⟨I3, ?_, by unfold w2; rw [if_neg e]; exact u1, Eqx.rf⟩
      rcases ht with rfl | rfl
      · rw [if_neg (show ¬ nI (sgnN kb) = nI (sg 1) from fun hh => e (Or.inl (hkb.1.mp hh))), if_pos (show nI (sg 1) = 38 from rfl), if_neg (fun hh => e (Or.inr ⟨rfl, hkb.2.mp hh⟩))]
      · rw [if_neg (show ¬ nI (sgnN kb) = nI (sg 2) from fun hh => e (Or.inl (hkb.2.mp hh))), if_neg (show ¬ nI (sg 2) = 38 by decide)]
  obtain ⟨I4, d1, d2, d3⟩ := hwr
  obtain ⟨I5, e1, e2, e3⟩ := k_ins (P := P) (p := b) (ch := sg t) d2 (w2_c h5) (sg_b t) (by omega) (by omega)
  have l5 := ins_len (p := b) (ch := sg t) (T := w2 t b kb T) (by omega)
  have v2 : PL I5 26 (nI a :: A.map nI) := (u2.eqx d3 (by decide) (by decide)).eqx e3 (by decide) (by decide)
  have v3 : PL I5 28 (K.map (fun t => nI (sgnN t))) := (c2.eqx d3 (by decide) (by decide)).eqx e3 (by decide) (by decide)
  have hE5 : Eqx SW I I5 := (((hE3.mono (by decide)).tr (d3.mono (by decide))).tr (e3.mono (by decide)))
  have hcc := ins_c (p := b) (ch := sg t) (w2_c (t := t) (b := b) (k := kb) h5) (sg_b t)
  have push : ∀ (J : Mem) (T' : List Nat), TK J T' → Eqx [24, 25] I5 J → T' = w3 t a b ka (ins b (sg t) (w2 t b kb T)) → ∃ I', ((f_X3_push 28 (nI (sg t)) P J).bind fun q => some q : Option Mem) = some I' ∧ WKs I' (w3 t a b ka (ins b (sg t) (w2 t b kb T))) (a :: A) (t :: K) ∧ Eqx SW I I' := by
    intro J T' hT hJ hTe
    obtain ⟨I7, f1, f2, f3⟩ := m_push (P := P) (x := nI (sg t)) (v3.eqx hJ (by decide) (by decide)) (by rw [List.length_map]; omega)
    refine ⟨I7, by rw [bs_b f1], ⟨by rw [← hTe]; exact hT.eqx f3 (by decide) (by decide), PL.eqx (v2.eqx hJ (by decide) (by decide)) f3 (by decide) (by decide), ?_⟩, (hE5.tr (hJ.mono (by decide))).tr (f3.mono (by decide))⟩
    show PL I7 28 (nI (sgnN t) :: K.map (fun t => nI (sgnN t)))
    rw [hsg]
    exact f2
  unfold f_X5_joinLastTwo
  rw [bs_b a1]
  dsimp only
  rw [bs_b b1]
  dsimp only
  rw [bs_b c1]
  dsimp only
  rw [hsg, bs_b d1, bs_b e1]
  by_cases e : t = 1 ∧ ka = 2
  · obtain ⟨e0, e0'⟩ := e
    subst e0
    rw [if_pos (show nI (sg 1) = 38 from rfl), if_pos (hka.2.mpr e0'), bs_b (m_top v2 (by rw [List.length_map]; omega))]
    rw [if_pos (Or.inr e0')] at g5
    obtain ⟨I6, f1, f2, f3⟩ := k_wrap (P := P) (p := a) (q := b) e2 hcc g3 (by omega) (by omega)
    rw [bs_b f1]
    exact push I6 _ f2 f3 (by unfold w3; rw [if_pos ⟨rfl, e0'⟩])
  · have hp := push I5 _ e2 Eqx.rf (by unfold w3; rw [if_neg e])
    rcases ht with rfl | rfl
    · rw [if_pos (show nI (sg 1) = 38 from rfl), if_neg (fun hh => e ⟨rfl, hka.2.mp hh⟩)]
      exact hp
    · rw [if_neg (show ¬ nI (sg 2) = 38 by decide)]
      exact hp
theorem k_val {I : Mem} {P : Pool} {T : List Nat} {v : Nat} (h : TK I T) (hc : ∀ x ∈ T, x < 1000) (hv : v < 100) (hl : T.length + (if v < 10 then 1 else 2) ≤ 160) : ∃ I', f_X5_writeValue (nI v) P I = some I' ∧ TK I' (T ++ (if v < 10 then [48 + v] else [48 + v / 10, 48 + v % 10])) ∧ Eqx [24, 25] I I' := by
  have e48 : ∀ d, d < 10 → (((48 : Int32) + nI d).toUInt32 % 65536).toInt32 = nI (48 + d) := fun d hd => by rw [show (48 : Int32) = nI 48 from rfl, nI_add, chr_n (by omega)]
  have eD : nI v / 10 = nI (v / 10) := pk_div (d := 10) (by omega) (by decide) (by decide)
  have eR : nI v - nI v / 10 * 10 = nI (v % 10) := pk_rem (d := 10) (by omega) (by decide) (by decide)
  unfold f_X5_writeValue
  by_cases e : v < 10
  · rw [if_pos e] at hl ⊢
    obtain ⟨I1, a1, a2, a3⟩ := k_app (P := P) (ch := 48 + v) h hc (by omega) (by omega)
    refine ⟨I1, ?_, a2, a3⟩
    rw [if_pos (show nI v < 10 from nI_lt (b := 10) e (by decide)), bs_b rfl, eR, e48 _ (by omega), show v % 10 = v from Nat.mod_eq_of_lt e, bs_b a1]
  · rw [if_neg e] at hl ⊢
    obtain ⟨I1, a1, a2, a3⟩ := k_app (P := P) (ch := 48 + v / 10) h hc (by omega) (by omega)
    obtain ⟨I2, b1, b2, b3⟩ := k_app (P := P) (ch := 48 + v % 10) a2 (fun x hx => by rcases List.mem_append.mp hx with h1 | h1; exact hc x h1; rw [List.mem_singleton.mp h1]; omega) (by omega) (by simp; omega)
    rw [List.append_assoc] at b2
    refine ⟨I2, ?_, b2, a3.tr b3⟩
    rw [if_neg (show ¬ nI v < 10 from nI_nlt (b := 10) (by omega) (by omega)), eD, e48 _ (by omega), bs_b (show ((f_X5_insert (I 24 3) (nI (48 + v / 10)) P I).bind fun q2 => some q2 : Option Mem) = some I1 by rw [bs_b a1])]
    rw [← eD, eR, e48 _ (by omega), bs_b b1]
theorem k_wtest {I : Mem} {P : Pool} {B T A K : List Nat} {t : Nat} (ht : 3 ≤ t) (hW : WI (t :: B) T A K) (h : WKs I T A K) : ∃ I', f_X5_writeTest (enc t) P I = some I' ∧ WKs I' (T ++ ttx t) (T.length :: A) (t :: K) ∧ Eqx SW I I' := by
  obtain ⟨g1, g2⟩ := hW.st ht
  obtain ⟨h1, h2, h3, h4, h5, h6, h7, h8⟩ := hW
  have hv := h7 t (by simp)
  have hT := vC_t hv ht
  have hcC := cC_b hT
  have hsb := sch_b (cS t)
  have hcO := hT.2.2.1
  have hlen := ttx_len t
  simp only [List.length_cons] at h3
  obtain ⟨t1, t2, t3⟩ := h
  have hsg : sgnN t = sch (cS t) := sgn_t hT
  obtain ⟨I1, a1, a2, a3⟩ := m_push (P := P) (x := nI T.length) t2 (by rw [List.length_map]; omega)
  obtain ⟨I2, b1, b2, b3⟩ := m_push (P := P) (x := nI (sgnN t)) (t3.eqx a3 (by decide) (by decide)) (by rw [List.length_map]; omega)
  have hE2 : Eqx [26, 27, 28, 29] I I2 := (a3.mono (by decide)).tr (b3.mono (by decide))
  have u1 := t1.eqx hE2 (by decide) (by decide)
  have a2b := a2.eqx b3 (by decide) (by decide)
  have htl2 : 2 ≤ tl t := by unfold tl; split <;> (try split) <;> (try split) <;> omega
  obtain ⟨I3, c1, c2, c3⟩ := k_app (P := P) (ch := 97 + cC t) u1 h5 (by omega) (by omega)
  have hc3 : ∀ x ∈ T ++ [97 + cC t], x < 1000 := fun x hx => by
    rcases List.mem_append.mp hx with h1 | h1
    · exact h5 x h1
    · rw [List.mem_singleton.mp h1]; omega
  obtain ⟨I4, d1, d2, d3⟩ := k_app (P := P) (ch := sch (cS t)) c2 hc3 (by omega) (by simp; omega)
  have hc4 : ∀ x ∈ T ++ [97 + cC t] ++ [sch (cS t)], x < 1000 := fun x hx => by
    rcases List.mem_append.mp hx with h1 | h1
    · exact hc3 x h1
    · rw [List.mem_singleton.mp h1]; omega
  have hE4 : Eqx SW I I4 := ((hE2.mono (by decide)).tr (c3.mono (by decide))).tr (d3.mono (by decide))
  have hl4 : (T ++ [97 + cC t] ++ [sch (cS t)]).length = T.length + 2 := by simp
  have fin : ∀ (J : Mem), TK J (T ++ ttx t) → Eqx [24, 25] I4 J → WKs J (T ++ ttx t) (T.length :: A) (t :: K) ∧ Eqx SW I J := fun J hJ hE => by
    have hE24 : Eqx [24, 25] I2 J := (c3.tr d3).tr hE
    exact ⟨⟨hJ, a2b.eqx hE24 (by decide) (by decide), PL.eqx (show PL I2 28 (nI (sgnN t) :: K.map (fun t => nI (sgnN t))) from b2) hE24 (by decide) (by decide)⟩, hE4.tr (hE.mono (by decide))⟩
  have heq : T ++ ttx t = (T ++ [97 + cC t] ++ [sch (cS t)]) ++ tt2 t := by unfold ttx; simp
  have hch : (((97 : Int32) + nI (cC t)).toUInt32 % 65536).toInt32 = nI (97 + cC t) := by rw [show (97 : Int32) = nI 97 from rfl, nI_add, chr_n (by omega)]
  have hso : f_X7_signOf (enc t) = some (nI (sch (cS t))) := by rw [k_sign hv, hsg]
  have hpre : f_X5_writeTest (enc t) P I = ((f_X7_comparesColumns (enc t)).bind fun q8 => if q8 = 0 then ((f_X7_comparesWithValue (enc t)).bind fun q9 => if q9 = 0 then (some I4) else ((f_X7_valueOf (enc t)).bind fun q10 => (f_X5_writeValue q10 P I4).bind fun q11 => some q11)) else ((f_X7_otherColumnOf (enc t)).bind fun q12 => (f_X5_insert (I4 24 3) (((97 + q12).toUInt32 % 65536).toInt32) P I4).bind fun q13 => some q13)) := by
    unfold f_X5_writeTest
    rw [t1.1, bs_b a1, bs_b (k_sign hv), bs_b b1, bs_b (k_colOf hT), hch, bs_b c1, bs_b hso, bs_b d1]
  rw [hpre, bs_b (k_cmpC hT)]
  have hcv : f_X7_comparesWithValue (enc t) = some (if cS t = 0 then 0 else if cO t < 100 then 1 else 0) := by
    unfold f_X7_comparesWithValue
    rw [bs_b (k_isT hv), if_neg (show ¬ t < 3 by omega), if_neg (show ¬ (1 : Int32) = 0 by decide), bs_b hso]
    by_cases e : cS t = 0
    · rw [if_pos e, if_pos (by rw [e]; rfl)]
    · rw [if_neg e, if_neg (show ¬ nI (sch (cS t)) = 63 from k_chne (b := 63) (by omega) (by decide) (by have := cS_b t; unfold sch; rw [if_neg e]; split <;> (try split) <;> omega)), bs_b (k_cmpC hT)]
      by_cases e2 : cO t < 100
      · rw [if_pos e2, if_pos rfl, if_pos e2]
      · rw [if_neg e2, if_neg (show ¬ (1 : Int32) = 0 by decide), if_neg e2]
  by_cases e2 : cO t < 100
  · rw [if_pos e2, if_pos rfl, bs_b hcv]
    by_cases e : cS t = 0
    · rw [if_pos e, if_pos rfl]
      have h2 : tt2 t = [] := by unfold tt2; rw [if_pos e]
      rw [heq, h2, List.append_nil] at fin
      have := fin I4 d2 Eqx.rf
      refine ⟨I4, rfl, ?_, this.2⟩
      rw [heq, h2, List.append_nil]
      exact this.1
    · rw [if_neg e, if_pos e2, if_neg (show ¬ (1 : Int32) = 0 by decide)]
      have hvo : f_X7_valueOf (enc t) = some (nI (cO t)) := by rw [enc_t hT, m_valueOf (by have := encT_b hT; omega), encT_o hT, if_pos e2]
      have h2 : tt2 t = if cO t < 10 then [48 + cO t] else [48 + cO t / 10, 48 + cO t % 10] := by unfold tt2; rw [if_neg e, if_pos e2]
      have htl : tl t = 2 + (if cO t < 10 then 1 else 2) := by unfold tl; rw [if_neg e, if_pos e2]; split <;> rfl
      obtain ⟨I5, f1, f2, f3⟩ := k_val (P := P) d2 hc4 e2 (by rw [hl4]; omega)
      rw [← h2, ← heq] at f2
      have := fin I5 f2 f3
      exact ⟨I5, by rw [bs_b hvo, bs_b f1], this.1, this.2⟩
  · have e : ¬ cS t = 0 := fun hh => by have := hT.2.2.2 hh; omega
    rw [if_neg e2, if_neg (show ¬ (1 : Int32) = 0 by decide), bs_b (k_othC hT e2)]
    have h2 : tt2 t = [97 + (cO t - 100)] := by unfold tt2; rw [if_neg e, if_neg (by omega), if_neg e2]
    have htl : tl t = 3 := by unfold tl; rw [if_neg e, if_neg (by omega), if_neg e2]
    have hch2 : (((97 : Int32) + nI (cO t - 100)).toUInt32 % 65536).toInt32 = nI (97 + (cO t - 100)) := by rw [show (97 : Int32) = nI 97 from rfl, nI_add, chr_n (by omega)]
    obtain ⟨I5, f1, f2, f3⟩ := k_app (P := P) (ch := 97 + (cO t - 100)) d2 hc4 (by omega) (by rw [hl4]; omega)
    rw [← h2, ← heq] at f2
    have := fin I5 f2 f3
    exact ⟨I5, by rw [hch2, bs_b f1], this.1, this.2⟩
theorem k_w_L {R : Rem} {P : Pool} {k : Nat} : ∀ (B C T A K : List Nat) (I : Mem) (n : Nat), FObj I R P k (C ++ B) → (C ++ B).length ≤ 60 → B.length < n → WKs I T A K → WI B T A K →
    ∃ I', f_X5_write_L21 (some k) P R n (nI C.length) I = some I' ∧ TK I' (wAll B T A K) ∧ (wAll B T A K).length ≤ 160 ∧ Eqx SW I I'
  | [], C, T, A, K, I, n, hF, hL, hn, hS, hW => by
    obtain ⟨n, rfl⟩ : ∃ m, n = m + 1 := ⟨n - 1, by omega⟩
    refine ⟨I, ?_, hS.1, by have := hW.2.2.2.2.2.1; show T.length ≤ 160; omega, Eqx.rf⟩
    rw [List.append_nil] at hF hL
    unfold f_X5_write_L21
    rw [bs_b rfl, bs_b (k_size hF), if_pos (nI_le (Nat.le_refl _) (by omega))]
  | t :: B, C, T, A, K, I, n, hF, hL, hn, hS, hW => by
    obtain ⟨n, rfl⟩ : ∃ m, n = m + 1 := ⟨n - 1, by omega⟩
    have hll : (C ++ t :: B).length = C.length + B.length + 1 := by simp; omega
    have hv0 := hW.2.2.2.2.2.2.1 t (by simp)
    have hF2 : C ++ t :: B = (C ++ [t]) ++ B := by simp
    have hn' : B.length + 1 < n + 1 := by simpa using hn
    unfold f_X5_write_L21
    rw [bs_b rfl, bs_b (k_size hF), if_neg (nI_ge (by omega) (by omega)), bs_b rfl, bs_b (k_step hF (by omega) (mid_at C B t)), bs_b (k_sign hv0), nx_i C t]
    have go : ∀ (T' A' K' : List Nat) (I' : Mem), WKs I' T' A' K' → Eqx SW I I' → WI B T' A' K' → wAll (t :: B) T A K = wAll B T' A' K' →
        ∃ I2, f_X5_write_L21 (some k) P R n (nI (C ++ [t]).length) I' = some I2 ∧ TK I2 (wAll (t :: B) T A K) ∧ (wAll (t :: B) T A K).length ≤ 160 ∧ Eqx SW I I2 := by
      intro T' A' K' I' hS' hE hW' he
      rw [hF2] at hF
      obtain ⟨I2, e1, e2, e3, e4⟩ := k_w_L B (C ++ [t]) T' A' K' I' n (hF.eqx hE (by decide)) (by rw [← hF2]; exact hL) (by omega) hS' hW'
      exact ⟨I2, e1, by rw [he]; exact e2, by rw [he]; exact e3, hE.tr e4⟩
    have hAK := hW.1
    by_cases ht : 3 ≤ t
    · obtain ⟨n1, n2, n3⟩ := sgn_ne (vC_t hv0 ht)
      rw [if_neg n1, if_neg n2, if_neg n3]
      obtain ⟨I1, e1, e2, e3⟩ := k_wtest (P := P) ht hW hS
      rw [bs_b e1]
      refine go _ _ _ I1 e2 e3 (hW.st ht).1 ?_
      show (if t = 0 then _ else if t < 3 then _ else wAll B (T ++ ttx t) (T.length :: A) (t :: K)) = _
      rw [if_neg (by omega), if_neg (by omega)]
    · rcases (show t = 0 ∨ t = 1 ∨ t = 2 by omega) with rfl | rfl | rfl
      · obtain ⟨h1, h2⟩ := wd_0 hW.2.1
        obtain ⟨b, A, rfl⟩ := len1 h1
        obtain ⟨kb, K, rfl⟩ := len1 (show 1 ≤ K.length by omega)
        rw [if_pos (show nI (sgnN 0) = 33 from rfl)]
        obtain ⟨I1, e1, e2, e3⟩ := k_negL (P := P) hW hS
        rw [bs_b e1]
        exact go _ _ _ I1 e2 e3 hW.s0.1 rfl
      · obtain ⟨h1, h2⟩ := wd_1 hW.2.1
        obtain ⟨b, a, A, rfl⟩ := len2 h1
        obtain ⟨kb, ka, K, rfl⟩ := len2 (show 2 ≤ K.length by omega)
        rw [if_neg (show ¬ nI (sgnN 1) = 33 by decide), if_pos (show nI (sgnN 1) = 38 from rfl)]
        obtain ⟨I1, e1, e2, e3⟩ := k_joinL (P := P) (Or.inl rfl) hW hS
        rw [bs_b e1]
        exact go _ _ _ I1 e2 e3 (hW.sj (Or.inl rfl)).1 rfl
      · obtain ⟨h1, h2⟩ := wd_2 hW.2.1
        obtain ⟨b, a, A, rfl⟩ := len2 h1
        obtain ⟨kb, ka, K, rfl⟩ := len2 (show 2 ≤ K.length by omega)
        rw [if_neg (show ¬ nI (sgnN 2) = 33 by decide), if_neg (show ¬ nI (sgnN 2) = 38 by decide), if_pos (show nI (sgnN 2) = 124 from rfl)]
        obtain ⟨I1, e1, e2, e3⟩ := k_joinL (P := P) (Or.inr rfl) hW hS
        rw [bs_b e1]
        exact go _ _ _ I1 e2 e3 (hW.sj (Or.inr rfl)).1 rfl
theorem WI_0 {L : List Nat} (hV : fV L) : WI L [] [] [] := by
  obtain ⟨h1, h2, h3, h4⟩ := hV
  have hl : ([] : List Nat).length + L.length ≤ 59 := by rw [List.length_nil, Nat.zero_add]; exact h3
  have hw : ([] : List Nat).length + jc [] + fW L ≤ 160 := by show 0 + 0 + fW L ≤ 160; omega
  exact ⟨rfl, h2, hl, trivial, fun x hx => absurd hx (by simp), hw, h1, fun x hx => absurd hx (by simp)⟩
/-- the class's short text -/
theorem k_wr {I : Mem} {R : Rem} {P : Pool} {k : Nat} {L : List Nat} (hF : FObj I R P k L) (hV : fV L) : ∃ I', f_X5_write (some k) P R I = some I' ∧ TK I' (wAll L [] [] []) ∧ (wAll L [] [] []).length ≤ 160 ∧ Eqx SW I I' := by
  have hE0 : Eqx [24] I (up I 24 3 0) := Eqx.up (by decide)
  obtain ⟨I1, a1, a2, a3⟩ := m_clear (I := up I 24 3 0) (p := 26)
  obtain ⟨I2, b1, b2, b3⟩ := m_clear (I := I1) (p := 28)
  have hE : Eqx SW I I2 := ((hE0.mono (by decide)).tr (a3.mono (by decide))).tr (b3.mono (by decide))
  have hT : TK I2 [] := ⟨by rw [b3 24 (by decide), a3 24 (by decide), up_eq]; rfl, fun j x hj => by simp at hj⟩
  have hl := hV.2.2.1
  obtain ⟨I3, c1, c2, c3, c4⟩ := k_w_L (P := P) L [] [] [] [] I2 fuel (hF.eqx hE (by decide)) (by simp; omega) (by unfold fuel; omega) ⟨hT, a2.eqx b3 (by decide) (by decide), b2⟩ (WI_0 hV)
  refine ⟨I3, ?_, c2, c3, hE.tr c4⟩
  unfold f_X5_write
  rw [bs_b a1, bs_b b1, bs_b (show f_X5_write_L21 (some k) P R fuel 0 I2 = some I3 from c1)]
end MB32
