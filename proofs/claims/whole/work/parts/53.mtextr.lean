/-! PURE PART 34: the reference writes a short text. -/
section MB33
abbrev SV : List Nat := [70, 78, 81, 82]
def KW (I I' : Mem) : Prop := ∀ j, j ≠ 11 → j ≠ 19 → I' 70 j = I 70 j
theorem KW.rf {I : Mem} : KW I I := fun _ _ _ => rfl
theorem KW.tr {I I1 I2 : Mem} (h : KW I I1) (h2 : KW I1 I2) : KW I I2 := fun j a b => (h2 j a b).trans (h j a b)
theorem K19.kw {I I1 : Mem} (h : K19 I I1) : KW I I1 := fun j _ b => h j b
def rk (k : Nat) : Int32 := if k < 3 then nI k else 4
theorem rk_1 (k : Nat) : (rk k = nI 1 ↔ k = 1) ∧ (rk k = nI 2 ↔ k = 2) := by
  unfold rk
  by_cases e : k < 3
  · rw [if_pos e]
    rcases (show k = 0 ∨ k = 1 ∨ k = 2 by omega) with rfl | rfl | rfl <;> exact ⟨by decide, by decide⟩
  · rw [if_neg e]
    exact ⟨⟨fun h => absurd h (by decide), fun h => by omega⟩, ⟨fun h => absurd h (by decide), fun h => by omega⟩⟩
def WRs (I : Mem) (T A K : List Nat) : Prop := TQ I T ∧ I 70 11 = nI A.length ∧ PI (I 78) (K.map rk) ∧ PI (I 82) (A.map nI)
theorem r_enc2 {I : Mem} {T : List Nat} {b : Nat} (h : TQ I T) (hb : b ≤ T.length) (hl : T.length + 2 ≤ 160) : ∃ I', ((f_X9_encloses (nI b) (I 70 19) I).bind fun q => some q : Option Mem) = some I' ∧ TQ I' (wrp b T.length T) ∧ Eqx [70, 81] I I' ∧ K19 I I' := by
  obtain ⟨I', e1, e2⟩ := r_encl (p := b) h hb (Nat.le_refl _) hl
  exact ⟨I', by rw [h.1, bs_b e1], e2⟩
theorem r_wnot {I : Mem} {B T A K : List Nat} {b k : Nat} (hW : WI (0 :: B) T (b :: A) (k :: K)) (h : WRs I T (b :: A) (k :: K)) : ∃ I', f_X9_writesNot I = some I' ∧ WRs I' (ins b 33 (w1 b k T)) (b :: A) (0 :: K) ∧ Eqx SV I I' ∧ KW I I' := by
  obtain ⟨g1, g2, g3, g4⟩ := hW.s0
  obtain ⟨h1, h2, h3, h4, h5, h6, h7, h8⟩ := hW
  simp only [List.length_cons] at h1 h3
  obtain ⟨t1, t2, t3, t4⟩ := h
  have t2' : I 70 11 - 1 = nI A.length := by rw [t2, List.length_cons, nI_pred]
  have hb : I 82 A.length = nI b := by have := t4.1; rw [List.length_map] at this; exact this
  have hAK : A.length = K.length := by omega
  have hk : I 78 A.length = rk k := by have := t3.1; rw [List.length_map] at this; rw [hAK]; exact this
  have hl1 := w1_len (b := b) (k := k) (T := T) g2
  have hwr : ∃ I2, ((if rk k = 1 then ((f_X9_encloses (nI b) (I 70 19) I).bind fun q4 => some q4) else ((some (rk k)).bind fun v5 => if v5 = 2 then ((f_X9_encloses (nI b) (I 70 19) I).bind fun q6 => some q6) else some I) : Option Mem)) = some I2 ∧ TQ I2 (w1 b k T) ∧ Eqx [70, 81] I I2 ∧ K19 I I2 := by
    by_cases e : k = 1 ∨ k = 2
    · rw [if_pos e] at hl1
      obtain ⟨I2, b1, b2, b3, b4⟩ := r_enc2 t1 g2 (by omega)
      refine ⟨I2, ?_, by unfold w1; rw [if_pos e]; exact b2, b3, b4⟩
      rcases e with e | e
      · rw [if_pos (show rk k = 1 from (rk_1 k).1.mpr e), b1]
      · rw [if_neg (show ¬ rk k = 1 from fun hh => by have := (rk_1 k).1.mp hh; omega), bs_b rfl, if_pos (show rk k = 2 from (rk_1 k).2.mpr e), b1]
    · refine ⟨I, ?_, by unfold w1; rw [if_neg e]; exact t1, Eqx.rf, fun _ _ => rfl⟩
      rw [if_neg (show ¬ rk k = 1 from fun hh => e (Or.inl ((rk_1 k).1.mp hh))), bs_b rfl, if_neg (show ¬ rk k = 2 from fun hh => e (Or.inr ((rk_1 k).2.mp hh)))]
  obtain ⟨I2, b1, b2, b3, b4⟩ := hwr
  obtain ⟨I3, c1, c2, c3, c4⟩ := r_ins (p := b) (ch := 33) b2 g4 (by omega)
  have hK3 : K19 I I3 := b4.tr c4
  have hE3 : Eqx [70, 81] I I3 := b3.tr c3
  refine ⟨up I3 78 A.length 0, ?_, ⟨⟨by rw [up_ne _ _ _ (by decide)]; exact c2.1, by rw [up_ne _ _ _ (by decide)]; exact c2.2⟩, by rw [up_ne _ _ _ (by decide), hK3 11 (by decide)]; exact t2, ?_, by rw [up_ne _ _ _ (by decide), hE3 82 (by decide)]; exact t4⟩, (hE3.mono (by decide)).tr (Eqx.up (by decide)), fun j h1 h2 => by rw [up_ne _ _ _ (by decide), hK3 j h2]⟩
  · unfold f_X9_writesNot
    rw [t2', bs_b (rd_e A.length rfl (by omega) (by decide)), hb, bs_b (rd_e A.length rfl (by omega) (by decide)), hk, rd_e A.length rfl (by omega) (by decide), hk, bs_b b1, bs_b (show f_X9_inserts (nI b) 33 I2 = some I3 from c1), hK3 11 (by decide), t2', bs_b (wr_e A.length rfl (by omega) (by decide))]
  · rw [up_self, hE3 78 (by decide), hAK]
    have := PI_push (x := (0 : Int32)) (show PI (I 78) (K.map rk) from t3.2)
    rw [List.length_map] at this
    exact this
theorem r_wpair {I : Mem} {B T A K : List Nat} {t a b ka kb : Nat} (ht : t = 1 ∨ t = 2) (hW : WI (t :: B) T (b :: a :: A) (kb :: ka :: K)) (h : WRs I T (b :: a :: A) (kb :: ka :: K)) : ∃ I', f_X9_writesPair (nI t) I = some I' ∧ WRs I' (w3 t a b ka (ins b (sg t) (w2 t b kb T))) (a :: A) (t :: K) ∧ Eqx SV I I' ∧ KW I I' := by
  obtain ⟨g1, g2, g3, g4, g5⟩ := hW.sj ht
  obtain ⟨h1, h2, h3, h4, h5, h6, h7, h8⟩ := hW
  simp only [List.length_cons] at h1 h3
  obtain ⟨t1, t2, t3, t4⟩ := h
  have hAK : A.length = K.length := by omega
  have e1 : I 70 11 - 1 = nI (A.length + 1) := by rw [t2]; exact nI_pred _
  have e2 : I 70 11 - 2 = nI A.length := by rw [t2]; exact pk_sub (a := A.length + 2) (b := 2) (by omega)
  have hb : I 82 (A.length + 1) = nI b := by have := t4.1; simp only [List.length_cons, List.length_map] at this; exact this
  have ha : I 82 A.length = nI a := by have := t4.2.1; simp only [List.length_map] at this; exact this
  have hkb : I 78 (A.length + 1) = rk kb := by have := t3.1; simp only [List.length_cons, List.length_map] at this; rw [hAK]; exact this
  have hka : I 78 A.length = rk ka := by have := t3.2.1; simp only [List.length_map] at this; rw [hAK]; exact this
  have l2 := w2_len (kb := kb) (b := b) (T := T) ht g2
  have q4 : ((if rk kb = nI t then some 1 else (if nI t = 1 then ((some (rk kb)).bind fun v5 => if v5 = 2 then some 1 else some 0) else some 0)) : Option Int32) = some (if kb = t ∨ (t = 1 ∧ kb = 2) then 1 else 0) := by
    rcases ht with rfl | rfl
    · by_cases c : kb = 1
      · rw [if_pos ((rk_1 kb).1.mpr c), if_pos (Or.inl c)]
      · rw [if_neg (fun hh => c ((rk_1 kb).1.mp hh)), if_pos (show nI 1 = 1 from rfl), bs_b rfl]
        by_cases c2 : kb = 2
        · rw [if_pos (show rk kb = 2 from (rk_1 kb).2.mpr c2), if_pos (Or.inr ⟨rfl, c2⟩)]
        · rw [if_neg (show ¬ rk kb = 2 from fun hh => c2 ((rk_1 kb).2.mp hh)), if_neg (by omega)]
    · by_cases c : kb = 2
      · rw [if_pos ((rk_1 kb).2.mpr c), if_pos (Or.inl c)]
      · rw [if_neg (fun hh => c ((rk_1 kb).2.mp hh)), if_neg (show ¬ nI 2 = 1 by decide), if_neg (by omega)]
  have q6 : ((if nI t = 1 then ((some (rk ka)).bind fun v7 => if v7 = 2 then some 1 else some 0) else some 0) : Option Int32) = some (if t = 1 ∧ ka = 2 then 1 else 0) := by
    rcases ht with rfl | rfl
    · rw [if_pos (show nI 1 = 1 from rfl), bs_b rfl]
      by_cases c2 : ka = 2
      · rw [if_pos (show rk ka = 2 from (rk_1 ka).2.mpr c2), if_pos ⟨rfl, c2⟩]
      · rw [if_neg (show ¬ rk ka = 2 from fun hh => c2 ((rk_1 ka).2.mp hh)), if_neg (by omega)]
    · rw [if_neg (show ¬ nI 2 = 1 by decide), if_neg (by omega)]
  have hwr : ∃ I2, ((if (if kb = t ∨ (t = 1 ∧ kb = 2) then (1 : Int32) else 0) = 0 then some I else ((f_X9_encloses (nI b) (I 70 19) I).bind fun q9 => some q9)) : Option Mem) = some I2 ∧ TQ I2 (w2 t b kb T) ∧ Eqx [70, 81] I I2 ∧ K19 I I2 := by
    by_cases e : kb = t ∨ (t = 1 ∧ kb = 2)
    · have hw2 : w2 t b kb T = wrp b T.length T := by unfold w2; rw [if_pos e]
      have hwl := wrp_len g2 (Nat.le_refl T.length)
      rw [hw2, hwl] at g5
      obtain ⟨I2, b1, b2, b3, b4⟩ := r_enc2 t1 g2 (by omega)
      exact ⟨I2, by rw [if_pos e, if_neg (show ¬ (1 : Int32) = 0 by decide), b1], by rw [hw2]; exact b2, b3, b4⟩
    · exact ⟨I, by rw [if_neg e, if_pos rfl], by unfold w2; rw [if_neg e]; exact t1, Eqx.rf, fun _ _ => rfl⟩
  obtain ⟨I2, b1, b2, b3, b4⟩ := hwr
  have q10 : ((if nI t = 1 then some 38 else some 124) : Option Int32) = some (nI (sg t)) := by
    rcases ht with rfl | rfl
    · rw [if_pos (show nI 1 = 1 from rfl)]; rfl
    · rw [if_neg (show ¬ nI 2 = 1 by decide)]; rfl
  obtain ⟨I3, c1, c2, c3, c4⟩ := r_ins (p := b) (ch := sg t) b2 (by omega) (by omega)
  have l5 := ins_len (p := b) (ch := sg t) (T := w2 t b kb T) (by omega)
  have hw3 : ∃ I4, ((if (if t = 1 ∧ ka = 2 then (1 : Int32) else 0) = 0 then some I3 else ((f_X9_encloses (nI a) (nI b) I3).bind fun q13 => some q13)) : Option Mem) = some I4 ∧ TQ I4 (w3 t a b ka (ins b (sg t) (w2 t b kb T))) ∧ Eqx [70, 81] I3 I4 ∧ K19 I3 I4 := by
    by_cases e : t = 1 ∧ ka = 2
    · rw [if_pos (Or.inr e.2)] at g5
      obtain ⟨I4, d1, d2, d3, d4⟩ := r_encl (p := a) (q := b) c2 g3 (by omega) (by omega)
      exact ⟨I4, by rw [if_pos e, if_neg (show ¬ (1 : Int32) = 0 by decide), bs_b d1], by unfold w3; rw [if_pos e]; exact d2, d3, d4⟩
    · exact ⟨I3, by rw [if_neg e, if_pos rfl], by unfold w3; rw [if_neg e]; exact c2, Eqx.rf, fun _ _ => rfl⟩
  obtain ⟨I4, d1, d2, d3, d4⟩ := hw3
  have hK4 : K19 I I4 := (b4.tr c4).tr d4
  have hE4 : Eqx [70, 81] I I4 := (b3.tr c3).tr d3
  have f11 : I4 70 11 - 1 = nI (A.length + 1) := by rw [hK4 11 (by decide)]; exact e1
  obtain ⟨J, hJ⟩ : ∃ J, J = up I4 70 11 (nI (A.length + 1)) := ⟨_, rfl⟩
  have j11 : J 70 11 - 1 = nI A.length := by rw [hJ, up_eq, nI_pred]
  have hJE : Eqx [70] I4 J := by rw [hJ]; exact Eqx.up (by decide)
  refine ⟨up J 78 A.length (nI t), ?_, ⟨⟨by rw [up_ne _ _ _ (by decide), hJ, up_nk _ _ (by decide)]; exact d2.1, by rw [up_ne _ _ _ (by decide), hJE 81 (by decide)]; exact d2.2⟩, by rw [up_ne _ _ _ (by decide), hJ, up_eq]; rfl, ?_, by rw [up_ne _ _ _ (by decide), hJE 82 (by decide), hE4 82 (by decide)]; exact t4.2⟩, ((hE4.mono (by decide)).tr (hJE.mono (by decide))).tr (Eqx.up (by decide)), fun j h1 h2 => by rw [up_ne _ _ _ (by decide), hJ, up_nk _ _ h1, hK4 j h2]⟩
  · unfold f_X9_writesPair
    rw [e1, e2, bs_b (rd_e (A.length + 1) rfl (by omega) (by decide)), hb, bs_b (rd_e A.length rfl (by omega) (by decide)), ha, bs_b (rd_e (A.length + 1) rfl (by omega) (by decide)), hkb, rd_e (A.length + 1) rfl (by omega) (by decide), hkb, bs_b q4, rd_e A.length rfl (by omega) (by decide), hka, bs_b q6, bs_b b1, bs_b q10, bs_b c1, bs_b d1, f11, ← hJ, j11, bs_b (wr_e A.length rfl (by omega) (by decide))]
  · rw [up_self, hJE 78 (by decide), hE4 78 (by decide), hAK]
    have := PI_push (x := nI t) (show PI (I 78) (K.map rk) from t3.2.2)
    rw [List.length_map] at this
    have hkt : rk t = nI t := by unfold rk; rw [if_pos (by omega)]
    rw [List.map_cons, hkt]
    exact this
theorem r_wtest {I : Mem} {T : List Nat} {t : Nat} (hT : vT t) (h : TQ I T) (hl : T.length + tl t ≤ 160) : ∃ I', f_X9_writesTest (nI t) I = some I' ∧ TQ I' (T ++ ttx t) ∧ Eqx [70, 81] I I' ∧ K19 I I' := by
  have hcC := cC_b hT
  have hsb := sch_b (cS t)
  have hcO := hT.2.2.1
  have hcS := cS_b t
  have htl2 : 2 ≤ tl t := by unfold tl; split <;> (try split) <;> (try split) <;> omega
  obtain ⟨I1, a1, a2, a3, a4⟩ := r_wri (ch := 97 + cC t) h (by omega)
  obtain ⟨I2, b1, b2, b3, b4⟩ := r_wri (ch := sch (cS t)) a2 (by simp; omega)
  have hE2 := a3.tr b3
  have hK2 := a4.tr b4
  have hl2 : (T ++ [97 + cC t] ++ [sch (cS t)]).length = T.length + 2 := by simp
  have heq : T ++ ttx t = (T ++ [97 + cC t] ++ [sch (cS t)]) ++ tt2 t := by unfold ttx; simp
  have q4 : ((if nI (cS t) = 0 then some 63 else (if nI (cS t) = 1 then some 61 else (if nI (cS t) = 2 then some 60 else some 62))) : Option Int32) = some (nI (sch (cS t))) := by
    rcases (show cS t = 0 ∨ cS t = 1 ∨ cS t = 2 ∨ cS t = 3 by omega) with e | e | e | e
    · rw [e, if_pos (show nI 0 = 0 from rfl)]; rfl
    · rw [e, if_neg (show ¬ nI 1 = 0 by decide), if_pos (show nI 1 = 1 from rfl)]; rfl
    · rw [e, if_neg (show ¬ nI 2 = 0 by decide), if_neg (show ¬ nI 2 = 1 by decide), if_pos (show nI 2 = 2 from rfl)]; rfl
    · rw [e, if_neg (show ¬ nI 3 = 0 by decide), if_neg (show ¬ nI 3 = 1 by decide), if_neg (show ¬ nI 3 = 2 by decide)]; rfl
  unfold f_X9_writesTest
  rw [bs_b (r_columnOf hT), show (97 : Int32) + nI (cC t) = nI (97 + cC t) from nI_add 97 _, bs_b a1, bs_b (r_signOf hT), bs_b q4, bs_b b1, bs_b (r_otherOf hT)]
  rw [heq]
  by_cases e : cS t = 0
  · have h2 : tt2 t = [] := by unfold tt2; rw [if_pos e]
    rw [e, if_pos (show nI 0 ≤ 0 by decide), if_pos (show nI 0 ≤ 0 by decide), h2, List.append_nil]
    exact ⟨I2, rfl, by rw [e] at b2; exact b2, hE2, hK2⟩
  · have hn : ¬ nI (cS t) ≤ 0 := nI_ge (a := 0) (by omega) (by omega)
    rw [if_neg hn]
    by_cases e2 : cO t < 100
    · rw [if_pos (show nI (cO t) < 100 from nI_lt (b := 100) e2 (by decide)), if_neg hn]
      have eD : nI (cO t) / 10 = nI (cO t / 10) := pk_div (d := 10) (by omega) (by decide) (by decide)
      have eR : nI (cO t) - nI (cO t) / 10 * 10 = nI (cO t % 10) := pk_rem (d := 10) (by omega) (by decide) (by decide)
      rw [eR, eD, show (48 : Int32) + nI (cO t / 10) = nI (48 + cO t / 10) from nI_add 48 _, show (48 : Int32) + nI (cO t % 10) = nI (48 + cO t % 10) from nI_add 48 _]
      by_cases e3 : cO t < 10
      · have h2 : tt2 t = [48 + cO t] := by unfold tt2; rw [if_neg e, if_pos e3]
        have htl : tl t = 3 := by unfold tl; rw [if_neg e, if_pos e3]
        obtain ⟨I3, c1, c2, c3, c4⟩ := r_wri (ch := 48 + cO t % 10) b2 (by rw [hl2]; omega)
        rw [if_pos (show nI (cO t) ≤ 9 from nI_le (b := 9) (by omega) (by decide)), bs_b rfl, bs_b c1, h2]
        rw [show 48 + cO t % 10 = 48 + cO t by rw [Nat.mod_eq_of_lt e3]] at c2
        exact ⟨I3, rfl, c2, hE2.tr c3, hK2.tr c4⟩
      · have h2 : tt2 t = [48 + cO t / 10, 48 + cO t % 10] := by unfold tt2; rw [if_neg e, if_neg e3, if_pos e2]
        have htl : tl t = 4 := by unfold tl; rw [if_neg e, if_neg e3, if_pos e2]
        obtain ⟨I3, c1, c2, c3, c4⟩ := r_wri (ch := 48 + cO t / 10) b2 (by rw [hl2]; omega)
        obtain ⟨I4, d1, d2, d3, d4⟩ := r_wri (ch := 48 + cO t % 10) c2 (by rw [List.length_append, hl2]; simp; omega)
        rw [if_neg (show ¬ nI (cO t) ≤ 9 from nI_ge (a := 9) (by omega) (by omega)), bs_b (show ((f_X9_writes (nI (48 + cO t / 10)) I2).bind fun q11 => some q11 : Option Mem) = some I3 by rw [bs_b c1]), bs_b d1, h2]
        rw [List.append_assoc] at d2
        exact ⟨I4, rfl, d2, (hE2.tr c3).tr d3, (hK2.tr c4).tr d4⟩
    · have h2 : tt2 t = [97 + (cO t - 100)] := by unfold tt2; rw [if_neg e, if_neg (by omega), if_neg e2]
      have htl : tl t = 3 := by unfold tl; rw [if_neg e, if_neg (by omega), if_neg e2]
      obtain ⟨I3, c1, c2, c3, c4⟩ := r_wri (ch := 97 + (cO t - 100)) b2 (by rw [hl2]; omega)
      have hv : ((97 : Int32) + nI (cO t)) - 100 = nI (97 + (cO t - 100)) := by rw [show (97 : Int32) + nI (cO t) = nI (97 + cO t) from nI_add 97 _, show nI (97 + cO t) - 100 = nI (97 + cO t - 100) from pk_sub (b := 100) (by omega), show 97 + cO t - 100 = 97 + (cO t - 100) by omega]
      rw [if_neg (show ¬ nI (cO t) < 100 from nI_nlt (b := 100) (by omega) (by omega)), hv, bs_b c1, h2]
      exact ⟨I3, rfl, c2, hE2.tr c3, hK2.tr c4⟩
theorem r_w_L {s : Nat} (hs : s < 8) : ∀ (B C T A K : List Nat) (I : Mem) (n : Nat), FRf (I 71) s (C ++ B) → (C ++ B).length ≤ 59 → B.length < n → WRs I T A K → WI B T A K →
    ∃ I', f_X9_writesAll_L12 (nI s) n (nI C.length) I = some I' ∧ TQ I' (wAll B T A K) ∧ Eqx SV I I' ∧ KW I I'
  | [], C, T, A, K, I, n, hF, hL, hn, hS, hW => by
    obtain ⟨n, rfl⟩ : ∃ m, n = m + 1 := ⟨n - 1, by omega⟩
    refine ⟨I, ?_, hS.1, Eqx.rf, KW.rf⟩
    rw [List.append_nil] at hF hL
    unfold f_X9_writesAll_L12
    rw [bs_b (r_parts hs hF), if_pos (nI_le (Nat.le_refl _) (by omega))]
  | t :: B, C, T, A, K, I, n, hF, hL, hn, hS, hW => by
    obtain ⟨n, rfl⟩ : ∃ m, n = m + 1 := ⟨n - 1, by omega⟩
    have hll : (C ++ t :: B).length = C.length + B.length + 1 := by simp; omega
    have hv0 := hW.2.2.2.2.2.2.1 t (by simp)
    have hF2 : C ++ t :: B = (C ++ [t]) ++ B := by simp
    have hn' : B.length + 1 < n + 1 := by simpa using hn
    unfold f_X9_writesAll_L12
    rw [bs_b (r_parts hs hF), if_neg (nI_ge (by omega) (by omega)), bs_b (r_part hs hF (by omega) (mid_at C B t)), bs_b (r_isT hv0), nx_i C t]
    have go : ∀ (T' A' K' : List Nat) (I' : Mem), WRs I' T' A' K' → Eqx SV I I' → KW I I' → WI B T' A' K' → wAll (t :: B) T A K = wAll B T' A' K' →
        ∃ I2, f_X9_writesAll_L12 (nI s) n (nI (C ++ [t]).length) I' = some I2 ∧ TQ I2 (wAll (t :: B) T A K) ∧ Eqx SV I I2 ∧ KW I I2 := by
      intro T' A' K' I' hS' hE hK hW' he
      rw [hF2] at hF
      obtain ⟨I2, e1, e2, e3, e4⟩ := r_w_L hs B (C ++ [t]) T' A' K' I' n (by rw [hE 71 (by decide)]; exact hF) (by rw [← hF2]; exact hL) (by omega) hS' hW'
      exact ⟨I2, e1, by rw [he]; exact e2, hE.tr e3, hK.tr e4⟩
    have hAK := hW.1
    by_cases ht : 3 ≤ t
    · have hTt := vC_t hv0 ht
      obtain ⟨g1, g2⟩ := hW.st ht
      have hAl : A.length + (B.length + 1) ≤ 59 := hW.2.2.1
      obtain ⟨s1, s2, s3, s4⟩ := hS
      obtain ⟨J, hJ⟩ : ∃ J, J = up (up (up I 78 A.length 4) 82 A.length (nI T.length)) 70 11 (nI (A.length + 1)) := ⟨_, rfl⟩
      have hJE : Eqx SV I J := by rw [hJ]; exact ((Eqx.up (by decide)).tr (Eqx.up (by decide))).tr (Eqx.up (by decide))
      have hJK : KW I J := fun j h1 h2 => by rw [hJ, up_nk _ _ h1, up_ne _ _ _ (by decide), up_ne _ _ _ (by decide)]
      have hJT : TQ J T := ⟨by rw [hJ, up_nk _ _ (by decide), up_ne _ _ _ (by decide), up_ne _ _ _ (by decide)]; exact s1.1, by rw [hJ, up_ne _ _ _ (by decide), up_ne _ _ _ (by decide), up_ne _ _ _ (by decide)]; exact s1.2⟩
      have hk4 : rk t = 4 := by unfold rk; rw [if_neg (by omega)]
      obtain ⟨I1, e1, e2, e3, e4⟩ := r_wtest hTt hJT g2
      rw [if_neg (show ¬ t < 3 by omega), if_neg (show ¬ (1 : Int32) = 0 by decide), bs_b (wr_e A.length s2 (by omega) (by decide)), up_ne _ _ _ (show 70 ≠ 78 by decide), s1.1, bs_b (wr_e A.length s2 (by omega) (by decide)), up_ne _ _ _ (show 70 ≠ 82 by decide), up_ne _ _ _ (show 70 ≠ 78 by decide), s2, nI_1, ← hJ, bs_b e1]
      refine go (T ++ ttx t) (T.length :: A) (t :: K) I1 ⟨e2, ?_, ?_, ?_⟩ (hJE.tr (e3.mono (by decide))) (hJK.tr e4.kw) g1 ?_
      · rw [e4 11 (by decide), hJ, up_eq]; rfl
      · rw [e3 78 (by decide), hJ, up_ne _ _ _ (by decide), up_ne _ _ _ (by decide), up_self, List.map_cons, hk4]
        have := PI_push (x := (4 : Int32)) s3
        rw [List.length_map, ← hAK] at this
        exact this
      · rw [e3 82 (by decide), hJ, up_ne _ _ _ (by decide), up_self, up_ne _ _ _ (by decide)]
        have := PI_push (x := nI T.length) s4
        rw [List.length_map] at this
        exact this
      · show (if t = 0 then _ else if t < 3 then _ else wAll B (T ++ ttx t) (T.length :: A) (t :: K)) = _
        rw [if_neg (by omega), if_neg (by omega)]
    · rw [if_pos (show t < 3 by omega), if_pos rfl]
      rcases (show t = 0 ∨ t = 1 ∨ t = 2 by omega) with rfl | rfl | rfl
      · obtain ⟨h1, h2⟩ := wd_0 hW.2.1
        obtain ⟨b, A, rfl⟩ := len1 h1
        obtain ⟨kb, K, rfl⟩ := len1 (show 1 ≤ K.length by omega)
        rw [if_pos (show nI 0 = 0 from rfl)]
        obtain ⟨I1, e1, e2, e3, e4⟩ := r_wnot hW hS
        rw [bs_b e1]
        exact go _ _ _ I1 e2 e3 e4 hW.s0.1 rfl
      · obtain ⟨h1, h2⟩ := wd_1 hW.2.1
        obtain ⟨b, a, A, rfl⟩ := len2 h1
        obtain ⟨kb, ka, K, rfl⟩ := len2 (show 2 ≤ K.length by omega)
        rw [if_neg (show ¬ nI 1 = 0 by decide)]
        obtain ⟨I1, e1, e2, e3, e4⟩ := r_wpair (Or.inl rfl) hW hS
        rw [bs_b e1]
        exact go _ _ _ I1 e2 e3 e4 (hW.sj (Or.inl rfl)).1 rfl
      · obtain ⟨h1, h2⟩ := wd_2 hW.2.1
        obtain ⟨b, a, A, rfl⟩ := len2 h1
        obtain ⟨kb, ka, K, rfl⟩ := len2 (show 2 ≤ K.length by omega)
        rw [if_neg (show ¬ nI 2 = 0 by decide)]
        obtain ⟨I1, e1, e2, e3, e4⟩ := r_wpair (Or.inr rfl) hW hS
        rw [bs_b e1]
        exact go _ _ _ I1 e2 e3 e4 (hW.sj (Or.inr rfl)).1 rfl
/-- the reference's short text -/
theorem r_wr {I : Mem} {s : Nat} {L : List Nat} (hs : s < 8) (hF : FRf (I 71) s L) (hV : fV L) : ∃ I', f_X9_writesAll (nI s) I = some (nI (wAll L [] [] []).length, I') ∧ TQ I' (wAll L [] [] []) ∧ Eqx SV I I' ∧ KW I I' := by
  obtain ⟨J, hJ⟩ : ∃ J, J = up (up I 70 19 0) 70 11 0 := ⟨_, rfl⟩
  have hE : Eqx SV I J := by rw [hJ]; exact (Eqx.up (by decide)).tr (Eqx.up (by decide))
  have hK : KW I J := fun j h1 h2 => by rw [hJ, up_nk _ _ h1, up_nk _ _ h2]
  have hl := hV.2.2.1
  obtain ⟨I', a1, a2, a3, a4⟩ := r_w_L hs L [] [] [] [] J fuel (by rw [hE 71 (by decide)]; exact hF) (by simp; omega) (by unfold fuel; omega) ⟨⟨by rw [hJ, up_nk _ _ (by decide), up_eq]; rfl, fun j x hj => by simp at hj⟩, by rw [hJ, up_eq]; rfl, trivial, trivial⟩ (WI_0 hV)
  refine ⟨I', ?_, a2, hE.tr a3, hK.tr a4⟩
  unfold f_X9_writesAll
  rw [← hJ, bs_b (show f_X9_writesAll_L12 (nI s) fuel 0 J = some I' from a1), a2.1]
end MB33
