/-! PURE PART 37: the class lists the candidates. -/
section MB36
/-- a flag for a proposition -/
def FL (w : Int32) (P : Prop) : Prop := (w = 1 ∧ P) ∨ (w = 0 ∧ ¬ P)
theorem FL.y {P : Prop} (h : P) : FL 1 P := Or.inl ⟨rfl, h⟩
theorem FL.n {P : Prop} (h : ¬ P) : FL 0 P := Or.inr ⟨rfl, h⟩
theorem FL.cg {w : Int32} {P Q : Prop} (h : FL w P) (hPQ : P ↔ Q) : FL w Q := by
  rcases h with ⟨a, b⟩ | ⟨a, b⟩
  · exact Or.inl ⟨a, hPQ.mp b⟩
  · exact Or.inr ⟨a, fun q => b (hPQ.mpr q)⟩
theorem FL.z {w : Int32} {P : Prop} (h : FL w P) : (w = 0 ↔ ¬ P) ∧ (w = 1 ↔ P) := by
  rcases h with ⟨a, b⟩ | ⟨a, b⟩
  · subst a
    exact ⟨⟨fun h => absurd h (by decide), fun h => absurd b h⟩, ⟨fun _ => b, fun _ => rfl⟩⟩
  · subst a
    exact ⟨⟨fun _ => b, fun _ => rfl⟩, ⟨fun h => absurd h (by decide), fun h => absurd h b⟩⟩
def MKD (I : Mem) (Q : Nat → Prop) : Prop := ∀ j, j < 100 → FL (I 17 j) (Q j)
theorem MKD.cg {I : Mem} {Q Q' : Nat → Prop} (h : MKD I Q) (hQ : ∀ j, j < 100 → (Q j ↔ Q' j)) : MKD I Q' := fun j hj => (h j hj).cg (hQ j hj)
theorem nar_b1 : vp_nar .boolean 1 = 1 := rfl
theorem nar_b0 : vp_nar .boolean 0 = 0 := rfl
theorem k_mark_L {v : Nat} {Q : Nat → Prop} {I0 : Mem} (hv : v < 100) : ∀ (d w n : Nat) (I : Mem), w + d = v + 3 → v ≤ w → d < n → Eqx [17] I0 I → MKD I (fun j => Q j ∨ (v ≤ j ∧ j < w)) → ∃ I', f_X0_mark_L6 (nI v) n (nI w) I = some I' ∧ Eqx [17] I0 I' ∧ MKD I' (fun j => Q j ∨ (v ≤ j ∧ j ≤ v + 2)) := by
  intro d
  induction d with
  | zero =>
    intro w n I hd hvw hn hE hM
    obtain ⟨n, rfl⟩ : ∃ m, n = m + 1 := ⟨n - 1, by omega⟩
    have hfin : MKD I (fun j => Q j ∨ (v ≤ j ∧ j ≤ v + 2)) := hM.cg (fun j hj => by rw [show (v ≤ j ∧ j < w) ↔ (v ≤ j ∧ j ≤ v + 2) by omega])
    refine ⟨I, ?_, hE, hfin⟩
    unfold f_X0_mark_L6
    by_cases e : 100 ≤ w
    · rw [if_pos (show (100 : Int32) ≤ nI w from nI_le (a := 100) e (by omega))]
    · rw [if_neg (show ¬ (100 : Int32) ≤ nI w from nI_ge (b := 100) (by omega) (by decide)), show nI v + 2 = nI (v + 2) from nI_add v 2, if_pos (nI_lt (by omega) (by omega))]
  | succ d ih =>
    intro w n I hd hvw hn hE hM
    obtain ⟨n, rfl⟩ : ∃ m, n = m + 1 := ⟨n - 1, by omega⟩
    unfold f_X0_mark_L6
    by_cases e : 100 ≤ w
    · rw [if_pos (show (100 : Int32) ≤ nI w from nI_le (a := 100) e (by omega))]
      exact ⟨I, rfl, hE, hM.cg (fun j hj => by rw [show (v ≤ j ∧ j < w) ↔ (v ≤ j ∧ j ≤ v + 2) by omega])⟩
    · rw [if_neg (show ¬ (100 : Int32) ≤ nI w from nI_ge (b := 100) (by omega) (by decide)), show nI v + 2 = nI (v + 2) from nI_add v 2, if_neg (nI_nlt (by omega) (by omega)), nar_b1, bs_b (wr_e w rfl (by omega) (by decide)), nI_1]
      refine ih (w + 1) n _ (by omega) (by omega) (by omega) (hE.tr (Eqx.up (by decide))) (fun j hj => ?_)
      by_cases ej : j = w
      · rw [ej, up_eq]
        exact FL.y (Or.inr ⟨hvw, by omega⟩)
      · rw [up_nk _ _ ej]
        exact (hM j hj).cg ⟨fun h => h.imp id (fun h => by omega), fun h => h.imp id (fun h => by omega)⟩
theorem k_mark {v : Nat} {Q : Nat → Prop} {I : Mem} (hv : v < 100) (hM : MKD I Q) : ∃ I', f_X0_mark (nI v) I = some I' ∧ Eqx [17] I I' ∧ MKD I' (fun j => Q j ∨ (v ≤ j ∧ j ≤ v + 2)) := by
  obtain ⟨I', e1, e2⟩ := k_mark_L (Q := Q) hv 3 v fuel I rfl (Nat.le_refl _) (by unfold fuel; omega) Eqx.rf (hM.cg (fun j hj => ⟨Or.inl, fun h => h.resolve_right (by omega)⟩))
  refine ⟨I', ?_, e2⟩
  unfold f_X0_mark
  rw [show jmax (nI v) 0 = nI v by rw [show (0 : Int32) = nI 0 from rfl, jmax_n (by omega) (by decide), if_neg (by omega)], bs_b e1]
theorem k_clr_L {P : Pool} {R : Rem} {o : Option Nat} {a : Nat} {I0 : Mem} : ∀ (d w n : Nat) (I : Mem), w + d = 100 → d < n → Eqx [17] I0 I → (∀ j, j < w → I 17 j = 0) → ∃ I', f_X0_list_L2 o a P R n (nI w) I = some I' ∧ Eqx [17] I0 I' ∧ MKD I' (fun _ => False) := by
  intro d
  induction d with
  | zero =>
    intro w n I hd hn hE hM
    obtain ⟨n, rfl⟩ : ∃ m, n = m + 1 := ⟨n - 1, by omega⟩
    refine ⟨I, ?_, hE, fun j hj => by rw [hM j (by omega)]; exact FL.n (fun h => h)⟩
    unfold f_X0_list_L2
    rw [if_pos (show (100 : Int32) ≤ nI w from nI_le (a := 100) (by omega) (by omega))]
  | succ d ih =>
    intro w n I hd hn hE hM
    obtain ⟨n, rfl⟩ : ∃ m, n = m + 1 := ⟨n - 1, by omega⟩
    unfold f_X0_list_L2
    rw [if_neg (show ¬ (100 : Int32) ≤ nI w from nI_ge (b := 100) (by omega) (by decide)), nar_b0, bs_b (wr_e w rfl (by omega) (by decide)), nI_1]
    exact ih (w + 1) n _ (by omega) (by omega) (hE.tr (Eqx.up (by decide))) (fun j hj => by
      by_cases e : j = w
      · rw [e, up_eq]
      · rw [up_nk _ _ e]; exact hM j (by omega))
theorem k_cmpV {t : Nat} (h : vC t) : f_X7_comparesWithValue (enc t) = some (if 3 ≤ t ∧ ¬ cS t = 0 ∧ cO t < 100 then 1 else 0) := by
  unfold f_X7_comparesWithValue
  rw [bs_b (k_isT h)]
  by_cases e3 : t < 3
  · rw [if_pos e3, if_pos rfl, if_neg (by omega)]
  · have hT := vC_t h (by omega)
    have hsb := sch_b (cS t)
    have hso : f_X7_signOf (enc t) = some (nI (sch (cS t))) := by rw [k_sign h, sgn_t hT]
    rw [if_neg e3, if_neg (show ¬ (1 : Int32) = 0 by decide), bs_b hso]
    by_cases e : cS t = 0
    · rw [if_pos (by rw [e]; rfl), if_neg (by omega)]
    · rw [if_neg (show ¬ nI (sch (cS t)) = 63 from k_chne (b := 63) (by omega) (by decide) (by have := cS_b t; unfold sch; rw [if_neg e]; split <;> (try split) <;> omega)), bs_b (k_cmpC hT)]
      by_cases e2 : cO t < 100
      · rw [if_pos e2, if_pos rfl, if_pos ⟨by omega, e, e2⟩]
      · rw [if_neg e2, if_neg (show ¬ (1 : Int32) = 0 by decide), if_neg (by omega)]
theorem k_mkt_L {R : Rem} {P : Pool} {k a : Nat} {L : List Nat} {I0 : Mem} (hF : FObj I0 R P k L) (hl : L.length ≤ 60) (hv : ∀ t ∈ L, vC t) : ∀ (B A : List Nat) (Q : Nat → Prop) (I : Mem) (n : Nat), L = A ++ B → B.length < n → Eqx [17] I0 I → MKD I Q →
    ∃ I', f_X0_list_L28 (some k) a P R n (nI A.length) I = some I' ∧ Eqx [17] I0 I' ∧ MKD I' (fun j => Q j ∨ ∃ t ∈ B, (3 ≤ t ∧ ¬ cS t = 0 ∧ cO t < 100) ∧ cO t ≤ j ∧ j ≤ cO t + 2)
  | [], A, Q, I, n, hAB, hn, hE, hM => by
    obtain ⟨n, rfl⟩ : ∃ m, n = m + 1 := ⟨n - 1, by omega⟩
    have hF1 : FObj I R P k L := hF.eqx hE (by decide)
    refine ⟨I, ?_, hE, hM.cg (fun j hj => ⟨Or.inl, fun h => h.resolve_right (fun ⟨t, ht, _⟩ => absurd ht (by simp))⟩)⟩
    unfold f_X0_list_L28
    rw [bs_b rfl, bs_b (k_size hF1), if_pos (show nI L.length ≤ nI A.length from nI_le (by rw [hAB]; simp) (by rw [hAB] at hl; simp at hl; omega))]
  | t :: B, A, Q, I, n, hAB, hn, hE, hM => by
    obtain ⟨n, rfl⟩ : ∃ m, n = m + 1 := ⟨n - 1, by omega⟩
    have hF1 : FObj I R P k L := hF.eqx hE (by decide)
    have hg : L[A.length]? = some t := by rw [hAB]; exact mid_at A B t
    have hlt := (List.getElem?_eq_some_iff.mp hg).1
    have hvt := hv t (by rw [hAB]; simp)
    have hn' : B.length + 1 < n + 1 := by simpa using hn
    unfold f_X0_list_L28
    rw [bs_b rfl, bs_b (k_size hF1), if_neg (nI_ge hlt (by omega)), bs_b rfl, bs_b (k_step hF1 (by omega) hg), bs_b (k_cmpV hvt), nx_i A t]
    by_cases e : 3 ≤ t ∧ ¬ cS t = 0 ∧ cO t < 100
    · have hT := vC_t hvt e.1
      have hvo : f_X7_valueOf (enc t) = some (nI (cO t)) := by rw [enc_t hT, m_valueOf (by have := encT_b hT; omega), encT_o hT, if_pos e.2.2]
      obtain ⟨I1, a1, a2, a3⟩ := k_mark e.2.2 hM
      rw [if_pos e, if_neg (show ¬ (1 : Int32) = 0 by decide), bs_b rfl, bs_b (k_step hF1 (by omega) hg), bs_b hvo, bs_b a1]
      obtain ⟨I2, b1, b2, b3⟩ := k_mkt_L hF hl hv B (A ++ [t]) _ I1 n (by rw [hAB]; simp) (by omega) (hE.tr a2) a3
      refine ⟨I2, b1, b2, b3.cg (fun j hj => ⟨fun h => ?_, fun h => ?_⟩)⟩
      · rcases h with (h | h) | ⟨u, hu, h⟩
        · exact Or.inl h
        · exact Or.inr ⟨t, by simp, e, h⟩
        · exact Or.inr ⟨u, by simp [hu], h⟩
      · rcases h with h | ⟨u, hu, h⟩
        · exact Or.inl (Or.inl h)
        · rcases List.mem_cons.mp hu with f | f
          · rw [f] at h; exact Or.inl (Or.inr h.2)
          · exact Or.inr ⟨u, f, h⟩
    · rw [if_neg e, if_pos rfl]
      obtain ⟨I2, b1, b2, b3⟩ := k_mkt_L hF hl hv B (A ++ [t]) Q I n (by rw [hAB]; simp) (by omega) hE hM
      refine ⟨I2, b1, b2, b3.cg (fun j hj => ⟨fun h => ?_, fun h => ?_⟩)⟩
      · rcases h with h | ⟨u, hu, h⟩
        · exact Or.inl h
        · exact Or.inr ⟨u, by simp [hu], h⟩
      · rcases h with h | ⟨u, hu, h⟩
        · exact Or.inl h
        · rcases List.mem_cons.mp hu with f | f
          · rw [f] at h; exact absurd h.1 e
          · exact Or.inr ⟨u, f, h⟩
theorem k_mkr_L {R : Rem} {P : Pool} {o : Option Nat} {row : Nat → Int32} {I0 : Mem} (ha : Ln P 10 = 4) (hrow : ∀ j, j < 4 → I0 10 j = row j) (hok : ∀ j, j < 4 → cok (row j)) : ∀ (d w n : Nat) (Q : Nat → Prop) (I : Mem), w + d = 4 → d < n → Eqx [17] I0 I → MKD I Q →
    ∃ I', f_X0_list_L67 o 10 P R n (nI w) I = some I' ∧ Eqx [17] I0 I' ∧ MKD I' (fun j => Q j ∨ ∃ c v, w ≤ c ∧ c < 4 ∧ v < 100 ∧ row c = nI v ∧ v ≤ j ∧ j ≤ v + 2) := by
  intro d
  induction d with
  | zero =>
    intro w n Q I hd hn hE hM
    obtain ⟨n, rfl⟩ : ∃ m, n = m + 1 := ⟨n - 1, by omega⟩
    refine ⟨I, ?_, hE, hM.cg (fun j hj => ⟨Or.inl, fun h => h.resolve_right (fun ⟨c, v, h1, h2, _⟩ => by omega)⟩)⟩
    unfold f_X0_list_L67
    rw [ha, if_pos (show Int32.ofNat 4 ≤ nI w from nI_le (a := 4) (by omega) (by omega))]
  | succ d ih =>
    intro w n Q I hd hn hE hM
    obtain ⟨n, rfl⟩ : ∃ m, n = m + 1 := ⟨n - 1, by omega⟩
    have hv : I 10 w = row w := by rw [hE 10 (by decide)]; exact hrow w (by omega)
    unfold f_X0_list_L67
    rw [ha, if_neg (show ¬ Int32.ofNat 4 ≤ nI w from nI_ge (b := 4) (by omega) (by decide)), bs_b (rd_e w rfl (by omega) (by decide)), hv, nI_1]
    by_cases e : row w = -1
    · rw [if_pos e]
      obtain ⟨I2, b1, b2, b3⟩ := ih (w + 1) n Q I (by omega) (by omega) hE hM
      refine ⟨I2, b1, b2, b3.cg (fun j hj => ⟨fun h => ?_, fun h => ?_⟩)⟩
      · rcases h with h | ⟨c, v, h1, h2⟩
        · exact Or.inl h
        · exact Or.inr ⟨c, v, by omega, h2⟩
      · rcases h with h | ⟨c, v, h1, h2, h3, h4, h5⟩
        · exact Or.inl h
        · by_cases ec : c = w
          · rw [ec, e] at h4; exact absurd h4.symm (nI_m1 (by omega))
          · exact Or.inr ⟨c, v, by omega, h2, h3, h4, h5⟩
    · obtain ⟨v, hv1, hv2⟩ := (hok w (by omega)).resolve_left e
      obtain ⟨I1, a1, a2, a3⟩ := k_mark hv1 hM
      rw [if_neg e, rd_e w rfl (by omega) (by decide), hv, bs_b rfl, hv2, bs_b a1]
      obtain ⟨I2, b1, b2, b3⟩ := ih (w + 1) n _ I1 (by omega) (by omega) (hE.tr a2) a3
      refine ⟨I2, b1, b2, b3.cg (fun j hj => ⟨fun h => ?_, fun h => ?_⟩)⟩
      · rcases h with (h | h) | ⟨c, u, h1, h2⟩
        · exact Or.inl h
        · exact Or.inr ⟨w, v, by omega, by omega, hv1, hv2, h⟩
        · exact Or.inr ⟨c, u, by omega, h2⟩
      · rcases h with h | ⟨c, u, h1, h2, h3, h4, h5⟩
        · exact Or.inl (Or.inl h)
        · by_cases ec : c = w
          · rw [ec, hv2, nI_eq (by omega) (by omega)] at h4
            rw [← h4] at h5
            exact Or.inl (Or.inr h5)
          · exact Or.inr ⟨c, u, by omega, h2, h3, h4, h5⟩
/-- what the list holds -/
def LCd (I : Mem) (Q : Nat → Prop) (sz w : Nat) : Prop := I 16 2 = nI sz ∧ sz ≤ w ∧ (∀ i, i < sz → ∃ v, v < w ∧ Q v ∧ I 18 i = nI v) ∧ ∀ v, v < w → Q v → ∃ i, i < sz ∧ I 18 i = nI v
theorem k_lst_L {R : Rem} {P : Pool} {o : Option Nat} {a : Nat} {Q : Nat → Prop} {I0 : Mem} (hM : MKD I0 Q) : ∀ (d w n sz : Nat) (I : Mem), w + d = 100 → d < n → Eqx [16, 18] I0 I → LCd I Q sz w → ∃ I' sz', f_X0_list_L100 o a P R n (nI w) I = some I' ∧ Eqx [16, 18] I0 I' ∧ LCd I' Q sz' 100 := by
  intro d
  induction d with
  | zero =>
    intro w n sz I hd hn hE hS
    obtain ⟨n, rfl⟩ : ∃ m, n = m + 1 := ⟨n - 1, by omega⟩
    have hw : w = 100 := by omega
    subst hw
    refine ⟨I, sz, ?_, hE, hS⟩
    unfold f_X0_list_L100
    rw [if_pos (show (100 : Int32) ≤ nI 100 by decide)]
  | succ d ih =>
    intro w n sz I hd hn hE hS
    obtain ⟨n, rfl⟩ : ∃ m, n = m + 1 := ⟨n - 1, by omega⟩
    obtain ⟨s1, s2, s3, s4⟩ := hS
    have hf := hM w (by omega)
    rw [← hE 17 (by decide)] at hf
    unfold f_X0_list_L100
    rw [if_neg (show ¬ (100 : Int32) ≤ nI w from nI_ge (b := 100) (by omega) (by decide)), bs_b (rd_e w rfl (by omega) (by decide)), nI_1 w]
    by_cases e : Q w
    · rw [if_neg (fun h => (hf.z.1.mp h) e), bs_b (wr_e sz s1 (by omega) (by decide)), up_ne _ _ _ (show 16 ≠ 18 by decide), s1, nI_1]
      have h16 : ∀ i, up (up I 18 sz (nI w)) 16 2 (nI (sz + 1)) 18 i = up I 18 sz (nI w) 18 i := fun i => by rw [up_ne _ _ _ (show 18 ≠ 16 by decide)]
      refine ih (w + 1) n (sz + 1) _ (by omega) (by omega) ((hE.tr (Eqx.up (by decide))).tr (Eqx.up (by decide))) ⟨up_eq _ _ _ _, by omega, fun i hi => ?_, fun v hv hQ => ?_⟩
      · rw [h16]
        by_cases ei : i = sz
        · exact ⟨w, by omega, e, by rw [ei, up_eq]⟩
        · obtain ⟨v, v1, v2, v3⟩ := s3 i (by omega)
          exact ⟨v, by omega, v2, by rw [up_nk _ _ ei]; exact v3⟩
      · by_cases ev : v = w
        · exact ⟨sz, by omega, by rw [h16, up_eq, ev]⟩
        · obtain ⟨i, i1, i2⟩ := s4 v (by omega) hQ
          exact ⟨i, by omega, by rw [h16, up_nk _ _ (by omega)]; exact i2⟩
    · rw [if_pos (hf.z.1.mpr e)]
      refine ih (w + 1) n sz I (by omega) (by omega) hE ⟨s1, by omega, fun i hi => ?_, fun v hv hQ => ?_⟩
      · obtain ⟨v, v1, v2, v3⟩ := s3 i hi
        exact ⟨v, by omega, v2, v3⟩
      · by_cases ev : v = w
        · rw [ev] at hQ; exact absurd hQ e
        · exact s4 v (by omega) hQ
/-- the candidates -/
theorem k_list {I : Mem} {R : Rem} {P : Pool} {k : Nat} {L : List Nat} {row : Nat → Int32} (hF : FObj I R P k L) (hV : fV L) (ha : Ln P 10 = 4) (hrow : ∀ j, j < 4 → I 10 j = row j) (hok : ∀ j, j < 4 → cok (row j)) : ∃ I' sz, f_X0_list (some k) 10 P R I = some I' ∧ Eqx [16, 17, 18] I I' ∧ LCd I' (mkd (cbs row L)) sz 100 := by
  have hl := hV.2.2.1
  obtain ⟨I1, a1, a2, a3⟩ := k_clr_L (o := some k) (a := 10) (P := P) (R := R) (I0 := I) 100 0 fuel I rfl (by unfold fuel; omega) Eqx.rf (fun j hj => by omega)
  obtain ⟨I2, b1, b2, b3⟩ := k_mark (v := 0) (by decide) a3
  have hE2 : Eqx [17] I I2 := a2.tr b2
  obtain ⟨I3, c1, c2, c3⟩ := k_mkt_L (a := 10) (hF.eqx hE2 (by decide)) (by omega) hV.1 L [] _ I2 fuel rfl (by unfold fuel; omega) Eqx.rf b3
  obtain ⟨I4, d1, d2, d3⟩ := k_mkr_L (o := some k) (R := R) (I0 := I2) ha (fun j hj => by rw [hE2 10 (by decide)]; exact hrow j hj) hok 4 0 fuel _ I3 rfl (by unfold fuel; omega) c2 c3
  have hM : MKD I4 (mkd (cbs row L)) := d3.cg (fun j hj => by
    unfold mkd cbs
    constructor
    · intro h
      refine ⟨hj, ?_⟩
      rcases h with ((h | h) | ⟨t, t1, t2, t3⟩) | ⟨c, v, h1, h2, h3, h4, h5⟩
      · exact absurd h (fun h => h)
      · exact ⟨0, Or.inl rfl, h.1, h.2⟩
      · exact ⟨cO t, Or.inr (Or.inl ⟨t, t1, t2.1, t2.2.1, t2.2.2, rfl⟩), t3.1, t3.2⟩
      · exact ⟨v, Or.inr (Or.inr ⟨c, h2, h3, h4⟩), h5.1, h5.2⟩
    · rintro ⟨-, c, h | ⟨t, t1, t2, t3, t4, t5⟩ | ⟨j2, h2, h3, h4⟩, h5, h6⟩
      · exact Or.inl (Or.inl (Or.inr (by omega)))
      · exact Or.inl (Or.inr ⟨t, t1, ⟨t2, t3, t4⟩, by omega, by omega⟩)
      · exact Or.inr ⟨j2, c, by omega, h2, h3, h4, h5, h6⟩)
  have hE4 : Eqx [17] I I4 := hE2.tr d2
  have hJM : MKD (up I4 16 2 0) (mkd (cbs row L)) := fun j hj => by rw [up_ne _ _ _ (show 17 ≠ 16 by decide)]; exact hM j hj
  obtain ⟨I5, sz, e1, e2, e3⟩ := k_lst_L (o := some k) (a := 10) (P := P) (R := R) hJM 100 0 fuel 0 (up I4 16 2 0) rfl (by unfold fuel; omega) Eqx.rf ⟨up_eq _ _ _ _, Nat.le_refl _, fun i hi => by omega, fun v hv => by omega⟩
  refine ⟨I5, sz, ?_, ((hE4.mono (by decide)).tr (Eqx.up (by decide))).tr (e2.mono (by decide)), e3⟩
  unfold f_X0_list
  rw [bs_b (show f_X0_list_L2 (some k) 10 P R fuel 0 I = some I1 from a1), bs_b (show f_X0_mark 0 I1 = some I2 from b1), bs_b (show f_X0_list_L28 (some k) 10 P R fuel 0 I2 = some I3 from c1), bs_b (show f_X0_list_L67 (some k) 10 P R fuel 0 I3 = some I4 from d1), bs_b (show f_X0_list_L100 (some k) 10 P R fuel 0 (up I4 16 2 0) = some I5 from e1)]
end MB36
