/-! WHAT A CALL THAT MAY CHANGE answers: it throws and changes nothing, or it answers -2 or more and saves the state before. -/
section SVX
theorem big_nI {n : Nat} (h : n < 1000000) : (-2 : Int32) ≤ nI n := by
  have h0 := nI_pos (n := n) (by omega)
  rw [fa_lt] at h0
  rw [Int32.le_iff_toInt_le]
  have h1 : (-2 : Int32).toInt = -2 := by decide
  have h2 : (0 : Int32).toInt = 0 := by decide
  omega
theorem big_cok {x : Int32} (h : cok x) : (-2 : Int32) ≤ x := by
  rcases h with rfl | ⟨v, hv, rfl⟩
  · decide
  · exact big_nI (by omega)
theorem big_res {x : Int32} (h : (-2 : Int32) ≤ x) : ¬ x ≤ -100011 := by
  rw [Int32.le_iff_toInt_le] at h ⊢
  have h1 : (-2 : Int32).toInt = -2 := by decide
  have h2 : (-100011 : Int32).toInt = -100011 := by decide
  omega
def SAV (σ : Gst) (q : (Int32 ⊕ Nat) × Gst) : Prop := (∃ e, q = (.inr e, σ)) ∨ ∃ v N2, q = (.inl v, N2, svd σ.2.1 σ.1, σ.2.2) ∧ (-2 : Int32) ≤ v
def SVC (σ : Gst) (q : Int32 × Gst) : Prop := (q.1 ≤ -100011 ∧ q.2 = σ) ∨ (¬ q.1 ≤ -100011 ∧ ∃ N2, q.2 = (N2, svd σ.2.1 σ.1, σ.2.2))
theorem svc_of {σ : Gst} {q : (Int32 ⊕ Nat) × Gst} (h : SAV σ q) : SVC σ (resV q.1, q.2) := by
  rcases h with ⟨e, rfl⟩ | ⟨v, N2, rfl, hv⟩
  · refine Or.inl ⟨?_, rfl⟩
    show (if e = 0 then (-100011 : Int32) else if e = 1 then -100012 else -100013) ≤ -100011
    split
    · decide
    · split <;> decide
  · exact Or.inr ⟨big_res hv, N2, rfl⟩
variable {σ : Gst} {x1 x2 x3 x4 x5 : Int32}
theorem sv_add (hO : GOk σ) : SAV σ (opAdd σ x1 x2 x3 x4 x5) := by
  unfold opAdd
  rcases ixs x1 (n := 2) (by decide) with ⟨t, ht, -, b0, v0⟩ | ⟨-, b0⟩
  · rw [if_pos b0, v0]
    split
    · split
      · exact Or.inl ⟨_, rfl⟩
      · refine Or.inr ⟨_, _, rfl, ?_⟩
        unfold addV
        split
        · decide
        · exact big_nI (by have := hO.1.1 t ht; omega)
    · exact Or.inl ⟨_, rfl⟩
  · rw [if_neg (by rw [b0]; decide)]; exact Or.inl ⟨_, rfl⟩
theorem sv_change (hO : GOk σ) : SAV σ (opChange σ x1 x2 x3 x4) := by
  unfold opChange
  rcases ixs x1 (n := 2) (by decide) with ⟨t, ht, -, b0, v0⟩ | ⟨-, b0⟩
  · rw [v0, b0, Bool.true_and]
    have hn := hO.1.1 t ht
    rcases ixs x2 (n := σ.1.1 t) (by omega) with ⟨r, hr, -, b1, v1⟩ | ⟨-, b1⟩
    · rw [if_pos b1, v1]
      rcases ixs x3 (n := 4) (by decide) with ⟨c, hc, -, b2, v2⟩ | ⟨-, b2⟩
      · rw [if_pos b2, v2]
        split
        · refine Or.inr ⟨_, _, rfl, ?_⟩
          unfold chgV
          split
          · decide
          · exact big_cok (hO.1.2.1 t r c ht hr hc)
        · exact Or.inl ⟨_, rfl⟩
      · rw [if_neg (by rw [b2]; decide)]; exact Or.inl ⟨_, rfl⟩
    · rw [if_neg (by rw [b1]; decide)]; exact Or.inl ⟨_, rfl⟩
  · rw [b0, Bool.false_and, if_neg (by decide)]; exact Or.inl ⟨_, rfl⟩
theorem sv_drop (hO : GOk σ) : SAV σ (opDrop σ x1 x2) := by
  unfold opDrop
  rcases ixs x1 (n := 2) (by decide) with ⟨t, ht, -, b0, v0⟩ | ⟨-, b0⟩
  · rw [v0, b0, Bool.true_and]
    have hn := hO.1.1 t ht
    split
    · refine Or.inr ⟨_, _, rfl, ?_⟩
      unfold dropV
      exact big_nI (by have := kp_le (hb (b1 (vN x2))) (σ.1.1 t); omega)
    · exact Or.inl ⟨_, rfl⟩
  · rw [b0, Bool.false_and, if_neg (by decide)]; exact Or.inl ⟨_, rfl⟩
theorem sv_check (hO : GOk σ) : SAV σ (opCheck σ x1 x2) := by
  unfold opCheck
  rcases ixs x1 (n := 2) (by decide) with ⟨t, ht, -, b0, v0⟩ | ⟨-, b0⟩
  · rw [if_pos b0, v0]
    have hn := hO.1.1 t ht
    split
    · exact Or.inr ⟨_, _, rfl, by decide⟩
    · split
      · split
        · exact Or.inl ⟨_, rfl⟩
        · refine Or.inr ⟨_, _, rfl, ?_⟩
          unfold brk
          exact big_nI (Nat.lt_of_le_of_lt (cntb_le _ _) (by omega))
      · exact Or.inl ⟨_, rfl⟩
  · rw [if_neg (by rw [b0]; decide)]; exact Or.inl ⟨_, rfl⟩
theorem sv_remove (hO : GOk σ) : SAV σ (opRemove σ x1 x2) := by
  unfold opRemove
  rcases ixs x1 (n := 2) (by decide) with ⟨t, ht, -, b0, v0⟩ | ⟨-, b0⟩
  · rw [if_pos b0, v0]
    have hn := hO.1.1 t ht
    split
    · split
      · exact Or.inl ⟨_, rfl⟩
      · refine Or.inr ⟨_, _, rfl, ?_⟩
        unfold remV
        exact big_nI (Nat.lt_of_le_of_lt (cntb_le _ _) (by omega))
    · exact Or.inl ⟨_, rfl⟩
  · rw [if_neg (by rw [b0]; decide)]; exact Or.inl ⟨_, rfl⟩
theorem sv_update (hO : GOk σ) : SAV σ (opUpdate σ x1 x2 x3 x4) := by
  unfold opUpdate
  rcases ixs x1 (n := 2) (by decide) with ⟨t, ht, -, b0, v0⟩ | ⟨-, b0⟩
  · rw [if_pos b0, v0]
    have hn := hO.1.1 t ht
    split
    · split
      · split
        · split
          · exact Or.inl ⟨_, rfl⟩
          · refine Or.inr ⟨_, _, rfl, ?_⟩
            unfold upfV remV
            split
            · decide
            · exact big_nI (Nat.lt_of_le_of_lt (cntb_le _ _) (by omega))
        · exact Or.inl ⟨_, rfl⟩
      · exact Or.inl ⟨_, rfl⟩
    · exact Or.inl ⟨_, rfl⟩
  · rw [if_neg (by rw [b0]; decide)]; exact Or.inl ⟨_, rfl⟩
theorem sv_combine : SAV σ (opCombine σ x1 x2 x3 x4) := by
  unfold opCombine
  split
  · split
    · split
      · split
        · split
          · exact Or.inl ⟨_, rfl⟩
          · split
            · exact Or.inl ⟨_, rfl⟩
            · split
              · rename_i h; exact Or.inr ⟨_, _, rfl, big_nI (by omega)⟩
              · exact Or.inl ⟨_, rfl⟩
        · exact Or.inl ⟨_, rfl⟩
      · exact Or.inl ⟨_, rfl⟩
    · exact Or.inl ⟨_, rfl⟩
  · exact Or.inl ⟨_, rfl⟩
theorem sv_goBack (hO : GOk σ) : SAV σ (opGoBack σ x1) := by
  unfold opGoBack
  rcases ixs x1 (n := 2) (by decide) with ⟨j, hj, -, b0, v0⟩ | ⟨-, b0⟩
  · rw [if_pos b0, v0]
    cases hq : σ.2.2.1 j with
    | none => exact Or.inl ⟨_, rfl⟩
    | some A =>
      have hA := (hO.2.2.1 j A hj hq).1
      exact Or.inr ⟨_, _, rfl, big_nI (by have := hA 0 (by decide); have := hA 1 (by decide); omega)⟩
  · rw [if_neg (by rw [b0]; decide)]; exact Or.inl ⟨_, rfl⟩
variable {a bb : Int32} {mo : Int64}
theorem cs_0 (hO : GOk σ) : SVC σ (callF σ 0 a bb mo) := by rw [cf_0]; exact svc_of (sv_add hO)
theorem cs_1 (hO : GOk σ) : SVC σ (callF σ 1 a bb mo) := by rw [cf_1]; exact svc_of (sv_change hO)
theorem cs_2 (hO : GOk σ) : SVC σ (callF σ 2 a bb mo) := by rw [cf_2]; exact svc_of (sv_drop hO)
theorem cs_4 (hO : GOk σ) : SVC σ (callF σ 4 a bb mo) := by rw [cf_4]; exact svc_of sv_combine
theorem cs_5 (hO : GOk σ) : SVC σ (callF σ 5 a bb mo) := by rw [cf_5]; exact svc_of (sv_check hO)
theorem cs_6 (hO : GOk σ) : SVC σ (callF σ 6 a bb mo) := by rw [cf_6]; exact svc_of (sv_remove hO)
theorem cs_7 (hO : GOk σ) : SVC σ (callF σ 7 a bb mo) := by rw [cf_7]; exact svc_of (sv_update hO)
theorem cs_11 (hO : GOk σ) : SVC σ (callF σ 11 a bb mo) := by rw [cf_11]; exact svc_of (sv_goBack hO)
/-! THE LAW'S HISTORY: state number acts is at hand, the newest six before it (and the four ahead of number 0) are saved. -/
def seenA (N : Abs) : Int64 := seenF (N, [], fun _ => none, [])
theorem seen_A (σ : Gst) : seenF σ = seenA σ.1 := rfl
def LI (h : Nat → Abs) (n : Nat) (N : Abs) (S : List Abs) : Prop := h n = N ∧ S.length = min 6 (4 + n) ∧ ∀ j, j < S.length → j < n → S[S.length - 1 - j]? = some (h (n - 1 - j))
theorem LI.step {h : Nat → Abs} {n : Nat} {N N2 : Abs} {S : List Abs} (hh : LI h n N S) : LI (fun i => if i = n + 1 then N2 else h i) (n + 1) N2 (svd S N) := by
  obtain ⟨h1, h2, h3⟩ := hh
  have hsv : (svd S N).length = min 6 (4 + (n + 1)) := by
    rw [(svd_len (A := N) (by omega)).1]
    split <;> omega
  refine ⟨if_pos rfl, hsv, fun j hj hn => ?_⟩
  have hT : ∃ T : List Abs, svd S N = T ++ [N] ∧ T = (if S.length = 6 then S.tail else S) := ⟨_, rfl, rfl⟩
  obtain ⟨T, e1, e2⟩ := hT
  have hl : (svd S N).length = T.length + 1 := by rw [e1, List.length_append]; rfl
  rw [hl] at hj
  show (svd S N)[(svd S N).length - 1 - j]? = some (if n + 1 - 1 - j = n + 1 then N2 else h (n + 1 - 1 - j))
  rw [if_neg (by omega), hl, e1]
  cases j with
  | zero =>
    rw [show T.length + 1 - 1 - 0 = T.length by omega, show n + 1 - 1 - 0 = n by omega, h1]
    simp
  | succ j =>
    rw [List.getElem?_append_left (by omega), show n + 1 - 1 - (j + 1) = n - 1 - j by omega]
    rw [← h3 j (by
      rw [e2] at hj
      split at hj
      · rw [List.length_tail] at hj; omega
      · omega) (by omega)]
    rw [e2]
    by_cases e : S.length = 6
    · rw [if_pos e, List.length_tail]
      rw [e2, if_pos e, List.length_tail] at hj
      rw [List.getElem?_tail]
      congr 1
      omega
    · rw [if_neg e]
      congr 1
      omega
/-- after k undos -/
def LU (h : Nat → Abs) (n k : Nat) (N : Abs) (S : List Abs) : Prop := h (n - k) = N ∧ S.length + k = min 6 (4 + n) ∧ ∀ j, j < S.length → j + k < n → S[S.length - 1 - j]? = some (h (n - 1 - k - j))
theorem LU.z {h : Nat → Abs} {n : Nat} {N : Abs} {S : List Abs} (hh : LI h n N S) : LU h n 0 N S := ⟨hh.1, hh.2.1, hh.2.2⟩
theorem LU.step {h : Nat → Abs} {n k : Nat} {N : Abs} {S : List Abs} (hh : LU h n k N S) (h0 : ¬ S.length = 0) (hk : k < n) : ∃ A S', S = S' ++ [A] ∧ LU h n (k + 1) A S' := by
  obtain ⟨h1, h2, h3⟩ := hh
  rcases List.eq_nil_or_concat S with rfl | ⟨S', A, rfl⟩
  · exact absurd rfl h0
  · refine ⟨A, S', List.concat_eq_append .., ?_⟩
    rw [List.concat_eq_append] at *
    have hl : (S' ++ [A]).length = S'.length + 1 := by rw [List.length_append]; rfl
    rw [hl] at h2 h3
    refine ⟨?_, by omega, fun j hj hn => ?_⟩
    · have := h3 0 (by omega) (by omega)
      rw [show S'.length + 1 - 1 - 0 = S'.length by omega] at this
      simp at this
      rw [this]
      congr 1
      omega
    · have := h3 (j + 1) (by omega) (by omega)
      rw [List.getElem?_append_left (by omega)] at this
      rw [show n - 1 - (k + 1) - j = n - 1 - k - (j + 1) by omega, ← this]
      congr 1
      omega
theorem undo_s {N A : Abs} {S : List Abs} {X : (Nat → Option Abs) × List Nat} : opUndo (N, S ++ [A], X) = (.inl (nI S.length), A, S, X) := by
  unfold opUndo
  simp
end SVX
