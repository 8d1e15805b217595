/-! THE WORLD: all cells from the base g.2.2.1 on; the objects of the class by their number (70 of them), and a pool behind. I: what int arrays and int fields hold; R: what reference arrays (and Filter.steps) hold, by numbers; P: the pool (kinds, lengths, numbers); Z: the law's own long[]. -/
section WRL
def GT : List Cond := lw_tbl.filter goodWord
theorem GT_mem {w : Cond} (h : w ∈ lw_tbl) (hg : goodWord w = true) : w ∈ GT := List.mem_filter.mpr ⟨h, hg⟩
theorem GT_good {w : Cond} (h : w ∈ GT) : goodWord w = true := (List.mem_filter.mp h).2
theorem GT_in : GoodIn GT GT := fun _ h => ⟨h, good_of_word (GT_good h)⟩
theorem GT_code {c : Cond} (h : c ∈ GT) : GoodIn GT (c :: GT) := fun w hw => (List.mem_cons.mp hw).elim (fun e => by rw [e]; exact GT_in c h) (GT_in w)
abbrev Gam : Type := va_G × (Nat → ClassId) × Nat × Nat
abbrev Pool : Type := (Nat → Nat) × (Nat → Nat) × List Nat
abbrev Mem : Type := Nat → Nat → Int32
abbrev Rem : Type := Nat → Nat → Option Nat
abbrev Zed : Type := Nat → Int64
def kdL : List Nat := [7, 6, 10, 10, 12, 12, 13, 13, 11, 9, 10, 1, 3, 10, 3, 10, 0, 11, 10, 4, 3, 10, 3, 10, 5, 9, 3, 10, 3, 10,
  6, 10, 10, 12, 12, 6, 10, 10, 12, 12, 6, 10, 10, 12, 12, 6, 10, 10, 12, 12, 6, 10, 10, 12, 12, 6, 10, 10, 12, 12, 6, 10, 10, 12, 12, 6, 10, 10, 12, 12]
def lnL : List Nat := [0, 0, 128, 2, 6, 2, 6, 2, 2, 60, 4, 0, 0, 64, 0, 64, 0, 100, 100, 0, 0, 64, 0, 64, 0, 160, 0, 64, 0, 64,
  0, 128, 2, 6, 2, 0, 128, 2, 6, 2, 0, 128, 2, 6, 2, 0, 128, 2, 6, 2, 0, 128, 2, 6, 2, 0, 128, 2, 6, 2, 0, 128, 2, 6, 2, 0, 128, 2, 6, 2]
def Kd (P : Pool) (k : Nat) : Nat := if k < 70 then kdL.getD k 99 else P.1 k
def Ln (P : Pool) (k : Nat) : Nat := if k < 70 then lnL.getD k 0 else P.2.1 k
def LV (P : Pool) : List Nat := List.range 70 ++ P.2.2
/-- the pool: Filters and their rows alone (and the law's long[], number 70), each live one listed -/
def Sh (P : Pool) : Prop := ∀ k, 70 ≤ k → (P.1 k = 99 ∨ P.1 k = 2 ∨ P.1 k = 10 ∨ (P.1 k = 14 ∧ k = 70)) ∧ (P.1 k ≠ 99 → k ∈ P.2.2)
theorem lv_fix {P : Pool} {k : Nat} (h : k < 70) : k ∈ LV P := List.mem_append_left _ (List.mem_range.mpr h)
theorem lv_kd {P : Pool} (hP : Sh P) {k q : Nat} (h : Kd P k = q) (hq : q ≠ 99) : k ∈ LV P := by
  by_cases hk : k < 70
  · exact lv_fix hk
  · unfold Kd at h
    rw [if_neg hk] at h
    exact List.mem_append_right _ ((hP k (by omega)).2 (by rw [h]; exact hq))
def up (I : Mem) (a k : Nat) (x : Int32) : Mem := fun b => if b = a then upd (I a) k x else I b
theorem up_self (I : Mem) (a k : Nat) (x : Int32) : up I a k x a = upd (I a) k x := by simp [up]
theorem up_ne (I : Mem) {a b : Nat} (k : Nat) (x : Int32) (h : b ≠ a) : up I a k x b = I b := by simp [up, h]
def upR (R : Rem) (a k : Nat) (x : Option Nat) : Rem := fun b => if b = a then va_up (R a) k x else R b
theorem upR_self (R : Rem) (a k : Nat) (x : Option Nat) : upR R a k x a = va_up (R a) k x := by simp [upR]
theorem upR_ne (R : Rem) {a b : Nat} (k : Nat) (x : Option Nat) (h : b ≠ a) : upR R a k x b = R b := by simp [upR, h]
def cel (g : Gam) (I : Mem) (R : Rem) (P : Pool) (Z : Zed) (k : Nat) : va_E :=
  if Kd P k = 0 then .inr (0, [.ref (g.2.2.1 + (k + 1)), .ref (g.2.2.1 + (k + 2)), .int (I k 2)])
  else if Kd P k = 1 then .inr (1, [.ref (g.2.2.1 + (k + 1)), .ref (g.2.2.1 + (k + 3))])
  else if Kd P k = 2 then .inr (2, [va_rf ((R k 0).map (g.2.2.1 + ·))])
  else if Kd P k = 3 then .inr (3, [.ref (g.2.2.1 + (k + 1)), .int (I k 1)])
  else if Kd P k = 4 then .inr (4, [.ref (g.2.2.1 + (k + 1)), .ref (g.2.2.1 + (k + 3)), .int (I k 2), .int (I k 3), .int (I k 4), .int (I k 5), .int (I k 6)])
  else if Kd P k = 5 then .inr (5, [.ref (g.2.2.1 + (k + 1)), .ref (g.2.2.1 + (k + 2)), .ref (g.2.2.1 + (k + 4)), .int (I k 3)])
  else if Kd P k = 6 then .inr (6, [.ref (g.2.2.1 + (k + 1)), .ref (g.2.2.1 + (k + 2)), .ref (g.2.2.1 + (k + 3)), .ref (g.2.2.1 + (k + 4)), .int (I k 4)])
  else if Kd P k = 7 then .inr (7, [.ref (g.2.2.1 + (k + 1)), .ref (g.2.2.1 + (k + 6)), .int (I k 2), .ref (g.2.2.1 + (k + 7)), .ref (g.2.2.1 + (k + 8)), .ref (g.2.2.1 + (k + 9)), .int (I k 6), .ref (g.2.2.1 + (k + 10)), .ref (g.2.2.1 + (k + 11)), .ref (g.2.2.1 + (k + 16)), .ref (g.2.2.1 + (k + 19)), .ref (g.2.2.1 + (k + 24))])
  else if Kd P k = 9 then .inl (g.2.1 9, Ln P k, .inl (I k))
  else if Kd P k = 10 then .inl (g.2.1 10, Ln P k, .inl (I k))
  else if Kd P k = 11 then .inl (g.2.1 11, Ln P k, .inl (I k))
  else if Kd P k = 12 then .inl (g.2.1 12, Ln P k, .inr (.inr (.inr (.inr (fun j => (R k j).map (g.2.2.1 + ·))))))
  else if Kd P k = 13 then .inl (g.2.1 13, Ln P k, .inr (.inr (.inr (.inr (fun j => (R k j).map (g.2.2.1 + ·))))))
  else if Kd P k = 14 then .inl (g.2.1 14, Ln P k, .inr (.inl Z))
  else .inr (99, [])
theorem cel_0 {g : Gam} {I : Mem} {R : Rem} {P : Pool} {Z : Zed} {k : Nat} (h : Kd P k = 0) : cel g I R P Z k = .inr (0, [.ref (g.2.2.1 + (k + 1)), .ref (g.2.2.1 + (k + 2)), .int (I k 2)]) := by simp [cel, h]
theorem cel_1 {g : Gam} {I : Mem} {R : Rem} {P : Pool} {Z : Zed} {k : Nat} (h : Kd P k = 1) : cel g I R P Z k = .inr (1, [.ref (g.2.2.1 + (k + 1)), .ref (g.2.2.1 + (k + 3))]) := by simp [cel, h]
theorem cel_2 {g : Gam} {I : Mem} {R : Rem} {P : Pool} {Z : Zed} {k : Nat} (h : Kd P k = 2) : cel g I R P Z k = .inr (2, [va_rf ((R k 0).map (g.2.2.1 + ·))]) := by simp [cel, h]
theorem cel_3 {g : Gam} {I : Mem} {R : Rem} {P : Pool} {Z : Zed} {k : Nat} (h : Kd P k = 3) : cel g I R P Z k = .inr (3, [.ref (g.2.2.1 + (k + 1)), .int (I k 1)]) := by simp [cel, h]
theorem cel_4 {g : Gam} {I : Mem} {R : Rem} {P : Pool} {Z : Zed} {k : Nat} (h : Kd P k = 4) : cel g I R P Z k = .inr (4, [.ref (g.2.2.1 + (k + 1)), .ref (g.2.2.1 + (k + 3)), .int (I k 2), .int (I k 3), .int (I k 4), .int (I k 5), .int (I k 6)]) := by simp [cel, h]
theorem cel_5 {g : Gam} {I : Mem} {R : Rem} {P : Pool} {Z : Zed} {k : Nat} (h : Kd P k = 5) : cel g I R P Z k = .inr (5, [.ref (g.2.2.1 + (k + 1)), .ref (g.2.2.1 + (k + 2)), .ref (g.2.2.1 + (k + 4)), .int (I k 3)]) := by simp [cel, h]
theorem cel_6 {g : Gam} {I : Mem} {R : Rem} {P : Pool} {Z : Zed} {k : Nat} (h : Kd P k = 6) : cel g I R P Z k = .inr (6, [.ref (g.2.2.1 + (k + 1)), .ref (g.2.2.1 + (k + 2)), .ref (g.2.2.1 + (k + 3)), .ref (g.2.2.1 + (k + 4)), .int (I k 4)]) := by simp [cel, h]
theorem cel_7 {g : Gam} {I : Mem} {R : Rem} {P : Pool} {Z : Zed} {k : Nat} (h : Kd P k = 7) : cel g I R P Z k = .inr (7, [.ref (g.2.2.1 + (k + 1)), .ref (g.2.2.1 + (k + 6)), .int (I k 2), .ref (g.2.2.1 + (k + 7)), .ref (g.2.2.1 + (k + 8)), .ref (g.2.2.1 + (k + 9)), .int (I k 6), .ref (g.2.2.1 + (k + 10)), .ref (g.2.2.1 + (k + 11)), .ref (g.2.2.1 + (k + 16)), .ref (g.2.2.1 + (k + 19)), .ref (g.2.2.1 + (k + 24))]) := by simp [cel, h]
theorem cel_9 {g : Gam} {I : Mem} {R : Rem} {P : Pool} {Z : Zed} {k : Nat} (h : Kd P k = 9) : cel g I R P Z k = .inl (g.2.1 9, Ln P k, .inl (I k)) := by simp [cel, h]
theorem cel_10 {g : Gam} {I : Mem} {R : Rem} {P : Pool} {Z : Zed} {k : Nat} (h : Kd P k = 10) : cel g I R P Z k = .inl (g.2.1 10, Ln P k, .inl (I k)) := by simp [cel, h]
theorem cel_11 {g : Gam} {I : Mem} {R : Rem} {P : Pool} {Z : Zed} {k : Nat} (h : Kd P k = 11) : cel g I R P Z k = .inl (g.2.1 11, Ln P k, .inl (I k)) := by simp [cel, h]
theorem cel_12 {g : Gam} {I : Mem} {R : Rem} {P : Pool} {Z : Zed} {k : Nat} (h : Kd P k = 12) : cel g I R P Z k = .inl (g.2.1 12, Ln P k, .inr (.inr (.inr (.inr (fun j => (R k j).map (g.2.2.1 + ·)))))) := by simp [cel, h]
theorem cel_13 {g : Gam} {I : Mem} {R : Rem} {P : Pool} {Z : Zed} {k : Nat} (h : Kd P k = 13) : cel g I R P Z k = .inl (g.2.1 13, Ln P k, .inr (.inr (.inr (.inr (fun j => (R k j).map (g.2.2.1 + ·)))))) := by simp [cel, h]
theorem cel_14 {g : Gam} {I : Mem} {R : Rem} {P : Pool} {Z : Zed} {k : Nat} (h : Kd P k = 14) : cel g I R P Z k = .inl (g.2.1 14, Ln P k, .inr (.inl Z)) := by simp [cel, h]
theorem cel_I {g : Gam} {I : Mem} {R : Rem} {P : Pool} {Z : Zed} {k : Nat} {I2 : Mem} (h : I2 k = I k) : cel g I2 R P Z k = cel g I R P Z k := by unfold cel; rw [h]
theorem cel_R {g : Gam} {I : Mem} {R : Rem} {P : Pool} {Z : Zed} {k : Nat} {R2 : Rem} (h : R2 k = R k) : cel g I R2 P Z k = cel g I R P Z k := by unfold cel; rw [h]
theorem pu_0_2 {g : Gam} {I : Mem} {R : Rem} {P : Pool} {Z : Zed} {k : Nat} {x : Int32} (h : Kd P k = 0) (i : Nat) : va_up (cel g I R P Z) k (.inr (0, ([.ref (g.2.2.1 + (k + 1)), .ref (g.2.2.1 + (k + 2)), .int (I k 2)] : List Value).set 2 (.int x))) i = cel g (up I k 2 x) R P Z i := by
  by_cases hi : i = k
  · subst hi; rw [cel_0 h, up_self]; simp [va_up, upd]
  · rw [va_up_ne _ _ hi, cel_I (up_ne I 2 x hi)]
theorem pu_3_1 {g : Gam} {I : Mem} {R : Rem} {P : Pool} {Z : Zed} {k : Nat} {x : Int32} (h : Kd P k = 3) (i : Nat) : va_up (cel g I R P Z) k (.inr (3, ([.ref (g.2.2.1 + (k + 1)), .int (I k 1)] : List Value).set 1 (.int x))) i = cel g (up I k 1 x) R P Z i := by
  by_cases hi : i = k
  · subst hi; rw [cel_3 h, up_self]; simp [va_up, upd]
  · rw [va_up_ne _ _ hi, cel_I (up_ne I 1 x hi)]
theorem pu_4_2 {g : Gam} {I : Mem} {R : Rem} {P : Pool} {Z : Zed} {k : Nat} {x : Int32} (h : Kd P k = 4) (i : Nat) : va_up (cel g I R P Z) k (.inr (4, ([.ref (g.2.2.1 + (k + 1)), .ref (g.2.2.1 + (k + 3)), .int (I k 2), .int (I k 3), .int (I k 4), .int (I k 5), .int (I k 6)] : List Value).set 2 (.int x))) i = cel g (up I k 2 x) R P Z i := by
  by_cases hi : i = k
  · subst hi; rw [cel_4 h, up_self]; simp [va_up, upd]
  · rw [va_up_ne _ _ hi, cel_I (up_ne I 2 x hi)]
theorem pu_4_3 {g : Gam} {I : Mem} {R : Rem} {P : Pool} {Z : Zed} {k : Nat} {x : Int32} (h : Kd P k = 4) (i : Nat) : va_up (cel g I R P Z) k (.inr (4, ([.ref (g.2.2.1 + (k + 1)), .ref (g.2.2.1 + (k + 3)), .int (I k 2), .int (I k 3), .int (I k 4), .int (I k 5), .int (I k 6)] : List Value).set 3 (.int x))) i = cel g (up I k 3 x) R P Z i := by
  by_cases hi : i = k
  · subst hi; rw [cel_4 h, up_self]; simp [va_up, upd]
  · rw [va_up_ne _ _ hi, cel_I (up_ne I 3 x hi)]
theorem pu_4_4 {g : Gam} {I : Mem} {R : Rem} {P : Pool} {Z : Zed} {k : Nat} {x : Int32} (h : Kd P k = 4) (i : Nat) : va_up (cel g I R P Z) k (.inr (4, ([.ref (g.2.2.1 + (k + 1)), .ref (g.2.2.1 + (k + 3)), .int (I k 2), .int (I k 3), .int (I k 4), .int (I k 5), .int (I k 6)] : List Value).set 4 (.int x))) i = cel g (up I k 4 x) R P Z i := by
  by_cases hi : i = k
  · subst hi; rw [cel_4 h, up_self]; simp [va_up, upd]
  · rw [va_up_ne _ _ hi, cel_I (up_ne I 4 x hi)]
theorem pu_4_5 {g : Gam} {I : Mem} {R : Rem} {P : Pool} {Z : Zed} {k : Nat} {x : Int32} (h : Kd P k = 4) (i : Nat) : va_up (cel g I R P Z) k (.inr (4, ([.ref (g.2.2.1 + (k + 1)), .ref (g.2.2.1 + (k + 3)), .int (I k 2), .int (I k 3), .int (I k 4), .int (I k 5), .int (I k 6)] : List Value).set 5 (.int x))) i = cel g (up I k 5 x) R P Z i := by
  by_cases hi : i = k
  · subst hi; rw [cel_4 h, up_self]; simp [va_up, upd]
  · rw [va_up_ne _ _ hi, cel_I (up_ne I 5 x hi)]
theorem pu_4_6 {g : Gam} {I : Mem} {R : Rem} {P : Pool} {Z : Zed} {k : Nat} {x : Int32} (h : Kd P k = 4) (i : Nat) : va_up (cel g I R P Z) k (.inr (4, ([.ref (g.2.2.1 + (k + 1)), .ref (g.2.2.1 + (k + 3)), .int (I k 2), .int (I k 3), .int (I k 4), .int (I k 5), .int (I k 6)] : List Value).set 6 (.int x))) i = cel g (up I k 6 x) R P Z i := by
  by_cases hi : i = k
  · subst hi; rw [cel_4 h, up_self]; simp [va_up, upd]
  · rw [va_up_ne _ _ hi, cel_I (up_ne I 6 x hi)]
theorem pu_5_3 {g : Gam} {I : Mem} {R : Rem} {P : Pool} {Z : Zed} {k : Nat} {x : Int32} (h : Kd P k = 5) (i : Nat) : va_up (cel g I R P Z) k (.inr (5, ([.ref (g.2.2.1 + (k + 1)), .ref (g.2.2.1 + (k + 2)), .ref (g.2.2.1 + (k + 4)), .int (I k 3)] : List Value).set 3 (.int x))) i = cel g (up I k 3 x) R P Z i := by
  by_cases hi : i = k
  · subst hi; rw [cel_5 h, up_self]; simp [va_up, upd]
  · rw [va_up_ne _ _ hi, cel_I (up_ne I 3 x hi)]
theorem pu_6_4 {g : Gam} {I : Mem} {R : Rem} {P : Pool} {Z : Zed} {k : Nat} {x : Int32} (h : Kd P k = 6) (i : Nat) : va_up (cel g I R P Z) k (.inr (6, ([.ref (g.2.2.1 + (k + 1)), .ref (g.2.2.1 + (k + 2)), .ref (g.2.2.1 + (k + 3)), .ref (g.2.2.1 + (k + 4)), .int (I k 4)] : List Value).set 4 (.int x))) i = cel g (up I k 4 x) R P Z i := by
  by_cases hi : i = k
  · subst hi; rw [cel_6 h, up_self]; simp [va_up, upd]
  · rw [va_up_ne _ _ hi, cel_I (up_ne I 4 x hi)]
theorem pu_7_2 {g : Gam} {I : Mem} {R : Rem} {P : Pool} {Z : Zed} {k : Nat} {x : Int32} (h : Kd P k = 7) (i : Nat) : va_up (cel g I R P Z) k (.inr (7, ([.ref (g.2.2.1 + (k + 1)), .ref (g.2.2.1 + (k + 6)), .int (I k 2), .ref (g.2.2.1 + (k + 7)), .ref (g.2.2.1 + (k + 8)), .ref (g.2.2.1 + (k + 9)), .int (I k 6), .ref (g.2.2.1 + (k + 10)), .ref (g.2.2.1 + (k + 11)), .ref (g.2.2.1 + (k + 16)), .ref (g.2.2.1 + (k + 19)), .ref (g.2.2.1 + (k + 24))] : List Value).set 2 (.int x))) i = cel g (up I k 2 x) R P Z i := by
  by_cases hi : i = k
  · subst hi; rw [cel_7 h, up_self]; simp [va_up, upd]
  · rw [va_up_ne _ _ hi, cel_I (up_ne I 2 x hi)]
theorem pu_7_6 {g : Gam} {I : Mem} {R : Rem} {P : Pool} {Z : Zed} {k : Nat} {x : Int32} (h : Kd P k = 7) (i : Nat) : va_up (cel g I R P Z) k (.inr (7, ([.ref (g.2.2.1 + (k + 1)), .ref (g.2.2.1 + (k + 6)), .int (I k 2), .ref (g.2.2.1 + (k + 7)), .ref (g.2.2.1 + (k + 8)), .ref (g.2.2.1 + (k + 9)), .int (I k 6), .ref (g.2.2.1 + (k + 10)), .ref (g.2.2.1 + (k + 11)), .ref (g.2.2.1 + (k + 16)), .ref (g.2.2.1 + (k + 19)), .ref (g.2.2.1 + (k + 24))] : List Value).set 6 (.int x))) i = cel g (up I k 6 x) R P Z i := by
  by_cases hi : i = k
  · subst hi; rw [cel_7 h, up_self]; simp [va_up, upd]
  · rw [va_up_ne _ _ hi, cel_I (up_ne I 6 x hi)]
theorem ps_9 {g : Gam} {I : Mem} {R : Rem} {P : Pool} {Z : Zed} {k : Nat} {j : Nat} {x : Int32} (h : Kd P k = 9) (i : Nat) : va_up (cel g I R P Z) k (.inl (g.2.1 9, Ln P k, .inl (upd (I k) j x))) i = cel g (up I k j x) R P Z i := by
  by_cases hi : i = k
  · subst hi; rw [cel_9 h, up_self]; simp [va_up]
  · rw [va_up_ne _ _ hi, cel_I (up_ne I j x hi)]
theorem ps_10 {g : Gam} {I : Mem} {R : Rem} {P : Pool} {Z : Zed} {k : Nat} {j : Nat} {x : Int32} (h : Kd P k = 10) (i : Nat) : va_up (cel g I R P Z) k (.inl (g.2.1 10, Ln P k, .inl (upd (I k) j x))) i = cel g (up I k j x) R P Z i := by
  by_cases hi : i = k
  · subst hi; rw [cel_10 h, up_self]; simp [va_up]
  · rw [va_up_ne _ _ hi, cel_I (up_ne I j x hi)]
theorem ps_11 {g : Gam} {I : Mem} {R : Rem} {P : Pool} {Z : Zed} {k : Nat} {j : Nat} {x : Int32} (h : Kd P k = 11) (i : Nat) : va_up (cel g I R P Z) k (.inl (g.2.1 11, Ln P k, .inl (upd (I k) j x))) i = cel g (up I k j x) R P Z i := by
  by_cases hi : i = k
  · subst hi; rw [cel_11 h, up_self]; simp [va_up]
  · rw [va_up_ne _ _ hi, cel_I (up_ne I j x hi)]
theorem va_up_mapR (f : Nat → Option Nat) (b j : Nat) (x : Option Nat) : va_up (fun t => (f t).map (fun y => b + y)) j (x.map (fun y => b + y)) = fun t => (va_up f j x t).map (fun y => b + y) := by
  funext t; simp only [va_up]; split <;> rfl
theorem ps_12 {g : Gam} {I : Mem} {R : Rem} {P : Pool} {Z : Zed} {k : Nat} {j : Nat} {x : Option Nat} (h : Kd P k = 12) (i : Nat) : va_up (cel g I R P Z) k (.inl (g.2.1 12, Ln P k, .inr (.inr (.inr (.inr (va_up (fun t => (R k t).map (g.2.2.1 + ·)) j (x.map (g.2.2.1 + ·)))))))) i = cel g I (upR R k j x) P Z i := by
  by_cases hi : i = k
  · subst hi; rw [cel_12 h, upR_self, va_up_mapR]; simp [va_up]
  · rw [va_up_ne _ _ hi, cel_R (upR_ne R j x hi)]
theorem ps_13 {g : Gam} {I : Mem} {R : Rem} {P : Pool} {Z : Zed} {k : Nat} {j : Nat} {x : Option Nat} (h : Kd P k = 13) (i : Nat) : va_up (cel g I R P Z) k (.inl (g.2.1 13, Ln P k, .inr (.inr (.inr (.inr (va_up (fun t => (R k t).map (g.2.2.1 + ·)) j (x.map (g.2.2.1 + ·)))))))) i = cel g I (upR R k j x) P Z i := by
  by_cases hi : i = k
  · subst hi; rw [cel_13 h, upR_self, va_up_mapR]; simp [va_up]
  · rw [va_up_ne _ _ hi, cel_R (upR_ne R j x hi)]
def ws (g : Gam) (I : Mem) (R : Rem) (P : Pool) (Z : Zed) : va_W := va_pl ((LV P).map (fun k => g.2.2.1 + k)) (fun a => cel g I R P Z (a - g.2.2.1))
theorem ws_get {g : Gam} {I : Mem} {R : Rem} {P : Pool} {Z : Zed} {k : Nat} (h : k ∈ LV P) : ∃ q0 : Nat, (ws g I R P Z)[q0]? = some (g.2.2.1 + k, cel g I R P Z k) := by
  obtain ⟨q0, hq⟩ := va_pl_get (X := []) (L := (LV P).map (fun k => g.2.2.1 + k)) (f := fun a => cel g I R P Z (a - g.2.2.1)) (a := g.2.2.1 + k) (List.mem_map.mpr ⟨k, h, rfl⟩)
  refine ⟨q0, ?_⟩
  have h2 : g.2.2.1 + k - g.2.2.1 = k := by omega
  have hq' : (ws g I R P Z)[q0]? = some (g.2.2.1 + k, cel g I R P Z (g.2.2.1 + k - g.2.2.1)) := hq
  rw [h2] at hq'
  exact hq'
theorem ws_set {g : Gam} {A : Nat → Prop} {I I2 : Mem} {R R2 : Rem} {P : Pool} {Z Z2 : Zed} {k q0 : Nat} {e : va_E} (hD : va_D A (ws g I R P Z)) (h : k ∈ LV P) (hq : (ws g I R P Z)[q0]? = some (g.2.2.1 + k, cel g I R P Z k)) (hE : ∀ i, va_up (cel g I R P Z) k e i = cel g I2 R2 P Z2 i) :
    (ws g I R P Z).set q0 (g.2.2.1 + k, e) = ws g I2 R2 P Z2 := by
  have h2 : g.2.2.1 + k - g.2.2.1 = k := by omega
  have hD' : va_D A ([] ++ va_pl ((LV P).map (fun k => g.2.2.1 + k)) (fun a => cel g I R P Z (a - g.2.2.1))) := hD
  have hq' : ([] ++ va_pl ((LV P).map (fun k => g.2.2.1 + k)) (fun a => cel g I R P Z (a - g.2.2.1)))[q0]? = some (g.2.2.1 + k, (fun a => cel g I R P Z (a - g.2.2.1)) (g.2.2.1 + k)) := by
    show (ws g I R P Z)[q0]? = some (g.2.2.1 + k, cel g I R P Z (g.2.2.1 + k - g.2.2.1))
    rw [h2]; exact hq
  have hs := va_pl_set (e := e) hD' (List.mem_map.mpr ⟨k, h, rfl⟩) hq'
  refine Eq.trans hs ?_
  show va_pl _ _ = va_pl _ _
  unfold va_pl
  refine List.map_congr_left fun a ha => ?_
  obtain ⟨i, -, rfl⟩ := List.mem_map.mp ha
  have h3 : g.2.2.1 + i - g.2.2.1 = i := by omega
  have h4 := hE i
  refine congrArg (fun z => (g.2.2.1 + i, z)) ?_
  dsimp only
  rw [h3, ← h4]
  by_cases hi : i = k
  · subst hi; simp [va_up]
  · rw [va_up_ne _ _ hi, va_up_ne _ _ (by omega), h3]
def tysL (cs : Nat → ClassId) : List (ClassId × FieldType) := [(cs 9, .char), (cs 10, .int), (cs 11, .boolean), (cs 12, .object RX2), (cs 13, .object RX6), (cs 14, .long)]
def AA (g : Gam) : Nat → Prop := fun q => g.2.2.2 ≤ q
end WRL
