/-! WHAT HAS THROWN changed nothing. -/
section ERL
theorem er_add {σ : Gst} {x1 x2 x3 x4 x5 : Int32} {e : Nat} (h : (opAdd σ x1 x2 x3 x4 x5).1 = .inr e) : (opAdd σ x1 x2 x3 x4 x5).2 = σ := by
  revert h
  unfold opAdd
  repeat' split
  all_goals (intro h; first | rfl | cases h)
theorem ce_add {σ : Gst} {a bb : Int32} {mo : Int64} {e : Nat} (h : (opAdd σ a bb (dcC mo) (dcD mo) (dcE mo)).1 = .inr e) : callF σ 0 a bb mo = (resV (.inr e), σ) := by rw [cf_0, er_add h, h]
theorem er_change {σ : Gst} {x1 x2 x3 x4 : Int32} {e : Nat} (h : (opChange σ x1 x2 x3 x4).1 = .inr e) : (opChange σ x1 x2 x3 x4).2 = σ := by
  revert h
  unfold opChange
  repeat' split
  all_goals (intro h; first | rfl | cases h)
theorem ce_change {σ : Gst} {a bb : Int32} {mo : Int64} {e : Nat} (h : (opChange σ a bb (dcC mo) (dcD mo)).1 = .inr e) : callF σ 1 a bb mo = (resV (.inr e), σ) := by rw [cf_1, er_change h, h]
theorem er_drop {σ : Gst} {x1 x2 : Int32} {e : Nat} (h : (opDrop σ x1 x2).1 = .inr e) : (opDrop σ x1 x2).2 = σ := by
  revert h
  unfold opDrop
  repeat' split
  all_goals (intro h; first | rfl | cases h)
theorem ce_drop {σ : Gst} {a bb : Int32} {mo : Int64} {e : Nat} (h : (opDrop σ a bb).1 = .inr e) : callF σ 2 a bb mo = (resV (.inr e), σ) := by rw [cf_2, er_drop h, h]
theorem er_define {σ : Gst} {x1 : Int32} {e : Nat} (h : (opDefine σ x1).1 = .inr e) : (opDefine σ x1).2 = σ := by
  revert h
  unfold opDefine
  repeat' split
  all_goals (intro h; first | rfl | cases h)
theorem ce_define {σ : Gst} {a bb : Int32} {mo : Int64} {e : Nat} (h : (opDefine σ a).1 = .inr e) : callF σ 3 a bb mo = (resV (.inr e), σ) := by rw [cf_3, er_define h, h]
theorem er_combine {σ : Gst} {x1 x2 x3 x4 : Int32} {e : Nat} (h : (opCombine σ x1 x2 x3 x4).1 = .inr e) : (opCombine σ x1 x2 x3 x4).2 = σ := by
  revert h
  unfold opCombine
  repeat' split
  all_goals (intro h; first | rfl | cases h)
theorem ce_combine {σ : Gst} {a bb : Int32} {mo : Int64} {e : Nat} (h : (opCombine σ a bb (dcC mo) (dcD mo)).1 = .inr e) : callF σ 4 a bb mo = (resV (.inr e), σ) := by rw [cf_4, er_combine h, h]
theorem er_check {σ : Gst} {x1 x2 : Int32} {e : Nat} (h : (opCheck σ x1 x2).1 = .inr e) : (opCheck σ x1 x2).2 = σ := by
  revert h
  unfold opCheck
  repeat' split
  all_goals (intro h; first | rfl | cases h)
theorem ce_check {σ : Gst} {a bb : Int32} {mo : Int64} {e : Nat} (h : (opCheck σ a bb).1 = .inr e) : callF σ 5 a bb mo = (resV (.inr e), σ) := by rw [cf_5, er_check h, h]
theorem er_remove {σ : Gst} {x1 x2 : Int32} {e : Nat} (h : (opRemove σ x1 x2).1 = .inr e) : (opRemove σ x1 x2).2 = σ := by
  revert h
  unfold opRemove
  repeat' split
  all_goals (intro h; first | rfl | cases h)
theorem ce_remove {σ : Gst} {a bb : Int32} {mo : Int64} {e : Nat} (h : (opRemove σ a bb).1 = .inr e) : callF σ 6 a bb mo = (resV (.inr e), σ) := by rw [cf_6, er_remove h, h]
theorem er_update {σ : Gst} {x1 x2 x3 x4 : Int32} {e : Nat} (h : (opUpdate σ x1 x2 x3 x4).1 = .inr e) : (opUpdate σ x1 x2 x3 x4).2 = σ := by
  revert h
  unfold opUpdate
  repeat' split
  all_goals (intro h; first | rfl | cases h)
theorem ce_update {σ : Gst} {a bb : Int32} {mo : Int64} {e : Nat} (h : (opUpdate σ a bb (dcC mo) (dcD mo)).1 = .inr e) : callF σ 7 a bb mo = (resV (.inr e), σ) := by rw [cf_7, er_update h, h]
theorem er_append {σ : Gst} {x1 : Int32} {e : Nat} (h : (opAppend σ x1).1 = .inr e) : (opAppend σ x1).2 = σ := by
  revert h
  unfold opAppend
  repeat' split
  all_goals (intro h; first | rfl | cases h)
theorem ce_append {σ : Gst} {a bb : Int32} {mo : Int64} {e : Nat} (h : (opAppend σ a).1 = .inr e) : callF σ 8 a bb mo = (resV (.inr e), σ) := by rw [cf_8, er_append h, h]
theorem er_undo {σ : Gst} {e : Nat} (h : (opUndo σ).1 = .inr e) : (opUndo σ).2 = σ := by
  revert h
  unfold opUndo
  repeat' split
  all_goals (intro h; first | rfl | cases h)
theorem ce_undo {σ : Gst} {a bb : Int32} {mo : Int64} {e : Nat} (h : (opUndo σ).1 = .inr e) : callF σ 9 a bb mo = (resV (.inr e), σ) := by rw [cf_9, er_undo h, h]
theorem er_keep {σ : Gst} {x1 : Int32} {e : Nat} (h : (opKeep σ x1).1 = .inr e) : (opKeep σ x1).2 = σ := by
  revert h
  unfold opKeep
  repeat' split
  all_goals (intro h; first | rfl | cases h)
theorem ce_keep {σ : Gst} {a bb : Int32} {mo : Int64} {e : Nat} (h : (opKeep σ a).1 = .inr e) : callF σ 10 a bb mo = (resV (.inr e), σ) := by rw [cf_10, er_keep h, h]
theorem er_goBack {σ : Gst} {x1 : Int32} {e : Nat} (h : (opGoBack σ x1).1 = .inr e) : (opGoBack σ x1).2 = σ := by
  revert h
  unfold opGoBack
  repeat' split
  all_goals (intro h; first | rfl | cases h)
theorem ce_goBack {σ : Gst} {a bb : Int32} {mo : Int64} {e : Nat} (h : (opGoBack σ a).1 = .inr e) : callF σ 11 a bb mo = (resV (.inr e), σ) := by rw [cf_11, er_goBack h, h]
theorem ce_cell {σ : Gst} {a bb : Int32} {mo : Int64} {e : Nat} (h : opCell σ.1 a bb (dcC mo) = .inr e) : callF σ 12 a bb mo = (resV (.inr e), σ) := by rw [cf_12, h]
theorem ce_column {σ : Gst} {a bb : Int32} {mo : Int64} {e : Nat} (h : opColumn σ.1 a bb (dcC mo) = .inr e) : callF σ 13 a bb mo = (resV (.inr e), σ) := by rw [cf_13, h]
theorem ce_group {σ : Gst} {a bb : Int32} {mo : Int64} {e : Nat} (h : opGroup σ.1 a bb (dcC mo) (dcD mo) = .inr e) : callF σ 14 a bb mo = (resV (.inr e), σ) := by rw [cf_14, h]
theorem ce_truth {σ : Gst} {a bb : Int32} {mo : Int64} {e : Nat} (h : opTruth σ.1 a bb (dcC mo) = .inr e) : callF σ 15 a bb mo = (resV (.inr e), σ) := by rw [cf_15, h]
theorem ce_rows {σ : Gst} {a bb : Int32} {mo : Int64} {e : Nat} (h : opRows σ.1 a bb (dcC mo) (dcD mo) = .inr e) : callF σ 16 a bb mo = (resV (.inr e), σ) := by rw [cf_16, h]
theorem ce_filter {σ : Gst} {a bb : Int32} {mo : Int64} {e : Nat} (h : opFilter σ.1 a bb = .inr e) : callF σ 17 a bb mo = (resV (.inr e), σ) := by rw [cf_17, h]
theorem ce_letter {σ : Gst} {a bb : Int32} {mo : Int64} {e : Nat} (h : opLetter σ.1 a bb = .inr e) : callF σ 18 a bb mo = (resV (.inr e), σ) := by rw [cf_18, h]
theorem ce_compare {σ : Gst} {a bb : Int32} {mo : Int64} {e : Nat} (h : opCompare σ.1 a bb (dcC mo) (dcD mo) = .inr e) : callF σ 19 a bb mo = (resV (.inr e), σ) := by rw [cf_19, h]
theorem ce_certain {σ : Gst} {a bb : Int32} {mo : Int64} {e : Nat} (h : opCertain σ.1 a bb (dcC mo) = .inr e) : callF σ 20 a bb mo = (resV (.inr e), σ) := by rw [cf_20, h]
theorem ce_join {σ : Gst} {a bb : Int32} {mo : Int64} {e : Nat} (h : opJoin σ.1 a bb (dcC mo) = .inr e) : callF σ 21 a bb mo = (resV (.inr e), σ) := by rw [cf_21, h]
theorem ce_among {σ : Gst} {a bb : Int32} {mo : Int64} {e : Nat} (h : opAmong σ.1 a bb (dcC mo) = .inr e) : callF σ 22 a bb mo = (resV (.inr e), σ) := by rw [cf_22, h]
theorem ce_count {σ : Gst} {a bb : Int32} {mo : Int64} {e : Nat} (h : opCount σ a = .inr e) : callF σ 23 a bb mo = (resV (.inr e), σ) := by rw [cf_23, h]
theorem WA_eq {g : Gam} {σ τ : Gst} {b : Bool} {Z : Zed} {H0 H : Heap} {locs : List Loc} (h : eqG σ τ = true) (hW : WA g σ b Z H0 H locs) : WA g τ b Z H0 H locs := by
  obtain ⟨⟨I, R, P, a, c, o, d⟩, hS⟩ := hW
  exact ⟨⟨I, R, P, a, (To_eq h).1 I R P c, (To_eq h).2 o, d⟩, hS⟩
end ERL
