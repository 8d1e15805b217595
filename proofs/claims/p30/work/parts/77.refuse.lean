/-! WHAT IS REFUSED: the calls of the law that must throw. -/
section RQL
theorem rq_add_0 {σ : Gst} {a bb : Int32} {mo : Int64}  (h0 : ixb 2 a = false) : callF σ 0 a bb mo = (-100011, σ) := by
  rw [cf_0]; unfold opAdd; rw [if_neg (show ¬ ixb 2 a = true by rw [h0]; decide)]; rfl
theorem rq_add_1 {σ : Gst} {a bb : Int32} {mo : Int64} (h0 : ixb 2 a = true) (h1 : (cvb bb && cvb (dcC mo) && cvb (dcD mo) && cvb (dcE mo)) = false) : callF σ 0 a bb mo = (-100012, σ) := by
  rw [cf_0]; unfold opAdd; rw [if_pos h0, if_neg (show ¬ (cvb bb && cvb (dcC mo) && cvb (dcD mo) && cvb (dcE mo)) = true by rw [h1]; decide)]; rfl
theorem rq_change_0 {σ : Gst} {a bb : Int32} {mo : Int64}  (h0 : (ixb 2 a && ixb (σ.1.1 (vN a)) bb) = false) : callF σ 1 a bb mo = (-100011, σ) := by
  rw [cf_1]; unfold opChange; rw [if_neg (show ¬ (ixb 2 a && ixb (σ.1.1 (vN a)) bb) = true by rw [h0]; decide)]; rfl
theorem rq_change_1 {σ : Gst} {a bb : Int32} {mo : Int64} (h0 : (ixb 2 a && ixb (σ.1.1 (vN a)) bb) = true) (h1 : ixb 4 (dcC mo) = false) : callF σ 1 a bb mo = (-100011, σ) := by
  rw [cf_1]; unfold opChange; rw [if_pos h0, if_neg (show ¬ ixb 4 (dcC mo) = true by rw [h1]; decide)]; rfl
theorem rq_change_2 {σ : Gst} {a bb : Int32} {mo : Int64} (h0 : (ixb 2 a && ixb (σ.1.1 (vN a)) bb) = true) (h1 : ixb 4 (dcC mo) = true) (h2 : cvb (dcD mo) = false) : callF σ 1 a bb mo = (-100012, σ) := by
  rw [cf_1]; unfold opChange; rw [if_pos h0, if_pos h1, if_neg (show ¬ cvb (dcD mo) = true by rw [h2]; decide)]; rfl
theorem rq_drop_0 {σ : Gst} {a bb : Int32} {mo : Int64}  (h0 : (ixb 2 a && ixb (σ.1.1 (vN a)) bb) = false) : callF σ 2 a bb mo = (-100011, σ) := by
  rw [cf_2]; unfold opDrop; rw [if_neg (show ¬ (ixb 2 a && ixb (σ.1.1 (vN a)) bb) = true by rw [h0]; decide)]; rfl
theorem rq_define_0 {σ : Gst} {a bb : Int32} {mo : Int64}  (h0 : ixb 6 a = false) : callF σ 3 a bb mo = (-100011, σ) := by
  rw [cf_3]; unfold opDefine; rw [if_neg (show ¬ ixb 6 a = true by rw [h0]; decide)]; rfl
theorem rq_combine_0 {σ : Gst} {a bb : Int32} {mo : Int64}  (h0 : ixb 6 a = false) : callF σ 4 a bb mo = (-100011, σ) := by
  rw [cf_4]; unfold opCombine; rw [if_neg (show ¬ ixb 6 a = true by rw [h0]; decide)]; rfl
theorem rq_combine_1 {σ : Gst} {a bb : Int32} {mo : Int64} (h0 : ixb 6 a = true) (h1 : ixb 6 bb = false) : callF σ 4 a bb mo = (-100011, σ) := by
  rw [cf_4]; unfold opCombine; rw [if_pos h0, if_neg (show ¬ ixb 6 bb = true by rw [h1]; decide)]; rfl
theorem rq_combine_2 {σ : Gst} {a bb : Int32} {mo : Int64} (h0 : ixb 6 a = true) (h1 : ixb 6 bb = true) (h2 : ixb 6 (dcC mo) = false) : callF σ 4 a bb mo = (-100011, σ) := by
  rw [cf_4]; unfold opCombine; rw [if_pos h0, if_pos h1, if_neg (show ¬ ixb 6 (dcC mo) = true by rw [h2]; decide)]; rfl
theorem rq_combine_3 {σ : Gst} {a bb : Int32} {mo : Int64} (h0 : ixb 6 a = true) (h1 : ixb 6 bb = true) (h2 : ixb 6 (dcC mo) = true) (h3 : ixb 3 (dcD mo) = false) : callF σ 4 a bb mo = (-100012, σ) := by
  rw [cf_4]; unfold opCombine; rw [if_pos h0, if_pos h1, if_pos h2, if_neg (show ¬ ixb 3 (dcD mo) = true by rw [h3]; decide)]; rfl
theorem rq_check_0 {σ : Gst} {a bb : Int32} {mo : Int64}  (h0 : ixb 2 a = false) : callF σ 5 a bb mo = (-100011, σ) := by
  rw [cf_5]; unfold opCheck; rw [if_neg (show ¬ ixb 2 a = true by rw [h0]; decide)]; rfl
theorem rq_check_1 {σ : Gst} {a bb : Int32} {mo : Int64} (h0 : ixb 2 a = true) (h1 : ¬ bb = -2) (h2 : ixb 6 bb = false) : callF σ 5 a bb mo = (-100011, σ) := by
  rw [cf_5]; unfold opCheck; rw [if_pos h0, if_neg h1, if_neg (show ¬ ixb 6 bb = true by rw [h2]; decide)]; rfl
theorem rq_remove_0 {σ : Gst} {a bb : Int32} {mo : Int64}  (h0 : ixb 2 a = false) : callF σ 6 a bb mo = (-100011, σ) := by
  rw [cf_6]; unfold opRemove; rw [if_neg (show ¬ ixb 2 a = true by rw [h0]; decide)]; rfl
theorem rq_remove_1 {σ : Gst} {a bb : Int32} {mo : Int64} (h0 : ixb 2 a = true) (h1 : ixb 6 bb = false) : callF σ 6 a bb mo = (-100011, σ) := by
  rw [cf_6]; unfold opRemove; rw [if_pos h0, if_neg (show ¬ ixb 6 bb = true by rw [h1]; decide)]; rfl
theorem rq_update_0 {σ : Gst} {a bb : Int32} {mo : Int64}  (h0 : ixb 2 a = false) : callF σ 7 a bb mo = (-100011, σ) := by
  rw [cf_7]; unfold opUpdate; rw [if_neg (show ¬ ixb 2 a = true by rw [h0]; decide)]; rfl
theorem rq_update_1 {σ : Gst} {a bb : Int32} {mo : Int64} (h0 : ixb 2 a = true) (h1 : ixb 6 bb = false) : callF σ 7 a bb mo = (-100011, σ) := by
  rw [cf_7]; unfold opUpdate; rw [if_pos h0, if_neg (show ¬ ixb 6 bb = true by rw [h1]; decide)]; rfl
theorem rq_update_2 {σ : Gst} {a bb : Int32} {mo : Int64} (h0 : ixb 2 a = true) (h1 : ixb 6 bb = true) (h2 : ixb 4 (dcC mo) = false) : callF σ 7 a bb mo = (-100011, σ) := by
  rw [cf_7]; unfold opUpdate; rw [if_pos h0, if_pos h1, if_neg (show ¬ ixb 4 (dcC mo) = true by rw [h2]; decide)]; rfl
theorem rq_update_3 {σ : Gst} {a bb : Int32} {mo : Int64} (h0 : ixb 2 a = true) (h1 : ixb 6 bb = true) (h2 : ixb 4 (dcC mo) = true) (h3 : cvb (dcD mo) = false) : callF σ 7 a bb mo = (-100012, σ) := by
  rw [cf_7]; unfold opUpdate; rw [if_pos h0, if_pos h1, if_pos h2, if_neg (show ¬ cvb (dcD mo) = true by rw [h3]; decide)]; rfl
theorem rq_append_0 {σ : Gst} {a bb : Int32} {mo : Int64}  (h0 : chb a = false) : callF σ 8 a bb mo = (-100012, σ) := by
  rw [cf_8]; unfold opAppend; rw [if_neg (show ¬ chb a = true by rw [h0]; decide)]; rfl
theorem rq_keep_0 {σ : Gst} {a bb : Int32} {mo : Int64}  (h0 : ixb 2 a = false) : callF σ 10 a bb mo = (-100012, σ) := by
  rw [cf_10]; unfold opKeep; rw [if_neg (show ¬ ixb 2 a = true by rw [h0]; decide)]; rfl
theorem rq_goBack_0 {σ : Gst} {a bb : Int32} {mo : Int64}  (h0 : ixb 2 a = false) : callF σ 11 a bb mo = (-100012, σ) := by
  rw [cf_11]; unfold opGoBack; rw [if_neg (show ¬ ixb 2 a = true by rw [h0]; decide)]; rfl
theorem rq_cell_0 {σ : Gst} {a bb : Int32} {mo : Int64}  (h0 : (ixb 2 a && ixb (σ.1.1 (vN a)) bb) = false) : callF σ 12 a bb mo = (-100011, σ) := by
  rw [cf_12]; unfold opCell; rw [if_neg (show ¬ (ixb 2 a && ixb (σ.1.1 (vN a)) bb) = true by rw [h0]; decide)]; rfl
theorem rq_cell_1 {σ : Gst} {a bb : Int32} {mo : Int64} (h0 : (ixb 2 a && ixb (σ.1.1 (vN a)) bb) = true) (h1 : ixb 4 (dcC mo) = false) : callF σ 12 a bb mo = (-100011, σ) := by
  rw [cf_12]; unfold opCell; rw [if_pos h0, if_neg (show ¬ ixb 4 (dcC mo) = true by rw [h1]; decide)]; rfl
theorem rq_column_0 {σ : Gst} {a bb : Int32} {mo : Int64}  (h0 : ixb 2 a = false) : callF σ 13 a bb mo = (-100011, σ) := by
  rw [cf_13]; unfold opColumn; rw [if_neg (show ¬ ixb 2 a = true by rw [h0]; decide)]; rfl
theorem rq_column_1 {σ : Gst} {a bb : Int32} {mo : Int64} (h0 : ixb 2 a = true) (h1 : ixb 4 bb = false) : callF σ 13 a bb mo = (-100011, σ) := by
  rw [cf_13]; unfold opColumn; rw [if_pos h0, if_neg (show ¬ ixb 4 bb = true by rw [h1]; decide)]; rfl
theorem rq_column_2 {σ : Gst} {a bb : Int32} {mo : Int64} (h0 : ixb 2 a = true) (h1 : ixb 4 bb = true) (h2 : ixb 7 (dcC mo) = false) : callF σ 13 a bb mo = (-100012, σ) := by
  rw [cf_13]; unfold opColumn; rw [if_pos h0, if_pos h1, if_neg (show ¬ ixb 7 (dcC mo) = true by rw [h2]; decide)]; rfl
theorem rq_group_0 {σ : Gst} {a bb : Int32} {mo : Int64}  (h0 : ixb 2 a = false) : callF σ 14 a bb mo = (-100011, σ) := by
  rw [cf_14]; unfold opGroup; rw [if_neg (show ¬ ixb 2 a = true by rw [h0]; decide)]; rfl
theorem rq_group_1 {σ : Gst} {a bb : Int32} {mo : Int64} (h0 : ixb 2 a = true) (h1 : ixb 4 bb = false) : callF σ 14 a bb mo = (-100011, σ) := by
  rw [cf_14]; unfold opGroup; rw [if_pos h0, if_neg (show ¬ ixb 4 bb = true by rw [h1]; decide)]; rfl
theorem rq_group_2 {σ : Gst} {a bb : Int32} {mo : Int64} (h0 : ixb 2 a = true) (h1 : ixb 4 bb = true) (h2 : ¬ 0 ≤ (dcC mo)) : callF σ 14 a bb mo = (-100012, σ) := by
  rw [cf_14]; unfold opGroup; rw [if_pos h0, if_pos h1, if_neg h2]; rfl
theorem rq_group_3 {σ : Gst} {a bb : Int32} {mo : Int64} (h0 : ixb 2 a = true) (h1 : ixb 4 bb = true) (h2 : 0 ≤ (dcC mo)) (h3 : ixb 8 (dcD mo) = false) : callF σ 14 a bb mo = (-100012, σ) := by
  rw [cf_14]; unfold opGroup; rw [if_pos h0, if_pos h1, if_pos h2, if_neg (show ¬ ixb 8 (dcD mo) = true by rw [h3]; decide)]; rfl
theorem rq_truth_0 {σ : Gst} {a bb : Int32} {mo : Int64}  (h0 : (ixb 2 a && ixb (σ.1.1 (vN a)) bb) = false) : callF σ 15 a bb mo = (-100011, σ) := by
  rw [cf_15]; unfold opTruth; rw [if_neg (show ¬ (ixb 2 a && ixb (σ.1.1 (vN a)) bb) = true by rw [h0]; decide)]; rfl
theorem rq_truth_1 {σ : Gst} {a bb : Int32} {mo : Int64} (h0 : (ixb 2 a && ixb (σ.1.1 (vN a)) bb) = true) (h1 : ixb 6 (dcC mo) = false) : callF σ 15 a bb mo = (-100011, σ) := by
  rw [cf_15]; unfold opTruth; rw [if_pos h0, if_neg (show ¬ ixb 6 (dcC mo) = true by rw [h1]; decide)]; rfl
theorem rq_rows_0 {σ : Gst} {a bb : Int32} {mo : Int64}  (h0 : ixb 2 a = false) : callF σ 16 a bb mo = (-100011, σ) := by
  rw [cf_16]; unfold opRows; rw [if_neg (show ¬ ixb 2 a = true by rw [h0]; decide)]; rfl
theorem rq_rows_1 {σ : Gst} {a bb : Int32} {mo : Int64} (h0 : ixb 2 a = true) (h1 : ixb 6 bb = false) : callF σ 16 a bb mo = (-100011, σ) := by
  rw [cf_16]; unfold opRows; rw [if_pos h0, if_neg (show ¬ ixb 6 bb = true by rw [h1]; decide)]; rfl
theorem rq_rows_2 {σ : Gst} {a bb : Int32} {mo : Int64} (h0 : ixb 2 a = true) (h1 : ixb 6 bb = true) (h2 : ixb 3 (dcC mo) = false) : callF σ 16 a bb mo = (-100012, σ) := by
  rw [cf_16]; unfold opRows; rw [if_pos h0, if_pos h1, if_neg (show ¬ ixb 3 (dcC mo) = true by rw [h2]; decide)]; rfl
theorem rq_rows_3 {σ : Gst} {a bb : Int32} {mo : Int64} (h0 : ixb 2 a = true) (h1 : ixb 6 bb = true) (h2 : ixb 3 (dcC mo) = true) (h3 : ixb 2 (dcD mo) = false) : callF σ 16 a bb mo = (-100012, σ) := by
  rw [cf_16]; unfold opRows; rw [if_pos h0, if_pos h1, if_pos h2, if_neg (show ¬ ixb 2 (dcD mo) = true by rw [h3]; decide)]; rfl
theorem rq_filter_0 {σ : Gst} {a bb : Int32} {mo : Int64}  (h0 : ixb 6 a = false) : callF σ 17 a bb mo = (-100011, σ) := by
  rw [cf_17]; unfold opFilter; rw [if_neg (show ¬ ixb 6 a = true by rw [h0]; decide)]; rfl
theorem rq_filter_1 {σ : Gst} {a bb : Int32} {mo : Int64} (h0 : ixb 6 a = true) (h1 : ixb 5 bb = false) : callF σ 17 a bb mo = (-100012, σ) := by
  rw [cf_17]; unfold opFilter; rw [if_pos h0, if_neg (show ¬ ixb 5 bb = true by rw [h1]; decide)]; rfl
theorem rq_letter_0 {σ : Gst} {a bb : Int32} {mo : Int64}  (h0 : ixb 6 a = false) : callF σ 18 a bb mo = (-100011, σ) := by
  rw [cf_18]; unfold opLetter; rw [if_neg (show ¬ ixb 6 a = true by rw [h0]; decide)]; rfl
theorem rq_letter_1 {σ : Gst} {a bb : Int32} {mo : Int64} (h0 : ixb 6 a = true) (h1 : ¬ 0 ≤ bb) : callF σ 18 a bb mo = (-100012, σ) := by
  rw [cf_18]; unfold opLetter; rw [if_pos h0, if_neg h1]; rfl
theorem rq_compare_0 {σ : Gst} {a bb : Int32} {mo : Int64}  (h0 : ixb 2 a = false) : callF σ 19 a bb mo = (-100011, σ) := by
  rw [cf_19]; unfold opCompare; rw [if_neg (show ¬ ixb 2 a = true by rw [h0]; decide)]; rfl
theorem rq_compare_1 {σ : Gst} {a bb : Int32} {mo : Int64} (h0 : ixb 2 a = true) (h1 : ixb 6 bb = false) : callF σ 19 a bb mo = (-100011, σ) := by
  rw [cf_19]; unfold opCompare; rw [if_pos h0, if_neg (show ¬ ixb 6 bb = true by rw [h1]; decide)]; rfl
theorem rq_compare_2 {σ : Gst} {a bb : Int32} {mo : Int64} (h0 : ixb 2 a = true) (h1 : ixb 6 bb = true) (h2 : ixb 6 (dcC mo) = false) : callF σ 19 a bb mo = (-100011, σ) := by
  rw [cf_19]; unfold opCompare; rw [if_pos h0, if_pos h1, if_neg (show ¬ ixb 6 (dcC mo) = true by rw [h2]; decide)]; rfl
theorem rq_compare_3 {σ : Gst} {a bb : Int32} {mo : Int64} (h0 : ixb 2 a = true) (h1 : ixb 6 bb = true) (h2 : ixb 6 (dcC mo) = true) (h3 : ixb 3 (dcD mo) = false) : callF σ 19 a bb mo = (-100012, σ) := by
  rw [cf_19]; unfold opCompare; rw [if_pos h0, if_pos h1, if_pos h2, if_neg (show ¬ ixb 3 (dcD mo) = true by rw [h3]; decide)]; rfl
theorem rq_certain_0 {σ : Gst} {a bb : Int32} {mo : Int64}  (h0 : (ixb 2 a && ixb (σ.1.1 (vN a)) bb) = false) : callF σ 20 a bb mo = (-100011, σ) := by
  rw [cf_20]; unfold opCertain; rw [if_neg (show ¬ (ixb 2 a && ixb (σ.1.1 (vN a)) bb) = true by rw [h0]; decide)]; rfl
theorem rq_join_0 {σ : Gst} {a bb : Int32} {mo : Int64}  (h0 : ixb 4 a = false) : callF σ 21 a bb mo = (-100011, σ) := by
  rw [cf_21]; unfold opJoin; rw [if_neg (show ¬ ixb 4 a = true by rw [h0]; decide)]; rfl
theorem rq_join_1 {σ : Gst} {a bb : Int32} {mo : Int64} (h0 : ixb 4 a = true) (h1 : ixb 4 bb = false) : callF σ 21 a bb mo = (-100011, σ) := by
  rw [cf_21]; unfold opJoin; rw [if_pos h0, if_neg (show ¬ ixb 4 bb = true by rw [h1]; decide)]; rfl
theorem rq_join_2 {σ : Gst} {a bb : Int32} {mo : Int64} (h0 : ixb 4 a = true) (h1 : ixb 4 bb = true) (h2 : ¬ 0 ≤ (dcC mo)) : callF σ 21 a bb mo = (-100012, σ) := by
  rw [cf_21]; unfold opJoin; rw [if_pos h0, if_pos h1, if_neg h2]; rfl
theorem rq_among_0 {σ : Gst} {a bb : Int32} {mo : Int64}  (h0 : ixb (σ.1.1 0) a = false) : callF σ 22 a bb mo = (-100011, σ) := by
  rw [cf_22]; unfold opAmong; rw [if_neg (show ¬ ixb (σ.1.1 0) a = true by rw [h0]; decide)]; rfl
theorem rq_among_1 {σ : Gst} {a bb : Int32} {mo : Int64} (h0 : ixb (σ.1.1 0) a = true) (h1 : ixb 4 bb = false) : callF σ 22 a bb mo = (-100011, σ) := by
  rw [cf_22]; unfold opAmong; rw [if_pos h0, if_neg (show ¬ ixb 4 bb = true by rw [h1]; decide)]; rfl
theorem rq_among_2 {σ : Gst} {a bb : Int32} {mo : Int64} (h0 : ixb (σ.1.1 0) a = true) (h1 : ixb 4 bb = true) (h2 : ixb 4 (dcC mo) = false) : callF σ 22 a bb mo = (-100011, σ) := by
  rw [cf_22]; unfold opAmong; rw [if_pos h0, if_pos h1, if_neg (show ¬ ixb 4 (dcC mo) = true by rw [h2]; decide)]; rfl
theorem rq_count_0 {σ : Gst} {a bb : Int32} {mo : Int64}  (h0 : ixb 8 a = false) : callF σ 23 a bb mo = (-100012, σ) := by
  rw [cf_23]; unfold opCount; rw [if_neg (show ¬ ixb 8 a = true by rw [h0]; decide)]; rfl
theorem rq_share_0 {σ : Gst} {a bb : Int32} {mo : Int64}  (h0 : ixb 2 a = false) : callF σ 24 a bb mo = (-100011, σ) := by
  rw [cf_24]; unfold opShare; rw [if_neg (show ¬ ixb 2 a = true by rw [h0]; decide)]; rfl
theorem rq_share_1 {σ : Gst} {a bb : Int32} {mo : Int64} (h0 : ixb 2 a = true) (h1 : ixb 6 bb = false) : callF σ 24 a bb mo = (-100011, σ) := by
  rw [cf_24]; unfold opShare; rw [if_pos h0, if_neg (show ¬ ixb 6 bb = true by rw [h1]; decide)]; rfl
theorem rq_define_1 {N : Abs} {S : List Abs} {X : Nat → Option Abs} {a bb : Int32} {mo : Int64} (h0 : ixb 6 a = true) : callF (N, S, X, []) 3 a bb mo = (-100012, N, S, X, []) := by
  rw [cf_3]; unfold opDefine; rw [if_pos h0, if_neg (show ¬ ((run p0 []).1 = ([] : List Nat).length ∧ (stl (run p0 []).2).1 = 4 ∧ (stl (run p0 []).2).2.1 = 0) by decide)]; rfl
theorem rowA {a : Int32} {x : Bool} (h : ixb 2 a = false) : (ixb 2 a && x) = false := by rw [h]; rfl
theorem rowB {A : Abs} {r : Int32} (h : ixb (A.1 0) r = false) : (ixb 2 0 && ixb (A.1 (vN 0)) r) = false := by rw [show vN 0 = 0 from rfl, h, Bool.and_false]
theorem rowG {A : Abs} {r : Int32} (h : ixb (A.1 0) r = true) : (ixb 2 0 && ixb (A.1 (vN 0)) r) = true := by rw [show vN 0 = 0 from rfl, h]; decide +kernel
theorem row_out {n : Nat} (hn : n ≤ 16) (k : Int32) : ixb n (wideF k 0 (nI n - 1)) = false := by
  unfold wideF
  split
  · exact ix_out (by omega) (Or.inl (by decide))
  · split
    · exact ix_out (by omega) (Or.inr (by rw [Int32.sub_add_cancel]; exact nI_le (Nat.le_refl _) (by omega)))
    · split
      · exact ix_out (by omega) (Or.inl (by decide))
      · exact ix_out (by omega) (Or.inr (nI_le (b := 2147483647) (by omega) (by decide)))
abbrev rmL_refusesTables : Room := { frames := 10, cells := 56, slots := 1820, locals := 197 }
abbrev rmL_refusesFilters : Room := { frames := 10, cells := 68, slots := 2210, locals := 197 }
theorem ls_refusesTables {Rm : Room} {s : State} {args : Array Value} (ht : ∀ w ∈ GT, w.before args s = true) (hR : rmL_refusesTables.frames + 1 ≤ Rm.frames ∧ 8 + (5 + 11) + rmL_refusesTables.locals ≤ Rm.locals) : CallB Rm s args RL 133 yL_refusesTables cL_refusesTables 5 (some .boolean) (Cond.code yL_refusesTables cL_refusesTables 5 (some .boolean) :: GT) rmL_refusesTables 56 1820 2 ∧ (Cond.static yL_refusesTables).before args s = true := va_cwS 2 ht (goodS wl131 wl133 wl27 wl132) rfl rfl rfl ⟨by decide +kernel, by decide +kernel, by decide +kernel⟩ hR
theorem ls_refusesFilters {Rm : Room} {s : State} {args : Array Value} (ht : ∀ w ∈ GT, w.before args s = true) (hR : rmL_refusesFilters.frames + 1 ≤ Rm.frames ∧ 8 + (5 + 11) + rmL_refusesFilters.locals ≤ Rm.locals) : CallB Rm s args RL 137 yL_refusesFilters cL_refusesFilters 5 (some .boolean) (Cond.code yL_refusesFilters cL_refusesFilters 5 (some .boolean) :: GT) rmL_refusesFilters 68 2210 2 ∧ (Cond.static yL_refusesFilters).before args s = true := va_cwS 2 ht (goodS wl141 wl143 wl27 wl142) rfl rfl rfl ⟨by decide +kernel, by decide +kernel, by decide +kernel⟩ hR
end RQL
