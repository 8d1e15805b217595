section LWR
theorem xp_X8_define {x1 : Int32} {P zP : Pool} {R zR : Rem} {I zI : Mem} {nx e : Nat} (h : f_X8_define x1 P R I nx = some (.inr e, zI, zR, zP)) : zP = P := by
  unfold f_X8_define at h
  obtain ⟨q1, -, h⟩ := bnd h
  rcases q1 with v | e1
  · have h := sm_le h
    obtain ⟨q4, -, h⟩ := bnd h
    by_cases hc : q4.1 < q4.2 0 6
    · have h := ift hc h
      cases h; rfl
    · have h := iff_ hc h
      obtain ⟨q5, -, h⟩ := bnd h
      by_cases hc : q5.1 = 0
      · have h := ift hc h
        cases h; rfl
      · have h := iff_ hc h
        obtain ⟨q6, -, h⟩ := bnd h
        obtain ⟨q7, -, h⟩ := bnd h
        obtain ⟨q8, -, h⟩ := bnd h
        obtain ⟨q9, -, h⟩ := bnd h
        obtain ⟨q10, -, h⟩ := bnd h
        obtain ⟨q11, -, h⟩ := bnd h
        cases h
  · have h := sm_re h
    cases h; rfl
theorem xn_X8_negationOf {o0 : Option Nat} {P : Pool} {R : Rem} {I : Mem} {nx e : Nat} {q : (Option Nat ⊕ Nat) × Mem × Rem × Pool} (h : f_X8_negationOf o0 P R I nx = some q) (he : q.1 = .inr e) : q.2.2.2 = P := by
  unfold f_X8_negationOf at h
  obtain ⟨k1, -, h⟩ := bnd h
  obtain ⟨q2, -, h⟩ := bnd h
  obtain ⟨q3, -, h⟩ := bnd h
  rcases q3 with v4 | e1
  · have h := sm_le h
    obtain ⟨-, h⟩ := ifn h
    obtain ⟨k6, -, h⟩ := bnd h
    obtain ⟨q7, -, h⟩ := bnd h
    obtain ⟨q8, -, h⟩ := bnd h
    obtain ⟨I9, -, h⟩ := bnd h
    obtain ⟨q10, -, h⟩ := bnd h
    cases h; cases he
  · have h := sm_re h
    cases h; rfl
theorem xn_X8_joinOf {o0 o1 : Option Nat} {x2 : Int32} {P : Pool} {R : Rem} {I : Mem} {nx e : Nat} {q : (Option Nat ⊕ Nat) × Mem × Rem × Pool} (h : f_X8_joinOf o0 o1 x2 P R I nx = some q) (he : q.1 = .inr e) : q.2.2.2 = P := by
  unfold f_X8_joinOf at h
  obtain ⟨k1, -, h⟩ := bnd h
  obtain ⟨q2, -, h⟩ := bnd h
  obtain ⟨k3, -, h⟩ := bnd h
  obtain ⟨q4, -, h⟩ := bnd h
  obtain ⟨q5, -, h⟩ := bnd h
  rcases q5 with v4 | e1
  · have h := sm_le h
    obtain ⟨-, h⟩ := ifn h
    obtain ⟨k6, -, h⟩ := bnd h
    obtain ⟨q7, -, h⟩ := bnd h
    obtain ⟨k8, -, h⟩ := bnd h
    obtain ⟨q9, -, h⟩ := bnd h
    obtain ⟨k10, -, h⟩ := bnd h
    obtain ⟨q11, -, h⟩ := bnd h
    obtain ⟨q12, -, h⟩ := bnd h
    obtain ⟨I9, -, h⟩ := bnd h
    obtain ⟨q10, -, h⟩ := bnd h
    cases h; cases he
  · have h := sm_re h
    cases h; rfl
theorem xp_X8_combine {x1 x2 x3 x4 : Int32} {P zP : Pool} {R zR : Rem} {I zI : Mem} {nx e : Nat} (h : f_X8_combine x1 x2 x3 x4 P R I nx = some (.inr e, zI, zR, zP)) : zP = P := by
  unfold f_X8_combine at h
  obtain ⟨q1, -, h⟩ := bnd h
  rcases q1 with v | e1
  rotate_left
  · have h := sm_re h
    cases h; rfl
  have h := sm_le h
  obtain ⟨q1, -, h⟩ := bnd h
  rcases q1 with v | e1
  rotate_left
  · have h := sm_re h
    cases h; rfl
  have h := sm_le h
  obtain ⟨q1, -, h⟩ := bnd h
  rcases q1 with v | e1
  rotate_left
  · have h := sm_re h
    cases h; rfl
  have h := sm_le h
  obtain ⟨q1, -, h⟩ := bnd h
  rcases q1 with v | e1
  rotate_left
  · have h := sm_re h
    cases h; rfl
  have h := sm_le h
  obtain ⟨q1, -, h⟩ := bnd h
  rcases q1 with v | e1
  rotate_left
  · have h := sm_re h
    cases h; rfl
  have h := sm_le h
  by_cases hc : x4 = 0
  · have h := ift hc h
    obtain ⟨q2, h2, h⟩ := bnd h
    rcases hs : q2.1 with v | e1
    · rw [hs] at h
      have h := sm_le h
      obtain ⟨q3, -, h⟩ := bnd h
      obtain ⟨q4, -, h⟩ := bnd h
      obtain ⟨q5, -, h⟩ := bnd h
      obtain ⟨q6, -, h⟩ := bnd h
      cases h
    · rw [hs] at h
      have h := sm_re h
      have hx := xn_X8_negationOf h2 hs
      cases h
      exact hx
  · have h := iff_ hc h
    obtain ⟨q1, -, h⟩ := bnd h
    rcases q1 with v | e1
    rotate_left
    · have h := sm_re h
      cases h; rfl
    have h := sm_le h
    obtain ⟨q0, -, h⟩ := bnd h
    obtain ⟨q2, h2, h⟩ := bnd h
    rcases hs : q2.1 with v | e1
    · rw [hs] at h
      have h := sm_le h
      obtain ⟨q3, -, h⟩ := bnd h
      obtain ⟨q4, -, h⟩ := bnd h
      obtain ⟨q5, -, h⟩ := bnd h
      obtain ⟨q6, -, h⟩ := bnd h
      cases h
    · rw [hs] at h
      have h := sm_re h
      have hx := xn_X8_joinOf h2 hs
      cases h
      exact hx
theorem cwx_L_19 {Rm : Room} {s : State} {args : Array Value} (ht : ∀ w ∈ GT, w.before args s = true) (hR : rmxX8_change.frames + 1 ≤ Rm.frames ∧ 8 + (7 + 11) + rmxX8_change.locals ≤ Rm.locals) : CallW Rm s args RL RX8 19 yX8_change cX8_change 7 (some .int) (Cond.code yX8_change cX8_change 7 (some .int) :: GT) rmxX8_change 1 6 4 := cwV 4 ht (goodV wd130 wd131 wd132 wd100 wd133) rfl rfl rfl ⟨rfl, by decide +kernel, by decide +kernel, by decide +kernel⟩ hR
theorem cwx_L_23 {Rm : Room} {s : State} {args : Array Value} (ht : ∀ w ∈ GT, w.before args s = true) (hR : rmxX8_drop.frames + 1 ≤ Rm.frames ∧ 8 + (3 + 11) + rmxX8_drop.locals ≤ Rm.locals) : CallW Rm s args RL RX8 23 yX8_drop cX8_drop 3 (some .int) (Cond.code yX8_drop cX8_drop 3 (some .int) :: GT) rmxX8_drop 1 6 2 := cwV 2 ht (goodV wd134 wd135 wd136 wd100 wd137) rfl rfl rfl ⟨rfl, by decide +kernel, by decide +kernel, by decide +kernel⟩ hR
theorem cwx_L_27 {Rm : Room} {s : State} {args : Array Value} (ht : ∀ w ∈ GT, w.before args s = true) (hR : rmxX8_define.frames + 1 ≤ Rm.frames ∧ 8 + (3 + 11) + rmxX8_define.locals ≤ Rm.locals) : CallW Rm s args RL RX8 27 yX8_define cX8_define 3 (some .int) (Cond.code yX8_define cX8_define 3 (some .int) :: GT) rmxX8_define 1 6 1 := cwV 1 ht (goodV wd138 wd139 wd140 wd100 wd141) rfl rfl rfl ⟨rfl, by decide +kernel, by decide +kernel, by decide +kernel⟩ hR
theorem cwx_L_31 {Rm : Room} {s : State} {args : Array Value} (ht : ∀ w ∈ GT, w.before args s = true) (hR : rmxX8_combine.frames + 1 ≤ Rm.frames ∧ 8 + (7 + 11) + rmxX8_combine.locals ≤ Rm.locals) : CallW Rm s args RL RX8 31 yX8_combine cX8_combine 7 (some .int) (Cond.code yX8_combine cX8_combine 7 (some .int) :: GT) rmxX8_combine 1 6 4 := cwV 4 ht (goodV wd142 wd143 wd144 wd100 wd145) rfl rfl rfl ⟨rfl, by decide +kernel, by decide +kernel, by decide +kernel⟩ hR
theorem cwx_L_34 {Rm : Room} {s : State} {args : Array Value} (ht : ∀ w ∈ GT, w.before args s = true) (hR : rmxX8_check.frames + 1 ≤ Rm.frames ∧ 8 + (5 + 11) + rmxX8_check.locals ≤ Rm.locals) : CallW Rm s args RL RX8 34 yX8_check cX8_check 5 (some .int) (Cond.code yX8_check cX8_check 5 (some .int) :: GT) rmxX8_check 1 6 2 := cwV 2 ht (goodV wd146 wd147 wd148 wd100 wd149) rfl rfl rfl ⟨rfl, by decide +kernel, by decide +kernel, by decide +kernel⟩ hR
theorem cwx_L_37 {Rm : Room} {s : State} {args : Array Value} (ht : ∀ w ∈ GT, w.before args s = true) (hR : rmxX8_remove.frames + 1 ≤ Rm.frames ∧ 8 + (5 + 11) + rmxX8_remove.locals ≤ Rm.locals) : CallW Rm s args RL RX8 37 yX8_remove cX8_remove 5 (some .int) (Cond.code yX8_remove cX8_remove 5 (some .int) :: GT) rmxX8_remove 1 6 2 := cwV 2 ht (goodV wd150 wd151 wd152 wd100 wd153) rfl rfl rfl ⟨rfl, by decide +kernel, by decide +kernel, by decide +kernel⟩ hR
theorem cwx_L_40 {Rm : Room} {s : State} {args : Array Value} (ht : ∀ w ∈ GT, w.before args s = true) (hR : rmxX8_update.frames + 1 ≤ Rm.frames ∧ 8 + (8 + 11) + rmxX8_update.locals ≤ Rm.locals) : CallW Rm s args RL RX8 40 yX8_update cX8_update 8 (some .int) (Cond.code yX8_update cX8_update 8 (some .int) :: GT) rmxX8_update 1 6 4 := cwV 4 ht (goodV wd154 wd155 wd156 wd100 wd157) rfl rfl rfl ⟨rfl, by decide +kernel, by decide +kernel, by decide +kernel⟩ hR
theorem cwx_L_43 {Rm : Room} {s : State} {args : Array Value} (ht : ∀ w ∈ GT, w.before args s = true) (hR : rmxX8_append.frames + 1 ≤ Rm.frames ∧ 8 + (2 + 11) + rmxX8_append.locals ≤ Rm.locals) : CallW Rm s args RL RX8 43 yX8_append cX8_append 2 (some .int) (Cond.code yX8_append cX8_append 2 (some .int) :: GT) rmxX8_append 1 6 1 := cwV 1 ht (goodV wd158 wd159 wd160 wd100 wd161) rfl rfl rfl ⟨rfl, by decide +kernel, by decide +kernel, by decide +kernel⟩ hR
theorem cwx_L_46 {Rm : Room} {s : State} {args : Array Value} (ht : ∀ w ∈ GT, w.before args s = true) (hR : rmxX8_undo.frames + 1 ≤ Rm.frames ∧ 8 + (1 + 11) + rmxX8_undo.locals ≤ Rm.locals) : CallW Rm s args RL RX8 46 yX8_undo cX8_undo 1 (some .int) (Cond.code yX8_undo cX8_undo 1 (some .int) :: GT) rmxX8_undo 1 6 0 := cwV 0 ht (goodV wd162 wd163 wd164 wd100 wd165) rfl rfl rfl ⟨rfl, by decide +kernel, by decide +kernel, by decide +kernel⟩ hR
theorem cwx_L_50 {Rm : Room} {s : State} {args : Array Value} (ht : ∀ w ∈ GT, w.before args s = true) (hR : rmxX8_keep.frames + 1 ≤ Rm.frames ∧ 8 + (2 + 11) + rmxX8_keep.locals ≤ Rm.locals) : CallW Rm s args RL RX8 50 yX8_keep cX8_keep 2 (some .int) (Cond.code yX8_keep cX8_keep 2 (some .int) :: GT) rmxX8_keep 1 6 1 := cwV 1 ht (goodV wd166 wd167 wd168 wd100 wd169) rfl rfl rfl ⟨rfl, by decide +kernel, by decide +kernel, by decide +kernel⟩ hR
theorem cwx_L_53 {Rm : Room} {s : State} {args : Array Value} (ht : ∀ w ∈ GT, w.before args s = true) (hR : rmxX8_goBack.frames + 1 ≤ Rm.frames ∧ 8 + (2 + 11) + rmxX8_goBack.locals ≤ Rm.locals) : CallW Rm s args RL RX8 53 yX8_goBack cX8_goBack 2 (some .int) (Cond.code yX8_goBack cX8_goBack 2 (some .int) :: GT) rmxX8_goBack 1 6 1 := cwV 1 ht (goodV wd170 wd171 wd172 wd100 wd173) rfl rfl rfl ⟨rfl, by decide +kernel, by decide +kernel, by decide +kernel⟩ hR
theorem cwx_L_56 {Rm : Room} {s : State} {args : Array Value} (ht : ∀ w ∈ GT, w.before args s = true) (hR : rmxX8_cell.frames + 1 ≤ Rm.frames ∧ 8 + (4 + 11) + rmxX8_cell.locals ≤ Rm.locals) : CallW Rm s args RL RX8 56 yX8_cell cX8_cell 4 (some .int) (Cond.code yX8_cell cX8_cell 4 (some .int) :: GT) rmxX8_cell 1 6 3 := cwV 3 ht (goodV wd174 wd175 wd176 wd100 wd177) rfl rfl rfl ⟨rfl, by decide +kernel, by decide +kernel, by decide +kernel⟩ hR
theorem cwx_L_60 {Rm : Room} {s : State} {args : Array Value} (ht : ∀ w ∈ GT, w.before args s = true) (hR : rmxX8_column.frames + 1 ≤ Rm.frames ∧ 8 + (11 + 11) + rmxX8_column.locals ≤ Rm.locals) : CallW Rm s args RL RX8 60 yX8_column cX8_column 11 (some .int) (Cond.code yX8_column cX8_column 11 (some .int) :: GT) rmxX8_column 1 6 3 := cwV 3 ht (goodV wd178 wd179 wd180 wd100 wd181) rfl rfl rfl ⟨rfl, by decide +kernel, by decide +kernel, by decide +kernel⟩ hR
theorem cwx_L_63 {Rm : Room} {s : State} {args : Array Value} (ht : ∀ w ∈ GT, w.before args s = true) (hR : rmxX8_group.frames + 1 ≤ Rm.frames ∧ 8 + (8 + 11) + rmxX8_group.locals ≤ Rm.locals) : CallW Rm s args RL RX8 63 yX8_group cX8_group 8 (some .int) (Cond.code yX8_group cX8_group 8 (some .int) :: GT) rmxX8_group 1 6 4 := cwV 4 ht (goodV wd182 wd183 wd184 wd100 wd185) rfl rfl rfl ⟨rfl, by decide +kernel, by decide +kernel, by decide +kernel⟩ hR
theorem cwx_L_66 {Rm : Room} {s : State} {args : Array Value} (ht : ∀ w ∈ GT, w.before args s = true) (hR : rmxX8_truth.frames + 1 ≤ Rm.frames ∧ 8 + (5 + 11) + rmxX8_truth.locals ≤ Rm.locals) : CallW Rm s args RL RX8 66 yX8_truth cX8_truth 5 (some .int) (Cond.code yX8_truth cX8_truth 5 (some .int) :: GT) rmxX8_truth 1 6 3 := cwV 3 ht (goodV wd186 wd187 wd188 wd100 wd189) rfl rfl rfl ⟨rfl, by decide +kernel, by decide +kernel, by decide +kernel⟩ hR
theorem cwx_L_69 {Rm : Room} {s : State} {args : Array Value} (ht : ∀ w ∈ GT, w.before args s = true) (hR : rmxX8_rows.frames + 1 ≤ Rm.frames ∧ 8 + (6 + 11) + rmxX8_rows.locals ≤ Rm.locals) : CallW Rm s args RL RX8 69 yX8_rows cX8_rows 6 (some .int) (Cond.code yX8_rows cX8_rows 6 (some .int) :: GT) rmxX8_rows 1 6 4 := cwV 4 ht (goodV wd190 wd191 wd192 wd100 wd193) rfl rfl rfl ⟨rfl, by decide +kernel, by decide +kernel, by decide +kernel⟩ hR
theorem cwx_L_7 {Rm : Room} {s : State} {args : Array Value} (ht : ∀ w ∈ GT, w.before args s = true) (hR : rmxX8_add.frames + 1 ≤ Rm.frames ∧ 8 + (8 + 11) + rmxX8_add.locals ≤ Rm.locals) : CallW Rm s args RL RX8 7 yX8_add cX8_add 8 (some .int) (Cond.code yX8_add cX8_add 8 (some .int) :: GT) rmxX8_add 1 6 5 := cwV 5 ht (goodV wd194 wd195 wd196 wd100 wd197) rfl rfl rfl ⟨rfl, by decide +kernel, by decide +kernel, by decide +kernel⟩ hR
theorem cwx_L_72 {Rm : Room} {s : State} {args : Array Value} (ht : ∀ w ∈ GT, w.before args s = true) (hR : rmxX8_filter.frames + 1 ≤ Rm.frames ∧ 8 + (4 + 11) + rmxX8_filter.locals ≤ Rm.locals) : CallW Rm s args RL RX8 72 yX8_filter cX8_filter 4 (some .int) (Cond.code yX8_filter cX8_filter 4 (some .int) :: GT) rmxX8_filter 1 6 2 := cwV 2 ht (goodV wd198 wd199 wd200 wd100 wd201) rfl rfl rfl ⟨rfl, by decide +kernel, by decide +kernel, by decide +kernel⟩ hR
theorem cwx_L_75 {Rm : Room} {s : State} {args : Array Value} (ht : ∀ w ∈ GT, w.before args s = true) (hR : rmxX8_letter.frames + 1 ≤ Rm.frames ∧ 8 + (4 + 11) + rmxX8_letter.locals ≤ Rm.locals) : CallW Rm s args RL RX8 75 yX8_letter cX8_letter 4 (some .int) (Cond.code yX8_letter cX8_letter 4 (some .int) :: GT) rmxX8_letter 1 6 2 := cwV 2 ht (goodV wd202 wd203 wd204 wd100 wd205) rfl rfl rfl ⟨rfl, by decide +kernel, by decide +kernel, by decide +kernel⟩ hR
theorem cwx_L_78 {Rm : Room} {s : State} {args : Array Value} (ht : ∀ w ∈ GT, w.before args s = true) (hR : rmxX8_compare.frames + 1 ≤ Rm.frames ∧ 8 + (9 + 11) + rmxX8_compare.locals ≤ Rm.locals) : CallW Rm s args RL RX8 78 yX8_compare cX8_compare 9 (some .int) (Cond.code yX8_compare cX8_compare 9 (some .int) :: GT) rmxX8_compare 1 6 4 := cwV 4 ht (goodV wd206 wd207 wd208 wd100 wd209) rfl rfl rfl ⟨rfl, by decide +kernel, by decide +kernel, by decide +kernel⟩ hR
theorem cwx_L_81 {Rm : Room} {s : State} {args : Array Value} (ht : ∀ w ∈ GT, w.before args s = true) (hR : rmxX8_certain.frames + 1 ≤ Rm.frames ∧ 8 + (7 + 11) + rmxX8_certain.locals ≤ Rm.locals) : CallW Rm s args RL RX8 81 yX8_certain cX8_certain 7 (some .int) (Cond.code yX8_certain cX8_certain 7 (some .int) :: GT) rmxX8_certain 1 6 3 := cwV 3 ht (goodV wd210 wd211 wd212 wd100 wd213) rfl rfl rfl ⟨rfl, by decide +kernel, by decide +kernel, by decide +kernel⟩ hR
theorem cwx_L_84 {Rm : Room} {s : State} {args : Array Value} (ht : ∀ w ∈ GT, w.before args s = true) (hR : rmxX8_join.frames + 1 ≤ Rm.frames ∧ 8 + (4 + 11) + rmxX8_join.locals ≤ Rm.locals) : CallW Rm s args RL RX8 84 yX8_join cX8_join 4 (some .int) (Cond.code yX8_join cX8_join 4 (some .int) :: GT) rmxX8_join 1 6 3 := cwV 3 ht (goodV wd214 wd215 wd216 wd100 wd217) rfl rfl rfl ⟨rfl, by decide +kernel, by decide +kernel, by decide +kernel⟩ hR
theorem cwx_L_87 {Rm : Room} {s : State} {args : Array Value} (ht : ∀ w ∈ GT, w.before args s = true) (hR : rmxX8_among.frames + 1 ≤ Rm.frames ∧ 8 + (8 + 11) + rmxX8_among.locals ≤ Rm.locals) : CallW Rm s args RL RX8 87 yX8_among cX8_among 8 (some .int) (Cond.code yX8_among cX8_among 8 (some .int) :: GT) rmxX8_among 1 6 3 := cwV 3 ht (goodV wd218 wd219 wd220 wd100 wd221) rfl rfl rfl ⟨rfl, by decide +kernel, by decide +kernel, by decide +kernel⟩ hR
theorem cwx_L_90 {Rm : Room} {s : State} {args : Array Value} (ht : ∀ w ∈ GT, w.before args s = true) (hR : rmxX8_count.frames + 1 ≤ Rm.frames ∧ 8 + (2 + 11) + rmxX8_count.locals ≤ Rm.locals) : CallW Rm s args RL RX8 90 yX8_count cX8_count 2 (some .int) (Cond.code yX8_count cX8_count 2 (some .int) :: GT) rmxX8_count 1 6 1 := cwV 1 ht (goodV wd222 wd223 wd224 wd100 wd225) rfl rfl rfl ⟨rfl, by decide +kernel, by decide +kernel, by decide +kernel⟩ hR
theorem cwx_L_93 {Rm : Room} {s : State} {args : Array Value} (ht : ∀ w ∈ GT, w.before args s = true) (hR : rmxX8_share.frames + 1 ≤ Rm.frames ∧ 8 + (4 + 11) + rmxX8_share.locals ≤ Rm.locals) : CallW Rm s args RL RX8 93 yX8_share cX8_share 4 (some .double) (Cond.code yX8_share cX8_share 4 (some .double) :: GT) rmxX8_share 1 6 2 := cwV 2 ht (goodV wd226 wd227 wd228 wd100 wd229) rfl rfl rfl ⟨rfl, by decide +kernel, by decide +kernel, by decide +kernel⟩ hR
theorem cw_L_19 {Rm : Room} {s : State} {args : Array Value} (ht : ∀ w ∈ GT, w.before args s = true) (hR : rmX8_change.frames + 1 ≤ Rm.frames ∧ 8 + (7 + 11) + rmX8_change.locals ≤ Rm.locals) : CallW Rm s args RL RX8 19 yX8_change cX8_change 7 (some .int) (Cond.code yX8_change cX8_change 7 (some .int) :: GT) rmX8_change 0 0 4 := cwV 4 ht (goodV wd130 wd131 wd132 wd100 wd133) rfl rfl rfl ⟨rfl, by decide +kernel, by decide +kernel, by decide +kernel⟩ hR
theorem cw_L_23 {Rm : Room} {s : State} {args : Array Value} (ht : ∀ w ∈ GT, w.before args s = true) (hR : rmX8_drop.frames + 1 ≤ Rm.frames ∧ 8 + (3 + 11) + rmX8_drop.locals ≤ Rm.locals) : CallW Rm s args RL RX8 23 yX8_drop cX8_drop 3 (some .int) (Cond.code yX8_drop cX8_drop 3 (some .int) :: GT) rmX8_drop 0 0 2 := cwV 2 ht (goodV wd134 wd135 wd136 wd100 wd137) rfl rfl rfl ⟨rfl, by decide +kernel, by decide +kernel, by decide +kernel⟩ hR
theorem cw_L_27 {Rm : Room} {s : State} {args : Array Value} (ht : ∀ w ∈ GT, w.before args s = true) (hR : rmX8_define.frames + 1 ≤ Rm.frames ∧ 8 + (3 + 11) + rmX8_define.locals ≤ Rm.locals) : CallW Rm s args RL RX8 27 yX8_define cX8_define 3 (some .int) (Cond.code yX8_define cX8_define 3 (some .int) :: GT) rmX8_define 2 65 1 := cwV 1 ht (goodV wd138 wd139 wd140 wd100 wd141) rfl rfl rfl ⟨rfl, by decide +kernel, by decide +kernel, by decide +kernel⟩ hR
theorem cw_L_31 {Rm : Room} {s : State} {args : Array Value} (ht : ∀ w ∈ GT, w.before args s = true) (hR : rmX8_combine.frames + 1 ≤ Rm.frames ∧ 8 + (7 + 11) + rmX8_combine.locals ≤ Rm.locals) : CallW Rm s args RL RX8 31 yX8_combine cX8_combine 7 (some .int) (Cond.code yX8_combine cX8_combine 7 (some .int) :: GT) rmX8_combine 2 65 4 := cwV 4 ht (goodV wd142 wd143 wd144 wd100 wd145) rfl rfl rfl ⟨rfl, by decide +kernel, by decide +kernel, by decide +kernel⟩ hR
theorem cw_L_34 {Rm : Room} {s : State} {args : Array Value} (ht : ∀ w ∈ GT, w.before args s = true) (hR : rmX8_check.frames + 1 ≤ Rm.frames ∧ 8 + (5 + 11) + rmX8_check.locals ≤ Rm.locals) : CallW Rm s args RL RX8 34 yX8_check cX8_check 5 (some .int) (Cond.code yX8_check cX8_check 5 (some .int) :: GT) rmX8_check 0 0 2 := cwV 2 ht (goodV wd146 wd147 wd148 wd100 wd149) rfl rfl rfl ⟨rfl, by decide +kernel, by decide +kernel, by decide +kernel⟩ hR
theorem cw_L_37 {Rm : Room} {s : State} {args : Array Value} (ht : ∀ w ∈ GT, w.before args s = true) (hR : rmX8_remove.frames + 1 ≤ Rm.frames ∧ 8 + (5 + 11) + rmX8_remove.locals ≤ Rm.locals) : CallW Rm s args RL RX8 37 yX8_remove cX8_remove 5 (some .int) (Cond.code yX8_remove cX8_remove 5 (some .int) :: GT) rmX8_remove 0 0 2 := cwV 2 ht (goodV wd150 wd151 wd152 wd100 wd153) rfl rfl rfl ⟨rfl, by decide +kernel, by decide +kernel, by decide +kernel⟩ hR
theorem cw_L_40 {Rm : Room} {s : State} {args : Array Value} (ht : ∀ w ∈ GT, w.before args s = true) (hR : rmX8_update.frames + 1 ≤ Rm.frames ∧ 8 + (8 + 11) + rmX8_update.locals ≤ Rm.locals) : CallW Rm s args RL RX8 40 yX8_update cX8_update 8 (some .int) (Cond.code yX8_update cX8_update 8 (some .int) :: GT) rmX8_update 0 0 4 := cwV 4 ht (goodV wd154 wd155 wd156 wd100 wd157) rfl rfl rfl ⟨rfl, by decide +kernel, by decide +kernel, by decide +kernel⟩ hR
theorem cw_L_43 {Rm : Room} {s : State} {args : Array Value} (ht : ∀ w ∈ GT, w.before args s = true) (hR : rmX8_append.frames + 1 ≤ Rm.frames ∧ 8 + (2 + 11) + rmX8_append.locals ≤ Rm.locals) : CallW Rm s args RL RX8 43 yX8_append cX8_append 2 (some .int) (Cond.code yX8_append cX8_append 2 (some .int) :: GT) rmX8_append 0 0 1 := cwV 1 ht (goodV wd158 wd159 wd160 wd100 wd161) rfl rfl rfl ⟨rfl, by decide +kernel, by decide +kernel, by decide +kernel⟩ hR
theorem cw_L_46 {Rm : Room} {s : State} {args : Array Value} (ht : ∀ w ∈ GT, w.before args s = true) (hR : rmX8_undo.frames + 1 ≤ Rm.frames ∧ 8 + (1 + 11) + rmX8_undo.locals ≤ Rm.locals) : CallW Rm s args RL RX8 46 yX8_undo cX8_undo 1 (some .int) (Cond.code yX8_undo cX8_undo 1 (some .int) :: GT) rmX8_undo 0 0 0 := cwV 0 ht (goodV wd162 wd163 wd164 wd100 wd165) rfl rfl rfl ⟨rfl, by decide +kernel, by decide +kernel, by decide +kernel⟩ hR
theorem cw_L_50 {Rm : Room} {s : State} {args : Array Value} (ht : ∀ w ∈ GT, w.before args s = true) (hR : rmX8_keep.frames + 1 ≤ Rm.frames ∧ 8 + (2 + 11) + rmX8_keep.locals ≤ Rm.locals) : CallW Rm s args RL RX8 50 yX8_keep cX8_keep 2 (some .int) (Cond.code yX8_keep cX8_keep 2 (some .int) :: GT) rmX8_keep 0 0 1 := cwV 1 ht (goodV wd166 wd167 wd168 wd100 wd169) rfl rfl rfl ⟨rfl, by decide +kernel, by decide +kernel, by decide +kernel⟩ hR
theorem cw_L_53 {Rm : Room} {s : State} {args : Array Value} (ht : ∀ w ∈ GT, w.before args s = true) (hR : rmX8_goBack.frames + 1 ≤ Rm.frames ∧ 8 + (2 + 11) + rmX8_goBack.locals ≤ Rm.locals) : CallW Rm s args RL RX8 53 yX8_goBack cX8_goBack 2 (some .int) (Cond.code yX8_goBack cX8_goBack 2 (some .int) :: GT) rmX8_goBack 0 0 1 := cwV 1 ht (goodV wd170 wd171 wd172 wd100 wd173) rfl rfl rfl ⟨rfl, by decide +kernel, by decide +kernel, by decide +kernel⟩ hR
theorem cw_L_56 {Rm : Room} {s : State} {args : Array Value} (ht : ∀ w ∈ GT, w.before args s = true) (hR : rmX8_cell.frames + 1 ≤ Rm.frames ∧ 8 + (4 + 11) + rmX8_cell.locals ≤ Rm.locals) : CallW Rm s args RL RX8 56 yX8_cell cX8_cell 4 (some .int) (Cond.code yX8_cell cX8_cell 4 (some .int) :: GT) rmX8_cell 0 0 3 := cwV 3 ht (goodV wd174 wd175 wd176 wd100 wd177) rfl rfl rfl ⟨rfl, by decide +kernel, by decide +kernel, by decide +kernel⟩ hR
theorem cw_L_60 {Rm : Room} {s : State} {args : Array Value} (ht : ∀ w ∈ GT, w.before args s = true) (hR : rmX8_column.frames + 1 ≤ Rm.frames ∧ 8 + (11 + 11) + rmX8_column.locals ≤ Rm.locals) : CallW Rm s args RL RX8 60 yX8_column cX8_column 11 (some .int) (Cond.code yX8_column cX8_column 11 (some .int) :: GT) rmX8_column 0 0 3 := cwV 3 ht (goodV wd178 wd179 wd180 wd100 wd181) rfl rfl rfl ⟨rfl, by decide +kernel, by decide +kernel, by decide +kernel⟩ hR
theorem cw_L_63 {Rm : Room} {s : State} {args : Array Value} (ht : ∀ w ∈ GT, w.before args s = true) (hR : rmX8_group.frames + 1 ≤ Rm.frames ∧ 8 + (8 + 11) + rmX8_group.locals ≤ Rm.locals) : CallW Rm s args RL RX8 63 yX8_group cX8_group 8 (some .int) (Cond.code yX8_group cX8_group 8 (some .int) :: GT) rmX8_group 0 0 4 := cwV 4 ht (goodV wd182 wd183 wd184 wd100 wd185) rfl rfl rfl ⟨rfl, by decide +kernel, by decide +kernel, by decide +kernel⟩ hR
theorem cw_L_66 {Rm : Room} {s : State} {args : Array Value} (ht : ∀ w ∈ GT, w.before args s = true) (hR : rmX8_truth.frames + 1 ≤ Rm.frames ∧ 8 + (5 + 11) + rmX8_truth.locals ≤ Rm.locals) : CallW Rm s args RL RX8 66 yX8_truth cX8_truth 5 (some .int) (Cond.code yX8_truth cX8_truth 5 (some .int) :: GT) rmX8_truth 0 0 3 := cwV 3 ht (goodV wd186 wd187 wd188 wd100 wd189) rfl rfl rfl ⟨rfl, by decide +kernel, by decide +kernel, by decide +kernel⟩ hR
theorem cw_L_69 {Rm : Room} {s : State} {args : Array Value} (ht : ∀ w ∈ GT, w.before args s = true) (hR : rmX8_rows.frames + 1 ≤ Rm.frames ∧ 8 + (6 + 11) + rmX8_rows.locals ≤ Rm.locals) : CallW Rm s args RL RX8 69 yX8_rows cX8_rows 6 (some .int) (Cond.code yX8_rows cX8_rows 6 (some .int) :: GT) rmX8_rows 0 0 4 := cwV 4 ht (goodV wd190 wd191 wd192 wd100 wd193) rfl rfl rfl ⟨rfl, by decide +kernel, by decide +kernel, by decide +kernel⟩ hR
theorem cw_L_7 {Rm : Room} {s : State} {args : Array Value} (ht : ∀ w ∈ GT, w.before args s = true) (hR : rmX8_add.frames + 1 ≤ Rm.frames ∧ 8 + (8 + 11) + rmX8_add.locals ≤ Rm.locals) : CallW Rm s args RL RX8 7 yX8_add cX8_add 8 (some .int) (Cond.code yX8_add cX8_add 8 (some .int) :: GT) rmX8_add 0 0 5 := cwV 5 ht (goodV wd194 wd195 wd196 wd100 wd197) rfl rfl rfl ⟨rfl, by decide +kernel, by decide +kernel, by decide +kernel⟩ hR
theorem cw_L_72 {Rm : Room} {s : State} {args : Array Value} (ht : ∀ w ∈ GT, w.before args s = true) (hR : rmX8_filter.frames + 1 ≤ Rm.frames ∧ 8 + (4 + 11) + rmX8_filter.locals ≤ Rm.locals) : CallW Rm s args RL RX8 72 yX8_filter cX8_filter 4 (some .int) (Cond.code yX8_filter cX8_filter 4 (some .int) :: GT) rmX8_filter 0 0 2 := cwV 2 ht (goodV wd198 wd199 wd200 wd100 wd201) rfl rfl rfl ⟨rfl, by decide +kernel, by decide +kernel, by decide +kernel⟩ hR
theorem cw_L_75 {Rm : Room} {s : State} {args : Array Value} (ht : ∀ w ∈ GT, w.before args s = true) (hR : rmX8_letter.frames + 1 ≤ Rm.frames ∧ 8 + (4 + 11) + rmX8_letter.locals ≤ Rm.locals) : CallW Rm s args RL RX8 75 yX8_letter cX8_letter 4 (some .int) (Cond.code yX8_letter cX8_letter 4 (some .int) :: GT) rmX8_letter 0 0 2 := cwV 2 ht (goodV wd202 wd203 wd204 wd100 wd205) rfl rfl rfl ⟨rfl, by decide +kernel, by decide +kernel, by decide +kernel⟩ hR
theorem cw_L_78 {Rm : Room} {s : State} {args : Array Value} (ht : ∀ w ∈ GT, w.before args s = true) (hR : rmX8_compare.frames + 1 ≤ Rm.frames ∧ 8 + (9 + 11) + rmX8_compare.locals ≤ Rm.locals) : CallW Rm s args RL RX8 78 yX8_compare cX8_compare 9 (some .int) (Cond.code yX8_compare cX8_compare 9 (some .int) :: GT) rmX8_compare 0 0 4 := cwV 4 ht (goodV wd206 wd207 wd208 wd100 wd209) rfl rfl rfl ⟨rfl, by decide +kernel, by decide +kernel, by decide +kernel⟩ hR
theorem cw_L_81 {Rm : Room} {s : State} {args : Array Value} (ht : ∀ w ∈ GT, w.before args s = true) (hR : rmX8_certain.frames + 1 ≤ Rm.frames ∧ 8 + (7 + 11) + rmX8_certain.locals ≤ Rm.locals) : CallW Rm s args RL RX8 81 yX8_certain cX8_certain 7 (some .int) (Cond.code yX8_certain cX8_certain 7 (some .int) :: GT) rmX8_certain 0 0 3 := cwV 3 ht (goodV wd210 wd211 wd212 wd100 wd213) rfl rfl rfl ⟨rfl, by decide +kernel, by decide +kernel, by decide +kernel⟩ hR
theorem cw_L_84 {Rm : Room} {s : State} {args : Array Value} (ht : ∀ w ∈ GT, w.before args s = true) (hR : rmX8_join.frames + 1 ≤ Rm.frames ∧ 8 + (4 + 11) + rmX8_join.locals ≤ Rm.locals) : CallW Rm s args RL RX8 84 yX8_join cX8_join 4 (some .int) (Cond.code yX8_join cX8_join 4 (some .int) :: GT) rmX8_join 0 0 3 := cwV 3 ht (goodV wd214 wd215 wd216 wd100 wd217) rfl rfl rfl ⟨rfl, by decide +kernel, by decide +kernel, by decide +kernel⟩ hR
theorem cw_L_87 {Rm : Room} {s : State} {args : Array Value} (ht : ∀ w ∈ GT, w.before args s = true) (hR : rmX8_among.frames + 1 ≤ Rm.frames ∧ 8 + (8 + 11) + rmX8_among.locals ≤ Rm.locals) : CallW Rm s args RL RX8 87 yX8_among cX8_among 8 (some .int) (Cond.code yX8_among cX8_among 8 (some .int) :: GT) rmX8_among 0 0 3 := cwV 3 ht (goodV wd218 wd219 wd220 wd100 wd221) rfl rfl rfl ⟨rfl, by decide +kernel, by decide +kernel, by decide +kernel⟩ hR
theorem cw_L_90 {Rm : Room} {s : State} {args : Array Value} (ht : ∀ w ∈ GT, w.before args s = true) (hR : rmX8_count.frames + 1 ≤ Rm.frames ∧ 8 + (2 + 11) + rmX8_count.locals ≤ Rm.locals) : CallW Rm s args RL RX8 90 yX8_count cX8_count 2 (some .int) (Cond.code yX8_count cX8_count 2 (some .int) :: GT) rmX8_count 0 0 1 := cwV 1 ht (goodV wd222 wd223 wd224 wd100 wd225) rfl rfl rfl ⟨rfl, by decide +kernel, by decide +kernel, by decide +kernel⟩ hR
theorem cw_L_93 {Rm : Room} {s : State} {args : Array Value} (ht : ∀ w ∈ GT, w.before args s = true) (hR : rmX8_share.frames + 1 ≤ Rm.frames ∧ 8 + (4 + 11) + rmX8_share.locals ≤ Rm.locals) : CallW Rm s args RL RX8 93 yX8_share cX8_share 4 (some .double) (Cond.code yX8_share cX8_share 4 (some .double) :: GT) rmX8_share 0 0 2 := cwV 2 ht (goodV wd226 wd227 wd228 wd100 wd229) rfl rfl rfl ⟨rfl, by decide +kernel, by decide +kernel, by decide +kernel⟩ hR
def f_L_add (x1 : Int32) (x2 : Int32) (x3 : Int32) (x4 : Int32) (x5 : Int32) (P : Pool) (R : Rem) (I : Mem) (Z : Zed) (nx : Nat) : Option (Int32 × Mem × Rem × Pool × Zed) :=
  (f_X8_add x1 x2 x3 x4 x5 P R I).bind fun q => sm q.1 (fun v => some (0, q.2.1, q.2.2, P, (vp_updL Z.1 0 v.toInt64, Z.2))) fun e => if e = 0 then some (1, q.2.1, q.2.2, P, Z) else if e = 1 then some (2, q.2.1, q.2.2, P, Z) else if e = 2 then some (3, q.2.1, q.2.2, P, Z) else none
abbrev rmL_add : Room := { frames := 8, cells := 3, slots := 71, locals := 137 }
set_option maxHeartbeats 4000000 in
set_option maxRecDepth 100000 in
theorem c_L_add {l : Launch} (hfl : l.stackTraces = false) {g : Gam} {I : Mem} {R : Rem} {P : Pool} {Z : Zed} {nx : Nat} (x1 : Int32) (x2 : Int32) (x3 : Int32) (x4 : Int32) (x5 : Int32) {z : Int32 × Mem × Rem × Pool × Zed} (hf : f_L_add x1 x2 x3 x4 x5 P R I Z nx = some z) : Met l yL_add (Cond.codeWith yL_add cL_add 8 (some .int) [(0, 16, 19, 13), (0, 16, 23, 15), (0, 16, 27, 17)] :: GT) rmL_add (va_Pc [.ref (g.2.2 + 0), .int x1, .int x2, .int x3, .int x4, .int x5, .ref (g.2.2 + 83)] (PWn g I R P Z nx)) (QI g z.1 z.2.1 z.2.2.1 z.2.2.2.1 z.2.2.2.2) 3 71 (AA g) := by
  refine aw_ofWH (lv0 := [(0, .ref (g.2.2 + 0)), (1, .int x1), (2, .int x2), (3, .int x3), (4, .int x4), (5, .int x5), (6, .ref (g.2.2 + 83))]) (by decide) (Nat.le_of_ble_eq_true rfl) rfl (fun p0 e s m args below meth c ls C0 htb hs0 hl hW => ?_)
  have C0 : CX g p0 s m args meth c RL cL_add 8 (some .int) := C0
  have hx := C0.1; have hb := C0.2.1; have hown := C0.2.2.2.2.1; have hts := C0.2.2.2.2.2.1; have hKS := C0.2.2.2.2.2.2.1
  unfold f_L_add at hf
  obtain ⟨q, hq, hf⟩ := bnd hf
  refine lv_aload hx hb dL_add_0 (lv_at hl 6 rfl) ?_
  refine lv_iconst (v := 0) hx hb dL_add_2 (by decide) ?_
  refine lv_aload_n hx hb dL_add_3 rfl (lv_at hl 0 rfl) ?_
  refine lv_iload_n hx hb dL_add_4 rfl (lv_at hl 1 rfl) ?_
  refine lv_iload_n hx hb dL_add_5 rfl (lv_at hl 2 rfl) ?_
  refine lv_iload_n hx hb dL_add_6 rfl (lv_at hl 3 rfl) ?_
  refine lv_iload hx hb dL_add_7 (lv_at hl 4 rfl) ?_
  refine lv_iload hx hb dL_add_9 (lv_at hl 5 rfl) ?_
  rcases hsv : q.1 with v | e9
  · rw [hsv] at hf
    have hf := sm_le hf
    have hz := Option.some.inj hf
    have hq := hq.trans (congrArg some (show q = ((.inl v, q.2.1, q.2.2) : (Int32 ⊕ Nat) × Mem × Rem) by rw [← hsv]))
    refine aw_cVi (rest := [.int 0, .ref (g.2.2 + 83)]) C0 hW (lv_fix (by decide)) (cel_7 kd0) rfl (c_X8_add x1 x2 x3 x4 x5 hq) (cw_L_7 hts ⟨Nat.le_of_ble_eq_true rfl, Nat.le_of_ble_eq_true rfl⟩) rfl hl.1 rfl (Nat.le_of_ble_eq_true rfl) ⟨Nat.zero_le _, Nat.zero_le _⟩ dL_add_11 (fun H locs hW => ?_)
    refine lv_i2l (v := v.toInt64) hx hb dL_add_14 rfl ?_
    refine aw_last C0 hW dL_add_15 (fun H locs hW => ?_)
    refine lv_goto (tgt := 31) hx hb dL_add_16 rfl ?_
    refine lv_iconst (v := 0) hx hb dL_add_31 (by decide) ?_
    exact aw_iretz C0 hW (Nat.le_of_ble_eq_true rfl) (Nat.le_of_ble_eq_true rfl) hz dL_add_32
  · rw [hsv] at hf
    have hf := sm_re hf
    have hq := hq.trans (congrArg some (show q = ((.inr e9, q.2.1, q.2.2) : (Int32 ⊕ Nat) × Mem × Rem) by rw [← hsv]))
    refine aw_xCt (rest := [.int 0, .ref (g.2.2 + 83)]) C0 hW (lv_fix (by decide)) (cel_7 kd0) rfl (x_X8_add hfl x1 x2 x3 x4 x5 hq) (cwx_L_7 hts ⟨Nat.le_of_ble_eq_true rfl, Nat.le_of_ble_eq_true rfl⟩) rfl hl.1 rfl (Nat.le_of_ble_eq_true rfl) ⟨Nat.le_of_ble_eq_true rfl, Nat.le_of_ble_eq_true rfl⟩ dL_add_11 (fun H locs qx cex hW hcell hcv hcl => ?_)
    by_cases he0 : e9 = 0
    · have hf := ift he0 hf
      have hz := Option.some.inj hf
      rw [he0] at hcl
      refine vx_catch (E := "java/lang/IndexOutOfBoundsException") (name := "java/lang/IndexOutOfBoundsException") hown [] ⟨0, 16, 19, 13⟩ [⟨0, 16, 23, 15⟩, ⟨0, 16, 27, 17⟩] (htb.trans rfl) (fun _ h => nomatch h) rfl (by decide) (hts _ wd94) (va_Nw.use rfl (hKS.2.2.2.2.2.1 ("java/lang/IndexOutOfBoundsException", "java/lang/IndexOutOfBoundsException") (by decide +kernel))) hcell hcv hcl ?_
      refine lv_astore (lv' := [(7, .ref qx), (0, .ref (g.2.2 + 0)), (1, .int x1), (2, .int x2), (3, .int x3), (4, .int x4), (5, .int x5), (6, .ref (g.2.2 + 83))]) hx hb dL_add_19 hl (Nat.le_of_ble_eq_true rfl) rfl (fun ls hl => ?_)
      refine lv_iconst (v := 1) hx hb dL_add_21 (by decide) ?_
      exact aw_iretz C0 hW (Nat.le_of_ble_eq_true rfl) (Nat.le_of_ble_eq_true rfl) hz dL_add_22
    have hf := iff_ he0 hf
    by_cases he1 : e9 = 1
    · have hf := ift he1 hf
      have hz := Option.some.inj hf
      rw [he1] at hcl
      refine vx_catch (E := "java/lang/IllegalArgumentException") (name := "java/lang/IllegalArgumentException") hown [⟨0, 16, 19, 13⟩] ⟨0, 16, 23, 15⟩ [⟨0, 16, 27, 17⟩] (htb.trans rfl) (List.forall_mem_cons.mpr ⟨Or.inr ⟨by decide, "java/lang/IndexOutOfBoundsException", hts _ wd94, hKS.2.2.2.2.2.2.2.2.2 ("java/lang/IllegalArgumentException", "java/lang/IndexOutOfBoundsException") (by decide +kernel)⟩, (fun _ h => nomatch h)⟩) rfl (by decide) (hts _ wd95) (va_Nw.use rfl (hKS.2.2.2.2.2.1 ("java/lang/IllegalArgumentException", "java/lang/IllegalArgumentException") (by decide +kernel))) hcell hcv hcl ?_
      refine lv_astore (lv' := [(7, .ref qx), (0, .ref (g.2.2 + 0)), (1, .int x1), (2, .int x2), (3, .int x3), (4, .int x4), (5, .int x5), (6, .ref (g.2.2 + 83))]) hx hb dL_add_23 hl (Nat.le_of_ble_eq_true rfl) rfl (fun ls hl => ?_)
      refine lv_iconst (v := 2) hx hb dL_add_25 (by decide) ?_
      exact aw_iretz C0 hW (Nat.le_of_ble_eq_true rfl) (Nat.le_of_ble_eq_true rfl) hz dL_add_26
    have hf := iff_ he1 hf
    by_cases he2 : e9 = 2
    · have hf := ift he2 hf
      have hz := Option.some.inj hf
      rw [he2] at hcl
      refine vx_catch (E := "java/lang/IllegalStateException") (name := "java/lang/IllegalStateException") hown [⟨0, 16, 19, 13⟩, ⟨0, 16, 23, 15⟩] ⟨0, 16, 27, 17⟩ [] (htb.trans rfl) (List.forall_mem_cons.mpr ⟨Or.inr ⟨by decide, "java/lang/IndexOutOfBoundsException", hts _ wd94, hKS.2.2.2.2.2.2.2.2.2 ("java/lang/IllegalStateException", "java/lang/IndexOutOfBoundsException") (by decide +kernel)⟩, (List.forall_mem_cons.mpr ⟨Or.inr ⟨by decide, "java/lang/IllegalArgumentException", hts _ wd95, hKS.2.2.2.2.2.2.2.2.2 ("java/lang/IllegalStateException", "java/lang/IllegalArgumentException") (by decide +kernel)⟩, (fun _ h => nomatch h)⟩)⟩) rfl (by decide) (hts _ wd96) (va_Nw.use rfl (hKS.2.2.2.2.2.1 ("java/lang/IllegalStateException", "java/lang/IllegalStateException") (by decide +kernel))) hcell hcv hcl ?_
      refine lv_astore (lv' := [(7, .ref qx), (0, .ref (g.2.2 + 0)), (1, .int x1), (2, .int x2), (3, .int x3), (4, .int x4), (5, .int x5), (6, .ref (g.2.2 + 83))]) hx hb dL_add_27 hl (Nat.le_of_ble_eq_true rfl) rfl (fun ls hl => ?_)
      refine lv_iconst (v := 3) hx hb dL_add_29 (by decide) ?_
      exact aw_iretz C0 hW (Nat.le_of_ble_eq_true rfl) (Nat.le_of_ble_eq_true rfl) hz dL_add_30
    have hf := iff_ he2 hf
    cases hf
def f_L_among (x1 : Int32) (x2 : Int32) (x3 : Int32) (P : Pool) (R : Rem) (I : Mem) (Z : Zed) (nx : Nat) : Option (Int32 × Mem × Rem × Pool × Zed) :=
  (f_X8_among x1 x2 x3 I).bind fun q => sm q (fun v => some (0, I, R, P, (vp_updL Z.1 0 v.toInt64, Z.2))) fun e => if e = 0 then some (1, I, R, P, Z) else none
abbrev rmL_among : Room := { frames := 9, cells := 3, slots := 71, locals := 159 }
set_option maxHeartbeats 4000000 in
set_option maxRecDepth 100000 in
theorem c_L_among {l : Launch} (hfl : l.stackTraces = false) {g : Gam} {I : Mem} {R : Rem} {P : Pool} {Z : Zed} {nx : Nat} (x1 : Int32) (x2 : Int32) (x3 : Int32) {z : Int32 × Mem × Rem × Pool × Zed} (hf : f_L_among x1 x2 x3 P R I Z nx = some z) : Met l yL_among (Cond.codeWith yL_among cL_among 6 (some .int) [(0, 12, 15, 13)] :: GT) rmL_among (va_Pc [.ref (g.2.2 + 0), .int x1, .int x2, .int x3, .ref (g.2.2 + 83)] (PWn g I R P Z nx)) (QI g z.1 z.2.1 z.2.2.1 z.2.2.2.1 z.2.2.2.2) 3 71 (AA g) := by
  refine aw_ofWH (lv0 := [(0, .ref (g.2.2 + 0)), (1, .int x1), (2, .int x2), (3, .int x3), (4, .ref (g.2.2 + 83))]) (by decide) (Nat.le_of_ble_eq_true rfl) rfl (fun p0 e s m args below meth c ls C0 htb hs0 hl hW => ?_)
  have C0 : CX g p0 s m args meth c RL cL_among 6 (some .int) := C0
  have hx := C0.1; have hb := C0.2.1; have hown := C0.2.2.2.2.1; have hts := C0.2.2.2.2.2.1; have hKS := C0.2.2.2.2.2.2.1
  unfold f_L_among at hf
  obtain ⟨q, hq, hf⟩ := bnd hf
  refine lv_aload hx hb dL_among_0 (lv_at hl 4 rfl) ?_
  refine lv_iconst (v := 0) hx hb dL_among_2 (by decide) ?_
  refine lv_aload_n hx hb dL_among_3 rfl (lv_at hl 0 rfl) ?_
  refine lv_iload_n hx hb dL_among_4 rfl (lv_at hl 1 rfl) ?_
  refine lv_iload_n hx hb dL_among_5 rfl (lv_at hl 2 rfl) ?_
  refine lv_iload_n hx hb dL_among_6 rfl (lv_at hl 3 rfl) ?_
  rcases hsv : q with v | e9
  · rw [hsv] at hf
    have hf := sm_le hf
    have hz := Option.some.inj hf
    rw [hsv] at hq
    refine aw_cVi (rest := [.int 0, .ref (g.2.2 + 83)]) C0 hW (lv_fix (by decide)) (cel_7 kd0) rfl (c_X8_among x1 x2 x3 hq) (cw_L_87 hts ⟨Nat.le_of_ble_eq_true rfl, Nat.le_of_ble_eq_true rfl⟩) rfl hl.1 rfl (Nat.le_of_ble_eq_true rfl) ⟨Nat.zero_le _, Nat.zero_le _⟩ dL_among_7 (fun H locs hW => ?_)
    refine lv_i2l (v := v.toInt64) hx hb dL_among_10 rfl ?_
    refine aw_last C0 hW dL_among_11 (fun H locs hW => ?_)
    refine lv_goto (tgt := 19) hx hb dL_among_12 rfl ?_
    refine lv_iconst (v := 0) hx hb dL_among_19 (by decide) ?_
    exact aw_iretz C0 hW (Nat.le_of_ble_eq_true rfl) (Nat.le_of_ble_eq_true rfl) hz dL_among_20
  · rw [hsv] at hf
    have hf := sm_re hf
    rw [hsv] at hq
    refine aw_xCt (rest := [.int 0, .ref (g.2.2 + 83)]) C0 hW (lv_fix (by decide)) (cel_7 kd0) rfl (x_X8_among hfl x1 x2 x3 hq) (cwx_L_87 hts ⟨Nat.le_of_ble_eq_true rfl, Nat.le_of_ble_eq_true rfl⟩) rfl hl.1 rfl (Nat.le_of_ble_eq_true rfl) ⟨Nat.le_of_ble_eq_true rfl, Nat.le_of_ble_eq_true rfl⟩ dL_among_7 (fun H locs qx cex hW hcell hcv hcl => ?_)
    by_cases he0 : e9 = 0
    · have hf := ift he0 hf
      have hz := Option.some.inj hf
      rw [he0] at hcl
      refine vx_catch (E := "java/lang/IndexOutOfBoundsException") (name := "java/lang/IndexOutOfBoundsException") hown [] ⟨0, 12, 15, 13⟩ [] (htb.trans rfl) (fun _ h => nomatch h) rfl (by decide) (hts _ wd94) (va_Nw.use rfl (hKS.2.2.2.2.2.1 ("java/lang/IndexOutOfBoundsException", "java/lang/IndexOutOfBoundsException") (by decide +kernel))) hcell hcv hcl ?_
      refine lv_astore (lv' := [(5, .ref qx), (0, .ref (g.2.2 + 0)), (1, .int x1), (2, .int x2), (3, .int x3), (4, .ref (g.2.2 + 83))]) hx hb dL_among_15 hl (Nat.le_of_ble_eq_true rfl) rfl (fun ls hl => ?_)
      refine lv_iconst (v := 1) hx hb dL_among_17 (by decide) ?_
      exact aw_iretz C0 hW (Nat.le_of_ble_eq_true rfl) (Nat.le_of_ble_eq_true rfl) hz dL_among_18
    have hf := iff_ he0 hf
    cases hf
def f_L_append (x1 : Int32) (P : Pool) (R : Rem) (I : Mem) (Z : Zed) (nx : Nat) : Option (Int32 × Mem × Rem × Pool × Zed) :=
  (f_X8_append x1 I).bind fun q => sm q.1 (fun v => some (0, q.2, R, P, (vp_updL Z.1 0 v.toInt64, Z.2))) fun e => if e = 1 then some (1, q.2, R, P, Z) else if e = 2 then some (2, q.2, R, P, Z) else none
abbrev rmL_append : Room := { frames := 7, cells := 3, slots := 71, locals := 111 }
set_option maxHeartbeats 4000000 in
set_option maxRecDepth 100000 in
theorem c_L_append {l : Launch} (hfl : l.stackTraces = false) {g : Gam} {I : Mem} {R : Rem} {P : Pool} {Z : Zed} {nx : Nat} (x1 : Int32) {z : Int32 × Mem × Rem × Pool × Zed} (hf : f_L_append x1 P R I Z nx = some z) : Met l yL_append (Cond.codeWith yL_append cL_append 4 (some .int) [(0, 9, 12, 15), (0, 9, 15, 17)] :: GT) rmL_append (va_Pc [.ref (g.2.2 + 0), .int x1, .ref (g.2.2 + 83)] (PWn g I R P Z nx)) (QI g z.1 z.2.1 z.2.2.1 z.2.2.2.1 z.2.2.2.2) 3 71 (AA g) := by
  refine aw_ofWH (lv0 := [(0, .ref (g.2.2 + 0)), (1, .int x1), (2, .ref (g.2.2 + 83))]) (by decide) (Nat.le_of_ble_eq_true rfl) rfl (fun p0 e s m args below meth c ls C0 htb hs0 hl hW => ?_)
  have C0 : CX g p0 s m args meth c RL cL_append 4 (some .int) := C0
  have hx := C0.1; have hb := C0.2.1; have hown := C0.2.2.2.2.1; have hts := C0.2.2.2.2.2.1; have hKS := C0.2.2.2.2.2.2.1
  unfold f_L_append at hf
  obtain ⟨q, hq, hf⟩ := bnd hf
  refine lv_aload_n hx hb dL_append_0 rfl (lv_at hl 2 rfl) ?_
  refine lv_iconst (v := 0) hx hb dL_append_1 (by decide) ?_
  refine lv_aload_n hx hb dL_append_2 rfl (lv_at hl 0 rfl) ?_
  refine lv_iload_n hx hb dL_append_3 rfl (lv_at hl 1 rfl) ?_
  rcases hsv : q.1 with v | e9
  · rw [hsv] at hf
    have hf := sm_le hf
    have hz := Option.some.inj hf
    have hq := hq.trans (congrArg some (show q = ((.inl v, q.2) : (Int32 ⊕ Nat) × Mem) by rw [← hsv]))
    refine aw_cVi (rest := [.int 0, .ref (g.2.2 + 83)]) C0 hW (lv_fix (by decide)) (cel_7 kd0) rfl (c_X8_append x1 hq) (cw_L_43 hts ⟨Nat.le_of_ble_eq_true rfl, Nat.le_of_ble_eq_true rfl⟩) rfl hl.1 rfl (Nat.le_of_ble_eq_true rfl) ⟨Nat.zero_le _, Nat.zero_le _⟩ dL_append_4 (fun H locs hW => ?_)
    refine lv_i2l (v := v.toInt64) hx hb dL_append_7 rfl ?_
    refine aw_last C0 hW dL_append_8 (fun H locs hW => ?_)
    refine lv_goto (tgt := 18) hx hb dL_append_9 rfl ?_
    refine lv_iconst (v := 0) hx hb dL_append_18 (by decide) ?_
    exact aw_iretz C0 hW (Nat.le_of_ble_eq_true rfl) (Nat.le_of_ble_eq_true rfl) hz dL_append_19
  · rw [hsv] at hf
    have hf := sm_re hf
    have hq := hq.trans (congrArg some (show q = ((.inr e9, q.2) : (Int32 ⊕ Nat) × Mem) by rw [← hsv]))
    refine aw_xCt (rest := [.int 0, .ref (g.2.2 + 83)]) C0 hW (lv_fix (by decide)) (cel_7 kd0) rfl (x_X8_append hfl x1 hq) (cwx_L_43 hts ⟨Nat.le_of_ble_eq_true rfl, Nat.le_of_ble_eq_true rfl⟩) rfl hl.1 rfl (Nat.le_of_ble_eq_true rfl) ⟨Nat.le_of_ble_eq_true rfl, Nat.le_of_ble_eq_true rfl⟩ dL_append_4 (fun H locs qx cex hW hcell hcv hcl => ?_)
    by_cases he0 : e9 = 1
    · have hf := ift he0 hf
      have hz := Option.some.inj hf
      rw [he0] at hcl
      refine vx_catch (E := "java/lang/IllegalArgumentException") (name := "java/lang/IllegalArgumentException") hown [] ⟨0, 9, 12, 15⟩ [⟨0, 9, 15, 17⟩] (htb.trans rfl) (fun _ h => nomatch h) rfl (by decide) (hts _ wd95) (va_Nw.use rfl (hKS.2.2.2.2.2.1 ("java/lang/IllegalArgumentException", "java/lang/IllegalArgumentException") (by decide +kernel))) hcell hcv hcl ?_
      refine lv_astore_n (lv' := [(3, .ref qx), (0, .ref (g.2.2 + 0)), (1, .int x1), (2, .ref (g.2.2 + 83))]) hx hb dL_append_12 rfl hl (Nat.le_of_ble_eq_true rfl) rfl (fun ls hl => ?_)
      refine lv_iconst (v := 1) hx hb dL_append_13 (by decide) ?_
      exact aw_iretz C0 hW (Nat.le_of_ble_eq_true rfl) (Nat.le_of_ble_eq_true rfl) hz dL_append_14
    have hf := iff_ he0 hf
    by_cases he1 : e9 = 2
    · have hf := ift he1 hf
      have hz := Option.some.inj hf
      rw [he1] at hcl
      refine vx_catch (E := "java/lang/IllegalStateException") (name := "java/lang/IllegalStateException") hown [⟨0, 9, 12, 15⟩] ⟨0, 9, 15, 17⟩ [] (htb.trans rfl) (List.forall_mem_cons.mpr ⟨Or.inr ⟨by decide, "java/lang/IllegalArgumentException", hts _ wd95, hKS.2.2.2.2.2.2.2.2.2 ("java/lang/IllegalStateException", "java/lang/IllegalArgumentException") (by decide +kernel)⟩, (fun _ h => nomatch h)⟩) rfl (by decide) (hts _ wd96) (va_Nw.use rfl (hKS.2.2.2.2.2.1 ("java/lang/IllegalStateException", "java/lang/IllegalStateException") (by decide +kernel))) hcell hcv hcl ?_
      refine lv_astore_n (lv' := [(3, .ref qx), (0, .ref (g.2.2 + 0)), (1, .int x1), (2, .ref (g.2.2 + 83))]) hx hb dL_append_15 rfl hl (Nat.le_of_ble_eq_true rfl) rfl (fun ls hl => ?_)
      refine lv_iconst (v := 2) hx hb dL_append_16 (by decide) ?_
      exact aw_iretz C0 hW (Nat.le_of_ble_eq_true rfl) (Nat.le_of_ble_eq_true rfl) hz dL_append_17
    have hf := iff_ he1 hf
    cases hf
def f_L_cell (x1 : Int32) (x2 : Int32) (x3 : Int32) (P : Pool) (R : Rem) (I : Mem) (Z : Zed) (nx : Nat) : Option (Int32 × Mem × Rem × Pool × Zed) :=
  (f_X8_cell x1 x2 x3 I).bind fun q => sm q (fun v => some (0, I, R, P, (vp_updL Z.1 0 v.toInt64, Z.2))) fun e => if e = 0 then some (1, I, R, P, Z) else none
abbrev rmL_cell : Room := { frames := 9, cells := 3, slots := 71, locals := 155 }
set_option maxHeartbeats 4000000 in
set_option maxRecDepth 100000 in
theorem c_L_cell {l : Launch} (hfl : l.stackTraces = false) {g : Gam} {I : Mem} {R : Rem} {P : Pool} {Z : Zed} {nx : Nat} (x1 : Int32) (x2 : Int32) (x3 : Int32) {z : Int32 × Mem × Rem × Pool × Zed} (hf : f_L_cell x1 x2 x3 P R I Z nx = some z) : Met l yL_cell (Cond.codeWith yL_cell cL_cell 6 (some .int) [(0, 12, 15, 13)] :: GT) rmL_cell (va_Pc [.ref (g.2.2 + 0), .int x1, .int x2, .int x3, .ref (g.2.2 + 83)] (PWn g I R P Z nx)) (QI g z.1 z.2.1 z.2.2.1 z.2.2.2.1 z.2.2.2.2) 3 71 (AA g) := by
  refine aw_ofWH (lv0 := [(0, .ref (g.2.2 + 0)), (1, .int x1), (2, .int x2), (3, .int x3), (4, .ref (g.2.2 + 83))]) (by decide) (Nat.le_of_ble_eq_true rfl) rfl (fun p0 e s m args below meth c ls C0 htb hs0 hl hW => ?_)
  have C0 : CX g p0 s m args meth c RL cL_cell 6 (some .int) := C0
  have hx := C0.1; have hb := C0.2.1; have hown := C0.2.2.2.2.1; have hts := C0.2.2.2.2.2.1; have hKS := C0.2.2.2.2.2.2.1
  unfold f_L_cell at hf
  obtain ⟨q, hq, hf⟩ := bnd hf
  refine lv_aload hx hb dL_cell_0 (lv_at hl 4 rfl) ?_
  refine lv_iconst (v := 0) hx hb dL_cell_2 (by decide) ?_
  refine lv_aload_n hx hb dL_cell_3 rfl (lv_at hl 0 rfl) ?_
  refine lv_iload_n hx hb dL_cell_4 rfl (lv_at hl 1 rfl) ?_
  refine lv_iload_n hx hb dL_cell_5 rfl (lv_at hl 2 rfl) ?_
  refine lv_iload_n hx hb dL_cell_6 rfl (lv_at hl 3 rfl) ?_
  rcases hsv : q with v | e9
  · rw [hsv] at hf
    have hf := sm_le hf
    have hz := Option.some.inj hf
    rw [hsv] at hq
    refine aw_cVi (rest := [.int 0, .ref (g.2.2 + 83)]) C0 hW (lv_fix (by decide)) (cel_7 kd0) rfl (c_X8_cell x1 x2 x3 hq) (cw_L_56 hts ⟨Nat.le_of_ble_eq_true rfl, Nat.le_of_ble_eq_true rfl⟩) rfl hl.1 rfl (Nat.le_of_ble_eq_true rfl) ⟨Nat.zero_le _, Nat.zero_le _⟩ dL_cell_7 (fun H locs hW => ?_)
    refine lv_i2l (v := v.toInt64) hx hb dL_cell_10 rfl ?_
    refine aw_last C0 hW dL_cell_11 (fun H locs hW => ?_)
    refine lv_goto (tgt := 19) hx hb dL_cell_12 rfl ?_
    refine lv_iconst (v := 0) hx hb dL_cell_19 (by decide) ?_
    exact aw_iretz C0 hW (Nat.le_of_ble_eq_true rfl) (Nat.le_of_ble_eq_true rfl) hz dL_cell_20
  · rw [hsv] at hf
    have hf := sm_re hf
    rw [hsv] at hq
    refine aw_xCt (rest := [.int 0, .ref (g.2.2 + 83)]) C0 hW (lv_fix (by decide)) (cel_7 kd0) rfl (x_X8_cell hfl x1 x2 x3 hq) (cwx_L_56 hts ⟨Nat.le_of_ble_eq_true rfl, Nat.le_of_ble_eq_true rfl⟩) rfl hl.1 rfl (Nat.le_of_ble_eq_true rfl) ⟨Nat.le_of_ble_eq_true rfl, Nat.le_of_ble_eq_true rfl⟩ dL_cell_7 (fun H locs qx cex hW hcell hcv hcl => ?_)
    by_cases he0 : e9 = 0
    · have hf := ift he0 hf
      have hz := Option.some.inj hf
      rw [he0] at hcl
      refine vx_catch (E := "java/lang/IndexOutOfBoundsException") (name := "java/lang/IndexOutOfBoundsException") hown [] ⟨0, 12, 15, 13⟩ [] (htb.trans rfl) (fun _ h => nomatch h) rfl (by decide) (hts _ wd94) (va_Nw.use rfl (hKS.2.2.2.2.2.1 ("java/lang/IndexOutOfBoundsException", "java/lang/IndexOutOfBoundsException") (by decide +kernel))) hcell hcv hcl ?_
      refine lv_astore (lv' := [(5, .ref qx), (0, .ref (g.2.2 + 0)), (1, .int x1), (2, .int x2), (3, .int x3), (4, .ref (g.2.2 + 83))]) hx hb dL_cell_15 hl (Nat.le_of_ble_eq_true rfl) rfl (fun ls hl => ?_)
      refine lv_iconst (v := 1) hx hb dL_cell_17 (by decide) ?_
      exact aw_iretz C0 hW (Nat.le_of_ble_eq_true rfl) (Nat.le_of_ble_eq_true rfl) hz dL_cell_18
    have hf := iff_ he0 hf
    cases hf
def f_L_certain (x1 : Int32) (x2 : Int32) (x3 : Int32) (P : Pool) (R : Rem) (I : Mem) (Z : Zed) (nx : Nat) : Option (Int32 × Mem × Rem × Pool × Zed) :=
  (f_X8_certain x1 x2 x3 P R I).bind fun q => sm q.1 (fun v => some (0, q.2, R, P, (vp_updL Z.1 0 v.toInt64, Z.2))) fun e => if e = 0 then some (1, q.2, R, P, Z) else none
abbrev rmL_certain : Room := { frames := 9, cells := 3, slots := 71, locals := 158 }
set_option maxHeartbeats 4000000 in
set_option maxRecDepth 100000 in
theorem c_L_certain {l : Launch} (hfl : l.stackTraces = false) {g : Gam} {I : Mem} {R : Rem} {P : Pool} {Z : Zed} {nx : Nat} (x1 : Int32) (x2 : Int32) (x3 : Int32) {z : Int32 × Mem × Rem × Pool × Zed} (hf : f_L_certain x1 x2 x3 P R I Z nx = some z) : Met l yL_certain (Cond.codeWith yL_certain cL_certain 6 (some .int) [(0, 12, 15, 13)] :: GT) rmL_certain (va_Pc [.ref (g.2.2 + 0), .int x1, .int x2, .int x3, .ref (g.2.2 + 83)] (PWn g I R P Z nx)) (QI g z.1 z.2.1 z.2.2.1 z.2.2.2.1 z.2.2.2.2) 3 71 (AA g) := by
  refine aw_ofWH (lv0 := [(0, .ref (g.2.2 + 0)), (1, .int x1), (2, .int x2), (3, .int x3), (4, .ref (g.2.2 + 83))]) (by decide) (Nat.le_of_ble_eq_true rfl) rfl (fun p0 e s m args below meth c ls C0 htb hs0 hl hW => ?_)
  have C0 : CX g p0 s m args meth c RL cL_certain 6 (some .int) := C0
  have hx := C0.1; have hb := C0.2.1; have hown := C0.2.2.2.2.1; have hts := C0.2.2.2.2.2.1; have hKS := C0.2.2.2.2.2.2.1
  unfold f_L_certain at hf
  obtain ⟨q, hq, hf⟩ := bnd hf
  refine lv_aload hx hb dL_certain_0 (lv_at hl 4 rfl) ?_
  refine lv_iconst (v := 0) hx hb dL_certain_2 (by decide) ?_
  refine lv_aload_n hx hb dL_certain_3 rfl (lv_at hl 0 rfl) ?_
  refine lv_iload_n hx hb dL_certain_4 rfl (lv_at hl 1 rfl) ?_
  refine lv_iload_n hx hb dL_certain_5 rfl (lv_at hl 2 rfl) ?_
  refine lv_iload_n hx hb dL_certain_6 rfl (lv_at hl 3 rfl) ?_
  rcases hsv : q.1 with v | e9
  · rw [hsv] at hf
    have hf := sm_le hf
    have hz := Option.some.inj hf
    have hq := hq.trans (congrArg some (show q = ((.inl v, q.2) : (Int32 ⊕ Nat) × Mem) by rw [← hsv]))
    refine aw_cVi (rest := [.int 0, .ref (g.2.2 + 83)]) C0 hW (lv_fix (by decide)) (cel_7 kd0) rfl (c_X8_certain x1 x2 x3 hq) (cw_L_81 hts ⟨Nat.le_of_ble_eq_true rfl, Nat.le_of_ble_eq_true rfl⟩) rfl hl.1 rfl (Nat.le_of_ble_eq_true rfl) ⟨Nat.zero_le _, Nat.zero_le _⟩ dL_certain_7 (fun H locs hW => ?_)
    refine lv_i2l (v := v.toInt64) hx hb dL_certain_10 rfl ?_
    refine aw_last C0 hW dL_certain_11 (fun H locs hW => ?_)
    refine lv_goto (tgt := 19) hx hb dL_certain_12 rfl ?_
    refine lv_iconst (v := 0) hx hb dL_certain_19 (by decide) ?_
    exact aw_iretz C0 hW (Nat.le_of_ble_eq_true rfl) (Nat.le_of_ble_eq_true rfl) hz dL_certain_20
  · rw [hsv] at hf
    have hf := sm_re hf
    have hq := hq.trans (congrArg some (show q = ((.inr e9, q.2) : (Int32 ⊕ Nat) × Mem) by rw [← hsv]))
    refine aw_xCt (rest := [.int 0, .ref (g.2.2 + 83)]) C0 hW (lv_fix (by decide)) (cel_7 kd0) rfl (x_X8_certain hfl x1 x2 x3 hq) (cwx_L_81 hts ⟨Nat.le_of_ble_eq_true rfl, Nat.le_of_ble_eq_true rfl⟩) rfl hl.1 rfl (Nat.le_of_ble_eq_true rfl) ⟨Nat.le_of_ble_eq_true rfl, Nat.le_of_ble_eq_true rfl⟩ dL_certain_7 (fun H locs qx cex hW hcell hcv hcl => ?_)
    by_cases he0 : e9 = 0
    · have hf := ift he0 hf
      have hz := Option.some.inj hf
      rw [he0] at hcl
      refine vx_catch (E := "java/lang/IndexOutOfBoundsException") (name := "java/lang/IndexOutOfBoundsException") hown [] ⟨0, 12, 15, 13⟩ [] (htb.trans rfl) (fun _ h => nomatch h) rfl (by decide) (hts _ wd94) (va_Nw.use rfl (hKS.2.2.2.2.2.1 ("java/lang/IndexOutOfBoundsException", "java/lang/IndexOutOfBoundsException") (by decide +kernel))) hcell hcv hcl ?_
      refine lv_astore (lv' := [(5, .ref qx), (0, .ref (g.2.2 + 0)), (1, .int x1), (2, .int x2), (3, .int x3), (4, .ref (g.2.2 + 83))]) hx hb dL_certain_15 hl (Nat.le_of_ble_eq_true rfl) rfl (fun ls hl => ?_)
      refine lv_iconst (v := 1) hx hb dL_certain_17 (by decide) ?_
      exact aw_iretz C0 hW (Nat.le_of_ble_eq_true rfl) (Nat.le_of_ble_eq_true rfl) hz dL_certain_18
    have hf := iff_ he0 hf
    cases hf
def f_L_change (x1 : Int32) (x2 : Int32) (x3 : Int32) (x4 : Int32) (P : Pool) (R : Rem) (I : Mem) (Z : Zed) (nx : Nat) : Option (Int32 × Mem × Rem × Pool × Zed) :=
  (f_X8_change x1 x2 x3 x4 P R I).bind fun q => sm q.1 (fun v => some (0, q.2.1, q.2.2, P, (vp_updL Z.1 0 v.toInt64, Z.2))) fun e => if e = 0 then some (1, q.2.1, q.2.2, P, Z) else if e = 1 then some (2, q.2.1, q.2.2, P, Z) else none
abbrev rmL_change : Room := { frames := 9, cells := 3, slots := 71, locals := 158 }
set_option maxHeartbeats 4000000 in
set_option maxRecDepth 100000 in
theorem c_L_change {l : Launch} (hfl : l.stackTraces = false) {g : Gam} {I : Mem} {R : Rem} {P : Pool} {Z : Zed} {nx : Nat} (x1 : Int32) (x2 : Int32) (x3 : Int32) (x4 : Int32) {z : Int32 × Mem × Rem × Pool × Zed} (hf : f_L_change x1 x2 x3 x4 P R I Z nx = some z) : Met l yL_change (Cond.codeWith yL_change cL_change 7 (some .int) [(0, 14, 17, 13), (0, 14, 21, 15)] :: GT) rmL_change (va_Pc [.ref (g.2.2 + 0), .int x1, .int x2, .int x3, .int x4, .ref (g.2.2 + 83)] (PWn g I R P Z nx)) (QI g z.1 z.2.1 z.2.2.1 z.2.2.2.1 z.2.2.2.2) 3 71 (AA g) := by
  refine aw_ofWH (lv0 := [(0, .ref (g.2.2 + 0)), (1, .int x1), (2, .int x2), (3, .int x3), (4, .int x4), (5, .ref (g.2.2 + 83))]) (by decide) (Nat.le_of_ble_eq_true rfl) rfl (fun p0 e s m args below meth c ls C0 htb hs0 hl hW => ?_)
  have C0 : CX g p0 s m args meth c RL cL_change 7 (some .int) := C0
  have hx := C0.1; have hb := C0.2.1; have hown := C0.2.2.2.2.1; have hts := C0.2.2.2.2.2.1; have hKS := C0.2.2.2.2.2.2.1
  unfold f_L_change at hf
  obtain ⟨q, hq, hf⟩ := bnd hf
  refine lv_aload hx hb dL_change_0 (lv_at hl 5 rfl) ?_
  refine lv_iconst (v := 0) hx hb dL_change_2 (by decide) ?_
  refine lv_aload_n hx hb dL_change_3 rfl (lv_at hl 0 rfl) ?_
  refine lv_iload_n hx hb dL_change_4 rfl (lv_at hl 1 rfl) ?_
  refine lv_iload_n hx hb dL_change_5 rfl (lv_at hl 2 rfl) ?_
  refine lv_iload_n hx hb dL_change_6 rfl (lv_at hl 3 rfl) ?_
  refine lv_iload hx hb dL_change_7 (lv_at hl 4 rfl) ?_
  rcases hsv : q.1 with v | e9
  · rw [hsv] at hf
    have hf := sm_le hf
    have hz := Option.some.inj hf
    have hq := hq.trans (congrArg some (show q = ((.inl v, q.2.1, q.2.2) : (Int32 ⊕ Nat) × Mem × Rem) by rw [← hsv]))
    refine aw_cVi (rest := [.int 0, .ref (g.2.2 + 83)]) C0 hW (lv_fix (by decide)) (cel_7 kd0) rfl (c_X8_change x1 x2 x3 x4 hq) (cw_L_19 hts ⟨Nat.le_of_ble_eq_true rfl, Nat.le_of_ble_eq_true rfl⟩) rfl hl.1 rfl (Nat.le_of_ble_eq_true rfl) ⟨Nat.zero_le _, Nat.zero_le _⟩ dL_change_9 (fun H locs hW => ?_)
    refine lv_i2l (v := v.toInt64) hx hb dL_change_12 rfl ?_
    refine aw_last C0 hW dL_change_13 (fun H locs hW => ?_)
    refine lv_goto (tgt := 25) hx hb dL_change_14 rfl ?_
    refine lv_iconst (v := 0) hx hb dL_change_25 (by decide) ?_
    exact aw_iretz C0 hW (Nat.le_of_ble_eq_true rfl) (Nat.le_of_ble_eq_true rfl) hz dL_change_26
  · rw [hsv] at hf
    have hf := sm_re hf
    have hq := hq.trans (congrArg some (show q = ((.inr e9, q.2.1, q.2.2) : (Int32 ⊕ Nat) × Mem × Rem) by rw [← hsv]))
    refine aw_xCt (rest := [.int 0, .ref (g.2.2 + 83)]) C0 hW (lv_fix (by decide)) (cel_7 kd0) rfl (x_X8_change hfl x1 x2 x3 x4 hq) (cwx_L_19 hts ⟨Nat.le_of_ble_eq_true rfl, Nat.le_of_ble_eq_true rfl⟩) rfl hl.1 rfl (Nat.le_of_ble_eq_true rfl) ⟨Nat.le_of_ble_eq_true rfl, Nat.le_of_ble_eq_true rfl⟩ dL_change_9 (fun H locs qx cex hW hcell hcv hcl => ?_)
    by_cases he0 : e9 = 0
    · have hf := ift he0 hf
      have hz := Option.some.inj hf
      rw [he0] at hcl
      refine vx_catch (E := "java/lang/IndexOutOfBoundsException") (name := "java/lang/IndexOutOfBoundsException") hown [] ⟨0, 14, 17, 13⟩ [⟨0, 14, 21, 15⟩] (htb.trans rfl) (fun _ h => nomatch h) rfl (by decide) (hts _ wd94) (va_Nw.use rfl (hKS.2.2.2.2.2.1 ("java/lang/IndexOutOfBoundsException", "java/lang/IndexOutOfBoundsException") (by decide +kernel))) hcell hcv hcl ?_
      refine lv_astore (lv' := [(6, .ref qx), (0, .ref (g.2.2 + 0)), (1, .int x1), (2, .int x2), (3, .int x3), (4, .int x4), (5, .ref (g.2.2 + 83))]) hx hb dL_change_17 hl (Nat.le_of_ble_eq_true rfl) rfl (fun ls hl => ?_)
      refine lv_iconst (v := 1) hx hb dL_change_19 (by decide) ?_
      exact aw_iretz C0 hW (Nat.le_of_ble_eq_true rfl) (Nat.le_of_ble_eq_true rfl) hz dL_change_20
    have hf := iff_ he0 hf
    by_cases he1 : e9 = 1
    · have hf := ift he1 hf
      have hz := Option.some.inj hf
      rw [he1] at hcl
      refine vx_catch (E := "java/lang/IllegalArgumentException") (name := "java/lang/IllegalArgumentException") hown [⟨0, 14, 17, 13⟩] ⟨0, 14, 21, 15⟩ [] (htb.trans rfl) (List.forall_mem_cons.mpr ⟨Or.inr ⟨by decide, "java/lang/IndexOutOfBoundsException", hts _ wd94, hKS.2.2.2.2.2.2.2.2.2 ("java/lang/IllegalArgumentException", "java/lang/IndexOutOfBoundsException") (by decide +kernel)⟩, (fun _ h => nomatch h)⟩) rfl (by decide) (hts _ wd95) (va_Nw.use rfl (hKS.2.2.2.2.2.1 ("java/lang/IllegalArgumentException", "java/lang/IllegalArgumentException") (by decide +kernel))) hcell hcv hcl ?_
      refine lv_astore (lv' := [(6, .ref qx), (0, .ref (g.2.2 + 0)), (1, .int x1), (2, .int x2), (3, .int x3), (4, .int x4), (5, .ref (g.2.2 + 83))]) hx hb dL_change_21 hl (Nat.le_of_ble_eq_true rfl) rfl (fun ls hl => ?_)
      refine lv_iconst (v := 2) hx hb dL_change_23 (by decide) ?_
      exact aw_iretz C0 hW (Nat.le_of_ble_eq_true rfl) (Nat.le_of_ble_eq_true rfl) hz dL_change_24
    have hf := iff_ he1 hf
    cases hf
def f_L_check (x1 : Int32) (x2 : Int32) (P : Pool) (R : Rem) (I : Mem) (Z : Zed) (nx : Nat) : Option (Int32 × Mem × Rem × Pool × Zed) :=
  (f_X8_check x1 x2 P R I).bind fun q => sm q.1 (fun v => some (0, q.2.1, q.2.2, P, (vp_updL Z.1 0 v.toInt64, Z.2))) fun e => if e = 0 then some (1, q.2.1, q.2.2, P, Z) else if e = 2 then some (2, q.2.1, q.2.2, P, Z) else none
abbrev rmL_check : Room := { frames := 8, cells := 3, slots := 71, locals := 168 }
set_option maxHeartbeats 4000000 in
set_option maxRecDepth 100000 in
theorem c_L_check {l : Launch} (hfl : l.stackTraces = false) {g : Gam} {I : Mem} {R : Rem} {P : Pool} {Z : Zed} {nx : Nat} (x1 : Int32) (x2 : Int32) {z : Int32 × Mem × Rem × Pool × Zed} (hf : f_L_check x1 x2 P R I Z nx = some z) : Met l yL_check (Cond.codeWith yL_check cL_check 5 (some .int) [(0, 10, 13, 13), (0, 10, 17, 17)] :: GT) rmL_check (va_Pc [.ref (g.2.2 + 0), .int x1, .int x2, .ref (g.2.2 + 83)] (PWn g I R P Z nx)) (QI g z.1 z.2.1 z.2.2.1 z.2.2.2.1 z.2.2.2.2) 3 71 (AA g) := by
  refine aw_ofWH (lv0 := [(0, .ref (g.2.2 + 0)), (1, .int x1), (2, .int x2), (3, .ref (g.2.2 + 83))]) (by decide) (Nat.le_of_ble_eq_true rfl) rfl (fun p0 e s m args below meth c ls C0 htb hs0 hl hW => ?_)
  have C0 : CX g p0 s m args meth c RL cL_check 5 (some .int) := C0
  have hx := C0.1; have hb := C0.2.1; have hown := C0.2.2.2.2.1; have hts := C0.2.2.2.2.2.1; have hKS := C0.2.2.2.2.2.2.1
  unfold f_L_check at hf
  obtain ⟨q, hq, hf⟩ := bnd hf
  refine lv_aload_n hx hb dL_check_0 rfl (lv_at hl 3 rfl) ?_
  refine lv_iconst (v := 0) hx hb dL_check_1 (by decide) ?_
  refine lv_aload_n hx hb dL_check_2 rfl (lv_at hl 0 rfl) ?_
  refine lv_iload_n hx hb dL_check_3 rfl (lv_at hl 1 rfl) ?_
  refine lv_iload_n hx hb dL_check_4 rfl (lv_at hl 2 rfl) ?_
  rcases hsv : q.1 with v | e9
  · rw [hsv] at hf
    have hf := sm_le hf
    have hz := Option.some.inj hf
    have hq := hq.trans (congrArg some (show q = ((.inl v, q.2.1, q.2.2) : (Int32 ⊕ Nat) × Mem × Rem) by rw [← hsv]))
    refine aw_cVi (rest := [.int 0, .ref (g.2.2 + 83)]) C0 hW (lv_fix (by decide)) (cel_7 kd0) rfl (c_X8_check x1 x2 hq) (cw_L_34 hts ⟨Nat.le_of_ble_eq_true rfl, Nat.le_of_ble_eq_true rfl⟩) rfl hl.1 rfl (Nat.le_of_ble_eq_true rfl) ⟨Nat.zero_le _, Nat.zero_le _⟩ dL_check_5 (fun H locs hW => ?_)
    refine lv_i2l (v := v.toInt64) hx hb dL_check_8 rfl ?_
    refine aw_last C0 hW dL_check_9 (fun H locs hW => ?_)
    refine lv_goto (tgt := 21) hx hb dL_check_10 rfl ?_
    refine lv_iconst (v := 0) hx hb dL_check_21 (by decide) ?_
    exact aw_iretz C0 hW (Nat.le_of_ble_eq_true rfl) (Nat.le_of_ble_eq_true rfl) hz dL_check_22
  · rw [hsv] at hf
    have hf := sm_re hf
    have hq := hq.trans (congrArg some (show q = ((.inr e9, q.2.1, q.2.2) : (Int32 ⊕ Nat) × Mem × Rem) by rw [← hsv]))
    refine aw_xCt (rest := [.int 0, .ref (g.2.2 + 83)]) C0 hW (lv_fix (by decide)) (cel_7 kd0) rfl (x_X8_check hfl x1 x2 hq) (cwx_L_34 hts ⟨Nat.le_of_ble_eq_true rfl, Nat.le_of_ble_eq_true rfl⟩) rfl hl.1 rfl (Nat.le_of_ble_eq_true rfl) ⟨Nat.le_of_ble_eq_true rfl, Nat.le_of_ble_eq_true rfl⟩ dL_check_5 (fun H locs qx cex hW hcell hcv hcl => ?_)
    by_cases he0 : e9 = 0
    · have hf := ift he0 hf
      have hz := Option.some.inj hf
      rw [he0] at hcl
      refine vx_catch (E := "java/lang/IndexOutOfBoundsException") (name := "java/lang/IndexOutOfBoundsException") hown [] ⟨0, 10, 13, 13⟩ [⟨0, 10, 17, 17⟩] (htb.trans rfl) (fun _ h => nomatch h) rfl (by decide) (hts _ wd94) (va_Nw.use rfl (hKS.2.2.2.2.2.1 ("java/lang/IndexOutOfBoundsException", "java/lang/IndexOutOfBoundsException") (by decide +kernel))) hcell hcv hcl ?_
      refine lv_astore (lv' := [(4, .ref qx), (0, .ref (g.2.2 + 0)), (1, .int x1), (2, .int x2), (3, .ref (g.2.2 + 83))]) hx hb dL_check_13 hl (Nat.le_of_ble_eq_true rfl) rfl (fun ls hl => ?_)
      refine lv_iconst (v := 1) hx hb dL_check_15 (by decide) ?_
      exact aw_iretz C0 hW (Nat.le_of_ble_eq_true rfl) (Nat.le_of_ble_eq_true rfl) hz dL_check_16
    have hf := iff_ he0 hf
    by_cases he1 : e9 = 2
    · have hf := ift he1 hf
      have hz := Option.some.inj hf
      rw [he1] at hcl
      refine vx_catch (E := "java/lang/IllegalStateException") (name := "java/lang/IllegalStateException") hown [⟨0, 10, 13, 13⟩] ⟨0, 10, 17, 17⟩ [] (htb.trans rfl) (List.forall_mem_cons.mpr ⟨Or.inr ⟨by decide, "java/lang/IndexOutOfBoundsException", hts _ wd94, hKS.2.2.2.2.2.2.2.2.2 ("java/lang/IllegalStateException", "java/lang/IndexOutOfBoundsException") (by decide +kernel)⟩, (fun _ h => nomatch h)⟩) rfl (by decide) (hts _ wd96) (va_Nw.use rfl (hKS.2.2.2.2.2.1 ("java/lang/IllegalStateException", "java/lang/IllegalStateException") (by decide +kernel))) hcell hcv hcl ?_
      refine lv_astore (lv' := [(4, .ref qx), (0, .ref (g.2.2 + 0)), (1, .int x1), (2, .int x2), (3, .ref (g.2.2 + 83))]) hx hb dL_check_17 hl (Nat.le_of_ble_eq_true rfl) rfl (fun ls hl => ?_)
      refine lv_iconst (v := 2) hx hb dL_check_19 (by decide) ?_
      exact aw_iretz C0 hW (Nat.le_of_ble_eq_true rfl) (Nat.le_of_ble_eq_true rfl) hz dL_check_20
    have hf := iff_ he1 hf
    cases hf
def f_L_column (x1 : Int32) (x2 : Int32) (x3 : Int32) (P : Pool) (R : Rem) (I : Mem) (Z : Zed) (nx : Nat) : Option (Int32 × Mem × Rem × Pool × Zed) :=
  (f_X8_column x1 x2 x3 I).bind fun q => sm q (fun v => some (0, I, R, P, (vp_updL Z.1 0 v.toInt64, Z.2))) fun e => if e = 0 then some (1, I, R, P, Z) else if e = 1 then some (2, I, R, P, Z) else none
abbrev rmL_column : Room := { frames := 8, cells := 3, slots := 71, locals := 141 }
set_option maxHeartbeats 4000000 in
set_option maxRecDepth 100000 in
theorem c_L_column {l : Launch} (hfl : l.stackTraces = false) {g : Gam} {I : Mem} {R : Rem} {P : Pool} {Z : Zed} {nx : Nat} (x1 : Int32) (x2 : Int32) (x3 : Int32) {z : Int32 × Mem × Rem × Pool × Zed} (hf : f_L_column x1 x2 x3 P R I Z nx = some z) : Met l yL_column (Cond.codeWith yL_column cL_column 6 (some .int) [(0, 12, 15, 13), (0, 12, 19, 15)] :: GT) rmL_column (va_Pc [.ref (g.2.2 + 0), .int x1, .int x2, .int x3, .ref (g.2.2 + 83)] (PWn g I R P Z nx)) (QI g z.1 z.2.1 z.2.2.1 z.2.2.2.1 z.2.2.2.2) 3 71 (AA g) := by
  refine aw_ofWH (lv0 := [(0, .ref (g.2.2 + 0)), (1, .int x1), (2, .int x2), (3, .int x3), (4, .ref (g.2.2 + 83))]) (by decide) (Nat.le_of_ble_eq_true rfl) rfl (fun p0 e s m args below meth c ls C0 htb hs0 hl hW => ?_)
  have C0 : CX g p0 s m args meth c RL cL_column 6 (some .int) := C0
  have hx := C0.1; have hb := C0.2.1; have hown := C0.2.2.2.2.1; have hts := C0.2.2.2.2.2.1; have hKS := C0.2.2.2.2.2.2.1
  unfold f_L_column at hf
  obtain ⟨q, hq, hf⟩ := bnd hf
  refine lv_aload hx hb dL_column_0 (lv_at hl 4 rfl) ?_
  refine lv_iconst (v := 0) hx hb dL_column_2 (by decide) ?_
  refine lv_aload_n hx hb dL_column_3 rfl (lv_at hl 0 rfl) ?_
  refine lv_iload_n hx hb dL_column_4 rfl (lv_at hl 1 rfl) ?_
  refine lv_iload_n hx hb dL_column_5 rfl (lv_at hl 2 rfl) ?_
  refine lv_iload_n hx hb dL_column_6 rfl (lv_at hl 3 rfl) ?_
  rcases hsv : q with v | e9
  · rw [hsv] at hf
    have hf := sm_le hf
    have hz := Option.some.inj hf
    rw [hsv] at hq
    refine aw_cVi (rest := [.int 0, .ref (g.2.2 + 83)]) C0 hW (lv_fix (by decide)) (cel_7 kd0) rfl (c_X8_column x1 x2 x3 hq) (cw_L_60 hts ⟨Nat.le_of_ble_eq_true rfl, Nat.le_of_ble_eq_true rfl⟩) rfl hl.1 rfl (Nat.le_of_ble_eq_true rfl) ⟨Nat.zero_le _, Nat.zero_le _⟩ dL_column_7 (fun H locs hW => ?_)
    refine lv_i2l (v := v.toInt64) hx hb dL_column_10 rfl ?_
    refine aw_last C0 hW dL_column_11 (fun H locs hW => ?_)
    refine lv_goto (tgt := 23) hx hb dL_column_12 rfl ?_
    refine lv_iconst (v := 0) hx hb dL_column_23 (by decide) ?_
    exact aw_iretz C0 hW (Nat.le_of_ble_eq_true rfl) (Nat.le_of_ble_eq_true rfl) hz dL_column_24
  · rw [hsv] at hf
    have hf := sm_re hf
    rw [hsv] at hq
    refine aw_xCt (rest := [.int 0, .ref (g.2.2 + 83)]) C0 hW (lv_fix (by decide)) (cel_7 kd0) rfl (x_X8_column hfl x1 x2 x3 hq) (cwx_L_60 hts ⟨Nat.le_of_ble_eq_true rfl, Nat.le_of_ble_eq_true rfl⟩) rfl hl.1 rfl (Nat.le_of_ble_eq_true rfl) ⟨Nat.le_of_ble_eq_true rfl, Nat.le_of_ble_eq_true rfl⟩ dL_column_7 (fun H locs qx cex hW hcell hcv hcl => ?_)
    by_cases he0 : e9 = 0
    · have hf := ift he0 hf
      have hz := Option.some.inj hf
      rw [he0] at hcl
      refine vx_catch (E := "java/lang/IndexOutOfBoundsException") (name := "java/lang/IndexOutOfBoundsException") hown [] ⟨0, 12, 15, 13⟩ [⟨0, 12, 19, 15⟩] (htb.trans rfl) (fun _ h => nomatch h) rfl (by decide) (hts _ wd94) (va_Nw.use rfl (hKS.2.2.2.2.2.1 ("java/lang/IndexOutOfBoundsException", "java/lang/IndexOutOfBoundsException") (by decide +kernel))) hcell hcv hcl ?_
      refine lv_astore (lv' := [(5, .ref qx), (0, .ref (g.2.2 + 0)), (1, .int x1), (2, .int x2), (3, .int x3), (4, .ref (g.2.2 + 83))]) hx hb dL_column_15 hl (Nat.le_of_ble_eq_true rfl) rfl (fun ls hl => ?_)
      refine lv_iconst (v := 1) hx hb dL_column_17 (by decide) ?_
      exact aw_iretz C0 hW (Nat.le_of_ble_eq_true rfl) (Nat.le_of_ble_eq_true rfl) hz dL_column_18
    have hf := iff_ he0 hf
    by_cases he1 : e9 = 1
    · have hf := ift he1 hf
      have hz := Option.some.inj hf
      rw [he1] at hcl
      refine vx_catch (E := "java/lang/IllegalArgumentException") (name := "java/lang/IllegalArgumentException") hown [⟨0, 12, 15, 13⟩] ⟨0, 12, 19, 15⟩ [] (htb.trans rfl) (List.forall_mem_cons.mpr ⟨Or.inr ⟨by decide, "java/lang/IndexOutOfBoundsException", hts _ wd94, hKS.2.2.2.2.2.2.2.2.2 ("java/lang/IllegalArgumentException", "java/lang/IndexOutOfBoundsException") (by decide +kernel)⟩, (fun _ h => nomatch h)⟩) rfl (by decide) (hts _ wd95) (va_Nw.use rfl (hKS.2.2.2.2.2.1 ("java/lang/IllegalArgumentException", "java/lang/IllegalArgumentException") (by decide +kernel))) hcell hcv hcl ?_
      refine lv_astore (lv' := [(5, .ref qx), (0, .ref (g.2.2 + 0)), (1, .int x1), (2, .int x2), (3, .int x3), (4, .ref (g.2.2 + 83))]) hx hb dL_column_19 hl (Nat.le_of_ble_eq_true rfl) rfl (fun ls hl => ?_)
      refine lv_iconst (v := 2) hx hb dL_column_21 (by decide) ?_
      exact aw_iretz C0 hW (Nat.le_of_ble_eq_true rfl) (Nat.le_of_ble_eq_true rfl) hz dL_column_22
    have hf := iff_ he1 hf
    cases hf
def f_L_combine (x1 : Int32) (x2 : Int32) (x3 : Int32) (x4 : Int32) (P : Pool) (R : Rem) (I : Mem) (Z : Zed) (nx : Nat) : Option (Int32 × Mem × Rem × Pool × Zed) :=
  (f_X8_combine x1 x2 x3 x4 P R I nx).bind fun q => sm q.1 (fun v => some (0, q.2.1, q.2.2.1, q.2.2.2, (vp_updL Z.1 0 v.toInt64, Z.2))) fun e => if e = 0 then some (1, q.2.1, q.2.2.1, q.2.2.2, Z) else if e = 1 then some (2, q.2.1, q.2.2.1, q.2.2.2, Z) else if e = 2 then some (3, q.2.1, q.2.2.1, q.2.2.2, Z) else none
abbrev rmL_combine : Room := { frames := 9, cells := 3, slots := 71, locals := 160 }
set_option maxHeartbeats 4000000 in
set_option maxRecDepth 100000 in
theorem c_L_combine {l : Launch} (hfl : l.stackTraces = false) {g : Gam} {I : Mem} {R : Rem} {P : Pool} {Z : Zed} {nx : Nat} (x1 : Int32) (x2 : Int32) (x3 : Int32) (x4 : Int32) {z : Int32 × Mem × Rem × Pool × Zed} (hf : f_L_combine x1 x2 x3 x4 P R I Z nx = some z) : Met l yL_combine (Cond.codeWith yL_combine cL_combine 7 (some .int) [(0, 14, 17, 13), (0, 14, 21, 15), (0, 14, 25, 17)] :: GT) rmL_combine (va_Pc [.ref (g.2.2 + 0), .int x1, .int x2, .int x3, .int x4, .ref (g.2.2 + 83)] (PWn g I R P Z nx)) (QI g z.1 z.2.1 z.2.2.1 z.2.2.2.1 z.2.2.2.2) 3 71 (AA g) := by
  refine aw_ofWH (lv0 := [(0, .ref (g.2.2 + 0)), (1, .int x1), (2, .int x2), (3, .int x3), (4, .int x4), (5, .ref (g.2.2 + 83))]) (by decide) (Nat.le_of_ble_eq_true rfl) rfl (fun p0 e s m args below meth c ls C0 htb hs0 hl hW => ?_)
  have C0 : CX g p0 s m args meth c RL cL_combine 7 (some .int) := C0
  have hx := C0.1; have hb := C0.2.1; have hown := C0.2.2.2.2.1; have hts := C0.2.2.2.2.2.1; have hKS := C0.2.2.2.2.2.2.1
  unfold f_L_combine at hf
  obtain ⟨q, hq, hf⟩ := bnd hf
  refine lv_aload hx hb dL_combine_0 (lv_at hl 5 rfl) ?_
  refine lv_iconst (v := 0) hx hb dL_combine_2 (by decide) ?_
  refine lv_aload_n hx hb dL_combine_3 rfl (lv_at hl 0 rfl) ?_
  refine lv_iload_n hx hb dL_combine_4 rfl (lv_at hl 1 rfl) ?_
  refine lv_iload_n hx hb dL_combine_5 rfl (lv_at hl 2 rfl) ?_
  refine lv_iload_n hx hb dL_combine_6 rfl (lv_at hl 3 rfl) ?_
  refine lv_iload hx hb dL_combine_7 (lv_at hl 4 rfl) ?_
  rcases hsv : q.1 with v | e9
  · rw [hsv] at hf
    have hf := sm_le hf
    have hz := Option.some.inj hf
    have hq := hq.trans (congrArg some (show q = ((.inl v, q.2.1, q.2.2.1, q.2.2.2) : (Int32 ⊕ Nat) × Mem × Rem × Pool) by rw [← hsv]))
    have hsz : s.heap.size = g.2.2 + nx := hs0
    refine aw_nVi (rest := [.int 0, .ref (g.2.2 + 83)]) C0 hW hsz (lv_fix (by decide)) (cel_7 kd0) rfl (c_X8_combine x1 x2 x3 x4 hq) (cw_L_31 hts ⟨Nat.le_of_ble_eq_true rfl, Nat.le_of_ble_eq_true rfl⟩) rfl hl.1 rfl (Nat.le_of_ble_eq_true rfl) ⟨Nat.le_of_ble_eq_true rfl, Nat.le_of_ble_eq_true rfl⟩ dL_combine_9 (fun H locs hW => ?_)
    refine lv_i2l (v := v.toInt64) hx hb dL_combine_12 rfl ?_
    refine aw_last C0 hW dL_combine_13 (fun H locs hW => ?_)
    refine lv_goto (tgt := 29) hx hb dL_combine_14 rfl ?_
    refine lv_iconst (v := 0) hx hb dL_combine_29 (by decide) ?_
    exact aw_iretz C0 hW (Nat.le_of_ble_eq_true rfl) (Nat.le_of_ble_eq_true rfl) hz dL_combine_30
  · rw [hsv] at hf
    have hf := sm_re hf
    have hq := hq.trans (congrArg some (show q = ((.inr e9, q.2.1, q.2.2.1, q.2.2.2) : (Int32 ⊕ Nat) × Mem × Rem × Pool) by rw [← hsv]))
    refine aw_xCt (rest := [.int 0, .ref (g.2.2 + 83)]) C0 hW (lv_fix (by decide)) (cel_7 kd0) rfl (x_X8_combine hfl x1 x2 x3 x4 hq) (cwx_L_31 hts ⟨Nat.le_of_ble_eq_true rfl, Nat.le_of_ble_eq_true rfl⟩) rfl hl.1 rfl (Nat.le_of_ble_eq_true rfl) ⟨Nat.le_of_ble_eq_true rfl, Nat.le_of_ble_eq_true rfl⟩ dL_combine_9 (fun H locs qx cex hW hcell hcv hcl => ?_)
    by_cases he0 : e9 = 0
    · have hf := ift he0 hf
      have hz := Option.some.inj hf
      rw [he0] at hcl
      refine vx_catch (E := "java/lang/IndexOutOfBoundsException") (name := "java/lang/IndexOutOfBoundsException") hown [] ⟨0, 14, 17, 13⟩ [⟨0, 14, 21, 15⟩, ⟨0, 14, 25, 17⟩] (htb.trans rfl) (fun _ h => nomatch h) rfl (by decide) (hts _ wd94) (va_Nw.use rfl (hKS.2.2.2.2.2.1 ("java/lang/IndexOutOfBoundsException", "java/lang/IndexOutOfBoundsException") (by decide +kernel))) hcell hcv hcl ?_
      refine lv_astore (lv' := [(6, .ref qx), (0, .ref (g.2.2 + 0)), (1, .int x1), (2, .int x2), (3, .int x3), (4, .int x4), (5, .ref (g.2.2 + 83))]) hx hb dL_combine_17 hl (Nat.le_of_ble_eq_true rfl) rfl (fun ls hl => ?_)
      refine lv_iconst (v := 1) hx hb dL_combine_19 (by decide) ?_
      exact aw_iretz C0 hW (Nat.le_of_ble_eq_true rfl) (Nat.le_of_ble_eq_true rfl) (by rw [← hz, xp_X8_combine hq]) dL_combine_20
    have hf := iff_ he0 hf
    by_cases he1 : e9 = 1
    · have hf := ift he1 hf
      have hz := Option.some.inj hf
      rw [he1] at hcl
      refine vx_catch (E := "java/lang/IllegalArgumentException") (name := "java/lang/IllegalArgumentException") hown [⟨0, 14, 17, 13⟩] ⟨0, 14, 21, 15⟩ [⟨0, 14, 25, 17⟩] (htb.trans rfl) (List.forall_mem_cons.mpr ⟨Or.inr ⟨by decide, "java/lang/IndexOutOfBoundsException", hts _ wd94, hKS.2.2.2.2.2.2.2.2.2 ("java/lang/IllegalArgumentException", "java/lang/IndexOutOfBoundsException") (by decide +kernel)⟩, (fun _ h => nomatch h)⟩) rfl (by decide) (hts _ wd95) (va_Nw.use rfl (hKS.2.2.2.2.2.1 ("java/lang/IllegalArgumentException", "java/lang/IllegalArgumentException") (by decide +kernel))) hcell hcv hcl ?_
      refine lv_astore (lv' := [(6, .ref qx), (0, .ref (g.2.2 + 0)), (1, .int x1), (2, .int x2), (3, .int x3), (4, .int x4), (5, .ref (g.2.2 + 83))]) hx hb dL_combine_21 hl (Nat.le_of_ble_eq_true rfl) rfl (fun ls hl => ?_)
      refine lv_iconst (v := 2) hx hb dL_combine_23 (by decide) ?_
      exact aw_iretz C0 hW (Nat.le_of_ble_eq_true rfl) (Nat.le_of_ble_eq_true rfl) (by rw [← hz, xp_X8_combine hq]) dL_combine_24
    have hf := iff_ he1 hf
    by_cases he2 : e9 = 2
    · have hf := ift he2 hf
      have hz := Option.some.inj hf
      rw [he2] at hcl
      refine vx_catch (E := "java/lang/IllegalStateException") (name := "java/lang/IllegalStateException") hown [⟨0, 14, 17, 13⟩, ⟨0, 14, 21, 15⟩] ⟨0, 14, 25, 17⟩ [] (htb.trans rfl) (List.forall_mem_cons.mpr ⟨Or.inr ⟨by decide, "java/lang/IndexOutOfBoundsException", hts _ wd94, hKS.2.2.2.2.2.2.2.2.2 ("java/lang/IllegalStateException", "java/lang/IndexOutOfBoundsException") (by decide +kernel)⟩, (List.forall_mem_cons.mpr ⟨Or.inr ⟨by decide, "java/lang/IllegalArgumentException", hts _ wd95, hKS.2.2.2.2.2.2.2.2.2 ("java/lang/IllegalStateException", "java/lang/IllegalArgumentException") (by decide +kernel)⟩, (fun _ h => nomatch h)⟩)⟩) rfl (by decide) (hts _ wd96) (va_Nw.use rfl (hKS.2.2.2.2.2.1 ("java/lang/IllegalStateException", "java/lang/IllegalStateException") (by decide +kernel))) hcell hcv hcl ?_
      refine lv_astore (lv' := [(6, .ref qx), (0, .ref (g.2.2 + 0)), (1, .int x1), (2, .int x2), (3, .int x3), (4, .int x4), (5, .ref (g.2.2 + 83))]) hx hb dL_combine_25 hl (Nat.le_of_ble_eq_true rfl) rfl (fun ls hl => ?_)
      refine lv_iconst (v := 3) hx hb dL_combine_27 (by decide) ?_
      exact aw_iretz C0 hW (Nat.le_of_ble_eq_true rfl) (Nat.le_of_ble_eq_true rfl) (by rw [← hz, xp_X8_combine hq]) dL_combine_28
    have hf := iff_ he2 hf
    cases hf
def f_L_compare (x1 : Int32) (x2 : Int32) (x3 : Int32) (x4 : Int32) (P : Pool) (R : Rem) (I : Mem) (Z : Zed) (nx : Nat) : Option (Int32 × Mem × Rem × Pool × Zed) :=
  (f_X8_compare x1 x2 x3 x4 P R I).bind fun q => sm q.1 (fun v => some (0, q.2, R, P, (vp_updL Z.1 0 v.toInt64, Z.2))) fun e => if e = 0 then some (1, q.2, R, P, Z) else if e = 1 then some (2, q.2, R, P, Z) else none
abbrev rmL_compare : Room := { frames := 8, cells := 3, slots := 71, locals := 139 }
set_option maxHeartbeats 4000000 in
set_option maxRecDepth 100000 in
theorem c_L_compare {l : Launch} (hfl : l.stackTraces = false) {g : Gam} {I : Mem} {R : Rem} {P : Pool} {Z : Zed} {nx : Nat} (x1 : Int32) (x2 : Int32) (x3 : Int32) (x4 : Int32) {z : Int32 × Mem × Rem × Pool × Zed} (hf : f_L_compare x1 x2 x3 x4 P R I Z nx = some z) : Met l yL_compare (Cond.codeWith yL_compare cL_compare 7 (some .int) [(0, 14, 17, 13), (0, 14, 21, 15)] :: GT) rmL_compare (va_Pc [.ref (g.2.2 + 0), .int x1, .int x2, .int x3, .int x4, .ref (g.2.2 + 83)] (PWn g I R P Z nx)) (QI g z.1 z.2.1 z.2.2.1 z.2.2.2.1 z.2.2.2.2) 3 71 (AA g) := by
  refine aw_ofWH (lv0 := [(0, .ref (g.2.2 + 0)), (1, .int x1), (2, .int x2), (3, .int x3), (4, .int x4), (5, .ref (g.2.2 + 83))]) (by decide) (Nat.le_of_ble_eq_true rfl) rfl (fun p0 e s m args below meth c ls C0 htb hs0 hl hW => ?_)
  have C0 : CX g p0 s m args meth c RL cL_compare 7 (some .int) := C0
  have hx := C0.1; have hb := C0.2.1; have hown := C0.2.2.2.2.1; have hts := C0.2.2.2.2.2.1; have hKS := C0.2.2.2.2.2.2.1
  unfold f_L_compare at hf
  obtain ⟨q, hq, hf⟩ := bnd hf
  refine lv_aload hx hb dL_compare_0 (lv_at hl 5 rfl) ?_
  refine lv_iconst (v := 0) hx hb dL_compare_2 (by decide) ?_
  refine lv_aload_n hx hb dL_compare_3 rfl (lv_at hl 0 rfl) ?_
  refine lv_iload_n hx hb dL_compare_4 rfl (lv_at hl 1 rfl) ?_
  refine lv_iload_n hx hb dL_compare_5 rfl (lv_at hl 2 rfl) ?_
  refine lv_iload_n hx hb dL_compare_6 rfl (lv_at hl 3 rfl) ?_
  refine lv_iload hx hb dL_compare_7 (lv_at hl 4 rfl) ?_
  rcases hsv : q.1 with v | e9
  · rw [hsv] at hf
    have hf := sm_le hf
    have hz := Option.some.inj hf
    have hq := hq.trans (congrArg some (show q = ((.inl v, q.2) : (Int32 ⊕ Nat) × Mem) by rw [← hsv]))
    refine aw_cVi (rest := [.int 0, .ref (g.2.2 + 83)]) C0 hW (lv_fix (by decide)) (cel_7 kd0) rfl (c_X8_compare x1 x2 x3 x4 hq) (cw_L_78 hts ⟨Nat.le_of_ble_eq_true rfl, Nat.le_of_ble_eq_true rfl⟩) rfl hl.1 rfl (Nat.le_of_ble_eq_true rfl) ⟨Nat.zero_le _, Nat.zero_le _⟩ dL_compare_9 (fun H locs hW => ?_)
    refine lv_i2l (v := v.toInt64) hx hb dL_compare_12 rfl ?_
    refine aw_last C0 hW dL_compare_13 (fun H locs hW => ?_)
    refine lv_goto (tgt := 25) hx hb dL_compare_14 rfl ?_
    refine lv_iconst (v := 0) hx hb dL_compare_25 (by decide) ?_
    exact aw_iretz C0 hW (Nat.le_of_ble_eq_true rfl) (Nat.le_of_ble_eq_true rfl) hz dL_compare_26
  · rw [hsv] at hf
    have hf := sm_re hf
    have hq := hq.trans (congrArg some (show q = ((.inr e9, q.2) : (Int32 ⊕ Nat) × Mem) by rw [← hsv]))
    refine aw_xCt (rest := [.int 0, .ref (g.2.2 + 83)]) C0 hW (lv_fix (by decide)) (cel_7 kd0) rfl (x_X8_compare hfl x1 x2 x3 x4 hq) (cwx_L_78 hts ⟨Nat.le_of_ble_eq_true rfl, Nat.le_of_ble_eq_true rfl⟩) rfl hl.1 rfl (Nat.le_of_ble_eq_true rfl) ⟨Nat.le_of_ble_eq_true rfl, Nat.le_of_ble_eq_true rfl⟩ dL_compare_9 (fun H locs qx cex hW hcell hcv hcl => ?_)
    by_cases he0 : e9 = 0
    · have hf := ift he0 hf
      have hz := Option.some.inj hf
      rw [he0] at hcl
      refine vx_catch (E := "java/lang/IndexOutOfBoundsException") (name := "java/lang/IndexOutOfBoundsException") hown [] ⟨0, 14, 17, 13⟩ [⟨0, 14, 21, 15⟩] (htb.trans rfl) (fun _ h => nomatch h) rfl (by decide) (hts _ wd94) (va_Nw.use rfl (hKS.2.2.2.2.2.1 ("java/lang/IndexOutOfBoundsException", "java/lang/IndexOutOfBoundsException") (by decide +kernel))) hcell hcv hcl ?_
      refine lv_astore (lv' := [(6, .ref qx), (0, .ref (g.2.2 + 0)), (1, .int x1), (2, .int x2), (3, .int x3), (4, .int x4), (5, .ref (g.2.2 + 83))]) hx hb dL_compare_17 hl (Nat.le_of_ble_eq_true rfl) rfl (fun ls hl => ?_)
      refine lv_iconst (v := 1) hx hb dL_compare_19 (by decide) ?_
      exact aw_iretz C0 hW (Nat.le_of_ble_eq_true rfl) (Nat.le_of_ble_eq_true rfl) hz dL_compare_20
    have hf := iff_ he0 hf
    by_cases he1 : e9 = 1
    · have hf := ift he1 hf
      have hz := Option.some.inj hf
      rw [he1] at hcl
      refine vx_catch (E := "java/lang/IllegalArgumentException") (name := "java/lang/IllegalArgumentException") hown [⟨0, 14, 17, 13⟩] ⟨0, 14, 21, 15⟩ [] (htb.trans rfl) (List.forall_mem_cons.mpr ⟨Or.inr ⟨by decide, "java/lang/IndexOutOfBoundsException", hts _ wd94, hKS.2.2.2.2.2.2.2.2.2 ("java/lang/IllegalArgumentException", "java/lang/IndexOutOfBoundsException") (by decide +kernel)⟩, (fun _ h => nomatch h)⟩) rfl (by decide) (hts _ wd95) (va_Nw.use rfl (hKS.2.2.2.2.2.1 ("java/lang/IllegalArgumentException", "java/lang/IllegalArgumentException") (by decide +kernel))) hcell hcv hcl ?_
      refine lv_astore (lv' := [(6, .ref qx), (0, .ref (g.2.2 + 0)), (1, .int x1), (2, .int x2), (3, .int x3), (4, .int x4), (5, .ref (g.2.2 + 83))]) hx hb dL_compare_21 hl (Nat.le_of_ble_eq_true rfl) rfl (fun ls hl => ?_)
      refine lv_iconst (v := 2) hx hb dL_compare_23 (by decide) ?_
      exact aw_iretz C0 hW (Nat.le_of_ble_eq_true rfl) (Nat.le_of_ble_eq_true rfl) hz dL_compare_24
    have hf := iff_ he1 hf
    cases hf
def f_L_count (x1 : Int32) (P : Pool) (R : Rem) (I : Mem) (Z : Zed) (nx : Nat) : Option (Int32 × Mem × Rem × Pool × Zed) :=
  (f_X8_count x1 P R I).bind fun q => sm q.1 (fun v => some (0, q.2, R, P, (vp_updL Z.1 0 v.toInt64, Z.2))) fun e => if e = 1 then some (1, q.2, R, P, Z) else none
abbrev rmL_count : Room := { frames := 8, cells := 3, slots := 71, locals := 165 }
set_option maxHeartbeats 4000000 in
set_option maxRecDepth 100000 in
theorem c_L_count {l : Launch} (hfl : l.stackTraces = false) {g : Gam} {I : Mem} {R : Rem} {P : Pool} {Z : Zed} {nx : Nat} (x1 : Int32) {z : Int32 × Mem × Rem × Pool × Zed} (hf : f_L_count x1 P R I Z nx = some z) : Met l yL_count (Cond.codeWith yL_count cL_count 4 (some .int) [(0, 9, 12, 15)] :: GT) rmL_count (va_Pc [.ref (g.2.2 + 0), .int x1, .ref (g.2.2 + 83)] (PWn g I R P Z nx)) (QI g z.1 z.2.1 z.2.2.1 z.2.2.2.1 z.2.2.2.2) 3 71 (AA g) := by
  refine aw_ofWH (lv0 := [(0, .ref (g.2.2 + 0)), (1, .int x1), (2, .ref (g.2.2 + 83))]) (by decide) (Nat.le_of_ble_eq_true rfl) rfl (fun p0 e s m args below meth c ls C0 htb hs0 hl hW => ?_)
  have C0 : CX g p0 s m args meth c RL cL_count 4 (some .int) := C0
  have hx := C0.1; have hb := C0.2.1; have hown := C0.2.2.2.2.1; have hts := C0.2.2.2.2.2.1; have hKS := C0.2.2.2.2.2.2.1
  unfold f_L_count at hf
  obtain ⟨q, hq, hf⟩ := bnd hf
  refine lv_aload_n hx hb dL_count_0 rfl (lv_at hl 2 rfl) ?_
  refine lv_iconst (v := 0) hx hb dL_count_1 (by decide) ?_
  refine lv_aload_n hx hb dL_count_2 rfl (lv_at hl 0 rfl) ?_
  refine lv_iload_n hx hb dL_count_3 rfl (lv_at hl 1 rfl) ?_
  rcases hsv : q.1 with v | e9
  · rw [hsv] at hf
    have hf := sm_le hf
    have hz := Option.some.inj hf
    have hq := hq.trans (congrArg some (show q = ((.inl v, q.2) : (Int32 ⊕ Nat) × Mem) by rw [← hsv]))
    refine aw_cVi (rest := [.int 0, .ref (g.2.2 + 83)]) C0 hW (lv_fix (by decide)) (cel_7 kd0) rfl (c_X8_count x1 hq) (cw_L_90 hts ⟨Nat.le_of_ble_eq_true rfl, Nat.le_of_ble_eq_true rfl⟩) rfl hl.1 rfl (Nat.le_of_ble_eq_true rfl) ⟨Nat.zero_le _, Nat.zero_le _⟩ dL_count_4 (fun H locs hW => ?_)
    refine lv_i2l (v := v.toInt64) hx hb dL_count_7 rfl ?_
    refine aw_last C0 hW dL_count_8 (fun H locs hW => ?_)
    refine lv_goto (tgt := 15) hx hb dL_count_9 rfl ?_
    refine lv_iconst (v := 0) hx hb dL_count_15 (by decide) ?_
    exact aw_iretz C0 hW (Nat.le_of_ble_eq_true rfl) (Nat.le_of_ble_eq_true rfl) hz dL_count_16
  · rw [hsv] at hf
    have hf := sm_re hf
    have hq := hq.trans (congrArg some (show q = ((.inr e9, q.2) : (Int32 ⊕ Nat) × Mem) by rw [← hsv]))
    refine aw_xCt (rest := [.int 0, .ref (g.2.2 + 83)]) C0 hW (lv_fix (by decide)) (cel_7 kd0) rfl (x_X8_count hfl x1 hq) (cwx_L_90 hts ⟨Nat.le_of_ble_eq_true rfl, Nat.le_of_ble_eq_true rfl⟩) rfl hl.1 rfl (Nat.le_of_ble_eq_true rfl) ⟨Nat.le_of_ble_eq_true rfl, Nat.le_of_ble_eq_true rfl⟩ dL_count_4 (fun H locs qx cex hW hcell hcv hcl => ?_)
    by_cases he0 : e9 = 1
    · have hf := ift he0 hf
      have hz := Option.some.inj hf
      rw [he0] at hcl
      refine vx_catch (E := "java/lang/IllegalArgumentException") (name := "java/lang/IllegalArgumentException") hown [] ⟨0, 9, 12, 15⟩ [] (htb.trans rfl) (fun _ h => nomatch h) rfl (by decide) (hts _ wd95) (va_Nw.use rfl (hKS.2.2.2.2.2.1 ("java/lang/IllegalArgumentException", "java/lang/IllegalArgumentException") (by decide +kernel))) hcell hcv hcl ?_
      refine lv_astore_n (lv' := [(3, .ref qx), (0, .ref (g.2.2 + 0)), (1, .int x1), (2, .ref (g.2.2 + 83))]) hx hb dL_count_12 rfl hl (Nat.le_of_ble_eq_true rfl) rfl (fun ls hl => ?_)
      refine lv_iconst (v := 1) hx hb dL_count_13 (by decide) ?_
      exact aw_iretz C0 hW (Nat.le_of_ble_eq_true rfl) (Nat.le_of_ble_eq_true rfl) hz dL_count_14
    have hf := iff_ he0 hf
    cases hf
def f_L_define (x1 : Int32) (P : Pool) (R : Rem) (I : Mem) (Z : Zed) (nx : Nat) : Option (Int32 × Mem × Rem × Pool × Zed) :=
  (f_X8_define x1 P R I nx).bind fun q => sm q.1 (fun v => some (0, q.2.1, q.2.2.1, q.2.2.2, (vp_updL Z.1 0 v.toInt64, Z.2))) fun e => if e = 0 then some (1, q.2.1, q.2.2.1, q.2.2.2, Z) else if e = 1 then some (2, q.2.1, q.2.2.1, q.2.2.2, Z) else none
abbrev rmL_define : Room := { frames := 8, cells := 3, slots := 71, locals := 153 }
set_option maxHeartbeats 4000000 in
set_option maxRecDepth 100000 in
theorem c_L_define {l : Launch} (hfl : l.stackTraces = false) {g : Gam} {I : Mem} {R : Rem} {P : Pool} {Z : Zed} {nx : Nat} (x1 : Int32) {z : Int32 × Mem × Rem × Pool × Zed} (hf : f_L_define x1 P R I Z nx = some z) : Met l yL_define (Cond.codeWith yL_define cL_define 4 (some .int) [(0, 9, 12, 13), (0, 9, 15, 15)] :: GT) rmL_define (va_Pc [.ref (g.2.2 + 0), .int x1, .ref (g.2.2 + 83)] (PWn g I R P Z nx)) (QI g z.1 z.2.1 z.2.2.1 z.2.2.2.1 z.2.2.2.2) 3 71 (AA g) := by
  refine aw_ofWH (lv0 := [(0, .ref (g.2.2 + 0)), (1, .int x1), (2, .ref (g.2.2 + 83))]) (by decide) (Nat.le_of_ble_eq_true rfl) rfl (fun p0 e s m args below meth c ls C0 htb hs0 hl hW => ?_)
  have C0 : CX g p0 s m args meth c RL cL_define 4 (some .int) := C0
  have hx := C0.1; have hb := C0.2.1; have hown := C0.2.2.2.2.1; have hts := C0.2.2.2.2.2.1; have hKS := C0.2.2.2.2.2.2.1
  unfold f_L_define at hf
  obtain ⟨q, hq, hf⟩ := bnd hf
  refine lv_aload_n hx hb dL_define_0 rfl (lv_at hl 2 rfl) ?_
  refine lv_iconst (v := 0) hx hb dL_define_1 (by decide) ?_
  refine lv_aload_n hx hb dL_define_2 rfl (lv_at hl 0 rfl) ?_
  refine lv_iload_n hx hb dL_define_3 rfl (lv_at hl 1 rfl) ?_
  rcases hsv : q.1 with v | e9
  · rw [hsv] at hf
    have hf := sm_le hf
    have hz := Option.some.inj hf
    have hq := hq.trans (congrArg some (show q = ((.inl v, q.2.1, q.2.2.1, q.2.2.2) : (Int32 ⊕ Nat) × Mem × Rem × Pool) by rw [← hsv]))
    have hsz : s.heap.size = g.2.2 + nx := hs0
    refine aw_nVi (rest := [.int 0, .ref (g.2.2 + 83)]) C0 hW hsz (lv_fix (by decide)) (cel_7 kd0) rfl (c_X8_define x1 hq) (cw_L_27 hts ⟨Nat.le_of_ble_eq_true rfl, Nat.le_of_ble_eq_true rfl⟩) rfl hl.1 rfl (Nat.le_of_ble_eq_true rfl) ⟨Nat.le_of_ble_eq_true rfl, Nat.le_of_ble_eq_true rfl⟩ dL_define_4 (fun H locs hW => ?_)
    refine lv_i2l (v := v.toInt64) hx hb dL_define_7 rfl ?_
    refine aw_last C0 hW dL_define_8 (fun H locs hW => ?_)
    refine lv_goto (tgt := 18) hx hb dL_define_9 rfl ?_
    refine lv_iconst (v := 0) hx hb dL_define_18 (by decide) ?_
    exact aw_iretz C0 hW (Nat.le_of_ble_eq_true rfl) (Nat.le_of_ble_eq_true rfl) hz dL_define_19
  · rw [hsv] at hf
    have hf := sm_re hf
    have hq := hq.trans (congrArg some (show q = ((.inr e9, q.2.1, q.2.2.1, q.2.2.2) : (Int32 ⊕ Nat) × Mem × Rem × Pool) by rw [← hsv]))
    refine aw_xCt (rest := [.int 0, .ref (g.2.2 + 83)]) C0 hW (lv_fix (by decide)) (cel_7 kd0) rfl (x_X8_define hfl x1 hq) (cwx_L_27 hts ⟨Nat.le_of_ble_eq_true rfl, Nat.le_of_ble_eq_true rfl⟩) rfl hl.1 rfl (Nat.le_of_ble_eq_true rfl) ⟨Nat.le_of_ble_eq_true rfl, Nat.le_of_ble_eq_true rfl⟩ dL_define_4 (fun H locs qx cex hW hcell hcv hcl => ?_)
    by_cases he0 : e9 = 0
    · have hf := ift he0 hf
      have hz := Option.some.inj hf
      rw [he0] at hcl
      refine vx_catch (E := "java/lang/IndexOutOfBoundsException") (name := "java/lang/IndexOutOfBoundsException") hown [] ⟨0, 9, 12, 13⟩ [⟨0, 9, 15, 15⟩] (htb.trans rfl) (fun _ h => nomatch h) rfl (by decide) (hts _ wd94) (va_Nw.use rfl (hKS.2.2.2.2.2.1 ("java/lang/IndexOutOfBoundsException", "java/lang/IndexOutOfBoundsException") (by decide +kernel))) hcell hcv hcl ?_
      refine lv_astore_n (lv' := [(3, .ref qx), (0, .ref (g.2.2 + 0)), (1, .int x1), (2, .ref (g.2.2 + 83))]) hx hb dL_define_12 rfl hl (Nat.le_of_ble_eq_true rfl) rfl (fun ls hl => ?_)
      refine lv_iconst (v := 1) hx hb dL_define_13 (by decide) ?_
      exact aw_iretz C0 hW (Nat.le_of_ble_eq_true rfl) (Nat.le_of_ble_eq_true rfl) (by rw [← hz, xp_X8_define hq]) dL_define_14
    have hf := iff_ he0 hf
    by_cases he1 : e9 = 1
    · have hf := ift he1 hf
      have hz := Option.some.inj hf
      rw [he1] at hcl
      refine vx_catch (E := "java/lang/IllegalArgumentException") (name := "java/lang/IllegalArgumentException") hown [⟨0, 9, 12, 13⟩] ⟨0, 9, 15, 15⟩ [] (htb.trans rfl) (List.forall_mem_cons.mpr ⟨Or.inr ⟨by decide, "java/lang/IndexOutOfBoundsException", hts _ wd94, hKS.2.2.2.2.2.2.2.2.2 ("java/lang/IllegalArgumentException", "java/lang/IndexOutOfBoundsException") (by decide +kernel)⟩, (fun _ h => nomatch h)⟩) rfl (by decide) (hts _ wd95) (va_Nw.use rfl (hKS.2.2.2.2.2.1 ("java/lang/IllegalArgumentException", "java/lang/IllegalArgumentException") (by decide +kernel))) hcell hcv hcl ?_
      refine lv_astore_n (lv' := [(3, .ref qx), (0, .ref (g.2.2 + 0)), (1, .int x1), (2, .ref (g.2.2 + 83))]) hx hb dL_define_15 rfl hl (Nat.le_of_ble_eq_true rfl) rfl (fun ls hl => ?_)
      refine lv_iconst (v := 2) hx hb dL_define_16 (by decide) ?_
      exact aw_iretz C0 hW (Nat.le_of_ble_eq_true rfl) (Nat.le_of_ble_eq_true rfl) (by rw [← hz, xp_X8_define hq]) dL_define_17
    have hf := iff_ he1 hf
    cases hf
def f_L_drop (x1 : Int32) (x2 : Int32) (P : Pool) (R : Rem) (I : Mem) (Z : Zed) (nx : Nat) : Option (Int32 × Mem × Rem × Pool × Zed) :=
  (f_X8_drop x1 x2 P R I).bind fun q => sm q.1 (fun v => some (0, q.2.1, q.2.2, P, (vp_updL Z.1 0 v.toInt64, Z.2))) fun e => if e = 0 then some (1, q.2.1, q.2.2, P, Z) else none
abbrev rmL_drop : Room := { frames := 9, cells := 3, slots := 71, locals := 154 }
set_option maxHeartbeats 4000000 in
set_option maxRecDepth 100000 in
theorem c_L_drop {l : Launch} (hfl : l.stackTraces = false) {g : Gam} {I : Mem} {R : Rem} {P : Pool} {Z : Zed} {nx : Nat} (x1 : Int32) (x2 : Int32) {z : Int32 × Mem × Rem × Pool × Zed} (hf : f_L_drop x1 x2 P R I Z nx = some z) : Met l yL_drop (Cond.codeWith yL_drop cL_drop 5 (some .int) [(0, 10, 13, 13)] :: GT) rmL_drop (va_Pc [.ref (g.2.2 + 0), .int x1, .int x2, .ref (g.2.2 + 83)] (PWn g I R P Z nx)) (QI g z.1 z.2.1 z.2.2.1 z.2.2.2.1 z.2.2.2.2) 3 71 (AA g) := by
  refine aw_ofWH (lv0 := [(0, .ref (g.2.2 + 0)), (1, .int x1), (2, .int x2), (3, .ref (g.2.2 + 83))]) (by decide) (Nat.le_of_ble_eq_true rfl) rfl (fun p0 e s m args below meth c ls C0 htb hs0 hl hW => ?_)
  have C0 : CX g p0 s m args meth c RL cL_drop 5 (some .int) := C0
  have hx := C0.1; have hb := C0.2.1; have hown := C0.2.2.2.2.1; have hts := C0.2.2.2.2.2.1; have hKS := C0.2.2.2.2.2.2.1
  unfold f_L_drop at hf
  obtain ⟨q, hq, hf⟩ := bnd hf
  refine lv_aload_n hx hb dL_drop_0 rfl (lv_at hl 3 rfl) ?_
  refine lv_iconst (v := 0) hx hb dL_drop_1 (by decide) ?_
  refine lv_aload_n hx hb dL_drop_2 rfl (lv_at hl 0 rfl) ?_
  refine lv_iload_n hx hb dL_drop_3 rfl (lv_at hl 1 rfl) ?_
  refine lv_iload_n hx hb dL_drop_4 rfl (lv_at hl 2 rfl) ?_
  rcases hsv : q.1 with v | e9
  · rw [hsv] at hf
    have hf := sm_le hf
    have hz := Option.some.inj hf
    have hq := hq.trans (congrArg some (show q = ((.inl v, q.2.1, q.2.2) : (Int32 ⊕ Nat) × Mem × Rem) by rw [← hsv]))
    refine aw_cVi (rest := [.int 0, .ref (g.2.2 + 83)]) C0 hW (lv_fix (by decide)) (cel_7 kd0) rfl (c_X8_drop x1 x2 hq) (cw_L_23 hts ⟨Nat.le_of_ble_eq_true rfl, Nat.le_of_ble_eq_true rfl⟩) rfl hl.1 rfl (Nat.le_of_ble_eq_true rfl) ⟨Nat.zero_le _, Nat.zero_le _⟩ dL_drop_5 (fun H locs hW => ?_)
    refine lv_i2l (v := v.toInt64) hx hb dL_drop_8 rfl ?_
    refine aw_last C0 hW dL_drop_9 (fun H locs hW => ?_)
    refine lv_goto (tgt := 17) hx hb dL_drop_10 rfl ?_
    refine lv_iconst (v := 0) hx hb dL_drop_17 (by decide) ?_
    exact aw_iretz C0 hW (Nat.le_of_ble_eq_true rfl) (Nat.le_of_ble_eq_true rfl) hz dL_drop_18
  · rw [hsv] at hf
    have hf := sm_re hf
    have hq := hq.trans (congrArg some (show q = ((.inr e9, q.2.1, q.2.2) : (Int32 ⊕ Nat) × Mem × Rem) by rw [← hsv]))
    refine aw_xCt (rest := [.int 0, .ref (g.2.2 + 83)]) C0 hW (lv_fix (by decide)) (cel_7 kd0) rfl (x_X8_drop hfl x1 x2 hq) (cwx_L_23 hts ⟨Nat.le_of_ble_eq_true rfl, Nat.le_of_ble_eq_true rfl⟩) rfl hl.1 rfl (Nat.le_of_ble_eq_true rfl) ⟨Nat.le_of_ble_eq_true rfl, Nat.le_of_ble_eq_true rfl⟩ dL_drop_5 (fun H locs qx cex hW hcell hcv hcl => ?_)
    by_cases he0 : e9 = 0
    · have hf := ift he0 hf
      have hz := Option.some.inj hf
      rw [he0] at hcl
      refine vx_catch (E := "java/lang/IndexOutOfBoundsException") (name := "java/lang/IndexOutOfBoundsException") hown [] ⟨0, 10, 13, 13⟩ [] (htb.trans rfl) (fun _ h => nomatch h) rfl (by decide) (hts _ wd94) (va_Nw.use rfl (hKS.2.2.2.2.2.1 ("java/lang/IndexOutOfBoundsException", "java/lang/IndexOutOfBoundsException") (by decide +kernel))) hcell hcv hcl ?_
      refine lv_astore (lv' := [(4, .ref qx), (0, .ref (g.2.2 + 0)), (1, .int x1), (2, .int x2), (3, .ref (g.2.2 + 83))]) hx hb dL_drop_13 hl (Nat.le_of_ble_eq_true rfl) rfl (fun ls hl => ?_)
      refine lv_iconst (v := 1) hx hb dL_drop_15 (by decide) ?_
      exact aw_iretz C0 hW (Nat.le_of_ble_eq_true rfl) (Nat.le_of_ble_eq_true rfl) hz dL_drop_16
    have hf := iff_ he0 hf
    cases hf
def f_L_filter (x1 : Int32) (x2 : Int32) (P : Pool) (R : Rem) (I : Mem) (Z : Zed) (nx : Nat) : Option (Int32 × Mem × Rem × Pool × Zed) :=
  (f_X8_filter x1 x2 P R I).bind fun q => sm q.1 (fun v => some (0, q.2, R, P, (vp_updL Z.1 0 v.toInt64, Z.2))) fun e => if e = 0 then some (1, q.2, R, P, Z) else if e = 1 then some (2, q.2, R, P, Z) else none
abbrev rmL_filter : Room := { frames := 8, cells := 3, slots := 71, locals := 134 }
set_option maxHeartbeats 4000000 in
set_option maxRecDepth 100000 in
theorem c_L_filter {l : Launch} (hfl : l.stackTraces = false) {g : Gam} {I : Mem} {R : Rem} {P : Pool} {Z : Zed} {nx : Nat} (x1 : Int32) (x2 : Int32) {z : Int32 × Mem × Rem × Pool × Zed} (hf : f_L_filter x1 x2 P R I Z nx = some z) : Met l yL_filter (Cond.codeWith yL_filter cL_filter 5 (some .int) [(0, 10, 13, 13), (0, 10, 17, 15)] :: GT) rmL_filter (va_Pc [.ref (g.2.2 + 0), .int x1, .int x2, .ref (g.2.2 + 83)] (PWn g I R P Z nx)) (QI g z.1 z.2.1 z.2.2.1 z.2.2.2.1 z.2.2.2.2) 3 71 (AA g) := by
  refine aw_ofWH (lv0 := [(0, .ref (g.2.2 + 0)), (1, .int x1), (2, .int x2), (3, .ref (g.2.2 + 83))]) (by decide) (Nat.le_of_ble_eq_true rfl) rfl (fun p0 e s m args below meth c ls C0 htb hs0 hl hW => ?_)
  have C0 : CX g p0 s m args meth c RL cL_filter 5 (some .int) := C0
  have hx := C0.1; have hb := C0.2.1; have hown := C0.2.2.2.2.1; have hts := C0.2.2.2.2.2.1; have hKS := C0.2.2.2.2.2.2.1
  unfold f_L_filter at hf
  obtain ⟨q, hq, hf⟩ := bnd hf
  refine lv_aload_n hx hb dL_filter_0 rfl (lv_at hl 3 rfl) ?_
  refine lv_iconst (v := 0) hx hb dL_filter_1 (by decide) ?_
  refine lv_aload_n hx hb dL_filter_2 rfl (lv_at hl 0 rfl) ?_
  refine lv_iload_n hx hb dL_filter_3 rfl (lv_at hl 1 rfl) ?_
  refine lv_iload_n hx hb dL_filter_4 rfl (lv_at hl 2 rfl) ?_
  rcases hsv : q.1 with v | e9
  · rw [hsv] at hf
    have hf := sm_le hf
    have hz := Option.some.inj hf
    have hq := hq.trans (congrArg some (show q = ((.inl v, q.2) : (Int32 ⊕ Nat) × Mem) by rw [← hsv]))
    refine aw_cVi (rest := [.int 0, .ref (g.2.2 + 83)]) C0 hW (lv_fix (by decide)) (cel_7 kd0) rfl (c_X8_filter x1 x2 hq) (cw_L_72 hts ⟨Nat.le_of_ble_eq_true rfl, Nat.le_of_ble_eq_true rfl⟩) rfl hl.1 rfl (Nat.le_of_ble_eq_true rfl) ⟨Nat.zero_le _, Nat.zero_le _⟩ dL_filter_5 (fun H locs hW => ?_)
    refine lv_i2l (v := v.toInt64) hx hb dL_filter_8 rfl ?_
    refine aw_last C0 hW dL_filter_9 (fun H locs hW => ?_)
    refine lv_goto (tgt := 21) hx hb dL_filter_10 rfl ?_
    refine lv_iconst (v := 0) hx hb dL_filter_21 (by decide) ?_
    exact aw_iretz C0 hW (Nat.le_of_ble_eq_true rfl) (Nat.le_of_ble_eq_true rfl) hz dL_filter_22
  · rw [hsv] at hf
    have hf := sm_re hf
    have hq := hq.trans (congrArg some (show q = ((.inr e9, q.2) : (Int32 ⊕ Nat) × Mem) by rw [← hsv]))
    refine aw_xCt (rest := [.int 0, .ref (g.2.2 + 83)]) C0 hW (lv_fix (by decide)) (cel_7 kd0) rfl (x_X8_filter hfl x1 x2 hq) (cwx_L_72 hts ⟨Nat.le_of_ble_eq_true rfl, Nat.le_of_ble_eq_true rfl⟩) rfl hl.1 rfl (Nat.le_of_ble_eq_true rfl) ⟨Nat.le_of_ble_eq_true rfl, Nat.le_of_ble_eq_true rfl⟩ dL_filter_5 (fun H locs qx cex hW hcell hcv hcl => ?_)
    by_cases he0 : e9 = 0
    · have hf := ift he0 hf
      have hz := Option.some.inj hf
      rw [he0] at hcl
      refine vx_catch (E := "java/lang/IndexOutOfBoundsException") (name := "java/lang/IndexOutOfBoundsException") hown [] ⟨0, 10, 13, 13⟩ [⟨0, 10, 17, 15⟩] (htb.trans rfl) (fun _ h => nomatch h) rfl (by decide) (hts _ wd94) (va_Nw.use rfl (hKS.2.2.2.2.2.1 ("java/lang/IndexOutOfBoundsException", "java/lang/IndexOutOfBoundsException") (by decide +kernel))) hcell hcv hcl ?_
      refine lv_astore (lv' := [(4, .ref qx), (0, .ref (g.2.2 + 0)), (1, .int x1), (2, .int x2), (3, .ref (g.2.2 + 83))]) hx hb dL_filter_13 hl (Nat.le_of_ble_eq_true rfl) rfl (fun ls hl => ?_)
      refine lv_iconst (v := 1) hx hb dL_filter_15 (by decide) ?_
      exact aw_iretz C0 hW (Nat.le_of_ble_eq_true rfl) (Nat.le_of_ble_eq_true rfl) hz dL_filter_16
    have hf := iff_ he0 hf
    by_cases he1 : e9 = 1
    · have hf := ift he1 hf
      have hz := Option.some.inj hf
      rw [he1] at hcl
      refine vx_catch (E := "java/lang/IllegalArgumentException") (name := "java/lang/IllegalArgumentException") hown [⟨0, 10, 13, 13⟩] ⟨0, 10, 17, 15⟩ [] (htb.trans rfl) (List.forall_mem_cons.mpr ⟨Or.inr ⟨by decide, "java/lang/IndexOutOfBoundsException", hts _ wd94, hKS.2.2.2.2.2.2.2.2.2 ("java/lang/IllegalArgumentException", "java/lang/IndexOutOfBoundsException") (by decide +kernel)⟩, (fun _ h => nomatch h)⟩) rfl (by decide) (hts _ wd95) (va_Nw.use rfl (hKS.2.2.2.2.2.1 ("java/lang/IllegalArgumentException", "java/lang/IllegalArgumentException") (by decide +kernel))) hcell hcv hcl ?_
      refine lv_astore (lv' := [(4, .ref qx), (0, .ref (g.2.2 + 0)), (1, .int x1), (2, .int x2), (3, .ref (g.2.2 + 83))]) hx hb dL_filter_17 hl (Nat.le_of_ble_eq_true rfl) rfl (fun ls hl => ?_)
      refine lv_iconst (v := 2) hx hb dL_filter_19 (by decide) ?_
      exact aw_iretz C0 hW (Nat.le_of_ble_eq_true rfl) (Nat.le_of_ble_eq_true rfl) hz dL_filter_20
    have hf := iff_ he1 hf
    cases hf
def f_L_goBack (x1 : Int32) (P : Pool) (R : Rem) (I : Mem) (Z : Zed) (nx : Nat) : Option (Int32 × Mem × Rem × Pool × Zed) :=
  (f_X8_goBack x1 P R I).bind fun q => sm q.1 (fun v => some (0, q.2.1, q.2.2, P, (vp_updL Z.1 0 v.toInt64, Z.2))) fun e => if e = 1 then some (1, q.2.1, q.2.2, P, Z) else if e = 2 then some (2, q.2.1, q.2.2, P, Z) else none
abbrev rmL_goBack : Room := { frames := 8, cells := 3, slots := 71, locals := 132 }
set_option maxHeartbeats 4000000 in
set_option maxRecDepth 100000 in
theorem c_L_goBack {l : Launch} (hfl : l.stackTraces = false) {g : Gam} {I : Mem} {R : Rem} {P : Pool} {Z : Zed} {nx : Nat} (x1 : Int32) {z : Int32 × Mem × Rem × Pool × Zed} (hf : f_L_goBack x1 P R I Z nx = some z) : Met l yL_goBack (Cond.codeWith yL_goBack cL_goBack 4 (some .int) [(0, 9, 12, 15), (0, 9, 15, 17)] :: GT) rmL_goBack (va_Pc [.ref (g.2.2 + 0), .int x1, .ref (g.2.2 + 83)] (PWn g I R P Z nx)) (QI g z.1 z.2.1 z.2.2.1 z.2.2.2.1 z.2.2.2.2) 3 71 (AA g) := by
  refine aw_ofWH (lv0 := [(0, .ref (g.2.2 + 0)), (1, .int x1), (2, .ref (g.2.2 + 83))]) (by decide) (Nat.le_of_ble_eq_true rfl) rfl (fun p0 e s m args below meth c ls C0 htb hs0 hl hW => ?_)
  have C0 : CX g p0 s m args meth c RL cL_goBack 4 (some .int) := C0
  have hx := C0.1; have hb := C0.2.1; have hown := C0.2.2.2.2.1; have hts := C0.2.2.2.2.2.1; have hKS := C0.2.2.2.2.2.2.1
  unfold f_L_goBack at hf
  obtain ⟨q, hq, hf⟩ := bnd hf
  refine lv_aload_n hx hb dL_goBack_0 rfl (lv_at hl 2 rfl) ?_
  refine lv_iconst (v := 0) hx hb dL_goBack_1 (by decide) ?_
  refine lv_aload_n hx hb dL_goBack_2 rfl (lv_at hl 0 rfl) ?_
  refine lv_iload_n hx hb dL_goBack_3 rfl (lv_at hl 1 rfl) ?_
  rcases hsv : q.1 with v | e9
  · rw [hsv] at hf
    have hf := sm_le hf
    have hz := Option.some.inj hf
    have hq := hq.trans (congrArg some (show q = ((.inl v, q.2.1, q.2.2) : (Int32 ⊕ Nat) × Mem × Rem) by rw [← hsv]))
    refine aw_cVi (rest := [.int 0, .ref (g.2.2 + 83)]) C0 hW (lv_fix (by decide)) (cel_7 kd0) rfl (c_X8_goBack x1 hq) (cw_L_53 hts ⟨Nat.le_of_ble_eq_true rfl, Nat.le_of_ble_eq_true rfl⟩) rfl hl.1 rfl (Nat.le_of_ble_eq_true rfl) ⟨Nat.zero_le _, Nat.zero_le _⟩ dL_goBack_4 (fun H locs hW => ?_)
    refine lv_i2l (v := v.toInt64) hx hb dL_goBack_7 rfl ?_
    refine aw_last C0 hW dL_goBack_8 (fun H locs hW => ?_)
    refine lv_goto (tgt := 18) hx hb dL_goBack_9 rfl ?_
    refine lv_iconst (v := 0) hx hb dL_goBack_18 (by decide) ?_
    exact aw_iretz C0 hW (Nat.le_of_ble_eq_true rfl) (Nat.le_of_ble_eq_true rfl) hz dL_goBack_19
  · rw [hsv] at hf
    have hf := sm_re hf
    have hq := hq.trans (congrArg some (show q = ((.inr e9, q.2.1, q.2.2) : (Int32 ⊕ Nat) × Mem × Rem) by rw [← hsv]))
    refine aw_xCt (rest := [.int 0, .ref (g.2.2 + 83)]) C0 hW (lv_fix (by decide)) (cel_7 kd0) rfl (x_X8_goBack hfl x1 hq) (cwx_L_53 hts ⟨Nat.le_of_ble_eq_true rfl, Nat.le_of_ble_eq_true rfl⟩) rfl hl.1 rfl (Nat.le_of_ble_eq_true rfl) ⟨Nat.le_of_ble_eq_true rfl, Nat.le_of_ble_eq_true rfl⟩ dL_goBack_4 (fun H locs qx cex hW hcell hcv hcl => ?_)
    by_cases he0 : e9 = 1
    · have hf := ift he0 hf
      have hz := Option.some.inj hf
      rw [he0] at hcl
      refine vx_catch (E := "java/lang/IllegalArgumentException") (name := "java/lang/IllegalArgumentException") hown [] ⟨0, 9, 12, 15⟩ [⟨0, 9, 15, 17⟩] (htb.trans rfl) (fun _ h => nomatch h) rfl (by decide) (hts _ wd95) (va_Nw.use rfl (hKS.2.2.2.2.2.1 ("java/lang/IllegalArgumentException", "java/lang/IllegalArgumentException") (by decide +kernel))) hcell hcv hcl ?_
      refine lv_astore_n (lv' := [(3, .ref qx), (0, .ref (g.2.2 + 0)), (1, .int x1), (2, .ref (g.2.2 + 83))]) hx hb dL_goBack_12 rfl hl (Nat.le_of_ble_eq_true rfl) rfl (fun ls hl => ?_)
      refine lv_iconst (v := 1) hx hb dL_goBack_13 (by decide) ?_
      exact aw_iretz C0 hW (Nat.le_of_ble_eq_true rfl) (Nat.le_of_ble_eq_true rfl) hz dL_goBack_14
    have hf := iff_ he0 hf
    by_cases he1 : e9 = 2
    · have hf := ift he1 hf
      have hz := Option.some.inj hf
      rw [he1] at hcl
      refine vx_catch (E := "java/lang/IllegalStateException") (name := "java/lang/IllegalStateException") hown [⟨0, 9, 12, 15⟩] ⟨0, 9, 15, 17⟩ [] (htb.trans rfl) (List.forall_mem_cons.mpr ⟨Or.inr ⟨by decide, "java/lang/IllegalArgumentException", hts _ wd95, hKS.2.2.2.2.2.2.2.2.2 ("java/lang/IllegalStateException", "java/lang/IllegalArgumentException") (by decide +kernel)⟩, (fun _ h => nomatch h)⟩) rfl (by decide) (hts _ wd96) (va_Nw.use rfl (hKS.2.2.2.2.2.1 ("java/lang/IllegalStateException", "java/lang/IllegalStateException") (by decide +kernel))) hcell hcv hcl ?_
      refine lv_astore_n (lv' := [(3, .ref qx), (0, .ref (g.2.2 + 0)), (1, .int x1), (2, .ref (g.2.2 + 83))]) hx hb dL_goBack_15 rfl hl (Nat.le_of_ble_eq_true rfl) rfl (fun ls hl => ?_)
      refine lv_iconst (v := 2) hx hb dL_goBack_16 (by decide) ?_
      exact aw_iretz C0 hW (Nat.le_of_ble_eq_true rfl) (Nat.le_of_ble_eq_true rfl) hz dL_goBack_17
    have hf := iff_ he1 hf
    cases hf
def f_L_group (x1 : Int32) (x2 : Int32) (x3 : Int32) (x4 : Int32) (P : Pool) (R : Rem) (I : Mem) (Z : Zed) (nx : Nat) : Option (Int32 × Mem × Rem × Pool × Zed) :=
  (f_X8_group x1 x2 x3 x4 I).bind fun q => sm q (fun v => some (0, I, R, P, (vp_updL Z.1 0 v.toInt64, Z.2))) fun e => if e = 0 then some (1, I, R, P, Z) else if e = 1 then some (2, I, R, P, Z) else none
abbrev rmL_group : Room := { frames := 8, cells := 3, slots := 71, locals := 138 }
set_option maxHeartbeats 4000000 in
set_option maxRecDepth 100000 in
theorem c_L_group {l : Launch} (hfl : l.stackTraces = false) {g : Gam} {I : Mem} {R : Rem} {P : Pool} {Z : Zed} {nx : Nat} (x1 : Int32) (x2 : Int32) (x3 : Int32) (x4 : Int32) {z : Int32 × Mem × Rem × Pool × Zed} (hf : f_L_group x1 x2 x3 x4 P R I Z nx = some z) : Met l yL_group (Cond.codeWith yL_group cL_group 7 (some .int) [(0, 14, 17, 13), (0, 14, 21, 15)] :: GT) rmL_group (va_Pc [.ref (g.2.2 + 0), .int x1, .int x2, .int x3, .int x4, .ref (g.2.2 + 83)] (PWn g I R P Z nx)) (QI g z.1 z.2.1 z.2.2.1 z.2.2.2.1 z.2.2.2.2) 3 71 (AA g) := by
  refine aw_ofWH (lv0 := [(0, .ref (g.2.2 + 0)), (1, .int x1), (2, .int x2), (3, .int x3), (4, .int x4), (5, .ref (g.2.2 + 83))]) (by decide) (Nat.le_of_ble_eq_true rfl) rfl (fun p0 e s m args below meth c ls C0 htb hs0 hl hW => ?_)
  have C0 : CX g p0 s m args meth c RL cL_group 7 (some .int) := C0
  have hx := C0.1; have hb := C0.2.1; have hown := C0.2.2.2.2.1; have hts := C0.2.2.2.2.2.1; have hKS := C0.2.2.2.2.2.2.1
  unfold f_L_group at hf
  obtain ⟨q, hq, hf⟩ := bnd hf
  refine lv_aload hx hb dL_group_0 (lv_at hl 5 rfl) ?_
  refine lv_iconst (v := 0) hx hb dL_group_2 (by decide) ?_
  refine lv_aload_n hx hb dL_group_3 rfl (lv_at hl 0 rfl) ?_
  refine lv_iload_n hx hb dL_group_4 rfl (lv_at hl 1 rfl) ?_
  refine lv_iload_n hx hb dL_group_5 rfl (lv_at hl 2 rfl) ?_
  refine lv_iload_n hx hb dL_group_6 rfl (lv_at hl 3 rfl) ?_
  refine lv_iload hx hb dL_group_7 (lv_at hl 4 rfl) ?_
  rcases hsv : q with v | e9
  · rw [hsv] at hf
    have hf := sm_le hf
    have hz := Option.some.inj hf
    rw [hsv] at hq
    refine aw_cVi (rest := [.int 0, .ref (g.2.2 + 83)]) C0 hW (lv_fix (by decide)) (cel_7 kd0) rfl (c_X8_group x1 x2 x3 x4 hq) (cw_L_63 hts ⟨Nat.le_of_ble_eq_true rfl, Nat.le_of_ble_eq_true rfl⟩) rfl hl.1 rfl (Nat.le_of_ble_eq_true rfl) ⟨Nat.zero_le _, Nat.zero_le _⟩ dL_group_9 (fun H locs hW => ?_)
    refine lv_i2l (v := v.toInt64) hx hb dL_group_12 rfl ?_
    refine aw_last C0 hW dL_group_13 (fun H locs hW => ?_)
    refine lv_goto (tgt := 25) hx hb dL_group_14 rfl ?_
    refine lv_iconst (v := 0) hx hb dL_group_25 (by decide) ?_
    exact aw_iretz C0 hW (Nat.le_of_ble_eq_true rfl) (Nat.le_of_ble_eq_true rfl) hz dL_group_26
  · rw [hsv] at hf
    have hf := sm_re hf
    rw [hsv] at hq
    refine aw_xCt (rest := [.int 0, .ref (g.2.2 + 83)]) C0 hW (lv_fix (by decide)) (cel_7 kd0) rfl (x_X8_group hfl x1 x2 x3 x4 hq) (cwx_L_63 hts ⟨Nat.le_of_ble_eq_true rfl, Nat.le_of_ble_eq_true rfl⟩) rfl hl.1 rfl (Nat.le_of_ble_eq_true rfl) ⟨Nat.le_of_ble_eq_true rfl, Nat.le_of_ble_eq_true rfl⟩ dL_group_9 (fun H locs qx cex hW hcell hcv hcl => ?_)
    by_cases he0 : e9 = 0
    · have hf := ift he0 hf
      have hz := Option.some.inj hf
      rw [he0] at hcl
      refine vx_catch (E := "java/lang/IndexOutOfBoundsException") (name := "java/lang/IndexOutOfBoundsException") hown [] ⟨0, 14, 17, 13⟩ [⟨0, 14, 21, 15⟩] (htb.trans rfl) (fun _ h => nomatch h) rfl (by decide) (hts _ wd94) (va_Nw.use rfl (hKS.2.2.2.2.2.1 ("java/lang/IndexOutOfBoundsException", "java/lang/IndexOutOfBoundsException") (by decide +kernel))) hcell hcv hcl ?_
      refine lv_astore (lv' := [(6, .ref qx), (0, .ref (g.2.2 + 0)), (1, .int x1), (2, .int x2), (3, .int x3), (4, .int x4), (5, .ref (g.2.2 + 83))]) hx hb dL_group_17 hl (Nat.le_of_ble_eq_true rfl) rfl (fun ls hl => ?_)
      refine lv_iconst (v := 1) hx hb dL_group_19 (by decide) ?_
      exact aw_iretz C0 hW (Nat.le_of_ble_eq_true rfl) (Nat.le_of_ble_eq_true rfl) hz dL_group_20
    have hf := iff_ he0 hf
    by_cases he1 : e9 = 1
    · have hf := ift he1 hf
      have hz := Option.some.inj hf
      rw [he1] at hcl
      refine vx_catch (E := "java/lang/IllegalArgumentException") (name := "java/lang/IllegalArgumentException") hown [⟨0, 14, 17, 13⟩] ⟨0, 14, 21, 15⟩ [] (htb.trans rfl) (List.forall_mem_cons.mpr ⟨Or.inr ⟨by decide, "java/lang/IndexOutOfBoundsException", hts _ wd94, hKS.2.2.2.2.2.2.2.2.2 ("java/lang/IllegalArgumentException", "java/lang/IndexOutOfBoundsException") (by decide +kernel)⟩, (fun _ h => nomatch h)⟩) rfl (by decide) (hts _ wd95) (va_Nw.use rfl (hKS.2.2.2.2.2.1 ("java/lang/IllegalArgumentException", "java/lang/IllegalArgumentException") (by decide +kernel))) hcell hcv hcl ?_
      refine lv_astore (lv' := [(6, .ref qx), (0, .ref (g.2.2 + 0)), (1, .int x1), (2, .int x2), (3, .int x3), (4, .int x4), (5, .ref (g.2.2 + 83))]) hx hb dL_group_21 hl (Nat.le_of_ble_eq_true rfl) rfl (fun ls hl => ?_)
      refine lv_iconst (v := 2) hx hb dL_group_23 (by decide) ?_
      exact aw_iretz C0 hW (Nat.le_of_ble_eq_true rfl) (Nat.le_of_ble_eq_true rfl) hz dL_group_24
    have hf := iff_ he1 hf
    cases hf
def f_L_join (x1 : Int32) (x2 : Int32) (x3 : Int32) (P : Pool) (R : Rem) (I : Mem) (Z : Zed) (nx : Nat) : Option (Int32 × Mem × Rem × Pool × Zed) :=
  (f_X8_join x1 x2 x3 I).bind fun q => sm q (fun v => some (0, I, R, P, (vp_updL Z.1 0 v.toInt64, Z.2))) fun e => if e = 0 then some (1, I, R, P, Z) else if e = 1 then some (2, I, R, P, Z) else none
abbrev rmL_join : Room := { frames := 8, cells := 3, slots := 71, locals := 133 }
set_option maxHeartbeats 4000000 in
set_option maxRecDepth 100000 in
theorem c_L_join {l : Launch} (hfl : l.stackTraces = false) {g : Gam} {I : Mem} {R : Rem} {P : Pool} {Z : Zed} {nx : Nat} (x1 : Int32) (x2 : Int32) (x3 : Int32) {z : Int32 × Mem × Rem × Pool × Zed} (hf : f_L_join x1 x2 x3 P R I Z nx = some z) : Met l yL_join (Cond.codeWith yL_join cL_join 6 (some .int) [(0, 12, 15, 13), (0, 12, 19, 15)] :: GT) rmL_join (va_Pc [.ref (g.2.2 + 0), .int x1, .int x2, .int x3, .ref (g.2.2 + 83)] (PWn g I R P Z nx)) (QI g z.1 z.2.1 z.2.2.1 z.2.2.2.1 z.2.2.2.2) 3 71 (AA g) := by
  refine aw_ofWH (lv0 := [(0, .ref (g.2.2 + 0)), (1, .int x1), (2, .int x2), (3, .int x3), (4, .ref (g.2.2 + 83))]) (by decide) (Nat.le_of_ble_eq_true rfl) rfl (fun p0 e s m args below meth c ls C0 htb hs0 hl hW => ?_)
  have C0 : CX g p0 s m args meth c RL cL_join 6 (some .int) := C0
  have hx := C0.1; have hb := C0.2.1; have hown := C0.2.2.2.2.1; have hts := C0.2.2.2.2.2.1; have hKS := C0.2.2.2.2.2.2.1
  unfold f_L_join at hf
  obtain ⟨q, hq, hf⟩ := bnd hf
  refine lv_aload hx hb dL_join_0 (lv_at hl 4 rfl) ?_
  refine lv_iconst (v := 0) hx hb dL_join_2 (by decide) ?_
  refine lv_aload_n hx hb dL_join_3 rfl (lv_at hl 0 rfl) ?_
  refine lv_iload_n hx hb dL_join_4 rfl (lv_at hl 1 rfl) ?_
  refine lv_iload_n hx hb dL_join_5 rfl (lv_at hl 2 rfl) ?_
  refine lv_iload_n hx hb dL_join_6 rfl (lv_at hl 3 rfl) ?_
  rcases hsv : q with v | e9
  · rw [hsv] at hf
    have hf := sm_le hf
    have hz := Option.some.inj hf
    rw [hsv] at hq
    refine aw_cVi (rest := [.int 0, .ref (g.2.2 + 83)]) C0 hW (lv_fix (by decide)) (cel_7 kd0) rfl (c_X8_join x1 x2 x3 hq) (cw_L_84 hts ⟨Nat.le_of_ble_eq_true rfl, Nat.le_of_ble_eq_true rfl⟩) rfl hl.1 rfl (Nat.le_of_ble_eq_true rfl) ⟨Nat.zero_le _, Nat.zero_le _⟩ dL_join_7 (fun H locs hW => ?_)
    refine lv_i2l (v := v.toInt64) hx hb dL_join_10 rfl ?_
    refine aw_last C0 hW dL_join_11 (fun H locs hW => ?_)
    refine lv_goto (tgt := 23) hx hb dL_join_12 rfl ?_
    refine lv_iconst (v := 0) hx hb dL_join_23 (by decide) ?_
    exact aw_iretz C0 hW (Nat.le_of_ble_eq_true rfl) (Nat.le_of_ble_eq_true rfl) hz dL_join_24
  · rw [hsv] at hf
    have hf := sm_re hf
    rw [hsv] at hq
    refine aw_xCt (rest := [.int 0, .ref (g.2.2 + 83)]) C0 hW (lv_fix (by decide)) (cel_7 kd0) rfl (x_X8_join hfl x1 x2 x3 hq) (cwx_L_84 hts ⟨Nat.le_of_ble_eq_true rfl, Nat.le_of_ble_eq_true rfl⟩) rfl hl.1 rfl (Nat.le_of_ble_eq_true rfl) ⟨Nat.le_of_ble_eq_true rfl, Nat.le_of_ble_eq_true rfl⟩ dL_join_7 (fun H locs qx cex hW hcell hcv hcl => ?_)
    by_cases he0 : e9 = 0
    · have hf := ift he0 hf
      have hz := Option.some.inj hf
      rw [he0] at hcl
      refine vx_catch (E := "java/lang/IndexOutOfBoundsException") (name := "java/lang/IndexOutOfBoundsException") hown [] ⟨0, 12, 15, 13⟩ [⟨0, 12, 19, 15⟩] (htb.trans rfl) (fun _ h => nomatch h) rfl (by decide) (hts _ wd94) (va_Nw.use rfl (hKS.2.2.2.2.2.1 ("java/lang/IndexOutOfBoundsException", "java/lang/IndexOutOfBoundsException") (by decide +kernel))) hcell hcv hcl ?_
      refine lv_astore (lv' := [(5, .ref qx), (0, .ref (g.2.2 + 0)), (1, .int x1), (2, .int x2), (3, .int x3), (4, .ref (g.2.2 + 83))]) hx hb dL_join_15 hl (Nat.le_of_ble_eq_true rfl) rfl (fun ls hl => ?_)
      refine lv_iconst (v := 1) hx hb dL_join_17 (by decide) ?_
      exact aw_iretz C0 hW (Nat.le_of_ble_eq_true rfl) (Nat.le_of_ble_eq_true rfl) hz dL_join_18
    have hf := iff_ he0 hf
    by_cases he1 : e9 = 1
    · have hf := ift he1 hf
      have hz := Option.some.inj hf
      rw [he1] at hcl
      refine vx_catch (E := "java/lang/IllegalArgumentException") (name := "java/lang/IllegalArgumentException") hown [⟨0, 12, 15, 13⟩] ⟨0, 12, 19, 15⟩ [] (htb.trans rfl) (List.forall_mem_cons.mpr ⟨Or.inr ⟨by decide, "java/lang/IndexOutOfBoundsException", hts _ wd94, hKS.2.2.2.2.2.2.2.2.2 ("java/lang/IllegalArgumentException", "java/lang/IndexOutOfBoundsException") (by decide +kernel)⟩, (fun _ h => nomatch h)⟩) rfl (by decide) (hts _ wd95) (va_Nw.use rfl (hKS.2.2.2.2.2.1 ("java/lang/IllegalArgumentException", "java/lang/IllegalArgumentException") (by decide +kernel))) hcell hcv hcl ?_
      refine lv_astore (lv' := [(5, .ref qx), (0, .ref (g.2.2 + 0)), (1, .int x1), (2, .int x2), (3, .int x3), (4, .ref (g.2.2 + 83))]) hx hb dL_join_19 hl (Nat.le_of_ble_eq_true rfl) rfl (fun ls hl => ?_)
      refine lv_iconst (v := 2) hx hb dL_join_21 (by decide) ?_
      exact aw_iretz C0 hW (Nat.le_of_ble_eq_true rfl) (Nat.le_of_ble_eq_true rfl) hz dL_join_22
    have hf := iff_ he1 hf
    cases hf
def f_L_keep (x1 : Int32) (P : Pool) (R : Rem) (I : Mem) (Z : Zed) (nx : Nat) : Option (Int32 × Mem × Rem × Pool × Zed) :=
  (f_X8_keep x1 P R I).bind fun q => sm q.1 (fun v => some (0, q.2.1, q.2.2, P, (vp_updL Z.1 0 v.toInt64, Z.2))) fun e => if e = 1 then some (1, q.2.1, q.2.2, P, Z) else none
abbrev rmL_keep : Room := { frames := 8, cells := 3, slots := 71, locals := 132 }
set_option maxHeartbeats 4000000 in
set_option maxRecDepth 100000 in
theorem c_L_keep {l : Launch} (hfl : l.stackTraces = false) {g : Gam} {I : Mem} {R : Rem} {P : Pool} {Z : Zed} {nx : Nat} (x1 : Int32) {z : Int32 × Mem × Rem × Pool × Zed} (hf : f_L_keep x1 P R I Z nx = some z) : Met l yL_keep (Cond.codeWith yL_keep cL_keep 4 (some .int) [(0, 9, 12, 15)] :: GT) rmL_keep (va_Pc [.ref (g.2.2 + 0), .int x1, .ref (g.2.2 + 83)] (PWn g I R P Z nx)) (QI g z.1 z.2.1 z.2.2.1 z.2.2.2.1 z.2.2.2.2) 3 71 (AA g) := by
  refine aw_ofWH (lv0 := [(0, .ref (g.2.2 + 0)), (1, .int x1), (2, .ref (g.2.2 + 83))]) (by decide) (Nat.le_of_ble_eq_true rfl) rfl (fun p0 e s m args below meth c ls C0 htb hs0 hl hW => ?_)
  have C0 : CX g p0 s m args meth c RL cL_keep 4 (some .int) := C0
  have hx := C0.1; have hb := C0.2.1; have hown := C0.2.2.2.2.1; have hts := C0.2.2.2.2.2.1; have hKS := C0.2.2.2.2.2.2.1
  unfold f_L_keep at hf
  obtain ⟨q, hq, hf⟩ := bnd hf
  refine lv_aload_n hx hb dL_keep_0 rfl (lv_at hl 2 rfl) ?_
  refine lv_iconst (v := 0) hx hb dL_keep_1 (by decide) ?_
  refine lv_aload_n hx hb dL_keep_2 rfl (lv_at hl 0 rfl) ?_
  refine lv_iload_n hx hb dL_keep_3 rfl (lv_at hl 1 rfl) ?_
  rcases hsv : q.1 with v | e9
  · rw [hsv] at hf
    have hf := sm_le hf
    have hz := Option.some.inj hf
    have hq := hq.trans (congrArg some (show q = ((.inl v, q.2.1, q.2.2) : (Int32 ⊕ Nat) × Mem × Rem) by rw [← hsv]))
    refine aw_cVi (rest := [.int 0, .ref (g.2.2 + 83)]) C0 hW (lv_fix (by decide)) (cel_7 kd0) rfl (c_X8_keep x1 hq) (cw_L_50 hts ⟨Nat.le_of_ble_eq_true rfl, Nat.le_of_ble_eq_true rfl⟩) rfl hl.1 rfl (Nat.le_of_ble_eq_true rfl) ⟨Nat.zero_le _, Nat.zero_le _⟩ dL_keep_4 (fun H locs hW => ?_)
    refine lv_i2l (v := v.toInt64) hx hb dL_keep_7 rfl ?_
    refine aw_last C0 hW dL_keep_8 (fun H locs hW => ?_)
    refine lv_goto (tgt := 15) hx hb dL_keep_9 rfl ?_
    refine lv_iconst (v := 0) hx hb dL_keep_15 (by decide) ?_
    exact aw_iretz C0 hW (Nat.le_of_ble_eq_true rfl) (Nat.le_of_ble_eq_true rfl) hz dL_keep_16
  · rw [hsv] at hf
    have hf := sm_re hf
    have hq := hq.trans (congrArg some (show q = ((.inr e9, q.2.1, q.2.2) : (Int32 ⊕ Nat) × Mem × Rem) by rw [← hsv]))
    refine aw_xCt (rest := [.int 0, .ref (g.2.2 + 83)]) C0 hW (lv_fix (by decide)) (cel_7 kd0) rfl (x_X8_keep hfl x1 hq) (cwx_L_50 hts ⟨Nat.le_of_ble_eq_true rfl, Nat.le_of_ble_eq_true rfl⟩) rfl hl.1 rfl (Nat.le_of_ble_eq_true rfl) ⟨Nat.le_of_ble_eq_true rfl, Nat.le_of_ble_eq_true rfl⟩ dL_keep_4 (fun H locs qx cex hW hcell hcv hcl => ?_)
    by_cases he0 : e9 = 1
    · have hf := ift he0 hf
      have hz := Option.some.inj hf
      rw [he0] at hcl
      refine vx_catch (E := "java/lang/IllegalArgumentException") (name := "java/lang/IllegalArgumentException") hown [] ⟨0, 9, 12, 15⟩ [] (htb.trans rfl) (fun _ h => nomatch h) rfl (by decide) (hts _ wd95) (va_Nw.use rfl (hKS.2.2.2.2.2.1 ("java/lang/IllegalArgumentException", "java/lang/IllegalArgumentException") (by decide +kernel))) hcell hcv hcl ?_
      refine lv_astore_n (lv' := [(3, .ref qx), (0, .ref (g.2.2 + 0)), (1, .int x1), (2, .ref (g.2.2 + 83))]) hx hb dL_keep_12 rfl hl (Nat.le_of_ble_eq_true rfl) rfl (fun ls hl => ?_)
      refine lv_iconst (v := 1) hx hb dL_keep_13 (by decide) ?_
      exact aw_iretz C0 hW (Nat.le_of_ble_eq_true rfl) (Nat.le_of_ble_eq_true rfl) hz dL_keep_14
    have hf := iff_ he0 hf
    cases hf
def f_L_letter (x1 : Int32) (x2 : Int32) (P : Pool) (R : Rem) (I : Mem) (Z : Zed) (nx : Nat) : Option (Int32 × Mem × Rem × Pool × Zed) :=
  (f_X8_letter x1 x2 P R I).bind fun q => sm q.1 (fun v => some (0, q.2, R, P, (vp_updL Z.1 0 v.toInt64, Z.2))) fun e => if e = 0 then some (1, q.2, R, P, Z) else if e = 1 then some (2, q.2, R, P, Z) else none
abbrev rmL_letter : Room := { frames := 8, cells := 3, slots := 71, locals := 133 }
set_option maxHeartbeats 4000000 in
set_option maxRecDepth 100000 in
theorem c_L_letter {l : Launch} (hfl : l.stackTraces = false) {g : Gam} {I : Mem} {R : Rem} {P : Pool} {Z : Zed} {nx : Nat} (x1 : Int32) (x2 : Int32) {z : Int32 × Mem × Rem × Pool × Zed} (hf : f_L_letter x1 x2 P R I Z nx = some z) : Met l yL_letter (Cond.codeWith yL_letter cL_letter 5 (some .int) [(0, 10, 13, 13), (0, 10, 17, 15)] :: GT) rmL_letter (va_Pc [.ref (g.2.2 + 0), .int x1, .int x2, .ref (g.2.2 + 83)] (PWn g I R P Z nx)) (QI g z.1 z.2.1 z.2.2.1 z.2.2.2.1 z.2.2.2.2) 3 71 (AA g) := by
  refine aw_ofWH (lv0 := [(0, .ref (g.2.2 + 0)), (1, .int x1), (2, .int x2), (3, .ref (g.2.2 + 83))]) (by decide) (Nat.le_of_ble_eq_true rfl) rfl (fun p0 e s m args below meth c ls C0 htb hs0 hl hW => ?_)
  have C0 : CX g p0 s m args meth c RL cL_letter 5 (some .int) := C0
  have hx := C0.1; have hb := C0.2.1; have hown := C0.2.2.2.2.1; have hts := C0.2.2.2.2.2.1; have hKS := C0.2.2.2.2.2.2.1
  unfold f_L_letter at hf
  obtain ⟨q, hq, hf⟩ := bnd hf
  refine lv_aload_n hx hb dL_letter_0 rfl (lv_at hl 3 rfl) ?_
  refine lv_iconst (v := 0) hx hb dL_letter_1 (by decide) ?_
  refine lv_aload_n hx hb dL_letter_2 rfl (lv_at hl 0 rfl) ?_
  refine lv_iload_n hx hb dL_letter_3 rfl (lv_at hl 1 rfl) ?_
  refine lv_iload_n hx hb dL_letter_4 rfl (lv_at hl 2 rfl) ?_
  rcases hsv : q.1 with v | e9
  · rw [hsv] at hf
    have hf := sm_le hf
    have hz := Option.some.inj hf
    have hq := hq.trans (congrArg some (show q = ((.inl v, q.2) : (Int32 ⊕ Nat) × Mem) by rw [← hsv]))
    refine aw_cVi (rest := [.int 0, .ref (g.2.2 + 83)]) C0 hW (lv_fix (by decide)) (cel_7 kd0) rfl (c_X8_letter x1 x2 hq) (cw_L_75 hts ⟨Nat.le_of_ble_eq_true rfl, Nat.le_of_ble_eq_true rfl⟩) rfl hl.1 rfl (Nat.le_of_ble_eq_true rfl) ⟨Nat.zero_le _, Nat.zero_le _⟩ dL_letter_5 (fun H locs hW => ?_)
    refine lv_i2l (v := v.toInt64) hx hb dL_letter_8 rfl ?_
    refine aw_last C0 hW dL_letter_9 (fun H locs hW => ?_)
    refine lv_goto (tgt := 21) hx hb dL_letter_10 rfl ?_
    refine lv_iconst (v := 0) hx hb dL_letter_21 (by decide) ?_
    exact aw_iretz C0 hW (Nat.le_of_ble_eq_true rfl) (Nat.le_of_ble_eq_true rfl) hz dL_letter_22
  · rw [hsv] at hf
    have hf := sm_re hf
    have hq := hq.trans (congrArg some (show q = ((.inr e9, q.2) : (Int32 ⊕ Nat) × Mem) by rw [← hsv]))
    refine aw_xCt (rest := [.int 0, .ref (g.2.2 + 83)]) C0 hW (lv_fix (by decide)) (cel_7 kd0) rfl (x_X8_letter hfl x1 x2 hq) (cwx_L_75 hts ⟨Nat.le_of_ble_eq_true rfl, Nat.le_of_ble_eq_true rfl⟩) rfl hl.1 rfl (Nat.le_of_ble_eq_true rfl) ⟨Nat.le_of_ble_eq_true rfl, Nat.le_of_ble_eq_true rfl⟩ dL_letter_5 (fun H locs qx cex hW hcell hcv hcl => ?_)
    by_cases he0 : e9 = 0
    · have hf := ift he0 hf
      have hz := Option.some.inj hf
      rw [he0] at hcl
      refine vx_catch (E := "java/lang/IndexOutOfBoundsException") (name := "java/lang/IndexOutOfBoundsException") hown [] ⟨0, 10, 13, 13⟩ [⟨0, 10, 17, 15⟩] (htb.trans rfl) (fun _ h => nomatch h) rfl (by decide) (hts _ wd94) (va_Nw.use rfl (hKS.2.2.2.2.2.1 ("java/lang/IndexOutOfBoundsException", "java/lang/IndexOutOfBoundsException") (by decide +kernel))) hcell hcv hcl ?_
      refine lv_astore (lv' := [(4, .ref qx), (0, .ref (g.2.2 + 0)), (1, .int x1), (2, .int x2), (3, .ref (g.2.2 + 83))]) hx hb dL_letter_13 hl (Nat.le_of_ble_eq_true rfl) rfl (fun ls hl => ?_)
      refine lv_iconst (v := 1) hx hb dL_letter_15 (by decide) ?_
      exact aw_iretz C0 hW (Nat.le_of_ble_eq_true rfl) (Nat.le_of_ble_eq_true rfl) hz dL_letter_16
    have hf := iff_ he0 hf
    by_cases he1 : e9 = 1
    · have hf := ift he1 hf
      have hz := Option.some.inj hf
      rw [he1] at hcl
      refine vx_catch (E := "java/lang/IllegalArgumentException") (name := "java/lang/IllegalArgumentException") hown [⟨0, 10, 13, 13⟩] ⟨0, 10, 17, 15⟩ [] (htb.trans rfl) (List.forall_mem_cons.mpr ⟨Or.inr ⟨by decide, "java/lang/IndexOutOfBoundsException", hts _ wd94, hKS.2.2.2.2.2.2.2.2.2 ("java/lang/IllegalArgumentException", "java/lang/IndexOutOfBoundsException") (by decide +kernel)⟩, (fun _ h => nomatch h)⟩) rfl (by decide) (hts _ wd95) (va_Nw.use rfl (hKS.2.2.2.2.2.1 ("java/lang/IllegalArgumentException", "java/lang/IllegalArgumentException") (by decide +kernel))) hcell hcv hcl ?_
      refine lv_astore (lv' := [(4, .ref qx), (0, .ref (g.2.2 + 0)), (1, .int x1), (2, .int x2), (3, .ref (g.2.2 + 83))]) hx hb dL_letter_17 hl (Nat.le_of_ble_eq_true rfl) rfl (fun ls hl => ?_)
      refine lv_iconst (v := 2) hx hb dL_letter_19 (by decide) ?_
      exact aw_iretz C0 hW (Nat.le_of_ble_eq_true rfl) (Nat.le_of_ble_eq_true rfl) hz dL_letter_20
    have hf := iff_ he1 hf
    cases hf
def f_L_remove (x1 : Int32) (x2 : Int32) (P : Pool) (R : Rem) (I : Mem) (Z : Zed) (nx : Nat) : Option (Int32 × Mem × Rem × Pool × Zed) :=
  (f_X8_remove x1 x2 P R I).bind fun q => sm q.1 (fun v => some (0, q.2.1, q.2.2, P, (vp_updL Z.1 0 v.toInt64, Z.2))) fun e => if e = 0 then some (1, q.2.1, q.2.2, P, Z) else if e = 2 then some (2, q.2.1, q.2.2, P, Z) else none
abbrev rmL_remove : Room := { frames := 8, cells := 3, slots := 71, locals := 145 }
set_option maxHeartbeats 4000000 in
set_option maxRecDepth 100000 in
theorem c_L_remove {l : Launch} (hfl : l.stackTraces = false) {g : Gam} {I : Mem} {R : Rem} {P : Pool} {Z : Zed} {nx : Nat} (x1 : Int32) (x2 : Int32) {z : Int32 × Mem × Rem × Pool × Zed} (hf : f_L_remove x1 x2 P R I Z nx = some z) : Met l yL_remove (Cond.codeWith yL_remove cL_remove 5 (some .int) [(0, 10, 13, 13), (0, 10, 17, 17)] :: GT) rmL_remove (va_Pc [.ref (g.2.2 + 0), .int x1, .int x2, .ref (g.2.2 + 83)] (PWn g I R P Z nx)) (QI g z.1 z.2.1 z.2.2.1 z.2.2.2.1 z.2.2.2.2) 3 71 (AA g) := by
  refine aw_ofWH (lv0 := [(0, .ref (g.2.2 + 0)), (1, .int x1), (2, .int x2), (3, .ref (g.2.2 + 83))]) (by decide) (Nat.le_of_ble_eq_true rfl) rfl (fun p0 e s m args below meth c ls C0 htb hs0 hl hW => ?_)
  have C0 : CX g p0 s m args meth c RL cL_remove 5 (some .int) := C0
  have hx := C0.1; have hb := C0.2.1; have hown := C0.2.2.2.2.1; have hts := C0.2.2.2.2.2.1; have hKS := C0.2.2.2.2.2.2.1
  unfold f_L_remove at hf
  obtain ⟨q, hq, hf⟩ := bnd hf
  refine lv_aload_n hx hb dL_remove_0 rfl (lv_at hl 3 rfl) ?_
  refine lv_iconst (v := 0) hx hb dL_remove_1 (by decide) ?_
  refine lv_aload_n hx hb dL_remove_2 rfl (lv_at hl 0 rfl) ?_
  refine lv_iload_n hx hb dL_remove_3 rfl (lv_at hl 1 rfl) ?_
  refine lv_iload_n hx hb dL_remove_4 rfl (lv_at hl 2 rfl) ?_
  rcases hsv : q.1 with v | e9
  · rw [hsv] at hf
    have hf := sm_le hf
    have hz := Option.some.inj hf
    have hq := hq.trans (congrArg some (show q = ((.inl v, q.2.1, q.2.2) : (Int32 ⊕ Nat) × Mem × Rem) by rw [← hsv]))
    refine aw_cVi (rest := [.int 0, .ref (g.2.2 + 83)]) C0 hW (lv_fix (by decide)) (cel_7 kd0) rfl (c_X8_remove x1 x2 hq) (cw_L_37 hts ⟨Nat.le_of_ble_eq_true rfl, Nat.le_of_ble_eq_true rfl⟩) rfl hl.1 rfl (Nat.le_of_ble_eq_true rfl) ⟨Nat.zero_le _, Nat.zero_le _⟩ dL_remove_5 (fun H locs hW => ?_)
    refine lv_i2l (v := v.toInt64) hx hb dL_remove_8 rfl ?_
    refine aw_last C0 hW dL_remove_9 (fun H locs hW => ?_)
    refine lv_goto (tgt := 21) hx hb dL_remove_10 rfl ?_
    refine lv_iconst (v := 0) hx hb dL_remove_21 (by decide) ?_
    exact aw_iretz C0 hW (Nat.le_of_ble_eq_true rfl) (Nat.le_of_ble_eq_true rfl) hz dL_remove_22
  · rw [hsv] at hf
    have hf := sm_re hf
    have hq := hq.trans (congrArg some (show q = ((.inr e9, q.2.1, q.2.2) : (Int32 ⊕ Nat) × Mem × Rem) by rw [← hsv]))
    refine aw_xCt (rest := [.int 0, .ref (g.2.2 + 83)]) C0 hW (lv_fix (by decide)) (cel_7 kd0) rfl (x_X8_remove hfl x1 x2 hq) (cwx_L_37 hts ⟨Nat.le_of_ble_eq_true rfl, Nat.le_of_ble_eq_true rfl⟩) rfl hl.1 rfl (Nat.le_of_ble_eq_true rfl) ⟨Nat.le_of_ble_eq_true rfl, Nat.le_of_ble_eq_true rfl⟩ dL_remove_5 (fun H locs qx cex hW hcell hcv hcl => ?_)
    by_cases he0 : e9 = 0
    · have hf := ift he0 hf
      have hz := Option.some.inj hf
      rw [he0] at hcl
      refine vx_catch (E := "java/lang/IndexOutOfBoundsException") (name := "java/lang/IndexOutOfBoundsException") hown [] ⟨0, 10, 13, 13⟩ [⟨0, 10, 17, 17⟩] (htb.trans rfl) (fun _ h => nomatch h) rfl (by decide) (hts _ wd94) (va_Nw.use rfl (hKS.2.2.2.2.2.1 ("java/lang/IndexOutOfBoundsException", "java/lang/IndexOutOfBoundsException") (by decide +kernel))) hcell hcv hcl ?_
      refine lv_astore (lv' := [(4, .ref qx), (0, .ref (g.2.2 + 0)), (1, .int x1), (2, .int x2), (3, .ref (g.2.2 + 83))]) hx hb dL_remove_13 hl (Nat.le_of_ble_eq_true rfl) rfl (fun ls hl => ?_)
      refine lv_iconst (v := 1) hx hb dL_remove_15 (by decide) ?_
      exact aw_iretz C0 hW (Nat.le_of_ble_eq_true rfl) (Nat.le_of_ble_eq_true rfl) hz dL_remove_16
    have hf := iff_ he0 hf
    by_cases he1 : e9 = 2
    · have hf := ift he1 hf
      have hz := Option.some.inj hf
      rw [he1] at hcl
      refine vx_catch (E := "java/lang/IllegalStateException") (name := "java/lang/IllegalStateException") hown [⟨0, 10, 13, 13⟩] ⟨0, 10, 17, 17⟩ [] (htb.trans rfl) (List.forall_mem_cons.mpr ⟨Or.inr ⟨by decide, "java/lang/IndexOutOfBoundsException", hts _ wd94, hKS.2.2.2.2.2.2.2.2.2 ("java/lang/IllegalStateException", "java/lang/IndexOutOfBoundsException") (by decide +kernel)⟩, (fun _ h => nomatch h)⟩) rfl (by decide) (hts _ wd96) (va_Nw.use rfl (hKS.2.2.2.2.2.1 ("java/lang/IllegalStateException", "java/lang/IllegalStateException") (by decide +kernel))) hcell hcv hcl ?_
      refine lv_astore (lv' := [(4, .ref qx), (0, .ref (g.2.2 + 0)), (1, .int x1), (2, .int x2), (3, .ref (g.2.2 + 83))]) hx hb dL_remove_17 hl (Nat.le_of_ble_eq_true rfl) rfl (fun ls hl => ?_)
      refine lv_iconst (v := 2) hx hb dL_remove_19 (by decide) ?_
      exact aw_iretz C0 hW (Nat.le_of_ble_eq_true rfl) (Nat.le_of_ble_eq_true rfl) hz dL_remove_20
    have hf := iff_ he1 hf
    cases hf
def f_L_rows (x1 : Int32) (x2 : Int32) (x3 : Int32) (x4 : Int32) (P : Pool) (R : Rem) (I : Mem) (Z : Zed) (nx : Nat) : Option (Int32 × Mem × Rem × Pool × Zed) :=
  (f_X8_rows x1 x2 x3 x4 P R I).bind fun q => sm q.1 (fun v => some (0, q.2, R, P, (vp_updL Z.1 0 v.toInt64, Z.2))) fun e => if e = 0 then some (1, q.2, R, P, Z) else if e = 1 then some (2, q.2, R, P, Z) else none
abbrev rmL_rows : Room := { frames := 8, cells := 3, slots := 71, locals := 146 }
set_option maxHeartbeats 4000000 in
set_option maxRecDepth 100000 in
theorem c_L_rows {l : Launch} (hfl : l.stackTraces = false) {g : Gam} {I : Mem} {R : Rem} {P : Pool} {Z : Zed} {nx : Nat} (x1 : Int32) (x2 : Int32) (x3 : Int32) (x4 : Int32) {z : Int32 × Mem × Rem × Pool × Zed} (hf : f_L_rows x1 x2 x3 x4 P R I Z nx = some z) : Met l yL_rows (Cond.codeWith yL_rows cL_rows 7 (some .int) [(0, 14, 17, 13), (0, 14, 21, 15)] :: GT) rmL_rows (va_Pc [.ref (g.2.2 + 0), .int x1, .int x2, .int x3, .int x4, .ref (g.2.2 + 83)] (PWn g I R P Z nx)) (QI g z.1 z.2.1 z.2.2.1 z.2.2.2.1 z.2.2.2.2) 3 71 (AA g) := by
  refine aw_ofWH (lv0 := [(0, .ref (g.2.2 + 0)), (1, .int x1), (2, .int x2), (3, .int x3), (4, .int x4), (5, .ref (g.2.2 + 83))]) (by decide) (Nat.le_of_ble_eq_true rfl) rfl (fun p0 e s m args below meth c ls C0 htb hs0 hl hW => ?_)
  have C0 : CX g p0 s m args meth c RL cL_rows 7 (some .int) := C0
  have hx := C0.1; have hb := C0.2.1; have hown := C0.2.2.2.2.1; have hts := C0.2.2.2.2.2.1; have hKS := C0.2.2.2.2.2.2.1
  unfold f_L_rows at hf
  obtain ⟨q, hq, hf⟩ := bnd hf
  refine lv_aload hx hb dL_rows_0 (lv_at hl 5 rfl) ?_
  refine lv_iconst (v := 0) hx hb dL_rows_2 (by decide) ?_
  refine lv_aload_n hx hb dL_rows_3 rfl (lv_at hl 0 rfl) ?_
  refine lv_iload_n hx hb dL_rows_4 rfl (lv_at hl 1 rfl) ?_
  refine lv_iload_n hx hb dL_rows_5 rfl (lv_at hl 2 rfl) ?_
  refine lv_iload_n hx hb dL_rows_6 rfl (lv_at hl 3 rfl) ?_
  refine lv_iload hx hb dL_rows_7 (lv_at hl 4 rfl) ?_
  rcases hsv : q.1 with v | e9
  · rw [hsv] at hf
    have hf := sm_le hf
    have hz := Option.some.inj hf
    have hq := hq.trans (congrArg some (show q = ((.inl v, q.2) : (Int32 ⊕ Nat) × Mem) by rw [← hsv]))
    refine aw_cVi (rest := [.int 0, .ref (g.2.2 + 83)]) C0 hW (lv_fix (by decide)) (cel_7 kd0) rfl (c_X8_rows x1 x2 x3 x4 hq) (cw_L_69 hts ⟨Nat.le_of_ble_eq_true rfl, Nat.le_of_ble_eq_true rfl⟩) rfl hl.1 rfl (Nat.le_of_ble_eq_true rfl) ⟨Nat.zero_le _, Nat.zero_le _⟩ dL_rows_9 (fun H locs hW => ?_)
    refine lv_i2l (v := v.toInt64) hx hb dL_rows_12 rfl ?_
    refine aw_last C0 hW dL_rows_13 (fun H locs hW => ?_)
    refine lv_goto (tgt := 25) hx hb dL_rows_14 rfl ?_
    refine lv_iconst (v := 0) hx hb dL_rows_25 (by decide) ?_
    exact aw_iretz C0 hW (Nat.le_of_ble_eq_true rfl) (Nat.le_of_ble_eq_true rfl) hz dL_rows_26
  · rw [hsv] at hf
    have hf := sm_re hf
    have hq := hq.trans (congrArg some (show q = ((.inr e9, q.2) : (Int32 ⊕ Nat) × Mem) by rw [← hsv]))
    refine aw_xCt (rest := [.int 0, .ref (g.2.2 + 83)]) C0 hW (lv_fix (by decide)) (cel_7 kd0) rfl (x_X8_rows hfl x1 x2 x3 x4 hq) (cwx_L_69 hts ⟨Nat.le_of_ble_eq_true rfl, Nat.le_of_ble_eq_true rfl⟩) rfl hl.1 rfl (Nat.le_of_ble_eq_true rfl) ⟨Nat.le_of_ble_eq_true rfl, Nat.le_of_ble_eq_true rfl⟩ dL_rows_9 (fun H locs qx cex hW hcell hcv hcl => ?_)
    by_cases he0 : e9 = 0
    · have hf := ift he0 hf
      have hz := Option.some.inj hf
      rw [he0] at hcl
      refine vx_catch (E := "java/lang/IndexOutOfBoundsException") (name := "java/lang/IndexOutOfBoundsException") hown [] ⟨0, 14, 17, 13⟩ [⟨0, 14, 21, 15⟩] (htb.trans rfl) (fun _ h => nomatch h) rfl (by decide) (hts _ wd94) (va_Nw.use rfl (hKS.2.2.2.2.2.1 ("java/lang/IndexOutOfBoundsException", "java/lang/IndexOutOfBoundsException") (by decide +kernel))) hcell hcv hcl ?_
      refine lv_astore (lv' := [(6, .ref qx), (0, .ref (g.2.2 + 0)), (1, .int x1), (2, .int x2), (3, .int x3), (4, .int x4), (5, .ref (g.2.2 + 83))]) hx hb dL_rows_17 hl (Nat.le_of_ble_eq_true rfl) rfl (fun ls hl => ?_)
      refine lv_iconst (v := 1) hx hb dL_rows_19 (by decide) ?_
      exact aw_iretz C0 hW (Nat.le_of_ble_eq_true rfl) (Nat.le_of_ble_eq_true rfl) hz dL_rows_20
    have hf := iff_ he0 hf
    by_cases he1 : e9 = 1
    · have hf := ift he1 hf
      have hz := Option.some.inj hf
      rw [he1] at hcl
      refine vx_catch (E := "java/lang/IllegalArgumentException") (name := "java/lang/IllegalArgumentException") hown [⟨0, 14, 17, 13⟩] ⟨0, 14, 21, 15⟩ [] (htb.trans rfl) (List.forall_mem_cons.mpr ⟨Or.inr ⟨by decide, "java/lang/IndexOutOfBoundsException", hts _ wd94, hKS.2.2.2.2.2.2.2.2.2 ("java/lang/IllegalArgumentException", "java/lang/IndexOutOfBoundsException") (by decide +kernel)⟩, (fun _ h => nomatch h)⟩) rfl (by decide) (hts _ wd95) (va_Nw.use rfl (hKS.2.2.2.2.2.1 ("java/lang/IllegalArgumentException", "java/lang/IllegalArgumentException") (by decide +kernel))) hcell hcv hcl ?_
      refine lv_astore (lv' := [(6, .ref qx), (0, .ref (g.2.2 + 0)), (1, .int x1), (2, .int x2), (3, .int x3), (4, .int x4), (5, .ref (g.2.2 + 83))]) hx hb dL_rows_21 hl (Nat.le_of_ble_eq_true rfl) rfl (fun ls hl => ?_)
      refine lv_iconst (v := 2) hx hb dL_rows_23 (by decide) ?_
      exact aw_iretz C0 hW (Nat.le_of_ble_eq_true rfl) (Nat.le_of_ble_eq_true rfl) hz dL_rows_24
    have hf := iff_ he1 hf
    cases hf
def f_L_share (x1 : Int32) (x2 : Int32) (P : Pool) (R : Rem) (I : Mem) (Z : Zed) (nx : Nat) : Option (Int32 × Mem × Rem × Pool × Zed) :=
  (f_X8_share x1 x2 P R I).bind fun q => sm q.1 (fun v => some (0, q.2, R, P, (Z.1, vf_upd Z.2 0 v))) fun e => if e = 0 then some (1, q.2, R, P, Z) else none
abbrev rmL_share : Room := { frames := 8, cells := 3, slots := 71, locals := 167 }
set_option maxHeartbeats 4000000 in
set_option maxRecDepth 100000 in
theorem c_L_share {l : Launch} (hfl : l.stackTraces = false) {g : Gam} {I : Mem} {R : Rem} {P : Pool} {Z : Zed} {nx : Nat} (x1 : Int32) (x2 : Int32) {z : Int32 × Mem × Rem × Pool × Zed} (hf : f_L_share x1 x2 P R I Z nx = some z) : Met l yL_share (Cond.codeWith yL_share cL_share 5 (some .int) [(0, 9, 12, 13)] :: GT) rmL_share (va_Pc [.ref (g.2.2 + 0), .int x1, .int x2, .ref (g.2.2 + 84)] (PWn g I R P Z nx)) (QI g z.1 z.2.1 z.2.2.1 z.2.2.2.1 z.2.2.2.2) 3 71 (AA g) := by
  refine aw_ofWH (lv0 := [(0, .ref (g.2.2 + 0)), (1, .int x1), (2, .int x2), (3, .ref (g.2.2 + 84))]) (by decide) (Nat.le_of_ble_eq_true rfl) rfl (fun p0 e s m args below meth c ls C0 htb hs0 hl hW => ?_)
  have C0 : CX g p0 s m args meth c RL cL_share 5 (some .int) := C0
  have hx := C0.1; have hb := C0.2.1; have hown := C0.2.2.2.2.1; have hts := C0.2.2.2.2.2.1; have hKS := C0.2.2.2.2.2.2.1
  unfold f_L_share at hf
  obtain ⟨q, hq, hf⟩ := bnd hf
  refine lv_aload_n hx hb dL_share_0 rfl (lv_at hl 3 rfl) ?_
  refine lv_iconst (v := 0) hx hb dL_share_1 (by decide) ?_
  refine lv_aload_n hx hb dL_share_2 rfl (lv_at hl 0 rfl) ?_
  refine lv_iload_n hx hb dL_share_3 rfl (lv_at hl 1 rfl) ?_
  refine lv_iload_n hx hb dL_share_4 rfl (lv_at hl 2 rfl) ?_
  rcases hsv : q.1 with v | e9
  · rw [hsv] at hf
    have hf := sm_le hf
    have hz := Option.some.inj hf
    have hq := hq.trans (congrArg some (show q = ((.inl v, q.2) : (UInt64 ⊕ Nat) × Mem) by rw [← hsv]))
    refine aw_cVd (rest := [.int 0, .ref (g.2.2 + 84)]) C0 hW (lv_fix (by decide)) (cel_7 kd0) rfl (c_X8_share x1 x2 hq) (cw_L_93 hts ⟨Nat.le_of_ble_eq_true rfl, Nat.le_of_ble_eq_true rfl⟩) rfl hl.1 rfl (Nat.le_of_ble_eq_true rfl) ⟨Nat.zero_le _, Nat.zero_le _⟩ dL_share_5 (fun H locs hW => ?_)
    refine aw_dast C0 hW dL_share_8 (fun H locs hW => ?_)
    refine lv_goto (tgt := 16) hx hb dL_share_9 rfl ?_
    refine lv_iconst (v := 0) hx hb dL_share_16 (by decide) ?_
    exact aw_iretz C0 hW (Nat.le_of_ble_eq_true rfl) (Nat.le_of_ble_eq_true rfl) hz dL_share_17
  · rw [hsv] at hf
    have hf := sm_re hf
    have hq := hq.trans (congrArg some (show q = ((.inr e9, q.2) : (UInt64 ⊕ Nat) × Mem) by rw [← hsv]))
    refine aw_xCt (rest := [.int 0, .ref (g.2.2 + 84)]) C0 hW (lv_fix (by decide)) (cel_7 kd0) rfl (x_X8_share hfl x1 x2 hq) (cwx_L_93 hts ⟨Nat.le_of_ble_eq_true rfl, Nat.le_of_ble_eq_true rfl⟩) rfl hl.1 rfl (Nat.le_of_ble_eq_true rfl) ⟨Nat.le_of_ble_eq_true rfl, Nat.le_of_ble_eq_true rfl⟩ dL_share_5 (fun H locs qx cex hW hcell hcv hcl => ?_)
    by_cases he0 : e9 = 0
    · have hf := ift he0 hf
      have hz := Option.some.inj hf
      rw [he0] at hcl
      refine vx_catch (E := "java/lang/IndexOutOfBoundsException") (name := "java/lang/IndexOutOfBoundsException") hown [] ⟨0, 9, 12, 13⟩ [] (htb.trans rfl) (fun _ h => nomatch h) rfl (by decide) (hts _ wd94) (va_Nw.use rfl (hKS.2.2.2.2.2.1 ("java/lang/IndexOutOfBoundsException", "java/lang/IndexOutOfBoundsException") (by decide +kernel))) hcell hcv hcl ?_
      refine lv_astore (lv' := [(4, .ref qx), (0, .ref (g.2.2 + 0)), (1, .int x1), (2, .int x2), (3, .ref (g.2.2 + 84))]) hx hb dL_share_12 hl (Nat.le_of_ble_eq_true rfl) rfl (fun ls hl => ?_)
      refine lv_iconst (v := 1) hx hb dL_share_14 (by decide) ?_
      exact aw_iretz C0 hW (Nat.le_of_ble_eq_true rfl) (Nat.le_of_ble_eq_true rfl) hz dL_share_15
    have hf := iff_ he0 hf
    cases hf
def f_L_truth (x1 : Int32) (x2 : Int32) (x3 : Int32) (P : Pool) (R : Rem) (I : Mem) (Z : Zed) (nx : Nat) : Option (Int32 × Mem × Rem × Pool × Zed) :=
  (f_X8_truth x1 x2 x3 P R I).bind fun q => sm q.1 (fun v => some (0, q.2, R, P, (vp_updL Z.1 0 v.toInt64, Z.2))) fun e => if e = 0 then some (1, q.2, R, P, Z) else none
abbrev rmL_truth : Room := { frames := 9, cells := 3, slots := 71, locals := 156 }
set_option maxHeartbeats 4000000 in
set_option maxRecDepth 100000 in
theorem c_L_truth {l : Launch} (hfl : l.stackTraces = false) {g : Gam} {I : Mem} {R : Rem} {P : Pool} {Z : Zed} {nx : Nat} (x1 : Int32) (x2 : Int32) (x3 : Int32) {z : Int32 × Mem × Rem × Pool × Zed} (hf : f_L_truth x1 x2 x3 P R I Z nx = some z) : Met l yL_truth (Cond.codeWith yL_truth cL_truth 6 (some .int) [(0, 12, 15, 13)] :: GT) rmL_truth (va_Pc [.ref (g.2.2 + 0), .int x1, .int x2, .int x3, .ref (g.2.2 + 83)] (PWn g I R P Z nx)) (QI g z.1 z.2.1 z.2.2.1 z.2.2.2.1 z.2.2.2.2) 3 71 (AA g) := by
  refine aw_ofWH (lv0 := [(0, .ref (g.2.2 + 0)), (1, .int x1), (2, .int x2), (3, .int x3), (4, .ref (g.2.2 + 83))]) (by decide) (Nat.le_of_ble_eq_true rfl) rfl (fun p0 e s m args below meth c ls C0 htb hs0 hl hW => ?_)
  have C0 : CX g p0 s m args meth c RL cL_truth 6 (some .int) := C0
  have hx := C0.1; have hb := C0.2.1; have hown := C0.2.2.2.2.1; have hts := C0.2.2.2.2.2.1; have hKS := C0.2.2.2.2.2.2.1
  unfold f_L_truth at hf
  obtain ⟨q, hq, hf⟩ := bnd hf
  refine lv_aload hx hb dL_truth_0 (lv_at hl 4 rfl) ?_
  refine lv_iconst (v := 0) hx hb dL_truth_2 (by decide) ?_
  refine lv_aload_n hx hb dL_truth_3 rfl (lv_at hl 0 rfl) ?_
  refine lv_iload_n hx hb dL_truth_4 rfl (lv_at hl 1 rfl) ?_
  refine lv_iload_n hx hb dL_truth_5 rfl (lv_at hl 2 rfl) ?_
  refine lv_iload_n hx hb dL_truth_6 rfl (lv_at hl 3 rfl) ?_
  rcases hsv : q.1 with v | e9
  · rw [hsv] at hf
    have hf := sm_le hf
    have hz := Option.some.inj hf
    have hq := hq.trans (congrArg some (show q = ((.inl v, q.2) : (Int32 ⊕ Nat) × Mem) by rw [← hsv]))
    refine aw_cVi (rest := [.int 0, .ref (g.2.2 + 83)]) C0 hW (lv_fix (by decide)) (cel_7 kd0) rfl (c_X8_truth x1 x2 x3 hq) (cw_L_66 hts ⟨Nat.le_of_ble_eq_true rfl, Nat.le_of_ble_eq_true rfl⟩) rfl hl.1 rfl (Nat.le_of_ble_eq_true rfl) ⟨Nat.zero_le _, Nat.zero_le _⟩ dL_truth_7 (fun H locs hW => ?_)
    refine lv_i2l (v := v.toInt64) hx hb dL_truth_10 rfl ?_
    refine aw_last C0 hW dL_truth_11 (fun H locs hW => ?_)
    refine lv_goto (tgt := 19) hx hb dL_truth_12 rfl ?_
    refine lv_iconst (v := 0) hx hb dL_truth_19 (by decide) ?_
    exact aw_iretz C0 hW (Nat.le_of_ble_eq_true rfl) (Nat.le_of_ble_eq_true rfl) hz dL_truth_20
  · rw [hsv] at hf
    have hf := sm_re hf
    have hq := hq.trans (congrArg some (show q = ((.inr e9, q.2) : (Int32 ⊕ Nat) × Mem) by rw [← hsv]))
    refine aw_xCt (rest := [.int 0, .ref (g.2.2 + 83)]) C0 hW (lv_fix (by decide)) (cel_7 kd0) rfl (x_X8_truth hfl x1 x2 x3 hq) (cwx_L_66 hts ⟨Nat.le_of_ble_eq_true rfl, Nat.le_of_ble_eq_true rfl⟩) rfl hl.1 rfl (Nat.le_of_ble_eq_true rfl) ⟨Nat.le_of_ble_eq_true rfl, Nat.le_of_ble_eq_true rfl⟩ dL_truth_7 (fun H locs qx cex hW hcell hcv hcl => ?_)
    by_cases he0 : e9 = 0
    · have hf := ift he0 hf
      have hz := Option.some.inj hf
      rw [he0] at hcl
      refine vx_catch (E := "java/lang/IndexOutOfBoundsException") (name := "java/lang/IndexOutOfBoundsException") hown [] ⟨0, 12, 15, 13⟩ [] (htb.trans rfl) (fun _ h => nomatch h) rfl (by decide) (hts _ wd94) (va_Nw.use rfl (hKS.2.2.2.2.2.1 ("java/lang/IndexOutOfBoundsException", "java/lang/IndexOutOfBoundsException") (by decide +kernel))) hcell hcv hcl ?_
      refine lv_astore (lv' := [(5, .ref qx), (0, .ref (g.2.2 + 0)), (1, .int x1), (2, .int x2), (3, .int x3), (4, .ref (g.2.2 + 83))]) hx hb dL_truth_15 hl (Nat.le_of_ble_eq_true rfl) rfl (fun ls hl => ?_)
      refine lv_iconst (v := 1) hx hb dL_truth_17 (by decide) ?_
      exact aw_iretz C0 hW (Nat.le_of_ble_eq_true rfl) (Nat.le_of_ble_eq_true rfl) hz dL_truth_18
    have hf := iff_ he0 hf
    cases hf
def f_L_undo  (P : Pool) (R : Rem) (I : Mem) (Z : Zed) (nx : Nat) : Option (Int32 × Mem × Rem × Pool × Zed) :=
  (f_X8_undo P R I).bind fun q => sm q.1 (fun v => some (0, q.2.1, q.2.2, P, (vp_updL Z.1 0 v.toInt64, Z.2))) fun e => if e = 2 then some (1, q.2.1, q.2.2, P, Z) else none
abbrev rmL_undo : Room := { frames := 7, cells := 3, slots := 71, locals := 110 }
set_option maxHeartbeats 4000000 in
set_option maxRecDepth 100000 in
theorem c_L_undo {l : Launch} (hfl : l.stackTraces = false) {g : Gam} {I : Mem} {R : Rem} {P : Pool} {Z : Zed} {nx : Nat}  {z : Int32 × Mem × Rem × Pool × Zed} (hf : f_L_undo  P R I Z nx = some z) : Met l yL_undo (Cond.codeWith yL_undo cL_undo 3 (some .int) [(0, 8, 11, 17)] :: GT) rmL_undo (va_Pc [.ref (g.2.2 + 0), .ref (g.2.2 + 83)] (PWn g I R P Z nx)) (QI g z.1 z.2.1 z.2.2.1 z.2.2.2.1 z.2.2.2.2) 3 71 (AA g) := by
  refine aw_ofWH (lv0 := [(0, .ref (g.2.2 + 0)), (1, .ref (g.2.2 + 83))]) (by decide) (Nat.le_of_ble_eq_true rfl) rfl (fun p0 e s m args below meth c ls C0 htb hs0 hl hW => ?_)
  have C0 : CX g p0 s m args meth c RL cL_undo 3 (some .int) := C0
  have hx := C0.1; have hb := C0.2.1; have hown := C0.2.2.2.2.1; have hts := C0.2.2.2.2.2.1; have hKS := C0.2.2.2.2.2.2.1
  unfold f_L_undo at hf
  obtain ⟨q, hq, hf⟩ := bnd hf
  refine lv_aload_n hx hb dL_undo_0 rfl (lv_at hl 1 rfl) ?_
  refine lv_iconst (v := 0) hx hb dL_undo_1 (by decide) ?_
  refine lv_aload_n hx hb dL_undo_2 rfl (lv_at hl 0 rfl) ?_
  rcases hsv : q.1 with v | e9
  · rw [hsv] at hf
    have hf := sm_le hf
    have hz := Option.some.inj hf
    have hq := hq.trans (congrArg some (show q = ((.inl v, q.2.1, q.2.2) : (Int32 ⊕ Nat) × Mem × Rem) by rw [← hsv]))
    refine aw_cVi (rest := [.int 0, .ref (g.2.2 + 83)]) C0 hW (lv_fix (by decide)) (cel_7 kd0) rfl (c_X8_undo hq) (cw_L_46 hts ⟨Nat.le_of_ble_eq_true rfl, Nat.le_of_ble_eq_true rfl⟩) rfl hl.1 rfl (Nat.le_of_ble_eq_true rfl) ⟨Nat.zero_le _, Nat.zero_le _⟩ dL_undo_3 (fun H locs hW => ?_)
    refine lv_i2l (v := v.toInt64) hx hb dL_undo_6 rfl ?_
    refine aw_last C0 hW dL_undo_7 (fun H locs hW => ?_)
    refine lv_goto (tgt := 14) hx hb dL_undo_8 rfl ?_
    refine lv_iconst (v := 0) hx hb dL_undo_14 (by decide) ?_
    exact aw_iretz C0 hW (Nat.le_of_ble_eq_true rfl) (Nat.le_of_ble_eq_true rfl) hz dL_undo_15
  · rw [hsv] at hf
    have hf := sm_re hf
    have hq := hq.trans (congrArg some (show q = ((.inr e9, q.2.1, q.2.2) : (Int32 ⊕ Nat) × Mem × Rem) by rw [← hsv]))
    refine aw_xCt (rest := [.int 0, .ref (g.2.2 + 83)]) C0 hW (lv_fix (by decide)) (cel_7 kd0) rfl (x_X8_undo hfl hq) (cwx_L_46 hts ⟨Nat.le_of_ble_eq_true rfl, Nat.le_of_ble_eq_true rfl⟩) rfl hl.1 rfl (Nat.le_of_ble_eq_true rfl) ⟨Nat.le_of_ble_eq_true rfl, Nat.le_of_ble_eq_true rfl⟩ dL_undo_3 (fun H locs qx cex hW hcell hcv hcl => ?_)
    by_cases he0 : e9 = 2
    · have hf := ift he0 hf
      have hz := Option.some.inj hf
      rw [he0] at hcl
      refine vx_catch (E := "java/lang/IllegalStateException") (name := "java/lang/IllegalStateException") hown [] ⟨0, 8, 11, 17⟩ [] (htb.trans rfl) (fun _ h => nomatch h) rfl (by decide) (hts _ wd96) (va_Nw.use rfl (hKS.2.2.2.2.2.1 ("java/lang/IllegalStateException", "java/lang/IllegalStateException") (by decide +kernel))) hcell hcv hcl ?_
      refine lv_astore_n (lv' := [(2, .ref qx), (0, .ref (g.2.2 + 0)), (1, .ref (g.2.2 + 83))]) hx hb dL_undo_11 rfl hl (Nat.le_of_ble_eq_true rfl) rfl (fun ls hl => ?_)
      refine lv_iconst (v := 1) hx hb dL_undo_12 (by decide) ?_
      exact aw_iretz C0 hW (Nat.le_of_ble_eq_true rfl) (Nat.le_of_ble_eq_true rfl) hz dL_undo_13
    have hf := iff_ he0 hf
    cases hf
def f_L_update (x1 : Int32) (x2 : Int32) (x3 : Int32) (x4 : Int32) (P : Pool) (R : Rem) (I : Mem) (Z : Zed) (nx : Nat) : Option (Int32 × Mem × Rem × Pool × Zed) :=
  (f_X8_update x1 x2 x3 x4 P R I).bind fun q => sm q.1 (fun v => some (0, q.2.1, q.2.2, P, (vp_updL Z.1 0 v.toInt64, Z.2))) fun e => if e = 0 then some (1, q.2.1, q.2.2, P, Z) else if e = 1 then some (2, q.2.1, q.2.2, P, Z) else if e = 2 then some (3, q.2.1, q.2.2, P, Z) else none
abbrev rmL_update : Room := { frames := 8, cells := 3, slots := 71, locals := 148 }
set_option maxHeartbeats 4000000 in
set_option maxRecDepth 100000 in
theorem c_L_update {l : Launch} (hfl : l.stackTraces = false) {g : Gam} {I : Mem} {R : Rem} {P : Pool} {Z : Zed} {nx : Nat} (x1 : Int32) (x2 : Int32) (x3 : Int32) (x4 : Int32) {z : Int32 × Mem × Rem × Pool × Zed} (hf : f_L_update x1 x2 x3 x4 P R I Z nx = some z) : Met l yL_update (Cond.codeWith yL_update cL_update 7 (some .int) [(0, 14, 17, 13), (0, 14, 21, 15), (0, 14, 25, 17)] :: GT) rmL_update (va_Pc [.ref (g.2.2 + 0), .int x1, .int x2, .int x3, .int x4, .ref (g.2.2 + 83)] (PWn g I R P Z nx)) (QI g z.1 z.2.1 z.2.2.1 z.2.2.2.1 z.2.2.2.2) 3 71 (AA g) := by
  refine aw_ofWH (lv0 := [(0, .ref (g.2.2 + 0)), (1, .int x1), (2, .int x2), (3, .int x3), (4, .int x4), (5, .ref (g.2.2 + 83))]) (by decide) (Nat.le_of_ble_eq_true rfl) rfl (fun p0 e s m args below meth c ls C0 htb hs0 hl hW => ?_)
  have C0 : CX g p0 s m args meth c RL cL_update 7 (some .int) := C0
  have hx := C0.1; have hb := C0.2.1; have hown := C0.2.2.2.2.1; have hts := C0.2.2.2.2.2.1; have hKS := C0.2.2.2.2.2.2.1
  unfold f_L_update at hf
  obtain ⟨q, hq, hf⟩ := bnd hf
  refine lv_aload hx hb dL_update_0 (lv_at hl 5 rfl) ?_
  refine lv_iconst (v := 0) hx hb dL_update_2 (by decide) ?_
  refine lv_aload_n hx hb dL_update_3 rfl (lv_at hl 0 rfl) ?_
  refine lv_iload_n hx hb dL_update_4 rfl (lv_at hl 1 rfl) ?_
  refine lv_iload_n hx hb dL_update_5 rfl (lv_at hl 2 rfl) ?_
  refine lv_iload_n hx hb dL_update_6 rfl (lv_at hl 3 rfl) ?_
  refine lv_iload hx hb dL_update_7 (lv_at hl 4 rfl) ?_
  rcases hsv : q.1 with v | e9
  · rw [hsv] at hf
    have hf := sm_le hf
    have hz := Option.some.inj hf
    have hq := hq.trans (congrArg some (show q = ((.inl v, q.2.1, q.2.2) : (Int32 ⊕ Nat) × Mem × Rem) by rw [← hsv]))
    refine aw_cVi (rest := [.int 0, .ref (g.2.2 + 83)]) C0 hW (lv_fix (by decide)) (cel_7 kd0) rfl (c_X8_update x1 x2 x3 x4 hq) (cw_L_40 hts ⟨Nat.le_of_ble_eq_true rfl, Nat.le_of_ble_eq_true rfl⟩) rfl hl.1 rfl (Nat.le_of_ble_eq_true rfl) ⟨Nat.zero_le _, Nat.zero_le _⟩ dL_update_9 (fun H locs hW => ?_)
    refine lv_i2l (v := v.toInt64) hx hb dL_update_12 rfl ?_
    refine aw_last C0 hW dL_update_13 (fun H locs hW => ?_)
    refine lv_goto (tgt := 29) hx hb dL_update_14 rfl ?_
    refine lv_iconst (v := 0) hx hb dL_update_29 (by decide) ?_
    exact aw_iretz C0 hW (Nat.le_of_ble_eq_true rfl) (Nat.le_of_ble_eq_true rfl) hz dL_update_30
  · rw [hsv] at hf
    have hf := sm_re hf
    have hq := hq.trans (congrArg some (show q = ((.inr e9, q.2.1, q.2.2) : (Int32 ⊕ Nat) × Mem × Rem) by rw [← hsv]))
    refine aw_xCt (rest := [.int 0, .ref (g.2.2 + 83)]) C0 hW (lv_fix (by decide)) (cel_7 kd0) rfl (x_X8_update hfl x1 x2 x3 x4 hq) (cwx_L_40 hts ⟨Nat.le_of_ble_eq_true rfl, Nat.le_of_ble_eq_true rfl⟩) rfl hl.1 rfl (Nat.le_of_ble_eq_true rfl) ⟨Nat.le_of_ble_eq_true rfl, Nat.le_of_ble_eq_true rfl⟩ dL_update_9 (fun H locs qx cex hW hcell hcv hcl => ?_)
    by_cases he0 : e9 = 0
    · have hf := ift he0 hf
      have hz := Option.some.inj hf
      rw [he0] at hcl
      refine vx_catch (E := "java/lang/IndexOutOfBoundsException") (name := "java/lang/IndexOutOfBoundsException") hown [] ⟨0, 14, 17, 13⟩ [⟨0, 14, 21, 15⟩, ⟨0, 14, 25, 17⟩] (htb.trans rfl) (fun _ h => nomatch h) rfl (by decide) (hts _ wd94) (va_Nw.use rfl (hKS.2.2.2.2.2.1 ("java/lang/IndexOutOfBoundsException", "java/lang/IndexOutOfBoundsException") (by decide +kernel))) hcell hcv hcl ?_
      refine lv_astore (lv' := [(6, .ref qx), (0, .ref (g.2.2 + 0)), (1, .int x1), (2, .int x2), (3, .int x3), (4, .int x4), (5, .ref (g.2.2 + 83))]) hx hb dL_update_17 hl (Nat.le_of_ble_eq_true rfl) rfl (fun ls hl => ?_)
      refine lv_iconst (v := 1) hx hb dL_update_19 (by decide) ?_
      exact aw_iretz C0 hW (Nat.le_of_ble_eq_true rfl) (Nat.le_of_ble_eq_true rfl) hz dL_update_20
    have hf := iff_ he0 hf
    by_cases he1 : e9 = 1
    · have hf := ift he1 hf
      have hz := Option.some.inj hf
      rw [he1] at hcl
      refine vx_catch (E := "java/lang/IllegalArgumentException") (name := "java/lang/IllegalArgumentException") hown [⟨0, 14, 17, 13⟩] ⟨0, 14, 21, 15⟩ [⟨0, 14, 25, 17⟩] (htb.trans rfl) (List.forall_mem_cons.mpr ⟨Or.inr ⟨by decide, "java/lang/IndexOutOfBoundsException", hts _ wd94, hKS.2.2.2.2.2.2.2.2.2 ("java/lang/IllegalArgumentException", "java/lang/IndexOutOfBoundsException") (by decide +kernel)⟩, (fun _ h => nomatch h)⟩) rfl (by decide) (hts _ wd95) (va_Nw.use rfl (hKS.2.2.2.2.2.1 ("java/lang/IllegalArgumentException", "java/lang/IllegalArgumentException") (by decide +kernel))) hcell hcv hcl ?_
      refine lv_astore (lv' := [(6, .ref qx), (0, .ref (g.2.2 + 0)), (1, .int x1), (2, .int x2), (3, .int x3), (4, .int x4), (5, .ref (g.2.2 + 83))]) hx hb dL_update_21 hl (Nat.le_of_ble_eq_true rfl) rfl (fun ls hl => ?_)
      refine lv_iconst (v := 2) hx hb dL_update_23 (by decide) ?_
      exact aw_iretz C0 hW (Nat.le_of_ble_eq_true rfl) (Nat.le_of_ble_eq_true rfl) hz dL_update_24
    have hf := iff_ he1 hf
    by_cases he2 : e9 = 2
    · have hf := ift he2 hf
      have hz := Option.some.inj hf
      rw [he2] at hcl
      refine vx_catch (E := "java/lang/IllegalStateException") (name := "java/lang/IllegalStateException") hown [⟨0, 14, 17, 13⟩, ⟨0, 14, 21, 15⟩] ⟨0, 14, 25, 17⟩ [] (htb.trans rfl) (List.forall_mem_cons.mpr ⟨Or.inr ⟨by decide, "java/lang/IndexOutOfBoundsException", hts _ wd94, hKS.2.2.2.2.2.2.2.2.2 ("java/lang/IllegalStateException", "java/lang/IndexOutOfBoundsException") (by decide +kernel)⟩, (List.forall_mem_cons.mpr ⟨Or.inr ⟨by decide, "java/lang/IllegalArgumentException", hts _ wd95, hKS.2.2.2.2.2.2.2.2.2 ("java/lang/IllegalStateException", "java/lang/IllegalArgumentException") (by decide +kernel)⟩, (fun _ h => nomatch h)⟩)⟩) rfl (by decide) (hts _ wd96) (va_Nw.use rfl (hKS.2.2.2.2.2.1 ("java/lang/IllegalStateException", "java/lang/IllegalStateException") (by decide +kernel))) hcell hcv hcl ?_
      refine lv_astore (lv' := [(6, .ref qx), (0, .ref (g.2.2 + 0)), (1, .int x1), (2, .int x2), (3, .int x3), (4, .int x4), (5, .ref (g.2.2 + 83))]) hx hb dL_update_25 hl (Nat.le_of_ble_eq_true rfl) rfl (fun ls hl => ?_)
      refine lv_iconst (v := 3) hx hb dL_update_27 (by decide) ?_
      exact aw_iretz C0 hW (Nat.le_of_ble_eq_true rfl) (Nat.le_of_ble_eq_true rfl) hz dL_update_28
    have hf := iff_ he2 hf
    cases hf
end LWR
