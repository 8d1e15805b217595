/-! law: the states of its start -/
section LSF
def wan0 : Abs := mkA [] [] [[], [], [], [], [], [], [], []] 0
def wgn0 : Gst := (wan0, [], kpO none none, [])
def wan1 : Abs := mkA [[5, 1, -1, 2]] [] [[], [], [], [], [], [], [], []] 0
def wgn1 : Gst := (wan1, [wan0], kpO none none, [])
def wan2 : Abs := mkA [[5, 1, -1, 2]] [[5, -1, 3, 0]] [[], [], [], [], [], [], [], []] 0
def wgn2 : Gst := (wan2, [wan0, wan1], kpO none none, [])
def wgn3 : Gst := (wan2, [wan0, wan1], kpO none none, [97, 60, 55, 124, 98, 63])
def wan3 : Abs := mkA [[5, 1, -1, 2]] [[5, -1, 3, 0]] [[2011, 4004, 2], [], [], [], [], [], [], []] 0
def wgn4 : Gst := (wan3, [wan0, wan1, wan2], kpO none none, [])
def wgn5 : Gst := (wan3, [wan0, wan1, wan2], kpO none none, [33, 99, 61, 50])
def wan4 : Abs := mkA [[5, 1, -1, 2]] [[5, -1, 3, 0]] [[2011, 4004, 2], [9006, 0], [], [], [], [], [], []] 0
def wgn6 : Gst := (wan4, [wan0, wan1, wan2, wan3], kpO none none, [])
def wgn7 : Gst := (wan4, [wan0, wan1, wan2, wan3], kpO (some wan4) none, [])
theorem wfk0 : eqG gst0 wgn0 = true := by decide +kernel
theorem wfk1 : (opAdd wgn0 0 5 1 (-1) 2).1 = .inl 0 := by decide +kernel
theorem wfk2 : eqG (opAdd wgn0 0 5 1 (-1) 2).2 wgn1 = true := by decide +kernel
theorem wfk3 : (opAdd wgn1 1 5 (-1) 3 0).1 = .inl 0 := by decide +kernel
theorem wfk4 : eqG (opAdd wgn1 1 5 (-1) 3 0).2 wgn2 = true := by decide +kernel
theorem wfk5 : tyK 106911256830527 8 0 = true := by decide +kernel
theorem wfk6 : tyL 106911256830527 8 [] = [97, 60, 55, 124, 98, 63] := by decide +kernel
theorem wfk7 : tyK 0 8 [97, 60, 55, 124, 98, 63].length = true := by decide +kernel
theorem wfk8 : tyL 0 8 [97, 60, 55, 124, 98, 63] = [97, 60, 55, 124, 98, 63] := by decide +kernel
theorem wfk9 : (opDefine wgn3 0).1 = .inl 3 := by decide +kernel
theorem wfk10 : eqG (opDefine wgn3 0).2 wgn4 = true := by decide +kernel
theorem wfk11 : tyK 560151858 8 0 = true := by decide +kernel
theorem wfk12 : tyL 560151858 8 [] = [33, 99, 61, 50] := by decide +kernel
theorem wfk13 : tyK 0 8 [33, 99, 61, 50].length = true := by decide +kernel
theorem wfk14 : tyL 0 8 [33, 99, 61, 50] = [33, 99, 61, 50] := by decide +kernel
theorem wfk15 : (opDefine wgn5 1).1 = .inl 2 := by decide +kernel
theorem wfk16 : eqG (opDefine wgn5 1).2 wgn6 = true := by decide +kernel
theorem wfk17 : (opKeep wgn6 0).1 = .inl 2 := by decide +kernel
theorem wfk18 : eqG (opKeep wgn6 0).2 wgn7 = true := by decide +kernel
end LSF
