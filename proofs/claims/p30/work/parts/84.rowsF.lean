/-! rows: the states of its run, and what is true of them -/
section RWF
def an0 : Abs := mkA [] [] [[], [], [], [], [], [], [], []] 0
def gn0 : Gst := (an0, [], kpO none none, [])
def gn1 : Gst := (an0, [an0], kpO none none, [])
def an1 : Abs := mkA [[5, -1, 3, 4]] [] [[], [], [], [], [], [], [], []] 0
def gn2 : Gst := (an1, [an0, an0], kpO none none, [])
def an2 : Abs := mkA [[5, -1, 3, 4], [1, 2, -1, -1]] [] [[], [], [], [], [], [], [], []] 0
def gn3 : Gst := (an2, [an0, an0, an1], kpO none none, [])
def an3 : Abs := mkA [[5, -1, 3, 4], [1, 2, -1, -1]] [[5, 5, 5, 5]] [[], [], [], [], [], [], [], []] 0
def gn4 : Gst := (an3, [an0, an0, an1, an2], kpO none none, [])
def an4 : Abs := mkA [[5, -1, 3, 4], [1, 2, -1, -1]] [[5, 5, 5, 5], [-1, 2, 2, 2]] [[], [], [], [], [], [], [], []] 0
def gn5 : Gst := (an4, [an0, an0, an1, an2, an3], kpO none none, [])
def gn6 : Gst := (an4, [an0, an0, an1, an2, an3], kpO none none, [97, 61, 53])
def an5 : Abs := mkA [[5, -1, 3, 4], [1, 2, -1, -1]] [[5, 5, 5, 5], [-1, 2, 2, 2]] [[1009], [], [], [], [], [], [], []] 0
def gn7 : Gst := (an5, [an0, an0, an1, an2, an3, an4], kpO none none, [])
def gn8 : Gst := (an5, [an0, an0, an1, an2, an3, an4], kpO none none, [98, 63, 124, 99, 62, 50])
def an6 : Abs := mkA [[5, -1, 3, 4], [1, 2, -1, -1]] [[5, 5, 5, 5], [-1, 2, 2, 2]] [[1009], [4004, 11006, 2], [], [], [], [], [], []] 0
def gn9 : Gst := (an6, [an0, an1, an2, an3, an4, an5], kpO none none, [])
def an7 : Abs := mkA [[5, -1, 3, 4], [1, 2, -1, -1]] [[5, 5, 5, 5], [-1, 2, 2, 2]] [[1009], [4004, 11006, 2], [1009, 4004, 11006, 2, 1], [], [], [], [], []] 0
def gn10 : Gst := (an7, [an1, an2, an3, an4, an5, an6], kpO none none, [])
def an8 : Abs := mkA [[5, -1, 3, 4], [1, 2, -1, -1]] [[5, 5, 5, 5], [-1, 2, 2, 2]] [[1009], [4004, 11006, 2], [1009, 4004, 11006, 2, 1], [1009, 4004, 11006, 2, 1, 0], [], [], [], []] 0
def gn11 : Gst := (an8, [an2, an3, an4, an5, an6, an7], kpO none none, [])
def gn12 : Gst := (an8, [an2, an3, an4, an5, an6, an7], kpO none none, [99, 61, 99, 124, 99, 60, 99])
def an9 : Abs := mkA [[5, -1, 3, 4], [1, 2, -1, -1]] [[5, 5, 5, 5], [-1, 2, 2, 2]] [[1009], [4004, 11006, 2], [1009, 4004, 11006, 2, 1], [1009, 4004, 11006, 2, 1, 0], [9106, 10106, 2], [], [], []] 0
def gn13 : Gst := (an9, [an3, an4, an5, an6, an7, an8], kpO none none, [])
def gn14 : Gst := (an9, [an3, an4, an5, an6, an7, an8], kpO none none, [99, 62, 100, 124, 99, 60, 100])
def an10 : Abs := mkA [[5, -1, 3, 4], [1, 2, -1, -1]] [[5, 5, 5, 5], [-1, 2, 2, 2]] [[1009], [4004, 11006, 2], [1009, 4004, 11006, 2, 1], [1009, 4004, 11006, 2, 1, 0], [11107, 10107, 2], [], [], []] 0
def gn15 : Gst := (an10, [an4, an5, an6, an7, an8, an9], kpO none none, [])
def gn16 : Gst := (an10, [an4, an5, an6, an7, an8, an9], kpO none none, [99, 60, 99, 38, 100, 61, 53])
def an11 : Abs := mkA [[5, -1, 3, 4], [1, 2, -1, -1]] [[5, 5, 5, 5], [-1, 2, 2, 2]] [[1009], [4004, 11006, 2], [1009, 4004, 11006, 2, 1], [1009, 4004, 11006, 2, 1, 0], [10106, 13009, 1], [], [], []] 0
def gn17 : Gst := (an11, [an5, an6, an7, an8, an9, an10], kpO none none, [])
def gn18 : Gst := (an11, [an5, an6, an7, an8, an9, an10], kpO none none, [99, 61, 49, 124, 99, 63])
def an12 : Abs := mkA [[5, -1, 3, 4], [1, 2, -1, -1]] [[5, 5, 5, 5], [-1, 2, 2, 2]] [[1009], [4004, 11006, 2], [1009, 4004, 11006, 2, 1], [1009, 4004, 11006, 2, 1, 0], [9005, 8004, 2], [], [], []] 0
def gn19 : Gst := (an12, [an6, an7, an8, an9, an10, an11], kpO none none, [])
def an13 : Abs := mkA [[5, -1, 3, 4], [1, 2, -1, -1]] [[5, 5, 5, 5], [-1, 2, 2, 2]] [[1009], [4004, 11006, 2], [1009, 4004, 11006, 2, 1], [1009, 4004, 11006, 2, 1, 0], [9005, 8004, 2], [], [], []] 1
def gn20 : Gst := (an13, [an7, an8, an9, an10, an11, an12], kpO none none, [])
def gn21 : Gst := (an13, [an7, an8, an9, an10, an11, an12], kpO none none, [97, 60, 57, 38, 33, 98, 61, 55])
def an14 : Abs := mkA [[5, -1, 3, 4], [1, 2, -1, -1]] [[5, 5, 5, 5], [-1, 2, 2, 2]] [[1009], [4004, 11006, 2], [1009, 4004, 11006, 2, 1], [1009, 4004, 11006, 2, 1, 0], [9005, 8004, 2], [2013, 5011, 0, 1], [], []] 1
def gn22 : Gst := (an14, [an8, an9, an10, an11, an12, an13], kpO none none, [])
def an15 : Abs := mkA [[5, -1, 3, 4], [1, 2, -1, -1]] [[5, 5, 5, 5], [-1, 2, 2, 2]] [[1009], [4004, 11006, 2], [1009, 4004, 11006, 2, 1], [1009, 4004, 11006, 2, 1, 0], [9005, 8004, 2], [2013, 5011, 0, 1], [2013, 5011, 0, 1], []] 1
def gn23 : Gst := (an15, [an9, an10, an11, an12, an13, an14], kpO none none, [])
def an16 : Abs := mkA [[5, -1, 3, 4], [1, 2, -1, -1]] [[5, 5, 5, 5], [-1, 2, 2, 2]] [[1009], [4004, 11006, 2], [1009, 4004, 11006, 2, 1], [1009, 4004, 11006, 2, 1, 0], [9005, 8004, 2], [2013, 5011, 0, 1], [2013, 5011, 0, 1], []] 2
def gn24 : Gst := (an16, [an10, an11, an12, an13, an14, an15], kpO none none, [])
def an17 : Abs := mkA [[5, -1, 3, 4], [1, 2, -1, -1], [-1, 0, 0, 0]] [[5, 5, 5, 5], [-1, 2, 2, 2]] [[1009], [4004, 11006, 2], [1009, 4004, 11006, 2, 1], [1009, 4004, 11006, 2, 1, 0], [9005, 8004, 2], [2013, 5011, 0, 1], [2013, 5011, 0, 1], []] 2
def gn25 : Gst := (an17, [an11, an12, an13, an14, an15, an16], kpO none none, [])
def an18 : Abs := mkA [[5, -1, 3, 4], [1, 2, -1, -1], [-1, 0, 0, 0]] [[5, 5, 5, 5], [-1, 2, 2, 2]] [[1009], [4004, 11006, 2], [1009, 4004, 11006, 2, 1], [1009, 4004, 11006, 2, 1, 0], [9005, 8004, 2], [2013, 5011, 0, 1], [2013, 5011, 0, 1], []] 3
def gn26 : Gst := (an18, [an12, an13, an14, an15, an16, an17], kpO none none, [])
def an19 : Abs := mkA [[5, -1, 3, 4], [1, 2, -1, -1], [-1, 0, 0, 0]] [[5, 5, 5, 5], [-1, 2, 2, 2]] [[1009], [4004, 11006, 2], [1009, 4004, 11006, 2, 1], [1009, 4004, 11006, 2, 1, 0], [9005, 8004, 2], [2013, 5011, 0, 1], [2013, 5011, 0, 1], []] 4
def gn27 : Gst := (an19, [an13, an14, an15, an16, an17, an18], kpO none none, [])
def an20 : Abs := mkA [[5, 8, 3, 4], [1, 2, -1, -1], [-1, 0, 0, 0]] [[5, 5, 5, 5], [-1, 2, 2, 2]] [[1009], [4004, 11006, 2], [1009, 4004, 11006, 2, 1], [1009, 4004, 11006, 2, 1, 0], [9005, 8004, 2], [2013, 5011, 0, 1], [2013, 5011, 0, 1], []] 4
def gn28 : Gst := (an20, [an14, an15, an16, an17, an18, an19], kpO none none, [])
def gn29 : Gst := (an19, [an15, an16, an17, an18, an19, an20], kpO none none, [])
def an21 : Abs := mkA [[5, -1, 3, 4], [1, 2, -1, -1], [-1, 0, 0, 0]] [[5, 5, 5, 5], [-1, 2, 2, 2]] [[1009], [4004, 11006, 2], [1009, 4004, 11006, 2, 1], [1009, 4004, 11006, 2, 1, 0], [9005, 8004, 2], [2013, 5011, 0, 1], [2013, 5011, 0, 1], []] 5
def gn30 : Gst := (an21, [an16, an17, an18, an19, an20, an19], kpO none none, [])
def an22 : Abs := mkA [[8, -1, 3, 4], [1, 2, -1, -1], [-1, 0, 0, 0]] [[5, 5, 5, 5], [-1, 2, 2, 2]] [[1009], [4004, 11006, 2], [1009, 4004, 11006, 2, 1], [1009, 4004, 11006, 2, 1, 0], [9005, 8004, 2], [2013, 5011, 0, 1], [2013, 5011, 0, 1], []] 5
def gn31 : Gst := (an22, [an17, an18, an19, an20, an19, an21], kpO none none, [])
def gn32 : Gst := (an21, [an17, an18, an19, an20, an19], kpO none none, [])
def gn33 : Gst := (an21, [an17, an18, an19, an20, an19], kpO none none, [97, 61, 53])
def an23 : Abs := mkA [[5, -1, 3, 4], [1, 2, -1, -1], [-1, 0, 0, 0]] [[5, 5, 5, 5], [-1, 2, 2, 2]] [[1009], [4004, 11006, 2], [1009, 4004, 11006, 2, 1], [1009, 4004, 11006, 2, 1, 0], [9005, 8004, 2], [1009], [2013, 5011, 0, 1], []] 5
def gn34 : Gst := (an23, [an17, an18, an19, an20, an19, an21], kpO none none, [])
def an24 : Abs := mkA [[5, -1, 3, 4], [1, 2, -1, -1], [-1, 0, 0, 0]] [[5, 5, 5, 5], [-1, 2, 2, 2]] [[1009], [4004, 11006, 2], [1009, 4004, 11006, 2, 1], [1009, 4004, 11006, 2, 1, 0], [9005, 8004, 2], [1009], [2013, 5011, 0, 1], []] 6
def gn35 : Gst := (an24, [an18, an19, an20, an19, an21, an23], kpO none none, [])
def gn36 : Gst := (an24, [an18, an19, an20, an19, an21, an23], kpO (some an24) none, [])
def an25 : Abs := mkA [[5, -1, 3, 4], [1, 2, -1, -1], [-1, 0, 0, 0]] [[5, 5, 5, 5], [-1, 2, 2, 2]] [[1009], [4004, 11006, 2], [1009, 4004, 11006, 2, 1], [1009, 4004, 11006, 2, 1, 0], [9005, 8004, 2], [1009], [], []] 6
def gn37 : Gst := (an25, [an19, an20, an19, an21, an23, an24], kpO (some an24) none, [])
def an26 : Abs := mkA [[-1, -1, 3, 4], [1, 2, -1, -1], [-1, 0, 0, 0]] [[5, 5, 5, 5], [-1, 2, 2, 2]] [[1009], [4004, 11006, 2], [1009, 4004, 11006, 2, 1], [1009, 4004, 11006, 2, 1, 0], [9005, 8004, 2], [1009], [], []] 6
def gn38 : Gst := (an26, [an20, an19, an21, an23, an24, an25], kpO (some an24) none, [])
def an27 : Abs := mkA [[1, 2, -1, -1], [-1, 0, 0, 0]] [[5, 5, 5, 5], [-1, 2, 2, 2]] [[1009], [4004, 11006, 2], [1009, 4004, 11006, 2, 1], [1009, 4004, 11006, 2, 1, 0], [9005, 8004, 2], [1009], [], []] 6
def gn39 : Gst := (an27, [an19, an21, an23, an24, an25, an26], kpO (some an24) none, [])
def an28 : Abs := mkA [[-1, 0, 0, 0]] [[5, 5, 5, 5], [-1, 2, 2, 2]] [[1009], [4004, 11006, 2], [1009, 4004, 11006, 2, 1], [1009, 4004, 11006, 2, 1, 0], [9005, 8004, 2], [1009], [], []] 6
def gn40 : Gst := (an28, [an21, an23, an24, an25, an26, an27], kpO (some an24) none, [])
def gn41 : Gst := (an24, [an23, an24, an25, an26, an27, an28], kpO (some an24) none, [])
def an29 : Abs := mkA [[5, -1, 3, 4], [1, 2, -1, -1], [-1, 0, 0, 0]] [[5, 5, 5, 5], [-1, 2, 2, 2]] [[1009], [4004, 11006, 2], [1009, 4004, 11006, 2, 1], [1009, 4004, 11006, 2, 1, 0], [9005, 8004, 2], [1009], [2013, 5011, 0, 1], []] 7
def gn42 : Gst := (an29, [an24, an25, an26, an27, an28, an24], kpO (some an24) none, [])
def an30 : Abs := mkA [[1, 2, -1, -1], [-1, 0, 0, 0]] [[5, 5, 5, 5], [-1, 2, 2, 2]] [[1009], [4004, 11006, 2], [1009, 4004, 11006, 2, 1], [1009, 4004, 11006, 2, 1, 0], [9005, 8004, 2], [1009], [2013, 5011, 0, 1], []] 7
def gn43 : Gst := (an30, [an25, an26, an27, an28, an24, an29], kpO (some an24) none, [])
theorem fk0 : eqG gst0 gn0 = true := by decide +kernel
theorem fk1 : (opUndo gn0 ).1 = .inr 2 := by decide +kernel
theorem fk2 : (opGoBack gn0 1).1 = .inr 2 := by decide +kernel
theorem fk3 : opFilter gn0.1 3 0 = .inl (-2) := by decide +kernel
theorem fk4 : opLetter gn0.1 0 0 = .inl (-2) := by decide +kernel
theorem fk5 : opRows gn0.1 1 2 2 0 = .inl (-2) := by decide +kernel
theorem fk6 : opShare gn0.1 0 0 = .inl FP.dconst0 := by decide +kernel
theorem fk7 : Op.cmpValue (FP.dcmp FP.dconst0 FP.dconst0) .l = 0 := by decide +kernel
theorem fk8 : opColumn gn0.1 0 0 3 = .inl (-2) := by decide +kernel
theorem fk9 : opColumn gn0.1 0 0 6 = .inl (-2) := by decide +kernel
theorem fk10 : opGroup gn0.1 1 3 0 0 = .inl (-2) := by decide +kernel
theorem fk11 : opJoin gn0.1 0 0 0 = .inl 0 := by decide +kernel
theorem fk12 : opJoin gn0.1 3 3 3 = .inl (-2) := by decide +kernel
theorem fk13 : opCompare gn0.1 0 0 0 0 = .inl (-2) := by decide +kernel
theorem fk14 : (opCombine gn0 0 1 (dcC 501500500) (dcD 501500500)).1 = .inr 2 := by decide +kernel
theorem fk15 : (opCheck gn0 0 0).1 = .inr 2 := by decide +kernel
theorem fk16 : (opRemove gn0 0 0).1 = .inr 2 := by decide +kernel
theorem fk17 : (opUpdate gn0 0 0 (dcC 500500500) (dcD 500500500)).1 = .inr 2 := by decide +kernel
theorem fk18 : (opCheck gn0 1 (-2)).1 = .inl 0 := by decide +kernel
theorem fk19 : eqG (opCheck gn0 1 (-2)).2 gn1 = true := by decide +kernel
theorem fk20 : (opAdd gn1 0 5 (-1) 3 4).1 = .inl 0 := by decide +kernel
theorem fk21 : eqG (opAdd gn1 0 5 (-1) 3 4).2 gn2 = true := by decide +kernel
theorem fk22 : (opAdd gn2 0 1 2 (-1) (-1)).1 = .inl 1 := by decide +kernel
theorem fk23 : eqG (opAdd gn2 0 1 2 (-1) (-1)).2 gn3 = true := by decide +kernel
theorem fk24 : (opAdd gn3 1 5 5 5 5).1 = .inl 0 := by decide +kernel
theorem fk25 : eqG (opAdd gn3 1 5 5 5 5).2 gn4 = true := by decide +kernel
theorem fk26 : (opAdd gn4 1 (-1) 2 2 2).1 = .inl 1 := by decide +kernel
theorem fk27 : eqG (opAdd gn4 1 (-1) 2 2 2).2 gn5 = true := by decide +kernel
theorem fk28 : tyK 6372661 8 0 = true := by decide +kernel
theorem fk29 : tyL 6372661 8 [] = [97, 61, 53] := by decide +kernel
theorem fk30 : tyK 0 8 [97, 61, 53].length = true := by decide +kernel
theorem fk31 : tyL 0 8 [97, 61, 53] = [97, 61, 53] := by decide +kernel
theorem fk32 : (opDefine gn6 0).1 = .inl 1 := by decide +kernel
theorem fk33 : eqG (opDefine gn6 0).2 gn7 = true := by decide +kernel
theorem fk34 : opTruth gn7.1 0 0 0 = .inl 2 := by decide +kernel
theorem fk35 : opTruth gn7.1 0 1 0 = .inl 0 := by decide +kernel
theorem fk36 : opTruth gn7.1 1 1 0 = .inl 1 := by decide +kernel
theorem fk37 : tyK 108024809340466 8 0 = true := by decide +kernel
theorem fk38 : tyL 108024809340466 8 [] = [98, 63, 124, 99, 62, 50] := by decide +kernel
theorem fk39 : tyK 0 8 [98, 63, 124, 99, 62, 50].length = true := by decide +kernel
theorem fk40 : tyL 0 8 [98, 63, 124, 99, 62, 50] = [98, 63, 124, 99, 62, 50] := by decide +kernel
theorem fk41 : (opDefine gn8 1).1 = .inl 3 := by decide +kernel
theorem fk42 : eqG (opDefine gn8 1).2 gn9 = true := by decide +kernel
theorem fk43 : opTruth gn9.1 0 0 1 = .inl 2 := by decide +kernel
theorem fk44 : opTruth gn9.1 0 1 1 = .inl 1 := by decide +kernel
theorem fk45 : opRows gn9.1 0 1 1 0 = .inl 2 := by decide +kernel
theorem fk46 : opRows gn9.1 0 1 1 1 = .inl 2 := by decide +kernel
theorem fk47 : opRows gn9.1 1 1 0 1 = .inl 2 := by decide +kernel
theorem fk48 : opFilter gn9.1 1 1 = .inl 2 := by decide +kernel
theorem fk49 : opFilter gn9.1 1 2 = .inl 2 := by decide +kernel
theorem fk50 : opFilter gn9.1 1 3 = .inl 6 := by decide +kernel
theorem fk51 : wrK gn9.1 1 108024809340466 0 16 0 0 = true := by decide +kernel
theorem fk52 : (opCombine gn9 2 0 1 1).1 = .inl 5 := by decide +kernel
theorem fk53 : eqG (opCombine gn9 2 0 1 1).2 gn10 = true := by decide +kernel
theorem fk54 : opFilter gn10.1 2 1 = .inl 3 := by decide +kernel
theorem fk55 : wrK gn10.1 2 7006815033260916604 1665020457 16 0 0 = true := by decide +kernel
theorem fk56 : (opCombine gn10 3 2 5 0).1 = .inl 6 := by decide +kernel
theorem fk57 : eqG (opCombine gn10 3 2 5 0).2 gn11 = true := by decide +kernel
theorem fk58 : wrK gn11.1 3 2389266517832640610 17869689219852585 16 0 0 = true := by decide +kernel
theorem fk59 : opTruth gn11.1 0 1 3 = .inl 2 := by decide +kernel
theorem fk60 : opTruth gn11.1 1 1 3 = .inl 2 := by decide +kernel
theorem fk61 : opRows gn11.1 0 3 2 1 = .inl 2 := by decide +kernel
theorem fk62 : opShare gn11.1 0 3 = .inl 4602678819172646912 := by decide +kernel
theorem fk63 : Op.cmpValue (FP.dcmp 4602678819172646912 4602678819172646912) .l = 0 := by decide +kernel
theorem fk64 : opCompare gn11.1 0 0 1 0 = .inl 1 := by decide +kernel
theorem fk65 : opCompare gn11.1 0 0 1 2 = .inl 1 := by decide +kernel
theorem fk66 : opCompare gn11.1 0 1 0 1 = .inl 0 := by decide +kernel
theorem fk67 : opCertain gn11.1 0 1 1 = .inl 1 := by decide +kernel
theorem fk68 : tyK 27933520192289891 8 0 = true := by decide +kernel
theorem fk69 : tyL 27933520192289891 8 [] = [99, 61, 99, 124, 99, 60, 99] := by decide +kernel
theorem fk70 : tyK 0 8 [99, 61, 99, 124, 99, 60, 99].length = true := by decide +kernel
theorem fk71 : tyL 0 8 [99, 61, 99, 124, 99, 60, 99] = [99, 61, 99, 124, 99, 60, 99] := by decide +kernel
theorem fk72 : (opDefine gn12 4).1 = .inl 3 := by decide +kernel
theorem fk73 : eqG (opDefine gn12 4).2 gn13 = true := by decide +kernel
theorem fk74 : opTruth gn13.1 0 1 4 = .inl 1 := by decide +kernel
theorem fk75 : opCertain gn13.1 0 1 4 = .inl 2 := by decide +kernel
theorem fk76 : opCertain gn13.1 0 0 4 = .inl 2 := by decide +kernel
theorem fk77 : tyK 27934623998884964 8 0 = true := by decide +kernel
theorem fk78 : tyL 27934623998884964 8 [] = [99, 62, 100, 124, 99, 60, 100] := by decide +kernel
theorem fk79 : tyK 0 8 [99, 62, 100, 124, 99, 60, 100].length = true := by decide +kernel
theorem fk80 : tyL 0 8 [99, 62, 100, 124, 99, 60, 100] = [99, 62, 100, 124, 99, 60, 100] := by decide +kernel
theorem fk81 : (opDefine gn14 4).1 = .inl 3 := by decide +kernel
theorem fk82 : eqG (opDefine gn14 4).2 gn15 = true := by decide +kernel
theorem fk83 : opCertain gn15.1 0 1 4 = .inl 1 := by decide +kernel
theorem fk84 : tyK 27932419237887285 8 0 = true := by decide +kernel
theorem fk85 : tyL 27932419237887285 8 [] = [99, 60, 99, 38, 100, 61, 53] := by decide +kernel
theorem fk86 : tyK 0 8 [99, 60, 99, 38, 100, 61, 53].length = true := by decide +kernel
theorem fk87 : tyL 0 8 [99, 60, 99, 38, 100, 61, 53] = [99, 60, 99, 38, 100, 61, 53] := by decide +kernel
theorem fk88 : (opDefine gn16 4).1 = .inl 3 := by decide +kernel
theorem fk89 : eqG (opDefine gn16 4).2 gn17 = true := by decide +kernel
theorem fk90 : opTruth gn17.1 0 1 4 = .inl 1 := by decide +kernel
theorem fk91 : opCertain gn17.1 0 1 4 = .inl 0 := by decide +kernel
theorem fk92 : tyK 109114474390335 8 0 = true := by decide +kernel
theorem fk93 : tyL 109114474390335 8 [] = [99, 61, 49, 124, 99, 63] := by decide +kernel
theorem fk94 : tyK 0 8 [99, 61, 49, 124, 99, 63].length = true := by decide +kernel
theorem fk95 : tyL 0 8 [99, 61, 49, 124, 99, 63] = [99, 61, 49, 124, 99, 63] := by decide +kernel
theorem fk96 : (opDefine gn18 4).1 = .inl 3 := by decide +kernel
theorem fk97 : eqG (opDefine gn18 4).2 gn19 = true := by decide +kernel
theorem fk98 : opCertain gn19.1 0 1 4 = .inl 2 := by decide +kernel
theorem fk99 : (opCheck gn19 0 0).1 = .inl 1 := by decide +kernel
theorem fk100 : eqG (opCheck gn19 0 0).2 gn20 = true := by decide +kernel
theorem fk101 : opCount gn20 5 = .inl 1 := by decide +kernel
theorem fk102 : opCount gn20 3 = .inl 0 := by decide +kernel
theorem fk103 : tyK 7006537956213275959 8 0 = true := by decide +kernel
theorem fk104 : tyL 7006537956213275959 8 [] = [97, 60, 57, 38, 33, 98, 61, 55] := by decide +kernel
theorem fk105 : tyK 0 8 [97, 60, 57, 38, 33, 98, 61, 55].length = true := by decide +kernel
theorem fk106 : tyL 0 8 [97, 60, 57, 38, 33, 98, 61, 55] = [97, 60, 57, 38, 33, 98, 61, 55] := by decide +kernel
theorem fk107 : (opDefine gn21 5).1 = .inl 4 := by decide +kernel
theorem fk108 : eqG (opDefine gn21 5).2 gn22 = true := by decide +kernel
theorem fk109 : wrK gn22.1 5 7006537956213275959 0 16 0 0 = true := by decide +kernel
theorem fk110 : opFilter gn22.1 5 1 = .inl 3 := by decide +kernel
theorem fk111 : (opCheck gn22 0 5).1 = .inl 0 := by decide +kernel
theorem fk112 : eqG (opCheck gn22 0 5).2 gn23 = true := by decide +kernel
theorem fk113 : opCount gn23 3 = .inl 1 := by decide +kernel
theorem fk114 : (opAdd gn23 0 9 0 0 0).1 = .inl (-2) := by decide +kernel
theorem fk115 : eqG (opAdd gn23 0 9 0 0 0).2 gn24 = true := by decide +kernel
theorem fk116 : opCount gn24 5 = .inl 2 := by decide +kernel
theorem fk117 : opCount gn24 0 = .inl 2 := by decide +kernel
theorem fk118 : (opAdd gn24 0 (-1) 0 0 0).1 = .inl 2 := by decide +kernel
theorem fk119 : eqG (opAdd gn24 0 (-1) 0 0 0).2 gn25 = true := by decide +kernel
theorem fk120 : opCount gn25 3 = .inl 2 := by decide +kernel
theorem fk121 : (opChange gn25 0 0 0 50).1 = .inl (-2) := by decide +kernel
theorem fk122 : eqG (opChange gn25 0 0 0 50).2 gn26 = true := by decide +kernel
theorem fk123 : opCell gn26.1 0 0 0 = .inl 5 := by decide +kernel
theorem fk124 : (opChange gn26 0 0 1 7).1 = .inl (-2) := by decide +kernel
theorem fk125 : eqG (opChange gn26 0 0 1 7).2 gn27 = true := by decide +kernel
theorem fk126 : (opChange gn27 0 0 1 8).1 = .inl (-1) := by decide +kernel
theorem fk127 : eqG (opChange gn27 0 0 1 8).2 gn28 = true := by decide +kernel
theorem fk128 : opCount gn28 3 = .inl 1 := by decide +kernel
theorem fk129 : (opChange gn28 0 0 1 (-1)).1 = .inl 8 := by decide +kernel
theorem fk130 : eqG (opChange gn28 0 0 1 (-1)).2 gn29 = true := by decide +kernel
theorem fk131 : (opUpdate gn29 0 1 0 70).1 = .inl (-2) := by decide +kernel
theorem fk132 : eqG (opUpdate gn29 0 1 0 70).2 gn30 = true := by decide +kernel
theorem fk133 : opCell gn30.1 0 0 0 = .inl 5 := by decide +kernel
theorem fk134 : opCount gn30 5 = .inl 5 := by decide +kernel
theorem fk135 : (opUpdate gn30 0 1 0 8).1 = .inl 1 := by decide +kernel
theorem fk136 : eqG (opUpdate gn30 0 1 0 8).2 gn31 = true := by decide +kernel
theorem fk137 : opCell gn31.1 0 0 0 = .inl 8 := by decide +kernel
theorem fk138 : (opUndo gn31).1 = .inl 5 := by decide +kernel
theorem fk139 : eqG (opUndo gn31).2 gn32 = true := by decide +kernel
theorem fk140 : (opDefine gn33 5).1 = .inl 1 := by decide +kernel
theorem fk141 : eqG (opDefine gn33 5).2 gn34 = true := by decide +kernel
theorem fk142 : (opAdd gn34 0 10 0 0 0).1 = .inl (-2) := by decide +kernel
theorem fk143 : eqG (opAdd gn34 0 10 0 0 0).2 gn35 = true := by decide +kernel
theorem fk144 : opCount gn35 5 = .inl 6 := by decide +kernel
theorem fk145 : opJoin gn35.1 0 0 0 = .inl 1 := by decide +kernel
theorem fk146 : opJoin gn35.1 0 0 1 = .inl 6 := by decide +kernel
theorem fk147 : opJoin gn35.1 0 0 2 = .inl 2 := by decide +kernel
theorem fk148 : opJoin gn35.1 0 0 3 = .inl 0 := by decide +kernel
theorem fk149 : opJoin gn35.1 0 0 4 = .inl (-2) := by decide +kernel
theorem fk150 : opJoin gn35.1 1 2 0 = .inl 1 := by decide +kernel
theorem fk151 : opJoin gn35.1 1 2 3 = .inl 101 := by decide +kernel
theorem fk152 : opAmong gn35.1 0 0 0 = .inl 2 := by decide +kernel
theorem fk153 : opAmong gn35.1 1 0 0 = .inl 1 := by decide +kernel
theorem fk154 : opAmong gn35.1 1 0 3 = .inl 0 := by decide +kernel
theorem fk155 : opAmong gn35.1 0 1 1 = .inl 1 := by decide +kernel
theorem fk156 : opGroup gn35.1 0 0 0 0 = .inl (-1) := by decide +kernel
theorem fk157 : opGroup gn35.1 0 0 0 1 = .inl 4 := by decide +kernel
theorem fk158 : opGroup gn35.1 0 0 1 0 = .inl 1 := by decide +kernel
theorem fk159 : opGroup gn35.1 0 0 1 7 = .inl 2 := by decide +kernel
theorem fk160 : opGroup gn35.1 0 0 2 1 = .inl 1 := by decide +kernel
theorem fk161 : opGroup gn35.1 0 0 2 4 = .inl 3 := by decide +kernel
theorem fk162 : opGroup gn35.1 0 0 3 0 = .inl (-2) := by decide +kernel
theorem fk163 : opColumn gn35.1 0 2 0 = .inl 2 := by decide +kernel
theorem fk164 : opColumn gn35.1 0 2 1 = .inl 1 := by decide +kernel
theorem fk165 : opColumn gn35.1 0 2 2 = .inl 3 := by decide +kernel
theorem fk166 : opColumn gn35.1 0 2 3 = .inl 0 := by decide +kernel
theorem fk167 : opColumn gn35.1 0 2 4 = .inl 3 := by decide +kernel
theorem fk168 : opColumn gn35.1 0 2 6 = .inl 1 := by decide +kernel
theorem fk169 : opColumn gn35.1 1 1 5 = .inl 2 := by decide +kernel
theorem fk170 : (opKeep gn35 0).1 = .inl 5 := by decide +kernel
theorem fk171 : eqG (opKeep gn35 0).2 gn36 = true := by decide +kernel
theorem fk172 : (opCheck gn36 0 (-2)).1 = .inl 0 := by decide +kernel
theorem fk173 : eqG (opCheck gn36 0 (-2)).2 gn37 = true := by decide +kernel
theorem fk174 : (opUpdate gn37 0 0 0 (-1)).1 = .inl 1 := by decide +kernel
theorem fk175 : eqG (opUpdate gn37 0 0 0 (-1)).2 gn38 = true := by decide +kernel
theorem fk176 : opRows gn38.1 0 0 1 1 = .inl 5 := by decide +kernel
theorem fk177 : (opRemove gn38 0 1).1 = .inl 1 := by decide +kernel
theorem fk178 : eqG (opRemove gn38 0 1).2 gn39 = true := by decide +kernel
theorem fk179 : opCount gn39 0 = .inl 2 := by decide +kernel
theorem fk180 : opCell gn39.1 0 0 1 = .inl 2 := by decide +kernel
theorem fk181 : (opDrop gn39 0 0).1 = .inl 1 := by decide +kernel
theorem fk182 : eqG (opDrop gn39 0 0).2 gn40 = true := by decide +kernel
theorem fk183 : (opGoBack gn40 0).1 = .inl 5 := by decide +kernel
theorem fk184 : eqG (opGoBack gn40 0).2 gn41 = true := by decide +kernel
theorem fk185 : opCount gn41 3 = .inl 2 := by decide +kernel
theorem fk186 : (opAdd gn41 0 10 0 0 0).1 = .inl (-2) := by decide +kernel
theorem fk187 : eqG (opAdd gn41 0 10 0 0 0).2 gn42 = true := by decide +kernel
theorem fk188 : (opRemove gn42 0 0).1 = .inl 1 := by decide +kernel
theorem fk189 : eqG (opRemove gn42 0 0).2 gn43 = true := by decide +kernel
theorem fk190 : opCell gn43.1 0 0 0 = .inl 1 := by decide +kernel
end RWF
