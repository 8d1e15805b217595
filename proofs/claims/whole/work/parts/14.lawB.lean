/-! THE LAW: its rows, its cases, its loop. What is wanted of the pure functions stands in ST_.. -/
section LWB
theorem lg_same {x y : Int64} (h : x = y) : lg_cmp x y = 0 := by subst h; unfold lg_cmp; simp
section
variable {p : Program} {l : Launch} {e : Env} {s : State} {m : MethodId} {args : Array Value} {below : List Frame} {meth : Method} {c : Code} {H : Heap} {locs : List Loc} {cells slots : Nat} {Q : State → Prop}
variable {ls : Array Slot} {g : Gam} {I : Mem} {R : Rem} {P : Pool} {Z : Zed} {b L j : Nat} {xs : Nat → Int32}
theorem aw_sld {cc : ByteArray} {pc nL n : Nat} {own : String} {ret : Option FieldType} {Rm : Room} {rest : List Value} (C0 : CX g p s m args meth c own cc nL ret) (hX : va_X b L xs s s.heap) (hbl : b < s.heap.size) (hg : g.2.2 = s.heap.size) (hW : Wd g I R P Z s.heap H locs) {i : Int32} (hi : i = nI n) (hn : n < L) (hL : L ≤ 3072) (hdg : decode cc pc = .ok (.iaload, 1))
    (K : W p l e Rm s m args below meth c H locs cells slots Q (F0 m (pc + 1) ls (.int (xs n) :: rest))) : W p l e Rm s m args below meth c H locs cells slots Q (F0 m pc ls (.int i :: .ref b :: rest)) := by
  subst hi
  refine va_sld C0.1 C0.2.1 hX hbl (show ¬ AA g b by unfold AA; omega) hW.2 (vp_in_nI hn (by omega)) hdg ?_
  rw [nI_clamp (by omega)]
  exact K
end
theorem wc37 : Cond.codeWith yL_add cL_add 8 (some .int) [(0, 16, 19, 13), (0, 16, 23, 15), (0, 16, 27, 17)] ∈ GT := GT_mem (List.mem_append_right _ (List.mem_of_getElem? (i := 276) (by decide +kernel))) (by decide +kernel)
theorem wc38 : Cond.methodLink RL 101 yL_add ∈ GT := GT_mem (List.mem_append_right _ (List.mem_of_getElem? (i := 274) (by decide +kernel))) (by decide +kernel)
theorem wc39 : Cond.static yL_add ∈ GT := GT_mem (List.mem_append_right _ (List.mem_of_getElem? (i := 275) (by decide +kernel))) (by decide +kernel)
theorem wc40 : Cond.initialized RL ∈ GT := GT_mem (List.mem_append_right _ (List.mem_of_getElem? (i := 0) (by decide +kernel))) (by decide +kernel)
theorem wc41 : Cond.methodLink RL 106 yX9_add ∈ GT := GT_mem (List.mem_append_right _ (List.mem_of_getElem? (i := 988) (by decide +kernel))) (by decide +kernel)
theorem wc42 : Cond.instanceMethod yX9_add ∈ GT := GT_mem (List.mem_append_right _ (List.mem_of_getElem? (i := 989) (by decide +kernel))) (by decide +kernel)
theorem wc43 : Cond.selects RX9 yX9_add yX9_add ∈ GT := GT_mem (List.mem_append_right _ (List.mem_of_getElem? (i := 990) (by decide +kernel))) (by decide +kernel)
theorem wc44 : Cond.code yX9_add cX9_add 8 (some .int) ∈ GT := GT_mem (List.mem_append_right _ (List.mem_of_getElem? (i := 991) (by decide +kernel))) (by decide +kernel)
theorem wc45 : Cond.methodLink RL 107 yX9_thrown ∈ GT := GT_mem (List.mem_append_right _ (List.mem_of_getElem? (i := 984) (by decide +kernel))) (by decide +kernel)
theorem wc46 : Cond.instanceMethod yX9_thrown ∈ GT := GT_mem (List.mem_append_right _ (List.mem_of_getElem? (i := 985) (by decide +kernel))) (by decide +kernel)
theorem wc47 : Cond.selects RX9 yX9_thrown yX9_thrown ∈ GT := GT_mem (List.mem_append_right _ (List.mem_of_getElem? (i := 986) (by decide +kernel))) (by decide +kernel)
theorem wc48 : Cond.code yX9_thrown cX9_thrown 1 (some .int) ∈ GT := GT_mem (List.mem_append_right _ (List.mem_of_getElem? (i := 987) (by decide +kernel))) (by decide +kernel)
theorem wc49 : Cond.codeWith yL_change cL_change 7 (some .int) [(0, 14, 17, 13), (0, 14, 21, 15)] ∈ GT := GT_mem (List.mem_append_right _ (List.mem_of_getElem? (i := 471) (by decide +kernel))) (by decide +kernel)
theorem wc50 : Cond.methodLink RL 110 yL_change ∈ GT := GT_mem (List.mem_append_right _ (List.mem_of_getElem? (i := 469) (by decide +kernel))) (by decide +kernel)
theorem wc51 : Cond.static yL_change ∈ GT := GT_mem (List.mem_append_right _ (List.mem_of_getElem? (i := 470) (by decide +kernel))) (by decide +kernel)
theorem wc52 : Cond.methodLink RL 113 yX9_change ∈ GT := GT_mem (List.mem_append_right _ (List.mem_of_getElem? (i := 1070) (by decide +kernel))) (by decide +kernel)
theorem wc53 : Cond.instanceMethod yX9_change ∈ GT := GT_mem (List.mem_append_right _ (List.mem_of_getElem? (i := 1071) (by decide +kernel))) (by decide +kernel)
theorem wc54 : Cond.selects RX9 yX9_change yX9_change ∈ GT := GT_mem (List.mem_append_right _ (List.mem_of_getElem? (i := 1072) (by decide +kernel))) (by decide +kernel)
theorem wc55 : Cond.code yX9_change cX9_change 6 (some .int) ∈ GT := GT_mem (List.mem_append_right _ (List.mem_of_getElem? (i := 1073) (by decide +kernel))) (by decide +kernel)
theorem wc56 : Cond.codeWith yL_drop cL_drop 5 (some .int) [(0, 10, 13, 13)] ∈ GT := GT_mem (List.mem_append_right _ (List.mem_of_getElem? (i := 495) (by decide +kernel))) (by decide +kernel)
theorem wc57 : Cond.methodLink RL 114 yL_drop ∈ GT := GT_mem (List.mem_append_right _ (List.mem_of_getElem? (i := 493) (by decide +kernel))) (by decide +kernel)
theorem wc58 : Cond.static yL_drop ∈ GT := GT_mem (List.mem_append_right _ (List.mem_of_getElem? (i := 494) (by decide +kernel))) (by decide +kernel)
theorem wc59 : Cond.methodLink RL 117 yX9_drop ∈ GT := GT_mem (List.mem_append_right _ (List.mem_of_getElem? (i := 1081) (by decide +kernel))) (by decide +kernel)
theorem wc60 : Cond.instanceMethod yX9_drop ∈ GT := GT_mem (List.mem_append_right _ (List.mem_of_getElem? (i := 1082) (by decide +kernel))) (by decide +kernel)
theorem wc61 : Cond.selects RX9 yX9_drop yX9_drop ∈ GT := GT_mem (List.mem_append_right _ (List.mem_of_getElem? (i := 1083) (by decide +kernel))) (by decide +kernel)
theorem wc62 : Cond.code yX9_drop cX9_drop 3 (some .int) ∈ GT := GT_mem (List.mem_append_right _ (List.mem_of_getElem? (i := 1084) (by decide +kernel))) (by decide +kernel)
theorem wc63 : Cond.codeWith yL_define cL_define 4 (some .int) [(0, 9, 12, 13), (0, 9, 15, 15)] ∈ GT := GT_mem (List.mem_append_right _ (List.mem_of_getElem? (i := 507) (by decide +kernel))) (by decide +kernel)
theorem wc64 : Cond.methodLink RL 118 yL_define ∈ GT := GT_mem (List.mem_append_right _ (List.mem_of_getElem? (i := 505) (by decide +kernel))) (by decide +kernel)
theorem wc65 : Cond.static yL_define ∈ GT := GT_mem (List.mem_append_right _ (List.mem_of_getElem? (i := 506) (by decide +kernel))) (by decide +kernel)
theorem wc66 : Cond.methodLink RL 121 yX9_define ∈ GT := GT_mem (List.mem_append_right _ (List.mem_of_getElem? (i := 1089) (by decide +kernel))) (by decide +kernel)
theorem wc67 : Cond.instanceMethod yX9_define ∈ GT := GT_mem (List.mem_append_right _ (List.mem_of_getElem? (i := 1090) (by decide +kernel))) (by decide +kernel)
theorem wc68 : Cond.selects RX9 yX9_define yX9_define ∈ GT := GT_mem (List.mem_append_right _ (List.mem_of_getElem? (i := 1091) (by decide +kernel))) (by decide +kernel)
theorem wc69 : Cond.code yX9_define cX9_define 2 (some .int) ∈ GT := GT_mem (List.mem_append_right _ (List.mem_of_getElem? (i := 1092) (by decide +kernel))) (by decide +kernel)
theorem wc70 : Cond.codeWith yL_combine cL_combine 7 (some .int) [(0, 14, 17, 13), (0, 14, 21, 15), (0, 14, 25, 17)] ∈ GT := GT_mem (List.mem_append_right _ (List.mem_of_getElem? (i := 543) (by decide +kernel))) (by decide +kernel)
theorem wc71 : Cond.methodLink RL 122 yL_combine ∈ GT := GT_mem (List.mem_append_right _ (List.mem_of_getElem? (i := 541) (by decide +kernel))) (by decide +kernel)
theorem wc72 : Cond.static yL_combine ∈ GT := GT_mem (List.mem_append_right _ (List.mem_of_getElem? (i := 542) (by decide +kernel))) (by decide +kernel)
theorem wc73 : Cond.methodLink RL 124 yX9_combine ∈ GT := GT_mem (List.mem_append_right _ (List.mem_of_getElem? (i := 1155) (by decide +kernel))) (by decide +kernel)
theorem wc74 : Cond.instanceMethod yX9_combine ∈ GT := GT_mem (List.mem_append_right _ (List.mem_of_getElem? (i := 1156) (by decide +kernel))) (by decide +kernel)
theorem wc75 : Cond.selects RX9 yX9_combine yX9_combine ∈ GT := GT_mem (List.mem_append_right _ (List.mem_of_getElem? (i := 1157) (by decide +kernel))) (by decide +kernel)
theorem wc76 : Cond.code yX9_combine cX9_combine 6 (some .int) ∈ GT := GT_mem (List.mem_append_right _ (List.mem_of_getElem? (i := 1158) (by decide +kernel))) (by decide +kernel)
theorem wc77 : Cond.codeWith yL_check cL_check 5 (some .int) [(0, 10, 13, 13), (0, 10, 17, 17)] ∈ GT := GT_mem (List.mem_append_right _ (List.mem_of_getElem? (i := 575) (by decide +kernel))) (by decide +kernel)
theorem wc78 : Cond.methodLink RL 125 yL_check ∈ GT := GT_mem (List.mem_append_right _ (List.mem_of_getElem? (i := 573) (by decide +kernel))) (by decide +kernel)
theorem wc79 : Cond.static yL_check ∈ GT := GT_mem (List.mem_append_right _ (List.mem_of_getElem? (i := 574) (by decide +kernel))) (by decide +kernel)
theorem wc80 : Cond.methodLink RL 127 yX9_check ∈ GT := GT_mem (List.mem_append_right _ (List.mem_of_getElem? (i := 1163) (by decide +kernel))) (by decide +kernel)
theorem wc81 : Cond.instanceMethod yX9_check ∈ GT := GT_mem (List.mem_append_right _ (List.mem_of_getElem? (i := 1164) (by decide +kernel))) (by decide +kernel)
theorem wc82 : Cond.selects RX9 yX9_check yX9_check ∈ GT := GT_mem (List.mem_append_right _ (List.mem_of_getElem? (i := 1165) (by decide +kernel))) (by decide +kernel)
theorem wc83 : Cond.code yX9_check cX9_check 4 (some .int) ∈ GT := GT_mem (List.mem_append_right _ (List.mem_of_getElem? (i := 1166) (by decide +kernel))) (by decide +kernel)
theorem wc84 : Cond.codeWith yL_remove cL_remove 5 (some .int) [(0, 10, 13, 13), (0, 10, 17, 17)] ∈ GT := GT_mem (List.mem_append_right _ (List.mem_of_getElem? (i := 600) (by decide +kernel))) (by decide +kernel)
theorem wc85 : Cond.methodLink RL 128 yL_remove ∈ GT := GT_mem (List.mem_append_right _ (List.mem_of_getElem? (i := 598) (by decide +kernel))) (by decide +kernel)
theorem wc86 : Cond.static yL_remove ∈ GT := GT_mem (List.mem_append_right _ (List.mem_of_getElem? (i := 599) (by decide +kernel))) (by decide +kernel)
theorem wc87 : Cond.methodLink RL 130 yX9_remove ∈ GT := GT_mem (List.mem_append_right _ (List.mem_of_getElem? (i := 1178) (by decide +kernel))) (by decide +kernel)
theorem wc88 : Cond.instanceMethod yX9_remove ∈ GT := GT_mem (List.mem_append_right _ (List.mem_of_getElem? (i := 1179) (by decide +kernel))) (by decide +kernel)
theorem wc89 : Cond.selects RX9 yX9_remove yX9_remove ∈ GT := GT_mem (List.mem_append_right _ (List.mem_of_getElem? (i := 1180) (by decide +kernel))) (by decide +kernel)
theorem wc90 : Cond.code yX9_remove cX9_remove 5 (some .int) ∈ GT := GT_mem (List.mem_append_right _ (List.mem_of_getElem? (i := 1181) (by decide +kernel))) (by decide +kernel)
theorem wc91 : Cond.codeWith yL_update cL_update 7 (some .int) [(0, 14, 17, 13), (0, 14, 21, 15), (0, 14, 25, 17)] ∈ GT := GT_mem (List.mem_append_right _ (List.mem_of_getElem? (i := 607) (by decide +kernel))) (by decide +kernel)
theorem wc92 : Cond.methodLink RL 131 yL_update ∈ GT := GT_mem (List.mem_append_right _ (List.mem_of_getElem? (i := 605) (by decide +kernel))) (by decide +kernel)
theorem wc93 : Cond.static yL_update ∈ GT := GT_mem (List.mem_append_right _ (List.mem_of_getElem? (i := 606) (by decide +kernel))) (by decide +kernel)
theorem wc94 : Cond.methodLink RL 133 yX9_update ∈ GT := GT_mem (List.mem_append_right _ (List.mem_of_getElem? (i := 1182) (by decide +kernel))) (by decide +kernel)
theorem wc95 : Cond.instanceMethod yX9_update ∈ GT := GT_mem (List.mem_append_right _ (List.mem_of_getElem? (i := 1183) (by decide +kernel))) (by decide +kernel)
theorem wc96 : Cond.selects RX9 yX9_update yX9_update ∈ GT := GT_mem (List.mem_append_right _ (List.mem_of_getElem? (i := 1184) (by decide +kernel))) (by decide +kernel)
theorem wc97 : Cond.code yX9_update cX9_update 8 (some .int) ∈ GT := GT_mem (List.mem_append_right _ (List.mem_of_getElem? (i := 1185) (by decide +kernel))) (by decide +kernel)
theorem wc98 : Cond.codeWith yL_append cL_append 4 (some .int) [(0, 9, 12, 15), (0, 9, 15, 17)] ∈ GT := GT_mem (List.mem_append_right _ (List.mem_of_getElem? (i := 614) (by decide +kernel))) (by decide +kernel)
theorem wc99 : Cond.methodLink RL 134 yL_append ∈ GT := GT_mem (List.mem_append_right _ (List.mem_of_getElem? (i := 612) (by decide +kernel))) (by decide +kernel)
theorem wc100 : Cond.static yL_append ∈ GT := GT_mem (List.mem_append_right _ (List.mem_of_getElem? (i := 613) (by decide +kernel))) (by decide +kernel)
theorem wc101 : Cond.methodLink RL 136 yX9_append ∈ GT := GT_mem (List.mem_append_right _ (List.mem_of_getElem? (i := 1190) (by decide +kernel))) (by decide +kernel)
theorem wc102 : Cond.instanceMethod yX9_append ∈ GT := GT_mem (List.mem_append_right _ (List.mem_of_getElem? (i := 1191) (by decide +kernel))) (by decide +kernel)
theorem wc103 : Cond.selects RX9 yX9_append yX9_append ∈ GT := GT_mem (List.mem_append_right _ (List.mem_of_getElem? (i := 1192) (by decide +kernel))) (by decide +kernel)
theorem wc104 : Cond.code yX9_append cX9_append 2 (some .int) ∈ GT := GT_mem (List.mem_append_right _ (List.mem_of_getElem? (i := 1193) (by decide +kernel))) (by decide +kernel)
theorem wc105 : Cond.methodLink RL 137 yX8_clearBuffer ∈ GT := GT_mem (List.mem_append_right _ (List.mem_of_getElem? (i := 191) (by decide +kernel))) (by decide +kernel)
theorem wc106 : Cond.instanceMethod yX8_clearBuffer ∈ GT := GT_mem (List.mem_append_right _ (List.mem_of_getElem? (i := 192) (by decide +kernel))) (by decide +kernel)
theorem wc107 : Cond.selects RX8 yX8_clearBuffer yX8_clearBuffer ∈ GT := GT_mem (List.mem_append_right _ (List.mem_of_getElem? (i := 193) (by decide +kernel))) (by decide +kernel)
theorem wc108 : Cond.code yX8_clearBuffer cX8_clearBuffer 2 (some .int) ∈ GT := GT_mem (List.mem_append_right _ (List.mem_of_getElem? (i := 194) (by decide +kernel))) (by decide +kernel)
theorem wc109 : Cond.methodLink RL 140 yX9_clearBuffer ∈ GT := GT_mem (List.mem_append_right _ (List.mem_of_getElem? (i := 1194) (by decide +kernel))) (by decide +kernel)
theorem wc110 : Cond.instanceMethod yX9_clearBuffer ∈ GT := GT_mem (List.mem_append_right _ (List.mem_of_getElem? (i := 1195) (by decide +kernel))) (by decide +kernel)
theorem wc111 : Cond.selects RX9 yX9_clearBuffer yX9_clearBuffer ∈ GT := GT_mem (List.mem_append_right _ (List.mem_of_getElem? (i := 1196) (by decide +kernel))) (by decide +kernel)
theorem wc112 : Cond.code yX9_clearBuffer cX9_clearBuffer 2 (some .int) ∈ GT := GT_mem (List.mem_append_right _ (List.mem_of_getElem? (i := 1197) (by decide +kernel))) (by decide +kernel)
theorem wc113 : Cond.methodLink RL 141 yX8_firstError ∈ GT := GT_mem (List.mem_append_right _ (List.mem_of_getElem? (i := 195) (by decide +kernel))) (by decide +kernel)
theorem wc114 : Cond.instanceMethod yX8_firstError ∈ GT := GT_mem (List.mem_append_right _ (List.mem_of_getElem? (i := 196) (by decide +kernel))) (by decide +kernel)
theorem wc115 : Cond.selects RX8 yX8_firstError yX8_firstError ∈ GT := GT_mem (List.mem_append_right _ (List.mem_of_getElem? (i := 197) (by decide +kernel))) (by decide +kernel)
theorem wc116 : Cond.code yX8_firstError cX8_firstError 1 (some .int) ∈ GT := GT_mem (List.mem_append_right _ (List.mem_of_getElem? (i := 198) (by decide +kernel))) (by decide +kernel)
theorem wc117 : Cond.methodLink RL 144 yX9_firstError ∈ GT := GT_mem (List.mem_append_right _ (List.mem_of_getElem? (i := 1198) (by decide +kernel))) (by decide +kernel)
theorem wc118 : Cond.instanceMethod yX9_firstError ∈ GT := GT_mem (List.mem_append_right _ (List.mem_of_getElem? (i := 1199) (by decide +kernel))) (by decide +kernel)
theorem wc119 : Cond.selects RX9 yX9_firstError yX9_firstError ∈ GT := GT_mem (List.mem_append_right _ (List.mem_of_getElem? (i := 1200) (by decide +kernel))) (by decide +kernel)
theorem wc120 : Cond.code yX9_firstError cX9_firstError 1 (some .int) ∈ GT := GT_mem (List.mem_append_right _ (List.mem_of_getElem? (i := 1201) (by decide +kernel))) (by decide +kernel)
theorem wc121 : Cond.codeWith yL_undo cL_undo 3 (some .int) [(0, 8, 11, 17)] ∈ GT := GT_mem (List.mem_append_right _ (List.mem_of_getElem? (i := 623) (by decide +kernel))) (by decide +kernel)
theorem wc122 : Cond.methodLink RL 145 yL_undo ∈ GT := GT_mem (List.mem_append_right _ (List.mem_of_getElem? (i := 621) (by decide +kernel))) (by decide +kernel)
theorem wc123 : Cond.static yL_undo ∈ GT := GT_mem (List.mem_append_right _ (List.mem_of_getElem? (i := 622) (by decide +kernel))) (by decide +kernel)
theorem wc124 : Cond.methodLink RL 148 yX9_undo ∈ GT := GT_mem (List.mem_append_right _ (List.mem_of_getElem? (i := 1202) (by decide +kernel))) (by decide +kernel)
theorem wc125 : Cond.instanceMethod yX9_undo ∈ GT := GT_mem (List.mem_append_right _ (List.mem_of_getElem? (i := 1203) (by decide +kernel))) (by decide +kernel)
theorem wc126 : Cond.selects RX9 yX9_undo yX9_undo ∈ GT := GT_mem (List.mem_append_right _ (List.mem_of_getElem? (i := 1204) (by decide +kernel))) (by decide +kernel)
theorem wc127 : Cond.code yX9_undo cX9_undo 1 (some .int) ∈ GT := GT_mem (List.mem_append_right _ (List.mem_of_getElem? (i := 1205) (by decide +kernel))) (by decide +kernel)
theorem wc128 : Cond.codeWith yL_keep cL_keep 4 (some .int) [(0, 9, 12, 15)] ∈ GT := GT_mem (List.mem_append_right _ (List.mem_of_getElem? (i := 631) (by decide +kernel))) (by decide +kernel)
theorem wc129 : Cond.methodLink RL 149 yL_keep ∈ GT := GT_mem (List.mem_append_right _ (List.mem_of_getElem? (i := 629) (by decide +kernel))) (by decide +kernel)
theorem wc130 : Cond.static yL_keep ∈ GT := GT_mem (List.mem_append_right _ (List.mem_of_getElem? (i := 630) (by decide +kernel))) (by decide +kernel)
theorem wc131 : Cond.methodLink RL 151 yX9_keep ∈ GT := GT_mem (List.mem_append_right _ (List.mem_of_getElem? (i := 1206) (by decide +kernel))) (by decide +kernel)
theorem wc132 : Cond.instanceMethod yX9_keep ∈ GT := GT_mem (List.mem_append_right _ (List.mem_of_getElem? (i := 1207) (by decide +kernel))) (by decide +kernel)
theorem wc133 : Cond.selects RX9 yX9_keep yX9_keep ∈ GT := GT_mem (List.mem_append_right _ (List.mem_of_getElem? (i := 1208) (by decide +kernel))) (by decide +kernel)
theorem wc134 : Cond.code yX9_keep cX9_keep 2 (some .int) ∈ GT := GT_mem (List.mem_append_right _ (List.mem_of_getElem? (i := 1209) (by decide +kernel))) (by decide +kernel)
theorem wc135 : Cond.codeWith yL_goBack cL_goBack 4 (some .int) [(0, 9, 12, 15), (0, 9, 15, 17)] ∈ GT := GT_mem (List.mem_append_right _ (List.mem_of_getElem? (i := 642) (by decide +kernel))) (by decide +kernel)
theorem wc136 : Cond.methodLink RL 152 yL_goBack ∈ GT := GT_mem (List.mem_append_right _ (List.mem_of_getElem? (i := 640) (by decide +kernel))) (by decide +kernel)
theorem wc137 : Cond.static yL_goBack ∈ GT := GT_mem (List.mem_append_right _ (List.mem_of_getElem? (i := 641) (by decide +kernel))) (by decide +kernel)
theorem wc138 : Cond.methodLink RL 154 yX9_goBack ∈ GT := GT_mem (List.mem_append_right _ (List.mem_of_getElem? (i := 1214) (by decide +kernel))) (by decide +kernel)
theorem wc139 : Cond.instanceMethod yX9_goBack ∈ GT := GT_mem (List.mem_append_right _ (List.mem_of_getElem? (i := 1215) (by decide +kernel))) (by decide +kernel)
theorem wc140 : Cond.selects RX9 yX9_goBack yX9_goBack ∈ GT := GT_mem (List.mem_append_right _ (List.mem_of_getElem? (i := 1216) (by decide +kernel))) (by decide +kernel)
theorem wc141 : Cond.code yX9_goBack cX9_goBack 2 (some .int) ∈ GT := GT_mem (List.mem_append_right _ (List.mem_of_getElem? (i := 1217) (by decide +kernel))) (by decide +kernel)
theorem wc142 : Cond.codeWith yL_cell cL_cell 6 (some .int) [(0, 12, 15, 13)] ∈ GT := GT_mem (List.mem_append_right _ (List.mem_of_getElem? (i := 650) (by decide +kernel))) (by decide +kernel)
theorem wc143 : Cond.methodLink RL 155 yL_cell ∈ GT := GT_mem (List.mem_append_right _ (List.mem_of_getElem? (i := 648) (by decide +kernel))) (by decide +kernel)
theorem wc144 : Cond.static yL_cell ∈ GT := GT_mem (List.mem_append_right _ (List.mem_of_getElem? (i := 649) (by decide +kernel))) (by decide +kernel)
theorem wc145 : Cond.methodLink RL 158 yX9_cell ∈ GT := GT_mem (List.mem_append_right _ (List.mem_of_getElem? (i := 1218) (by decide +kernel))) (by decide +kernel)
theorem wc146 : Cond.instanceMethod yX9_cell ∈ GT := GT_mem (List.mem_append_right _ (List.mem_of_getElem? (i := 1219) (by decide +kernel))) (by decide +kernel)
theorem wc147 : Cond.selects RX9 yX9_cell yX9_cell ∈ GT := GT_mem (List.mem_append_right _ (List.mem_of_getElem? (i := 1220) (by decide +kernel))) (by decide +kernel)
theorem wc148 : Cond.code yX9_cell cX9_cell 4 (some .int) ∈ GT := GT_mem (List.mem_append_right _ (List.mem_of_getElem? (i := 1221) (by decide +kernel))) (by decide +kernel)
theorem wc149 : Cond.codeWith yL_column cL_column 6 (some .int) [(0, 12, 15, 13), (0, 12, 19, 15)] ∈ GT := GT_mem (List.mem_append_right _ (List.mem_of_getElem? (i := 657) (by decide +kernel))) (by decide +kernel)
theorem wc150 : Cond.methodLink RL 159 yL_column ∈ GT := GT_mem (List.mem_append_right _ (List.mem_of_getElem? (i := 655) (by decide +kernel))) (by decide +kernel)
theorem wc151 : Cond.static yL_column ∈ GT := GT_mem (List.mem_append_right _ (List.mem_of_getElem? (i := 656) (by decide +kernel))) (by decide +kernel)
theorem wc152 : Cond.methodLink RL 161 yX9_column ∈ GT := GT_mem (List.mem_append_right _ (List.mem_of_getElem? (i := 1222) (by decide +kernel))) (by decide +kernel)
theorem wc153 : Cond.instanceMethod yX9_column ∈ GT := GT_mem (List.mem_append_right _ (List.mem_of_getElem? (i := 1223) (by decide +kernel))) (by decide +kernel)
theorem wc154 : Cond.selects RX9 yX9_column yX9_column ∈ GT := GT_mem (List.mem_append_right _ (List.mem_of_getElem? (i := 1224) (by decide +kernel))) (by decide +kernel)
theorem wc155 : Cond.code yX9_column cX9_column 4 (some .int) ∈ GT := GT_mem (List.mem_append_right _ (List.mem_of_getElem? (i := 1225) (by decide +kernel))) (by decide +kernel)
theorem wc156 : Cond.codeWith yL_group cL_group 7 (some .int) [(0, 14, 17, 13), (0, 14, 21, 15)] ∈ GT := GT_mem (List.mem_append_right _ (List.mem_of_getElem? (i := 674) (by decide +kernel))) (by decide +kernel)
theorem wc157 : Cond.methodLink RL 162 yL_group ∈ GT := GT_mem (List.mem_append_right _ (List.mem_of_getElem? (i := 672) (by decide +kernel))) (by decide +kernel)
theorem wc158 : Cond.static yL_group ∈ GT := GT_mem (List.mem_append_right _ (List.mem_of_getElem? (i := 673) (by decide +kernel))) (by decide +kernel)
theorem wc159 : Cond.methodLink RL 164 yX9_group ∈ GT := GT_mem (List.mem_append_right _ (List.mem_of_getElem? (i := 1254) (by decide +kernel))) (by decide +kernel)
theorem wc160 : Cond.instanceMethod yX9_group ∈ GT := GT_mem (List.mem_append_right _ (List.mem_of_getElem? (i := 1255) (by decide +kernel))) (by decide +kernel)
theorem wc161 : Cond.selects RX9 yX9_group yX9_group ∈ GT := GT_mem (List.mem_append_right _ (List.mem_of_getElem? (i := 1256) (by decide +kernel))) (by decide +kernel)
theorem wc162 : Cond.code yX9_group cX9_group 5 (some .int) ∈ GT := GT_mem (List.mem_append_right _ (List.mem_of_getElem? (i := 1257) (by decide +kernel))) (by decide +kernel)
theorem wc163 : Cond.codeWith yL_truth cL_truth 6 (some .int) [(0, 12, 15, 13)] ∈ GT := GT_mem (List.mem_append_right _ (List.mem_of_getElem? (i := 694) (by decide +kernel))) (by decide +kernel)
theorem wc164 : Cond.methodLink RL 165 yL_truth ∈ GT := GT_mem (List.mem_append_right _ (List.mem_of_getElem? (i := 692) (by decide +kernel))) (by decide +kernel)
theorem wc165 : Cond.static yL_truth ∈ GT := GT_mem (List.mem_append_right _ (List.mem_of_getElem? (i := 693) (by decide +kernel))) (by decide +kernel)
theorem wc166 : Cond.methodLink RL 167 yX9_truth ∈ GT := GT_mem (List.mem_append_right _ (List.mem_of_getElem? (i := 1270) (by decide +kernel))) (by decide +kernel)
theorem wc167 : Cond.instanceMethod yX9_truth ∈ GT := GT_mem (List.mem_append_right _ (List.mem_of_getElem? (i := 1271) (by decide +kernel))) (by decide +kernel)
theorem wc168 : Cond.selects RX9 yX9_truth yX9_truth ∈ GT := GT_mem (List.mem_append_right _ (List.mem_of_getElem? (i := 1272) (by decide +kernel))) (by decide +kernel)
theorem wc169 : Cond.code yX9_truth cX9_truth 4 (some .int) ∈ GT := GT_mem (List.mem_append_right _ (List.mem_of_getElem? (i := 1273) (by decide +kernel))) (by decide +kernel)
theorem wc170 : Cond.codeWith yL_rows cL_rows 7 (some .int) [(0, 14, 17, 13), (0, 14, 21, 15)] ∈ GT := GT_mem (List.mem_append_right _ (List.mem_of_getElem? (i := 701) (by decide +kernel))) (by decide +kernel)
theorem wc171 : Cond.methodLink RL 168 yL_rows ∈ GT := GT_mem (List.mem_append_right _ (List.mem_of_getElem? (i := 699) (by decide +kernel))) (by decide +kernel)
theorem wc172 : Cond.static yL_rows ∈ GT := GT_mem (List.mem_append_right _ (List.mem_of_getElem? (i := 700) (by decide +kernel))) (by decide +kernel)
theorem wc173 : Cond.methodLink RL 170 yX9_rows ∈ GT := GT_mem (List.mem_append_right _ (List.mem_of_getElem? (i := 1274) (by decide +kernel))) (by decide +kernel)
theorem wc174 : Cond.instanceMethod yX9_rows ∈ GT := GT_mem (List.mem_append_right _ (List.mem_of_getElem? (i := 1275) (by decide +kernel))) (by decide +kernel)
theorem wc175 : Cond.selects RX9 yX9_rows yX9_rows ∈ GT := GT_mem (List.mem_append_right _ (List.mem_of_getElem? (i := 1276) (by decide +kernel))) (by decide +kernel)
theorem wc176 : Cond.code yX9_rows cX9_rows 5 (some .int) ∈ GT := GT_mem (List.mem_append_right _ (List.mem_of_getElem? (i := 1277) (by decide +kernel))) (by decide +kernel)
theorem wc177 : Cond.codeWith yL_filter cL_filter 5 (some .int) [(0, 10, 13, 13), (0, 10, 17, 15)] ∈ GT := GT_mem (List.mem_append_right _ (List.mem_of_getElem? (i := 740) (by decide +kernel))) (by decide +kernel)
theorem wc178 : Cond.methodLink RL 171 yL_filter ∈ GT := GT_mem (List.mem_append_right _ (List.mem_of_getElem? (i := 738) (by decide +kernel))) (by decide +kernel)
theorem wc179 : Cond.static yL_filter ∈ GT := GT_mem (List.mem_append_right _ (List.mem_of_getElem? (i := 739) (by decide +kernel))) (by decide +kernel)
theorem wc180 : Cond.methodLink RL 173 yX9_filter ∈ GT := GT_mem (List.mem_append_right _ (List.mem_of_getElem? (i := 1278) (by decide +kernel))) (by decide +kernel)
theorem wc181 : Cond.instanceMethod yX9_filter ∈ GT := GT_mem (List.mem_append_right _ (List.mem_of_getElem? (i := 1279) (by decide +kernel))) (by decide +kernel)
theorem wc182 : Cond.selects RX9 yX9_filter yX9_filter ∈ GT := GT_mem (List.mem_append_right _ (List.mem_of_getElem? (i := 1280) (by decide +kernel))) (by decide +kernel)
theorem wc183 : Cond.code yX9_filter cX9_filter 3 (some .int) ∈ GT := GT_mem (List.mem_append_right _ (List.mem_of_getElem? (i := 1281) (by decide +kernel))) (by decide +kernel)
theorem wc184 : Cond.codeWith yL_letter cL_letter 5 (some .int) [(0, 10, 13, 13), (0, 10, 17, 15)] ∈ GT := GT_mem (List.mem_append_right _ (List.mem_of_getElem? (i := 810) (by decide +kernel))) (by decide +kernel)
theorem wc185 : Cond.methodLink RL 174 yL_letter ∈ GT := GT_mem (List.mem_append_right _ (List.mem_of_getElem? (i := 808) (by decide +kernel))) (by decide +kernel)
theorem wc186 : Cond.static yL_letter ∈ GT := GT_mem (List.mem_append_right _ (List.mem_of_getElem? (i := 809) (by decide +kernel))) (by decide +kernel)
theorem wc187 : Cond.methodLink RL 176 yX9_letter ∈ GT := GT_mem (List.mem_append_right _ (List.mem_of_getElem? (i := 1326) (by decide +kernel))) (by decide +kernel)
theorem wc188 : Cond.instanceMethod yX9_letter ∈ GT := GT_mem (List.mem_append_right _ (List.mem_of_getElem? (i := 1327) (by decide +kernel))) (by decide +kernel)
theorem wc189 : Cond.selects RX9 yX9_letter yX9_letter ∈ GT := GT_mem (List.mem_append_right _ (List.mem_of_getElem? (i := 1328) (by decide +kernel))) (by decide +kernel)
theorem wc190 : Cond.code yX9_letter cX9_letter 3 (some .int) ∈ GT := GT_mem (List.mem_append_right _ (List.mem_of_getElem? (i := 1329) (by decide +kernel))) (by decide +kernel)
theorem wc191 : Cond.codeWith yL_compare cL_compare 7 (some .int) [(0, 14, 17, 13), (0, 14, 21, 15)] ∈ GT := GT_mem (List.mem_append_right _ (List.mem_of_getElem? (i := 822) (by decide +kernel))) (by decide +kernel)
theorem wc192 : Cond.methodLink RL 177 yL_compare ∈ GT := GT_mem (List.mem_append_right _ (List.mem_of_getElem? (i := 820) (by decide +kernel))) (by decide +kernel)
theorem wc193 : Cond.static yL_compare ∈ GT := GT_mem (List.mem_append_right _ (List.mem_of_getElem? (i := 821) (by decide +kernel))) (by decide +kernel)
theorem wc194 : Cond.methodLink RL 179 yX9_compare ∈ GT := GT_mem (List.mem_append_right _ (List.mem_of_getElem? (i := 1330) (by decide +kernel))) (by decide +kernel)
theorem wc195 : Cond.instanceMethod yX9_compare ∈ GT := GT_mem (List.mem_append_right _ (List.mem_of_getElem? (i := 1331) (by decide +kernel))) (by decide +kernel)
theorem wc196 : Cond.selects RX9 yX9_compare yX9_compare ∈ GT := GT_mem (List.mem_append_right _ (List.mem_of_getElem? (i := 1332) (by decide +kernel))) (by decide +kernel)
theorem wc197 : Cond.code yX9_compare cX9_compare 10 (some .int) ∈ GT := GT_mem (List.mem_append_right _ (List.mem_of_getElem? (i := 1333) (by decide +kernel))) (by decide +kernel)
theorem wc198 : Cond.codeWith yL_certain cL_certain 6 (some .int) [(0, 12, 15, 13)] ∈ GT := GT_mem (List.mem_append_right _ (List.mem_of_getElem? (i := 832) (by decide +kernel))) (by decide +kernel)
theorem wc199 : Cond.methodLink RL 180 yL_certain ∈ GT := GT_mem (List.mem_append_right _ (List.mem_of_getElem? (i := 830) (by decide +kernel))) (by decide +kernel)
theorem wc200 : Cond.static yL_certain ∈ GT := GT_mem (List.mem_append_right _ (List.mem_of_getElem? (i := 831) (by decide +kernel))) (by decide +kernel)
theorem wc201 : Cond.methodLink RL 182 yX9_certain ∈ GT := GT_mem (List.mem_append_right _ (List.mem_of_getElem? (i := 1334) (by decide +kernel))) (by decide +kernel)
theorem wc202 : Cond.instanceMethod yX9_certain ∈ GT := GT_mem (List.mem_append_right _ (List.mem_of_getElem? (i := 1335) (by decide +kernel))) (by decide +kernel)
theorem wc203 : Cond.selects RX9 yX9_certain yX9_certain ∈ GT := GT_mem (List.mem_append_right _ (List.mem_of_getElem? (i := 1336) (by decide +kernel))) (by decide +kernel)
theorem wc204 : Cond.code yX9_certain cX9_certain 4 (some .int) ∈ GT := GT_mem (List.mem_append_right _ (List.mem_of_getElem? (i := 1337) (by decide +kernel))) (by decide +kernel)
theorem wc205 : Cond.codeWith yL_join cL_join 6 (some .int) [(0, 12, 15, 13), (0, 12, 19, 15)] ∈ GT := GT_mem (List.mem_append_right _ (List.mem_of_getElem? (i := 867) (by decide +kernel))) (by decide +kernel)
theorem wc206 : Cond.methodLink RL 183 yL_join ∈ GT := GT_mem (List.mem_append_right _ (List.mem_of_getElem? (i := 865) (by decide +kernel))) (by decide +kernel)
theorem wc207 : Cond.static yL_join ∈ GT := GT_mem (List.mem_append_right _ (List.mem_of_getElem? (i := 866) (by decide +kernel))) (by decide +kernel)
theorem wc208 : Cond.methodLink RL 185 yX9_join ∈ GT := GT_mem (List.mem_append_right _ (List.mem_of_getElem? (i := 1346) (by decide +kernel))) (by decide +kernel)
theorem wc209 : Cond.instanceMethod yX9_join ∈ GT := GT_mem (List.mem_append_right _ (List.mem_of_getElem? (i := 1347) (by decide +kernel))) (by decide +kernel)
theorem wc210 : Cond.selects RX9 yX9_join yX9_join ∈ GT := GT_mem (List.mem_append_right _ (List.mem_of_getElem? (i := 1348) (by decide +kernel))) (by decide +kernel)
theorem wc211 : Cond.code yX9_join cX9_join 4 (some .int) ∈ GT := GT_mem (List.mem_append_right _ (List.mem_of_getElem? (i := 1349) (by decide +kernel))) (by decide +kernel)
theorem wc212 : Cond.codeWith yL_among cL_among 6 (some .int) [(0, 12, 15, 13)] ∈ GT := GT_mem (List.mem_append_right _ (List.mem_of_getElem? (i := 891) (by decide +kernel))) (by decide +kernel)
theorem wc213 : Cond.methodLink RL 186 yL_among ∈ GT := GT_mem (List.mem_append_right _ (List.mem_of_getElem? (i := 889) (by decide +kernel))) (by decide +kernel)
theorem wc214 : Cond.static yL_among ∈ GT := GT_mem (List.mem_append_right _ (List.mem_of_getElem? (i := 890) (by decide +kernel))) (by decide +kernel)
theorem wc215 : Cond.methodLink RL 188 yX9_among ∈ GT := GT_mem (List.mem_append_right _ (List.mem_of_getElem? (i := 1366) (by decide +kernel))) (by decide +kernel)
theorem wc216 : Cond.instanceMethod yX9_among ∈ GT := GT_mem (List.mem_append_right _ (List.mem_of_getElem? (i := 1367) (by decide +kernel))) (by decide +kernel)
theorem wc217 : Cond.selects RX9 yX9_among yX9_among ∈ GT := GT_mem (List.mem_append_right _ (List.mem_of_getElem? (i := 1368) (by decide +kernel))) (by decide +kernel)
theorem wc218 : Cond.code yX9_among cX9_among 7 (some .int) ∈ GT := GT_mem (List.mem_append_right _ (List.mem_of_getElem? (i := 1369) (by decide +kernel))) (by decide +kernel)
theorem wc219 : Cond.codeWith yL_count cL_count 4 (some .int) [(0, 9, 12, 15)] ∈ GT := GT_mem (List.mem_append_right _ (List.mem_of_getElem? (i := 898) (by decide +kernel))) (by decide +kernel)
theorem wc220 : Cond.methodLink RL 189 yL_count ∈ GT := GT_mem (List.mem_append_right _ (List.mem_of_getElem? (i := 896) (by decide +kernel))) (by decide +kernel)
theorem wc221 : Cond.static yL_count ∈ GT := GT_mem (List.mem_append_right _ (List.mem_of_getElem? (i := 897) (by decide +kernel))) (by decide +kernel)
theorem wc222 : Cond.methodLink RL 191 yX9_count ∈ GT := GT_mem (List.mem_append_right _ (List.mem_of_getElem? (i := 1370) (by decide +kernel))) (by decide +kernel)
theorem wc223 : Cond.instanceMethod yX9_count ∈ GT := GT_mem (List.mem_append_right _ (List.mem_of_getElem? (i := 1371) (by decide +kernel))) (by decide +kernel)
theorem wc224 : Cond.selects RX9 yX9_count yX9_count ∈ GT := GT_mem (List.mem_append_right _ (List.mem_of_getElem? (i := 1372) (by decide +kernel))) (by decide +kernel)
theorem wc225 : Cond.code yX9_count cX9_count 2 (some .int) ∈ GT := GT_mem (List.mem_append_right _ (List.mem_of_getElem? (i := 1373) (by decide +kernel))) (by decide +kernel)
theorem wc226 : Cond.codeWith yL_share cL_share 5 (some .int) [(0, 9, 12, 13)] ∈ GT := GT_mem (List.mem_append_right _ (List.mem_of_getElem? (i := 909) (by decide +kernel))) (by decide +kernel)
theorem wc227 : Cond.methodLink RL 192 yL_share ∈ GT := GT_mem (List.mem_append_right _ (List.mem_of_getElem? (i := 907) (by decide +kernel))) (by decide +kernel)
theorem wc228 : Cond.static yL_share ∈ GT := GT_mem (List.mem_append_right _ (List.mem_of_getElem? (i := 908) (by decide +kernel))) (by decide +kernel)
theorem wc229 : Cond.methodLink RL 195 yX9_share ∈ GT := GT_mem (List.mem_append_right _ (List.mem_of_getElem? (i := 1382) (by decide +kernel))) (by decide +kernel)
theorem wc230 : Cond.instanceMethod yX9_share ∈ GT := GT_mem (List.mem_append_right _ (List.mem_of_getElem? (i := 1383) (by decide +kernel))) (by decide +kernel)
theorem wc231 : Cond.selects RX9 yX9_share yX9_share ∈ GT := GT_mem (List.mem_append_right _ (List.mem_of_getElem? (i := 1384) (by decide +kernel))) (by decide +kernel)
theorem wc232 : Cond.code yX9_share cX9_share 7 (some .double) ∈ GT := GT_mem (List.mem_append_right _ (List.mem_of_getElem? (i := 1385) (by decide +kernel))) (by decide +kernel)
theorem csw_101 {s : State} {args : Array Value} (ht : ∀ w ∈ GT, w.before args s = true) : vx_CSW room_1 s args RL 101 yL_add cL_add 8 (some .int) [(0, 16, 19, 13), (0, 16, 23, 15), (0, 16, 27, 17)] (Cond.codeWith yL_add cL_add 8 (some .int) [(0, 16, 19, 13), (0, 16, 23, 15), (0, 16, 27, 17)] :: GT) rmL_add 3 71 7 := vx_cwSW 7 ht (goodS wc38 wc39 wc40 wc37) rfl rfl rfl ⟨by decide +kernel, by decide +kernel, by decide +kernel⟩ ⟨Nat.le_of_ble_eq_true rfl, Nat.le_of_ble_eq_true rfl⟩
theorem cvw_106 {s : State} {args : Array Value} (ht : ∀ w ∈ GT, w.before args s = true) : CallW room_1 s args RL RX9 106 yX9_add cX9_add 8 (some .int) (Cond.code yX9_add cX9_add 8 (some .int) :: GT) rmX9_add 0 0 5 := cwV 5 ht (goodV wc41 wc42 wc43 wd607 wc44) rfl rfl rfl ⟨rfl, by decide +kernel, by decide +kernel, by decide +kernel⟩ ⟨Nat.le_of_ble_eq_true rfl, Nat.le_of_ble_eq_true rfl⟩
theorem cvw_107 {s : State} {args : Array Value} (ht : ∀ w ∈ GT, w.before args s = true) : CallW room_1 s args RL RX9 107 yX9_thrown cX9_thrown 1 (some .int) (Cond.code yX9_thrown cX9_thrown 1 (some .int) :: GT) rmX9_thrown 0 0 0 := cwV 0 ht (goodV wc45 wc46 wc47 wd607 wc48) rfl rfl rfl ⟨rfl, by decide +kernel, by decide +kernel, by decide +kernel⟩ ⟨Nat.le_of_ble_eq_true rfl, Nat.le_of_ble_eq_true rfl⟩
theorem csw_110 {s : State} {args : Array Value} (ht : ∀ w ∈ GT, w.before args s = true) : vx_CSW room_1 s args RL 110 yL_change cL_change 7 (some .int) [(0, 14, 17, 13), (0, 14, 21, 15)] (Cond.codeWith yL_change cL_change 7 (some .int) [(0, 14, 17, 13), (0, 14, 21, 15)] :: GT) rmL_change 3 71 6 := vx_cwSW 6 ht (goodS wc50 wc51 wc40 wc49) rfl rfl rfl ⟨by decide +kernel, by decide +kernel, by decide +kernel⟩ ⟨Nat.le_of_ble_eq_true rfl, Nat.le_of_ble_eq_true rfl⟩
theorem cvw_113 {s : State} {args : Array Value} (ht : ∀ w ∈ GT, w.before args s = true) : CallW room_1 s args RL RX9 113 yX9_change cX9_change 6 (some .int) (Cond.code yX9_change cX9_change 6 (some .int) :: GT) rmX9_change 0 0 4 := cwV 4 ht (goodV wc52 wc53 wc54 wd607 wc55) rfl rfl rfl ⟨rfl, by decide +kernel, by decide +kernel, by decide +kernel⟩ ⟨Nat.le_of_ble_eq_true rfl, Nat.le_of_ble_eq_true rfl⟩
theorem csw_114 {s : State} {args : Array Value} (ht : ∀ w ∈ GT, w.before args s = true) : vx_CSW room_1 s args RL 114 yL_drop cL_drop 5 (some .int) [(0, 10, 13, 13)] (Cond.codeWith yL_drop cL_drop 5 (some .int) [(0, 10, 13, 13)] :: GT) rmL_drop 3 71 4 := vx_cwSW 4 ht (goodS wc57 wc58 wc40 wc56) rfl rfl rfl ⟨by decide +kernel, by decide +kernel, by decide +kernel⟩ ⟨Nat.le_of_ble_eq_true rfl, Nat.le_of_ble_eq_true rfl⟩
theorem cvw_117 {s : State} {args : Array Value} (ht : ∀ w ∈ GT, w.before args s = true) : CallW room_1 s args RL RX9 117 yX9_drop cX9_drop 3 (some .int) (Cond.code yX9_drop cX9_drop 3 (some .int) :: GT) rmX9_drop 0 0 2 := cwV 2 ht (goodV wc59 wc60 wc61 wd607 wc62) rfl rfl rfl ⟨rfl, by decide +kernel, by decide +kernel, by decide +kernel⟩ ⟨Nat.le_of_ble_eq_true rfl, Nat.le_of_ble_eq_true rfl⟩
theorem csw_118 {s : State} {args : Array Value} (ht : ∀ w ∈ GT, w.before args s = true) : vx_CSW room_1 s args RL 118 yL_define cL_define 4 (some .int) [(0, 9, 12, 13), (0, 9, 15, 15)] (Cond.codeWith yL_define cL_define 4 (some .int) [(0, 9, 12, 13), (0, 9, 15, 15)] :: GT) rmL_define 3 71 3 := vx_cwSW 3 ht (goodS wc64 wc65 wc40 wc63) rfl rfl rfl ⟨by decide +kernel, by decide +kernel, by decide +kernel⟩ ⟨Nat.le_of_ble_eq_true rfl, Nat.le_of_ble_eq_true rfl⟩
theorem cvw_121 {s : State} {args : Array Value} (ht : ∀ w ∈ GT, w.before args s = true) : CallW room_1 s args RL RX9 121 yX9_define cX9_define 2 (some .int) (Cond.code yX9_define cX9_define 2 (some .int) :: GT) rmX9_define 0 0 1 := cwV 1 ht (goodV wc66 wc67 wc68 wd607 wc69) rfl rfl rfl ⟨rfl, by decide +kernel, by decide +kernel, by decide +kernel⟩ ⟨Nat.le_of_ble_eq_true rfl, Nat.le_of_ble_eq_true rfl⟩
theorem csw_122 {s : State} {args : Array Value} (ht : ∀ w ∈ GT, w.before args s = true) : vx_CSW room_1 s args RL 122 yL_combine cL_combine 7 (some .int) [(0, 14, 17, 13), (0, 14, 21, 15), (0, 14, 25, 17)] (Cond.codeWith yL_combine cL_combine 7 (some .int) [(0, 14, 17, 13), (0, 14, 21, 15), (0, 14, 25, 17)] :: GT) rmL_combine 3 71 6 := vx_cwSW 6 ht (goodS wc71 wc72 wc40 wc70) rfl rfl rfl ⟨by decide +kernel, by decide +kernel, by decide +kernel⟩ ⟨Nat.le_of_ble_eq_true rfl, Nat.le_of_ble_eq_true rfl⟩
theorem cvw_124 {s : State} {args : Array Value} (ht : ∀ w ∈ GT, w.before args s = true) : CallW room_1 s args RL RX9 124 yX9_combine cX9_combine 6 (some .int) (Cond.code yX9_combine cX9_combine 6 (some .int) :: GT) rmX9_combine 0 0 4 := cwV 4 ht (goodV wc73 wc74 wc75 wd607 wc76) rfl rfl rfl ⟨rfl, by decide +kernel, by decide +kernel, by decide +kernel⟩ ⟨Nat.le_of_ble_eq_true rfl, Nat.le_of_ble_eq_true rfl⟩
theorem csw_125 {s : State} {args : Array Value} (ht : ∀ w ∈ GT, w.before args s = true) : vx_CSW room_1 s args RL 125 yL_check cL_check 5 (some .int) [(0, 10, 13, 13), (0, 10, 17, 17)] (Cond.codeWith yL_check cL_check 5 (some .int) [(0, 10, 13, 13), (0, 10, 17, 17)] :: GT) rmL_check 3 71 4 := vx_cwSW 4 ht (goodS wc78 wc79 wc40 wc77) rfl rfl rfl ⟨by decide +kernel, by decide +kernel, by decide +kernel⟩ ⟨Nat.le_of_ble_eq_true rfl, Nat.le_of_ble_eq_true rfl⟩
theorem cvw_127 {s : State} {args : Array Value} (ht : ∀ w ∈ GT, w.before args s = true) : CallW room_1 s args RL RX9 127 yX9_check cX9_check 4 (some .int) (Cond.code yX9_check cX9_check 4 (some .int) :: GT) rmX9_check 0 0 2 := cwV 2 ht (goodV wc80 wc81 wc82 wd607 wc83) rfl rfl rfl ⟨rfl, by decide +kernel, by decide +kernel, by decide +kernel⟩ ⟨Nat.le_of_ble_eq_true rfl, Nat.le_of_ble_eq_true rfl⟩
theorem csw_128 {s : State} {args : Array Value} (ht : ∀ w ∈ GT, w.before args s = true) : vx_CSW room_1 s args RL 128 yL_remove cL_remove 5 (some .int) [(0, 10, 13, 13), (0, 10, 17, 17)] (Cond.codeWith yL_remove cL_remove 5 (some .int) [(0, 10, 13, 13), (0, 10, 17, 17)] :: GT) rmL_remove 3 71 4 := vx_cwSW 4 ht (goodS wc85 wc86 wc40 wc84) rfl rfl rfl ⟨by decide +kernel, by decide +kernel, by decide +kernel⟩ ⟨Nat.le_of_ble_eq_true rfl, Nat.le_of_ble_eq_true rfl⟩
theorem cvw_130 {s : State} {args : Array Value} (ht : ∀ w ∈ GT, w.before args s = true) : CallW room_1 s args RL RX9 130 yX9_remove cX9_remove 5 (some .int) (Cond.code yX9_remove cX9_remove 5 (some .int) :: GT) rmX9_remove 0 0 2 := cwV 2 ht (goodV wc87 wc88 wc89 wd607 wc90) rfl rfl rfl ⟨rfl, by decide +kernel, by decide +kernel, by decide +kernel⟩ ⟨Nat.le_of_ble_eq_true rfl, Nat.le_of_ble_eq_true rfl⟩
theorem csw_131 {s : State} {args : Array Value} (ht : ∀ w ∈ GT, w.before args s = true) : vx_CSW room_1 s args RL 131 yL_update cL_update 7 (some .int) [(0, 14, 17, 13), (0, 14, 21, 15), (0, 14, 25, 17)] (Cond.codeWith yL_update cL_update 7 (some .int) [(0, 14, 17, 13), (0, 14, 21, 15), (0, 14, 25, 17)] :: GT) rmL_update 3 71 6 := vx_cwSW 6 ht (goodS wc92 wc93 wc40 wc91) rfl rfl rfl ⟨by decide +kernel, by decide +kernel, by decide +kernel⟩ ⟨Nat.le_of_ble_eq_true rfl, Nat.le_of_ble_eq_true rfl⟩
theorem cvw_133 {s : State} {args : Array Value} (ht : ∀ w ∈ GT, w.before args s = true) : CallW room_1 s args RL RX9 133 yX9_update cX9_update 8 (some .int) (Cond.code yX9_update cX9_update 8 (some .int) :: GT) rmX9_update 0 0 4 := cwV 4 ht (goodV wc94 wc95 wc96 wd607 wc97) rfl rfl rfl ⟨rfl, by decide +kernel, by decide +kernel, by decide +kernel⟩ ⟨Nat.le_of_ble_eq_true rfl, Nat.le_of_ble_eq_true rfl⟩
theorem csw_134 {s : State} {args : Array Value} (ht : ∀ w ∈ GT, w.before args s = true) : vx_CSW room_1 s args RL 134 yL_append cL_append 4 (some .int) [(0, 9, 12, 15), (0, 9, 15, 17)] (Cond.codeWith yL_append cL_append 4 (some .int) [(0, 9, 12, 15), (0, 9, 15, 17)] :: GT) rmL_append 3 71 3 := vx_cwSW 3 ht (goodS wc99 wc100 wc40 wc98) rfl rfl rfl ⟨by decide +kernel, by decide +kernel, by decide +kernel⟩ ⟨Nat.le_of_ble_eq_true rfl, Nat.le_of_ble_eq_true rfl⟩
theorem cvw_136 {s : State} {args : Array Value} (ht : ∀ w ∈ GT, w.before args s = true) : CallW room_1 s args RL RX9 136 yX9_append cX9_append 2 (some .int) (Cond.code yX9_append cX9_append 2 (some .int) :: GT) rmX9_append 0 0 1 := cwV 1 ht (goodV wc101 wc102 wc103 wd607 wc104) rfl rfl rfl ⟨rfl, by decide +kernel, by decide +kernel, by decide +kernel⟩ ⟨Nat.le_of_ble_eq_true rfl, Nat.le_of_ble_eq_true rfl⟩
theorem cvw_137 {s : State} {args : Array Value} (ht : ∀ w ∈ GT, w.before args s = true) : CallW room_1 s args RL RX8 137 yX8_clearBuffer cX8_clearBuffer 2 (some .int) (Cond.code yX8_clearBuffer cX8_clearBuffer 2 (some .int) :: GT) rmX8_clearBuffer 0 0 0 := cwV 0 ht (goodV wc105 wc106 wc107 wd100 wc108) rfl rfl rfl ⟨rfl, by decide +kernel, by decide +kernel, by decide +kernel⟩ ⟨Nat.le_of_ble_eq_true rfl, Nat.le_of_ble_eq_true rfl⟩
theorem cvw_140 {s : State} {args : Array Value} (ht : ∀ w ∈ GT, w.before args s = true) : CallW room_1 s args RL RX9 140 yX9_clearBuffer cX9_clearBuffer 2 (some .int) (Cond.code yX9_clearBuffer cX9_clearBuffer 2 (some .int) :: GT) rmX9_clearBuffer 0 0 0 := cwV 0 ht (goodV wc109 wc110 wc111 wd607 wc112) rfl rfl rfl ⟨rfl, by decide +kernel, by decide +kernel, by decide +kernel⟩ ⟨Nat.le_of_ble_eq_true rfl, Nat.le_of_ble_eq_true rfl⟩
theorem cvw_141 {s : State} {args : Array Value} (ht : ∀ w ∈ GT, w.before args s = true) : CallW room_1 s args RL RX8 141 yX8_firstError cX8_firstError 1 (some .int) (Cond.code yX8_firstError cX8_firstError 1 (some .int) :: GT) rmX8_firstError 0 0 0 := cwV 0 ht (goodV wc113 wc114 wc115 wd100 wc116) rfl rfl rfl ⟨rfl, by decide +kernel, by decide +kernel, by decide +kernel⟩ ⟨Nat.le_of_ble_eq_true rfl, Nat.le_of_ble_eq_true rfl⟩
theorem cvw_144 {s : State} {args : Array Value} (ht : ∀ w ∈ GT, w.before args s = true) : CallW room_1 s args RL RX9 144 yX9_firstError cX9_firstError 1 (some .int) (Cond.code yX9_firstError cX9_firstError 1 (some .int) :: GT) rmX9_firstError 0 0 0 := cwV 0 ht (goodV wc117 wc118 wc119 wd607 wc120) rfl rfl rfl ⟨rfl, by decide +kernel, by decide +kernel, by decide +kernel⟩ ⟨Nat.le_of_ble_eq_true rfl, Nat.le_of_ble_eq_true rfl⟩
theorem csw_145 {s : State} {args : Array Value} (ht : ∀ w ∈ GT, w.before args s = true) : vx_CSW room_1 s args RL 145 yL_undo cL_undo 3 (some .int) [(0, 8, 11, 17)] (Cond.codeWith yL_undo cL_undo 3 (some .int) [(0, 8, 11, 17)] :: GT) rmL_undo 3 71 2 := vx_cwSW 2 ht (goodS wc122 wc123 wc40 wc121) rfl rfl rfl ⟨by decide +kernel, by decide +kernel, by decide +kernel⟩ ⟨Nat.le_of_ble_eq_true rfl, Nat.le_of_ble_eq_true rfl⟩
theorem cvw_148 {s : State} {args : Array Value} (ht : ∀ w ∈ GT, w.before args s = true) : CallW room_1 s args RL RX9 148 yX9_undo cX9_undo 1 (some .int) (Cond.code yX9_undo cX9_undo 1 (some .int) :: GT) rmX9_undo 0 0 0 := cwV 0 ht (goodV wc124 wc125 wc126 wd607 wc127) rfl rfl rfl ⟨rfl, by decide +kernel, by decide +kernel, by decide +kernel⟩ ⟨Nat.le_of_ble_eq_true rfl, Nat.le_of_ble_eq_true rfl⟩
theorem csw_149 {s : State} {args : Array Value} (ht : ∀ w ∈ GT, w.before args s = true) : vx_CSW room_1 s args RL 149 yL_keep cL_keep 4 (some .int) [(0, 9, 12, 15)] (Cond.codeWith yL_keep cL_keep 4 (some .int) [(0, 9, 12, 15)] :: GT) rmL_keep 3 71 3 := vx_cwSW 3 ht (goodS wc129 wc130 wc40 wc128) rfl rfl rfl ⟨by decide +kernel, by decide +kernel, by decide +kernel⟩ ⟨Nat.le_of_ble_eq_true rfl, Nat.le_of_ble_eq_true rfl⟩
theorem cvw_151 {s : State} {args : Array Value} (ht : ∀ w ∈ GT, w.before args s = true) : CallW room_1 s args RL RX9 151 yX9_keep cX9_keep 2 (some .int) (Cond.code yX9_keep cX9_keep 2 (some .int) :: GT) rmX9_keep 0 0 1 := cwV 1 ht (goodV wc131 wc132 wc133 wd607 wc134) rfl rfl rfl ⟨rfl, by decide +kernel, by decide +kernel, by decide +kernel⟩ ⟨Nat.le_of_ble_eq_true rfl, Nat.le_of_ble_eq_true rfl⟩
theorem csw_152 {s : State} {args : Array Value} (ht : ∀ w ∈ GT, w.before args s = true) : vx_CSW room_1 s args RL 152 yL_goBack cL_goBack 4 (some .int) [(0, 9, 12, 15), (0, 9, 15, 17)] (Cond.codeWith yL_goBack cL_goBack 4 (some .int) [(0, 9, 12, 15), (0, 9, 15, 17)] :: GT) rmL_goBack 3 71 3 := vx_cwSW 3 ht (goodS wc136 wc137 wc40 wc135) rfl rfl rfl ⟨by decide +kernel, by decide +kernel, by decide +kernel⟩ ⟨Nat.le_of_ble_eq_true rfl, Nat.le_of_ble_eq_true rfl⟩
theorem cvw_154 {s : State} {args : Array Value} (ht : ∀ w ∈ GT, w.before args s = true) : CallW room_1 s args RL RX9 154 yX9_goBack cX9_goBack 2 (some .int) (Cond.code yX9_goBack cX9_goBack 2 (some .int) :: GT) rmX9_goBack 0 0 1 := cwV 1 ht (goodV wc138 wc139 wc140 wd607 wc141) rfl rfl rfl ⟨rfl, by decide +kernel, by decide +kernel, by decide +kernel⟩ ⟨Nat.le_of_ble_eq_true rfl, Nat.le_of_ble_eq_true rfl⟩
theorem csw_155 {s : State} {args : Array Value} (ht : ∀ w ∈ GT, w.before args s = true) : vx_CSW room_1 s args RL 155 yL_cell cL_cell 6 (some .int) [(0, 12, 15, 13)] (Cond.codeWith yL_cell cL_cell 6 (some .int) [(0, 12, 15, 13)] :: GT) rmL_cell 3 71 5 := vx_cwSW 5 ht (goodS wc143 wc144 wc40 wc142) rfl rfl rfl ⟨by decide +kernel, by decide +kernel, by decide +kernel⟩ ⟨Nat.le_of_ble_eq_true rfl, Nat.le_of_ble_eq_true rfl⟩
theorem cvw_158 {s : State} {args : Array Value} (ht : ∀ w ∈ GT, w.before args s = true) : CallW room_1 s args RL RX9 158 yX9_cell cX9_cell 4 (some .int) (Cond.code yX9_cell cX9_cell 4 (some .int) :: GT) rmX9_cell 0 0 3 := cwV 3 ht (goodV wc145 wc146 wc147 wd607 wc148) rfl rfl rfl ⟨rfl, by decide +kernel, by decide +kernel, by decide +kernel⟩ ⟨Nat.le_of_ble_eq_true rfl, Nat.le_of_ble_eq_true rfl⟩
theorem csw_159 {s : State} {args : Array Value} (ht : ∀ w ∈ GT, w.before args s = true) : vx_CSW room_1 s args RL 159 yL_column cL_column 6 (some .int) [(0, 12, 15, 13), (0, 12, 19, 15)] (Cond.codeWith yL_column cL_column 6 (some .int) [(0, 12, 15, 13), (0, 12, 19, 15)] :: GT) rmL_column 3 71 5 := vx_cwSW 5 ht (goodS wc150 wc151 wc40 wc149) rfl rfl rfl ⟨by decide +kernel, by decide +kernel, by decide +kernel⟩ ⟨Nat.le_of_ble_eq_true rfl, Nat.le_of_ble_eq_true rfl⟩
theorem cvw_161 {s : State} {args : Array Value} (ht : ∀ w ∈ GT, w.before args s = true) : CallW room_1 s args RL RX9 161 yX9_column cX9_column 4 (some .int) (Cond.code yX9_column cX9_column 4 (some .int) :: GT) rmX9_column 0 0 3 := cwV 3 ht (goodV wc152 wc153 wc154 wd607 wc155) rfl rfl rfl ⟨rfl, by decide +kernel, by decide +kernel, by decide +kernel⟩ ⟨Nat.le_of_ble_eq_true rfl, Nat.le_of_ble_eq_true rfl⟩
theorem csw_162 {s : State} {args : Array Value} (ht : ∀ w ∈ GT, w.before args s = true) : vx_CSW room_1 s args RL 162 yL_group cL_group 7 (some .int) [(0, 14, 17, 13), (0, 14, 21, 15)] (Cond.codeWith yL_group cL_group 7 (some .int) [(0, 14, 17, 13), (0, 14, 21, 15)] :: GT) rmL_group 3 71 6 := vx_cwSW 6 ht (goodS wc157 wc158 wc40 wc156) rfl rfl rfl ⟨by decide +kernel, by decide +kernel, by decide +kernel⟩ ⟨Nat.le_of_ble_eq_true rfl, Nat.le_of_ble_eq_true rfl⟩
theorem cvw_164 {s : State} {args : Array Value} (ht : ∀ w ∈ GT, w.before args s = true) : CallW room_1 s args RL RX9 164 yX9_group cX9_group 5 (some .int) (Cond.code yX9_group cX9_group 5 (some .int) :: GT) rmX9_group 0 0 4 := cwV 4 ht (goodV wc159 wc160 wc161 wd607 wc162) rfl rfl rfl ⟨rfl, by decide +kernel, by decide +kernel, by decide +kernel⟩ ⟨Nat.le_of_ble_eq_true rfl, Nat.le_of_ble_eq_true rfl⟩
theorem csw_165 {s : State} {args : Array Value} (ht : ∀ w ∈ GT, w.before args s = true) : vx_CSW room_1 s args RL 165 yL_truth cL_truth 6 (some .int) [(0, 12, 15, 13)] (Cond.codeWith yL_truth cL_truth 6 (some .int) [(0, 12, 15, 13)] :: GT) rmL_truth 3 71 5 := vx_cwSW 5 ht (goodS wc164 wc165 wc40 wc163) rfl rfl rfl ⟨by decide +kernel, by decide +kernel, by decide +kernel⟩ ⟨Nat.le_of_ble_eq_true rfl, Nat.le_of_ble_eq_true rfl⟩
theorem cvw_167 {s : State} {args : Array Value} (ht : ∀ w ∈ GT, w.before args s = true) : CallW room_1 s args RL RX9 167 yX9_truth cX9_truth 4 (some .int) (Cond.code yX9_truth cX9_truth 4 (some .int) :: GT) rmX9_truth 0 0 3 := cwV 3 ht (goodV wc166 wc167 wc168 wd607 wc169) rfl rfl rfl ⟨rfl, by decide +kernel, by decide +kernel, by decide +kernel⟩ ⟨Nat.le_of_ble_eq_true rfl, Nat.le_of_ble_eq_true rfl⟩
theorem csw_168 {s : State} {args : Array Value} (ht : ∀ w ∈ GT, w.before args s = true) : vx_CSW room_1 s args RL 168 yL_rows cL_rows 7 (some .int) [(0, 14, 17, 13), (0, 14, 21, 15)] (Cond.codeWith yL_rows cL_rows 7 (some .int) [(0, 14, 17, 13), (0, 14, 21, 15)] :: GT) rmL_rows 3 71 6 := vx_cwSW 6 ht (goodS wc171 wc172 wc40 wc170) rfl rfl rfl ⟨by decide +kernel, by decide +kernel, by decide +kernel⟩ ⟨Nat.le_of_ble_eq_true rfl, Nat.le_of_ble_eq_true rfl⟩
theorem cvw_170 {s : State} {args : Array Value} (ht : ∀ w ∈ GT, w.before args s = true) : CallW room_1 s args RL RX9 170 yX9_rows cX9_rows 5 (some .int) (Cond.code yX9_rows cX9_rows 5 (some .int) :: GT) rmX9_rows 0 0 4 := cwV 4 ht (goodV wc173 wc174 wc175 wd607 wc176) rfl rfl rfl ⟨rfl, by decide +kernel, by decide +kernel, by decide +kernel⟩ ⟨Nat.le_of_ble_eq_true rfl, Nat.le_of_ble_eq_true rfl⟩
theorem csw_171 {s : State} {args : Array Value} (ht : ∀ w ∈ GT, w.before args s = true) : vx_CSW room_1 s args RL 171 yL_filter cL_filter 5 (some .int) [(0, 10, 13, 13), (0, 10, 17, 15)] (Cond.codeWith yL_filter cL_filter 5 (some .int) [(0, 10, 13, 13), (0, 10, 17, 15)] :: GT) rmL_filter 3 71 4 := vx_cwSW 4 ht (goodS wc178 wc179 wc40 wc177) rfl rfl rfl ⟨by decide +kernel, by decide +kernel, by decide +kernel⟩ ⟨Nat.le_of_ble_eq_true rfl, Nat.le_of_ble_eq_true rfl⟩
theorem cvw_173 {s : State} {args : Array Value} (ht : ∀ w ∈ GT, w.before args s = true) : CallW room_1 s args RL RX9 173 yX9_filter cX9_filter 3 (some .int) (Cond.code yX9_filter cX9_filter 3 (some .int) :: GT) rmX9_filter 0 0 2 := cwV 2 ht (goodV wc180 wc181 wc182 wd607 wc183) rfl rfl rfl ⟨rfl, by decide +kernel, by decide +kernel, by decide +kernel⟩ ⟨Nat.le_of_ble_eq_true rfl, Nat.le_of_ble_eq_true rfl⟩
theorem csw_174 {s : State} {args : Array Value} (ht : ∀ w ∈ GT, w.before args s = true) : vx_CSW room_1 s args RL 174 yL_letter cL_letter 5 (some .int) [(0, 10, 13, 13), (0, 10, 17, 15)] (Cond.codeWith yL_letter cL_letter 5 (some .int) [(0, 10, 13, 13), (0, 10, 17, 15)] :: GT) rmL_letter 3 71 4 := vx_cwSW 4 ht (goodS wc185 wc186 wc40 wc184) rfl rfl rfl ⟨by decide +kernel, by decide +kernel, by decide +kernel⟩ ⟨Nat.le_of_ble_eq_true rfl, Nat.le_of_ble_eq_true rfl⟩
theorem cvw_176 {s : State} {args : Array Value} (ht : ∀ w ∈ GT, w.before args s = true) : CallW room_1 s args RL RX9 176 yX9_letter cX9_letter 3 (some .int) (Cond.code yX9_letter cX9_letter 3 (some .int) :: GT) rmX9_letter 0 0 2 := cwV 2 ht (goodV wc187 wc188 wc189 wd607 wc190) rfl rfl rfl ⟨rfl, by decide +kernel, by decide +kernel, by decide +kernel⟩ ⟨Nat.le_of_ble_eq_true rfl, Nat.le_of_ble_eq_true rfl⟩
theorem csw_177 {s : State} {args : Array Value} (ht : ∀ w ∈ GT, w.before args s = true) : vx_CSW room_1 s args RL 177 yL_compare cL_compare 7 (some .int) [(0, 14, 17, 13), (0, 14, 21, 15)] (Cond.codeWith yL_compare cL_compare 7 (some .int) [(0, 14, 17, 13), (0, 14, 21, 15)] :: GT) rmL_compare 3 71 6 := vx_cwSW 6 ht (goodS wc192 wc193 wc40 wc191) rfl rfl rfl ⟨by decide +kernel, by decide +kernel, by decide +kernel⟩ ⟨Nat.le_of_ble_eq_true rfl, Nat.le_of_ble_eq_true rfl⟩
theorem cvw_179 {s : State} {args : Array Value} (ht : ∀ w ∈ GT, w.before args s = true) : CallW room_1 s args RL RX9 179 yX9_compare cX9_compare 10 (some .int) (Cond.code yX9_compare cX9_compare 10 (some .int) :: GT) rmX9_compare 0 0 4 := cwV 4 ht (goodV wc194 wc195 wc196 wd607 wc197) rfl rfl rfl ⟨rfl, by decide +kernel, by decide +kernel, by decide +kernel⟩ ⟨Nat.le_of_ble_eq_true rfl, Nat.le_of_ble_eq_true rfl⟩
theorem csw_180 {s : State} {args : Array Value} (ht : ∀ w ∈ GT, w.before args s = true) : vx_CSW room_1 s args RL 180 yL_certain cL_certain 6 (some .int) [(0, 12, 15, 13)] (Cond.codeWith yL_certain cL_certain 6 (some .int) [(0, 12, 15, 13)] :: GT) rmL_certain 3 71 5 := vx_cwSW 5 ht (goodS wc199 wc200 wc40 wc198) rfl rfl rfl ⟨by decide +kernel, by decide +kernel, by decide +kernel⟩ ⟨Nat.le_of_ble_eq_true rfl, Nat.le_of_ble_eq_true rfl⟩
theorem cvw_182 {s : State} {args : Array Value} (ht : ∀ w ∈ GT, w.before args s = true) : CallW room_1 s args RL RX9 182 yX9_certain cX9_certain 4 (some .int) (Cond.code yX9_certain cX9_certain 4 (some .int) :: GT) rmX9_certain 0 0 3 := cwV 3 ht (goodV wc201 wc202 wc203 wd607 wc204) rfl rfl rfl ⟨rfl, by decide +kernel, by decide +kernel, by decide +kernel⟩ ⟨Nat.le_of_ble_eq_true rfl, Nat.le_of_ble_eq_true rfl⟩
theorem csw_183 {s : State} {args : Array Value} (ht : ∀ w ∈ GT, w.before args s = true) : vx_CSW room_1 s args RL 183 yL_join cL_join 6 (some .int) [(0, 12, 15, 13), (0, 12, 19, 15)] (Cond.codeWith yL_join cL_join 6 (some .int) [(0, 12, 15, 13), (0, 12, 19, 15)] :: GT) rmL_join 3 71 5 := vx_cwSW 5 ht (goodS wc206 wc207 wc40 wc205) rfl rfl rfl ⟨by decide +kernel, by decide +kernel, by decide +kernel⟩ ⟨Nat.le_of_ble_eq_true rfl, Nat.le_of_ble_eq_true rfl⟩
theorem cvw_185 {s : State} {args : Array Value} (ht : ∀ w ∈ GT, w.before args s = true) : CallW room_1 s args RL RX9 185 yX9_join cX9_join 4 (some .int) (Cond.code yX9_join cX9_join 4 (some .int) :: GT) rmX9_join 0 0 3 := cwV 3 ht (goodV wc208 wc209 wc210 wd607 wc211) rfl rfl rfl ⟨rfl, by decide +kernel, by decide +kernel, by decide +kernel⟩ ⟨Nat.le_of_ble_eq_true rfl, Nat.le_of_ble_eq_true rfl⟩
theorem csw_186 {s : State} {args : Array Value} (ht : ∀ w ∈ GT, w.before args s = true) : vx_CSW room_1 s args RL 186 yL_among cL_among 6 (some .int) [(0, 12, 15, 13)] (Cond.codeWith yL_among cL_among 6 (some .int) [(0, 12, 15, 13)] :: GT) rmL_among 3 71 5 := vx_cwSW 5 ht (goodS wc213 wc214 wc40 wc212) rfl rfl rfl ⟨by decide +kernel, by decide +kernel, by decide +kernel⟩ ⟨Nat.le_of_ble_eq_true rfl, Nat.le_of_ble_eq_true rfl⟩
theorem cvw_188 {s : State} {args : Array Value} (ht : ∀ w ∈ GT, w.before args s = true) : CallW room_1 s args RL RX9 188 yX9_among cX9_among 7 (some .int) (Cond.code yX9_among cX9_among 7 (some .int) :: GT) rmX9_among 0 0 3 := cwV 3 ht (goodV wc215 wc216 wc217 wd607 wc218) rfl rfl rfl ⟨rfl, by decide +kernel, by decide +kernel, by decide +kernel⟩ ⟨Nat.le_of_ble_eq_true rfl, Nat.le_of_ble_eq_true rfl⟩
theorem csw_189 {s : State} {args : Array Value} (ht : ∀ w ∈ GT, w.before args s = true) : vx_CSW room_1 s args RL 189 yL_count cL_count 4 (some .int) [(0, 9, 12, 15)] (Cond.codeWith yL_count cL_count 4 (some .int) [(0, 9, 12, 15)] :: GT) rmL_count 3 71 3 := vx_cwSW 3 ht (goodS wc220 wc221 wc40 wc219) rfl rfl rfl ⟨by decide +kernel, by decide +kernel, by decide +kernel⟩ ⟨Nat.le_of_ble_eq_true rfl, Nat.le_of_ble_eq_true rfl⟩
theorem cvw_191 {s : State} {args : Array Value} (ht : ∀ w ∈ GT, w.before args s = true) : CallW room_1 s args RL RX9 191 yX9_count cX9_count 2 (some .int) (Cond.code yX9_count cX9_count 2 (some .int) :: GT) rmX9_count 0 0 1 := cwV 1 ht (goodV wc222 wc223 wc224 wd607 wc225) rfl rfl rfl ⟨rfl, by decide +kernel, by decide +kernel, by decide +kernel⟩ ⟨Nat.le_of_ble_eq_true rfl, Nat.le_of_ble_eq_true rfl⟩
theorem csw_192 {s : State} {args : Array Value} (ht : ∀ w ∈ GT, w.before args s = true) : vx_CSW room_1 s args RL 192 yL_share cL_share 5 (some .int) [(0, 9, 12, 13)] (Cond.codeWith yL_share cL_share 5 (some .int) [(0, 9, 12, 13)] :: GT) rmL_share 3 71 4 := vx_cwSW 4 ht (goodS wc227 wc228 wc40 wc226) rfl rfl rfl ⟨by decide +kernel, by decide +kernel, by decide +kernel⟩ ⟨Nat.le_of_ble_eq_true rfl, Nat.le_of_ble_eq_true rfl⟩
theorem cvw_195 {s : State} {args : Array Value} (ht : ∀ w ∈ GT, w.before args s = true) : CallW room_1 s args RL RX9 195 yX9_share cX9_share 7 (some .double) (Cond.code yX9_share cX9_share 7 (some .double) :: GT) rmX9_share 0 0 2 := cwV 2 ht (goodV wc229 wc230 wc231 wd607 wc232) rfl rfl rfl ⟨rfl, by decide +kernel, by decide +kernel, by decide +kernel⟩ ⟨Nat.le_of_ble_eq_true rfl, Nat.le_of_ble_eq_true rfl⟩
section
variable {p : Program} {l : Launch} {e : Env} {s : State} {m : MethodId} {args : Array Value} {below : List Frame} {meth : Method} {c : Code} {H : Heap} {locs : List Loc} {cells slots : Nat} {Q : State → Prop}
variable {ls : Array Slot} {g : Gam} {I : Mem} {R : Rem} {P : Pool} {Z : Zed} {b L j : Nat} {xs : Nat → Int32}
set_option maxHeartbeats 4000000 in
set_option maxRecDepth 100000 in
theorem lc_0 {nx : Nat} {z : Int32 × Mem × Rem × Pool × Zed} {q : Int32 × Mem} (hfl : l.stackTraces = false) (C0 : CX g p s m args meth c RL cL_law 9 ret) (hX : va_X b L xs s s.heap) (hbl : b < s.heap.size) (hg : g.2.2 = s.heap.size) (hL : L ≤ 3072) (hj : 6 * j + 6 ≤ L) (hW : Wd g I R P Z s.heap H locs) (hsz : H.size = g.2.2 + nx) (hl : lv_has ls 9 [(5, .int (nI (6 * j))), (4, .ref (g.2.2 + 84)), (3, .ref (g.2.2 + 83)), (2, .ref (g.2.2 + 70)), (1, .ref (g.2.2 + 0)), (0, .ref b)])
    (hz : f_L_add (xs (6 * j + 1)) (xs (6 * j + 2)) (xs (6 * j + 3)) (xs (6 * j + 4)) (xs (6 * j + 5)) P R I Z nx = some z) (hq : f_X9_add (xs (6 * j + 1)) (xs (6 * j + 2)) (xs (6 * j + 3)) (xs (6 * j + 4)) (xs (6 * j + 5)) z.2.2.2.1 z.2.1 = some q) (ht : q.2 70 7 = z.1) (ha : z.1 = 0 → z.2.2.2.2.1 0 = q.1.toInt64) (hRc : cells + 3 ≤ room_1.cells) (hRs : slots + 71 ≤ room_1.slots)
    (K : ∀ (H : Heap) (locs : List Loc) (ls : Array Slot), Wd g q.2 z.2.2.1 z.2.2.2.1 z.2.2.2.2 s.heap H locs → lv_has ls 9 [(5, .int (nI (6 * j))), (4, .ref (g.2.2 + 84)), (3, .ref (g.2.2 + 83)), (2, .ref (g.2.2 + 70)), (1, .ref (g.2.2 + 0)), (0, .ref b)] → W p l e room_1 s m args below meth c H locs (cells + 3) (slots + 71) Q (F0 m 2083 ls [])) : W p l e room_1 s m args below meth c H locs cells slots Q (F0 m 168 ls []) := by
  have hx := C0.1; have hb := C0.2.1; have hts := C0.2.2.2.2.2.1
  have hRc0 : cells + 3 ≤ room_1.cells := hRc; have hRs0 : slots + 71 ≤ room_1.slots := hRs
  refine lv_aload_n hx hb dL_law_168 rfl (lv_at hl 4 rfl) ?_
  refine lv_aload_n hx hb dL_law_169 rfl (lv_at hl 5 rfl) ?_
  refine lv_iload hx hb dL_law_170 (lv_at hl 0 rfl) ?_
  refine lv_iconst (v := 1) hx hb dL_law_172 (by decide) ?_
  refine lv_iadd hx hb dL_law_173 ?_
  refine aw_sld C0 hX hbl hg hW (n := 6 * j + 1) (nI_add (6 * j) 1) (by omega) hL dL_law_174 ?_
  refine lv_aload_n hx hb dL_law_175 rfl (lv_at hl 5 rfl) ?_
  refine lv_iload hx hb dL_law_176 (lv_at hl 0 rfl) ?_
  refine lv_iconst (v := 2) hx hb dL_law_178 (by decide) ?_
  refine lv_iadd hx hb dL_law_179 ?_
  refine aw_sld C0 hX hbl hg hW (n := 6 * j + 2) (nI_add (6 * j) 2) (by omega) hL dL_law_180 ?_
  refine lv_aload_n hx hb dL_law_181 rfl (lv_at hl 5 rfl) ?_
  refine lv_iload hx hb dL_law_182 (lv_at hl 0 rfl) ?_
  refine lv_iconst (v := 3) hx hb dL_law_184 (by decide) ?_
  refine lv_iadd hx hb dL_law_185 ?_
  refine aw_sld C0 hX hbl hg hW (n := 6 * j + 3) (nI_add (6 * j) 3) (by omega) hL dL_law_186 ?_
  refine lv_aload_n hx hb dL_law_187 rfl (lv_at hl 5 rfl) ?_
  refine lv_iload hx hb dL_law_188 (lv_at hl 0 rfl) ?_
  refine lv_iconst (v := 4) hx hb dL_law_190 (by decide) ?_
  refine lv_iadd hx hb dL_law_191 ?_
  refine aw_sld C0 hX hbl hg hW (n := 6 * j + 4) (nI_add (6 * j) 4) (by omega) hL dL_law_192 ?_
  refine lv_aload_n hx hb dL_law_193 rfl (lv_at hl 5 rfl) ?_
  refine lv_iload hx hb dL_law_194 (lv_at hl 0 rfl) ?_
  refine lv_iconst (v := 5) hx hb dL_law_196 (by decide) ?_
  refine lv_iadd hx hb dL_law_197 ?_
  refine aw_sld C0 hX hbl hg hW (n := 6 * j + 5) (nI_add (6 * j) 5) (by omega) hL dL_law_198 ?_
  refine lv_aload_n hx hb dL_law_199 rfl (lv_at hl 2 rfl) ?_
  refine aw_LS (rest := []) C0 hW hsz (c_L_add hfl (xs (6 * j + 1)) (xs (6 * j + 2)) (xs (6 * j + 3)) (xs (6 * j + 4)) (xs (6 * j + 5)) hz) (csw_101 hts) rfl hl.1 rfl (Nat.le_of_ble_eq_true rfl) ⟨hRc, hRs⟩ dL_law_200 (fun H locs hW => ?_)
  refine lv_istore (lv' := [(6, .int z.1), (5, .int (nI (6 * j))), (4, .ref (g.2.2 + 84)), (3, .ref (g.2.2 + 83)), (2, .ref (g.2.2 + 70)), (1, .ref (g.2.2 + 0)), (0, .ref b)]) hx hb dL_law_203 hl (Nat.le_of_ble_eq_true rfl) rfl (fun ls hl => ?_)
  refine lv_aload_n hx hb dL_law_205 rfl (lv_at hl 4 rfl) ?_
  refine lv_aload_n hx hb dL_law_206 rfl (lv_at hl 6 rfl) ?_
  refine lv_iload hx hb dL_law_207 (lv_at hl 1 rfl) ?_
  refine lv_iconst (v := 1) hx hb dL_law_209 (by decide) ?_
  refine lv_iadd hx hb dL_law_210 ?_
  refine aw_sld C0 hX hbl hg hW (n := 6 * j + 1) (nI_add (6 * j) 1) (by omega) hL dL_law_211 ?_
  refine lv_aload_n hx hb dL_law_212 rfl (lv_at hl 6 rfl) ?_
  refine lv_iload hx hb dL_law_213 (lv_at hl 1 rfl) ?_
  refine lv_iconst (v := 2) hx hb dL_law_215 (by decide) ?_
  refine lv_iadd hx hb dL_law_216 ?_
  refine aw_sld C0 hX hbl hg hW (n := 6 * j + 2) (nI_add (6 * j) 2) (by omega) hL dL_law_217 ?_
  refine lv_aload_n hx hb dL_law_218 rfl (lv_at hl 6 rfl) ?_
  refine lv_iload hx hb dL_law_219 (lv_at hl 1 rfl) ?_
  refine lv_iconst (v := 3) hx hb dL_law_221 (by decide) ?_
  refine lv_iadd hx hb dL_law_222 ?_
  refine aw_sld C0 hX hbl hg hW (n := 6 * j + 3) (nI_add (6 * j) 3) (by omega) hL dL_law_223 ?_
  refine lv_aload_n hx hb dL_law_224 rfl (lv_at hl 6 rfl) ?_
  refine lv_iload hx hb dL_law_225 (lv_at hl 1 rfl) ?_
  refine lv_iconst (v := 4) hx hb dL_law_227 (by decide) ?_
  refine lv_iadd hx hb dL_law_228 ?_
  refine aw_sld C0 hX hbl hg hW (n := 6 * j + 4) (nI_add (6 * j) 4) (by omega) hL dL_law_229 ?_
  refine lv_aload_n hx hb dL_law_230 rfl (lv_at hl 6 rfl) ?_
  refine lv_iload hx hb dL_law_231 (lv_at hl 1 rfl) ?_
  refine lv_iconst (v := 5) hx hb dL_law_233 (by decide) ?_
  refine lv_iadd hx hb dL_law_234 ?_
  refine aw_sld C0 hX hbl hg hW (n := 6 * j + 5) (nI_add (6 * j) 5) (by omega) hL dL_law_235 ?_
  refine aw_cVi (rest := []) C0 hW (lv_fix (by decide)) (cel_8 kd70) rfl (c_X9_add (xs (6 * j + 1)) (xs (6 * j + 2)) (xs (6 * j + 3)) (xs (6 * j + 4)) (xs (6 * j + 5)) hq) (cvw_106 hts) rfl hl.1 rfl (Nat.le_of_ble_eq_true rfl) ⟨hRc0, hRs0⟩ dL_law_236 (fun H locs hW => ?_)
  refine lv_istore (lv' := [(7, .int q.1), (6, .int z.1), (5, .int (nI (6 * j))), (4, .ref (g.2.2 + 84)), (3, .ref (g.2.2 + 83)), (2, .ref (g.2.2 + 70)), (1, .ref (g.2.2 + 0)), (0, .ref b)]) hx hb dL_law_239 hl (Nat.le_of_ble_eq_true rfl) rfl (fun ls hl => ?_)
  refine lv_aload_n hx hb dL_law_241 rfl (lv_at hl 5 rfl) ?_
  refine aw_cVi (rest := []) C0 hW (lv_fix (by decide)) (cel_8 kd70) rfl (c_X9_thrown rfl) (cvw_107 hts) rfl hl.1 rfl (Nat.le_of_ble_eq_true rfl) ⟨hRc0, hRs0⟩ dL_law_242 (fun H locs hW => ?_)
  refine lv_iload hx hb dL_law_245 (lv_at hl 1 rfl) ?_
  refine lv_icmp_eq (tgt := 252) hx hb dL_law_247 rfl (fun _ => ?_) (fun hc => absurd ht hc)
  refine lv_iload hx hb dL_law_252 (lv_at hl 1 rfl) ?_
  refine lv_if_ne (tgt := 269) hx hb dL_law_254 rfl (fun hc => ?_) (fun hc => ?_)
  · refine lv_goto (tgt := 2083) hx hb dL_law_269 rfl ?_
    exact K H locs ls hW (lv_sub hl [2, 3, 4, 5, 6, 7] rfl)
  have h0 : z.1 = 0 := hc
  refine lv_aload_n hx hb dL_law_257 rfl (lv_at hl 4 rfl) ?_
  refine lv_iconst (v := 0) hx hb dL_law_258 (by decide) ?_
  refine aw_lald C0 hW dL_law_259 ?_
  refine lv_iload hx hb dL_law_260 (lv_at hl 0 rfl) ?_
  refine lv_i2l (v := q.1.toInt64) hx hb dL_law_262 rfl ?_
  refine W.lcmp hx hb dL_law_263 ?_
  refine lv_if_eq (tgt := 269) hx hb dL_law_264 rfl (fun _ => ?_) (fun hc => absurd (lg_same (ha h0)) hc)
  refine lv_goto (tgt := 2083) hx hb dL_law_269 rfl ?_
  exact K H locs ls hW (lv_sub hl [2, 3, 4, 5, 6, 7] rfl)
set_option maxHeartbeats 4000000 in
set_option maxRecDepth 100000 in
theorem lc_1 {nx : Nat} {z : Int32 × Mem × Rem × Pool × Zed} {q : Int32 × Mem} (hfl : l.stackTraces = false) (C0 : CX g p s m args meth c RL cL_law 9 ret) (hX : va_X b L xs s s.heap) (hbl : b < s.heap.size) (hg : g.2.2 = s.heap.size) (hL : L ≤ 3072) (hj : 6 * j + 6 ≤ L) (hW : Wd g I R P Z s.heap H locs) (hsz : H.size = g.2.2 + nx) (hl : lv_has ls 9 [(5, .int (nI (6 * j))), (4, .ref (g.2.2 + 84)), (3, .ref (g.2.2 + 83)), (2, .ref (g.2.2 + 70)), (1, .ref (g.2.2 + 0)), (0, .ref b)])
    (hz : f_L_change (xs (6 * j + 1)) (xs (6 * j + 2)) (xs (6 * j + 3)) (xs (6 * j + 4)) P R I Z nx = some z) (hq : f_X9_change (xs (6 * j + 1)) (xs (6 * j + 2)) (xs (6 * j + 3)) (xs (6 * j + 4)) z.2.2.2.1 z.2.1 = some q) (ht : q.2 70 7 = z.1) (ha : z.1 = 0 → z.2.2.2.2.1 0 = q.1.toInt64) (hRc : cells + 3 ≤ room_1.cells) (hRs : slots + 71 ≤ room_1.slots)
    (K : ∀ (H : Heap) (locs : List Loc) (ls : Array Slot), Wd g q.2 z.2.2.1 z.2.2.2.1 z.2.2.2.2 s.heap H locs → lv_has ls 9 [(5, .int (nI (6 * j))), (4, .ref (g.2.2 + 84)), (3, .ref (g.2.2 + 83)), (2, .ref (g.2.2 + 70)), (1, .ref (g.2.2 + 0)), (0, .ref b)] → W p l e room_1 s m args below meth c H locs (cells + 3) (slots + 71) Q (F0 m 2083 ls [])) : W p l e room_1 s m args below meth c H locs cells slots Q (F0 m 272 ls []) := by
  have hx := C0.1; have hb := C0.2.1; have hts := C0.2.2.2.2.2.1
  have hRc0 : cells + 3 ≤ room_1.cells := hRc; have hRs0 : slots + 71 ≤ room_1.slots := hRs
  refine lv_aload_n hx hb dL_law_272 rfl (lv_at hl 4 rfl) ?_
  refine lv_aload_n hx hb dL_law_273 rfl (lv_at hl 5 rfl) ?_
  refine lv_iload hx hb dL_law_274 (lv_at hl 0 rfl) ?_
  refine lv_iconst (v := 1) hx hb dL_law_276 (by decide) ?_
  refine lv_iadd hx hb dL_law_277 ?_
  refine aw_sld C0 hX hbl hg hW (n := 6 * j + 1) (nI_add (6 * j) 1) (by omega) hL dL_law_278 ?_
  refine lv_aload_n hx hb dL_law_279 rfl (lv_at hl 5 rfl) ?_
  refine lv_iload hx hb dL_law_280 (lv_at hl 0 rfl) ?_
  refine lv_iconst (v := 2) hx hb dL_law_282 (by decide) ?_
  refine lv_iadd hx hb dL_law_283 ?_
  refine aw_sld C0 hX hbl hg hW (n := 6 * j + 2) (nI_add (6 * j) 2) (by omega) hL dL_law_284 ?_
  refine lv_aload_n hx hb dL_law_285 rfl (lv_at hl 5 rfl) ?_
  refine lv_iload hx hb dL_law_286 (lv_at hl 0 rfl) ?_
  refine lv_iconst (v := 3) hx hb dL_law_288 (by decide) ?_
  refine lv_iadd hx hb dL_law_289 ?_
  refine aw_sld C0 hX hbl hg hW (n := 6 * j + 3) (nI_add (6 * j) 3) (by omega) hL dL_law_290 ?_
  refine lv_aload_n hx hb dL_law_291 rfl (lv_at hl 5 rfl) ?_
  refine lv_iload hx hb dL_law_292 (lv_at hl 0 rfl) ?_
  refine lv_iconst (v := 4) hx hb dL_law_294 (by decide) ?_
  refine lv_iadd hx hb dL_law_295 ?_
  refine aw_sld C0 hX hbl hg hW (n := 6 * j + 4) (nI_add (6 * j) 4) (by omega) hL dL_law_296 ?_
  refine lv_aload_n hx hb dL_law_297 rfl (lv_at hl 2 rfl) ?_
  refine aw_LS (rest := []) C0 hW hsz (c_L_change hfl (xs (6 * j + 1)) (xs (6 * j + 2)) (xs (6 * j + 3)) (xs (6 * j + 4)) hz) (csw_110 hts) rfl hl.1 rfl (Nat.le_of_ble_eq_true rfl) ⟨hRc, hRs⟩ dL_law_298 (fun H locs hW => ?_)
  refine lv_istore (lv' := [(6, .int z.1), (5, .int (nI (6 * j))), (4, .ref (g.2.2 + 84)), (3, .ref (g.2.2 + 83)), (2, .ref (g.2.2 + 70)), (1, .ref (g.2.2 + 0)), (0, .ref b)]) hx hb dL_law_301 hl (Nat.le_of_ble_eq_true rfl) rfl (fun ls hl => ?_)
  refine lv_aload_n hx hb dL_law_303 rfl (lv_at hl 4 rfl) ?_
  refine lv_aload_n hx hb dL_law_304 rfl (lv_at hl 6 rfl) ?_
  refine lv_iload hx hb dL_law_305 (lv_at hl 1 rfl) ?_
  refine lv_iconst (v := 1) hx hb dL_law_307 (by decide) ?_
  refine lv_iadd hx hb dL_law_308 ?_
  refine aw_sld C0 hX hbl hg hW (n := 6 * j + 1) (nI_add (6 * j) 1) (by omega) hL dL_law_309 ?_
  refine lv_aload_n hx hb dL_law_310 rfl (lv_at hl 6 rfl) ?_
  refine lv_iload hx hb dL_law_311 (lv_at hl 1 rfl) ?_
  refine lv_iconst (v := 2) hx hb dL_law_313 (by decide) ?_
  refine lv_iadd hx hb dL_law_314 ?_
  refine aw_sld C0 hX hbl hg hW (n := 6 * j + 2) (nI_add (6 * j) 2) (by omega) hL dL_law_315 ?_
  refine lv_aload_n hx hb dL_law_316 rfl (lv_at hl 6 rfl) ?_
  refine lv_iload hx hb dL_law_317 (lv_at hl 1 rfl) ?_
  refine lv_iconst (v := 3) hx hb dL_law_319 (by decide) ?_
  refine lv_iadd hx hb dL_law_320 ?_
  refine aw_sld C0 hX hbl hg hW (n := 6 * j + 3) (nI_add (6 * j) 3) (by omega) hL dL_law_321 ?_
  refine lv_aload_n hx hb dL_law_322 rfl (lv_at hl 6 rfl) ?_
  refine lv_iload hx hb dL_law_323 (lv_at hl 1 rfl) ?_
  refine lv_iconst (v := 4) hx hb dL_law_325 (by decide) ?_
  refine lv_iadd hx hb dL_law_326 ?_
  refine aw_sld C0 hX hbl hg hW (n := 6 * j + 4) (nI_add (6 * j) 4) (by omega) hL dL_law_327 ?_
  refine aw_cVi (rest := []) C0 hW (lv_fix (by decide)) (cel_8 kd70) rfl (c_X9_change (xs (6 * j + 1)) (xs (6 * j + 2)) (xs (6 * j + 3)) (xs (6 * j + 4)) hq) (cvw_113 hts) rfl hl.1 rfl (Nat.le_of_ble_eq_true rfl) ⟨hRc0, hRs0⟩ dL_law_328 (fun H locs hW => ?_)
  refine lv_istore (lv' := [(7, .int q.1), (6, .int z.1), (5, .int (nI (6 * j))), (4, .ref (g.2.2 + 84)), (3, .ref (g.2.2 + 83)), (2, .ref (g.2.2 + 70)), (1, .ref (g.2.2 + 0)), (0, .ref b)]) hx hb dL_law_331 hl (Nat.le_of_ble_eq_true rfl) rfl (fun ls hl => ?_)
  refine lv_aload_n hx hb dL_law_333 rfl (lv_at hl 5 rfl) ?_
  refine aw_cVi (rest := []) C0 hW (lv_fix (by decide)) (cel_8 kd70) rfl (c_X9_thrown rfl) (cvw_107 hts) rfl hl.1 rfl (Nat.le_of_ble_eq_true rfl) ⟨hRc0, hRs0⟩ dL_law_334 (fun H locs hW => ?_)
  refine lv_iload hx hb dL_law_337 (lv_at hl 1 rfl) ?_
  refine lv_icmp_eq (tgt := 344) hx hb dL_law_339 rfl (fun _ => ?_) (fun hc => absurd ht hc)
  refine lv_iload hx hb dL_law_344 (lv_at hl 1 rfl) ?_
  refine lv_if_ne (tgt := 361) hx hb dL_law_346 rfl (fun hc => ?_) (fun hc => ?_)
  · refine lv_goto (tgt := 2083) hx hb dL_law_361 rfl ?_
    exact K H locs ls hW (lv_sub hl [2, 3, 4, 5, 6, 7] rfl)
  have h0 : z.1 = 0 := hc
  refine lv_aload_n hx hb dL_law_349 rfl (lv_at hl 4 rfl) ?_
  refine lv_iconst (v := 0) hx hb dL_law_350 (by decide) ?_
  refine aw_lald C0 hW dL_law_351 ?_
  refine lv_iload hx hb dL_law_352 (lv_at hl 0 rfl) ?_
  refine lv_i2l (v := q.1.toInt64) hx hb dL_law_354 rfl ?_
  refine W.lcmp hx hb dL_law_355 ?_
  refine lv_if_eq (tgt := 361) hx hb dL_law_356 rfl (fun _ => ?_) (fun hc => absurd (lg_same (ha h0)) hc)
  refine lv_goto (tgt := 2083) hx hb dL_law_361 rfl ?_
  exact K H locs ls hW (lv_sub hl [2, 3, 4, 5, 6, 7] rfl)
set_option maxHeartbeats 4000000 in
set_option maxRecDepth 100000 in
theorem lc_2 {nx : Nat} {z : Int32 × Mem × Rem × Pool × Zed} {q : Int32 × Mem} (hfl : l.stackTraces = false) (C0 : CX g p s m args meth c RL cL_law 9 ret) (hX : va_X b L xs s s.heap) (hbl : b < s.heap.size) (hg : g.2.2 = s.heap.size) (hL : L ≤ 3072) (hj : 6 * j + 6 ≤ L) (hW : Wd g I R P Z s.heap H locs) (hsz : H.size = g.2.2 + nx) (hl : lv_has ls 9 [(5, .int (nI (6 * j))), (4, .ref (g.2.2 + 84)), (3, .ref (g.2.2 + 83)), (2, .ref (g.2.2 + 70)), (1, .ref (g.2.2 + 0)), (0, .ref b)])
    (hz : f_L_drop (xs (6 * j + 1)) (xs (6 * j + 2)) P R I Z nx = some z) (hq : f_X9_drop (xs (6 * j + 1)) (xs (6 * j + 2)) z.2.2.2.1 z.2.1 = some q) (ht : q.2 70 7 = z.1) (ha : z.1 = 0 → z.2.2.2.2.1 0 = q.1.toInt64) (hRc : cells + 3 ≤ room_1.cells) (hRs : slots + 71 ≤ room_1.slots)
    (K : ∀ (H : Heap) (locs : List Loc) (ls : Array Slot), Wd g q.2 z.2.2.1 z.2.2.2.1 z.2.2.2.2 s.heap H locs → lv_has ls 9 [(5, .int (nI (6 * j))), (4, .ref (g.2.2 + 84)), (3, .ref (g.2.2 + 83)), (2, .ref (g.2.2 + 70)), (1, .ref (g.2.2 + 0)), (0, .ref b)] → W p l e room_1 s m args below meth c H locs (cells + 3) (slots + 71) Q (F0 m 2083 ls [])) : W p l e room_1 s m args below meth c H locs cells slots Q (F0 m 364 ls []) := by
  have hx := C0.1; have hb := C0.2.1; have hts := C0.2.2.2.2.2.1
  have hRc0 : cells + 3 ≤ room_1.cells := hRc; have hRs0 : slots + 71 ≤ room_1.slots := hRs
  refine lv_aload_n hx hb dL_law_364 rfl (lv_at hl 4 rfl) ?_
  refine lv_aload_n hx hb dL_law_365 rfl (lv_at hl 5 rfl) ?_
  refine lv_iload hx hb dL_law_366 (lv_at hl 0 rfl) ?_
  refine lv_iconst (v := 1) hx hb dL_law_368 (by decide) ?_
  refine lv_iadd hx hb dL_law_369 ?_
  refine aw_sld C0 hX hbl hg hW (n := 6 * j + 1) (nI_add (6 * j) 1) (by omega) hL dL_law_370 ?_
  refine lv_aload_n hx hb dL_law_371 rfl (lv_at hl 5 rfl) ?_
  refine lv_iload hx hb dL_law_372 (lv_at hl 0 rfl) ?_
  refine lv_iconst (v := 2) hx hb dL_law_374 (by decide) ?_
  refine lv_iadd hx hb dL_law_375 ?_
  refine aw_sld C0 hX hbl hg hW (n := 6 * j + 2) (nI_add (6 * j) 2) (by omega) hL dL_law_376 ?_
  refine lv_aload_n hx hb dL_law_377 rfl (lv_at hl 2 rfl) ?_
  refine aw_LS (rest := []) C0 hW hsz (c_L_drop hfl (xs (6 * j + 1)) (xs (6 * j + 2)) hz) (csw_114 hts) rfl hl.1 rfl (Nat.le_of_ble_eq_true rfl) ⟨hRc, hRs⟩ dL_law_378 (fun H locs hW => ?_)
  refine lv_istore (lv' := [(6, .int z.1), (5, .int (nI (6 * j))), (4, .ref (g.2.2 + 84)), (3, .ref (g.2.2 + 83)), (2, .ref (g.2.2 + 70)), (1, .ref (g.2.2 + 0)), (0, .ref b)]) hx hb dL_law_381 hl (Nat.le_of_ble_eq_true rfl) rfl (fun ls hl => ?_)
  refine lv_aload_n hx hb dL_law_383 rfl (lv_at hl 4 rfl) ?_
  refine lv_aload_n hx hb dL_law_384 rfl (lv_at hl 6 rfl) ?_
  refine lv_iload hx hb dL_law_385 (lv_at hl 1 rfl) ?_
  refine lv_iconst (v := 1) hx hb dL_law_387 (by decide) ?_
  refine lv_iadd hx hb dL_law_388 ?_
  refine aw_sld C0 hX hbl hg hW (n := 6 * j + 1) (nI_add (6 * j) 1) (by omega) hL dL_law_389 ?_
  refine lv_aload_n hx hb dL_law_390 rfl (lv_at hl 6 rfl) ?_
  refine lv_iload hx hb dL_law_391 (lv_at hl 1 rfl) ?_
  refine lv_iconst (v := 2) hx hb dL_law_393 (by decide) ?_
  refine lv_iadd hx hb dL_law_394 ?_
  refine aw_sld C0 hX hbl hg hW (n := 6 * j + 2) (nI_add (6 * j) 2) (by omega) hL dL_law_395 ?_
  refine aw_cVi (rest := []) C0 hW (lv_fix (by decide)) (cel_8 kd70) rfl (c_X9_drop (xs (6 * j + 1)) (xs (6 * j + 2)) hq) (cvw_117 hts) rfl hl.1 rfl (Nat.le_of_ble_eq_true rfl) ⟨hRc0, hRs0⟩ dL_law_396 (fun H locs hW => ?_)
  refine lv_istore (lv' := [(7, .int q.1), (6, .int z.1), (5, .int (nI (6 * j))), (4, .ref (g.2.2 + 84)), (3, .ref (g.2.2 + 83)), (2, .ref (g.2.2 + 70)), (1, .ref (g.2.2 + 0)), (0, .ref b)]) hx hb dL_law_399 hl (Nat.le_of_ble_eq_true rfl) rfl (fun ls hl => ?_)
  refine lv_aload_n hx hb dL_law_401 rfl (lv_at hl 5 rfl) ?_
  refine aw_cVi (rest := []) C0 hW (lv_fix (by decide)) (cel_8 kd70) rfl (c_X9_thrown rfl) (cvw_107 hts) rfl hl.1 rfl (Nat.le_of_ble_eq_true rfl) ⟨hRc0, hRs0⟩ dL_law_402 (fun H locs hW => ?_)
  refine lv_iload hx hb dL_law_405 (lv_at hl 1 rfl) ?_
  refine lv_icmp_eq (tgt := 412) hx hb dL_law_407 rfl (fun _ => ?_) (fun hc => absurd ht hc)
  refine lv_iload hx hb dL_law_412 (lv_at hl 1 rfl) ?_
  refine lv_if_ne (tgt := 429) hx hb dL_law_414 rfl (fun hc => ?_) (fun hc => ?_)
  · refine lv_goto (tgt := 2083) hx hb dL_law_429 rfl ?_
    exact K H locs ls hW (lv_sub hl [2, 3, 4, 5, 6, 7] rfl)
  have h0 : z.1 = 0 := hc
  refine lv_aload_n hx hb dL_law_417 rfl (lv_at hl 4 rfl) ?_
  refine lv_iconst (v := 0) hx hb dL_law_418 (by decide) ?_
  refine aw_lald C0 hW dL_law_419 ?_
  refine lv_iload hx hb dL_law_420 (lv_at hl 0 rfl) ?_
  refine lv_i2l (v := q.1.toInt64) hx hb dL_law_422 rfl ?_
  refine W.lcmp hx hb dL_law_423 ?_
  refine lv_if_eq (tgt := 429) hx hb dL_law_424 rfl (fun _ => ?_) (fun hc => absurd (lg_same (ha h0)) hc)
  refine lv_goto (tgt := 2083) hx hb dL_law_429 rfl ?_
  exact K H locs ls hW (lv_sub hl [2, 3, 4, 5, 6, 7] rfl)
set_option maxHeartbeats 4000000 in
set_option maxRecDepth 100000 in
theorem lc_3 {nx : Nat} {z : Int32 × Mem × Rem × Pool × Zed} {q : Int32 × Mem} (hfl : l.stackTraces = false) (C0 : CX g p s m args meth c RL cL_law 9 ret) (hX : va_X b L xs s s.heap) (hbl : b < s.heap.size) (hg : g.2.2 = s.heap.size) (hL : L ≤ 3072) (hj : 6 * j + 6 ≤ L) (hW : Wd g I R P Z s.heap H locs) (hsz : H.size = g.2.2 + nx) (hl : lv_has ls 9 [(5, .int (nI (6 * j))), (4, .ref (g.2.2 + 84)), (3, .ref (g.2.2 + 83)), (2, .ref (g.2.2 + 70)), (1, .ref (g.2.2 + 0)), (0, .ref b)])
    (hz : f_L_define (xs (6 * j + 1)) P R I Z nx = some z) (hq : f_X9_define (xs (6 * j + 1)) z.2.2.2.1 z.2.1 = some q) (ht : q.2 70 7 = z.1) (ha : z.1 = 0 → z.2.2.2.2.1 0 = q.1.toInt64) (hRc : cells + 3 ≤ room_1.cells) (hRs : slots + 71 ≤ room_1.slots)
    (K : ∀ (H : Heap) (locs : List Loc) (ls : Array Slot), Wd g q.2 z.2.2.1 z.2.2.2.1 z.2.2.2.2 s.heap H locs → lv_has ls 9 [(5, .int (nI (6 * j))), (4, .ref (g.2.2 + 84)), (3, .ref (g.2.2 + 83)), (2, .ref (g.2.2 + 70)), (1, .ref (g.2.2 + 0)), (0, .ref b)] → W p l e room_1 s m args below meth c H locs (cells + 3) (slots + 71) Q (F0 m 2083 ls [])) : W p l e room_1 s m args below meth c H locs cells slots Q (F0 m 432 ls []) := by
  have hx := C0.1; have hb := C0.2.1; have hts := C0.2.2.2.2.2.1
  have hRc0 : cells + 3 ≤ room_1.cells := hRc; have hRs0 : slots + 71 ≤ room_1.slots := hRs
  refine lv_aload_n hx hb dL_law_432 rfl (lv_at hl 4 rfl) ?_
  refine lv_aload_n hx hb dL_law_433 rfl (lv_at hl 5 rfl) ?_
  refine lv_iload hx hb dL_law_434 (lv_at hl 0 rfl) ?_
  refine lv_iconst (v := 1) hx hb dL_law_436 (by decide) ?_
  refine lv_iadd hx hb dL_law_437 ?_
  refine aw_sld C0 hX hbl hg hW (n := 6 * j + 1) (nI_add (6 * j) 1) (by omega) hL dL_law_438 ?_
  refine lv_aload_n hx hb dL_law_439 rfl (lv_at hl 2 rfl) ?_
  refine aw_LS (rest := []) C0 hW hsz (c_L_define hfl (xs (6 * j + 1)) hz) (csw_118 hts) rfl hl.1 rfl (Nat.le_of_ble_eq_true rfl) ⟨hRc, hRs⟩ dL_law_440 (fun H locs hW => ?_)
  refine lv_istore (lv' := [(6, .int z.1), (5, .int (nI (6 * j))), (4, .ref (g.2.2 + 84)), (3, .ref (g.2.2 + 83)), (2, .ref (g.2.2 + 70)), (1, .ref (g.2.2 + 0)), (0, .ref b)]) hx hb dL_law_443 hl (Nat.le_of_ble_eq_true rfl) rfl (fun ls hl => ?_)
  refine lv_aload_n hx hb dL_law_445 rfl (lv_at hl 4 rfl) ?_
  refine lv_aload_n hx hb dL_law_446 rfl (lv_at hl 6 rfl) ?_
  refine lv_iload hx hb dL_law_447 (lv_at hl 1 rfl) ?_
  refine lv_iconst (v := 1) hx hb dL_law_449 (by decide) ?_
  refine lv_iadd hx hb dL_law_450 ?_
  refine aw_sld C0 hX hbl hg hW (n := 6 * j + 1) (nI_add (6 * j) 1) (by omega) hL dL_law_451 ?_
  refine aw_cVi (rest := []) C0 hW (lv_fix (by decide)) (cel_8 kd70) rfl (c_X9_define (xs (6 * j + 1)) hq) (cvw_121 hts) rfl hl.1 rfl (Nat.le_of_ble_eq_true rfl) ⟨hRc0, hRs0⟩ dL_law_452 (fun H locs hW => ?_)
  refine lv_istore (lv' := [(7, .int q.1), (6, .int z.1), (5, .int (nI (6 * j))), (4, .ref (g.2.2 + 84)), (3, .ref (g.2.2 + 83)), (2, .ref (g.2.2 + 70)), (1, .ref (g.2.2 + 0)), (0, .ref b)]) hx hb dL_law_455 hl (Nat.le_of_ble_eq_true rfl) rfl (fun ls hl => ?_)
  refine lv_aload_n hx hb dL_law_457 rfl (lv_at hl 5 rfl) ?_
  refine aw_cVi (rest := []) C0 hW (lv_fix (by decide)) (cel_8 kd70) rfl (c_X9_thrown rfl) (cvw_107 hts) rfl hl.1 rfl (Nat.le_of_ble_eq_true rfl) ⟨hRc0, hRs0⟩ dL_law_458 (fun H locs hW => ?_)
  refine lv_iload hx hb dL_law_461 (lv_at hl 1 rfl) ?_
  refine lv_icmp_eq (tgt := 468) hx hb dL_law_463 rfl (fun _ => ?_) (fun hc => absurd ht hc)
  refine lv_iload hx hb dL_law_468 (lv_at hl 1 rfl) ?_
  refine lv_if_ne (tgt := 485) hx hb dL_law_470 rfl (fun hc => ?_) (fun hc => ?_)
  · refine lv_goto (tgt := 2083) hx hb dL_law_485 rfl ?_
    exact K H locs ls hW (lv_sub hl [2, 3, 4, 5, 6, 7] rfl)
  have h0 : z.1 = 0 := hc
  refine lv_aload_n hx hb dL_law_473 rfl (lv_at hl 4 rfl) ?_
  refine lv_iconst (v := 0) hx hb dL_law_474 (by decide) ?_
  refine aw_lald C0 hW dL_law_475 ?_
  refine lv_iload hx hb dL_law_476 (lv_at hl 0 rfl) ?_
  refine lv_i2l (v := q.1.toInt64) hx hb dL_law_478 rfl ?_
  refine W.lcmp hx hb dL_law_479 ?_
  refine lv_if_eq (tgt := 485) hx hb dL_law_480 rfl (fun _ => ?_) (fun hc => absurd (lg_same (ha h0)) hc)
  refine lv_goto (tgt := 2083) hx hb dL_law_485 rfl ?_
  exact K H locs ls hW (lv_sub hl [2, 3, 4, 5, 6, 7] rfl)
set_option maxHeartbeats 4000000 in
set_option maxRecDepth 100000 in
theorem lc_4 {nx : Nat} {z : Int32 × Mem × Rem × Pool × Zed} {q : Int32 × Mem} (hfl : l.stackTraces = false) (C0 : CX g p s m args meth c RL cL_law 9 ret) (hX : va_X b L xs s s.heap) (hbl : b < s.heap.size) (hg : g.2.2 = s.heap.size) (hL : L ≤ 3072) (hj : 6 * j + 6 ≤ L) (hW : Wd g I R P Z s.heap H locs) (hsz : H.size = g.2.2 + nx) (hl : lv_has ls 9 [(5, .int (nI (6 * j))), (4, .ref (g.2.2 + 84)), (3, .ref (g.2.2 + 83)), (2, .ref (g.2.2 + 70)), (1, .ref (g.2.2 + 0)), (0, .ref b)])
    (hz : f_L_combine (xs (6 * j + 1)) (xs (6 * j + 2)) (xs (6 * j + 3)) (xs (6 * j + 4)) P R I Z nx = some z) (hq : f_X9_combine (xs (6 * j + 1)) (xs (6 * j + 2)) (xs (6 * j + 3)) (xs (6 * j + 4)) z.2.2.2.1 z.2.1 = some q) (ht : q.2 70 7 = z.1) (ha : z.1 = 0 → z.2.2.2.2.1 0 = q.1.toInt64) (hRc : cells + 3 ≤ room_1.cells) (hRs : slots + 71 ≤ room_1.slots)
    (K : ∀ (H : Heap) (locs : List Loc) (ls : Array Slot), Wd g q.2 z.2.2.1 z.2.2.2.1 z.2.2.2.2 s.heap H locs → lv_has ls 9 [(5, .int (nI (6 * j))), (4, .ref (g.2.2 + 84)), (3, .ref (g.2.2 + 83)), (2, .ref (g.2.2 + 70)), (1, .ref (g.2.2 + 0)), (0, .ref b)] → W p l e room_1 s m args below meth c H locs (cells + 3) (slots + 71) Q (F0 m 2083 ls [])) : W p l e room_1 s m args below meth c H locs cells slots Q (F0 m 488 ls []) := by
  have hx := C0.1; have hb := C0.2.1; have hts := C0.2.2.2.2.2.1
  have hRc0 : cells + 3 ≤ room_1.cells := hRc; have hRs0 : slots + 71 ≤ room_1.slots := hRs
  refine lv_aload_n hx hb dL_law_488 rfl (lv_at hl 4 rfl) ?_
  refine lv_aload_n hx hb dL_law_489 rfl (lv_at hl 5 rfl) ?_
  refine lv_iload hx hb dL_law_490 (lv_at hl 0 rfl) ?_
  refine lv_iconst (v := 1) hx hb dL_law_492 (by decide) ?_
  refine lv_iadd hx hb dL_law_493 ?_
  refine aw_sld C0 hX hbl hg hW (n := 6 * j + 1) (nI_add (6 * j) 1) (by omega) hL dL_law_494 ?_
  refine lv_aload_n hx hb dL_law_495 rfl (lv_at hl 5 rfl) ?_
  refine lv_iload hx hb dL_law_496 (lv_at hl 0 rfl) ?_
  refine lv_iconst (v := 2) hx hb dL_law_498 (by decide) ?_
  refine lv_iadd hx hb dL_law_499 ?_
  refine aw_sld C0 hX hbl hg hW (n := 6 * j + 2) (nI_add (6 * j) 2) (by omega) hL dL_law_500 ?_
  refine lv_aload_n hx hb dL_law_501 rfl (lv_at hl 5 rfl) ?_
  refine lv_iload hx hb dL_law_502 (lv_at hl 0 rfl) ?_
  refine lv_iconst (v := 3) hx hb dL_law_504 (by decide) ?_
  refine lv_iadd hx hb dL_law_505 ?_
  refine aw_sld C0 hX hbl hg hW (n := 6 * j + 3) (nI_add (6 * j) 3) (by omega) hL dL_law_506 ?_
  refine lv_aload_n hx hb dL_law_507 rfl (lv_at hl 5 rfl) ?_
  refine lv_iload hx hb dL_law_508 (lv_at hl 0 rfl) ?_
  refine lv_iconst (v := 4) hx hb dL_law_510 (by decide) ?_
  refine lv_iadd hx hb dL_law_511 ?_
  refine aw_sld C0 hX hbl hg hW (n := 6 * j + 4) (nI_add (6 * j) 4) (by omega) hL dL_law_512 ?_
  refine lv_aload_n hx hb dL_law_513 rfl (lv_at hl 2 rfl) ?_
  refine aw_LS (rest := []) C0 hW hsz (c_L_combine hfl (xs (6 * j + 1)) (xs (6 * j + 2)) (xs (6 * j + 3)) (xs (6 * j + 4)) hz) (csw_122 hts) rfl hl.1 rfl (Nat.le_of_ble_eq_true rfl) ⟨hRc, hRs⟩ dL_law_514 (fun H locs hW => ?_)
  refine lv_istore (lv' := [(6, .int z.1), (5, .int (nI (6 * j))), (4, .ref (g.2.2 + 84)), (3, .ref (g.2.2 + 83)), (2, .ref (g.2.2 + 70)), (1, .ref (g.2.2 + 0)), (0, .ref b)]) hx hb dL_law_517 hl (Nat.le_of_ble_eq_true rfl) rfl (fun ls hl => ?_)
  refine lv_aload_n hx hb dL_law_519 rfl (lv_at hl 4 rfl) ?_
  refine lv_aload_n hx hb dL_law_520 rfl (lv_at hl 6 rfl) ?_
  refine lv_iload hx hb dL_law_521 (lv_at hl 1 rfl) ?_
  refine lv_iconst (v := 1) hx hb dL_law_523 (by decide) ?_
  refine lv_iadd hx hb dL_law_524 ?_
  refine aw_sld C0 hX hbl hg hW (n := 6 * j + 1) (nI_add (6 * j) 1) (by omega) hL dL_law_525 ?_
  refine lv_aload_n hx hb dL_law_526 rfl (lv_at hl 6 rfl) ?_
  refine lv_iload hx hb dL_law_527 (lv_at hl 1 rfl) ?_
  refine lv_iconst (v := 2) hx hb dL_law_529 (by decide) ?_
  refine lv_iadd hx hb dL_law_530 ?_
  refine aw_sld C0 hX hbl hg hW (n := 6 * j + 2) (nI_add (6 * j) 2) (by omega) hL dL_law_531 ?_
  refine lv_aload_n hx hb dL_law_532 rfl (lv_at hl 6 rfl) ?_
  refine lv_iload hx hb dL_law_533 (lv_at hl 1 rfl) ?_
  refine lv_iconst (v := 3) hx hb dL_law_535 (by decide) ?_
  refine lv_iadd hx hb dL_law_536 ?_
  refine aw_sld C0 hX hbl hg hW (n := 6 * j + 3) (nI_add (6 * j) 3) (by omega) hL dL_law_537 ?_
  refine lv_aload_n hx hb dL_law_538 rfl (lv_at hl 6 rfl) ?_
  refine lv_iload hx hb dL_law_539 (lv_at hl 1 rfl) ?_
  refine lv_iconst (v := 4) hx hb dL_law_541 (by decide) ?_
  refine lv_iadd hx hb dL_law_542 ?_
  refine aw_sld C0 hX hbl hg hW (n := 6 * j + 4) (nI_add (6 * j) 4) (by omega) hL dL_law_543 ?_
  refine aw_cVi (rest := []) C0 hW (lv_fix (by decide)) (cel_8 kd70) rfl (c_X9_combine (xs (6 * j + 1)) (xs (6 * j + 2)) (xs (6 * j + 3)) (xs (6 * j + 4)) hq) (cvw_124 hts) rfl hl.1 rfl (Nat.le_of_ble_eq_true rfl) ⟨hRc0, hRs0⟩ dL_law_544 (fun H locs hW => ?_)
  refine lv_istore (lv' := [(7, .int q.1), (6, .int z.1), (5, .int (nI (6 * j))), (4, .ref (g.2.2 + 84)), (3, .ref (g.2.2 + 83)), (2, .ref (g.2.2 + 70)), (1, .ref (g.2.2 + 0)), (0, .ref b)]) hx hb dL_law_547 hl (Nat.le_of_ble_eq_true rfl) rfl (fun ls hl => ?_)
  refine lv_aload_n hx hb dL_law_549 rfl (lv_at hl 5 rfl) ?_
  refine aw_cVi (rest := []) C0 hW (lv_fix (by decide)) (cel_8 kd70) rfl (c_X9_thrown rfl) (cvw_107 hts) rfl hl.1 rfl (Nat.le_of_ble_eq_true rfl) ⟨hRc0, hRs0⟩ dL_law_550 (fun H locs hW => ?_)
  refine lv_iload hx hb dL_law_553 (lv_at hl 1 rfl) ?_
  refine lv_icmp_eq (tgt := 560) hx hb dL_law_555 rfl (fun _ => ?_) (fun hc => absurd ht hc)
  refine lv_iload hx hb dL_law_560 (lv_at hl 1 rfl) ?_
  refine lv_if_ne (tgt := 577) hx hb dL_law_562 rfl (fun hc => ?_) (fun hc => ?_)
  · refine lv_goto (tgt := 2083) hx hb dL_law_577 rfl ?_
    exact K H locs ls hW (lv_sub hl [2, 3, 4, 5, 6, 7] rfl)
  have h0 : z.1 = 0 := hc
  refine lv_aload_n hx hb dL_law_565 rfl (lv_at hl 4 rfl) ?_
  refine lv_iconst (v := 0) hx hb dL_law_566 (by decide) ?_
  refine aw_lald C0 hW dL_law_567 ?_
  refine lv_iload hx hb dL_law_568 (lv_at hl 0 rfl) ?_
  refine lv_i2l (v := q.1.toInt64) hx hb dL_law_570 rfl ?_
  refine W.lcmp hx hb dL_law_571 ?_
  refine lv_if_eq (tgt := 577) hx hb dL_law_572 rfl (fun _ => ?_) (fun hc => absurd (lg_same (ha h0)) hc)
  refine lv_goto (tgt := 2083) hx hb dL_law_577 rfl ?_
  exact K H locs ls hW (lv_sub hl [2, 3, 4, 5, 6, 7] rfl)
set_option maxHeartbeats 4000000 in
set_option maxRecDepth 100000 in
theorem lc_5 {nx : Nat} {z : Int32 × Mem × Rem × Pool × Zed} {q : Int32 × Mem} (hfl : l.stackTraces = false) (C0 : CX g p s m args meth c RL cL_law 9 ret) (hX : va_X b L xs s s.heap) (hbl : b < s.heap.size) (hg : g.2.2 = s.heap.size) (hL : L ≤ 3072) (hj : 6 * j + 6 ≤ L) (hW : Wd g I R P Z s.heap H locs) (hsz : H.size = g.2.2 + nx) (hl : lv_has ls 9 [(5, .int (nI (6 * j))), (4, .ref (g.2.2 + 84)), (3, .ref (g.2.2 + 83)), (2, .ref (g.2.2 + 70)), (1, .ref (g.2.2 + 0)), (0, .ref b)])
    (hz : f_L_check (xs (6 * j + 1)) (xs (6 * j + 2)) P R I Z nx = some z) (hq : f_X9_check (xs (6 * j + 1)) (xs (6 * j + 2)) z.2.2.2.1 z.2.1 = some q) (ht : q.2 70 7 = z.1) (ha : z.1 = 0 → z.2.2.2.2.1 0 = q.1.toInt64) (hRc : cells + 3 ≤ room_1.cells) (hRs : slots + 71 ≤ room_1.slots)
    (K : ∀ (H : Heap) (locs : List Loc) (ls : Array Slot), Wd g q.2 z.2.2.1 z.2.2.2.1 z.2.2.2.2 s.heap H locs → lv_has ls 9 [(5, .int (nI (6 * j))), (4, .ref (g.2.2 + 84)), (3, .ref (g.2.2 + 83)), (2, .ref (g.2.2 + 70)), (1, .ref (g.2.2 + 0)), (0, .ref b)] → W p l e room_1 s m args below meth c H locs (cells + 3) (slots + 71) Q (F0 m 2083 ls [])) : W p l e room_1 s m args below meth c H locs cells slots Q (F0 m 580 ls []) := by
  have hx := C0.1; have hb := C0.2.1; have hts := C0.2.2.2.2.2.1
  have hRc0 : cells + 3 ≤ room_1.cells := hRc; have hRs0 : slots + 71 ≤ room_1.slots := hRs
  refine lv_aload_n hx hb dL_law_580 rfl (lv_at hl 4 rfl) ?_
  refine lv_aload_n hx hb dL_law_581 rfl (lv_at hl 5 rfl) ?_
  refine lv_iload hx hb dL_law_582 (lv_at hl 0 rfl) ?_
  refine lv_iconst (v := 1) hx hb dL_law_584 (by decide) ?_
  refine lv_iadd hx hb dL_law_585 ?_
  refine aw_sld C0 hX hbl hg hW (n := 6 * j + 1) (nI_add (6 * j) 1) (by omega) hL dL_law_586 ?_
  refine lv_aload_n hx hb dL_law_587 rfl (lv_at hl 5 rfl) ?_
  refine lv_iload hx hb dL_law_588 (lv_at hl 0 rfl) ?_
  refine lv_iconst (v := 2) hx hb dL_law_590 (by decide) ?_
  refine lv_iadd hx hb dL_law_591 ?_
  refine aw_sld C0 hX hbl hg hW (n := 6 * j + 2) (nI_add (6 * j) 2) (by omega) hL dL_law_592 ?_
  refine lv_aload_n hx hb dL_law_593 rfl (lv_at hl 2 rfl) ?_
  refine aw_LS (rest := []) C0 hW hsz (c_L_check hfl (xs (6 * j + 1)) (xs (6 * j + 2)) hz) (csw_125 hts) rfl hl.1 rfl (Nat.le_of_ble_eq_true rfl) ⟨hRc, hRs⟩ dL_law_594 (fun H locs hW => ?_)
  refine lv_istore (lv' := [(6, .int z.1), (5, .int (nI (6 * j))), (4, .ref (g.2.2 + 84)), (3, .ref (g.2.2 + 83)), (2, .ref (g.2.2 + 70)), (1, .ref (g.2.2 + 0)), (0, .ref b)]) hx hb dL_law_597 hl (Nat.le_of_ble_eq_true rfl) rfl (fun ls hl => ?_)
  refine lv_aload_n hx hb dL_law_599 rfl (lv_at hl 4 rfl) ?_
  refine lv_aload_n hx hb dL_law_600 rfl (lv_at hl 6 rfl) ?_
  refine lv_iload hx hb dL_law_601 (lv_at hl 1 rfl) ?_
  refine lv_iconst (v := 1) hx hb dL_law_603 (by decide) ?_
  refine lv_iadd hx hb dL_law_604 ?_
  refine aw_sld C0 hX hbl hg hW (n := 6 * j + 1) (nI_add (6 * j) 1) (by omega) hL dL_law_605 ?_
  refine lv_aload_n hx hb dL_law_606 rfl (lv_at hl 6 rfl) ?_
  refine lv_iload hx hb dL_law_607 (lv_at hl 1 rfl) ?_
  refine lv_iconst (v := 2) hx hb dL_law_609 (by decide) ?_
  refine lv_iadd hx hb dL_law_610 ?_
  refine aw_sld C0 hX hbl hg hW (n := 6 * j + 2) (nI_add (6 * j) 2) (by omega) hL dL_law_611 ?_
  refine aw_cVi (rest := []) C0 hW (lv_fix (by decide)) (cel_8 kd70) rfl (c_X9_check (xs (6 * j + 1)) (xs (6 * j + 2)) hq) (cvw_127 hts) rfl hl.1 rfl (Nat.le_of_ble_eq_true rfl) ⟨hRc0, hRs0⟩ dL_law_612 (fun H locs hW => ?_)
  refine lv_istore (lv' := [(7, .int q.1), (6, .int z.1), (5, .int (nI (6 * j))), (4, .ref (g.2.2 + 84)), (3, .ref (g.2.2 + 83)), (2, .ref (g.2.2 + 70)), (1, .ref (g.2.2 + 0)), (0, .ref b)]) hx hb dL_law_615 hl (Nat.le_of_ble_eq_true rfl) rfl (fun ls hl => ?_)
  refine lv_aload_n hx hb dL_law_617 rfl (lv_at hl 5 rfl) ?_
  refine aw_cVi (rest := []) C0 hW (lv_fix (by decide)) (cel_8 kd70) rfl (c_X9_thrown rfl) (cvw_107 hts) rfl hl.1 rfl (Nat.le_of_ble_eq_true rfl) ⟨hRc0, hRs0⟩ dL_law_618 (fun H locs hW => ?_)
  refine lv_iload hx hb dL_law_621 (lv_at hl 1 rfl) ?_
  refine lv_icmp_eq (tgt := 628) hx hb dL_law_623 rfl (fun _ => ?_) (fun hc => absurd ht hc)
  refine lv_iload hx hb dL_law_628 (lv_at hl 1 rfl) ?_
  refine lv_if_ne (tgt := 645) hx hb dL_law_630 rfl (fun hc => ?_) (fun hc => ?_)
  · refine lv_goto (tgt := 2083) hx hb dL_law_645 rfl ?_
    exact K H locs ls hW (lv_sub hl [2, 3, 4, 5, 6, 7] rfl)
  have h0 : z.1 = 0 := hc
  refine lv_aload_n hx hb dL_law_633 rfl (lv_at hl 4 rfl) ?_
  refine lv_iconst (v := 0) hx hb dL_law_634 (by decide) ?_
  refine aw_lald C0 hW dL_law_635 ?_
  refine lv_iload hx hb dL_law_636 (lv_at hl 0 rfl) ?_
  refine lv_i2l (v := q.1.toInt64) hx hb dL_law_638 rfl ?_
  refine W.lcmp hx hb dL_law_639 ?_
  refine lv_if_eq (tgt := 645) hx hb dL_law_640 rfl (fun _ => ?_) (fun hc => absurd (lg_same (ha h0)) hc)
  refine lv_goto (tgt := 2083) hx hb dL_law_645 rfl ?_
  exact K H locs ls hW (lv_sub hl [2, 3, 4, 5, 6, 7] rfl)
set_option maxHeartbeats 4000000 in
set_option maxRecDepth 100000 in
theorem lc_6 {nx : Nat} {z : Int32 × Mem × Rem × Pool × Zed} {q : Int32 × Mem} (hfl : l.stackTraces = false) (C0 : CX g p s m args meth c RL cL_law 9 ret) (hX : va_X b L xs s s.heap) (hbl : b < s.heap.size) (hg : g.2.2 = s.heap.size) (hL : L ≤ 3072) (hj : 6 * j + 6 ≤ L) (hW : Wd g I R P Z s.heap H locs) (hsz : H.size = g.2.2 + nx) (hl : lv_has ls 9 [(5, .int (nI (6 * j))), (4, .ref (g.2.2 + 84)), (3, .ref (g.2.2 + 83)), (2, .ref (g.2.2 + 70)), (1, .ref (g.2.2 + 0)), (0, .ref b)])
    (hz : f_L_remove (xs (6 * j + 1)) (xs (6 * j + 2)) P R I Z nx = some z) (hq : f_X9_remove (xs (6 * j + 1)) (xs (6 * j + 2)) z.2.2.2.1 z.2.1 = some q) (ht : q.2 70 7 = z.1) (ha : z.1 = 0 → z.2.2.2.2.1 0 = q.1.toInt64) (hRc : cells + 3 ≤ room_1.cells) (hRs : slots + 71 ≤ room_1.slots)
    (K : ∀ (H : Heap) (locs : List Loc) (ls : Array Slot), Wd g q.2 z.2.2.1 z.2.2.2.1 z.2.2.2.2 s.heap H locs → lv_has ls 9 [(5, .int (nI (6 * j))), (4, .ref (g.2.2 + 84)), (3, .ref (g.2.2 + 83)), (2, .ref (g.2.2 + 70)), (1, .ref (g.2.2 + 0)), (0, .ref b)] → W p l e room_1 s m args below meth c H locs (cells + 3) (slots + 71) Q (F0 m 2083 ls [])) : W p l e room_1 s m args below meth c H locs cells slots Q (F0 m 648 ls []) := by
  have hx := C0.1; have hb := C0.2.1; have hts := C0.2.2.2.2.2.1
  have hRc0 : cells + 3 ≤ room_1.cells := hRc; have hRs0 : slots + 71 ≤ room_1.slots := hRs
  refine lv_aload_n hx hb dL_law_648 rfl (lv_at hl 4 rfl) ?_
  refine lv_aload_n hx hb dL_law_649 rfl (lv_at hl 5 rfl) ?_
  refine lv_iload hx hb dL_law_650 (lv_at hl 0 rfl) ?_
  refine lv_iconst (v := 1) hx hb dL_law_652 (by decide) ?_
  refine lv_iadd hx hb dL_law_653 ?_
  refine aw_sld C0 hX hbl hg hW (n := 6 * j + 1) (nI_add (6 * j) 1) (by omega) hL dL_law_654 ?_
  refine lv_aload_n hx hb dL_law_655 rfl (lv_at hl 5 rfl) ?_
  refine lv_iload hx hb dL_law_656 (lv_at hl 0 rfl) ?_
  refine lv_iconst (v := 2) hx hb dL_law_658 (by decide) ?_
  refine lv_iadd hx hb dL_law_659 ?_
  refine aw_sld C0 hX hbl hg hW (n := 6 * j + 2) (nI_add (6 * j) 2) (by omega) hL dL_law_660 ?_
  refine lv_aload_n hx hb dL_law_661 rfl (lv_at hl 2 rfl) ?_
  refine aw_LS (rest := []) C0 hW hsz (c_L_remove hfl (xs (6 * j + 1)) (xs (6 * j + 2)) hz) (csw_128 hts) rfl hl.1 rfl (Nat.le_of_ble_eq_true rfl) ⟨hRc, hRs⟩ dL_law_662 (fun H locs hW => ?_)
  refine lv_istore (lv' := [(6, .int z.1), (5, .int (nI (6 * j))), (4, .ref (g.2.2 + 84)), (3, .ref (g.2.2 + 83)), (2, .ref (g.2.2 + 70)), (1, .ref (g.2.2 + 0)), (0, .ref b)]) hx hb dL_law_665 hl (Nat.le_of_ble_eq_true rfl) rfl (fun ls hl => ?_)
  refine lv_aload_n hx hb dL_law_667 rfl (lv_at hl 4 rfl) ?_
  refine lv_aload_n hx hb dL_law_668 rfl (lv_at hl 6 rfl) ?_
  refine lv_iload hx hb dL_law_669 (lv_at hl 1 rfl) ?_
  refine lv_iconst (v := 1) hx hb dL_law_671 (by decide) ?_
  refine lv_iadd hx hb dL_law_672 ?_
  refine aw_sld C0 hX hbl hg hW (n := 6 * j + 1) (nI_add (6 * j) 1) (by omega) hL dL_law_673 ?_
  refine lv_aload_n hx hb dL_law_674 rfl (lv_at hl 6 rfl) ?_
  refine lv_iload hx hb dL_law_675 (lv_at hl 1 rfl) ?_
  refine lv_iconst (v := 2) hx hb dL_law_677 (by decide) ?_
  refine lv_iadd hx hb dL_law_678 ?_
  refine aw_sld C0 hX hbl hg hW (n := 6 * j + 2) (nI_add (6 * j) 2) (by omega) hL dL_law_679 ?_
  refine aw_cVi (rest := []) C0 hW (lv_fix (by decide)) (cel_8 kd70) rfl (c_X9_remove (xs (6 * j + 1)) (xs (6 * j + 2)) hq) (cvw_130 hts) rfl hl.1 rfl (Nat.le_of_ble_eq_true rfl) ⟨hRc0, hRs0⟩ dL_law_680 (fun H locs hW => ?_)
  refine lv_istore (lv' := [(7, .int q.1), (6, .int z.1), (5, .int (nI (6 * j))), (4, .ref (g.2.2 + 84)), (3, .ref (g.2.2 + 83)), (2, .ref (g.2.2 + 70)), (1, .ref (g.2.2 + 0)), (0, .ref b)]) hx hb dL_law_683 hl (Nat.le_of_ble_eq_true rfl) rfl (fun ls hl => ?_)
  refine lv_aload_n hx hb dL_law_685 rfl (lv_at hl 5 rfl) ?_
  refine aw_cVi (rest := []) C0 hW (lv_fix (by decide)) (cel_8 kd70) rfl (c_X9_thrown rfl) (cvw_107 hts) rfl hl.1 rfl (Nat.le_of_ble_eq_true rfl) ⟨hRc0, hRs0⟩ dL_law_686 (fun H locs hW => ?_)
  refine lv_iload hx hb dL_law_689 (lv_at hl 1 rfl) ?_
  refine lv_icmp_eq (tgt := 696) hx hb dL_law_691 rfl (fun _ => ?_) (fun hc => absurd ht hc)
  refine lv_iload hx hb dL_law_696 (lv_at hl 1 rfl) ?_
  refine lv_if_ne (tgt := 713) hx hb dL_law_698 rfl (fun hc => ?_) (fun hc => ?_)
  · refine lv_goto (tgt := 2083) hx hb dL_law_713 rfl ?_
    exact K H locs ls hW (lv_sub hl [2, 3, 4, 5, 6, 7] rfl)
  have h0 : z.1 = 0 := hc
  refine lv_aload_n hx hb dL_law_701 rfl (lv_at hl 4 rfl) ?_
  refine lv_iconst (v := 0) hx hb dL_law_702 (by decide) ?_
  refine aw_lald C0 hW dL_law_703 ?_
  refine lv_iload hx hb dL_law_704 (lv_at hl 0 rfl) ?_
  refine lv_i2l (v := q.1.toInt64) hx hb dL_law_706 rfl ?_
  refine W.lcmp hx hb dL_law_707 ?_
  refine lv_if_eq (tgt := 713) hx hb dL_law_708 rfl (fun _ => ?_) (fun hc => absurd (lg_same (ha h0)) hc)
  refine lv_goto (tgt := 2083) hx hb dL_law_713 rfl ?_
  exact K H locs ls hW (lv_sub hl [2, 3, 4, 5, 6, 7] rfl)
set_option maxHeartbeats 4000000 in
set_option maxRecDepth 100000 in
theorem lc_7 {nx : Nat} {z : Int32 × Mem × Rem × Pool × Zed} {q : Int32 × Mem} (hfl : l.stackTraces = false) (C0 : CX g p s m args meth c RL cL_law 9 ret) (hX : va_X b L xs s s.heap) (hbl : b < s.heap.size) (hg : g.2.2 = s.heap.size) (hL : L ≤ 3072) (hj : 6 * j + 6 ≤ L) (hW : Wd g I R P Z s.heap H locs) (hsz : H.size = g.2.2 + nx) (hl : lv_has ls 9 [(5, .int (nI (6 * j))), (4, .ref (g.2.2 + 84)), (3, .ref (g.2.2 + 83)), (2, .ref (g.2.2 + 70)), (1, .ref (g.2.2 + 0)), (0, .ref b)])
    (hz : f_L_update (xs (6 * j + 1)) (xs (6 * j + 2)) (xs (6 * j + 3)) (xs (6 * j + 4)) P R I Z nx = some z) (hq : f_X9_update (xs (6 * j + 1)) (xs (6 * j + 2)) (xs (6 * j + 3)) (xs (6 * j + 4)) z.2.2.2.1 z.2.1 = some q) (ht : q.2 70 7 = z.1) (ha : z.1 = 0 → z.2.2.2.2.1 0 = q.1.toInt64) (hRc : cells + 3 ≤ room_1.cells) (hRs : slots + 71 ≤ room_1.slots)
    (K : ∀ (H : Heap) (locs : List Loc) (ls : Array Slot), Wd g q.2 z.2.2.1 z.2.2.2.1 z.2.2.2.2 s.heap H locs → lv_has ls 9 [(5, .int (nI (6 * j))), (4, .ref (g.2.2 + 84)), (3, .ref (g.2.2 + 83)), (2, .ref (g.2.2 + 70)), (1, .ref (g.2.2 + 0)), (0, .ref b)] → W p l e room_1 s m args below meth c H locs (cells + 3) (slots + 71) Q (F0 m 2083 ls [])) : W p l e room_1 s m args below meth c H locs cells slots Q (F0 m 716 ls []) := by
  have hx := C0.1; have hb := C0.2.1; have hts := C0.2.2.2.2.2.1
  have hRc0 : cells + 3 ≤ room_1.cells := hRc; have hRs0 : slots + 71 ≤ room_1.slots := hRs
  refine lv_aload_n hx hb dL_law_716 rfl (lv_at hl 4 rfl) ?_
  refine lv_aload_n hx hb dL_law_717 rfl (lv_at hl 5 rfl) ?_
  refine lv_iload hx hb dL_law_718 (lv_at hl 0 rfl) ?_
  refine lv_iconst (v := 1) hx hb dL_law_720 (by decide) ?_
  refine lv_iadd hx hb dL_law_721 ?_
  refine aw_sld C0 hX hbl hg hW (n := 6 * j + 1) (nI_add (6 * j) 1) (by omega) hL dL_law_722 ?_
  refine lv_aload_n hx hb dL_law_723 rfl (lv_at hl 5 rfl) ?_
  refine lv_iload hx hb dL_law_724 (lv_at hl 0 rfl) ?_
  refine lv_iconst (v := 2) hx hb dL_law_726 (by decide) ?_
  refine lv_iadd hx hb dL_law_727 ?_
  refine aw_sld C0 hX hbl hg hW (n := 6 * j + 2) (nI_add (6 * j) 2) (by omega) hL dL_law_728 ?_
  refine lv_aload_n hx hb dL_law_729 rfl (lv_at hl 5 rfl) ?_
  refine lv_iload hx hb dL_law_730 (lv_at hl 0 rfl) ?_
  refine lv_iconst (v := 3) hx hb dL_law_732 (by decide) ?_
  refine lv_iadd hx hb dL_law_733 ?_
  refine aw_sld C0 hX hbl hg hW (n := 6 * j + 3) (nI_add (6 * j) 3) (by omega) hL dL_law_734 ?_
  refine lv_aload_n hx hb dL_law_735 rfl (lv_at hl 5 rfl) ?_
  refine lv_iload hx hb dL_law_736 (lv_at hl 0 rfl) ?_
  refine lv_iconst (v := 4) hx hb dL_law_738 (by decide) ?_
  refine lv_iadd hx hb dL_law_739 ?_
  refine aw_sld C0 hX hbl hg hW (n := 6 * j + 4) (nI_add (6 * j) 4) (by omega) hL dL_law_740 ?_
  refine lv_aload_n hx hb dL_law_741 rfl (lv_at hl 2 rfl) ?_
  refine aw_LS (rest := []) C0 hW hsz (c_L_update hfl (xs (6 * j + 1)) (xs (6 * j + 2)) (xs (6 * j + 3)) (xs (6 * j + 4)) hz) (csw_131 hts) rfl hl.1 rfl (Nat.le_of_ble_eq_true rfl) ⟨hRc, hRs⟩ dL_law_742 (fun H locs hW => ?_)
  refine lv_istore (lv' := [(6, .int z.1), (5, .int (nI (6 * j))), (4, .ref (g.2.2 + 84)), (3, .ref (g.2.2 + 83)), (2, .ref (g.2.2 + 70)), (1, .ref (g.2.2 + 0)), (0, .ref b)]) hx hb dL_law_745 hl (Nat.le_of_ble_eq_true rfl) rfl (fun ls hl => ?_)
  refine lv_aload_n hx hb dL_law_747 rfl (lv_at hl 4 rfl) ?_
  refine lv_aload_n hx hb dL_law_748 rfl (lv_at hl 6 rfl) ?_
  refine lv_iload hx hb dL_law_749 (lv_at hl 1 rfl) ?_
  refine lv_iconst (v := 1) hx hb dL_law_751 (by decide) ?_
  refine lv_iadd hx hb dL_law_752 ?_
  refine aw_sld C0 hX hbl hg hW (n := 6 * j + 1) (nI_add (6 * j) 1) (by omega) hL dL_law_753 ?_
  refine lv_aload_n hx hb dL_law_754 rfl (lv_at hl 6 rfl) ?_
  refine lv_iload hx hb dL_law_755 (lv_at hl 1 rfl) ?_
  refine lv_iconst (v := 2) hx hb dL_law_757 (by decide) ?_
  refine lv_iadd hx hb dL_law_758 ?_
  refine aw_sld C0 hX hbl hg hW (n := 6 * j + 2) (nI_add (6 * j) 2) (by omega) hL dL_law_759 ?_
  refine lv_aload_n hx hb dL_law_760 rfl (lv_at hl 6 rfl) ?_
  refine lv_iload hx hb dL_law_761 (lv_at hl 1 rfl) ?_
  refine lv_iconst (v := 3) hx hb dL_law_763 (by decide) ?_
  refine lv_iadd hx hb dL_law_764 ?_
  refine aw_sld C0 hX hbl hg hW (n := 6 * j + 3) (nI_add (6 * j) 3) (by omega) hL dL_law_765 ?_
  refine lv_aload_n hx hb dL_law_766 rfl (lv_at hl 6 rfl) ?_
  refine lv_iload hx hb dL_law_767 (lv_at hl 1 rfl) ?_
  refine lv_iconst (v := 4) hx hb dL_law_769 (by decide) ?_
  refine lv_iadd hx hb dL_law_770 ?_
  refine aw_sld C0 hX hbl hg hW (n := 6 * j + 4) (nI_add (6 * j) 4) (by omega) hL dL_law_771 ?_
  refine aw_cVi (rest := []) C0 hW (lv_fix (by decide)) (cel_8 kd70) rfl (c_X9_update (xs (6 * j + 1)) (xs (6 * j + 2)) (xs (6 * j + 3)) (xs (6 * j + 4)) hq) (cvw_133 hts) rfl hl.1 rfl (Nat.le_of_ble_eq_true rfl) ⟨hRc0, hRs0⟩ dL_law_772 (fun H locs hW => ?_)
  refine lv_istore (lv' := [(7, .int q.1), (6, .int z.1), (5, .int (nI (6 * j))), (4, .ref (g.2.2 + 84)), (3, .ref (g.2.2 + 83)), (2, .ref (g.2.2 + 70)), (1, .ref (g.2.2 + 0)), (0, .ref b)]) hx hb dL_law_775 hl (Nat.le_of_ble_eq_true rfl) rfl (fun ls hl => ?_)
  refine lv_aload_n hx hb dL_law_777 rfl (lv_at hl 5 rfl) ?_
  refine aw_cVi (rest := []) C0 hW (lv_fix (by decide)) (cel_8 kd70) rfl (c_X9_thrown rfl) (cvw_107 hts) rfl hl.1 rfl (Nat.le_of_ble_eq_true rfl) ⟨hRc0, hRs0⟩ dL_law_778 (fun H locs hW => ?_)
  refine lv_iload hx hb dL_law_781 (lv_at hl 1 rfl) ?_
  refine lv_icmp_eq (tgt := 788) hx hb dL_law_783 rfl (fun _ => ?_) (fun hc => absurd ht hc)
  refine lv_iload hx hb dL_law_788 (lv_at hl 1 rfl) ?_
  refine lv_if_ne (tgt := 805) hx hb dL_law_790 rfl (fun hc => ?_) (fun hc => ?_)
  · refine lv_goto (tgt := 2083) hx hb dL_law_805 rfl ?_
    exact K H locs ls hW (lv_sub hl [2, 3, 4, 5, 6, 7] rfl)
  have h0 : z.1 = 0 := hc
  refine lv_aload_n hx hb dL_law_793 rfl (lv_at hl 4 rfl) ?_
  refine lv_iconst (v := 0) hx hb dL_law_794 (by decide) ?_
  refine aw_lald C0 hW dL_law_795 ?_
  refine lv_iload hx hb dL_law_796 (lv_at hl 0 rfl) ?_
  refine lv_i2l (v := q.1.toInt64) hx hb dL_law_798 rfl ?_
  refine W.lcmp hx hb dL_law_799 ?_
  refine lv_if_eq (tgt := 805) hx hb dL_law_800 rfl (fun _ => ?_) (fun hc => absurd (lg_same (ha h0)) hc)
  refine lv_goto (tgt := 2083) hx hb dL_law_805 rfl ?_
  exact K H locs ls hW (lv_sub hl [2, 3, 4, 5, 6, 7] rfl)
set_option maxHeartbeats 4000000 in
set_option maxRecDepth 100000 in
theorem lc_8 {nx : Nat} {z : Int32 × Mem × Rem × Pool × Zed} {q : Int32 × Mem} (hfl : l.stackTraces = false) (C0 : CX g p s m args meth c RL cL_law 9 ret) (hX : va_X b L xs s s.heap) (hbl : b < s.heap.size) (hg : g.2.2 = s.heap.size) (hL : L ≤ 3072) (hj : 6 * j + 6 ≤ L) (hW : Wd g I R P Z s.heap H locs) (hsz : H.size = g.2.2 + nx) (hl : lv_has ls 9 [(5, .int (nI (6 * j))), (4, .ref (g.2.2 + 84)), (3, .ref (g.2.2 + 83)), (2, .ref (g.2.2 + 70)), (1, .ref (g.2.2 + 0)), (0, .ref b)])
    (hz : f_L_append (xs (6 * j + 1)) P R I Z nx = some z) (hq : f_X9_append (xs (6 * j + 1)) z.2.1 = some q) (ht : q.2 70 7 = z.1) (ha : z.1 = 0 → z.2.2.2.2.1 0 = q.1.toInt64) (hRc : cells + 3 ≤ room_1.cells) (hRs : slots + 71 ≤ room_1.slots)
    (K : ∀ (H : Heap) (locs : List Loc) (ls : Array Slot), Wd g q.2 z.2.2.1 z.2.2.2.1 z.2.2.2.2 s.heap H locs → lv_has ls 9 [(5, .int (nI (6 * j))), (4, .ref (g.2.2 + 84)), (3, .ref (g.2.2 + 83)), (2, .ref (g.2.2 + 70)), (1, .ref (g.2.2 + 0)), (0, .ref b)] → W p l e room_1 s m args below meth c H locs (cells + 3) (slots + 71) Q (F0 m 2083 ls [])) : W p l e room_1 s m args below meth c H locs cells slots Q (F0 m 808 ls []) := by
  have hx := C0.1; have hb := C0.2.1; have hts := C0.2.2.2.2.2.1
  have hRc0 : cells + 3 ≤ room_1.cells := hRc; have hRs0 : slots + 71 ≤ room_1.slots := hRs
  refine lv_aload_n hx hb dL_law_808 rfl (lv_at hl 4 rfl) ?_
  refine lv_aload_n hx hb dL_law_809 rfl (lv_at hl 5 rfl) ?_
  refine lv_iload hx hb dL_law_810 (lv_at hl 0 rfl) ?_
  refine lv_iconst (v := 1) hx hb dL_law_812 (by decide) ?_
  refine lv_iadd hx hb dL_law_813 ?_
  refine aw_sld C0 hX hbl hg hW (n := 6 * j + 1) (nI_add (6 * j) 1) (by omega) hL dL_law_814 ?_
  refine lv_aload_n hx hb dL_law_815 rfl (lv_at hl 2 rfl) ?_
  refine aw_LS (rest := []) C0 hW hsz (c_L_append hfl (xs (6 * j + 1)) hz) (csw_134 hts) rfl hl.1 rfl (Nat.le_of_ble_eq_true rfl) ⟨hRc, hRs⟩ dL_law_816 (fun H locs hW => ?_)
  refine lv_istore (lv' := [(6, .int z.1), (5, .int (nI (6 * j))), (4, .ref (g.2.2 + 84)), (3, .ref (g.2.2 + 83)), (2, .ref (g.2.2 + 70)), (1, .ref (g.2.2 + 0)), (0, .ref b)]) hx hb dL_law_819 hl (Nat.le_of_ble_eq_true rfl) rfl (fun ls hl => ?_)
  refine lv_aload_n hx hb dL_law_821 rfl (lv_at hl 4 rfl) ?_
  refine lv_aload_n hx hb dL_law_822 rfl (lv_at hl 6 rfl) ?_
  refine lv_iload hx hb dL_law_823 (lv_at hl 1 rfl) ?_
  refine lv_iconst (v := 1) hx hb dL_law_825 (by decide) ?_
  refine lv_iadd hx hb dL_law_826 ?_
  refine aw_sld C0 hX hbl hg hW (n := 6 * j + 1) (nI_add (6 * j) 1) (by omega) hL dL_law_827 ?_
  refine aw_cVi (rest := []) C0 hW (lv_fix (by decide)) (cel_8 kd70) rfl (c_X9_append (xs (6 * j + 1)) hq) (cvw_136 hts) rfl hl.1 rfl (Nat.le_of_ble_eq_true rfl) ⟨hRc0, hRs0⟩ dL_law_828 (fun H locs hW => ?_)
  refine lv_istore (lv' := [(7, .int q.1), (6, .int z.1), (5, .int (nI (6 * j))), (4, .ref (g.2.2 + 84)), (3, .ref (g.2.2 + 83)), (2, .ref (g.2.2 + 70)), (1, .ref (g.2.2 + 0)), (0, .ref b)]) hx hb dL_law_831 hl (Nat.le_of_ble_eq_true rfl) rfl (fun ls hl => ?_)
  refine lv_aload_n hx hb dL_law_833 rfl (lv_at hl 5 rfl) ?_
  refine aw_cVi (rest := []) C0 hW (lv_fix (by decide)) (cel_8 kd70) rfl (c_X9_thrown rfl) (cvw_107 hts) rfl hl.1 rfl (Nat.le_of_ble_eq_true rfl) ⟨hRc0, hRs0⟩ dL_law_834 (fun H locs hW => ?_)
  refine lv_iload hx hb dL_law_837 (lv_at hl 1 rfl) ?_
  refine lv_icmp_eq (tgt := 844) hx hb dL_law_839 rfl (fun _ => ?_) (fun hc => absurd ht hc)
  refine lv_iload hx hb dL_law_844 (lv_at hl 1 rfl) ?_
  refine lv_if_ne (tgt := 861) hx hb dL_law_846 rfl (fun hc => ?_) (fun hc => ?_)
  · refine lv_goto (tgt := 2083) hx hb dL_law_861 rfl ?_
    exact K H locs ls hW (lv_sub hl [2, 3, 4, 5, 6, 7] rfl)
  have h0 : z.1 = 0 := hc
  refine lv_aload_n hx hb dL_law_849 rfl (lv_at hl 4 rfl) ?_
  refine lv_iconst (v := 0) hx hb dL_law_850 (by decide) ?_
  refine aw_lald C0 hW dL_law_851 ?_
  refine lv_iload hx hb dL_law_852 (lv_at hl 0 rfl) ?_
  refine lv_i2l (v := q.1.toInt64) hx hb dL_law_854 rfl ?_
  refine W.lcmp hx hb dL_law_855 ?_
  refine lv_if_eq (tgt := 861) hx hb dL_law_856 rfl (fun _ => ?_) (fun hc => absurd (lg_same (ha h0)) hc)
  refine lv_goto (tgt := 2083) hx hb dL_law_861 rfl ?_
  exact K H locs ls hW (lv_sub hl [2, 3, 4, 5, 6, 7] rfl)
set_option maxHeartbeats 4000000 in
set_option maxRecDepth 100000 in
theorem lc_9 {nx : Nat} {z : Int32 × Mem} {q : Int32 × Mem} (hfl : l.stackTraces = false) (C0 : CX g p s m args meth c RL cL_law 9 ret) (hX : va_X b L xs s s.heap) (hbl : b < s.heap.size) (hg : g.2.2 = s.heap.size) (hL : L ≤ 3072) (hj : 6 * j + 6 ≤ L) (hW : Wd g I R P Z s.heap H locs) (hsz : H.size = g.2.2 + nx) (hl : lv_has ls 9 [(5, .int (nI (6 * j))), (4, .ref (g.2.2 + 84)), (3, .ref (g.2.2 + 83)), (2, .ref (g.2.2 + 70)), (1, .ref (g.2.2 + 0)), (0, .ref b)])
    (hz : f_X8_clearBuffer I = some z) (hq : f_X9_clearBuffer z.2 = some q) (ht : z.1 = q.1) (hRc : cells + 3 ≤ room_1.cells) (hRs : slots + 71 ≤ room_1.slots)
    (K : ∀ (H : Heap) (locs : List Loc) (ls : Array Slot), Wd g q.2 R P Z s.heap H locs → lv_has ls 9 [(5, .int (nI (6 * j))), (4, .ref (g.2.2 + 84)), (3, .ref (g.2.2 + 83)), (2, .ref (g.2.2 + 70)), (1, .ref (g.2.2 + 0)), (0, .ref b)] → W p l e room_1 s m args below meth c H locs (cells + 0) (slots + 0) Q (F0 m 2083 ls [])) : W p l e room_1 s m args below meth c H locs cells slots Q (F0 m 864 ls []) := by
  have hx := C0.1; have hb := C0.2.1; have hts := C0.2.2.2.2.2.1
  have hRc0 : cells ≤ room_1.cells := Nat.le_trans (Nat.le_add_right _ _) hRc; have hRs0 : slots ≤ room_1.slots := Nat.le_trans (Nat.le_add_right _ _) hRs
  refine lv_aload_n hx hb dL_law_864 rfl (lv_at hl 4 rfl) ?_
  refine aw_cVi (rest := []) C0 hW (lv_fix (by decide)) (cel_7 kd0) rfl (c_X8_clearBuffer hz) (cvw_137 hts) rfl hl.1 rfl (Nat.le_of_ble_eq_true rfl) ⟨hRc0, hRs0⟩ dL_law_865 (fun H locs hW => ?_)
  refine lv_aload_n hx hb dL_law_868 rfl (lv_at hl 3 rfl) ?_
  refine aw_cVi (rest := [.int z.1]) C0 hW (lv_fix (by decide)) (cel_8 kd70) rfl (c_X9_clearBuffer hq) (cvw_140 hts) rfl hl.1 rfl (Nat.le_of_ble_eq_true rfl) ⟨hRc0, hRs0⟩ dL_law_869 (fun H locs hW => ?_)
  refine lv_icmp_eq (tgt := 2083) hx hb dL_law_872 rfl (fun _ => ?_) (fun hc => absurd ht hc)
  exact K H locs ls hW (lv_sub hl [0, 1, 2, 3, 4, 5] rfl)
set_option maxHeartbeats 4000000 in
set_option maxRecDepth 100000 in
theorem lc_10 {nx : Nat} {z : Int32 × Mem} {q : Int32 × Mem} (hfl : l.stackTraces = false) (C0 : CX g p s m args meth c RL cL_law 9 ret) (hX : va_X b L xs s s.heap) (hbl : b < s.heap.size) (hg : g.2.2 = s.heap.size) (hL : L ≤ 3072) (hj : 6 * j + 6 ≤ L) (hW : Wd g I R P Z s.heap H locs) (hsz : H.size = g.2.2 + nx) (hl : lv_has ls 9 [(5, .int (nI (6 * j))), (4, .ref (g.2.2 + 84)), (3, .ref (g.2.2 + 83)), (2, .ref (g.2.2 + 70)), (1, .ref (g.2.2 + 0)), (0, .ref b)])
    (hz : f_X8_firstError P I = some z) (hq : f_X9_firstError z.2 = some q) (ht : z.1 = q.1) (hRc : cells + 3 ≤ room_1.cells) (hRs : slots + 71 ≤ room_1.slots)
    (K : ∀ (H : Heap) (locs : List Loc) (ls : Array Slot), Wd g q.2 R P Z s.heap H locs → lv_has ls 9 [(5, .int (nI (6 * j))), (4, .ref (g.2.2 + 84)), (3, .ref (g.2.2 + 83)), (2, .ref (g.2.2 + 70)), (1, .ref (g.2.2 + 0)), (0, .ref b)] → W p l e room_1 s m args below meth c H locs (cells + 0) (slots + 0) Q (F0 m 2083 ls [])) : W p l e room_1 s m args below meth c H locs cells slots Q (F0 m 877 ls []) := by
  have hx := C0.1; have hb := C0.2.1; have hts := C0.2.2.2.2.2.1
  have hRc0 : cells ≤ room_1.cells := Nat.le_trans (Nat.le_add_right _ _) hRc; have hRs0 : slots ≤ room_1.slots := Nat.le_trans (Nat.le_add_right _ _) hRs
  refine lv_aload_n hx hb dL_law_877 rfl (lv_at hl 4 rfl) ?_
  refine aw_cVi (rest := []) C0 hW (lv_fix (by decide)) (cel_7 kd0) rfl (c_X8_firstError hz) (cvw_141 hts) rfl hl.1 rfl (Nat.le_of_ble_eq_true rfl) ⟨hRc0, hRs0⟩ dL_law_878 (fun H locs hW => ?_)
  refine lv_aload_n hx hb dL_law_881 rfl (lv_at hl 3 rfl) ?_
  refine aw_cVi (rest := [.int z.1]) C0 hW (lv_fix (by decide)) (cel_8 kd70) rfl (c_X9_firstError hq) (cvw_144 hts) rfl hl.1 rfl (Nat.le_of_ble_eq_true rfl) ⟨hRc0, hRs0⟩ dL_law_882 (fun H locs hW => ?_)
  refine lv_icmp_eq (tgt := 2083) hx hb dL_law_885 rfl (fun _ => ?_) (fun hc => absurd ht hc)
  exact K H locs ls hW (lv_sub hl [0, 1, 2, 3, 4, 5] rfl)
set_option maxHeartbeats 4000000 in
set_option maxRecDepth 100000 in
theorem lc_11 {nx : Nat} {z : Int32 × Mem × Rem × Pool × Zed} {q : Int32 × Mem} (hfl : l.stackTraces = false) (C0 : CX g p s m args meth c RL cL_law 9 ret) (hX : va_X b L xs s s.heap) (hbl : b < s.heap.size) (hg : g.2.2 = s.heap.size) (hL : L ≤ 3072) (hj : 6 * j + 6 ≤ L) (hW : Wd g I R P Z s.heap H locs) (hsz : H.size = g.2.2 + nx) (hl : lv_has ls 9 [(5, .int (nI (6 * j))), (4, .ref (g.2.2 + 84)), (3, .ref (g.2.2 + 83)), (2, .ref (g.2.2 + 70)), (1, .ref (g.2.2 + 0)), (0, .ref b)])
    (hz : f_L_undo  P R I Z nx = some z) (hq : f_X9_undo z.2.2.2.1 z.2.1 = some q) (ht : q.2 70 7 = z.1) (ha : z.1 = 0 → z.2.2.2.2.1 0 = q.1.toInt64) (hRc : cells + 3 ≤ room_1.cells) (hRs : slots + 71 ≤ room_1.slots)
    (K : ∀ (H : Heap) (locs : List Loc) (ls : Array Slot), Wd g q.2 z.2.2.1 z.2.2.2.1 z.2.2.2.2 s.heap H locs → lv_has ls 9 [(5, .int (nI (6 * j))), (4, .ref (g.2.2 + 84)), (3, .ref (g.2.2 + 83)), (2, .ref (g.2.2 + 70)), (1, .ref (g.2.2 + 0)), (0, .ref b)] → W p l e room_1 s m args below meth c H locs (cells + 3) (slots + 71) Q (F0 m 2083 ls [])) : W p l e room_1 s m args below meth c H locs cells slots Q (F0 m 890 ls []) := by
  have hx := C0.1; have hb := C0.2.1; have hts := C0.2.2.2.2.2.1
  have hRc0 : cells + 3 ≤ room_1.cells := hRc; have hRs0 : slots + 71 ≤ room_1.slots := hRs
  refine lv_aload_n hx hb dL_law_890 rfl (lv_at hl 4 rfl) ?_
  refine lv_aload_n hx hb dL_law_891 rfl (lv_at hl 2 rfl) ?_
  refine aw_LS (rest := []) C0 hW hsz (c_L_undo hfl  hz) (csw_145 hts) rfl hl.1 rfl (Nat.le_of_ble_eq_true rfl) ⟨hRc, hRs⟩ dL_law_892 (fun H locs hW => ?_)
  refine lv_istore (lv' := [(6, .int z.1), (5, .int (nI (6 * j))), (4, .ref (g.2.2 + 84)), (3, .ref (g.2.2 + 83)), (2, .ref (g.2.2 + 70)), (1, .ref (g.2.2 + 0)), (0, .ref b)]) hx hb dL_law_895 hl (Nat.le_of_ble_eq_true rfl) rfl (fun ls hl => ?_)
  refine lv_aload_n hx hb dL_law_897 rfl (lv_at hl 4 rfl) ?_
  refine aw_cVi (rest := []) C0 hW (lv_fix (by decide)) (cel_8 kd70) rfl (c_X9_undo hq) (cvw_148 hts) rfl hl.1 rfl (Nat.le_of_ble_eq_true rfl) ⟨hRc0, hRs0⟩ dL_law_898 (fun H locs hW => ?_)
  refine lv_istore (lv' := [(7, .int q.1), (6, .int z.1), (5, .int (nI (6 * j))), (4, .ref (g.2.2 + 84)), (3, .ref (g.2.2 + 83)), (2, .ref (g.2.2 + 70)), (1, .ref (g.2.2 + 0)), (0, .ref b)]) hx hb dL_law_901 hl (Nat.le_of_ble_eq_true rfl) rfl (fun ls hl => ?_)
  refine lv_aload_n hx hb dL_law_903 rfl (lv_at hl 5 rfl) ?_
  refine aw_cVi (rest := []) C0 hW (lv_fix (by decide)) (cel_8 kd70) rfl (c_X9_thrown rfl) (cvw_107 hts) rfl hl.1 rfl (Nat.le_of_ble_eq_true rfl) ⟨hRc0, hRs0⟩ dL_law_904 (fun H locs hW => ?_)
  refine lv_iload hx hb dL_law_907 (lv_at hl 1 rfl) ?_
  refine lv_icmp_eq (tgt := 914) hx hb dL_law_909 rfl (fun _ => ?_) (fun hc => absurd ht hc)
  refine lv_iload hx hb dL_law_914 (lv_at hl 1 rfl) ?_
  refine lv_if_ne (tgt := 931) hx hb dL_law_916 rfl (fun hc => ?_) (fun hc => ?_)
  · refine lv_goto (tgt := 2083) hx hb dL_law_931 rfl ?_
    exact K H locs ls hW (lv_sub hl [2, 3, 4, 5, 6, 7] rfl)
  have h0 : z.1 = 0 := hc
  refine lv_aload_n hx hb dL_law_919 rfl (lv_at hl 4 rfl) ?_
  refine lv_iconst (v := 0) hx hb dL_law_920 (by decide) ?_
  refine aw_lald C0 hW dL_law_921 ?_
  refine lv_iload hx hb dL_law_922 (lv_at hl 0 rfl) ?_
  refine lv_i2l (v := q.1.toInt64) hx hb dL_law_924 rfl ?_
  refine W.lcmp hx hb dL_law_925 ?_
  refine lv_if_eq (tgt := 931) hx hb dL_law_926 rfl (fun _ => ?_) (fun hc => absurd (lg_same (ha h0)) hc)
  refine lv_goto (tgt := 2083) hx hb dL_law_931 rfl ?_
  exact K H locs ls hW (lv_sub hl [2, 3, 4, 5, 6, 7] rfl)
set_option maxHeartbeats 4000000 in
set_option maxRecDepth 100000 in
theorem lc_12 {nx : Nat} {z : Int32 × Mem × Rem × Pool × Zed} {q : Int32 × Mem} (hfl : l.stackTraces = false) (C0 : CX g p s m args meth c RL cL_law 9 ret) (hX : va_X b L xs s s.heap) (hbl : b < s.heap.size) (hg : g.2.2 = s.heap.size) (hL : L ≤ 3072) (hj : 6 * j + 6 ≤ L) (hW : Wd g I R P Z s.heap H locs) (hsz : H.size = g.2.2 + nx) (hl : lv_has ls 9 [(5, .int (nI (6 * j))), (4, .ref (g.2.2 + 84)), (3, .ref (g.2.2 + 83)), (2, .ref (g.2.2 + 70)), (1, .ref (g.2.2 + 0)), (0, .ref b)])
    (hz : f_L_keep (xs (6 * j + 1)) P R I Z nx = some z) (hq : f_X9_keep (xs (6 * j + 1)) z.2.2.2.1 z.2.1 = some q) (ht : q.2 70 7 = z.1) (ha : z.1 = 0 → z.2.2.2.2.1 0 = q.1.toInt64) (hRc : cells + 3 ≤ room_1.cells) (hRs : slots + 71 ≤ room_1.slots)
    (K : ∀ (H : Heap) (locs : List Loc) (ls : Array Slot), Wd g q.2 z.2.2.1 z.2.2.2.1 z.2.2.2.2 s.heap H locs → lv_has ls 9 [(5, .int (nI (6 * j))), (4, .ref (g.2.2 + 84)), (3, .ref (g.2.2 + 83)), (2, .ref (g.2.2 + 70)), (1, .ref (g.2.2 + 0)), (0, .ref b)] → W p l e room_1 s m args below meth c H locs (cells + 3) (slots + 71) Q (F0 m 2083 ls [])) : W p l e room_1 s m args below meth c H locs cells slots Q (F0 m 934 ls []) := by
  have hx := C0.1; have hb := C0.2.1; have hts := C0.2.2.2.2.2.1
  have hRc0 : cells + 3 ≤ room_1.cells := hRc; have hRs0 : slots + 71 ≤ room_1.slots := hRs
  refine lv_aload_n hx hb dL_law_934 rfl (lv_at hl 4 rfl) ?_
  refine lv_aload_n hx hb dL_law_935 rfl (lv_at hl 5 rfl) ?_
  refine lv_iload hx hb dL_law_936 (lv_at hl 0 rfl) ?_
  refine lv_iconst (v := 1) hx hb dL_law_938 (by decide) ?_
  refine lv_iadd hx hb dL_law_939 ?_
  refine aw_sld C0 hX hbl hg hW (n := 6 * j + 1) (nI_add (6 * j) 1) (by omega) hL dL_law_940 ?_
  refine lv_aload_n hx hb dL_law_941 rfl (lv_at hl 2 rfl) ?_
  refine aw_LS (rest := []) C0 hW hsz (c_L_keep hfl (xs (6 * j + 1)) hz) (csw_149 hts) rfl hl.1 rfl (Nat.le_of_ble_eq_true rfl) ⟨hRc, hRs⟩ dL_law_942 (fun H locs hW => ?_)
  refine lv_istore (lv' := [(6, .int z.1), (5, .int (nI (6 * j))), (4, .ref (g.2.2 + 84)), (3, .ref (g.2.2 + 83)), (2, .ref (g.2.2 + 70)), (1, .ref (g.2.2 + 0)), (0, .ref b)]) hx hb dL_law_945 hl (Nat.le_of_ble_eq_true rfl) rfl (fun ls hl => ?_)
  refine lv_aload_n hx hb dL_law_947 rfl (lv_at hl 4 rfl) ?_
  refine lv_aload_n hx hb dL_law_948 rfl (lv_at hl 6 rfl) ?_
  refine lv_iload hx hb dL_law_949 (lv_at hl 1 rfl) ?_
  refine lv_iconst (v := 1) hx hb dL_law_951 (by decide) ?_
  refine lv_iadd hx hb dL_law_952 ?_
  refine aw_sld C0 hX hbl hg hW (n := 6 * j + 1) (nI_add (6 * j) 1) (by omega) hL dL_law_953 ?_
  refine aw_cVi (rest := []) C0 hW (lv_fix (by decide)) (cel_8 kd70) rfl (c_X9_keep (xs (6 * j + 1)) hq) (cvw_151 hts) rfl hl.1 rfl (Nat.le_of_ble_eq_true rfl) ⟨hRc0, hRs0⟩ dL_law_954 (fun H locs hW => ?_)
  refine lv_istore (lv' := [(7, .int q.1), (6, .int z.1), (5, .int (nI (6 * j))), (4, .ref (g.2.2 + 84)), (3, .ref (g.2.2 + 83)), (2, .ref (g.2.2 + 70)), (1, .ref (g.2.2 + 0)), (0, .ref b)]) hx hb dL_law_957 hl (Nat.le_of_ble_eq_true rfl) rfl (fun ls hl => ?_)
  refine lv_aload_n hx hb dL_law_959 rfl (lv_at hl 5 rfl) ?_
  refine aw_cVi (rest := []) C0 hW (lv_fix (by decide)) (cel_8 kd70) rfl (c_X9_thrown rfl) (cvw_107 hts) rfl hl.1 rfl (Nat.le_of_ble_eq_true rfl) ⟨hRc0, hRs0⟩ dL_law_960 (fun H locs hW => ?_)
  refine lv_iload hx hb dL_law_963 (lv_at hl 1 rfl) ?_
  refine lv_icmp_eq (tgt := 970) hx hb dL_law_965 rfl (fun _ => ?_) (fun hc => absurd ht hc)
  refine lv_iload hx hb dL_law_970 (lv_at hl 1 rfl) ?_
  refine lv_if_ne (tgt := 987) hx hb dL_law_972 rfl (fun hc => ?_) (fun hc => ?_)
  · refine lv_goto (tgt := 2083) hx hb dL_law_987 rfl ?_
    exact K H locs ls hW (lv_sub hl [2, 3, 4, 5, 6, 7] rfl)
  have h0 : z.1 = 0 := hc
  refine lv_aload_n hx hb dL_law_975 rfl (lv_at hl 4 rfl) ?_
  refine lv_iconst (v := 0) hx hb dL_law_976 (by decide) ?_
  refine aw_lald C0 hW dL_law_977 ?_
  refine lv_iload hx hb dL_law_978 (lv_at hl 0 rfl) ?_
  refine lv_i2l (v := q.1.toInt64) hx hb dL_law_980 rfl ?_
  refine W.lcmp hx hb dL_law_981 ?_
  refine lv_if_eq (tgt := 987) hx hb dL_law_982 rfl (fun _ => ?_) (fun hc => absurd (lg_same (ha h0)) hc)
  refine lv_goto (tgt := 2083) hx hb dL_law_987 rfl ?_
  exact K H locs ls hW (lv_sub hl [2, 3, 4, 5, 6, 7] rfl)
set_option maxHeartbeats 4000000 in
set_option maxRecDepth 100000 in
theorem lc_13 {nx : Nat} {z : Int32 × Mem × Rem × Pool × Zed} {q : Int32 × Mem} (hfl : l.stackTraces = false) (C0 : CX g p s m args meth c RL cL_law 9 ret) (hX : va_X b L xs s s.heap) (hbl : b < s.heap.size) (hg : g.2.2 = s.heap.size) (hL : L ≤ 3072) (hj : 6 * j + 6 ≤ L) (hW : Wd g I R P Z s.heap H locs) (hsz : H.size = g.2.2 + nx) (hl : lv_has ls 9 [(5, .int (nI (6 * j))), (4, .ref (g.2.2 + 84)), (3, .ref (g.2.2 + 83)), (2, .ref (g.2.2 + 70)), (1, .ref (g.2.2 + 0)), (0, .ref b)])
    (hz : f_L_goBack (xs (6 * j + 1)) P R I Z nx = some z) (hq : f_X9_goBack (xs (6 * j + 1)) z.2.2.2.1 z.2.1 = some q) (ht : q.2 70 7 = z.1) (ha : z.1 = 0 → z.2.2.2.2.1 0 = q.1.toInt64) (hRc : cells + 3 ≤ room_1.cells) (hRs : slots + 71 ≤ room_1.slots)
    (K : ∀ (H : Heap) (locs : List Loc) (ls : Array Slot), Wd g q.2 z.2.2.1 z.2.2.2.1 z.2.2.2.2 s.heap H locs → lv_has ls 9 [(5, .int (nI (6 * j))), (4, .ref (g.2.2 + 84)), (3, .ref (g.2.2 + 83)), (2, .ref (g.2.2 + 70)), (1, .ref (g.2.2 + 0)), (0, .ref b)] → W p l e room_1 s m args below meth c H locs (cells + 3) (slots + 71) Q (F0 m 2083 ls [])) : W p l e room_1 s m args below meth c H locs cells slots Q (F0 m 990 ls []) := by
  have hx := C0.1; have hb := C0.2.1; have hts := C0.2.2.2.2.2.1
  have hRc0 : cells + 3 ≤ room_1.cells := hRc; have hRs0 : slots + 71 ≤ room_1.slots := hRs
  refine lv_aload_n hx hb dL_law_990 rfl (lv_at hl 4 rfl) ?_
  refine lv_aload_n hx hb dL_law_991 rfl (lv_at hl 5 rfl) ?_
  refine lv_iload hx hb dL_law_992 (lv_at hl 0 rfl) ?_
  refine lv_iconst (v := 1) hx hb dL_law_994 (by decide) ?_
  refine lv_iadd hx hb dL_law_995 ?_
  refine aw_sld C0 hX hbl hg hW (n := 6 * j + 1) (nI_add (6 * j) 1) (by omega) hL dL_law_996 ?_
  refine lv_aload_n hx hb dL_law_997 rfl (lv_at hl 2 rfl) ?_
  refine aw_LS (rest := []) C0 hW hsz (c_L_goBack hfl (xs (6 * j + 1)) hz) (csw_152 hts) rfl hl.1 rfl (Nat.le_of_ble_eq_true rfl) ⟨hRc, hRs⟩ dL_law_998 (fun H locs hW => ?_)
  refine lv_istore (lv' := [(6, .int z.1), (5, .int (nI (6 * j))), (4, .ref (g.2.2 + 84)), (3, .ref (g.2.2 + 83)), (2, .ref (g.2.2 + 70)), (1, .ref (g.2.2 + 0)), (0, .ref b)]) hx hb dL_law_1001 hl (Nat.le_of_ble_eq_true rfl) rfl (fun ls hl => ?_)
  refine lv_aload_n hx hb dL_law_1003 rfl (lv_at hl 4 rfl) ?_
  refine lv_aload_n hx hb dL_law_1004 rfl (lv_at hl 6 rfl) ?_
  refine lv_iload hx hb dL_law_1005 (lv_at hl 1 rfl) ?_
  refine lv_iconst (v := 1) hx hb dL_law_1007 (by decide) ?_
  refine lv_iadd hx hb dL_law_1008 ?_
  refine aw_sld C0 hX hbl hg hW (n := 6 * j + 1) (nI_add (6 * j) 1) (by omega) hL dL_law_1009 ?_
  refine aw_cVi (rest := []) C0 hW (lv_fix (by decide)) (cel_8 kd70) rfl (c_X9_goBack (xs (6 * j + 1)) hq) (cvw_154 hts) rfl hl.1 rfl (Nat.le_of_ble_eq_true rfl) ⟨hRc0, hRs0⟩ dL_law_1010 (fun H locs hW => ?_)
  refine lv_istore (lv' := [(7, .int q.1), (6, .int z.1), (5, .int (nI (6 * j))), (4, .ref (g.2.2 + 84)), (3, .ref (g.2.2 + 83)), (2, .ref (g.2.2 + 70)), (1, .ref (g.2.2 + 0)), (0, .ref b)]) hx hb dL_law_1013 hl (Nat.le_of_ble_eq_true rfl) rfl (fun ls hl => ?_)
  refine lv_aload_n hx hb dL_law_1015 rfl (lv_at hl 5 rfl) ?_
  refine aw_cVi (rest := []) C0 hW (lv_fix (by decide)) (cel_8 kd70) rfl (c_X9_thrown rfl) (cvw_107 hts) rfl hl.1 rfl (Nat.le_of_ble_eq_true rfl) ⟨hRc0, hRs0⟩ dL_law_1016 (fun H locs hW => ?_)
  refine lv_iload hx hb dL_law_1019 (lv_at hl 1 rfl) ?_
  refine lv_icmp_eq (tgt := 1026) hx hb dL_law_1021 rfl (fun _ => ?_) (fun hc => absurd ht hc)
  refine lv_iload hx hb dL_law_1026 (lv_at hl 1 rfl) ?_
  refine lv_if_ne (tgt := 1043) hx hb dL_law_1028 rfl (fun hc => ?_) (fun hc => ?_)
  · refine lv_goto (tgt := 2083) hx hb dL_law_1043 rfl ?_
    exact K H locs ls hW (lv_sub hl [2, 3, 4, 5, 6, 7] rfl)
  have h0 : z.1 = 0 := hc
  refine lv_aload_n hx hb dL_law_1031 rfl (lv_at hl 4 rfl) ?_
  refine lv_iconst (v := 0) hx hb dL_law_1032 (by decide) ?_
  refine aw_lald C0 hW dL_law_1033 ?_
  refine lv_iload hx hb dL_law_1034 (lv_at hl 0 rfl) ?_
  refine lv_i2l (v := q.1.toInt64) hx hb dL_law_1036 rfl ?_
  refine W.lcmp hx hb dL_law_1037 ?_
  refine lv_if_eq (tgt := 1043) hx hb dL_law_1038 rfl (fun _ => ?_) (fun hc => absurd (lg_same (ha h0)) hc)
  refine lv_goto (tgt := 2083) hx hb dL_law_1043 rfl ?_
  exact K H locs ls hW (lv_sub hl [2, 3, 4, 5, 6, 7] rfl)
set_option maxHeartbeats 4000000 in
set_option maxRecDepth 100000 in
theorem lc_14 {nx : Nat} {z : Int32 × Mem × Rem × Pool × Zed} {q : Int32 × Mem} (hfl : l.stackTraces = false) (C0 : CX g p s m args meth c RL cL_law 9 ret) (hX : va_X b L xs s s.heap) (hbl : b < s.heap.size) (hg : g.2.2 = s.heap.size) (hL : L ≤ 3072) (hj : 6 * j + 6 ≤ L) (hW : Wd g I R P Z s.heap H locs) (hsz : H.size = g.2.2 + nx) (hl : lv_has ls 9 [(5, .int (nI (6 * j))), (4, .ref (g.2.2 + 84)), (3, .ref (g.2.2 + 83)), (2, .ref (g.2.2 + 70)), (1, .ref (g.2.2 + 0)), (0, .ref b)])
    (hz : f_L_cell (xs (6 * j + 1)) (xs (6 * j + 2)) (xs (6 * j + 3)) P R I Z nx = some z) (hq : f_X9_cell (xs (6 * j + 1)) (xs (6 * j + 2)) (xs (6 * j + 3)) z.2.1 = some q) (ht : q.2 70 7 = z.1) (ha : z.1 = 0 → z.2.2.2.2.1 0 = q.1.toInt64) (hRc : cells + 3 ≤ room_1.cells) (hRs : slots + 71 ≤ room_1.slots)
    (K : ∀ (H : Heap) (locs : List Loc) (ls : Array Slot), Wd g q.2 z.2.2.1 z.2.2.2.1 z.2.2.2.2 s.heap H locs → lv_has ls 9 [(5, .int (nI (6 * j))), (4, .ref (g.2.2 + 84)), (3, .ref (g.2.2 + 83)), (2, .ref (g.2.2 + 70)), (1, .ref (g.2.2 + 0)), (0, .ref b)] → W p l e room_1 s m args below meth c H locs (cells + 3) (slots + 71) Q (F0 m 2083 ls [])) : W p l e room_1 s m args below meth c H locs cells slots Q (F0 m 1046 ls []) := by
  have hx := C0.1; have hb := C0.2.1; have hts := C0.2.2.2.2.2.1
  have hRc0 : cells + 3 ≤ room_1.cells := hRc; have hRs0 : slots + 71 ≤ room_1.slots := hRs
  refine lv_aload_n hx hb dL_law_1046 rfl (lv_at hl 4 rfl) ?_
  refine lv_aload_n hx hb dL_law_1047 rfl (lv_at hl 5 rfl) ?_
  refine lv_iload hx hb dL_law_1048 (lv_at hl 0 rfl) ?_
  refine lv_iconst (v := 1) hx hb dL_law_1050 (by decide) ?_
  refine lv_iadd hx hb dL_law_1051 ?_
  refine aw_sld C0 hX hbl hg hW (n := 6 * j + 1) (nI_add (6 * j) 1) (by omega) hL dL_law_1052 ?_
  refine lv_aload_n hx hb dL_law_1053 rfl (lv_at hl 5 rfl) ?_
  refine lv_iload hx hb dL_law_1054 (lv_at hl 0 rfl) ?_
  refine lv_iconst (v := 2) hx hb dL_law_1056 (by decide) ?_
  refine lv_iadd hx hb dL_law_1057 ?_
  refine aw_sld C0 hX hbl hg hW (n := 6 * j + 2) (nI_add (6 * j) 2) (by omega) hL dL_law_1058 ?_
  refine lv_aload_n hx hb dL_law_1059 rfl (lv_at hl 5 rfl) ?_
  refine lv_iload hx hb dL_law_1060 (lv_at hl 0 rfl) ?_
  refine lv_iconst (v := 3) hx hb dL_law_1062 (by decide) ?_
  refine lv_iadd hx hb dL_law_1063 ?_
  refine aw_sld C0 hX hbl hg hW (n := 6 * j + 3) (nI_add (6 * j) 3) (by omega) hL dL_law_1064 ?_
  refine lv_aload_n hx hb dL_law_1065 rfl (lv_at hl 2 rfl) ?_
  refine aw_LS (rest := []) C0 hW hsz (c_L_cell hfl (xs (6 * j + 1)) (xs (6 * j + 2)) (xs (6 * j + 3)) hz) (csw_155 hts) rfl hl.1 rfl (Nat.le_of_ble_eq_true rfl) ⟨hRc, hRs⟩ dL_law_1066 (fun H locs hW => ?_)
  refine lv_istore (lv' := [(6, .int z.1), (5, .int (nI (6 * j))), (4, .ref (g.2.2 + 84)), (3, .ref (g.2.2 + 83)), (2, .ref (g.2.2 + 70)), (1, .ref (g.2.2 + 0)), (0, .ref b)]) hx hb dL_law_1069 hl (Nat.le_of_ble_eq_true rfl) rfl (fun ls hl => ?_)
  refine lv_aload_n hx hb dL_law_1071 rfl (lv_at hl 4 rfl) ?_
  refine lv_aload_n hx hb dL_law_1072 rfl (lv_at hl 6 rfl) ?_
  refine lv_iload hx hb dL_law_1073 (lv_at hl 1 rfl) ?_
  refine lv_iconst (v := 1) hx hb dL_law_1075 (by decide) ?_
  refine lv_iadd hx hb dL_law_1076 ?_
  refine aw_sld C0 hX hbl hg hW (n := 6 * j + 1) (nI_add (6 * j) 1) (by omega) hL dL_law_1077 ?_
  refine lv_aload_n hx hb dL_law_1078 rfl (lv_at hl 6 rfl) ?_
  refine lv_iload hx hb dL_law_1079 (lv_at hl 1 rfl) ?_
  refine lv_iconst (v := 2) hx hb dL_law_1081 (by decide) ?_
  refine lv_iadd hx hb dL_law_1082 ?_
  refine aw_sld C0 hX hbl hg hW (n := 6 * j + 2) (nI_add (6 * j) 2) (by omega) hL dL_law_1083 ?_
  refine lv_aload_n hx hb dL_law_1084 rfl (lv_at hl 6 rfl) ?_
  refine lv_iload hx hb dL_law_1085 (lv_at hl 1 rfl) ?_
  refine lv_iconst (v := 3) hx hb dL_law_1087 (by decide) ?_
  refine lv_iadd hx hb dL_law_1088 ?_
  refine aw_sld C0 hX hbl hg hW (n := 6 * j + 3) (nI_add (6 * j) 3) (by omega) hL dL_law_1089 ?_
  refine aw_cVi (rest := []) C0 hW (lv_fix (by decide)) (cel_8 kd70) rfl (c_X9_cell (xs (6 * j + 1)) (xs (6 * j + 2)) (xs (6 * j + 3)) hq) (cvw_158 hts) rfl hl.1 rfl (Nat.le_of_ble_eq_true rfl) ⟨hRc0, hRs0⟩ dL_law_1090 (fun H locs hW => ?_)
  refine lv_istore (lv' := [(7, .int q.1), (6, .int z.1), (5, .int (nI (6 * j))), (4, .ref (g.2.2 + 84)), (3, .ref (g.2.2 + 83)), (2, .ref (g.2.2 + 70)), (1, .ref (g.2.2 + 0)), (0, .ref b)]) hx hb dL_law_1093 hl (Nat.le_of_ble_eq_true rfl) rfl (fun ls hl => ?_)
  refine lv_aload_n hx hb dL_law_1095 rfl (lv_at hl 5 rfl) ?_
  refine aw_cVi (rest := []) C0 hW (lv_fix (by decide)) (cel_8 kd70) rfl (c_X9_thrown rfl) (cvw_107 hts) rfl hl.1 rfl (Nat.le_of_ble_eq_true rfl) ⟨hRc0, hRs0⟩ dL_law_1096 (fun H locs hW => ?_)
  refine lv_iload hx hb dL_law_1099 (lv_at hl 1 rfl) ?_
  refine lv_icmp_eq (tgt := 1106) hx hb dL_law_1101 rfl (fun _ => ?_) (fun hc => absurd ht hc)
  refine lv_iload hx hb dL_law_1106 (lv_at hl 1 rfl) ?_
  refine lv_if_ne (tgt := 1123) hx hb dL_law_1108 rfl (fun hc => ?_) (fun hc => ?_)
  · refine lv_goto (tgt := 2083) hx hb dL_law_1123 rfl ?_
    exact K H locs ls hW (lv_sub hl [2, 3, 4, 5, 6, 7] rfl)
  have h0 : z.1 = 0 := hc
  refine lv_aload_n hx hb dL_law_1111 rfl (lv_at hl 4 rfl) ?_
  refine lv_iconst (v := 0) hx hb dL_law_1112 (by decide) ?_
  refine aw_lald C0 hW dL_law_1113 ?_
  refine lv_iload hx hb dL_law_1114 (lv_at hl 0 rfl) ?_
  refine lv_i2l (v := q.1.toInt64) hx hb dL_law_1116 rfl ?_
  refine W.lcmp hx hb dL_law_1117 ?_
  refine lv_if_eq (tgt := 1123) hx hb dL_law_1118 rfl (fun _ => ?_) (fun hc => absurd (lg_same (ha h0)) hc)
  refine lv_goto (tgt := 2083) hx hb dL_law_1123 rfl ?_
  exact K H locs ls hW (lv_sub hl [2, 3, 4, 5, 6, 7] rfl)
set_option maxHeartbeats 4000000 in
set_option maxRecDepth 100000 in
theorem lc_15 {nx : Nat} {z : Int32 × Mem × Rem × Pool × Zed} {q : Int32 × Mem} (hfl : l.stackTraces = false) (C0 : CX g p s m args meth c RL cL_law 9 ret) (hX : va_X b L xs s s.heap) (hbl : b < s.heap.size) (hg : g.2.2 = s.heap.size) (hL : L ≤ 3072) (hj : 6 * j + 6 ≤ L) (hW : Wd g I R P Z s.heap H locs) (hsz : H.size = g.2.2 + nx) (hl : lv_has ls 9 [(5, .int (nI (6 * j))), (4, .ref (g.2.2 + 84)), (3, .ref (g.2.2 + 83)), (2, .ref (g.2.2 + 70)), (1, .ref (g.2.2 + 0)), (0, .ref b)])
    (hz : f_L_column (xs (6 * j + 1)) (xs (6 * j + 2)) (xs (6 * j + 3)) P R I Z nx = some z) (hq : f_X9_column (xs (6 * j + 1)) (xs (6 * j + 2)) (xs (6 * j + 3)) z.2.1 = some q) (ht : q.2 70 7 = z.1) (ha : z.1 = 0 → z.2.2.2.2.1 0 = q.1.toInt64) (hRc : cells + 3 ≤ room_1.cells) (hRs : slots + 71 ≤ room_1.slots)
    (K : ∀ (H : Heap) (locs : List Loc) (ls : Array Slot), Wd g q.2 z.2.2.1 z.2.2.2.1 z.2.2.2.2 s.heap H locs → lv_has ls 9 [(5, .int (nI (6 * j))), (4, .ref (g.2.2 + 84)), (3, .ref (g.2.2 + 83)), (2, .ref (g.2.2 + 70)), (1, .ref (g.2.2 + 0)), (0, .ref b)] → W p l e room_1 s m args below meth c H locs (cells + 3) (slots + 71) Q (F0 m 2083 ls [])) : W p l e room_1 s m args below meth c H locs cells slots Q (F0 m 1126 ls []) := by
  have hx := C0.1; have hb := C0.2.1; have hts := C0.2.2.2.2.2.1
  have hRc0 : cells + 3 ≤ room_1.cells := hRc; have hRs0 : slots + 71 ≤ room_1.slots := hRs
  refine lv_aload_n hx hb dL_law_1126 rfl (lv_at hl 4 rfl) ?_
  refine lv_aload_n hx hb dL_law_1127 rfl (lv_at hl 5 rfl) ?_
  refine lv_iload hx hb dL_law_1128 (lv_at hl 0 rfl) ?_
  refine lv_iconst (v := 1) hx hb dL_law_1130 (by decide) ?_
  refine lv_iadd hx hb dL_law_1131 ?_
  refine aw_sld C0 hX hbl hg hW (n := 6 * j + 1) (nI_add (6 * j) 1) (by omega) hL dL_law_1132 ?_
  refine lv_aload_n hx hb dL_law_1133 rfl (lv_at hl 5 rfl) ?_
  refine lv_iload hx hb dL_law_1134 (lv_at hl 0 rfl) ?_
  refine lv_iconst (v := 2) hx hb dL_law_1136 (by decide) ?_
  refine lv_iadd hx hb dL_law_1137 ?_
  refine aw_sld C0 hX hbl hg hW (n := 6 * j + 2) (nI_add (6 * j) 2) (by omega) hL dL_law_1138 ?_
  refine lv_aload_n hx hb dL_law_1139 rfl (lv_at hl 5 rfl) ?_
  refine lv_iload hx hb dL_law_1140 (lv_at hl 0 rfl) ?_
  refine lv_iconst (v := 3) hx hb dL_law_1142 (by decide) ?_
  refine lv_iadd hx hb dL_law_1143 ?_
  refine aw_sld C0 hX hbl hg hW (n := 6 * j + 3) (nI_add (6 * j) 3) (by omega) hL dL_law_1144 ?_
  refine lv_aload_n hx hb dL_law_1145 rfl (lv_at hl 2 rfl) ?_
  refine aw_LS (rest := []) C0 hW hsz (c_L_column hfl (xs (6 * j + 1)) (xs (6 * j + 2)) (xs (6 * j + 3)) hz) (csw_159 hts) rfl hl.1 rfl (Nat.le_of_ble_eq_true rfl) ⟨hRc, hRs⟩ dL_law_1146 (fun H locs hW => ?_)
  refine lv_istore (lv' := [(6, .int z.1), (5, .int (nI (6 * j))), (4, .ref (g.2.2 + 84)), (3, .ref (g.2.2 + 83)), (2, .ref (g.2.2 + 70)), (1, .ref (g.2.2 + 0)), (0, .ref b)]) hx hb dL_law_1149 hl (Nat.le_of_ble_eq_true rfl) rfl (fun ls hl => ?_)
  refine lv_aload_n hx hb dL_law_1151 rfl (lv_at hl 4 rfl) ?_
  refine lv_aload_n hx hb dL_law_1152 rfl (lv_at hl 6 rfl) ?_
  refine lv_iload hx hb dL_law_1153 (lv_at hl 1 rfl) ?_
  refine lv_iconst (v := 1) hx hb dL_law_1155 (by decide) ?_
  refine lv_iadd hx hb dL_law_1156 ?_
  refine aw_sld C0 hX hbl hg hW (n := 6 * j + 1) (nI_add (6 * j) 1) (by omega) hL dL_law_1157 ?_
  refine lv_aload_n hx hb dL_law_1158 rfl (lv_at hl 6 rfl) ?_
  refine lv_iload hx hb dL_law_1159 (lv_at hl 1 rfl) ?_
  refine lv_iconst (v := 2) hx hb dL_law_1161 (by decide) ?_
  refine lv_iadd hx hb dL_law_1162 ?_
  refine aw_sld C0 hX hbl hg hW (n := 6 * j + 2) (nI_add (6 * j) 2) (by omega) hL dL_law_1163 ?_
  refine lv_aload_n hx hb dL_law_1164 rfl (lv_at hl 6 rfl) ?_
  refine lv_iload hx hb dL_law_1165 (lv_at hl 1 rfl) ?_
  refine lv_iconst (v := 3) hx hb dL_law_1167 (by decide) ?_
  refine lv_iadd hx hb dL_law_1168 ?_
  refine aw_sld C0 hX hbl hg hW (n := 6 * j + 3) (nI_add (6 * j) 3) (by omega) hL dL_law_1169 ?_
  refine aw_cVi (rest := []) C0 hW (lv_fix (by decide)) (cel_8 kd70) rfl (c_X9_column (xs (6 * j + 1)) (xs (6 * j + 2)) (xs (6 * j + 3)) hq) (cvw_161 hts) rfl hl.1 rfl (Nat.le_of_ble_eq_true rfl) ⟨hRc0, hRs0⟩ dL_law_1170 (fun H locs hW => ?_)
  refine lv_istore (lv' := [(7, .int q.1), (6, .int z.1), (5, .int (nI (6 * j))), (4, .ref (g.2.2 + 84)), (3, .ref (g.2.2 + 83)), (2, .ref (g.2.2 + 70)), (1, .ref (g.2.2 + 0)), (0, .ref b)]) hx hb dL_law_1173 hl (Nat.le_of_ble_eq_true rfl) rfl (fun ls hl => ?_)
  refine lv_aload_n hx hb dL_law_1175 rfl (lv_at hl 5 rfl) ?_
  refine aw_cVi (rest := []) C0 hW (lv_fix (by decide)) (cel_8 kd70) rfl (c_X9_thrown rfl) (cvw_107 hts) rfl hl.1 rfl (Nat.le_of_ble_eq_true rfl) ⟨hRc0, hRs0⟩ dL_law_1176 (fun H locs hW => ?_)
  refine lv_iload hx hb dL_law_1179 (lv_at hl 1 rfl) ?_
  refine lv_icmp_eq (tgt := 1186) hx hb dL_law_1181 rfl (fun _ => ?_) (fun hc => absurd ht hc)
  refine lv_iload hx hb dL_law_1186 (lv_at hl 1 rfl) ?_
  refine lv_if_ne (tgt := 1203) hx hb dL_law_1188 rfl (fun hc => ?_) (fun hc => ?_)
  · refine lv_goto (tgt := 2083) hx hb dL_law_1203 rfl ?_
    exact K H locs ls hW (lv_sub hl [2, 3, 4, 5, 6, 7] rfl)
  have h0 : z.1 = 0 := hc
  refine lv_aload_n hx hb dL_law_1191 rfl (lv_at hl 4 rfl) ?_
  refine lv_iconst (v := 0) hx hb dL_law_1192 (by decide) ?_
  refine aw_lald C0 hW dL_law_1193 ?_
  refine lv_iload hx hb dL_law_1194 (lv_at hl 0 rfl) ?_
  refine lv_i2l (v := q.1.toInt64) hx hb dL_law_1196 rfl ?_
  refine W.lcmp hx hb dL_law_1197 ?_
  refine lv_if_eq (tgt := 1203) hx hb dL_law_1198 rfl (fun _ => ?_) (fun hc => absurd (lg_same (ha h0)) hc)
  refine lv_goto (tgt := 2083) hx hb dL_law_1203 rfl ?_
  exact K H locs ls hW (lv_sub hl [2, 3, 4, 5, 6, 7] rfl)
set_option maxHeartbeats 4000000 in
set_option maxRecDepth 100000 in
theorem lc_16 {nx : Nat} {z : Int32 × Mem × Rem × Pool × Zed} {q : Int32 × Mem} (hfl : l.stackTraces = false) (C0 : CX g p s m args meth c RL cL_law 9 ret) (hX : va_X b L xs s s.heap) (hbl : b < s.heap.size) (hg : g.2.2 = s.heap.size) (hL : L ≤ 3072) (hj : 6 * j + 6 ≤ L) (hW : Wd g I R P Z s.heap H locs) (hsz : H.size = g.2.2 + nx) (hl : lv_has ls 9 [(5, .int (nI (6 * j))), (4, .ref (g.2.2 + 84)), (3, .ref (g.2.2 + 83)), (2, .ref (g.2.2 + 70)), (1, .ref (g.2.2 + 0)), (0, .ref b)])
    (hz : f_L_group (xs (6 * j + 1)) (xs (6 * j + 2)) (xs (6 * j + 3)) (xs (6 * j + 4)) P R I Z nx = some z) (hq : f_X9_group (xs (6 * j + 1)) (xs (6 * j + 2)) (xs (6 * j + 3)) (xs (6 * j + 4)) z.2.1 = some q) (ht : q.2 70 7 = z.1) (ha : z.1 = 0 → z.2.2.2.2.1 0 = q.1.toInt64) (hRc : cells + 3 ≤ room_1.cells) (hRs : slots + 71 ≤ room_1.slots)
    (K : ∀ (H : Heap) (locs : List Loc) (ls : Array Slot), Wd g q.2 z.2.2.1 z.2.2.2.1 z.2.2.2.2 s.heap H locs → lv_has ls 9 [(5, .int (nI (6 * j))), (4, .ref (g.2.2 + 84)), (3, .ref (g.2.2 + 83)), (2, .ref (g.2.2 + 70)), (1, .ref (g.2.2 + 0)), (0, .ref b)] → W p l e room_1 s m args below meth c H locs (cells + 3) (slots + 71) Q (F0 m 2083 ls [])) : W p l e room_1 s m args below meth c H locs cells slots Q (F0 m 1206 ls []) := by
  have hx := C0.1; have hb := C0.2.1; have hts := C0.2.2.2.2.2.1
  have hRc0 : cells + 3 ≤ room_1.cells := hRc; have hRs0 : slots + 71 ≤ room_1.slots := hRs
  refine lv_aload_n hx hb dL_law_1206 rfl (lv_at hl 4 rfl) ?_
  refine lv_aload_n hx hb dL_law_1207 rfl (lv_at hl 5 rfl) ?_
  refine lv_iload hx hb dL_law_1208 (lv_at hl 0 rfl) ?_
  refine lv_iconst (v := 1) hx hb dL_law_1210 (by decide) ?_
  refine lv_iadd hx hb dL_law_1211 ?_
  refine aw_sld C0 hX hbl hg hW (n := 6 * j + 1) (nI_add (6 * j) 1) (by omega) hL dL_law_1212 ?_
  refine lv_aload_n hx hb dL_law_1213 rfl (lv_at hl 5 rfl) ?_
  refine lv_iload hx hb dL_law_1214 (lv_at hl 0 rfl) ?_
  refine lv_iconst (v := 2) hx hb dL_law_1216 (by decide) ?_
  refine lv_iadd hx hb dL_law_1217 ?_
  refine aw_sld C0 hX hbl hg hW (n := 6 * j + 2) (nI_add (6 * j) 2) (by omega) hL dL_law_1218 ?_
  refine lv_aload_n hx hb dL_law_1219 rfl (lv_at hl 5 rfl) ?_
  refine lv_iload hx hb dL_law_1220 (lv_at hl 0 rfl) ?_
  refine lv_iconst (v := 3) hx hb dL_law_1222 (by decide) ?_
  refine lv_iadd hx hb dL_law_1223 ?_
  refine aw_sld C0 hX hbl hg hW (n := 6 * j + 3) (nI_add (6 * j) 3) (by omega) hL dL_law_1224 ?_
  refine lv_aload_n hx hb dL_law_1225 rfl (lv_at hl 5 rfl) ?_
  refine lv_iload hx hb dL_law_1226 (lv_at hl 0 rfl) ?_
  refine lv_iconst (v := 4) hx hb dL_law_1228 (by decide) ?_
  refine lv_iadd hx hb dL_law_1229 ?_
  refine aw_sld C0 hX hbl hg hW (n := 6 * j + 4) (nI_add (6 * j) 4) (by omega) hL dL_law_1230 ?_
  refine lv_aload_n hx hb dL_law_1231 rfl (lv_at hl 2 rfl) ?_
  refine aw_LS (rest := []) C0 hW hsz (c_L_group hfl (xs (6 * j + 1)) (xs (6 * j + 2)) (xs (6 * j + 3)) (xs (6 * j + 4)) hz) (csw_162 hts) rfl hl.1 rfl (Nat.le_of_ble_eq_true rfl) ⟨hRc, hRs⟩ dL_law_1232 (fun H locs hW => ?_)
  refine lv_istore (lv' := [(6, .int z.1), (5, .int (nI (6 * j))), (4, .ref (g.2.2 + 84)), (3, .ref (g.2.2 + 83)), (2, .ref (g.2.2 + 70)), (1, .ref (g.2.2 + 0)), (0, .ref b)]) hx hb dL_law_1235 hl (Nat.le_of_ble_eq_true rfl) rfl (fun ls hl => ?_)
  refine lv_aload_n hx hb dL_law_1237 rfl (lv_at hl 4 rfl) ?_
  refine lv_aload_n hx hb dL_law_1238 rfl (lv_at hl 6 rfl) ?_
  refine lv_iload hx hb dL_law_1239 (lv_at hl 1 rfl) ?_
  refine lv_iconst (v := 1) hx hb dL_law_1241 (by decide) ?_
  refine lv_iadd hx hb dL_law_1242 ?_
  refine aw_sld C0 hX hbl hg hW (n := 6 * j + 1) (nI_add (6 * j) 1) (by omega) hL dL_law_1243 ?_
  refine lv_aload_n hx hb dL_law_1244 rfl (lv_at hl 6 rfl) ?_
  refine lv_iload hx hb dL_law_1245 (lv_at hl 1 rfl) ?_
  refine lv_iconst (v := 2) hx hb dL_law_1247 (by decide) ?_
  refine lv_iadd hx hb dL_law_1248 ?_
  refine aw_sld C0 hX hbl hg hW (n := 6 * j + 2) (nI_add (6 * j) 2) (by omega) hL dL_law_1249 ?_
  refine lv_aload_n hx hb dL_law_1250 rfl (lv_at hl 6 rfl) ?_
  refine lv_iload hx hb dL_law_1251 (lv_at hl 1 rfl) ?_
  refine lv_iconst (v := 3) hx hb dL_law_1253 (by decide) ?_
  refine lv_iadd hx hb dL_law_1254 ?_
  refine aw_sld C0 hX hbl hg hW (n := 6 * j + 3) (nI_add (6 * j) 3) (by omega) hL dL_law_1255 ?_
  refine lv_aload_n hx hb dL_law_1256 rfl (lv_at hl 6 rfl) ?_
  refine lv_iload hx hb dL_law_1257 (lv_at hl 1 rfl) ?_
  refine lv_iconst (v := 4) hx hb dL_law_1259 (by decide) ?_
  refine lv_iadd hx hb dL_law_1260 ?_
  refine aw_sld C0 hX hbl hg hW (n := 6 * j + 4) (nI_add (6 * j) 4) (by omega) hL dL_law_1261 ?_
  refine aw_cVi (rest := []) C0 hW (lv_fix (by decide)) (cel_8 kd70) rfl (c_X9_group (xs (6 * j + 1)) (xs (6 * j + 2)) (xs (6 * j + 3)) (xs (6 * j + 4)) hq) (cvw_164 hts) rfl hl.1 rfl (Nat.le_of_ble_eq_true rfl) ⟨hRc0, hRs0⟩ dL_law_1262 (fun H locs hW => ?_)
  refine lv_istore (lv' := [(7, .int q.1), (6, .int z.1), (5, .int (nI (6 * j))), (4, .ref (g.2.2 + 84)), (3, .ref (g.2.2 + 83)), (2, .ref (g.2.2 + 70)), (1, .ref (g.2.2 + 0)), (0, .ref b)]) hx hb dL_law_1265 hl (Nat.le_of_ble_eq_true rfl) rfl (fun ls hl => ?_)
  refine lv_aload_n hx hb dL_law_1267 rfl (lv_at hl 5 rfl) ?_
  refine aw_cVi (rest := []) C0 hW (lv_fix (by decide)) (cel_8 kd70) rfl (c_X9_thrown rfl) (cvw_107 hts) rfl hl.1 rfl (Nat.le_of_ble_eq_true rfl) ⟨hRc0, hRs0⟩ dL_law_1268 (fun H locs hW => ?_)
  refine lv_iload hx hb dL_law_1271 (lv_at hl 1 rfl) ?_
  refine lv_icmp_eq (tgt := 1278) hx hb dL_law_1273 rfl (fun _ => ?_) (fun hc => absurd ht hc)
  refine lv_iload hx hb dL_law_1278 (lv_at hl 1 rfl) ?_
  refine lv_if_ne (tgt := 1295) hx hb dL_law_1280 rfl (fun hc => ?_) (fun hc => ?_)
  · refine lv_goto (tgt := 2083) hx hb dL_law_1295 rfl ?_
    exact K H locs ls hW (lv_sub hl [2, 3, 4, 5, 6, 7] rfl)
  have h0 : z.1 = 0 := hc
  refine lv_aload_n hx hb dL_law_1283 rfl (lv_at hl 4 rfl) ?_
  refine lv_iconst (v := 0) hx hb dL_law_1284 (by decide) ?_
  refine aw_lald C0 hW dL_law_1285 ?_
  refine lv_iload hx hb dL_law_1286 (lv_at hl 0 rfl) ?_
  refine lv_i2l (v := q.1.toInt64) hx hb dL_law_1288 rfl ?_
  refine W.lcmp hx hb dL_law_1289 ?_
  refine lv_if_eq (tgt := 1295) hx hb dL_law_1290 rfl (fun _ => ?_) (fun hc => absurd (lg_same (ha h0)) hc)
  refine lv_goto (tgt := 2083) hx hb dL_law_1295 rfl ?_
  exact K H locs ls hW (lv_sub hl [2, 3, 4, 5, 6, 7] rfl)
set_option maxHeartbeats 4000000 in
set_option maxRecDepth 100000 in
theorem lc_17 {nx : Nat} {z : Int32 × Mem × Rem × Pool × Zed} {q : Int32 × Mem} (hfl : l.stackTraces = false) (C0 : CX g p s m args meth c RL cL_law 9 ret) (hX : va_X b L xs s s.heap) (hbl : b < s.heap.size) (hg : g.2.2 = s.heap.size) (hL : L ≤ 3072) (hj : 6 * j + 6 ≤ L) (hW : Wd g I R P Z s.heap H locs) (hsz : H.size = g.2.2 + nx) (hl : lv_has ls 9 [(5, .int (nI (6 * j))), (4, .ref (g.2.2 + 84)), (3, .ref (g.2.2 + 83)), (2, .ref (g.2.2 + 70)), (1, .ref (g.2.2 + 0)), (0, .ref b)])
    (hz : f_L_truth (xs (6 * j + 1)) (xs (6 * j + 2)) (xs (6 * j + 3)) P R I Z nx = some z) (hq : f_X9_truth (xs (6 * j + 1)) (xs (6 * j + 2)) (xs (6 * j + 3)) z.2.1 = some q) (ht : q.2 70 7 = z.1) (ha : z.1 = 0 → z.2.2.2.2.1 0 = q.1.toInt64) (hRc : cells + 3 ≤ room_1.cells) (hRs : slots + 71 ≤ room_1.slots)
    (K : ∀ (H : Heap) (locs : List Loc) (ls : Array Slot), Wd g q.2 z.2.2.1 z.2.2.2.1 z.2.2.2.2 s.heap H locs → lv_has ls 9 [(5, .int (nI (6 * j))), (4, .ref (g.2.2 + 84)), (3, .ref (g.2.2 + 83)), (2, .ref (g.2.2 + 70)), (1, .ref (g.2.2 + 0)), (0, .ref b)] → W p l e room_1 s m args below meth c H locs (cells + 3) (slots + 71) Q (F0 m 2083 ls [])) : W p l e room_1 s m args below meth c H locs cells slots Q (F0 m 1298 ls []) := by
  have hx := C0.1; have hb := C0.2.1; have hts := C0.2.2.2.2.2.1
  have hRc0 : cells + 3 ≤ room_1.cells := hRc; have hRs0 : slots + 71 ≤ room_1.slots := hRs
  refine lv_aload_n hx hb dL_law_1298 rfl (lv_at hl 4 rfl) ?_
  refine lv_aload_n hx hb dL_law_1299 rfl (lv_at hl 5 rfl) ?_
  refine lv_iload hx hb dL_law_1300 (lv_at hl 0 rfl) ?_
  refine lv_iconst (v := 1) hx hb dL_law_1302 (by decide) ?_
  refine lv_iadd hx hb dL_law_1303 ?_
  refine aw_sld C0 hX hbl hg hW (n := 6 * j + 1) (nI_add (6 * j) 1) (by omega) hL dL_law_1304 ?_
  refine lv_aload_n hx hb dL_law_1305 rfl (lv_at hl 5 rfl) ?_
  refine lv_iload hx hb dL_law_1306 (lv_at hl 0 rfl) ?_
  refine lv_iconst (v := 2) hx hb dL_law_1308 (by decide) ?_
  refine lv_iadd hx hb dL_law_1309 ?_
  refine aw_sld C0 hX hbl hg hW (n := 6 * j + 2) (nI_add (6 * j) 2) (by omega) hL dL_law_1310 ?_
  refine lv_aload_n hx hb dL_law_1311 rfl (lv_at hl 5 rfl) ?_
  refine lv_iload hx hb dL_law_1312 (lv_at hl 0 rfl) ?_
  refine lv_iconst (v := 3) hx hb dL_law_1314 (by decide) ?_
  refine lv_iadd hx hb dL_law_1315 ?_
  refine aw_sld C0 hX hbl hg hW (n := 6 * j + 3) (nI_add (6 * j) 3) (by omega) hL dL_law_1316 ?_
  refine lv_aload_n hx hb dL_law_1317 rfl (lv_at hl 2 rfl) ?_
  refine aw_LS (rest := []) C0 hW hsz (c_L_truth hfl (xs (6 * j + 1)) (xs (6 * j + 2)) (xs (6 * j + 3)) hz) (csw_165 hts) rfl hl.1 rfl (Nat.le_of_ble_eq_true rfl) ⟨hRc, hRs⟩ dL_law_1318 (fun H locs hW => ?_)
  refine lv_istore (lv' := [(6, .int z.1), (5, .int (nI (6 * j))), (4, .ref (g.2.2 + 84)), (3, .ref (g.2.2 + 83)), (2, .ref (g.2.2 + 70)), (1, .ref (g.2.2 + 0)), (0, .ref b)]) hx hb dL_law_1321 hl (Nat.le_of_ble_eq_true rfl) rfl (fun ls hl => ?_)
  refine lv_aload_n hx hb dL_law_1323 rfl (lv_at hl 4 rfl) ?_
  refine lv_aload_n hx hb dL_law_1324 rfl (lv_at hl 6 rfl) ?_
  refine lv_iload hx hb dL_law_1325 (lv_at hl 1 rfl) ?_
  refine lv_iconst (v := 1) hx hb dL_law_1327 (by decide) ?_
  refine lv_iadd hx hb dL_law_1328 ?_
  refine aw_sld C0 hX hbl hg hW (n := 6 * j + 1) (nI_add (6 * j) 1) (by omega) hL dL_law_1329 ?_
  refine lv_aload_n hx hb dL_law_1330 rfl (lv_at hl 6 rfl) ?_
  refine lv_iload hx hb dL_law_1331 (lv_at hl 1 rfl) ?_
  refine lv_iconst (v := 2) hx hb dL_law_1333 (by decide) ?_
  refine lv_iadd hx hb dL_law_1334 ?_
  refine aw_sld C0 hX hbl hg hW (n := 6 * j + 2) (nI_add (6 * j) 2) (by omega) hL dL_law_1335 ?_
  refine lv_aload_n hx hb dL_law_1336 rfl (lv_at hl 6 rfl) ?_
  refine lv_iload hx hb dL_law_1337 (lv_at hl 1 rfl) ?_
  refine lv_iconst (v := 3) hx hb dL_law_1339 (by decide) ?_
  refine lv_iadd hx hb dL_law_1340 ?_
  refine aw_sld C0 hX hbl hg hW (n := 6 * j + 3) (nI_add (6 * j) 3) (by omega) hL dL_law_1341 ?_
  refine aw_cVi (rest := []) C0 hW (lv_fix (by decide)) (cel_8 kd70) rfl (c_X9_truth (xs (6 * j + 1)) (xs (6 * j + 2)) (xs (6 * j + 3)) hq) (cvw_167 hts) rfl hl.1 rfl (Nat.le_of_ble_eq_true rfl) ⟨hRc0, hRs0⟩ dL_law_1342 (fun H locs hW => ?_)
  refine lv_istore (lv' := [(7, .int q.1), (6, .int z.1), (5, .int (nI (6 * j))), (4, .ref (g.2.2 + 84)), (3, .ref (g.2.2 + 83)), (2, .ref (g.2.2 + 70)), (1, .ref (g.2.2 + 0)), (0, .ref b)]) hx hb dL_law_1345 hl (Nat.le_of_ble_eq_true rfl) rfl (fun ls hl => ?_)
  refine lv_aload_n hx hb dL_law_1347 rfl (lv_at hl 5 rfl) ?_
  refine aw_cVi (rest := []) C0 hW (lv_fix (by decide)) (cel_8 kd70) rfl (c_X9_thrown rfl) (cvw_107 hts) rfl hl.1 rfl (Nat.le_of_ble_eq_true rfl) ⟨hRc0, hRs0⟩ dL_law_1348 (fun H locs hW => ?_)
  refine lv_iload hx hb dL_law_1351 (lv_at hl 1 rfl) ?_
  refine lv_icmp_eq (tgt := 1358) hx hb dL_law_1353 rfl (fun _ => ?_) (fun hc => absurd ht hc)
  refine lv_iload hx hb dL_law_1358 (lv_at hl 1 rfl) ?_
  refine lv_if_ne (tgt := 1375) hx hb dL_law_1360 rfl (fun hc => ?_) (fun hc => ?_)
  · refine lv_goto (tgt := 2083) hx hb dL_law_1375 rfl ?_
    exact K H locs ls hW (lv_sub hl [2, 3, 4, 5, 6, 7] rfl)
  have h0 : z.1 = 0 := hc
  refine lv_aload_n hx hb dL_law_1363 rfl (lv_at hl 4 rfl) ?_
  refine lv_iconst (v := 0) hx hb dL_law_1364 (by decide) ?_
  refine aw_lald C0 hW dL_law_1365 ?_
  refine lv_iload hx hb dL_law_1366 (lv_at hl 0 rfl) ?_
  refine lv_i2l (v := q.1.toInt64) hx hb dL_law_1368 rfl ?_
  refine W.lcmp hx hb dL_law_1369 ?_
  refine lv_if_eq (tgt := 1375) hx hb dL_law_1370 rfl (fun _ => ?_) (fun hc => absurd (lg_same (ha h0)) hc)
  refine lv_goto (tgt := 2083) hx hb dL_law_1375 rfl ?_
  exact K H locs ls hW (lv_sub hl [2, 3, 4, 5, 6, 7] rfl)
set_option maxHeartbeats 4000000 in
set_option maxRecDepth 100000 in
theorem lc_18 {nx : Nat} {z : Int32 × Mem × Rem × Pool × Zed} {q : Int32 × Mem} (hfl : l.stackTraces = false) (C0 : CX g p s m args meth c RL cL_law 9 ret) (hX : va_X b L xs s s.heap) (hbl : b < s.heap.size) (hg : g.2.2 = s.heap.size) (hL : L ≤ 3072) (hj : 6 * j + 6 ≤ L) (hW : Wd g I R P Z s.heap H locs) (hsz : H.size = g.2.2 + nx) (hl : lv_has ls 9 [(5, .int (nI (6 * j))), (4, .ref (g.2.2 + 84)), (3, .ref (g.2.2 + 83)), (2, .ref (g.2.2 + 70)), (1, .ref (g.2.2 + 0)), (0, .ref b)])
    (hz : f_L_rows (xs (6 * j + 1)) (xs (6 * j + 2)) (xs (6 * j + 3)) (xs (6 * j + 4)) P R I Z nx = some z) (hq : f_X9_rows (xs (6 * j + 1)) (xs (6 * j + 2)) (xs (6 * j + 3)) (xs (6 * j + 4)) z.2.1 = some q) (ht : q.2 70 7 = z.1) (ha : z.1 = 0 → z.2.2.2.2.1 0 = q.1.toInt64) (hRc : cells + 3 ≤ room_1.cells) (hRs : slots + 71 ≤ room_1.slots)
    (K : ∀ (H : Heap) (locs : List Loc) (ls : Array Slot), Wd g q.2 z.2.2.1 z.2.2.2.1 z.2.2.2.2 s.heap H locs → lv_has ls 9 [(5, .int (nI (6 * j))), (4, .ref (g.2.2 + 84)), (3, .ref (g.2.2 + 83)), (2, .ref (g.2.2 + 70)), (1, .ref (g.2.2 + 0)), (0, .ref b)] → W p l e room_1 s m args below meth c H locs (cells + 3) (slots + 71) Q (F0 m 2083 ls [])) : W p l e room_1 s m args below meth c H locs cells slots Q (F0 m 1378 ls []) := by
  have hx := C0.1; have hb := C0.2.1; have hts := C0.2.2.2.2.2.1
  have hRc0 : cells + 3 ≤ room_1.cells := hRc; have hRs0 : slots + 71 ≤ room_1.slots := hRs
  refine lv_aload_n hx hb dL_law_1378 rfl (lv_at hl 4 rfl) ?_
  refine lv_aload_n hx hb dL_law_1379 rfl (lv_at hl 5 rfl) ?_
  refine lv_iload hx hb dL_law_1380 (lv_at hl 0 rfl) ?_
  refine lv_iconst (v := 1) hx hb dL_law_1382 (by decide) ?_
  refine lv_iadd hx hb dL_law_1383 ?_
  refine aw_sld C0 hX hbl hg hW (n := 6 * j + 1) (nI_add (6 * j) 1) (by omega) hL dL_law_1384 ?_
  refine lv_aload_n hx hb dL_law_1385 rfl (lv_at hl 5 rfl) ?_
  refine lv_iload hx hb dL_law_1386 (lv_at hl 0 rfl) ?_
  refine lv_iconst (v := 2) hx hb dL_law_1388 (by decide) ?_
  refine lv_iadd hx hb dL_law_1389 ?_
  refine aw_sld C0 hX hbl hg hW (n := 6 * j + 2) (nI_add (6 * j) 2) (by omega) hL dL_law_1390 ?_
  refine lv_aload_n hx hb dL_law_1391 rfl (lv_at hl 5 rfl) ?_
  refine lv_iload hx hb dL_law_1392 (lv_at hl 0 rfl) ?_
  refine lv_iconst (v := 3) hx hb dL_law_1394 (by decide) ?_
  refine lv_iadd hx hb dL_law_1395 ?_
  refine aw_sld C0 hX hbl hg hW (n := 6 * j + 3) (nI_add (6 * j) 3) (by omega) hL dL_law_1396 ?_
  refine lv_aload_n hx hb dL_law_1397 rfl (lv_at hl 5 rfl) ?_
  refine lv_iload hx hb dL_law_1398 (lv_at hl 0 rfl) ?_
  refine lv_iconst (v := 4) hx hb dL_law_1400 (by decide) ?_
  refine lv_iadd hx hb dL_law_1401 ?_
  refine aw_sld C0 hX hbl hg hW (n := 6 * j + 4) (nI_add (6 * j) 4) (by omega) hL dL_law_1402 ?_
  refine lv_aload_n hx hb dL_law_1403 rfl (lv_at hl 2 rfl) ?_
  refine aw_LS (rest := []) C0 hW hsz (c_L_rows hfl (xs (6 * j + 1)) (xs (6 * j + 2)) (xs (6 * j + 3)) (xs (6 * j + 4)) hz) (csw_168 hts) rfl hl.1 rfl (Nat.le_of_ble_eq_true rfl) ⟨hRc, hRs⟩ dL_law_1404 (fun H locs hW => ?_)
  refine lv_istore (lv' := [(6, .int z.1), (5, .int (nI (6 * j))), (4, .ref (g.2.2 + 84)), (3, .ref (g.2.2 + 83)), (2, .ref (g.2.2 + 70)), (1, .ref (g.2.2 + 0)), (0, .ref b)]) hx hb dL_law_1407 hl (Nat.le_of_ble_eq_true rfl) rfl (fun ls hl => ?_)
  refine lv_aload_n hx hb dL_law_1409 rfl (lv_at hl 4 rfl) ?_
  refine lv_aload_n hx hb dL_law_1410 rfl (lv_at hl 6 rfl) ?_
  refine lv_iload hx hb dL_law_1411 (lv_at hl 1 rfl) ?_
  refine lv_iconst (v := 1) hx hb dL_law_1413 (by decide) ?_
  refine lv_iadd hx hb dL_law_1414 ?_
  refine aw_sld C0 hX hbl hg hW (n := 6 * j + 1) (nI_add (6 * j) 1) (by omega) hL dL_law_1415 ?_
  refine lv_aload_n hx hb dL_law_1416 rfl (lv_at hl 6 rfl) ?_
  refine lv_iload hx hb dL_law_1417 (lv_at hl 1 rfl) ?_
  refine lv_iconst (v := 2) hx hb dL_law_1419 (by decide) ?_
  refine lv_iadd hx hb dL_law_1420 ?_
  refine aw_sld C0 hX hbl hg hW (n := 6 * j + 2) (nI_add (6 * j) 2) (by omega) hL dL_law_1421 ?_
  refine lv_aload_n hx hb dL_law_1422 rfl (lv_at hl 6 rfl) ?_
  refine lv_iload hx hb dL_law_1423 (lv_at hl 1 rfl) ?_
  refine lv_iconst (v := 3) hx hb dL_law_1425 (by decide) ?_
  refine lv_iadd hx hb dL_law_1426 ?_
  refine aw_sld C0 hX hbl hg hW (n := 6 * j + 3) (nI_add (6 * j) 3) (by omega) hL dL_law_1427 ?_
  refine lv_aload_n hx hb dL_law_1428 rfl (lv_at hl 6 rfl) ?_
  refine lv_iload hx hb dL_law_1429 (lv_at hl 1 rfl) ?_
  refine lv_iconst (v := 4) hx hb dL_law_1431 (by decide) ?_
  refine lv_iadd hx hb dL_law_1432 ?_
  refine aw_sld C0 hX hbl hg hW (n := 6 * j + 4) (nI_add (6 * j) 4) (by omega) hL dL_law_1433 ?_
  refine aw_cVi (rest := []) C0 hW (lv_fix (by decide)) (cel_8 kd70) rfl (c_X9_rows (xs (6 * j + 1)) (xs (6 * j + 2)) (xs (6 * j + 3)) (xs (6 * j + 4)) hq) (cvw_170 hts) rfl hl.1 rfl (Nat.le_of_ble_eq_true rfl) ⟨hRc0, hRs0⟩ dL_law_1434 (fun H locs hW => ?_)
  refine lv_istore (lv' := [(7, .int q.1), (6, .int z.1), (5, .int (nI (6 * j))), (4, .ref (g.2.2 + 84)), (3, .ref (g.2.2 + 83)), (2, .ref (g.2.2 + 70)), (1, .ref (g.2.2 + 0)), (0, .ref b)]) hx hb dL_law_1437 hl (Nat.le_of_ble_eq_true rfl) rfl (fun ls hl => ?_)
  refine lv_aload_n hx hb dL_law_1439 rfl (lv_at hl 5 rfl) ?_
  refine aw_cVi (rest := []) C0 hW (lv_fix (by decide)) (cel_8 kd70) rfl (c_X9_thrown rfl) (cvw_107 hts) rfl hl.1 rfl (Nat.le_of_ble_eq_true rfl) ⟨hRc0, hRs0⟩ dL_law_1440 (fun H locs hW => ?_)
  refine lv_iload hx hb dL_law_1443 (lv_at hl 1 rfl) ?_
  refine lv_icmp_eq (tgt := 1450) hx hb dL_law_1445 rfl (fun _ => ?_) (fun hc => absurd ht hc)
  refine lv_iload hx hb dL_law_1450 (lv_at hl 1 rfl) ?_
  refine lv_if_ne (tgt := 1467) hx hb dL_law_1452 rfl (fun hc => ?_) (fun hc => ?_)
  · refine lv_goto (tgt := 2083) hx hb dL_law_1467 rfl ?_
    exact K H locs ls hW (lv_sub hl [2, 3, 4, 5, 6, 7] rfl)
  have h0 : z.1 = 0 := hc
  refine lv_aload_n hx hb dL_law_1455 rfl (lv_at hl 4 rfl) ?_
  refine lv_iconst (v := 0) hx hb dL_law_1456 (by decide) ?_
  refine aw_lald C0 hW dL_law_1457 ?_
  refine lv_iload hx hb dL_law_1458 (lv_at hl 0 rfl) ?_
  refine lv_i2l (v := q.1.toInt64) hx hb dL_law_1460 rfl ?_
  refine W.lcmp hx hb dL_law_1461 ?_
  refine lv_if_eq (tgt := 1467) hx hb dL_law_1462 rfl (fun _ => ?_) (fun hc => absurd (lg_same (ha h0)) hc)
  refine lv_goto (tgt := 2083) hx hb dL_law_1467 rfl ?_
  exact K H locs ls hW (lv_sub hl [2, 3, 4, 5, 6, 7] rfl)
set_option maxHeartbeats 4000000 in
set_option maxRecDepth 100000 in
theorem lc_19 {nx : Nat} {z : Int32 × Mem × Rem × Pool × Zed} {q : Int32 × Mem} (hfl : l.stackTraces = false) (C0 : CX g p s m args meth c RL cL_law 9 ret) (hX : va_X b L xs s s.heap) (hbl : b < s.heap.size) (hg : g.2.2 = s.heap.size) (hL : L ≤ 3072) (hj : 6 * j + 6 ≤ L) (hW : Wd g I R P Z s.heap H locs) (hsz : H.size = g.2.2 + nx) (hl : lv_has ls 9 [(5, .int (nI (6 * j))), (4, .ref (g.2.2 + 84)), (3, .ref (g.2.2 + 83)), (2, .ref (g.2.2 + 70)), (1, .ref (g.2.2 + 0)), (0, .ref b)])
    (hz : f_L_filter (xs (6 * j + 1)) (xs (6 * j + 2)) P R I Z nx = some z) (hq : f_X9_filter (xs (6 * j + 1)) (xs (6 * j + 2)) z.2.1 = some q) (ht : q.2 70 7 = z.1) (ha : z.1 = 0 → z.2.2.2.2.1 0 = q.1.toInt64) (hRc : cells + 3 ≤ room_1.cells) (hRs : slots + 71 ≤ room_1.slots)
    (K : ∀ (H : Heap) (locs : List Loc) (ls : Array Slot), Wd g q.2 z.2.2.1 z.2.2.2.1 z.2.2.2.2 s.heap H locs → lv_has ls 9 [(5, .int (nI (6 * j))), (4, .ref (g.2.2 + 84)), (3, .ref (g.2.2 + 83)), (2, .ref (g.2.2 + 70)), (1, .ref (g.2.2 + 0)), (0, .ref b)] → W p l e room_1 s m args below meth c H locs (cells + 3) (slots + 71) Q (F0 m 2083 ls [])) : W p l e room_1 s m args below meth c H locs cells slots Q (F0 m 1470 ls []) := by
  have hx := C0.1; have hb := C0.2.1; have hts := C0.2.2.2.2.2.1
  have hRc0 : cells + 3 ≤ room_1.cells := hRc; have hRs0 : slots + 71 ≤ room_1.slots := hRs
  refine lv_aload_n hx hb dL_law_1470 rfl (lv_at hl 4 rfl) ?_
  refine lv_aload_n hx hb dL_law_1471 rfl (lv_at hl 5 rfl) ?_
  refine lv_iload hx hb dL_law_1472 (lv_at hl 0 rfl) ?_
  refine lv_iconst (v := 1) hx hb dL_law_1474 (by decide) ?_
  refine lv_iadd hx hb dL_law_1475 ?_
  refine aw_sld C0 hX hbl hg hW (n := 6 * j + 1) (nI_add (6 * j) 1) (by omega) hL dL_law_1476 ?_
  refine lv_aload_n hx hb dL_law_1477 rfl (lv_at hl 5 rfl) ?_
  refine lv_iload hx hb dL_law_1478 (lv_at hl 0 rfl) ?_
  refine lv_iconst (v := 2) hx hb dL_law_1480 (by decide) ?_
  refine lv_iadd hx hb dL_law_1481 ?_
  refine aw_sld C0 hX hbl hg hW (n := 6 * j + 2) (nI_add (6 * j) 2) (by omega) hL dL_law_1482 ?_
  refine lv_aload_n hx hb dL_law_1483 rfl (lv_at hl 2 rfl) ?_
  refine aw_LS (rest := []) C0 hW hsz (c_L_filter hfl (xs (6 * j + 1)) (xs (6 * j + 2)) hz) (csw_171 hts) rfl hl.1 rfl (Nat.le_of_ble_eq_true rfl) ⟨hRc, hRs⟩ dL_law_1484 (fun H locs hW => ?_)
  refine lv_istore (lv' := [(6, .int z.1), (5, .int (nI (6 * j))), (4, .ref (g.2.2 + 84)), (3, .ref (g.2.2 + 83)), (2, .ref (g.2.2 + 70)), (1, .ref (g.2.2 + 0)), (0, .ref b)]) hx hb dL_law_1487 hl (Nat.le_of_ble_eq_true rfl) rfl (fun ls hl => ?_)
  refine lv_aload_n hx hb dL_law_1489 rfl (lv_at hl 4 rfl) ?_
  refine lv_aload_n hx hb dL_law_1490 rfl (lv_at hl 6 rfl) ?_
  refine lv_iload hx hb dL_law_1491 (lv_at hl 1 rfl) ?_
  refine lv_iconst (v := 1) hx hb dL_law_1493 (by decide) ?_
  refine lv_iadd hx hb dL_law_1494 ?_
  refine aw_sld C0 hX hbl hg hW (n := 6 * j + 1) (nI_add (6 * j) 1) (by omega) hL dL_law_1495 ?_
  refine lv_aload_n hx hb dL_law_1496 rfl (lv_at hl 6 rfl) ?_
  refine lv_iload hx hb dL_law_1497 (lv_at hl 1 rfl) ?_
  refine lv_iconst (v := 2) hx hb dL_law_1499 (by decide) ?_
  refine lv_iadd hx hb dL_law_1500 ?_
  refine aw_sld C0 hX hbl hg hW (n := 6 * j + 2) (nI_add (6 * j) 2) (by omega) hL dL_law_1501 ?_
  refine aw_cVi (rest := []) C0 hW (lv_fix (by decide)) (cel_8 kd70) rfl (c_X9_filter (xs (6 * j + 1)) (xs (6 * j + 2)) hq) (cvw_173 hts) rfl hl.1 rfl (Nat.le_of_ble_eq_true rfl) ⟨hRc0, hRs0⟩ dL_law_1502 (fun H locs hW => ?_)
  refine lv_istore (lv' := [(7, .int q.1), (6, .int z.1), (5, .int (nI (6 * j))), (4, .ref (g.2.2 + 84)), (3, .ref (g.2.2 + 83)), (2, .ref (g.2.2 + 70)), (1, .ref (g.2.2 + 0)), (0, .ref b)]) hx hb dL_law_1505 hl (Nat.le_of_ble_eq_true rfl) rfl (fun ls hl => ?_)
  refine lv_aload_n hx hb dL_law_1507 rfl (lv_at hl 5 rfl) ?_
  refine aw_cVi (rest := []) C0 hW (lv_fix (by decide)) (cel_8 kd70) rfl (c_X9_thrown rfl) (cvw_107 hts) rfl hl.1 rfl (Nat.le_of_ble_eq_true rfl) ⟨hRc0, hRs0⟩ dL_law_1508 (fun H locs hW => ?_)
  refine lv_iload hx hb dL_law_1511 (lv_at hl 1 rfl) ?_
  refine lv_icmp_eq (tgt := 1518) hx hb dL_law_1513 rfl (fun _ => ?_) (fun hc => absurd ht hc)
  refine lv_iload hx hb dL_law_1518 (lv_at hl 1 rfl) ?_
  refine lv_if_ne (tgt := 1535) hx hb dL_law_1520 rfl (fun hc => ?_) (fun hc => ?_)
  · refine lv_goto (tgt := 2083) hx hb dL_law_1535 rfl ?_
    exact K H locs ls hW (lv_sub hl [2, 3, 4, 5, 6, 7] rfl)
  have h0 : z.1 = 0 := hc
  refine lv_aload_n hx hb dL_law_1523 rfl (lv_at hl 4 rfl) ?_
  refine lv_iconst (v := 0) hx hb dL_law_1524 (by decide) ?_
  refine aw_lald C0 hW dL_law_1525 ?_
  refine lv_iload hx hb dL_law_1526 (lv_at hl 0 rfl) ?_
  refine lv_i2l (v := q.1.toInt64) hx hb dL_law_1528 rfl ?_
  refine W.lcmp hx hb dL_law_1529 ?_
  refine lv_if_eq (tgt := 1535) hx hb dL_law_1530 rfl (fun _ => ?_) (fun hc => absurd (lg_same (ha h0)) hc)
  refine lv_goto (tgt := 2083) hx hb dL_law_1535 rfl ?_
  exact K H locs ls hW (lv_sub hl [2, 3, 4, 5, 6, 7] rfl)
set_option maxHeartbeats 4000000 in
set_option maxRecDepth 100000 in
theorem lc_20 {nx : Nat} {z : Int32 × Mem × Rem × Pool × Zed} {q : Int32 × Mem} (hfl : l.stackTraces = false) (C0 : CX g p s m args meth c RL cL_law 9 ret) (hX : va_X b L xs s s.heap) (hbl : b < s.heap.size) (hg : g.2.2 = s.heap.size) (hL : L ≤ 3072) (hj : 6 * j + 6 ≤ L) (hW : Wd g I R P Z s.heap H locs) (hsz : H.size = g.2.2 + nx) (hl : lv_has ls 9 [(5, .int (nI (6 * j))), (4, .ref (g.2.2 + 84)), (3, .ref (g.2.2 + 83)), (2, .ref (g.2.2 + 70)), (1, .ref (g.2.2 + 0)), (0, .ref b)])
    (hz : f_L_letter (xs (6 * j + 1)) (xs (6 * j + 2)) P R I Z nx = some z) (hq : f_X9_letter (xs (6 * j + 1)) (xs (6 * j + 2)) z.2.1 = some q) (ht : q.2 70 7 = z.1) (ha : z.1 = 0 → z.2.2.2.2.1 0 = q.1.toInt64) (hRc : cells + 3 ≤ room_1.cells) (hRs : slots + 71 ≤ room_1.slots)
    (K : ∀ (H : Heap) (locs : List Loc) (ls : Array Slot), Wd g q.2 z.2.2.1 z.2.2.2.1 z.2.2.2.2 s.heap H locs → lv_has ls 9 [(5, .int (nI (6 * j))), (4, .ref (g.2.2 + 84)), (3, .ref (g.2.2 + 83)), (2, .ref (g.2.2 + 70)), (1, .ref (g.2.2 + 0)), (0, .ref b)] → W p l e room_1 s m args below meth c H locs (cells + 3) (slots + 71) Q (F0 m 2083 ls [])) : W p l e room_1 s m args below meth c H locs cells slots Q (F0 m 1538 ls []) := by
  have hx := C0.1; have hb := C0.2.1; have hts := C0.2.2.2.2.2.1
  have hRc0 : cells + 3 ≤ room_1.cells := hRc; have hRs0 : slots + 71 ≤ room_1.slots := hRs
  refine lv_aload_n hx hb dL_law_1538 rfl (lv_at hl 4 rfl) ?_
  refine lv_aload_n hx hb dL_law_1539 rfl (lv_at hl 5 rfl) ?_
  refine lv_iload hx hb dL_law_1540 (lv_at hl 0 rfl) ?_
  refine lv_iconst (v := 1) hx hb dL_law_1542 (by decide) ?_
  refine lv_iadd hx hb dL_law_1543 ?_
  refine aw_sld C0 hX hbl hg hW (n := 6 * j + 1) (nI_add (6 * j) 1) (by omega) hL dL_law_1544 ?_
  refine lv_aload_n hx hb dL_law_1545 rfl (lv_at hl 5 rfl) ?_
  refine lv_iload hx hb dL_law_1546 (lv_at hl 0 rfl) ?_
  refine lv_iconst (v := 2) hx hb dL_law_1548 (by decide) ?_
  refine lv_iadd hx hb dL_law_1549 ?_
  refine aw_sld C0 hX hbl hg hW (n := 6 * j + 2) (nI_add (6 * j) 2) (by omega) hL dL_law_1550 ?_
  refine lv_aload_n hx hb dL_law_1551 rfl (lv_at hl 2 rfl) ?_
  refine aw_LS (rest := []) C0 hW hsz (c_L_letter hfl (xs (6 * j + 1)) (xs (6 * j + 2)) hz) (csw_174 hts) rfl hl.1 rfl (Nat.le_of_ble_eq_true rfl) ⟨hRc, hRs⟩ dL_law_1552 (fun H locs hW => ?_)
  refine lv_istore (lv' := [(6, .int z.1), (5, .int (nI (6 * j))), (4, .ref (g.2.2 + 84)), (3, .ref (g.2.2 + 83)), (2, .ref (g.2.2 + 70)), (1, .ref (g.2.2 + 0)), (0, .ref b)]) hx hb dL_law_1555 hl (Nat.le_of_ble_eq_true rfl) rfl (fun ls hl => ?_)
  refine lv_aload_n hx hb dL_law_1557 rfl (lv_at hl 4 rfl) ?_
  refine lv_aload_n hx hb dL_law_1558 rfl (lv_at hl 6 rfl) ?_
  refine lv_iload hx hb dL_law_1559 (lv_at hl 1 rfl) ?_
  refine lv_iconst (v := 1) hx hb dL_law_1561 (by decide) ?_
  refine lv_iadd hx hb dL_law_1562 ?_
  refine aw_sld C0 hX hbl hg hW (n := 6 * j + 1) (nI_add (6 * j) 1) (by omega) hL dL_law_1563 ?_
  refine lv_aload_n hx hb dL_law_1564 rfl (lv_at hl 6 rfl) ?_
  refine lv_iload hx hb dL_law_1565 (lv_at hl 1 rfl) ?_
  refine lv_iconst (v := 2) hx hb dL_law_1567 (by decide) ?_
  refine lv_iadd hx hb dL_law_1568 ?_
  refine aw_sld C0 hX hbl hg hW (n := 6 * j + 2) (nI_add (6 * j) 2) (by omega) hL dL_law_1569 ?_
  refine aw_cVi (rest := []) C0 hW (lv_fix (by decide)) (cel_8 kd70) rfl (c_X9_letter (xs (6 * j + 1)) (xs (6 * j + 2)) hq) (cvw_176 hts) rfl hl.1 rfl (Nat.le_of_ble_eq_true rfl) ⟨hRc0, hRs0⟩ dL_law_1570 (fun H locs hW => ?_)
  refine lv_istore (lv' := [(7, .int q.1), (6, .int z.1), (5, .int (nI (6 * j))), (4, .ref (g.2.2 + 84)), (3, .ref (g.2.2 + 83)), (2, .ref (g.2.2 + 70)), (1, .ref (g.2.2 + 0)), (0, .ref b)]) hx hb dL_law_1573 hl (Nat.le_of_ble_eq_true rfl) rfl (fun ls hl => ?_)
  refine lv_aload_n hx hb dL_law_1575 rfl (lv_at hl 5 rfl) ?_
  refine aw_cVi (rest := []) C0 hW (lv_fix (by decide)) (cel_8 kd70) rfl (c_X9_thrown rfl) (cvw_107 hts) rfl hl.1 rfl (Nat.le_of_ble_eq_true rfl) ⟨hRc0, hRs0⟩ dL_law_1576 (fun H locs hW => ?_)
  refine lv_iload hx hb dL_law_1579 (lv_at hl 1 rfl) ?_
  refine lv_icmp_eq (tgt := 1586) hx hb dL_law_1581 rfl (fun _ => ?_) (fun hc => absurd ht hc)
  refine lv_iload hx hb dL_law_1586 (lv_at hl 1 rfl) ?_
  refine lv_if_ne (tgt := 1603) hx hb dL_law_1588 rfl (fun hc => ?_) (fun hc => ?_)
  · refine lv_goto (tgt := 2083) hx hb dL_law_1603 rfl ?_
    exact K H locs ls hW (lv_sub hl [2, 3, 4, 5, 6, 7] rfl)
  have h0 : z.1 = 0 := hc
  refine lv_aload_n hx hb dL_law_1591 rfl (lv_at hl 4 rfl) ?_
  refine lv_iconst (v := 0) hx hb dL_law_1592 (by decide) ?_
  refine aw_lald C0 hW dL_law_1593 ?_
  refine lv_iload hx hb dL_law_1594 (lv_at hl 0 rfl) ?_
  refine lv_i2l (v := q.1.toInt64) hx hb dL_law_1596 rfl ?_
  refine W.lcmp hx hb dL_law_1597 ?_
  refine lv_if_eq (tgt := 1603) hx hb dL_law_1598 rfl (fun _ => ?_) (fun hc => absurd (lg_same (ha h0)) hc)
  refine lv_goto (tgt := 2083) hx hb dL_law_1603 rfl ?_
  exact K H locs ls hW (lv_sub hl [2, 3, 4, 5, 6, 7] rfl)
set_option maxHeartbeats 4000000 in
set_option maxRecDepth 100000 in
theorem lc_21 {nx : Nat} {z : Int32 × Mem × Rem × Pool × Zed} {q : Int32 × Mem} (hfl : l.stackTraces = false) (C0 : CX g p s m args meth c RL cL_law 9 ret) (hX : va_X b L xs s s.heap) (hbl : b < s.heap.size) (hg : g.2.2 = s.heap.size) (hL : L ≤ 3072) (hj : 6 * j + 6 ≤ L) (hW : Wd g I R P Z s.heap H locs) (hsz : H.size = g.2.2 + nx) (hl : lv_has ls 9 [(5, .int (nI (6 * j))), (4, .ref (g.2.2 + 84)), (3, .ref (g.2.2 + 83)), (2, .ref (g.2.2 + 70)), (1, .ref (g.2.2 + 0)), (0, .ref b)])
    (hz : f_L_compare (xs (6 * j + 1)) (xs (6 * j + 2)) (xs (6 * j + 3)) (xs (6 * j + 4)) P R I Z nx = some z) (hq : f_X9_compare (xs (6 * j + 1)) (xs (6 * j + 2)) (xs (6 * j + 3)) (xs (6 * j + 4)) z.2.1 = some q) (ht : q.2 70 7 = z.1) (ha : z.1 = 0 → z.2.2.2.2.1 0 = q.1.toInt64) (hRc : cells + 3 ≤ room_1.cells) (hRs : slots + 71 ≤ room_1.slots)
    (K : ∀ (H : Heap) (locs : List Loc) (ls : Array Slot), Wd g q.2 z.2.2.1 z.2.2.2.1 z.2.2.2.2 s.heap H locs → lv_has ls 9 [(5, .int (nI (6 * j))), (4, .ref (g.2.2 + 84)), (3, .ref (g.2.2 + 83)), (2, .ref (g.2.2 + 70)), (1, .ref (g.2.2 + 0)), (0, .ref b)] → W p l e room_1 s m args below meth c H locs (cells + 3) (slots + 71) Q (F0 m 2083 ls [])) : W p l e room_1 s m args below meth c H locs cells slots Q (F0 m 1606 ls []) := by
  have hx := C0.1; have hb := C0.2.1; have hts := C0.2.2.2.2.2.1
  have hRc0 : cells + 3 ≤ room_1.cells := hRc; have hRs0 : slots + 71 ≤ room_1.slots := hRs
  refine lv_aload_n hx hb dL_law_1606 rfl (lv_at hl 4 rfl) ?_
  refine lv_aload_n hx hb dL_law_1607 rfl (lv_at hl 5 rfl) ?_
  refine lv_iload hx hb dL_law_1608 (lv_at hl 0 rfl) ?_
  refine lv_iconst (v := 1) hx hb dL_law_1610 (by decide) ?_
  refine lv_iadd hx hb dL_law_1611 ?_
  refine aw_sld C0 hX hbl hg hW (n := 6 * j + 1) (nI_add (6 * j) 1) (by omega) hL dL_law_1612 ?_
  refine lv_aload_n hx hb dL_law_1613 rfl (lv_at hl 5 rfl) ?_
  refine lv_iload hx hb dL_law_1614 (lv_at hl 0 rfl) ?_
  refine lv_iconst (v := 2) hx hb dL_law_1616 (by decide) ?_
  refine lv_iadd hx hb dL_law_1617 ?_
  refine aw_sld C0 hX hbl hg hW (n := 6 * j + 2) (nI_add (6 * j) 2) (by omega) hL dL_law_1618 ?_
  refine lv_aload_n hx hb dL_law_1619 rfl (lv_at hl 5 rfl) ?_
  refine lv_iload hx hb dL_law_1620 (lv_at hl 0 rfl) ?_
  refine lv_iconst (v := 3) hx hb dL_law_1622 (by decide) ?_
  refine lv_iadd hx hb dL_law_1623 ?_
  refine aw_sld C0 hX hbl hg hW (n := 6 * j + 3) (nI_add (6 * j) 3) (by omega) hL dL_law_1624 ?_
  refine lv_aload_n hx hb dL_law_1625 rfl (lv_at hl 5 rfl) ?_
  refine lv_iload hx hb dL_law_1626 (lv_at hl 0 rfl) ?_
  refine lv_iconst (v := 4) hx hb dL_law_1628 (by decide) ?_
  refine lv_iadd hx hb dL_law_1629 ?_
  refine aw_sld C0 hX hbl hg hW (n := 6 * j + 4) (nI_add (6 * j) 4) (by omega) hL dL_law_1630 ?_
  refine lv_aload_n hx hb dL_law_1631 rfl (lv_at hl 2 rfl) ?_
  refine aw_LS (rest := []) C0 hW hsz (c_L_compare hfl (xs (6 * j + 1)) (xs (6 * j + 2)) (xs (6 * j + 3)) (xs (6 * j + 4)) hz) (csw_177 hts) rfl hl.1 rfl (Nat.le_of_ble_eq_true rfl) ⟨hRc, hRs⟩ dL_law_1632 (fun H locs hW => ?_)
  refine lv_istore (lv' := [(6, .int z.1), (5, .int (nI (6 * j))), (4, .ref (g.2.2 + 84)), (3, .ref (g.2.2 + 83)), (2, .ref (g.2.2 + 70)), (1, .ref (g.2.2 + 0)), (0, .ref b)]) hx hb dL_law_1635 hl (Nat.le_of_ble_eq_true rfl) rfl (fun ls hl => ?_)
  refine lv_aload_n hx hb dL_law_1637 rfl (lv_at hl 4 rfl) ?_
  refine lv_aload_n hx hb dL_law_1638 rfl (lv_at hl 6 rfl) ?_
  refine lv_iload hx hb dL_law_1639 (lv_at hl 1 rfl) ?_
  refine lv_iconst (v := 1) hx hb dL_law_1641 (by decide) ?_
  refine lv_iadd hx hb dL_law_1642 ?_
  refine aw_sld C0 hX hbl hg hW (n := 6 * j + 1) (nI_add (6 * j) 1) (by omega) hL dL_law_1643 ?_
  refine lv_aload_n hx hb dL_law_1644 rfl (lv_at hl 6 rfl) ?_
  refine lv_iload hx hb dL_law_1645 (lv_at hl 1 rfl) ?_
  refine lv_iconst (v := 2) hx hb dL_law_1647 (by decide) ?_
  refine lv_iadd hx hb dL_law_1648 ?_
  refine aw_sld C0 hX hbl hg hW (n := 6 * j + 2) (nI_add (6 * j) 2) (by omega) hL dL_law_1649 ?_
  refine lv_aload_n hx hb dL_law_1650 rfl (lv_at hl 6 rfl) ?_
  refine lv_iload hx hb dL_law_1651 (lv_at hl 1 rfl) ?_
  refine lv_iconst (v := 3) hx hb dL_law_1653 (by decide) ?_
  refine lv_iadd hx hb dL_law_1654 ?_
  refine aw_sld C0 hX hbl hg hW (n := 6 * j + 3) (nI_add (6 * j) 3) (by omega) hL dL_law_1655 ?_
  refine lv_aload_n hx hb dL_law_1656 rfl (lv_at hl 6 rfl) ?_
  refine lv_iload hx hb dL_law_1657 (lv_at hl 1 rfl) ?_
  refine lv_iconst (v := 4) hx hb dL_law_1659 (by decide) ?_
  refine lv_iadd hx hb dL_law_1660 ?_
  refine aw_sld C0 hX hbl hg hW (n := 6 * j + 4) (nI_add (6 * j) 4) (by omega) hL dL_law_1661 ?_
  refine aw_cVi (rest := []) C0 hW (lv_fix (by decide)) (cel_8 kd70) rfl (c_X9_compare (xs (6 * j + 1)) (xs (6 * j + 2)) (xs (6 * j + 3)) (xs (6 * j + 4)) hq) (cvw_179 hts) rfl hl.1 rfl (Nat.le_of_ble_eq_true rfl) ⟨hRc0, hRs0⟩ dL_law_1662 (fun H locs hW => ?_)
  refine lv_istore (lv' := [(7, .int q.1), (6, .int z.1), (5, .int (nI (6 * j))), (4, .ref (g.2.2 + 84)), (3, .ref (g.2.2 + 83)), (2, .ref (g.2.2 + 70)), (1, .ref (g.2.2 + 0)), (0, .ref b)]) hx hb dL_law_1665 hl (Nat.le_of_ble_eq_true rfl) rfl (fun ls hl => ?_)
  refine lv_aload_n hx hb dL_law_1667 rfl (lv_at hl 5 rfl) ?_
  refine aw_cVi (rest := []) C0 hW (lv_fix (by decide)) (cel_8 kd70) rfl (c_X9_thrown rfl) (cvw_107 hts) rfl hl.1 rfl (Nat.le_of_ble_eq_true rfl) ⟨hRc0, hRs0⟩ dL_law_1668 (fun H locs hW => ?_)
  refine lv_iload hx hb dL_law_1671 (lv_at hl 1 rfl) ?_
  refine lv_icmp_eq (tgt := 1678) hx hb dL_law_1673 rfl (fun _ => ?_) (fun hc => absurd ht hc)
  refine lv_iload hx hb dL_law_1678 (lv_at hl 1 rfl) ?_
  refine lv_if_ne (tgt := 1695) hx hb dL_law_1680 rfl (fun hc => ?_) (fun hc => ?_)
  · refine lv_goto (tgt := 2083) hx hb dL_law_1695 rfl ?_
    exact K H locs ls hW (lv_sub hl [2, 3, 4, 5, 6, 7] rfl)
  have h0 : z.1 = 0 := hc
  refine lv_aload_n hx hb dL_law_1683 rfl (lv_at hl 4 rfl) ?_
  refine lv_iconst (v := 0) hx hb dL_law_1684 (by decide) ?_
  refine aw_lald C0 hW dL_law_1685 ?_
  refine lv_iload hx hb dL_law_1686 (lv_at hl 0 rfl) ?_
  refine lv_i2l (v := q.1.toInt64) hx hb dL_law_1688 rfl ?_
  refine W.lcmp hx hb dL_law_1689 ?_
  refine lv_if_eq (tgt := 1695) hx hb dL_law_1690 rfl (fun _ => ?_) (fun hc => absurd (lg_same (ha h0)) hc)
  refine lv_goto (tgt := 2083) hx hb dL_law_1695 rfl ?_
  exact K H locs ls hW (lv_sub hl [2, 3, 4, 5, 6, 7] rfl)
set_option maxHeartbeats 4000000 in
set_option maxRecDepth 100000 in
theorem lc_22 {nx : Nat} {z : Int32 × Mem × Rem × Pool × Zed} {q : Int32 × Mem} (hfl : l.stackTraces = false) (C0 : CX g p s m args meth c RL cL_law 9 ret) (hX : va_X b L xs s s.heap) (hbl : b < s.heap.size) (hg : g.2.2 = s.heap.size) (hL : L ≤ 3072) (hj : 6 * j + 6 ≤ L) (hW : Wd g I R P Z s.heap H locs) (hsz : H.size = g.2.2 + nx) (hl : lv_has ls 9 [(5, .int (nI (6 * j))), (4, .ref (g.2.2 + 84)), (3, .ref (g.2.2 + 83)), (2, .ref (g.2.2 + 70)), (1, .ref (g.2.2 + 0)), (0, .ref b)])
    (hz : f_L_certain (xs (6 * j + 1)) (xs (6 * j + 2)) (xs (6 * j + 3)) P R I Z nx = some z) (hq : f_X9_certain (xs (6 * j + 1)) (xs (6 * j + 2)) (xs (6 * j + 3)) z.2.1 = some q) (ht : q.2 70 7 = z.1) (ha : z.1 = 0 → z.2.2.2.2.1 0 = q.1.toInt64) (hRc : cells + 3 ≤ room_1.cells) (hRs : slots + 71 ≤ room_1.slots)
    (K : ∀ (H : Heap) (locs : List Loc) (ls : Array Slot), Wd g q.2 z.2.2.1 z.2.2.2.1 z.2.2.2.2 s.heap H locs → lv_has ls 9 [(5, .int (nI (6 * j))), (4, .ref (g.2.2 + 84)), (3, .ref (g.2.2 + 83)), (2, .ref (g.2.2 + 70)), (1, .ref (g.2.2 + 0)), (0, .ref b)] → W p l e room_1 s m args below meth c H locs (cells + 3) (slots + 71) Q (F0 m 2083 ls [])) : W p l e room_1 s m args below meth c H locs cells slots Q (F0 m 1698 ls []) := by
  have hx := C0.1; have hb := C0.2.1; have hts := C0.2.2.2.2.2.1
  have hRc0 : cells + 3 ≤ room_1.cells := hRc; have hRs0 : slots + 71 ≤ room_1.slots := hRs
  refine lv_aload_n hx hb dL_law_1698 rfl (lv_at hl 4 rfl) ?_
  refine lv_aload_n hx hb dL_law_1699 rfl (lv_at hl 5 rfl) ?_
  refine lv_iload hx hb dL_law_1700 (lv_at hl 0 rfl) ?_
  refine lv_iconst (v := 1) hx hb dL_law_1702 (by decide) ?_
  refine lv_iadd hx hb dL_law_1703 ?_
  refine aw_sld C0 hX hbl hg hW (n := 6 * j + 1) (nI_add (6 * j) 1) (by omega) hL dL_law_1704 ?_
  refine lv_aload_n hx hb dL_law_1705 rfl (lv_at hl 5 rfl) ?_
  refine lv_iload hx hb dL_law_1706 (lv_at hl 0 rfl) ?_
  refine lv_iconst (v := 2) hx hb dL_law_1708 (by decide) ?_
  refine lv_iadd hx hb dL_law_1709 ?_
  refine aw_sld C0 hX hbl hg hW (n := 6 * j + 2) (nI_add (6 * j) 2) (by omega) hL dL_law_1710 ?_
  refine lv_aload_n hx hb dL_law_1711 rfl (lv_at hl 5 rfl) ?_
  refine lv_iload hx hb dL_law_1712 (lv_at hl 0 rfl) ?_
  refine lv_iconst (v := 3) hx hb dL_law_1714 (by decide) ?_
  refine lv_iadd hx hb dL_law_1715 ?_
  refine aw_sld C0 hX hbl hg hW (n := 6 * j + 3) (nI_add (6 * j) 3) (by omega) hL dL_law_1716 ?_
  refine lv_aload_n hx hb dL_law_1717 rfl (lv_at hl 2 rfl) ?_
  refine aw_LS (rest := []) C0 hW hsz (c_L_certain hfl (xs (6 * j + 1)) (xs (6 * j + 2)) (xs (6 * j + 3)) hz) (csw_180 hts) rfl hl.1 rfl (Nat.le_of_ble_eq_true rfl) ⟨hRc, hRs⟩ dL_law_1718 (fun H locs hW => ?_)
  refine lv_istore (lv' := [(6, .int z.1), (5, .int (nI (6 * j))), (4, .ref (g.2.2 + 84)), (3, .ref (g.2.2 + 83)), (2, .ref (g.2.2 + 70)), (1, .ref (g.2.2 + 0)), (0, .ref b)]) hx hb dL_law_1721 hl (Nat.le_of_ble_eq_true rfl) rfl (fun ls hl => ?_)
  refine lv_aload_n hx hb dL_law_1723 rfl (lv_at hl 4 rfl) ?_
  refine lv_aload_n hx hb dL_law_1724 rfl (lv_at hl 6 rfl) ?_
  refine lv_iload hx hb dL_law_1725 (lv_at hl 1 rfl) ?_
  refine lv_iconst (v := 1) hx hb dL_law_1727 (by decide) ?_
  refine lv_iadd hx hb dL_law_1728 ?_
  refine aw_sld C0 hX hbl hg hW (n := 6 * j + 1) (nI_add (6 * j) 1) (by omega) hL dL_law_1729 ?_
  refine lv_aload_n hx hb dL_law_1730 rfl (lv_at hl 6 rfl) ?_
  refine lv_iload hx hb dL_law_1731 (lv_at hl 1 rfl) ?_
  refine lv_iconst (v := 2) hx hb dL_law_1733 (by decide) ?_
  refine lv_iadd hx hb dL_law_1734 ?_
  refine aw_sld C0 hX hbl hg hW (n := 6 * j + 2) (nI_add (6 * j) 2) (by omega) hL dL_law_1735 ?_
  refine lv_aload_n hx hb dL_law_1736 rfl (lv_at hl 6 rfl) ?_
  refine lv_iload hx hb dL_law_1737 (lv_at hl 1 rfl) ?_
  refine lv_iconst (v := 3) hx hb dL_law_1739 (by decide) ?_
  refine lv_iadd hx hb dL_law_1740 ?_
  refine aw_sld C0 hX hbl hg hW (n := 6 * j + 3) (nI_add (6 * j) 3) (by omega) hL dL_law_1741 ?_
  refine aw_cVi (rest := []) C0 hW (lv_fix (by decide)) (cel_8 kd70) rfl (c_X9_certain (xs (6 * j + 1)) (xs (6 * j + 2)) (xs (6 * j + 3)) hq) (cvw_182 hts) rfl hl.1 rfl (Nat.le_of_ble_eq_true rfl) ⟨hRc0, hRs0⟩ dL_law_1742 (fun H locs hW => ?_)
  refine lv_istore (lv' := [(7, .int q.1), (6, .int z.1), (5, .int (nI (6 * j))), (4, .ref (g.2.2 + 84)), (3, .ref (g.2.2 + 83)), (2, .ref (g.2.2 + 70)), (1, .ref (g.2.2 + 0)), (0, .ref b)]) hx hb dL_law_1745 hl (Nat.le_of_ble_eq_true rfl) rfl (fun ls hl => ?_)
  refine lv_aload_n hx hb dL_law_1747 rfl (lv_at hl 5 rfl) ?_
  refine aw_cVi (rest := []) C0 hW (lv_fix (by decide)) (cel_8 kd70) rfl (c_X9_thrown rfl) (cvw_107 hts) rfl hl.1 rfl (Nat.le_of_ble_eq_true rfl) ⟨hRc0, hRs0⟩ dL_law_1748 (fun H locs hW => ?_)
  refine lv_iload hx hb dL_law_1751 (lv_at hl 1 rfl) ?_
  refine lv_icmp_eq (tgt := 1758) hx hb dL_law_1753 rfl (fun _ => ?_) (fun hc => absurd ht hc)
  refine lv_iload hx hb dL_law_1758 (lv_at hl 1 rfl) ?_
  refine lv_if_ne (tgt := 1775) hx hb dL_law_1760 rfl (fun hc => ?_) (fun hc => ?_)
  · refine lv_goto (tgt := 2083) hx hb dL_law_1775 rfl ?_
    exact K H locs ls hW (lv_sub hl [2, 3, 4, 5, 6, 7] rfl)
  have h0 : z.1 = 0 := hc
  refine lv_aload_n hx hb dL_law_1763 rfl (lv_at hl 4 rfl) ?_
  refine lv_iconst (v := 0) hx hb dL_law_1764 (by decide) ?_
  refine aw_lald C0 hW dL_law_1765 ?_
  refine lv_iload hx hb dL_law_1766 (lv_at hl 0 rfl) ?_
  refine lv_i2l (v := q.1.toInt64) hx hb dL_law_1768 rfl ?_
  refine W.lcmp hx hb dL_law_1769 ?_
  refine lv_if_eq (tgt := 1775) hx hb dL_law_1770 rfl (fun _ => ?_) (fun hc => absurd (lg_same (ha h0)) hc)
  refine lv_goto (tgt := 2083) hx hb dL_law_1775 rfl ?_
  exact K H locs ls hW (lv_sub hl [2, 3, 4, 5, 6, 7] rfl)
set_option maxHeartbeats 4000000 in
set_option maxRecDepth 100000 in
theorem lc_23 {nx : Nat} {z : Int32 × Mem × Rem × Pool × Zed} {q : Int32 × Mem} (hfl : l.stackTraces = false) (C0 : CX g p s m args meth c RL cL_law 9 ret) (hX : va_X b L xs s s.heap) (hbl : b < s.heap.size) (hg : g.2.2 = s.heap.size) (hL : L ≤ 3072) (hj : 6 * j + 6 ≤ L) (hW : Wd g I R P Z s.heap H locs) (hsz : H.size = g.2.2 + nx) (hl : lv_has ls 9 [(5, .int (nI (6 * j))), (4, .ref (g.2.2 + 84)), (3, .ref (g.2.2 + 83)), (2, .ref (g.2.2 + 70)), (1, .ref (g.2.2 + 0)), (0, .ref b)])
    (hz : f_L_join (xs (6 * j + 1)) (xs (6 * j + 2)) (xs (6 * j + 3)) P R I Z nx = some z) (hq : f_X9_join (xs (6 * j + 1)) (xs (6 * j + 2)) (xs (6 * j + 3)) z.2.1 = some q) (ht : q.2 70 7 = z.1) (ha : z.1 = 0 → z.2.2.2.2.1 0 = q.1.toInt64) (hRc : cells + 3 ≤ room_1.cells) (hRs : slots + 71 ≤ room_1.slots)
    (K : ∀ (H : Heap) (locs : List Loc) (ls : Array Slot), Wd g q.2 z.2.2.1 z.2.2.2.1 z.2.2.2.2 s.heap H locs → lv_has ls 9 [(5, .int (nI (6 * j))), (4, .ref (g.2.2 + 84)), (3, .ref (g.2.2 + 83)), (2, .ref (g.2.2 + 70)), (1, .ref (g.2.2 + 0)), (0, .ref b)] → W p l e room_1 s m args below meth c H locs (cells + 3) (slots + 71) Q (F0 m 2083 ls [])) : W p l e room_1 s m args below meth c H locs cells slots Q (F0 m 1778 ls []) := by
  have hx := C0.1; have hb := C0.2.1; have hts := C0.2.2.2.2.2.1
  have hRc0 : cells + 3 ≤ room_1.cells := hRc; have hRs0 : slots + 71 ≤ room_1.slots := hRs
  refine lv_aload_n hx hb dL_law_1778 rfl (lv_at hl 4 rfl) ?_
  refine lv_aload_n hx hb dL_law_1779 rfl (lv_at hl 5 rfl) ?_
  refine lv_iload hx hb dL_law_1780 (lv_at hl 0 rfl) ?_
  refine lv_iconst (v := 1) hx hb dL_law_1782 (by decide) ?_
  refine lv_iadd hx hb dL_law_1783 ?_
  refine aw_sld C0 hX hbl hg hW (n := 6 * j + 1) (nI_add (6 * j) 1) (by omega) hL dL_law_1784 ?_
  refine lv_aload_n hx hb dL_law_1785 rfl (lv_at hl 5 rfl) ?_
  refine lv_iload hx hb dL_law_1786 (lv_at hl 0 rfl) ?_
  refine lv_iconst (v := 2) hx hb dL_law_1788 (by decide) ?_
  refine lv_iadd hx hb dL_law_1789 ?_
  refine aw_sld C0 hX hbl hg hW (n := 6 * j + 2) (nI_add (6 * j) 2) (by omega) hL dL_law_1790 ?_
  refine lv_aload_n hx hb dL_law_1791 rfl (lv_at hl 5 rfl) ?_
  refine lv_iload hx hb dL_law_1792 (lv_at hl 0 rfl) ?_
  refine lv_iconst (v := 3) hx hb dL_law_1794 (by decide) ?_
  refine lv_iadd hx hb dL_law_1795 ?_
  refine aw_sld C0 hX hbl hg hW (n := 6 * j + 3) (nI_add (6 * j) 3) (by omega) hL dL_law_1796 ?_
  refine lv_aload_n hx hb dL_law_1797 rfl (lv_at hl 2 rfl) ?_
  refine aw_LS (rest := []) C0 hW hsz (c_L_join hfl (xs (6 * j + 1)) (xs (6 * j + 2)) (xs (6 * j + 3)) hz) (csw_183 hts) rfl hl.1 rfl (Nat.le_of_ble_eq_true rfl) ⟨hRc, hRs⟩ dL_law_1798 (fun H locs hW => ?_)
  refine lv_istore (lv' := [(6, .int z.1), (5, .int (nI (6 * j))), (4, .ref (g.2.2 + 84)), (3, .ref (g.2.2 + 83)), (2, .ref (g.2.2 + 70)), (1, .ref (g.2.2 + 0)), (0, .ref b)]) hx hb dL_law_1801 hl (Nat.le_of_ble_eq_true rfl) rfl (fun ls hl => ?_)
  refine lv_aload_n hx hb dL_law_1803 rfl (lv_at hl 4 rfl) ?_
  refine lv_aload_n hx hb dL_law_1804 rfl (lv_at hl 6 rfl) ?_
  refine lv_iload hx hb dL_law_1805 (lv_at hl 1 rfl) ?_
  refine lv_iconst (v := 1) hx hb dL_law_1807 (by decide) ?_
  refine lv_iadd hx hb dL_law_1808 ?_
  refine aw_sld C0 hX hbl hg hW (n := 6 * j + 1) (nI_add (6 * j) 1) (by omega) hL dL_law_1809 ?_
  refine lv_aload_n hx hb dL_law_1810 rfl (lv_at hl 6 rfl) ?_
  refine lv_iload hx hb dL_law_1811 (lv_at hl 1 rfl) ?_
  refine lv_iconst (v := 2) hx hb dL_law_1813 (by decide) ?_
  refine lv_iadd hx hb dL_law_1814 ?_
  refine aw_sld C0 hX hbl hg hW (n := 6 * j + 2) (nI_add (6 * j) 2) (by omega) hL dL_law_1815 ?_
  refine lv_aload_n hx hb dL_law_1816 rfl (lv_at hl 6 rfl) ?_
  refine lv_iload hx hb dL_law_1817 (lv_at hl 1 rfl) ?_
  refine lv_iconst (v := 3) hx hb dL_law_1819 (by decide) ?_
  refine lv_iadd hx hb dL_law_1820 ?_
  refine aw_sld C0 hX hbl hg hW (n := 6 * j + 3) (nI_add (6 * j) 3) (by omega) hL dL_law_1821 ?_
  refine aw_cVi (rest := []) C0 hW (lv_fix (by decide)) (cel_8 kd70) rfl (c_X9_join (xs (6 * j + 1)) (xs (6 * j + 2)) (xs (6 * j + 3)) hq) (cvw_185 hts) rfl hl.1 rfl (Nat.le_of_ble_eq_true rfl) ⟨hRc0, hRs0⟩ dL_law_1822 (fun H locs hW => ?_)
  refine lv_istore (lv' := [(7, .int q.1), (6, .int z.1), (5, .int (nI (6 * j))), (4, .ref (g.2.2 + 84)), (3, .ref (g.2.2 + 83)), (2, .ref (g.2.2 + 70)), (1, .ref (g.2.2 + 0)), (0, .ref b)]) hx hb dL_law_1825 hl (Nat.le_of_ble_eq_true rfl) rfl (fun ls hl => ?_)
  refine lv_aload_n hx hb dL_law_1827 rfl (lv_at hl 5 rfl) ?_
  refine aw_cVi (rest := []) C0 hW (lv_fix (by decide)) (cel_8 kd70) rfl (c_X9_thrown rfl) (cvw_107 hts) rfl hl.1 rfl (Nat.le_of_ble_eq_true rfl) ⟨hRc0, hRs0⟩ dL_law_1828 (fun H locs hW => ?_)
  refine lv_iload hx hb dL_law_1831 (lv_at hl 1 rfl) ?_
  refine lv_icmp_eq (tgt := 1838) hx hb dL_law_1833 rfl (fun _ => ?_) (fun hc => absurd ht hc)
  refine lv_iload hx hb dL_law_1838 (lv_at hl 1 rfl) ?_
  refine lv_if_ne (tgt := 1855) hx hb dL_law_1840 rfl (fun hc => ?_) (fun hc => ?_)
  · refine lv_goto (tgt := 2083) hx hb dL_law_1855 rfl ?_
    exact K H locs ls hW (lv_sub hl [2, 3, 4, 5, 6, 7] rfl)
  have h0 : z.1 = 0 := hc
  refine lv_aload_n hx hb dL_law_1843 rfl (lv_at hl 4 rfl) ?_
  refine lv_iconst (v := 0) hx hb dL_law_1844 (by decide) ?_
  refine aw_lald C0 hW dL_law_1845 ?_
  refine lv_iload hx hb dL_law_1846 (lv_at hl 0 rfl) ?_
  refine lv_i2l (v := q.1.toInt64) hx hb dL_law_1848 rfl ?_
  refine W.lcmp hx hb dL_law_1849 ?_
  refine lv_if_eq (tgt := 1855) hx hb dL_law_1850 rfl (fun _ => ?_) (fun hc => absurd (lg_same (ha h0)) hc)
  refine lv_goto (tgt := 2083) hx hb dL_law_1855 rfl ?_
  exact K H locs ls hW (lv_sub hl [2, 3, 4, 5, 6, 7] rfl)
set_option maxHeartbeats 4000000 in
set_option maxRecDepth 100000 in
theorem lc_24 {nx : Nat} {z : Int32 × Mem × Rem × Pool × Zed} {q : Int32 × Mem} (hfl : l.stackTraces = false) (C0 : CX g p s m args meth c RL cL_law 9 ret) (hX : va_X b L xs s s.heap) (hbl : b < s.heap.size) (hg : g.2.2 = s.heap.size) (hL : L ≤ 3072) (hj : 6 * j + 6 ≤ L) (hW : Wd g I R P Z s.heap H locs) (hsz : H.size = g.2.2 + nx) (hl : lv_has ls 9 [(5, .int (nI (6 * j))), (4, .ref (g.2.2 + 84)), (3, .ref (g.2.2 + 83)), (2, .ref (g.2.2 + 70)), (1, .ref (g.2.2 + 0)), (0, .ref b)])
    (hz : f_L_among (xs (6 * j + 1)) (xs (6 * j + 2)) (xs (6 * j + 3)) P R I Z nx = some z) (hq : f_X9_among (xs (6 * j + 1)) (xs (6 * j + 2)) (xs (6 * j + 3)) z.2.1 = some q) (ht : q.2 70 7 = z.1) (ha : z.1 = 0 → z.2.2.2.2.1 0 = q.1.toInt64) (hRc : cells + 3 ≤ room_1.cells) (hRs : slots + 71 ≤ room_1.slots)
    (K : ∀ (H : Heap) (locs : List Loc) (ls : Array Slot), Wd g q.2 z.2.2.1 z.2.2.2.1 z.2.2.2.2 s.heap H locs → lv_has ls 9 [(5, .int (nI (6 * j))), (4, .ref (g.2.2 + 84)), (3, .ref (g.2.2 + 83)), (2, .ref (g.2.2 + 70)), (1, .ref (g.2.2 + 0)), (0, .ref b)] → W p l e room_1 s m args below meth c H locs (cells + 3) (slots + 71) Q (F0 m 2083 ls [])) : W p l e room_1 s m args below meth c H locs cells slots Q (F0 m 1858 ls []) := by
  have hx := C0.1; have hb := C0.2.1; have hts := C0.2.2.2.2.2.1
  have hRc0 : cells + 3 ≤ room_1.cells := hRc; have hRs0 : slots + 71 ≤ room_1.slots := hRs
  refine lv_aload_n hx hb dL_law_1858 rfl (lv_at hl 4 rfl) ?_
  refine lv_aload_n hx hb dL_law_1859 rfl (lv_at hl 5 rfl) ?_
  refine lv_iload hx hb dL_law_1860 (lv_at hl 0 rfl) ?_
  refine lv_iconst (v := 1) hx hb dL_law_1862 (by decide) ?_
  refine lv_iadd hx hb dL_law_1863 ?_
  refine aw_sld C0 hX hbl hg hW (n := 6 * j + 1) (nI_add (6 * j) 1) (by omega) hL dL_law_1864 ?_
  refine lv_aload_n hx hb dL_law_1865 rfl (lv_at hl 5 rfl) ?_
  refine lv_iload hx hb dL_law_1866 (lv_at hl 0 rfl) ?_
  refine lv_iconst (v := 2) hx hb dL_law_1868 (by decide) ?_
  refine lv_iadd hx hb dL_law_1869 ?_
  refine aw_sld C0 hX hbl hg hW (n := 6 * j + 2) (nI_add (6 * j) 2) (by omega) hL dL_law_1870 ?_
  refine lv_aload_n hx hb dL_law_1871 rfl (lv_at hl 5 rfl) ?_
  refine lv_iload hx hb dL_law_1872 (lv_at hl 0 rfl) ?_
  refine lv_iconst (v := 3) hx hb dL_law_1874 (by decide) ?_
  refine lv_iadd hx hb dL_law_1875 ?_
  refine aw_sld C0 hX hbl hg hW (n := 6 * j + 3) (nI_add (6 * j) 3) (by omega) hL dL_law_1876 ?_
  refine lv_aload_n hx hb dL_law_1877 rfl (lv_at hl 2 rfl) ?_
  refine aw_LS (rest := []) C0 hW hsz (c_L_among hfl (xs (6 * j + 1)) (xs (6 * j + 2)) (xs (6 * j + 3)) hz) (csw_186 hts) rfl hl.1 rfl (Nat.le_of_ble_eq_true rfl) ⟨hRc, hRs⟩ dL_law_1878 (fun H locs hW => ?_)
  refine lv_istore (lv' := [(6, .int z.1), (5, .int (nI (6 * j))), (4, .ref (g.2.2 + 84)), (3, .ref (g.2.2 + 83)), (2, .ref (g.2.2 + 70)), (1, .ref (g.2.2 + 0)), (0, .ref b)]) hx hb dL_law_1881 hl (Nat.le_of_ble_eq_true rfl) rfl (fun ls hl => ?_)
  refine lv_aload_n hx hb dL_law_1883 rfl (lv_at hl 4 rfl) ?_
  refine lv_aload_n hx hb dL_law_1884 rfl (lv_at hl 6 rfl) ?_
  refine lv_iload hx hb dL_law_1885 (lv_at hl 1 rfl) ?_
  refine lv_iconst (v := 1) hx hb dL_law_1887 (by decide) ?_
  refine lv_iadd hx hb dL_law_1888 ?_
  refine aw_sld C0 hX hbl hg hW (n := 6 * j + 1) (nI_add (6 * j) 1) (by omega) hL dL_law_1889 ?_
  refine lv_aload_n hx hb dL_law_1890 rfl (lv_at hl 6 rfl) ?_
  refine lv_iload hx hb dL_law_1891 (lv_at hl 1 rfl) ?_
  refine lv_iconst (v := 2) hx hb dL_law_1893 (by decide) ?_
  refine lv_iadd hx hb dL_law_1894 ?_
  refine aw_sld C0 hX hbl hg hW (n := 6 * j + 2) (nI_add (6 * j) 2) (by omega) hL dL_law_1895 ?_
  refine lv_aload_n hx hb dL_law_1896 rfl (lv_at hl 6 rfl) ?_
  refine lv_iload hx hb dL_law_1897 (lv_at hl 1 rfl) ?_
  refine lv_iconst (v := 3) hx hb dL_law_1899 (by decide) ?_
  refine lv_iadd hx hb dL_law_1900 ?_
  refine aw_sld C0 hX hbl hg hW (n := 6 * j + 3) (nI_add (6 * j) 3) (by omega) hL dL_law_1901 ?_
  refine aw_cVi (rest := []) C0 hW (lv_fix (by decide)) (cel_8 kd70) rfl (c_X9_among (xs (6 * j + 1)) (xs (6 * j + 2)) (xs (6 * j + 3)) hq) (cvw_188 hts) rfl hl.1 rfl (Nat.le_of_ble_eq_true rfl) ⟨hRc0, hRs0⟩ dL_law_1902 (fun H locs hW => ?_)
  refine lv_istore (lv' := [(7, .int q.1), (6, .int z.1), (5, .int (nI (6 * j))), (4, .ref (g.2.2 + 84)), (3, .ref (g.2.2 + 83)), (2, .ref (g.2.2 + 70)), (1, .ref (g.2.2 + 0)), (0, .ref b)]) hx hb dL_law_1905 hl (Nat.le_of_ble_eq_true rfl) rfl (fun ls hl => ?_)
  refine lv_aload_n hx hb dL_law_1907 rfl (lv_at hl 5 rfl) ?_
  refine aw_cVi (rest := []) C0 hW (lv_fix (by decide)) (cel_8 kd70) rfl (c_X9_thrown rfl) (cvw_107 hts) rfl hl.1 rfl (Nat.le_of_ble_eq_true rfl) ⟨hRc0, hRs0⟩ dL_law_1908 (fun H locs hW => ?_)
  refine lv_iload hx hb dL_law_1911 (lv_at hl 1 rfl) ?_
  refine lv_icmp_eq (tgt := 1918) hx hb dL_law_1913 rfl (fun _ => ?_) (fun hc => absurd ht hc)
  refine lv_iload hx hb dL_law_1918 (lv_at hl 1 rfl) ?_
  refine lv_if_ne (tgt := 1935) hx hb dL_law_1920 rfl (fun hc => ?_) (fun hc => ?_)
  · refine lv_goto (tgt := 2083) hx hb dL_law_1935 rfl ?_
    exact K H locs ls hW (lv_sub hl [2, 3, 4, 5, 6, 7] rfl)
  have h0 : z.1 = 0 := hc
  refine lv_aload_n hx hb dL_law_1923 rfl (lv_at hl 4 rfl) ?_
  refine lv_iconst (v := 0) hx hb dL_law_1924 (by decide) ?_
  refine aw_lald C0 hW dL_law_1925 ?_
  refine lv_iload hx hb dL_law_1926 (lv_at hl 0 rfl) ?_
  refine lv_i2l (v := q.1.toInt64) hx hb dL_law_1928 rfl ?_
  refine W.lcmp hx hb dL_law_1929 ?_
  refine lv_if_eq (tgt := 1935) hx hb dL_law_1930 rfl (fun _ => ?_) (fun hc => absurd (lg_same (ha h0)) hc)
  refine lv_goto (tgt := 2083) hx hb dL_law_1935 rfl ?_
  exact K H locs ls hW (lv_sub hl [2, 3, 4, 5, 6, 7] rfl)
set_option maxHeartbeats 4000000 in
set_option maxRecDepth 100000 in
theorem lc_25 {nx : Nat} {z : Int32 × Mem × Rem × Pool × Zed} {q : Int32 × Mem} (hfl : l.stackTraces = false) (C0 : CX g p s m args meth c RL cL_law 9 ret) (hX : va_X b L xs s s.heap) (hbl : b < s.heap.size) (hg : g.2.2 = s.heap.size) (hL : L ≤ 3072) (hj : 6 * j + 6 ≤ L) (hW : Wd g I R P Z s.heap H locs) (hsz : H.size = g.2.2 + nx) (hl : lv_has ls 9 [(5, .int (nI (6 * j))), (4, .ref (g.2.2 + 84)), (3, .ref (g.2.2 + 83)), (2, .ref (g.2.2 + 70)), (1, .ref (g.2.2 + 0)), (0, .ref b)])
    (hz : f_L_count (xs (6 * j + 1)) P R I Z nx = some z) (hq : f_X9_count (xs (6 * j + 1)) z.2.1 = some q) (ht : q.2 70 7 = z.1) (ha : z.1 = 0 → z.2.2.2.2.1 0 = q.1.toInt64) (hRc : cells + 3 ≤ room_1.cells) (hRs : slots + 71 ≤ room_1.slots)
    (K : ∀ (H : Heap) (locs : List Loc) (ls : Array Slot), Wd g q.2 z.2.2.1 z.2.2.2.1 z.2.2.2.2 s.heap H locs → lv_has ls 9 [(5, .int (nI (6 * j))), (4, .ref (g.2.2 + 84)), (3, .ref (g.2.2 + 83)), (2, .ref (g.2.2 + 70)), (1, .ref (g.2.2 + 0)), (0, .ref b)] → W p l e room_1 s m args below meth c H locs (cells + 3) (slots + 71) Q (F0 m 2083 ls [])) : W p l e room_1 s m args below meth c H locs cells slots Q (F0 m 1938 ls []) := by
  have hx := C0.1; have hb := C0.2.1; have hts := C0.2.2.2.2.2.1
  have hRc0 : cells + 3 ≤ room_1.cells := hRc; have hRs0 : slots + 71 ≤ room_1.slots := hRs
  refine lv_aload_n hx hb dL_law_1938 rfl (lv_at hl 4 rfl) ?_
  refine lv_aload_n hx hb dL_law_1939 rfl (lv_at hl 5 rfl) ?_
  refine lv_iload hx hb dL_law_1940 (lv_at hl 0 rfl) ?_
  refine lv_iconst (v := 1) hx hb dL_law_1942 (by decide) ?_
  refine lv_iadd hx hb dL_law_1943 ?_
  refine aw_sld C0 hX hbl hg hW (n := 6 * j + 1) (nI_add (6 * j) 1) (by omega) hL dL_law_1944 ?_
  refine lv_aload_n hx hb dL_law_1945 rfl (lv_at hl 2 rfl) ?_
  refine aw_LS (rest := []) C0 hW hsz (c_L_count hfl (xs (6 * j + 1)) hz) (csw_189 hts) rfl hl.1 rfl (Nat.le_of_ble_eq_true rfl) ⟨hRc, hRs⟩ dL_law_1946 (fun H locs hW => ?_)
  refine lv_istore (lv' := [(6, .int z.1), (5, .int (nI (6 * j))), (4, .ref (g.2.2 + 84)), (3, .ref (g.2.2 + 83)), (2, .ref (g.2.2 + 70)), (1, .ref (g.2.2 + 0)), (0, .ref b)]) hx hb dL_law_1949 hl (Nat.le_of_ble_eq_true rfl) rfl (fun ls hl => ?_)
  refine lv_aload_n hx hb dL_law_1951 rfl (lv_at hl 4 rfl) ?_
  refine lv_aload_n hx hb dL_law_1952 rfl (lv_at hl 6 rfl) ?_
  refine lv_iload hx hb dL_law_1953 (lv_at hl 1 rfl) ?_
  refine lv_iconst (v := 1) hx hb dL_law_1955 (by decide) ?_
  refine lv_iadd hx hb dL_law_1956 ?_
  refine aw_sld C0 hX hbl hg hW (n := 6 * j + 1) (nI_add (6 * j) 1) (by omega) hL dL_law_1957 ?_
  refine aw_cVi (rest := []) C0 hW (lv_fix (by decide)) (cel_8 kd70) rfl (c_X9_count (xs (6 * j + 1)) hq) (cvw_191 hts) rfl hl.1 rfl (Nat.le_of_ble_eq_true rfl) ⟨hRc0, hRs0⟩ dL_law_1958 (fun H locs hW => ?_)
  refine lv_istore (lv' := [(7, .int q.1), (6, .int z.1), (5, .int (nI (6 * j))), (4, .ref (g.2.2 + 84)), (3, .ref (g.2.2 + 83)), (2, .ref (g.2.2 + 70)), (1, .ref (g.2.2 + 0)), (0, .ref b)]) hx hb dL_law_1961 hl (Nat.le_of_ble_eq_true rfl) rfl (fun ls hl => ?_)
  refine lv_aload_n hx hb dL_law_1963 rfl (lv_at hl 5 rfl) ?_
  refine aw_cVi (rest := []) C0 hW (lv_fix (by decide)) (cel_8 kd70) rfl (c_X9_thrown rfl) (cvw_107 hts) rfl hl.1 rfl (Nat.le_of_ble_eq_true rfl) ⟨hRc0, hRs0⟩ dL_law_1964 (fun H locs hW => ?_)
  refine lv_iload hx hb dL_law_1967 (lv_at hl 1 rfl) ?_
  refine lv_icmp_eq (tgt := 1974) hx hb dL_law_1969 rfl (fun _ => ?_) (fun hc => absurd ht hc)
  refine lv_iload hx hb dL_law_1974 (lv_at hl 1 rfl) ?_
  refine lv_if_ne (tgt := 1991) hx hb dL_law_1976 rfl (fun hc => ?_) (fun hc => ?_)
  · refine lv_goto (tgt := 2083) hx hb dL_law_1991 rfl ?_
    exact K H locs ls hW (lv_sub hl [2, 3, 4, 5, 6, 7] rfl)
  have h0 : z.1 = 0 := hc
  refine lv_aload_n hx hb dL_law_1979 rfl (lv_at hl 4 rfl) ?_
  refine lv_iconst (v := 0) hx hb dL_law_1980 (by decide) ?_
  refine aw_lald C0 hW dL_law_1981 ?_
  refine lv_iload hx hb dL_law_1982 (lv_at hl 0 rfl) ?_
  refine lv_i2l (v := q.1.toInt64) hx hb dL_law_1984 rfl ?_
  refine W.lcmp hx hb dL_law_1985 ?_
  refine lv_if_eq (tgt := 1991) hx hb dL_law_1986 rfl (fun _ => ?_) (fun hc => absurd (lg_same (ha h0)) hc)
  refine lv_goto (tgt := 2083) hx hb dL_law_1991 rfl ?_
  exact K H locs ls hW (lv_sub hl [2, 3, 4, 5, 6, 7] rfl)
set_option maxHeartbeats 4000000 in
set_option maxRecDepth 100000 in
theorem lc_26 {nx : Nat} {z : Int32 × Mem × Rem × Pool × Zed} {q : UInt64 × Mem} (hfl : l.stackTraces = false) (C0 : CX g p s m args meth c RL cL_law 9 ret) (hX : va_X b L xs s s.heap) (hbl : b < s.heap.size) (hg : g.2.2 = s.heap.size) (hL : L ≤ 3072) (hj : 6 * j + 6 ≤ L) (hW : Wd g I R P Z s.heap H locs) (hsz : H.size = g.2.2 + nx) (hl : lv_has ls 9 [(5, .int (nI (6 * j))), (4, .ref (g.2.2 + 84)), (3, .ref (g.2.2 + 83)), (2, .ref (g.2.2 + 70)), (1, .ref (g.2.2 + 0)), (0, .ref b)])
    (hz : f_L_share (xs (6 * j + 1)) (xs (6 * j + 2)) P R I Z nx = some z) (hq : f_X9_share (xs (6 * j + 1)) (xs (6 * j + 2)) z.2.1 = some q) (ht : q.2 70 7 = z.1) (ha : z.1 = 0 → Op.cmpValue (FP.dcmp (z.2.2.2.2.2 0) q.1) .l = 0) (hRc : cells + 3 ≤ room_1.cells) (hRs : slots + 71 ≤ room_1.slots)
    (K : ∀ (H : Heap) (locs : List Loc) (ls : Array Slot), Wd g q.2 z.2.2.1 z.2.2.2.1 z.2.2.2.2 s.heap H locs → lv_has ls 9 [(5, .int (nI (6 * j))), (4, .ref (g.2.2 + 84)), (3, .ref (g.2.2 + 83)), (2, .ref (g.2.2 + 70)), (1, .ref (g.2.2 + 0)), (0, .ref b)] → W p l e room_1 s m args below meth c H locs (cells + 3) (slots + 71) Q (F0 m 2083 ls [])) : W p l e room_1 s m args below meth c H locs cells slots Q (F0 m 1994 ls []) := by
  have hx := C0.1; have hb := C0.2.1; have hts := C0.2.2.2.2.2.1
  have hRc0 : cells + 3 ≤ room_1.cells := hRc; have hRs0 : slots + 71 ≤ room_1.slots := hRs
  refine lv_aload_n hx hb dL_law_1994 rfl (lv_at hl 4 rfl) ?_
  refine lv_aload_n hx hb dL_law_1995 rfl (lv_at hl 5 rfl) ?_
  refine lv_iload hx hb dL_law_1996 (lv_at hl 0 rfl) ?_
  refine lv_iconst (v := 1) hx hb dL_law_1998 (by decide) ?_
  refine lv_iadd hx hb dL_law_1999 ?_
  refine aw_sld C0 hX hbl hg hW (n := 6 * j + 1) (nI_add (6 * j) 1) (by omega) hL dL_law_2000 ?_
  refine lv_aload_n hx hb dL_law_2001 rfl (lv_at hl 5 rfl) ?_
  refine lv_iload hx hb dL_law_2002 (lv_at hl 0 rfl) ?_
  refine lv_iconst (v := 2) hx hb dL_law_2004 (by decide) ?_
  refine lv_iadd hx hb dL_law_2005 ?_
  refine aw_sld C0 hX hbl hg hW (n := 6 * j + 2) (nI_add (6 * j) 2) (by omega) hL dL_law_2006 ?_
  refine lv_aload hx hb dL_law_2007 (lv_at hl 1 rfl) ?_
  refine aw_LS (rest := []) C0 hW hsz (c_L_share hfl (xs (6 * j + 1)) (xs (6 * j + 2)) hz) (csw_192 hts) rfl hl.1 rfl (Nat.le_of_ble_eq_true rfl) ⟨hRc, hRs⟩ dL_law_2009 (fun H locs hW => ?_)
  refine lv_istore (lv' := [(6, .int z.1), (5, .int (nI (6 * j))), (4, .ref (g.2.2 + 84)), (3, .ref (g.2.2 + 83)), (2, .ref (g.2.2 + 70)), (1, .ref (g.2.2 + 0)), (0, .ref b)]) hx hb dL_law_2012 hl (Nat.le_of_ble_eq_true rfl) rfl (fun ls hl => ?_)
  refine lv_aload_n hx hb dL_law_2014 rfl (lv_at hl 4 rfl) ?_
  refine lv_aload_n hx hb dL_law_2015 rfl (lv_at hl 6 rfl) ?_
  refine lv_iload hx hb dL_law_2016 (lv_at hl 1 rfl) ?_
  refine lv_iconst (v := 1) hx hb dL_law_2018 (by decide) ?_
  refine lv_iadd hx hb dL_law_2019 ?_
  refine aw_sld C0 hX hbl hg hW (n := 6 * j + 1) (nI_add (6 * j) 1) (by omega) hL dL_law_2020 ?_
  refine lv_aload_n hx hb dL_law_2021 rfl (lv_at hl 6 rfl) ?_
  refine lv_iload hx hb dL_law_2022 (lv_at hl 1 rfl) ?_
  refine lv_iconst (v := 2) hx hb dL_law_2024 (by decide) ?_
  refine lv_iadd hx hb dL_law_2025 ?_
  refine aw_sld C0 hX hbl hg hW (n := 6 * j + 2) (nI_add (6 * j) 2) (by omega) hL dL_law_2026 ?_
  refine aw_cVd (rest := []) C0 hW (lv_fix (by decide)) (cel_8 kd70) rfl (c_X9_share (xs (6 * j + 1)) (xs (6 * j + 2)) hq) (cvw_195 hts) rfl hl.1 rfl (Nat.le_of_ble_eq_true rfl) ⟨hRc0, hRs0⟩ dL_law_2027 (fun H locs hW => ?_)
  refine lv_dstore (lv' := [(7, .double q.1), (6, .int z.1), (5, .int (nI (6 * j))), (4, .ref (g.2.2 + 84)), (3, .ref (g.2.2 + 83)), (2, .ref (g.2.2 + 70)), (1, .ref (g.2.2 + 0)), (0, .ref b)]) hx hb dL_law_2030 hl (Nat.le_of_ble_eq_true rfl) rfl (fun ls hl => ?_)
  refine lv_aload_n hx hb dL_law_2032 rfl (lv_at hl 5 rfl) ?_
  refine aw_cVi (rest := []) C0 hW (lv_fix (by decide)) (cel_8 kd70) rfl (c_X9_thrown rfl) (cvw_107 hts) rfl hl.1 rfl (Nat.le_of_ble_eq_true rfl) ⟨hRc0, hRs0⟩ dL_law_2033 (fun H locs hW => ?_)
  refine lv_iload hx hb dL_law_2036 (lv_at hl 1 rfl) ?_
  refine lv_icmp_eq (tgt := 2043) hx hb dL_law_2038 rfl (fun _ => ?_) (fun hc => absurd ht hc)
  refine lv_iload hx hb dL_law_2043 (lv_at hl 1 rfl) ?_
  refine lv_if_ne (tgt := 2080) hx hb dL_law_2045 rfl (fun hc => ?_) (fun hc => ?_)
  · refine lv_goto (tgt := 2083) hx hb dL_law_2080 rfl ?_
    exact K H locs ls hW (lv_sub hl [2, 3, 4, 5, 6, 7] rfl)
  have h0 : z.1 = 0 := hc
  refine lv_aload hx hb dL_law_2048 (lv_at hl 3 rfl) ?_
  refine lv_iconst (v := 0) hx hb dL_law_2050 (by decide) ?_
  refine aw_dald C0 hW dL_law_2051 ?_
  refine lv_dload hx hb dL_law_2052 (lv_at hl 0 rfl) ?_
  refine lv_dcmp hx hb dL_law_2054 ?_
  refine lv_if_eq (tgt := 2080) hx hb dL_law_2055 rfl (fun _ => ?_) (fun hc => absurd (ha h0) hc)
  refine lv_goto (tgt := 2083) hx hb dL_law_2080 rfl ?_
  exact K H locs ls hW (lv_sub hl [2, 3, 4, 5, 6, 7] rfl)
end
/-- what is wanted of add -/
def ST_add (INV : Mem → Rem → Pool → Prop) : Prop := ∀ (I : Mem) (R : Rem) (P : Pool) (Z : Zed) (nx : Nat) (x1 x2 x3 x4 x5 : Int32), INV I R P → FR P nx → FR P (nx + 1) → ∃ (z : Int32 × Mem × Rem × Pool × Zed) (q : Int32 × Mem), f_L_add x1 x2 x3 x4 x5 P R I Z nx = some z ∧ f_X9_add x1 x2 x3 x4 x5 z.2.2.2.1 z.2.1 = some q ∧ (q.2 70 7 = z.1) ∧ (z.1 = 0 → z.2.2.2.2.1 0 = q.1.toInt64) ∧ INV q.2 z.2.2.1 z.2.2.2.1
/-- what is wanted of change -/
def ST_change (INV : Mem → Rem → Pool → Prop) : Prop := ∀ (I : Mem) (R : Rem) (P : Pool) (Z : Zed) (nx : Nat) (x1 x2 x3 x4 : Int32), INV I R P → FR P nx → FR P (nx + 1) → ∃ (z : Int32 × Mem × Rem × Pool × Zed) (q : Int32 × Mem), f_L_change x1 x2 x3 x4 P R I Z nx = some z ∧ f_X9_change x1 x2 x3 x4 z.2.2.2.1 z.2.1 = some q ∧ (q.2 70 7 = z.1) ∧ (z.1 = 0 → z.2.2.2.2.1 0 = q.1.toInt64) ∧ INV q.2 z.2.2.1 z.2.2.2.1
/-- what is wanted of drop -/
def ST_drop (INV : Mem → Rem → Pool → Prop) : Prop := ∀ (I : Mem) (R : Rem) (P : Pool) (Z : Zed) (nx : Nat) (x1 x2 : Int32), INV I R P → FR P nx → FR P (nx + 1) → ∃ (z : Int32 × Mem × Rem × Pool × Zed) (q : Int32 × Mem), f_L_drop x1 x2 P R I Z nx = some z ∧ f_X9_drop x1 x2 z.2.2.2.1 z.2.1 = some q ∧ (q.2 70 7 = z.1) ∧ (z.1 = 0 → z.2.2.2.2.1 0 = q.1.toInt64) ∧ INV q.2 z.2.2.1 z.2.2.2.1
/-- what is wanted of define -/
def ST_define (INV : Mem → Rem → Pool → Prop) : Prop := ∀ (I : Mem) (R : Rem) (P : Pool) (Z : Zed) (nx : Nat) (x1 : Int32), INV I R P → FR P nx → FR P (nx + 1) → ∃ (z : Int32 × Mem × Rem × Pool × Zed) (q : Int32 × Mem), f_L_define x1 P R I Z nx = some z ∧ f_X9_define x1 z.2.2.2.1 z.2.1 = some q ∧ (q.2 70 7 = z.1) ∧ (z.1 = 0 → z.2.2.2.2.1 0 = q.1.toInt64) ∧ INV q.2 z.2.2.1 z.2.2.2.1
/-- what is wanted of combine -/
def ST_combine (INV : Mem → Rem → Pool → Prop) : Prop := ∀ (I : Mem) (R : Rem) (P : Pool) (Z : Zed) (nx : Nat) (x1 x2 x3 x4 : Int32), INV I R P → FR P nx → FR P (nx + 1) → ∃ (z : Int32 × Mem × Rem × Pool × Zed) (q : Int32 × Mem), f_L_combine x1 x2 x3 x4 P R I Z nx = some z ∧ f_X9_combine x1 x2 x3 x4 z.2.2.2.1 z.2.1 = some q ∧ (q.2 70 7 = z.1) ∧ (z.1 = 0 → z.2.2.2.2.1 0 = q.1.toInt64) ∧ INV q.2 z.2.2.1 z.2.2.2.1
/-- what is wanted of check -/
def ST_check (INV : Mem → Rem → Pool → Prop) : Prop := ∀ (I : Mem) (R : Rem) (P : Pool) (Z : Zed) (nx : Nat) (x1 x2 : Int32), INV I R P → FR P nx → FR P (nx + 1) → ∃ (z : Int32 × Mem × Rem × Pool × Zed) (q : Int32 × Mem), f_L_check x1 x2 P R I Z nx = some z ∧ f_X9_check x1 x2 z.2.2.2.1 z.2.1 = some q ∧ (q.2 70 7 = z.1) ∧ (z.1 = 0 → z.2.2.2.2.1 0 = q.1.toInt64) ∧ INV q.2 z.2.2.1 z.2.2.2.1
/-- what is wanted of remove -/
def ST_remove (INV : Mem → Rem → Pool → Prop) : Prop := ∀ (I : Mem) (R : Rem) (P : Pool) (Z : Zed) (nx : Nat) (x1 x2 : Int32), INV I R P → FR P nx → FR P (nx + 1) → ∃ (z : Int32 × Mem × Rem × Pool × Zed) (q : Int32 × Mem), f_L_remove x1 x2 P R I Z nx = some z ∧ f_X9_remove x1 x2 z.2.2.2.1 z.2.1 = some q ∧ (q.2 70 7 = z.1) ∧ (z.1 = 0 → z.2.2.2.2.1 0 = q.1.toInt64) ∧ INV q.2 z.2.2.1 z.2.2.2.1
/-- what is wanted of update -/
def ST_update (INV : Mem → Rem → Pool → Prop) : Prop := ∀ (I : Mem) (R : Rem) (P : Pool) (Z : Zed) (nx : Nat) (x1 x2 x3 x4 : Int32), INV I R P → FR P nx → FR P (nx + 1) → ∃ (z : Int32 × Mem × Rem × Pool × Zed) (q : Int32 × Mem), f_L_update x1 x2 x3 x4 P R I Z nx = some z ∧ f_X9_update x1 x2 x3 x4 z.2.2.2.1 z.2.1 = some q ∧ (q.2 70 7 = z.1) ∧ (z.1 = 0 → z.2.2.2.2.1 0 = q.1.toInt64) ∧ INV q.2 z.2.2.1 z.2.2.2.1
/-- what is wanted of append -/
def ST_append (INV : Mem → Rem → Pool → Prop) : Prop := ∀ (I : Mem) (R : Rem) (P : Pool) (Z : Zed) (nx : Nat) (x1 : Int32), INV I R P → FR P nx → FR P (nx + 1) → ∃ (z : Int32 × Mem × Rem × Pool × Zed) (q : Int32 × Mem), f_L_append x1 P R I Z nx = some z ∧ f_X9_append x1 z.2.1 = some q ∧ (q.2 70 7 = z.1) ∧ (z.1 = 0 → z.2.2.2.2.1 0 = q.1.toInt64) ∧ INV q.2 z.2.2.1 z.2.2.2.1
/-- what is wanted of clearBuffer -/
def ST_clearBuffer (INV : Mem → Rem → Pool → Prop) : Prop := ∀ (I : Mem) (R : Rem) (P : Pool) (Z : Zed) (nx : Nat), INV I R P → FR P nx → FR P (nx + 1) → ∃ (z : Int32 × Mem) (q : Int32 × Mem), f_X8_clearBuffer I = some z ∧ f_X9_clearBuffer z.2 = some q ∧ (z.1 = q.1) ∧ INV q.2 R P
/-- what is wanted of firstError -/
def ST_firstError (INV : Mem → Rem → Pool → Prop) : Prop := ∀ (I : Mem) (R : Rem) (P : Pool) (Z : Zed) (nx : Nat), INV I R P → FR P nx → FR P (nx + 1) → ∃ (z : Int32 × Mem) (q : Int32 × Mem), f_X8_firstError P I = some z ∧ f_X9_firstError z.2 = some q ∧ (z.1 = q.1) ∧ INV q.2 R P
/-- what is wanted of undo -/
def ST_undo (INV : Mem → Rem → Pool → Prop) : Prop := ∀ (I : Mem) (R : Rem) (P : Pool) (Z : Zed) (nx : Nat), INV I R P → FR P nx → FR P (nx + 1) → ∃ (z : Int32 × Mem × Rem × Pool × Zed) (q : Int32 × Mem), f_L_undo  P R I Z nx = some z ∧ f_X9_undo z.2.2.2.1 z.2.1 = some q ∧ (q.2 70 7 = z.1) ∧ (z.1 = 0 → z.2.2.2.2.1 0 = q.1.toInt64) ∧ INV q.2 z.2.2.1 z.2.2.2.1
/-- what is wanted of keep -/
def ST_keep (INV : Mem → Rem → Pool → Prop) : Prop := ∀ (I : Mem) (R : Rem) (P : Pool) (Z : Zed) (nx : Nat) (x1 : Int32), INV I R P → FR P nx → FR P (nx + 1) → ∃ (z : Int32 × Mem × Rem × Pool × Zed) (q : Int32 × Mem), f_L_keep x1 P R I Z nx = some z ∧ f_X9_keep x1 z.2.2.2.1 z.2.1 = some q ∧ (q.2 70 7 = z.1) ∧ (z.1 = 0 → z.2.2.2.2.1 0 = q.1.toInt64) ∧ INV q.2 z.2.2.1 z.2.2.2.1
/-- what is wanted of goBack -/
def ST_goBack (INV : Mem → Rem → Pool → Prop) : Prop := ∀ (I : Mem) (R : Rem) (P : Pool) (Z : Zed) (nx : Nat) (x1 : Int32), INV I R P → FR P nx → FR P (nx + 1) → ∃ (z : Int32 × Mem × Rem × Pool × Zed) (q : Int32 × Mem), f_L_goBack x1 P R I Z nx = some z ∧ f_X9_goBack x1 z.2.2.2.1 z.2.1 = some q ∧ (q.2 70 7 = z.1) ∧ (z.1 = 0 → z.2.2.2.2.1 0 = q.1.toInt64) ∧ INV q.2 z.2.2.1 z.2.2.2.1
/-- what is wanted of cell -/
def ST_cell (INV : Mem → Rem → Pool → Prop) : Prop := ∀ (I : Mem) (R : Rem) (P : Pool) (Z : Zed) (nx : Nat) (x1 x2 x3 : Int32), INV I R P → FR P nx → FR P (nx + 1) → ∃ (z : Int32 × Mem × Rem × Pool × Zed) (q : Int32 × Mem), f_L_cell x1 x2 x3 P R I Z nx = some z ∧ f_X9_cell x1 x2 x3 z.2.1 = some q ∧ (q.2 70 7 = z.1) ∧ (z.1 = 0 → z.2.2.2.2.1 0 = q.1.toInt64) ∧ INV q.2 z.2.2.1 z.2.2.2.1
/-- what is wanted of column -/
def ST_column (INV : Mem → Rem → Pool → Prop) : Prop := ∀ (I : Mem) (R : Rem) (P : Pool) (Z : Zed) (nx : Nat) (x1 x2 x3 : Int32), INV I R P → FR P nx → FR P (nx + 1) → ∃ (z : Int32 × Mem × Rem × Pool × Zed) (q : Int32 × Mem), f_L_column x1 x2 x3 P R I Z nx = some z ∧ f_X9_column x1 x2 x3 z.2.1 = some q ∧ (q.2 70 7 = z.1) ∧ (z.1 = 0 → z.2.2.2.2.1 0 = q.1.toInt64) ∧ INV q.2 z.2.2.1 z.2.2.2.1
/-- what is wanted of group -/
def ST_group (INV : Mem → Rem → Pool → Prop) : Prop := ∀ (I : Mem) (R : Rem) (P : Pool) (Z : Zed) (nx : Nat) (x1 x2 x3 x4 : Int32), INV I R P → FR P nx → FR P (nx + 1) → ∃ (z : Int32 × Mem × Rem × Pool × Zed) (q : Int32 × Mem), f_L_group x1 x2 x3 x4 P R I Z nx = some z ∧ f_X9_group x1 x2 x3 x4 z.2.1 = some q ∧ (q.2 70 7 = z.1) ∧ (z.1 = 0 → z.2.2.2.2.1 0 = q.1.toInt64) ∧ INV q.2 z.2.2.1 z.2.2.2.1
/-- what is wanted of truth -/
def ST_truth (INV : Mem → Rem → Pool → Prop) : Prop := ∀ (I : Mem) (R : Rem) (P : Pool) (Z : Zed) (nx : Nat) (x1 x2 x3 : Int32), INV I R P → FR P nx → FR P (nx + 1) → ∃ (z : Int32 × Mem × Rem × Pool × Zed) (q : Int32 × Mem), f_L_truth x1 x2 x3 P R I Z nx = some z ∧ f_X9_truth x1 x2 x3 z.2.1 = some q ∧ (q.2 70 7 = z.1) ∧ (z.1 = 0 → z.2.2.2.2.1 0 = q.1.toInt64) ∧ INV q.2 z.2.2.1 z.2.2.2.1
/-- what is wanted of rows -/
def ST_rows (INV : Mem → Rem → Pool → Prop) : Prop := ∀ (I : Mem) (R : Rem) (P : Pool) (Z : Zed) (nx : Nat) (x1 x2 x3 x4 : Int32), INV I R P → FR P nx → FR P (nx + 1) → ∃ (z : Int32 × Mem × Rem × Pool × Zed) (q : Int32 × Mem), f_L_rows x1 x2 x3 x4 P R I Z nx = some z ∧ f_X9_rows x1 x2 x3 x4 z.2.1 = some q ∧ (q.2 70 7 = z.1) ∧ (z.1 = 0 → z.2.2.2.2.1 0 = q.1.toInt64) ∧ INV q.2 z.2.2.1 z.2.2.2.1
/-- what is wanted of filter -/
def ST_filter (INV : Mem → Rem → Pool → Prop) : Prop := ∀ (I : Mem) (R : Rem) (P : Pool) (Z : Zed) (nx : Nat) (x1 x2 : Int32), INV I R P → FR P nx → FR P (nx + 1) → ∃ (z : Int32 × Mem × Rem × Pool × Zed) (q : Int32 × Mem), f_L_filter x1 x2 P R I Z nx = some z ∧ f_X9_filter x1 x2 z.2.1 = some q ∧ (q.2 70 7 = z.1) ∧ (z.1 = 0 → z.2.2.2.2.1 0 = q.1.toInt64) ∧ INV q.2 z.2.2.1 z.2.2.2.1
/-- what is wanted of letter -/
def ST_letter (INV : Mem → Rem → Pool → Prop) : Prop := ∀ (I : Mem) (R : Rem) (P : Pool) (Z : Zed) (nx : Nat) (x1 x2 : Int32), INV I R P → FR P nx → FR P (nx + 1) → ∃ (z : Int32 × Mem × Rem × Pool × Zed) (q : Int32 × Mem), f_L_letter x1 x2 P R I Z nx = some z ∧ f_X9_letter x1 x2 z.2.1 = some q ∧ (q.2 70 7 = z.1) ∧ (z.1 = 0 → z.2.2.2.2.1 0 = q.1.toInt64) ∧ INV q.2 z.2.2.1 z.2.2.2.1
/-- what is wanted of compare -/
def ST_compare (INV : Mem → Rem → Pool → Prop) : Prop := ∀ (I : Mem) (R : Rem) (P : Pool) (Z : Zed) (nx : Nat) (x1 x2 x3 x4 : Int32), INV I R P → FR P nx → FR P (nx + 1) → ∃ (z : Int32 × Mem × Rem × Pool × Zed) (q : Int32 × Mem), f_L_compare x1 x2 x3 x4 P R I Z nx = some z ∧ f_X9_compare x1 x2 x3 x4 z.2.1 = some q ∧ (q.2 70 7 = z.1) ∧ (z.1 = 0 → z.2.2.2.2.1 0 = q.1.toInt64) ∧ INV q.2 z.2.2.1 z.2.2.2.1
/-- what is wanted of certain -/
def ST_certain (INV : Mem → Rem → Pool → Prop) : Prop := ∀ (I : Mem) (R : Rem) (P : Pool) (Z : Zed) (nx : Nat) (x1 x2 x3 : Int32), INV I R P → FR P nx → FR P (nx + 1) → ∃ (z : Int32 × Mem × Rem × Pool × Zed) (q : Int32 × Mem), f_L_certain x1 x2 x3 P R I Z nx = some z ∧ f_X9_certain x1 x2 x3 z.2.1 = some q ∧ (q.2 70 7 = z.1) ∧ (z.1 = 0 → z.2.2.2.2.1 0 = q.1.toInt64) ∧ INV q.2 z.2.2.1 z.2.2.2.1
/-- what is wanted of join -/
def ST_join (INV : Mem → Rem → Pool → Prop) : Prop := ∀ (I : Mem) (R : Rem) (P : Pool) (Z : Zed) (nx : Nat) (x1 x2 x3 : Int32), INV I R P → FR P nx → FR P (nx + 1) → ∃ (z : Int32 × Mem × Rem × Pool × Zed) (q : Int32 × Mem), f_L_join x1 x2 x3 P R I Z nx = some z ∧ f_X9_join x1 x2 x3 z.2.1 = some q ∧ (q.2 70 7 = z.1) ∧ (z.1 = 0 → z.2.2.2.2.1 0 = q.1.toInt64) ∧ INV q.2 z.2.2.1 z.2.2.2.1
/-- what is wanted of among -/
def ST_among (INV : Mem → Rem → Pool → Prop) : Prop := ∀ (I : Mem) (R : Rem) (P : Pool) (Z : Zed) (nx : Nat) (x1 x2 x3 : Int32), INV I R P → FR P nx → FR P (nx + 1) → ∃ (z : Int32 × Mem × Rem × Pool × Zed) (q : Int32 × Mem), f_L_among x1 x2 x3 P R I Z nx = some z ∧ f_X9_among x1 x2 x3 z.2.1 = some q ∧ (q.2 70 7 = z.1) ∧ (z.1 = 0 → z.2.2.2.2.1 0 = q.1.toInt64) ∧ INV q.2 z.2.2.1 z.2.2.2.1
/-- what is wanted of count -/
def ST_count (INV : Mem → Rem → Pool → Prop) : Prop := ∀ (I : Mem) (R : Rem) (P : Pool) (Z : Zed) (nx : Nat) (x1 : Int32), INV I R P → FR P nx → FR P (nx + 1) → ∃ (z : Int32 × Mem × Rem × Pool × Zed) (q : Int32 × Mem), f_L_count x1 P R I Z nx = some z ∧ f_X9_count x1 z.2.1 = some q ∧ (q.2 70 7 = z.1) ∧ (z.1 = 0 → z.2.2.2.2.1 0 = q.1.toInt64) ∧ INV q.2 z.2.2.1 z.2.2.2.1
/-- what is wanted of share -/
def ST_share (INV : Mem → Rem → Pool → Prop) : Prop := ∀ (I : Mem) (R : Rem) (P : Pool) (Z : Zed) (nx : Nat) (x1 x2 : Int32), INV I R P → FR P nx → FR P (nx + 1) → ∃ (z : Int32 × Mem × Rem × Pool × Zed) (q : UInt64 × Mem), f_L_share x1 x2 P R I Z nx = some z ∧ f_X9_share x1 x2 z.2.1 = some q ∧ (q.2 70 7 = z.1) ∧ (z.1 = 0 → Op.cmpValue (FP.dcmp (z.2.2.2.2.2 0) q.1) .l = 0) ∧ INV q.2 z.2.2.1 z.2.2.2.1
def STALL (INV : Mem → Rem → Pool → Prop) : Prop := ST_add INV ∧ ST_change INV ∧ ST_drop INV ∧ ST_define INV ∧ ST_combine INV ∧ ST_check INV ∧ ST_remove INV ∧ ST_update INV ∧ ST_append INV ∧ ST_clearBuffer INV ∧ ST_firstError INV ∧ ST_undo INV ∧ ST_keep INV ∧ ST_goBack INV ∧ ST_cell INV ∧ ST_column INV ∧ ST_group INV ∧ ST_truth INV ∧ ST_rows INV ∧ ST_filter INV ∧ ST_letter INV ∧ ST_compare INV ∧ ST_certain INV ∧ ST_join INV ∧ ST_among INV ∧ ST_count INV ∧ ST_share INV
end LWB
