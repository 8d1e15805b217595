/-! A NEW OBJECT OF THE CLASS, out of the law. -/
section NWL
def P0 : Pool := (fun _ => 99, fun _ => 0, [])
def I0 : Mem := fun a => if a = 19 then (fun k => if k = 5 then 61 else 0) else (fun _ => 0)
def R0 : Rem := fun a => if a = 6 then (fun k => if k < 6 then some (30 + 5 * k) else none) else if a = 7 then (fun k => if k < 2 then some (60 + 5 * k) else none) else (fun _ => none)
def Z0 : Zed := fun _ => 0
def e00 : Nat → va_E := fun _ => .inr (99, [])
def e70 (g : Gam) : Nat → va_E := eX8 g (va_up e00 0 (.inr (7, [.null, .null, .int 0, .null, .null, .null, .int 0, .null, .null, .null, .null, .null]))) 0
set_option maxRecDepth 100000 in
theorem e70_0 (g : Gam) : e70 g 0 = cel g I0 R0 P0 Z0 0 := by
  rw [cel_7 kd0]
  rfl
set_option maxRecDepth 100000 in
theorem e70_1 (g : Gam) : e70 g 1 = cel g I0 R0 P0 Z0 1 := by
  rw [cel_6 kd1]
  rfl
set_option maxRecDepth 100000 in
theorem e70_2 (g : Gam) : e70 g 2 = cel g I0 R0 P0 Z0 2 := by
  rw [cel_10 kd2, ln2]
  rfl
set_option maxRecDepth 100000 in
theorem e70_3 (g : Gam) : e70 g 3 = cel g I0 R0 P0 Z0 3 := by
  rw [cel_10 kd3, ln3]
  rfl
set_option maxRecDepth 100000 in
theorem e70_4 (g : Gam) : e70 g 4 = cel g I0 R0 P0 Z0 4 := by
  rw [cel_12 kd4, ln4]
  rfl
set_option maxRecDepth 100000 in
theorem e70_5 (g : Gam) : e70 g 5 = cel g I0 R0 P0 Z0 5 := by
  rw [cel_12 kd5, ln5]
  rfl
set_option maxRecDepth 100000 in
theorem e70_6 (g : Gam) : e70 g 6 = cel g I0 R0 P0 Z0 6 := by
  rw [cel_13 kd6, ln6]
  refine congrArg (fun f => (Sum.inl (g.2.1 13, 6, .inr (.inr (.inr (.inr f)))) : va_E)) (funext fun t => ?_)
  rcases (show t = 0 ∨ t = 1 ∨ t = 2 ∨ t = 3 ∨ t = 4 ∨ t = 5 ∨ 6 ≤ t by omega) with rfl | rfl | rfl | rfl | rfl | rfl | h
  all_goals first | rfl | simp [va_up, R0, show ¬ t < 6 by omega, show t ≠ 0 by omega, show t ≠ 1 by omega, show t ≠ 2 by omega, show t ≠ 3 by omega, show t ≠ 4 by omega, show t ≠ 5 by omega]
set_option maxRecDepth 100000 in
theorem e70_7 (g : Gam) : e70 g 7 = cel g I0 R0 P0 Z0 7 := by
  rw [cel_13 kd7, ln7]
  refine congrArg (fun f => (Sum.inl (g.2.1 13, 2, .inr (.inr (.inr (.inr f)))) : va_E)) (funext fun t => ?_)
  rcases (show t = 0 ∨ t = 1 ∨ 2 ≤ t by omega) with rfl | rfl | h
  all_goals first | rfl | simp [va_up, R0, show ¬ t < 2 by omega, show t ≠ 0 by omega, show t ≠ 1 by omega]
set_option maxRecDepth 100000 in
theorem e70_8 (g : Gam) : e70 g 8 = cel g I0 R0 P0 Z0 8 := by
  rw [cel_11 kd8, ln8]
  rfl
set_option maxRecDepth 100000 in
theorem e70_9 (g : Gam) : e70 g 9 = cel g I0 R0 P0 Z0 9 := by
  rw [cel_9 kd9, ln9]
  rfl
set_option maxRecDepth 100000 in
theorem e70_10 (g : Gam) : e70 g 10 = cel g I0 R0 P0 Z0 10 := by
  rw [cel_10 kd10, ln10]
  rfl
set_option maxRecDepth 100000 in
theorem e70_11 (g : Gam) : e70 g 11 = cel g I0 R0 P0 Z0 11 := by
  rw [cel_1 kd11]
  rfl
set_option maxRecDepth 100000 in
theorem e70_12 (g : Gam) : e70 g 12 = cel g I0 R0 P0 Z0 12 := by
  rw [cel_3 kd12]
  rfl
set_option maxRecDepth 100000 in
theorem e70_13 (g : Gam) : e70 g 13 = cel g I0 R0 P0 Z0 13 := by
  rw [cel_10 kd13, ln13]
  rfl
set_option maxRecDepth 100000 in
theorem e70_14 (g : Gam) : e70 g 14 = cel g I0 R0 P0 Z0 14 := by
  rw [cel_3 kd14]
  rfl
set_option maxRecDepth 100000 in
theorem e70_15 (g : Gam) : e70 g 15 = cel g I0 R0 P0 Z0 15 := by
  rw [cel_10 kd15, ln15]
  rfl
set_option maxRecDepth 100000 in
theorem e70_16 (g : Gam) : e70 g 16 = cel g I0 R0 P0 Z0 16 := by
  rw [cel_0 kd16]
  rfl
set_option maxRecDepth 100000 in
theorem e70_17 (g : Gam) : e70 g 17 = cel g I0 R0 P0 Z0 17 := by
  rw [cel_11 kd17, ln17]
  rfl
set_option maxRecDepth 100000 in
theorem e70_18 (g : Gam) : e70 g 18 = cel g I0 R0 P0 Z0 18 := by
  rw [cel_10 kd18, ln18]
  rfl
set_option maxRecDepth 100000 in
theorem e70_19 (g : Gam) : e70 g 19 = cel g I0 R0 P0 Z0 19 := by
  rw [cel_4 kd19]
  rfl
set_option maxRecDepth 100000 in
theorem e70_20 (g : Gam) : e70 g 20 = cel g I0 R0 P0 Z0 20 := by
  rw [cel_3 kd20]
  rfl
set_option maxRecDepth 100000 in
theorem e70_21 (g : Gam) : e70 g 21 = cel g I0 R0 P0 Z0 21 := by
  rw [cel_10 kd21, ln21]
  rfl
set_option maxRecDepth 100000 in
theorem e70_22 (g : Gam) : e70 g 22 = cel g I0 R0 P0 Z0 22 := by
  rw [cel_3 kd22]
  rfl
set_option maxRecDepth 100000 in
theorem e70_23 (g : Gam) : e70 g 23 = cel g I0 R0 P0 Z0 23 := by
  rw [cel_10 kd23, ln23]
  rfl
set_option maxRecDepth 100000 in
theorem e70_24 (g : Gam) : e70 g 24 = cel g I0 R0 P0 Z0 24 := by
  rw [cel_5 kd24]
  rfl
set_option maxRecDepth 100000 in
theorem e70_25 (g : Gam) : e70 g 25 = cel g I0 R0 P0 Z0 25 := by
  rw [cel_9 kd25, ln25]
  rfl
set_option maxRecDepth 100000 in
theorem e70_26 (g : Gam) : e70 g 26 = cel g I0 R0 P0 Z0 26 := by
  rw [cel_3 kd26]
  rfl
set_option maxRecDepth 100000 in
theorem e70_27 (g : Gam) : e70 g 27 = cel g I0 R0 P0 Z0 27 := by
  rw [cel_10 kd27, ln27]
  rfl
set_option maxRecDepth 100000 in
theorem e70_28 (g : Gam) : e70 g 28 = cel g I0 R0 P0 Z0 28 := by
  rw [cel_3 kd28]
  rfl
set_option maxRecDepth 100000 in
theorem e70_29 (g : Gam) : e70 g 29 = cel g I0 R0 P0 Z0 29 := by
  rw [cel_10 kd29, ln29]
  rfl
set_option maxRecDepth 100000 in
theorem e70_30 (g : Gam) : e70 g 30 = cel g I0 R0 P0 Z0 30 := by
  rw [cel_6 kd30]
  rfl
set_option maxRecDepth 100000 in
theorem e70_31 (g : Gam) : e70 g 31 = cel g I0 R0 P0 Z0 31 := by
  rw [cel_10 kd31, ln31]
  rfl
set_option maxRecDepth 100000 in
theorem e70_32 (g : Gam) : e70 g 32 = cel g I0 R0 P0 Z0 32 := by
  rw [cel_10 kd32, ln32]
  rfl
set_option maxRecDepth 100000 in
theorem e70_33 (g : Gam) : e70 g 33 = cel g I0 R0 P0 Z0 33 := by
  rw [cel_12 kd33, ln33]
  rfl
set_option maxRecDepth 100000 in
theorem e70_34 (g : Gam) : e70 g 34 = cel g I0 R0 P0 Z0 34 := by
  rw [cel_12 kd34, ln34]
  rfl
set_option maxRecDepth 100000 in
theorem e70_35 (g : Gam) : e70 g 35 = cel g I0 R0 P0 Z0 35 := by
  rw [cel_6 kd35]
  rfl
set_option maxRecDepth 100000 in
theorem e70_36 (g : Gam) : e70 g 36 = cel g I0 R0 P0 Z0 36 := by
  rw [cel_10 kd36, ln36]
  rfl
set_option maxRecDepth 100000 in
theorem e70_37 (g : Gam) : e70 g 37 = cel g I0 R0 P0 Z0 37 := by
  rw [cel_10 kd37, ln37]
  rfl
set_option maxRecDepth 100000 in
theorem e70_38 (g : Gam) : e70 g 38 = cel g I0 R0 P0 Z0 38 := by
  rw [cel_12 kd38, ln38]
  rfl
set_option maxRecDepth 100000 in
theorem e70_39 (g : Gam) : e70 g 39 = cel g I0 R0 P0 Z0 39 := by
  rw [cel_12 kd39, ln39]
  rfl
set_option maxRecDepth 100000 in
theorem e70_40 (g : Gam) : e70 g 40 = cel g I0 R0 P0 Z0 40 := by
  rw [cel_6 kd40]
  rfl
set_option maxRecDepth 100000 in
theorem e70_41 (g : Gam) : e70 g 41 = cel g I0 R0 P0 Z0 41 := by
  rw [cel_10 kd41, ln41]
  rfl
set_option maxRecDepth 100000 in
theorem e70_42 (g : Gam) : e70 g 42 = cel g I0 R0 P0 Z0 42 := by
  rw [cel_10 kd42, ln42]
  rfl
set_option maxRecDepth 100000 in
theorem e70_43 (g : Gam) : e70 g 43 = cel g I0 R0 P0 Z0 43 := by
  rw [cel_12 kd43, ln43]
  rfl
set_option maxRecDepth 100000 in
theorem e70_44 (g : Gam) : e70 g 44 = cel g I0 R0 P0 Z0 44 := by
  rw [cel_12 kd44, ln44]
  rfl
set_option maxRecDepth 100000 in
theorem e70_45 (g : Gam) : e70 g 45 = cel g I0 R0 P0 Z0 45 := by
  rw [cel_6 kd45]
  rfl
set_option maxRecDepth 100000 in
theorem e70_46 (g : Gam) : e70 g 46 = cel g I0 R0 P0 Z0 46 := by
  rw [cel_10 kd46, ln46]
  rfl
set_option maxRecDepth 100000 in
theorem e70_47 (g : Gam) : e70 g 47 = cel g I0 R0 P0 Z0 47 := by
  rw [cel_10 kd47, ln47]
  rfl
set_option maxRecDepth 100000 in
theorem e70_48 (g : Gam) : e70 g 48 = cel g I0 R0 P0 Z0 48 := by
  rw [cel_12 kd48, ln48]
  rfl
set_option maxRecDepth 100000 in
theorem e70_49 (g : Gam) : e70 g 49 = cel g I0 R0 P0 Z0 49 := by
  rw [cel_12 kd49, ln49]
  rfl
set_option maxRecDepth 100000 in
theorem e70_50 (g : Gam) : e70 g 50 = cel g I0 R0 P0 Z0 50 := by
  rw [cel_6 kd50]
  rfl
set_option maxRecDepth 100000 in
theorem e70_51 (g : Gam) : e70 g 51 = cel g I0 R0 P0 Z0 51 := by
  rw [cel_10 kd51, ln51]
  rfl
set_option maxRecDepth 100000 in
theorem e70_52 (g : Gam) : e70 g 52 = cel g I0 R0 P0 Z0 52 := by
  rw [cel_10 kd52, ln52]
  rfl
set_option maxRecDepth 100000 in
theorem e70_53 (g : Gam) : e70 g 53 = cel g I0 R0 P0 Z0 53 := by
  rw [cel_12 kd53, ln53]
  rfl
set_option maxRecDepth 100000 in
theorem e70_54 (g : Gam) : e70 g 54 = cel g I0 R0 P0 Z0 54 := by
  rw [cel_12 kd54, ln54]
  rfl
set_option maxRecDepth 100000 in
theorem e70_55 (g : Gam) : e70 g 55 = cel g I0 R0 P0 Z0 55 := by
  rw [cel_6 kd55]
  rfl
set_option maxRecDepth 100000 in
theorem e70_56 (g : Gam) : e70 g 56 = cel g I0 R0 P0 Z0 56 := by
  rw [cel_10 kd56, ln56]
  rfl
set_option maxRecDepth 100000 in
theorem e70_57 (g : Gam) : e70 g 57 = cel g I0 R0 P0 Z0 57 := by
  rw [cel_10 kd57, ln57]
  rfl
set_option maxRecDepth 100000 in
theorem e70_58 (g : Gam) : e70 g 58 = cel g I0 R0 P0 Z0 58 := by
  rw [cel_12 kd58, ln58]
  rfl
set_option maxRecDepth 100000 in
theorem e70_59 (g : Gam) : e70 g 59 = cel g I0 R0 P0 Z0 59 := by
  rw [cel_12 kd59, ln59]
  rfl
set_option maxRecDepth 100000 in
theorem e70_60 (g : Gam) : e70 g 60 = cel g I0 R0 P0 Z0 60 := by
  rw [cel_6 kd60]
  rfl
set_option maxRecDepth 100000 in
theorem e70_61 (g : Gam) : e70 g 61 = cel g I0 R0 P0 Z0 61 := by
  rw [cel_10 kd61, ln61]
  rfl
set_option maxRecDepth 100000 in
theorem e70_62 (g : Gam) : e70 g 62 = cel g I0 R0 P0 Z0 62 := by
  rw [cel_10 kd62, ln62]
  rfl
set_option maxRecDepth 100000 in
theorem e70_63 (g : Gam) : e70 g 63 = cel g I0 R0 P0 Z0 63 := by
  rw [cel_12 kd63, ln63]
  rfl
set_option maxRecDepth 100000 in
theorem e70_64 (g : Gam) : e70 g 64 = cel g I0 R0 P0 Z0 64 := by
  rw [cel_12 kd64, ln64]
  rfl
set_option maxRecDepth 100000 in
theorem e70_65 (g : Gam) : e70 g 65 = cel g I0 R0 P0 Z0 65 := by
  rw [cel_6 kd65]
  rfl
set_option maxRecDepth 100000 in
theorem e70_66 (g : Gam) : e70 g 66 = cel g I0 R0 P0 Z0 66 := by
  rw [cel_10 kd66, ln66]
  rfl
set_option maxRecDepth 100000 in
theorem e70_67 (g : Gam) : e70 g 67 = cel g I0 R0 P0 Z0 67 := by
  rw [cel_10 kd67, ln67]
  rfl
set_option maxRecDepth 100000 in
theorem e70_68 (g : Gam) : e70 g 68 = cel g I0 R0 P0 Z0 68 := by
  rw [cel_12 kd68, ln68]
  rfl
set_option maxRecDepth 100000 in
theorem e70_69 (g : Gam) : e70 g 69 = cel g I0 R0 P0 Z0 69 := by
  rw [cel_12 kd69, ln69]
  rfl
theorem e70_all (g : Gam) : ∀ k, k < 70 → e70 g k = cel g I0 R0 P0 Z0 k
  | 0, _ => e70_0 g
  | 1, _ => e70_1 g
  | 2, _ => e70_2 g
  | 3, _ => e70_3 g
  | 4, _ => e70_4 g
  | 5, _ => e70_5 g
  | 6, _ => e70_6 g
  | 7, _ => e70_7 g
  | 8, _ => e70_8 g
  | 9, _ => e70_9 g
  | 10, _ => e70_10 g
  | 11, _ => e70_11 g
  | 12, _ => e70_12 g
  | 13, _ => e70_13 g
  | 14, _ => e70_14 g
  | 15, _ => e70_15 g
  | 16, _ => e70_16 g
  | 17, _ => e70_17 g
  | 18, _ => e70_18 g
  | 19, _ => e70_19 g
  | 20, _ => e70_20 g
  | 21, _ => e70_21 g
  | 22, _ => e70_22 g
  | 23, _ => e70_23 g
  | 24, _ => e70_24 g
  | 25, _ => e70_25 g
  | 26, _ => e70_26 g
  | 27, _ => e70_27 g
  | 28, _ => e70_28 g
  | 29, _ => e70_29 g
  | 30, _ => e70_30 g
  | 31, _ => e70_31 g
  | 32, _ => e70_32 g
  | 33, _ => e70_33 g
  | 34, _ => e70_34 g
  | 35, _ => e70_35 g
  | 36, _ => e70_36 g
  | 37, _ => e70_37 g
  | 38, _ => e70_38 g
  | 39, _ => e70_39 g
  | 40, _ => e70_40 g
  | 41, _ => e70_41 g
  | 42, _ => e70_42 g
  | 43, _ => e70_43 g
  | 44, _ => e70_44 g
  | 45, _ => e70_45 g
  | 46, _ => e70_46 g
  | 47, _ => e70_47 g
  | 48, _ => e70_48 g
  | 49, _ => e70_49 g
  | 50, _ => e70_50 g
  | 51, _ => e70_51 g
  | 52, _ => e70_52 g
  | 53, _ => e70_53 g
  | 54, _ => e70_54 g
  | 55, _ => e70_55 g
  | 56, _ => e70_56 g
  | 57, _ => e70_57 g
  | 58, _ => e70_58 g
  | 59, _ => e70_59 g
  | 60, _ => e70_60 g
  | 61, _ => e70_61 g
  | 62, _ => e70_62 g
  | 63, _ => e70_63 g
  | 64, _ => e70_64 g
  | 65, _ => e70_65 g
  | 66, _ => e70_66 g
  | 67, _ => e70_67 g
  | 68, _ => e70_68 g
  | 69, _ => e70_69 g
  | k + 70, h => absurd h (by omega)
theorem e70_ws (g : Gam) : wsE g (e70 g) 70 = ws g I0 R0 P0 Z0 := by
  unfold wsE ws va_pl
  rw [show LV P0 = List.range 70 from List.append_nil _]
  refine List.map_congr_left fun a ha => ?_
  obtain ⟨i, hi, rfl⟩ := List.mem_map.mp ha
  have h3 : g.2.2.1 + i - g.2.2.1 = i := by omega
  dsimp only
  rw [h3, e70_all g i (List.mem_range.mp hi)]
theorem sh_P0 : Sh P0 := fun k hk => ⟨Or.inl rfl, fun h => absurd rfl h⟩
def abs0 : Abs := (fun _ => 0, fun _ _ _ => 0, fun _ => [], 0)
def gst0 : Gst := (abs0, [], fun _ => none, [])
theorem ci_0 : CI I0 R0 P0 gst0 ∧ GOk gst0 := by
  have i0 : ∀ a, a ≠ 19 → ∀ k, I0 a k = 0 := fun a ha k => by unfold I0; rw [if_neg ha]
  have r6 : ∀ k, k < 6 → R0 6 k = some (30 + 5 * k) := fun k hk => by unfold R0; rw [if_pos rfl, if_pos hk]
  have r7 : ∀ k, k < 2 → R0 7 k = some (60 + 5 * k) := fun k hk => by unfold R0; rw [if_neg (by decide), if_pos rfl, if_pos hk]
  have rn : ∀ a k, a ≠ 6 → a ≠ 7 → R0 a k = none := fun a k h6 h7 => by unfold R0; rw [if_neg h6, if_neg h7]
  refine ⟨⟨⟨fun t ht => i0 _ (by decide) _, fun t r c ht hr => absurd hr (Nat.not_lt_zero _), fun s hs => ?_, fun t ht => ?_, i0 _ (by decide) _⟩, ⟨i0 _ (by decide) _, Nat.zero_le _, fun j => j, fun j hj => ⟨hj, r6 j hj⟩, fun i j _ _ h => h, fun j A hj => absurd hj (by simp [gst0])⟩, fun j hj => ⟨r7 j hj, i0 _ (by decide) _⟩, i0 _ (by decide) _, Nat.zero_le _, fun j x hj => absurd hj (by simp [gst0])⟩, ⟨fun t ht => Nat.zero_le _, fun t r c ht hr => absurd hr (Nat.not_lt_zero _), fun s hs => Or.inl rfl⟩, fun A hA => absurd hA (by simp [gst0]), fun j A hj h => absurd h (by simp [gst0]), fun x hx => absurd hx (by simp [gst0])⟩
  · rw [rn _ _ (by decide) (by decide)]; rfl
  · rw [rn _ _ (by decide) (by decide)]; rfl
variable {p : Program} {l : Launch} {e : Env} {Rm : Room} {s : State} {m : MethodId} {args : Array Value} {below : List Frame} {meth : Method} {c : Code} {H : Heap} {locs : List Loc} {cells slots : Nat} {Q : State → Prop}
variable {cc : ByteArray} {pc : Nat} {ls : Array Slot} {rest : List Value} {g : Gam} {σ : Gst} {b : Bool} {Z : Zed} {nL : Nat} {ret : Option FieldType}
theorem ce_newZ {E : Nat → va_E} {n : Nat} {own : String} (C0 : CX g p s m args meth c own cc nL ret) (hW : WE g E n s.heap H locs) (hsz : H.size = g.2.2.1 + n) {ci : Nat} {C : String} {T : u_T} {N : Nat} (hci : vwCl[ci]? = some (C, T, N)) {index : Nat} (hk : Cond.classLink own index C ∈ GT) (hi : Cond.instantiable C N ∈ GT) (hini : Cond.initialized C ∈ GT) (hin : ∀ w ∈ u_ws C T N, w ∈ GT) (ty : Nat → FieldType) (hty : ∀ k, k < N → parseFieldDescriptor (T k).2.2.1 = some (ty k)) (fs : List Value) (hfs : ∀ j, j < N → defaultValue (ty j) = vp_V fs j) (hRc : cells + 1 ≤ Rm.cells) (hRs : slots + N ≤ Rm.slots) (hdg : decode cc pc = .ok (.new index, 3))
    (K : ∀ H1 : Heap, H1.size = g.2.2.1 + (n + 1) → WE g (va_up E n (.inr (ci, fs))) (n + 1) s.heap H1 locs → W p l e Rm s m args below meth c H1 locs (cells + 1) (slots + N) Q (F0 m (pc + 3) ls (.ref (g.2.2.1 + n) :: rest))) : W p l e Rm s m args below meth c H locs cells slots Q (F0 m pc ls rest) := by
  obtain ⟨hx, hb, -, -, hown, hts, hK, -⟩ := C0
  obtain ⟨⟨hP, hD⟩, hS⟩ := hW
  have hKn := hK.1.1 ci (C, T, N) hci
  refine W.newcK hx hb hown (hts _ hk) (hts _ hi) (hts _ hini) rfl hdg hRc hRs hKn.2.1 rfl fun H1 kC hkC e1 z1 o1 => ?_
  have hkk : ∀ (k : Nat) (x : Nat × va_E), (wsE g E n)[k]? = some x → H1[x.1]? = H[x.1]? := fun k x hx => o1 x.1 ((hP k x hx).lt)
  have hP1 : va_P g.1 vwCl (wsE g E n ++ [(H.size, .inr (ci, fs))]) H1 := (hP.kept hkk).app (fun k x hx => by
    have hz : k < 1 := (List.getElem?_eq_some_iff.mp hx).1
    rw [show k = 0 by omega] at hx
    cases hx
    exact ⟨_, hci, (u_born ty hts hin hKn hkC e1 hty).to hfs⟩)
  have hD1 : va_D (AA g) (wsE g E n ++ [(H.size, .inr (ci, fs))]) := hD.push hP rfl (Nat.le_trans hK.2.1 hS.1)
  rw [hsz, we_push] at hP1 hD1
  have K1 := K H1 (by omega) ⟨⟨hP1, hD1⟩, ⟨Nat.le_trans hS.1 (by omega), fun x h1 h2 => (o1 x (Nat.lt_of_lt_of_le h1 hS.1)).trans (hS.2.1 x h1 h2), hS.2.2⟩⟩
  rw [← hsz] at K1
  exact K1
theorem ce_cIZ {E : Nat → va_E} {n : Nat} {own : String} (C0 : CX g p s m args meth c own cc nL ret) (hW : WE g E n s.heap H locs) (hsz : H.size = g.2.2.1 + n) {k : Nat} {As : List Value} {y : MethodName} {bytes : ByteArray} {maxL nn index mc ms : Nat} {rm : Room} {E2 : Nat → va_E} {n2 : Nat}
    (hM : Met l y (Cond.code y bytes maxL none :: GT) rm (va_Pc (.ref (g.2.2.1 + k) :: As) (PE g E n)) (QE g E2 n2) mc ms (AA g)) (cw : CallB Rm s args own index y bytes maxL none (Cond.code y bytes maxL none :: GT) rm mc ms nn ∧ y.name = "<init>" ∧ (Cond.instanceMethod y).before args s = true)
    (hn : As.length = nn) (hsize : ls.size = nL) {st0 : List Value} (hst : st0 = As.reverse ++ .ref (g.2.2.1 + k) :: rest) (hr : (rest.map fun v => v.category).sum ≤ 8) (hf : cells + mc ≤ Rm.cells ∧ slots + ms ≤ Rm.slots) (hdg : decode cc pc = .ok (.invokespecial index, 3))
    (K : ∀ (H1 : Heap) (locs1 : List Loc), H1.size = g.2.2.1 + n2 → WE g E2 n2 s.heap H1 locs1 → W p l e Rm s m args below meth c H1 locs1 (cells + mc) (slots + ms) Q (F0 m (pc + 3) ls rest)) : W p l e Rm s m args below meth c H locs cells slots Q (F0 m pc ls st0) := by
  refine va_callv (va_runI (g := F0 m pc ls st0) (rest := rest) (aw_fix C0) hM cw (ce_pre C0 hW hsz) rfl hn hsize hst (lv_room hr) hdg hf) hW.2 (fun q _ h => h) (fun q h => h) (fun u t H1 locs1 ht _ hp hB _ _ hS => ?_)
  subst ht
  exact K t.heap locs1 hB.2 ⟨hB.1, hS⟩
theorem al_new (C0 : CX g p s m args meth c RL cc nL ret) (hsize : ls.size = nL) (hS : va_S (AA g) s.heap H locs) (hsz : H.size = g.2.2.1) (hR : rmX8_init.frames + 1 ≤ Rm.frames ∧ 8 + (2 + 11) + rmX8_init.locals ≤ Rm.locals) (hf : cells + 70 ≤ Rm.cells ∧ slots + 2145 ≤ Rm.slots) (d0 : decode cc pc = .ok (.new 14, 3)) (d3 : decode cc (pc + 3) = .ok (.dup, 1)) (d4 : decode cc (pc + 4) = .ok (.invokespecial 149, 3))
    (K : ∀ (H1 : Heap) (locs1 : List Loc), H1.size = g.2.2.1 + 70 → WA g gst0 false Z0 s.heap H1 locs1 → W p l e Rm s m args below meth c H1 locs1 (cells + 70) (slots + 2145) Q (F0 m (pc + 7) ls [.ref (g.2.2.1 + 0)])) : W p l e Rm s m args below meth c H locs cells slots Q (F0 m pc ls []) := by
  have hx := C0.1; have hb := C0.2.1; have hts := C0.2.2.2.2.2.1
  obtain ⟨hRc, hRs⟩ := hf
  have hW : WE g e00 0 s.heap H locs := ⟨⟨fun k q h => by simp [wsE, va_pl] at h, ⟨fun i j p q h => by simp [wsE, va_pl] at h, fun k q h => by simp [wsE, va_pl] at h⟩⟩, hS⟩
  refine ce_newZ (n := 0) C0 hW hsz (ci := 7) rfl wl0 wl246 wd76 inG7 tyX8 tyX8_ok [.null, .null, .int 0, .null, .null, .null, .int 0, .null, .null, .null, .null, .null] (fun j hj => by rcases (show j = 0 ∨ j = 1 ∨ j = 2 ∨ j = 3 ∨ j = 4 ∨ j = 5 ∨ j = 6 ∨ j = 7 ∨ j = 8 ∨ j = 9 ∨ j = 10 ∨ j = 11 by omega) with rfl | rfl | rfl | rfl | rfl | rfl | rfl | rfl | rfl | rfl | rfl | rfl <;> rfl) (by omega) (by omega) d0 (fun H hsz hW => ?_)
  have hW : WE g _ 1 s.heap H locs := hW
  refine lv_dup hx hb d3 rfl ?_
  refine ce_cIZ (rest := [.ref (g.2.2.1 + 0)]) (n := 1) C0 hW hsz (c_X8_init (by simp [va_up])) (cwI 0 hts (GT_code wl2) rfl rfl rfl (hts _ wd76) (hts _ wl1) (hts _ wl3) rfl ⟨by decide +kernel, by decide +kernel, by decide +kernel⟩ hR) rfl hsize rfl (Nat.le_of_ble_eq_true rfl) ⟨by omega, by omega⟩ d4 (fun H locs hsz hW => ?_)
  have hW : WE g (e70 g) 70 s.heap H locs := hW
  have hW : WA g gst0 false Z0 s.heap H locs := by
    obtain ⟨⟨hP, hD⟩, hS⟩ := hW
    rw [e70_ws] at hP hD
    exact ⟨⟨I0, R0, P0, ⟨hP, hD, sh_P0⟩, ci_0.1, ci_0.2, fun h => absurd h (by decide)⟩, hS⟩
  have K1 := K H locs hsz hW
  exact W.widen (by omega) (by omega) K1
/-- a method of the law that makes its own object -/
def PB (g : Gam) (U : State) : Prop := KS g U ∧ U.heap.size = g.2.2.1
def QB (g : Gam) : Array Value → State → Outcome → State → Prop := va_Qi (S := Unit) (fun x _ => x = 1) (fun _ _ => True) (AA g)
theorem PB_blind {av : List Value} : FrameBlind (va_Pc av (PB g)) := fun a U gf mk h => ⟨h.1, KS.call gf mk a h.2.1, h.2.2⟩
theorem al_ofB {y : MethodName} {rty : Option FieldType} {maxL : Nat} {av : List Value} {rm : Room} {Qc : Array Value → State → Outcome → State → Prop} {mc ms : Nat} (hy : plainName y.cls = true) {lv0 : List (Nat × Value)} (hlen : (lg_sl av).length ≤ maxL) (hav : lv_args 0 av = lv0)
    (body : ∀ (p : Program) (e : Env) (s : State) (m : MethodId) (args : Array Value) (below : List Frame) (meth : Method) (c : Code) (ls : Array Slot) (H : Heap) (locs : List Loc), CX g p s m args meth c y.cls cc maxL rty → lv_has ls maxL lv0 → va_S (AA g) s.heap H locs → H.size = g.2.2.1 →
      W p l e rm s m args below meth c H locs 0 0 (MQ below Qc args s mc ms (AA g)) (F0 m 0 ls [])) : Met l y (Cond.code y cc maxL rty :: GT) rm (va_Pc av (PB g)) Qc mc ms (AA g) := by
  refine Met.ofW (cc := cc) (maxL := maxL) (ret := rty) hy rfl ?_
  intro p e s m args below meth c s₁ B hml hv
  obtain ⟨rfl, hKS, hsz⟩ := hv
  have hl := lv_entry av hlen
  rw [hav] at hl
  rw [lg_entry_eq]
  exact body p e s m _ below meth c _ _ _ ⟨B.exec, B.bytes, hml, B.returns, findClass_of_methodNamed B.named, fun w h => atoms_spec (ws := Cond.code y cc maxL rty :: GT) B.pre w (List.mem_cons_of_mem _ h), hKS, B.notSynchronized⟩ hl va_S.rf hsz
theorem al_bret {mc ms : Nat} {own : String} (C0 : CX g p s m args meth c own cc nL (some .boolean)) (hW : WA g σ b Z s.heap H locs) (hmc : cells ≤ mc) (hms : slots ≤ ms) (hdg : decode cc pc = .ok (.ireturn, 1)) : W p l e Rm s m args below meth c H locs cells slots (MQ below (QB g) args s mc ms (AA g)) (F0 m pc ls [.int 1]) := by
  obtain ⟨hx, hb, -, hr, hown, hts, hK, hlk⟩ := C0
  exact W.widen hmc hms (W.zret (hlocks := hlk) hx hb hr rfl (fun t ht _ => ⟨⟨1, (), rfl, rfl, trivial⟩, hW.2.F ht⟩) hW.2.2.2 hdg)
end NWL
