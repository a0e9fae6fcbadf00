/-! the fixed part of the heap (printed by wip/whole/genlay.py) -/
def layT : List (Int × Int × Int) := [(32, -1, 8), (32, 0, 33), (32, 1, 43), (32, 2, 46), (32, 3, 79), (32, 4, 82), (32, 5, 84), (32, 6, 90), (32, 7, 94), (32, 8, 97), (33, -2, 3), (33, -1, 23), (33, 0, 34), (33, 1, 37), (33, 2, 40), (34, -1, 0), (34, 0, 35), (34, 1, 36), (35, -2, 256), (35, -1, 20), (36, -2, 257), (36, -1, 20), (37, -1, 0), (37, 0, 38), (37, 1, 39), (38, -2, 256), (38, -1, 20), (39, -2, 257), (39, -1, 20), (40, -1, 0), (40, 0, 41), (40, 1, 42), (41, -2, 256), (41, -1, 20), (42, -2, 257), (42, -1, 20), (43, -1, 0), (43, 0, 44), (43, 1, 45), (44, -2, 256), (44, -1, 20), (45, -2, 257), (45, -1, 20), (46, -1, 3), (46, 0, 47), (46, 1, 78), (47, -2, 10), (47, -1, 23), (47, 0, 48), (47, 1, 51), (47, 2, 54), (47, 3, 57), (47, 4, 60), (47, 5, 63), (47, 6, 66), (47, 7, 69), (47, 8, 72), (47, 9, 75), (48, -1, 0), (48, 0, 49), (48, 1, 50), (49, -2, 256), (49, -1, 20), (50, -2, 257), (50, -1, 20), (51, -1, 0), (51, 0, 52), (51, 1, 53), (52, -2, 256), (52, -1, 20), (53, -2, 257), (53, -1, 20), (54, -1, 0), (54, 0, 55), (54, 1, 56), (55, -2, 256), (55, -1, 20), (56, -2, 257), (56, -1, 20), (57, -1, 0), (57, 0, 58), (57, 1, 59), (58, -2, 256), (58, -1, 20), (59, -2, 257), (59, -1, 20), (60, -1, 0), (60, 0, 61), (60, 1, 62), (61, -2, 256), (61, -1, 20), (62, -2, 257), (62, -1, 20), (63, -1, 0), (63, 0, 64), (63, 1, 65), (64, -2, 256), (64, -1, 20), (65, -2, 257), (65, -1, 20), (66, -1, 0), (66, 0, 67), (66, 1, 68), (67, -2, 256), (67, -1, 20), (68, -2, 257), (68, -1, 20), (69, -1, 0), (69, 0, 70), (69, 1, 71), (70, -2, 256), (70, -1, 20), (71, -2, 257), (71, -1, 20), (72, -1, 0), (72, 0, 73), (72, 1, 74), (73, -2, 256), (73, -1, 20), (74, -2, 257), (74, -1, 20), (75, -1, 0), (75, 0, 76), (75, 1, 77), (76, -2, 256), (76, -1, 20), (77, -2, 257), (77, -1, 20), (78, -2, 10), (78, -1, 20), (79, -1, 5), (79, 0, 80), (80, -1, 1), (80, 0, 81), (81, -2, 400), (81, -1, 21), (82, -1, 1), (82, 0, 83), (83, -2, 2400), (83, -1, 21), (84, -1, 7), (84, 0, 85), (84, 1, 86), (84, 2, 87), (84, 3, 88), (84, 4, 89), (85, -2, 256), (85, -1, 20), (86, -2, 256), (86, -1, 20), (87, -2, 256), (87, -1, 20), (88, -2, 256), (88, -1, 20), (89, -2, 9), (89, -1, 20), (90, -1, 6), (90, 0, 91), (90, 1, 92), (90, 2, 93), (91, -2, 256), (91, -1, 20), (92, -2, 257), (92, -1, 20), (93, -2, 257), (93, -1, 20), (94, -1, 4), (94, 0, 95), (94, 1, 96), (95, -2, 8), (95, -1, 20), (96, -2, 8), (96, -1, 20), (97, -1, 2), (97, 0, 98), (97, 1, 99), (97, 2, 100), (98, -2, 8), (98, -1, 20), (99, -2, 8), (99, -1, 20), (100, -2, 8), (100, -1, 20), (101, -1, 9), (101, 0, 102), (101, 1, 103), (101, 2, 104), (101, 4, 105), (101, 6, 106), (101, 15, 107), (101, 16, 108), (101, 19, 109), (101, 20, 110), (101, 24, 111), (101, 25, 112), (101, 26, 113), (101, 27, 114), (102, -2, 783), (102, -1, 20), (103, -2, 783), (103, -1, 20), (104, -2, 7830), (104, -1, 20), (105, -2, 600), (105, -1, 20), (106, -2, 400), (106, -1, 20), (107, -2, 257), (107, -1, 20), (108, -2, 256), (108, -1, 20), (109, -2, 256), (109, -1, 22), (110, -2, 257), (110, -1, 20), (111, -2, 256), (111, -1, 20), (112, -2, 8), (112, -1, 20), (113, -2, 8), (113, -1, 20), (114, -2, 2400), (114, -1, 20)]
def Lay (σ : HP) : Prop := 115 ≤ σ (-1) 0 ∧ ∀ t ∈ layT, σ t.1 t.2.1 = t.2.2
theorem Lay.at {σ : HP} (h : Lay σ) (i : Nat) {a j v : Int} (e : layT[i]? = some (a, j, v)) : σ a j = v := h.2 _ (List.mem_of_getElem? e)
def Ag (S : Int → Int → Bool) (σ σ' : HP) : Prop := ∀ a j, S a j = false → σ' a j = σ a j
theorem Ag.rf (S : Int → Int → Bool) (σ : HP) : Ag S σ σ := fun _ _ _ => rfl
theorem Ag.tr {S : Int → Int → Bool} {a b c : HP} (h : Ag S a b) (h2 : Ag S b c) : Ag S a c := fun p j q => (h2 p j q).trans (h p j q)
theorem Ag.up {S : Int → Int → Bool} {σ σ' : HP} (h : Ag S σ σ') {a j v : Int} (hs : S a j = true) : Ag S σ (up σ' a j v) := fun p k q => by
  by_cases e : p = a ∧ k = j
  · obtain ⟨e1, e2⟩ := e
    subst e1; subst e2
    rw [hs] at q
    cases q
  · show (if p = a ∧ k = j then v else σ' p k) = _
    rw [if_neg e]
    exact h p k q
theorem Ag.mono {S T : Int → Int → Bool} {σ σ' : HP} (h : Ag S σ σ') (hs : ∀ a j, T a j = false → S a j = false) : Ag T σ σ' := fun a j q => h a j (hs a j q)
def okS (S : Int → Int → Bool) : Bool := layT.all (fun t => !(S t.1 t.2.1)) && !(S (-1) 0)
theorem Lay.ag {S : Int → Int → Bool} {σ σ' : HP} (h : Lay σ) (ha : Ag S σ σ') (hs : okS S = true) : Lay σ' := by
  unfold okS at hs
  rw [Bool.and_eq_true] at hs
  refine ⟨?_, fun t ht => ?_⟩
  · rw [ha (-1) 0 (by simpa using hs.2)]
    exact h.1
  · rw [ha _ _ (by simpa using List.all_eq_true.mp hs.1 t ht)]
    exact h.2 t ht
theorem y32_m1 {σ : HP} (h : Lay σ) : σ 32 (-1) = 8 := h.at 0 rfl
theorem y32_0 {σ : HP} (h : Lay σ) : σ 32 0 = 33 := h.at 1 rfl
theorem y32_1 {σ : HP} (h : Lay σ) : σ 32 1 = 43 := h.at 2 rfl
theorem y32_2 {σ : HP} (h : Lay σ) : σ 32 2 = 46 := h.at 3 rfl
theorem y32_3 {σ : HP} (h : Lay σ) : σ 32 3 = 79 := h.at 4 rfl
theorem y32_4 {σ : HP} (h : Lay σ) : σ 32 4 = 82 := h.at 5 rfl
theorem y32_5 {σ : HP} (h : Lay σ) : σ 32 5 = 84 := h.at 6 rfl
theorem y32_6 {σ : HP} (h : Lay σ) : σ 32 6 = 90 := h.at 7 rfl
theorem y32_7 {σ : HP} (h : Lay σ) : σ 32 7 = 94 := h.at 8 rfl
theorem y32_8 {σ : HP} (h : Lay σ) : σ 32 8 = 97 := h.at 9 rfl
theorem y33_m2 {σ : HP} (h : Lay σ) : σ 33 (-2) = 3 := h.at 10 rfl
theorem y33_m1 {σ : HP} (h : Lay σ) : σ 33 (-1) = 23 := h.at 11 rfl
theorem y33_0 {σ : HP} (h : Lay σ) : σ 33 0 = 34 := h.at 12 rfl
theorem y33_1 {σ : HP} (h : Lay σ) : σ 33 1 = 37 := h.at 13 rfl
theorem y33_2 {σ : HP} (h : Lay σ) : σ 33 2 = 40 := h.at 14 rfl
theorem y34_m1 {σ : HP} (h : Lay σ) : σ 34 (-1) = 0 := h.at 15 rfl
theorem y34_0 {σ : HP} (h : Lay σ) : σ 34 0 = 35 := h.at 16 rfl
theorem y34_1 {σ : HP} (h : Lay σ) : σ 34 1 = 36 := h.at 17 rfl
theorem y35_m2 {σ : HP} (h : Lay σ) : σ 35 (-2) = 256 := h.at 18 rfl
theorem y35_m1 {σ : HP} (h : Lay σ) : σ 35 (-1) = 20 := h.at 19 rfl
theorem y36_m2 {σ : HP} (h : Lay σ) : σ 36 (-2) = 257 := h.at 20 rfl
theorem y36_m1 {σ : HP} (h : Lay σ) : σ 36 (-1) = 20 := h.at 21 rfl
theorem y37_m1 {σ : HP} (h : Lay σ) : σ 37 (-1) = 0 := h.at 22 rfl
theorem y37_0 {σ : HP} (h : Lay σ) : σ 37 0 = 38 := h.at 23 rfl
theorem y37_1 {σ : HP} (h : Lay σ) : σ 37 1 = 39 := h.at 24 rfl
theorem y38_m2 {σ : HP} (h : Lay σ) : σ 38 (-2) = 256 := h.at 25 rfl
theorem y38_m1 {σ : HP} (h : Lay σ) : σ 38 (-1) = 20 := h.at 26 rfl
theorem y39_m2 {σ : HP} (h : Lay σ) : σ 39 (-2) = 257 := h.at 27 rfl
theorem y39_m1 {σ : HP} (h : Lay σ) : σ 39 (-1) = 20 := h.at 28 rfl
theorem y40_m1 {σ : HP} (h : Lay σ) : σ 40 (-1) = 0 := h.at 29 rfl
theorem y40_0 {σ : HP} (h : Lay σ) : σ 40 0 = 41 := h.at 30 rfl
theorem y40_1 {σ : HP} (h : Lay σ) : σ 40 1 = 42 := h.at 31 rfl
theorem y41_m2 {σ : HP} (h : Lay σ) : σ 41 (-2) = 256 := h.at 32 rfl
theorem y41_m1 {σ : HP} (h : Lay σ) : σ 41 (-1) = 20 := h.at 33 rfl
theorem y42_m2 {σ : HP} (h : Lay σ) : σ 42 (-2) = 257 := h.at 34 rfl
theorem y42_m1 {σ : HP} (h : Lay σ) : σ 42 (-1) = 20 := h.at 35 rfl
theorem y43_m1 {σ : HP} (h : Lay σ) : σ 43 (-1) = 0 := h.at 36 rfl
theorem y43_0 {σ : HP} (h : Lay σ) : σ 43 0 = 44 := h.at 37 rfl
theorem y43_1 {σ : HP} (h : Lay σ) : σ 43 1 = 45 := h.at 38 rfl
theorem y44_m2 {σ : HP} (h : Lay σ) : σ 44 (-2) = 256 := h.at 39 rfl
theorem y44_m1 {σ : HP} (h : Lay σ) : σ 44 (-1) = 20 := h.at 40 rfl
theorem y45_m2 {σ : HP} (h : Lay σ) : σ 45 (-2) = 257 := h.at 41 rfl
theorem y45_m1 {σ : HP} (h : Lay σ) : σ 45 (-1) = 20 := h.at 42 rfl
theorem y46_m1 {σ : HP} (h : Lay σ) : σ 46 (-1) = 3 := h.at 43 rfl
theorem y46_0 {σ : HP} (h : Lay σ) : σ 46 0 = 47 := h.at 44 rfl
theorem y46_1 {σ : HP} (h : Lay σ) : σ 46 1 = 78 := h.at 45 rfl
theorem y47_m2 {σ : HP} (h : Lay σ) : σ 47 (-2) = 10 := h.at 46 rfl
theorem y47_m1 {σ : HP} (h : Lay σ) : σ 47 (-1) = 23 := h.at 47 rfl
theorem y47_0 {σ : HP} (h : Lay σ) : σ 47 0 = 48 := h.at 48 rfl
theorem y47_1 {σ : HP} (h : Lay σ) : σ 47 1 = 51 := h.at 49 rfl
theorem y47_2 {σ : HP} (h : Lay σ) : σ 47 2 = 54 := h.at 50 rfl
theorem y47_3 {σ : HP} (h : Lay σ) : σ 47 3 = 57 := h.at 51 rfl
theorem y47_4 {σ : HP} (h : Lay σ) : σ 47 4 = 60 := h.at 52 rfl
theorem y47_5 {σ : HP} (h : Lay σ) : σ 47 5 = 63 := h.at 53 rfl
theorem y47_6 {σ : HP} (h : Lay σ) : σ 47 6 = 66 := h.at 54 rfl
theorem y47_7 {σ : HP} (h : Lay σ) : σ 47 7 = 69 := h.at 55 rfl
theorem y47_8 {σ : HP} (h : Lay σ) : σ 47 8 = 72 := h.at 56 rfl
theorem y47_9 {σ : HP} (h : Lay σ) : σ 47 9 = 75 := h.at 57 rfl
theorem y48_m1 {σ : HP} (h : Lay σ) : σ 48 (-1) = 0 := h.at 58 rfl
theorem y48_0 {σ : HP} (h : Lay σ) : σ 48 0 = 49 := h.at 59 rfl
theorem y48_1 {σ : HP} (h : Lay σ) : σ 48 1 = 50 := h.at 60 rfl
theorem y49_m2 {σ : HP} (h : Lay σ) : σ 49 (-2) = 256 := h.at 61 rfl
theorem y49_m1 {σ : HP} (h : Lay σ) : σ 49 (-1) = 20 := h.at 62 rfl
theorem y50_m2 {σ : HP} (h : Lay σ) : σ 50 (-2) = 257 := h.at 63 rfl
theorem y50_m1 {σ : HP} (h : Lay σ) : σ 50 (-1) = 20 := h.at 64 rfl
theorem y51_m1 {σ : HP} (h : Lay σ) : σ 51 (-1) = 0 := h.at 65 rfl
theorem y51_0 {σ : HP} (h : Lay σ) : σ 51 0 = 52 := h.at 66 rfl
theorem y51_1 {σ : HP} (h : Lay σ) : σ 51 1 = 53 := h.at 67 rfl
theorem y52_m2 {σ : HP} (h : Lay σ) : σ 52 (-2) = 256 := h.at 68 rfl
theorem y52_m1 {σ : HP} (h : Lay σ) : σ 52 (-1) = 20 := h.at 69 rfl
theorem y53_m2 {σ : HP} (h : Lay σ) : σ 53 (-2) = 257 := h.at 70 rfl
theorem y53_m1 {σ : HP} (h : Lay σ) : σ 53 (-1) = 20 := h.at 71 rfl
theorem y54_m1 {σ : HP} (h : Lay σ) : σ 54 (-1) = 0 := h.at 72 rfl
theorem y54_0 {σ : HP} (h : Lay σ) : σ 54 0 = 55 := h.at 73 rfl
theorem y54_1 {σ : HP} (h : Lay σ) : σ 54 1 = 56 := h.at 74 rfl
theorem y55_m2 {σ : HP} (h : Lay σ) : σ 55 (-2) = 256 := h.at 75 rfl
theorem y55_m1 {σ : HP} (h : Lay σ) : σ 55 (-1) = 20 := h.at 76 rfl
theorem y56_m2 {σ : HP} (h : Lay σ) : σ 56 (-2) = 257 := h.at 77 rfl
theorem y56_m1 {σ : HP} (h : Lay σ) : σ 56 (-1) = 20 := h.at 78 rfl
theorem y57_m1 {σ : HP} (h : Lay σ) : σ 57 (-1) = 0 := h.at 79 rfl
theorem y57_0 {σ : HP} (h : Lay σ) : σ 57 0 = 58 := h.at 80 rfl
theorem y57_1 {σ : HP} (h : Lay σ) : σ 57 1 = 59 := h.at 81 rfl
theorem y58_m2 {σ : HP} (h : Lay σ) : σ 58 (-2) = 256 := h.at 82 rfl
theorem y58_m1 {σ : HP} (h : Lay σ) : σ 58 (-1) = 20 := h.at 83 rfl
theorem y59_m2 {σ : HP} (h : Lay σ) : σ 59 (-2) = 257 := h.at 84 rfl
theorem y59_m1 {σ : HP} (h : Lay σ) : σ 59 (-1) = 20 := h.at 85 rfl
theorem y60_m1 {σ : HP} (h : Lay σ) : σ 60 (-1) = 0 := h.at 86 rfl
theorem y60_0 {σ : HP} (h : Lay σ) : σ 60 0 = 61 := h.at 87 rfl
theorem y60_1 {σ : HP} (h : Lay σ) : σ 60 1 = 62 := h.at 88 rfl
theorem y61_m2 {σ : HP} (h : Lay σ) : σ 61 (-2) = 256 := h.at 89 rfl
theorem y61_m1 {σ : HP} (h : Lay σ) : σ 61 (-1) = 20 := h.at 90 rfl
theorem y62_m2 {σ : HP} (h : Lay σ) : σ 62 (-2) = 257 := h.at 91 rfl
theorem y62_m1 {σ : HP} (h : Lay σ) : σ 62 (-1) = 20 := h.at 92 rfl
theorem y63_m1 {σ : HP} (h : Lay σ) : σ 63 (-1) = 0 := h.at 93 rfl
theorem y63_0 {σ : HP} (h : Lay σ) : σ 63 0 = 64 := h.at 94 rfl
theorem y63_1 {σ : HP} (h : Lay σ) : σ 63 1 = 65 := h.at 95 rfl
theorem y64_m2 {σ : HP} (h : Lay σ) : σ 64 (-2) = 256 := h.at 96 rfl
theorem y64_m1 {σ : HP} (h : Lay σ) : σ 64 (-1) = 20 := h.at 97 rfl
theorem y65_m2 {σ : HP} (h : Lay σ) : σ 65 (-2) = 257 := h.at 98 rfl
theorem y65_m1 {σ : HP} (h : Lay σ) : σ 65 (-1) = 20 := h.at 99 rfl
theorem y66_m1 {σ : HP} (h : Lay σ) : σ 66 (-1) = 0 := h.at 100 rfl
theorem y66_0 {σ : HP} (h : Lay σ) : σ 66 0 = 67 := h.at 101 rfl
theorem y66_1 {σ : HP} (h : Lay σ) : σ 66 1 = 68 := h.at 102 rfl
theorem y67_m2 {σ : HP} (h : Lay σ) : σ 67 (-2) = 256 := h.at 103 rfl
theorem y67_m1 {σ : HP} (h : Lay σ) : σ 67 (-1) = 20 := h.at 104 rfl
theorem y68_m2 {σ : HP} (h : Lay σ) : σ 68 (-2) = 257 := h.at 105 rfl
theorem y68_m1 {σ : HP} (h : Lay σ) : σ 68 (-1) = 20 := h.at 106 rfl
theorem y69_m1 {σ : HP} (h : Lay σ) : σ 69 (-1) = 0 := h.at 107 rfl
theorem y69_0 {σ : HP} (h : Lay σ) : σ 69 0 = 70 := h.at 108 rfl
theorem y69_1 {σ : HP} (h : Lay σ) : σ 69 1 = 71 := h.at 109 rfl
theorem y70_m2 {σ : HP} (h : Lay σ) : σ 70 (-2) = 256 := h.at 110 rfl
theorem y70_m1 {σ : HP} (h : Lay σ) : σ 70 (-1) = 20 := h.at 111 rfl
theorem y71_m2 {σ : HP} (h : Lay σ) : σ 71 (-2) = 257 := h.at 112 rfl
theorem y71_m1 {σ : HP} (h : Lay σ) : σ 71 (-1) = 20 := h.at 113 rfl
theorem y72_m1 {σ : HP} (h : Lay σ) : σ 72 (-1) = 0 := h.at 114 rfl
theorem y72_0 {σ : HP} (h : Lay σ) : σ 72 0 = 73 := h.at 115 rfl
theorem y72_1 {σ : HP} (h : Lay σ) : σ 72 1 = 74 := h.at 116 rfl
theorem y73_m2 {σ : HP} (h : Lay σ) : σ 73 (-2) = 256 := h.at 117 rfl
theorem y73_m1 {σ : HP} (h : Lay σ) : σ 73 (-1) = 20 := h.at 118 rfl
theorem y74_m2 {σ : HP} (h : Lay σ) : σ 74 (-2) = 257 := h.at 119 rfl
theorem y74_m1 {σ : HP} (h : Lay σ) : σ 74 (-1) = 20 := h.at 120 rfl
theorem y75_m1 {σ : HP} (h : Lay σ) : σ 75 (-1) = 0 := h.at 121 rfl
theorem y75_0 {σ : HP} (h : Lay σ) : σ 75 0 = 76 := h.at 122 rfl
theorem y75_1 {σ : HP} (h : Lay σ) : σ 75 1 = 77 := h.at 123 rfl
theorem y76_m2 {σ : HP} (h : Lay σ) : σ 76 (-2) = 256 := h.at 124 rfl
theorem y76_m1 {σ : HP} (h : Lay σ) : σ 76 (-1) = 20 := h.at 125 rfl
theorem y77_m2 {σ : HP} (h : Lay σ) : σ 77 (-2) = 257 := h.at 126 rfl
theorem y77_m1 {σ : HP} (h : Lay σ) : σ 77 (-1) = 20 := h.at 127 rfl
theorem y78_m2 {σ : HP} (h : Lay σ) : σ 78 (-2) = 10 := h.at 128 rfl
theorem y78_m1 {σ : HP} (h : Lay σ) : σ 78 (-1) = 20 := h.at 129 rfl
theorem y79_m1 {σ : HP} (h : Lay σ) : σ 79 (-1) = 5 := h.at 130 rfl
theorem y79_0 {σ : HP} (h : Lay σ) : σ 79 0 = 80 := h.at 131 rfl
theorem y80_m1 {σ : HP} (h : Lay σ) : σ 80 (-1) = 1 := h.at 132 rfl
theorem y80_0 {σ : HP} (h : Lay σ) : σ 80 0 = 81 := h.at 133 rfl
theorem y81_m2 {σ : HP} (h : Lay σ) : σ 81 (-2) = 400 := h.at 134 rfl
theorem y81_m1 {σ : HP} (h : Lay σ) : σ 81 (-1) = 21 := h.at 135 rfl
theorem y82_m1 {σ : HP} (h : Lay σ) : σ 82 (-1) = 1 := h.at 136 rfl
theorem y82_0 {σ : HP} (h : Lay σ) : σ 82 0 = 83 := h.at 137 rfl
theorem y83_m2 {σ : HP} (h : Lay σ) : σ 83 (-2) = 2400 := h.at 138 rfl
theorem y83_m1 {σ : HP} (h : Lay σ) : σ 83 (-1) = 21 := h.at 139 rfl
theorem y84_m1 {σ : HP} (h : Lay σ) : σ 84 (-1) = 7 := h.at 140 rfl
theorem y84_0 {σ : HP} (h : Lay σ) : σ 84 0 = 85 := h.at 141 rfl
theorem y84_1 {σ : HP} (h : Lay σ) : σ 84 1 = 86 := h.at 142 rfl
theorem y84_2 {σ : HP} (h : Lay σ) : σ 84 2 = 87 := h.at 143 rfl
theorem y84_3 {σ : HP} (h : Lay σ) : σ 84 3 = 88 := h.at 144 rfl
theorem y84_4 {σ : HP} (h : Lay σ) : σ 84 4 = 89 := h.at 145 rfl
theorem y85_m2 {σ : HP} (h : Lay σ) : σ 85 (-2) = 256 := h.at 146 rfl
theorem y85_m1 {σ : HP} (h : Lay σ) : σ 85 (-1) = 20 := h.at 147 rfl
theorem y86_m2 {σ : HP} (h : Lay σ) : σ 86 (-2) = 256 := h.at 148 rfl
theorem y86_m1 {σ : HP} (h : Lay σ) : σ 86 (-1) = 20 := h.at 149 rfl
theorem y87_m2 {σ : HP} (h : Lay σ) : σ 87 (-2) = 256 := h.at 150 rfl
theorem y87_m1 {σ : HP} (h : Lay σ) : σ 87 (-1) = 20 := h.at 151 rfl
theorem y88_m2 {σ : HP} (h : Lay σ) : σ 88 (-2) = 256 := h.at 152 rfl
theorem y88_m1 {σ : HP} (h : Lay σ) : σ 88 (-1) = 20 := h.at 153 rfl
theorem y89_m2 {σ : HP} (h : Lay σ) : σ 89 (-2) = 9 := h.at 154 rfl
theorem y89_m1 {σ : HP} (h : Lay σ) : σ 89 (-1) = 20 := h.at 155 rfl
theorem y90_m1 {σ : HP} (h : Lay σ) : σ 90 (-1) = 6 := h.at 156 rfl
theorem y90_0 {σ : HP} (h : Lay σ) : σ 90 0 = 91 := h.at 157 rfl
theorem y90_1 {σ : HP} (h : Lay σ) : σ 90 1 = 92 := h.at 158 rfl
theorem y90_2 {σ : HP} (h : Lay σ) : σ 90 2 = 93 := h.at 159 rfl
theorem y91_m2 {σ : HP} (h : Lay σ) : σ 91 (-2) = 256 := h.at 160 rfl
theorem y91_m1 {σ : HP} (h : Lay σ) : σ 91 (-1) = 20 := h.at 161 rfl
theorem y92_m2 {σ : HP} (h : Lay σ) : σ 92 (-2) = 257 := h.at 162 rfl
theorem y92_m1 {σ : HP} (h : Lay σ) : σ 92 (-1) = 20 := h.at 163 rfl
theorem y93_m2 {σ : HP} (h : Lay σ) : σ 93 (-2) = 257 := h.at 164 rfl
theorem y93_m1 {σ : HP} (h : Lay σ) : σ 93 (-1) = 20 := h.at 165 rfl
theorem y94_m1 {σ : HP} (h : Lay σ) : σ 94 (-1) = 4 := h.at 166 rfl
theorem y94_0 {σ : HP} (h : Lay σ) : σ 94 0 = 95 := h.at 167 rfl
theorem y94_1 {σ : HP} (h : Lay σ) : σ 94 1 = 96 := h.at 168 rfl
theorem y95_m2 {σ : HP} (h : Lay σ) : σ 95 (-2) = 8 := h.at 169 rfl
theorem y95_m1 {σ : HP} (h : Lay σ) : σ 95 (-1) = 20 := h.at 170 rfl
theorem y96_m2 {σ : HP} (h : Lay σ) : σ 96 (-2) = 8 := h.at 171 rfl
theorem y96_m1 {σ : HP} (h : Lay σ) : σ 96 (-1) = 20 := h.at 172 rfl
theorem y97_m1 {σ : HP} (h : Lay σ) : σ 97 (-1) = 2 := h.at 173 rfl
theorem y97_0 {σ : HP} (h : Lay σ) : σ 97 0 = 98 := h.at 174 rfl
theorem y97_1 {σ : HP} (h : Lay σ) : σ 97 1 = 99 := h.at 175 rfl
theorem y97_2 {σ : HP} (h : Lay σ) : σ 97 2 = 100 := h.at 176 rfl
theorem y98_m2 {σ : HP} (h : Lay σ) : σ 98 (-2) = 8 := h.at 177 rfl
theorem y98_m1 {σ : HP} (h : Lay σ) : σ 98 (-1) = 20 := h.at 178 rfl
theorem y99_m2 {σ : HP} (h : Lay σ) : σ 99 (-2) = 8 := h.at 179 rfl
theorem y99_m1 {σ : HP} (h : Lay σ) : σ 99 (-1) = 20 := h.at 180 rfl
theorem y100_m2 {σ : HP} (h : Lay σ) : σ 100 (-2) = 8 := h.at 181 rfl
theorem y100_m1 {σ : HP} (h : Lay σ) : σ 100 (-1) = 20 := h.at 182 rfl
theorem y101_m1 {σ : HP} (h : Lay σ) : σ 101 (-1) = 9 := h.at 183 rfl
theorem y101_0 {σ : HP} (h : Lay σ) : σ 101 0 = 102 := h.at 184 rfl
theorem y101_1 {σ : HP} (h : Lay σ) : σ 101 1 = 103 := h.at 185 rfl
theorem y101_2 {σ : HP} (h : Lay σ) : σ 101 2 = 104 := h.at 186 rfl
theorem y101_4 {σ : HP} (h : Lay σ) : σ 101 4 = 105 := h.at 187 rfl
theorem y101_6 {σ : HP} (h : Lay σ) : σ 101 6 = 106 := h.at 188 rfl
theorem y101_15 {σ : HP} (h : Lay σ) : σ 101 15 = 107 := h.at 189 rfl
theorem y101_16 {σ : HP} (h : Lay σ) : σ 101 16 = 108 := h.at 190 rfl
theorem y101_19 {σ : HP} (h : Lay σ) : σ 101 19 = 109 := h.at 191 rfl
theorem y101_20 {σ : HP} (h : Lay σ) : σ 101 20 = 110 := h.at 192 rfl
theorem y101_24 {σ : HP} (h : Lay σ) : σ 101 24 = 111 := h.at 193 rfl
theorem y101_25 {σ : HP} (h : Lay σ) : σ 101 25 = 112 := h.at 194 rfl
theorem y101_26 {σ : HP} (h : Lay σ) : σ 101 26 = 113 := h.at 195 rfl
theorem y101_27 {σ : HP} (h : Lay σ) : σ 101 27 = 114 := h.at 196 rfl
theorem y102_m2 {σ : HP} (h : Lay σ) : σ 102 (-2) = 783 := h.at 197 rfl
theorem y102_m1 {σ : HP} (h : Lay σ) : σ 102 (-1) = 20 := h.at 198 rfl
theorem y103_m2 {σ : HP} (h : Lay σ) : σ 103 (-2) = 783 := h.at 199 rfl
theorem y103_m1 {σ : HP} (h : Lay σ) : σ 103 (-1) = 20 := h.at 200 rfl
theorem y104_m2 {σ : HP} (h : Lay σ) : σ 104 (-2) = 7830 := h.at 201 rfl
theorem y104_m1 {σ : HP} (h : Lay σ) : σ 104 (-1) = 20 := h.at 202 rfl
theorem y105_m2 {σ : HP} (h : Lay σ) : σ 105 (-2) = 600 := h.at 203 rfl
theorem y105_m1 {σ : HP} (h : Lay σ) : σ 105 (-1) = 20 := h.at 204 rfl
theorem y106_m2 {σ : HP} (h : Lay σ) : σ 106 (-2) = 400 := h.at 205 rfl
theorem y106_m1 {σ : HP} (h : Lay σ) : σ 106 (-1) = 20 := h.at 206 rfl
theorem y107_m2 {σ : HP} (h : Lay σ) : σ 107 (-2) = 257 := h.at 207 rfl
theorem y107_m1 {σ : HP} (h : Lay σ) : σ 107 (-1) = 20 := h.at 208 rfl
theorem y108_m2 {σ : HP} (h : Lay σ) : σ 108 (-2) = 256 := h.at 209 rfl
theorem y108_m1 {σ : HP} (h : Lay σ) : σ 108 (-1) = 20 := h.at 210 rfl
theorem y109_m2 {σ : HP} (h : Lay σ) : σ 109 (-2) = 256 := h.at 211 rfl
theorem y109_m1 {σ : HP} (h : Lay σ) : σ 109 (-1) = 22 := h.at 212 rfl
theorem y110_m2 {σ : HP} (h : Lay σ) : σ 110 (-2) = 257 := h.at 213 rfl
theorem y110_m1 {σ : HP} (h : Lay σ) : σ 110 (-1) = 20 := h.at 214 rfl
theorem y111_m2 {σ : HP} (h : Lay σ) : σ 111 (-2) = 256 := h.at 215 rfl
theorem y111_m1 {σ : HP} (h : Lay σ) : σ 111 (-1) = 20 := h.at 216 rfl
theorem y112_m2 {σ : HP} (h : Lay σ) : σ 112 (-2) = 8 := h.at 217 rfl
theorem y112_m1 {σ : HP} (h : Lay σ) : σ 112 (-1) = 20 := h.at 218 rfl
theorem y113_m2 {σ : HP} (h : Lay σ) : σ 113 (-2) = 8 := h.at 219 rfl
theorem y113_m1 {σ : HP} (h : Lay σ) : σ 113 (-1) = 20 := h.at 220 rfl
theorem y114_m2 {σ : HP} (h : Lay σ) : σ 114 (-2) = 2400 := h.at 221 rfl
theorem y114_m1 {σ : HP} (h : Lay σ) : σ 114 (-1) = 20 := h.at 222 rfl
theorem yb_34 {σ : HP} (h : Lay σ) : blm σ 34 := ⟨by decide, by have := h.1; omega, y34_m1 h, y34_0 h, y34_1 h, y35_m1 h, y35_m2 h, y36_m1 h, y36_m2 h⟩
theorem yb_37 {σ : HP} (h : Lay σ) : blm σ 37 := ⟨by decide, by have := h.1; omega, y37_m1 h, y37_0 h, y37_1 h, y38_m1 h, y38_m2 h, y39_m1 h, y39_m2 h⟩
theorem yb_40 {σ : HP} (h : Lay σ) : blm σ 40 := ⟨by decide, by have := h.1; omega, y40_m1 h, y40_0 h, y40_1 h, y41_m1 h, y41_m2 h, y42_m1 h, y42_m2 h⟩
theorem yb_43 {σ : HP} (h : Lay σ) : blm σ 43 := ⟨by decide, by have := h.1; omega, y43_m1 h, y43_0 h, y43_1 h, y44_m1 h, y44_m2 h, y45_m1 h, y45_m2 h⟩
theorem yb_48 {σ : HP} (h : Lay σ) : blm σ 48 := ⟨by decide, by have := h.1; omega, y48_m1 h, y48_0 h, y48_1 h, y49_m1 h, y49_m2 h, y50_m1 h, y50_m2 h⟩
theorem yb_51 {σ : HP} (h : Lay σ) : blm σ 51 := ⟨by decide, by have := h.1; omega, y51_m1 h, y51_0 h, y51_1 h, y52_m1 h, y52_m2 h, y53_m1 h, y53_m2 h⟩
theorem yb_54 {σ : HP} (h : Lay σ) : blm σ 54 := ⟨by decide, by have := h.1; omega, y54_m1 h, y54_0 h, y54_1 h, y55_m1 h, y55_m2 h, y56_m1 h, y56_m2 h⟩
theorem yb_57 {σ : HP} (h : Lay σ) : blm σ 57 := ⟨by decide, by have := h.1; omega, y57_m1 h, y57_0 h, y57_1 h, y58_m1 h, y58_m2 h, y59_m1 h, y59_m2 h⟩
theorem yb_60 {σ : HP} (h : Lay σ) : blm σ 60 := ⟨by decide, by have := h.1; omega, y60_m1 h, y60_0 h, y60_1 h, y61_m1 h, y61_m2 h, y62_m1 h, y62_m2 h⟩
theorem yb_63 {σ : HP} (h : Lay σ) : blm σ 63 := ⟨by decide, by have := h.1; omega, y63_m1 h, y63_0 h, y63_1 h, y64_m1 h, y64_m2 h, y65_m1 h, y65_m2 h⟩
theorem yb_66 {σ : HP} (h : Lay σ) : blm σ 66 := ⟨by decide, by have := h.1; omega, y66_m1 h, y66_0 h, y66_1 h, y67_m1 h, y67_m2 h, y68_m1 h, y68_m2 h⟩
theorem yb_69 {σ : HP} (h : Lay σ) : blm σ 69 := ⟨by decide, by have := h.1; omega, y69_m1 h, y69_0 h, y69_1 h, y70_m1 h, y70_m2 h, y71_m1 h, y71_m2 h⟩
theorem yb_72 {σ : HP} (h : Lay σ) : blm σ 72 := ⟨by decide, by have := h.1; omega, y72_m1 h, y72_0 h, y72_1 h, y73_m1 h, y73_m2 h, y74_m1 h, y74_m2 h⟩
theorem yb_75 {σ : HP} (h : Lay σ) : blm σ 75 := ⟨by decide, by have := h.1; omega, y75_m1 h, y75_0 h, y75_1 h, y76_m1 h, y76_m2 h, y77_m1 h, y77_m2 h⟩
