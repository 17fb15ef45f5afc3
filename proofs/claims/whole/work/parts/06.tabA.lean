abbrev F_J6_bitCount_0f7a4 : zF := (14, cJ6_bitCount_0f7a4, some .int, 1, [], false)
def T_J6_bitCount_0f7a4 : List (Nat × zI) := [(0, (2, 0, 0, 0, 1, [])), (1, (2, 0, 0, 0, 2, [])), (2, (0, 0, 0, 1, 3, [])), (3, (9, 8, 0, 0, 4, [])), (4, (0, 0, 0, 1431655765, 7, [])), (7, (9, 3, 0, 0, 8, [])), (8, (9, 1, 0, 0, 9, [])), (9, (5, 0, 0, 0, 10, [])), (10, (2, 0, 0, 0, 11, [])), (11, (0, 0, 0, 858993459, 14, [])), (14, (9, 3, 0, 0, 15, [])), (15, (2, 0, 0, 0, 16, [])), (16, (0, 0, 0, 2, 17, [])), (17, (9, 8, 0, 0, 18, [])), (18, (0, 0, 0, 858993459, 21, [])), (21, (9, 3, 0, 0, 22, [])), (22, (9, 0, 0, 0, 23, [])), (23, (5, 0, 0, 0, 24, [])), (24, (2, 0, 0, 0, 25, [])), (25, (2, 0, 0, 0, 26, [])), (26, (0, 0, 0, 4, 27, [])), (27, (9, 8, 0, 0, 28, [])), (28, (9, 0, 0, 0, 29, [])), (29, (0, 0, 0, 252645135, 32, [])), (32, (9, 3, 0, 0, 33, [])), (33, (5, 0, 0, 0, 34, [])), (34, (2, 0, 0, 0, 35, [])), (35, (2, 0, 0, 0, 36, [])), (36, (0, 0, 0, 8, 38, [])), (38, (9, 8, 0, 0, 39, [])), (39, (9, 0, 0, 0, 40, [])), (40, (5, 0, 0, 0, 41, [])), (41, (2, 0, 0, 0, 42, [])), (42, (2, 0, 0, 0, 43, [])), (43, (0, 0, 0, 16, 45, [])), (45, (9, 8, 0, 0, 46, [])), (46, (9, 0, 0, 0, 47, [])), (47, (5, 0, 0, 0, 48, [])), (48, (2, 0, 0, 0, 49, [])), (49, (0, 0, 0, 63, 51, [])), (51, (9, 3, 0, 0, 52, [])), (52, (27, 0, 0, 0, 53, []))]
set_option maxRecDepth 100000 in
theorem K_J6_bitCount_0f7a4 : ztbok F_J6_bitCount_0f7a4 T_J6_bitCount_0f7a4 := ztbB_ok (by decide +kernel)
set_option maxRecDepth 100000 in
theorem W_J6_bitCount_0f7a4 : zMth yJ6_bitCount_0f7a4 (.code yJ6_bitCount_0f7a4 cJ6_bitCount_0f7a4 1 (some .int)) 1 := ⟨z_at 470 (by decide +kernel) (by decide +kernel), z_at 26 (by decide +kernel) (by decide +kernel), ⟨by decide +kernel, by decide +kernel⟩, by decide +kernel⟩
set_option maxRecDepth 100000 in
theorem I_J6_bitCount_0f7a4 : Cond.static yJ6_bitCount_0f7a4 ∈ zws := z_at 469 (by decide +kernel) (by decide +kernel)
abbrev F_J7_fill_53178 : zF := (15, cJ7_fill_53178, none, 4, [], false)
def T_J7_fill_53178 : List (Nat × zI) := [(0, (0, 0, 0, 0, 1, [])), (1, (5, 2, 0, 0, 2, [])), (2, (4, 0, 0, 0, 3, [])), (3, (26, 0, 0, 0, 4, [])), (4, (5, 3, 0, 0, 5, [])), (5, (2, 2, 0, 0, 6, [])), (6, (2, 3, 0, 0, 7, [])), (7, (16, 1, 10, 0, 20, [])), (10, (4, 0, 0, 0, 11, [])), (11, (2, 2, 0, 0, 12, [])), (12, (2, 1, 0, 0, 13, [])), (13, (21, 0, 0, 0, 14, [])), (14, (8, 2, 0, 1, 17, [])), (17, (15, 0, 0, 0, 5, [])), (20, (29, 0, 0, 0, 21, []))]
set_option maxRecDepth 100000 in
theorem K_J7_fill_53178 : ztbok F_J7_fill_53178 T_J7_fill_53178 := ztbB_ok (by decide +kernel)
set_option maxRecDepth 100000 in
theorem W_J7_fill_53178 : zMth yJ7_fill_53178 (.code yJ7_fill_53178 cJ7_fill_53178 4 (none)) 2 := ⟨z_at 626 (by decide +kernel) (by decide +kernel), z_at 19 (by decide +kernel) (by decide +kernel), ⟨by decide +kernel, by decide +kernel⟩, by decide +kernel⟩
set_option maxRecDepth 100000 in
theorem I_J7_fill_53178 : Cond.static yJ7_fill_53178 ∈ zws := z_at 625 (by decide +kernel) (by decide +kernel)
abbrev F_X0_init : zF := (0, cX0_init, none, 1, [], true)
def T_X0_init : List (Nat × zI) := [(0, (4, 0, 0, 0, 1, [])), (1, (35, 0, 0, 0, 4, [])), (4, (4, 0, 0, 0, 5, [])), (5, (0, 0, 0, 12, 7, [])), (7, (31, 1, 0, 0, 9, [])), (9, (19, 0, 0, 0, 12, [])), (12, (4, 0, 0, 0, 13, [])), (13, (0, 0, 0, 12, 15, [])), (15, (31, 1, 0, 0, 17, [])), (17, (19, 0, 1, 0, 20, [])), (20, (4, 0, 0, 0, 21, [])), (21, (0, 0, 0, 12, 23, [])), (23, (31, 1, 0, 0, 25, [])), (25, (19, 0, 2, 0, 28, [])), (28, (4, 0, 0, 0, 29, [])), (29, (0, 0, 0, 12, 31, [])), (31, (31, 1, 0, 0, 33, [])), (33, (19, 0, 3, 0, 36, [])), (36, (4, 0, 0, 0, 37, [])), (37, (0, 0, 0, 144, 40, [])), (40, (31, 1, 0, 0, 42, [])), (42, (19, 0, 4, 0, 45, [])), (45, (4, 0, 0, 0, 46, [])), (46, (0, 0, 0, 72, 48, [])), (48, (31, 1, 0, 0, 50, [])), (50, (19, 0, 5, 0, 53, [])), (53, (4, 0, 0, 0, 54, [])), (54, (0, 0, 0, 8, 56, [])), (56, (31, 1, 0, 0, 58, [])), (58, (19, 0, 6, 0, 61, [])), (61, (4, 0, 0, 0, 62, [])), (62, (0, 0, 0, (-1), 63, [])), (63, (19, 0, 8, 0, 66, [])), (66, (29, 0, 0, 0, 67, []))]
set_option maxRecDepth 100000 in
theorem K_X0_init : ztbok F_X0_init T_X0_init := ztbB_ok (by decide +kernel)
set_option maxRecDepth 100000 in
theorem W_X0_init : zMth yX0_init (.code yX0_init cX0_init 1 (none)) 0 := ⟨z_at 168 (by decide +kernel) (by decide +kernel), z_at 5 (by decide +kernel) (by decide +kernel), ⟨by decide +kernel, by decide +kernel⟩, by decide +kernel⟩
set_option maxRecDepth 100000 in
theorem I_X0_init : Cond.instanceMethod yX0_init ∈ zws := z_at 167 (by decide +kernel) (by decide +kernel)
abbrev F_X0_begin : zF := (0, cX0_begin, none, 4, [], false)
def T_X0_begin : List (Nat × zI) := [(0, (4, 0, 0, 0, 1, [])), (1, (0, 0, 0, 0, 2, [])), (2, (19, 0, 7, 0, 5, [])), (5, (4, 0, 0, 0, 6, [])), (9, (0, 0, 0, 0, 10, [])), (10, (5, 2, 0, 0, 11, [])), (11, (2, 2, 0, 0, 12, [])), (12, (4, 1, 0, 0, 13, [])), (13, (18, 6, 8, 0, 16, [])), (16, (16, 1, 19, 0, 94, [])), (19, (4, 0, 0, 0, 20, [])), (20, (18, 0, 3, 0, 23, [])), (23, (2, 2, 0, 0, 24, [])), (24, (0, 0, 0, 2, 25, [])), (25, (9, 2, 0, 0, 26, [])), (26, (4, 1, 0, 0, 27, [])), (27, (18, 6, 3, 0, 30, [])), (30, (2, 2, 0, 0, 31, [])), (31, (20, 0, 0, 0, 32, [])), (32, (0, 0, 0, 1, 33, [])), (33, (9, 3, 0, 0, 34, [])), (34, (21, 0, 0, 0, 35, [])), (35, (4, 0, 0, 0, 36, [])), (36, (18, 0, 3, 0, 39, [])), (39, (2, 2, 0, 0, 40, [])), (40, (0, 0, 0, 2, 41, [])), (41, (9, 2, 0, 0, 42, [])), (42, (0, 0, 0, 1, 43, [])), (43, (9, 0, 0, 0, 44, [])), (44, (4, 1, 0, 0, 45, [])), (45, (18, 6, 3, 0, 48, [])), (48, (2, 2, 0, 0, 49, [])), (49, (20, 0, 0, 0, 50, [])), (50, (0, 0, 0, 1, 51, [])), (51, (9, 7, 0, 0, 52, [])), (52, (21, 0, 0, 0, 53, [])), (53, (0, 0, 0, 0, 54, [])), (54, (5, 3, 0, 0, 55, [])), (55, (2, 3, 0, 0, 56, [])), (56, (0, 0, 0, 24, 58, [])), (58, (16, 1, 61, 0, 88, [])), (61, (4, 0, 0, 0, 62, [])), (62, (18, 0, 4, 0, 65, [])), (65, (2, 2, 0, 0, 66, [])), (66, (0, 0, 0, 24, 68, [])), (68, (9, 2, 0, 0, 69, [])), (69, (2, 3, 0, 0, 70, [])), (70, (9, 0, 0, 0, 71, [])), (71, (4, 1, 0, 0, 72, [])), (72, (2, 2, 0, 0, 73, [])), (73, (2, 3, 0, 0, 74, [])), (77, (0, 0, 0, 0, 78, [])), (81, (21, 0, 0, 0, 82, [])), (82, (8, 3, 0, 1, 85, [])), (85, (15, 0, 0, 0, 55, [])), (88, (8, 2, 0, 1, 91, [])), (91, (15, 0, 0, 0, 11, [])), (94, (0, 0, 0, 0, 95, [])), (95, (5, 2, 0, 0, 96, [])), (96, (2, 2, 0, 0, 97, [])), (97, (4, 1, 0, 0, 98, [])), (98, (18, 6, 9, 0, 101, [])), (101, (16, 1, 104, 0, 141, [])), (104, (0, 0, 0, 0, 105, [])), (105, (5, 3, 0, 0, 106, [])), (106, (2, 3, 0, 0, 107, [])), (107, (0, 0, 0, 24, 109, [])), (109, (16, 1, 112, 0, 135, [])), (112, (4, 0, 0, 0, 113, [])), (113, (18, 0, 5, 0, 116, [])), (116, (2, 2, 0, 0, 117, [])), (117, (0, 0, 0, 24, 119, [])), (119, (9, 2, 0, 0, 120, [])), (120, (2, 3, 0, 0, 121, [])), (121, (9, 0, 0, 0, 122, [])), (122, (4, 1, 0, 0, 123, [])), (123, (18, 6, 4, 0, 126, [])), (126, (2, 2, 0, 0, 127, [])), (127, (20, 0, 0, 0, 128, [])), (128, (21, 0, 0, 0, 129, [])), (129, (8, 3, 0, 1, 132, [])), (132, (15, 0, 0, 0, 106, [])), (135, (8, 2, 0, 1, 138, [])), (138, (15, 0, 0, 0, 96, [])), (141, (29, 0, 0, 0, 142, []))]
set_option maxRecDepth 100000 in
theorem K_X0_begin : ztbok F_X0_begin T_X0_begin := ztbB_ok (by decide +kernel)
set_option maxRecDepth 100000 in
theorem W_X0_begin : zMth yX0_begin (.code yX0_begin cX0_begin 4 (none)) 1 := ⟨z_at 789 (by decide +kernel) (by decide +kernel), z_at 5 (by decide +kernel) (by decide +kernel), ⟨by decide +kernel, by decide +kernel⟩, by decide +kernel⟩
set_option maxRecDepth 100000 in
theorem I_X0_begin : Cond.instanceMethod yX0_begin ∈ zws := z_at 787 (by decide +kernel) (by decide +kernel)
set_option maxRecDepth 100000 in
theorem S_X0_begin : Cond.selects yX0_begin.cls yX0_begin yX0_begin ∈ zws := z_at 788 (by decide +kernel) (by decide +kernel)
abbrev F_X0_copyFrom : zF := (0, cX0_copyFrom, none, 2, [], false)
def T_X0_copyFrom : List (Nat × zI) := [(0, (4, 1, 0, 0, 1, [])), (1, (18, 0, 0, 0, 4, [])), (4, (0, 0, 0, 0, 5, [])), (5, (4, 0, 0, 0, 6, [])), (6, (18, 0, 0, 0, 9, [])), (9, (0, 0, 0, 0, 10, [])), (10, (0, 0, 0, 12, 12, [])), (15, (4, 1, 0, 0, 16, [])), (16, (18, 0, 1, 0, 19, [])), (19, (0, 0, 0, 0, 20, [])), (20, (4, 0, 0, 0, 21, [])), (21, (18, 0, 1, 0, 24, [])), (24, (0, 0, 0, 0, 25, [])), (25, (0, 0, 0, 12, 27, [])), (30, (4, 1, 0, 0, 31, [])), (31, (18, 0, 2, 0, 34, [])), (34, (0, 0, 0, 0, 35, [])), (35, (4, 0, 0, 0, 36, [])), (36, (18, 0, 2, 0, 39, [])), (39, (0, 0, 0, 0, 40, [])), (40, (0, 0, 0, 12, 42, [])), (45, (4, 1, 0, 0, 46, [])), (46, (18, 0, 3, 0, 49, [])), (49, (0, 0, 0, 0, 50, [])), (50, (4, 0, 0, 0, 51, [])), (51, (18, 0, 3, 0, 54, [])), (54, (0, 0, 0, 0, 55, [])), (55, (0, 0, 0, 12, 57, [])), (60, (4, 1, 0, 0, 61, [])), (61, (18, 0, 4, 0, 64, [])), (64, (0, 0, 0, 0, 65, [])), (65, (4, 0, 0, 0, 66, [])), (66, (18, 0, 4, 0, 69, [])), (69, (0, 0, 0, 0, 70, [])), (70, (0, 0, 0, 144, 73, [])), (76, (4, 1, 0, 0, 77, [])), (77, (18, 0, 5, 0, 80, [])), (80, (0, 0, 0, 0, 81, [])), (81, (4, 0, 0, 0, 82, [])), (82, (18, 0, 5, 0, 85, [])), (85, (0, 0, 0, 0, 86, [])), (86, (0, 0, 0, 72, 88, [])), (91, (4, 1, 0, 0, 92, [])), (92, (18, 0, 6, 0, 95, [])), (95, (0, 0, 0, 0, 96, [])), (96, (4, 0, 0, 0, 97, [])), (97, (18, 0, 6, 0, 100, [])), (100, (0, 0, 0, 0, 101, [])), (101, (0, 0, 0, 8, 103, [])), (106, (4, 0, 0, 0, 107, [])), (107, (4, 1, 0, 0, 108, [])), (108, (18, 0, 7, 0, 111, [])), (111, (19, 0, 7, 0, 114, [])), (114, (4, 0, 0, 0, 115, [])), (115, (4, 1, 0, 0, 116, [])), (116, (18, 0, 8, 0, 119, [])), (119, (19, 0, 8, 0, 122, [])), (122, (4, 0, 0, 0, 123, [])), (123, (4, 1, 0, 0, 124, [])), (124, (18, 0, 9, 0, 127, [])), (127, (19, 0, 9, 0, 130, [])), (130, (29, 0, 0, 0, 131, []))]
set_option maxRecDepth 100000 in
theorem K_X0_copyFrom : ztbok F_X0_copyFrom T_X0_copyFrom := ztbB_ok (by decide +kernel)
set_option maxRecDepth 100000 in
theorem W_X0_copyFrom : zMth yX0_copyFrom (.code yX0_copyFrom cX0_copyFrom 2 (none)) 1 := ⟨z_at 531 (by decide +kernel) (by decide +kernel), z_at 5 (by decide +kernel) (by decide +kernel), ⟨by decide +kernel, by decide +kernel⟩, by decide +kernel⟩
set_option maxRecDepth 100000 in
theorem I_X0_copyFrom : Cond.instanceMethod yX0_copyFrom ∈ zws := z_at 529 (by decide +kernel) (by decide +kernel)
set_option maxRecDepth 100000 in
theorem S_X0_copyFrom : Cond.selects yX0_copyFrom.cls yX0_copyFrom yX0_copyFrom ∈ zws := z_at 530 (by decide +kernel) (by decide +kernel)
abbrev F_X0_shoesOf : zF := (0, cX0_shoesOf, some .int, 3, [], false)
def T_X0_shoesOf : List (Nat × zI) := [(0, (4, 0, 0, 0, 1, [])), (1, (18, 0, 3, 0, 4, [])), (4, (2, 1, 0, 0, 5, [])), (5, (0, 0, 0, 2, 6, [])), (6, (9, 2, 0, 0, 7, [])), (7, (2, 2, 0, 0, 8, [])), (8, (9, 0, 0, 0, 9, [])), (9, (0, 0, 0, 1, 10, [])), (10, (9, 1, 0, 0, 11, [])), (11, (20, 0, 0, 0, 12, [])), (12, (27, 0, 0, 0, 13, []))]
set_option maxRecDepth 100000 in
theorem K_X0_shoesOf : ztbok F_X0_shoesOf T_X0_shoesOf := ztbB_ok (by decide +kernel)
set_option maxRecDepth 100000 in
theorem W_X0_shoesOf : zMth yX0_shoesOf (.code yX0_shoesOf cX0_shoesOf 3 (some .int)) 2 := ⟨z_at 846 (by decide +kernel) (by decide +kernel), z_at 5 (by decide +kernel) (by decide +kernel), ⟨by decide +kernel, by decide +kernel⟩, by decide +kernel⟩
set_option maxRecDepth 100000 in
theorem I_X0_shoesOf : Cond.instanceMethod yX0_shoesOf ∈ zws := z_at 844 (by decide +kernel) (by decide +kernel)
set_option maxRecDepth 100000 in
theorem S_X0_shoesOf : Cond.selects yX0_shoesOf.cls yX0_shoesOf yX0_shoesOf ∈ zws := z_at 845 (by decide +kernel) (by decide +kernel)
abbrev F_X0_shoeKinds : zF := (0, cX0_shoeKinds, some .int, 4, [], false)
def T_X0_shoeKinds : List (Nat × zI) := [(0, (4, 0, 0, 0, 1, [])), (1, (18, 0, 3, 0, 4, [])), (4, (2, 1, 0, 0, 5, [])), (5, (0, 0, 0, 2, 6, [])), (6, (9, 2, 0, 0, 7, [])), (7, (20, 0, 0, 0, 8, [])), (8, (17, 2, 11, 0, 15, [])), (11, (0, 0, 0, 1, 12, [])), (12, (15, 0, 0, 0, 16, [])), (15, (0, 0, 0, 0, 16, [])), (16, (5, 2, 0, 0, 17, [])), (17, (4, 0, 0, 0, 18, [])), (18, (18, 0, 3, 0, 21, [])), (21, (2, 1, 0, 0, 22, [])), (22, (0, 0, 0, 2, 23, [])), (23, (9, 2, 0, 0, 24, [])), (24, (0, 0, 0, 1, 25, [])), (25, (9, 0, 0, 0, 26, [])), (26, (20, 0, 0, 0, 27, [])), (27, (17, 2, 30, 0, 34, [])), (30, (0, 0, 0, 2, 31, [])), (31, (15, 0, 0, 0, 35, [])), (34, (0, 0, 0, 0, 35, [])), (35, (5, 3, 0, 0, 36, [])), (36, (2, 2, 0, 0, 37, [])), (37, (2, 3, 0, 0, 38, [])), (38, (9, 4, 0, 0, 39, [])), (39, (27, 0, 0, 0, 40, []))]
set_option maxRecDepth 100000 in
theorem K_X0_shoeKinds : ztbok F_X0_shoeKinds T_X0_shoeKinds := ztbB_ok (by decide +kernel)
set_option maxRecDepth 100000 in
theorem W_X0_shoeKinds : zMth yX0_shoeKinds (.code yX0_shoeKinds cX0_shoeKinds 4 (some .int)) 1 := ⟨z_at 518 (by decide +kernel) (by decide +kernel), z_at 5 (by decide +kernel) (by decide +kernel), ⟨by decide +kernel, by decide +kernel⟩, by decide +kernel⟩
set_option maxRecDepth 100000 in
theorem I_X0_shoeKinds : Cond.instanceMethod yX0_shoeKinds ∈ zws := z_at 516 (by decide +kernel) (by decide +kernel)
set_option maxRecDepth 100000 in
theorem S_X0_shoeKinds : Cond.selects yX0_shoeKinds.cls yX0_shoeKinds yX0_shoeKinds ∈ zws := z_at 517 (by decide +kernel) (by decide +kernel)
abbrev F_X0_canLend : zF := (0, cX0_canLend, some .boolean, 4, [], false)
def T_X0_canLend : List (Nat × zI) := [(0, (2, 2, 0, 0, 1, [])), (1, (0, 0, 0, 1, 2, [])), (2, (16, 0, 10, 0, 5, [])), (5, (2, 2, 0, 0, 6, [])), (6, (0, 0, 0, 2, 7, [])), (7, (16, 0, 10, 0, 14, [])), (10, (0, 0, 0, 1, 11, [])), (11, (15, 0, 0, 0, 15, [])), (14, (0, 0, 0, 0, 15, [])), (15, (5, 3, 0, 0, 16, [])), (16, (4, 0, 0, 0, 17, [])), (17, (18, 0, 7, 0, 20, [])), (20, (0, 0, 0, 12, 22, [])), (22, (16, 1, 25, 0, 42, [])), (25, (2, 3, 0, 0, 26, [])), (26, (17, 0, 42, 0, 29, [])), (29, (4, 0, 0, 0, 30, [])), (30, (2, 1, 0, 0, 31, [])), (31, (2, 2, 0, 0, 32, [])), (35, (17, 2, 38, 0, 42, [])), (38, (0, 0, 0, 1, 39, [])), (39, (15, 0, 0, 0, 43, [])), (42, (0, 0, 0, 0, 43, [])), (43, (27, 0, 0, 0, 44, []))]
set_option maxRecDepth 100000 in
theorem K_X0_canLend : ztbok F_X0_canLend T_X0_canLend := ztbB_ok (by decide +kernel)
set_option maxRecDepth 100000 in
theorem W_X0_canLend : zMth yX0_canLend (.code yX0_canLend cX0_canLend 4 (some .boolean)) 2 := ⟨z_at 886 (by decide +kernel) (by decide +kernel), z_at 5 (by decide +kernel) (by decide +kernel), ⟨by decide +kernel, by decide +kernel⟩, by decide +kernel⟩
set_option maxRecDepth 100000 in
theorem I_X0_canLend : Cond.instanceMethod yX0_canLend ∈ zws := z_at 884 (by decide +kernel) (by decide +kernel)
set_option maxRecDepth 100000 in
theorem S_X0_canLend : Cond.selects yX0_canLend.cls yX0_canLend yX0_canLend ∈ zws := z_at 885 (by decide +kernel) (by decide +kernel)
abbrev F_X0_handOver : zF := (0, cX0_handOver, none, 4, [], false)
def T_X0_handOver : List (Nat × zI) := [(0, (4, 0, 0, 0, 1, [])), (1, (18, 0, 0, 0, 4, [])), (4, (4, 0, 0, 0, 5, [])), (5, (18, 0, 7, 0, 8, [])), (8, (2, 1, 0, 0, 9, [])), (9, (21, 0, 0, 0, 10, [])), (10, (4, 0, 0, 0, 11, [])), (11, (18, 0, 1, 0, 14, [])), (14, (4, 0, 0, 0, 15, [])), (15, (18, 0, 7, 0, 18, [])), (18, (2, 2, 0, 0, 19, [])), (19, (21, 0, 0, 0, 20, [])), (20, (4, 0, 0, 0, 21, [])), (21, (18, 0, 2, 0, 24, [])), (24, (4, 0, 0, 0, 25, [])), (25, (18, 0, 7, 0, 28, [])), (28, (2, 3, 0, 0, 29, [])), (29, (21, 0, 0, 0, 30, [])), (30, (4, 0, 0, 0, 31, [])), (31, (12, 0, 0, 0, 32, [])), (32, (18, 0, 7, 0, 35, [])), (35, (0, 0, 0, 1, 36, [])), (36, (9, 0, 0, 0, 37, [])), (37, (19, 0, 7, 0, 40, [])), (40, (4, 0, 0, 0, 41, [])), (41, (2, 1, 0, 0, 42, [])), (42, (2, 2, 0, 0, 43, [])), (43, (2, 3, 0, 0, 44, [])), (47, (29, 0, 0, 0, 48, []))]
set_option maxRecDepth 100000 in
theorem K_X0_handOver : ztbok F_X0_handOver T_X0_handOver := ztbB_ok (by decide +kernel)
set_option maxRecDepth 100000 in
theorem W_X0_handOver : zMth yX0_handOver (.code yX0_handOver cX0_handOver 4 (none)) 3 := ⟨z_at 891 (by decide +kernel) (by decide +kernel), z_at 5 (by decide +kernel) (by decide +kernel), ⟨by decide +kernel, by decide +kernel⟩, by decide +kernel⟩
set_option maxRecDepth 100000 in
theorem I_X0_handOver : Cond.instanceMethod yX0_handOver ∈ zws := z_at 889 (by decide +kernel) (by decide +kernel)
set_option maxRecDepth 100000 in
theorem S_X0_handOver : Cond.selects yX0_handOver.cls yX0_handOver yX0_handOver ∈ zws := z_at 890 (by decide +kernel) (by decide +kernel)
abbrev F_X0_handBack : zF := (0, cX0_handBack, none, 1, [], false)
def T_X0_handBack : List (Nat × zI) := [(0, (4, 0, 0, 0, 1, [])), (1, (12, 0, 0, 0, 2, [])), (2, (18, 0, 7, 0, 5, [])), (5, (0, 0, 0, 1, 6, [])), (6, (9, 1, 0, 0, 7, [])), (7, (19, 0, 7, 0, 10, [])), (10, (4, 0, 0, 0, 11, [])), (11, (4, 0, 0, 0, 12, [])), (12, (18, 0, 1, 0, 15, [])), (15, (4, 0, 0, 0, 16, [])), (16, (18, 0, 7, 0, 19, [])), (19, (20, 0, 0, 0, 20, [])), (20, (4, 0, 0, 0, 21, [])), (21, (18, 0, 0, 0, 24, [])), (24, (4, 0, 0, 0, 25, [])), (25, (18, 0, 7, 0, 28, [])), (28, (20, 0, 0, 0, 29, [])), (29, (4, 0, 0, 0, 30, [])), (30, (18, 0, 2, 0, 33, [])), (33, (4, 0, 0, 0, 34, [])), (34, (18, 0, 7, 0, 37, [])), (37, (20, 0, 0, 0, 38, [])), (41, (29, 0, 0, 0, 42, []))]
set_option maxRecDepth 100000 in
theorem K_X0_handBack : ztbok F_X0_handBack T_X0_handBack := ztbB_ok (by decide +kernel)
set_option maxRecDepth 100000 in
theorem W_X0_handBack : zMth yX0_handBack (.code yX0_handBack cX0_handBack 1 (none)) 0 := ⟨z_at 451 (by decide +kernel) (by decide +kernel), z_at 5 (by decide +kernel) (by decide +kernel), ⟨by decide +kernel, by decide +kernel⟩, by decide +kernel⟩
set_option maxRecDepth 100000 in
theorem I_X0_handBack : Cond.instanceMethod yX0_handBack ∈ zws := z_at 449 (by decide +kernel) (by decide +kernel)
set_option maxRecDepth 100000 in
theorem S_X0_handBack : Cond.selects yX0_handBack.cls yX0_handBack yX0_handBack ∈ zws := z_at 450 (by decide +kernel) (by decide +kernel)
abbrev F_X0_move : zF := (0, cX0_move, none, 4, [], false)
def T_X0_move : List (Nat × zI) := [(0, (4, 0, 0, 0, 1, [])), (1, (18, 0, 3, 0, 4, [])), (4, (2, 1, 0, 0, 5, [])), (5, (0, 0, 0, 2, 6, [])), (6, (9, 2, 0, 0, 7, [])), (7, (2, 3, 0, 0, 8, [])), (8, (9, 0, 0, 0, 9, [])), (9, (0, 0, 0, 1, 10, [])), (10, (9, 1, 0, 0, 11, [])), (11, (13, 0, 0, 0, 12, [])), (12, (20, 0, 0, 0, 13, [])), (13, (0, 0, 0, 1, 14, [])), (14, (9, 1, 0, 0, 15, [])), (15, (21, 0, 0, 0, 16, [])), (16, (4, 0, 0, 0, 17, [])), (17, (18, 0, 3, 0, 20, [])), (20, (2, 2, 0, 0, 21, [])), (21, (0, 0, 0, 2, 22, [])), (22, (9, 2, 0, 0, 23, [])), (23, (2, 3, 0, 0, 24, [])), (24, (9, 0, 0, 0, 25, [])), (25, (0, 0, 0, 1, 26, [])), (26, (9, 1, 0, 0, 27, [])), (27, (13, 0, 0, 0, 28, [])), (28, (20, 0, 0, 0, 29, [])), (29, (0, 0, 0, 1, 30, [])), (30, (9, 0, 0, 0, 31, [])), (31, (21, 0, 0, 0, 32, [])), (32, (29, 0, 0, 0, 33, []))]
set_option maxRecDepth 100000 in
theorem K_X0_move : ztbok F_X0_move T_X0_move := ztbB_ok (by decide +kernel)
set_option maxRecDepth 100000 in
theorem W_X0_move : zMth yX0_move (.code yX0_move cX0_move 4 (none)) 3 := ⟨z_at 455 (by decide +kernel) (by decide +kernel), z_at 5 (by decide +kernel) (by decide +kernel), ⟨by decide +kernel, by decide +kernel⟩, by decide +kernel⟩
set_option maxRecDepth 100000 in
theorem I_X0_move : Cond.instanceMethod yX0_move ∈ zws := z_at 454 (by decide +kernel) (by decide +kernel)
set_option maxRecDepth 100000 in
theorem S_X0_move : Cond.selects yX0_move.cls yX0_move yX0_move ∈ zws := z_in (List.mem_append_left _ (List.mem_map.mpr ⟨_, List.mem_of_getElem? (i := 1) rfl, rfl⟩)) rfl
abbrev F_X0_doing : zF := (0, cX0_doing, some .int, 3, [], false)
def T_X0_doing : List (Nat × zI) := [(0, (4, 0, 0, 0, 1, [])), (1, (18, 0, 4, 0, 4, [])), (4, (2, 1, 0, 0, 5, [])), (5, (0, 0, 0, 24, 7, [])), (7, (9, 2, 0, 0, 8, [])), (8, (2, 2, 0, 0, 9, [])), (9, (9, 0, 0, 0, 10, [])), (10, (20, 0, 0, 0, 11, [])), (11, (27, 0, 0, 0, 12, []))]
set_option maxRecDepth 100000 in
theorem K_X0_doing : ztbok F_X0_doing T_X0_doing := ztbB_ok (by decide +kernel)
set_option maxRecDepth 100000 in
theorem W_X0_doing : zMth yX0_doing (.code yX0_doing cX0_doing 3 (some .int)) 2 := ⟨z_at 902 (by decide +kernel) (by decide +kernel), z_at 5 (by decide +kernel) (by decide +kernel), ⟨by decide +kernel, by decide +kernel⟩, by decide +kernel⟩
set_option maxRecDepth 100000 in
theorem I_X0_doing : Cond.instanceMethod yX0_doing ∈ zws := z_at 900 (by decide +kernel) (by decide +kernel)
set_option maxRecDepth 100000 in
theorem S_X0_doing : Cond.selects yX0_doing.cls yX0_doing yX0_doing ∈ zws := z_at 901 (by decide +kernel) (by decide +kernel)
abbrev F_X0_drawDay : zF := (0, cX0_drawDay, none, 9, [], false)
def T_X0_drawDay : List (Nat × zI) := [(0, (2, 2, 0, 0, 1, [])), (1, (5, 3, 0, 0, 2, [])), (2, (0, 0, 0, 0, 3, [])), (3, (5, 4, 0, 0, 5, [])), (5, (2, 4, 0, 0, 7, [])), (7, (0, 0, 0, 24, 9, [])), (9, (16, 1, 12, 0, 104, [])), (12, (0, 0, 0, 0, 13, [])), (13, (5, 5, 0, 0, 15, [])), (15, (2, 5, 0, 0, 17, [])), (17, (4, 1, 0, 0, 18, [])), (18, (18, 6, 8, 0, 21, [])), (21, (16, 1, 24, 0, 98, [])), (24, (4, 1, 0, 0, 25, [])), (25, (2, 5, 0, 0, 27, [])), (27, (2, 4, 0, 0, 29, [])), (32, (5, 6, 0, 0, 34, [])), (34, (2, 6, 0, 0, 36, [])), (39, (5, 7, 0, 0, 41, [])), (41, (0, 0, 0, 0, 42, [])), (42, (5, 8, 0, 0, 44, [])), (44, (2, 7, 0, 0, 46, [])), (46, (0, 0, 0, 1, 47, [])), (47, (16, 2, 50, 0, 72, [])), (50, (2, 3, 0, 0, 51, [])), (51, (0, 0, 0, 1103515245, 53, [])), (53, (9, 2, 0, 0, 54, [])), (54, (0, 0, 0, 12345, 57, [])), (57, (9, 0, 0, 0, 58, [])), (58, (5, 3, 0, 0, 59, [])), (59, (2, 3, 0, 0, 60, [])), (60, (0, 0, 0, 16, 62, [])), (62, (9, 8, 0, 0, 63, [])), (63, (0, 0, 0, 32767, 66, [])), (66, (9, 3, 0, 0, 67, [])), (67, (2, 7, 0, 0, 69, [])), (69, (9, 10, 0, 0, 70, [])), (70, (5, 8, 0, 0, 72, [])), (72, (4, 0, 0, 0, 73, [])), (73, (18, 0, 4, 0, 76, [])), (76, (2, 5, 0, 0, 78, [])), (78, (0, 0, 0, 24, 80, [])), (80, (9, 2, 0, 0, 81, [])), (81, (2, 4, 0, 0, 83, [])), (83, (9, 0, 0, 0, 84, [])), (84, (2, 6, 0, 0, 86, [])), (86, (2, 8, 0, 0, 88, [])), (91, (21, 0, 0, 0, 92, [])), (92, (8, 5, 0, 1, 95, [])), (95, (15, 0, 0, 0, 15, [])), (98, (8, 4, 0, 1, 101, [])), (101, (15, 0, 0, 0, 5, [])), (104, (29, 0, 0, 0, 105, []))]
set_option maxRecDepth 100000 in
theorem K_X0_drawDay : ztbok F_X0_drawDay T_X0_drawDay := ztbB_ok (by decide +kernel)
set_option maxRecDepth 100000 in
theorem W_X0_drawDay : zMth yX0_drawDay (.code yX0_drawDay cX0_drawDay 9 (none)) 2 := ⟨z_at 463 (by decide +kernel) (by decide +kernel), z_at 5 (by decide +kernel) (by decide +kernel), ⟨by decide +kernel, by decide +kernel⟩, by decide +kernel⟩
set_option maxRecDepth 100000 in
theorem I_X0_drawDay : Cond.instanceMethod yX0_drawDay ∈ zws := z_at 461 (by decide +kernel) (by decide +kernel)
set_option maxRecDepth 100000 in
theorem S_X0_drawDay : Cond.selects yX0_drawDay.cls yX0_drawDay yX0_drawDay ∈ zws := z_at 462 (by decide +kernel) (by decide +kernel)
abbrev F_X0_hasSeen : zF := (0, cX0_hasSeen, some .boolean, 3, [], false)
def T_X0_hasSeen : List (Nat × zI) := [(0, (2, 2, 0, 0, 1, [])), (1, (4, 0, 0, 0, 2, [])), (2, (18, 0, 8, 0, 5, [])), (5, (16, 0, 8, 0, 24, [])), (8, (4, 0, 0, 0, 9, [])), (9, (18, 0, 9, 0, 12, [])), (12, (2, 1, 0, 0, 13, [])), (13, (9, 7, 0, 0, 14, [])), (14, (0, 0, 0, 1, 15, [])), (15, (9, 3, 0, 0, 16, [])), (16, (0, 0, 0, 1, 17, [])), (17, (16, 0, 20, 0, 24, [])), (20, (0, 0, 0, 1, 21, [])), (21, (15, 0, 0, 0, 25, [])), (24, (0, 0, 0, 0, 25, [])), (25, (27, 0, 0, 0, 26, []))]
set_option maxRecDepth 100000 in
theorem K_X0_hasSeen : ztbok F_X0_hasSeen T_X0_hasSeen := ztbB_ok (by decide +kernel)
set_option maxRecDepth 100000 in
theorem W_X0_hasSeen : zMth yX0_hasSeen (.code yX0_hasSeen cX0_hasSeen 3 (some .boolean)) 2 := ⟨z_at 948 (by decide +kernel) (by decide +kernel), z_at 5 (by decide +kernel) (by decide +kernel), ⟨by decide +kernel, by decide +kernel⟩, by decide +kernel⟩
set_option maxRecDepth 100000 in
theorem I_X0_hasSeen : Cond.instanceMethod yX0_hasSeen ∈ zws := z_at 946 (by decide +kernel) (by decide +kernel)
set_option maxRecDepth 100000 in
theorem S_X0_hasSeen : Cond.selects yX0_hasSeen.cls yX0_hasSeen yX0_hasSeen ∈ zws := z_at 947 (by decide +kernel) (by decide +kernel)
abbrev F_X0_note : zF := (0, cX0_note, none, 4, [], false)
def T_X0_note : List (Nat × zI) := [(0, (2, 2, 0, 0, 1, [])), (1, (4, 0, 0, 0, 2, [])), (2, (18, 0, 8, 0, 5, [])), (5, (16, 0, 18, 0, 8, [])), (8, (4, 0, 0, 0, 9, [])), (9, (0, 0, 0, 0, 10, [])), (10, (19, 0, 9, 0, 13, [])), (13, (4, 0, 0, 0, 14, [])), (14, (2, 2, 0, 0, 15, [])), (15, (19, 0, 8, 0, 18, [])), (18, (4, 0, 0, 0, 19, [])), (19, (12, 0, 0, 0, 20, [])), (20, (18, 0, 9, 0, 23, [])), (23, (0, 0, 0, 1, 24, [])), (24, (2, 1, 0, 0, 25, [])), (25, (9, 6, 0, 0, 26, [])), (26, (9, 4, 0, 0, 27, [])), (27, (19, 0, 9, 0, 30, [])), (30, (4, 0, 0, 0, 31, [])), (31, (18, 0, 6, 0, 34, [])), (34, (2, 1, 0, 0, 35, [])), (35, (2, 3, 0, 0, 36, [])), (36, (21, 0, 0, 0, 37, [])), (37, (29, 0, 0, 0, 38, []))]
set_option maxRecDepth 100000 in
theorem K_X0_note : ztbok F_X0_note T_X0_note := ztbB_ok (by decide +kernel)
set_option maxRecDepth 100000 in
theorem W_X0_note : zMth yX0_note (.code yX0_note cX0_note 4 (none)) 3 := ⟨z_at 952 (by decide +kernel) (by decide +kernel), z_at 5 (by decide +kernel) (by decide +kernel), ⟨by decide +kernel, by decide +kernel⟩, by decide +kernel⟩
set_option maxRecDepth 100000 in
theorem I_X0_note : Cond.instanceMethod yX0_note ∈ zws := z_at 950 (by decide +kernel) (by decide +kernel)
set_option maxRecDepth 100000 in
theorem S_X0_note : Cond.selects yX0_note.cls yX0_note yX0_note ∈ zws := z_at 951 (by decide +kernel) (by decide +kernel)
abbrev F_X0_seeNothing : zF := (0, cX0_seeNothing, none, 1, [], false)
def T_X0_seeNothing : List (Nat × zI) := [(0, (4, 0, 0, 0, 1, [])), (1, (0, 0, 0, (-1), 2, [])), (2, (19, 0, 8, 0, 5, [])), (5, (4, 0, 0, 0, 6, [])), (6, (0, 0, 0, 0, 7, [])), (7, (19, 0, 9, 0, 10, [])), (10, (29, 0, 0, 0, 11, []))]
set_option maxRecDepth 100000 in
theorem K_X0_seeNothing : ztbok F_X0_seeNothing T_X0_seeNothing := ztbB_ok (by decide +kernel)
set_option maxRecDepth 100000 in
theorem W_X0_seeNothing : zMth yX0_seeNothing (.code yX0_seeNothing cX0_seeNothing 1 (none)) 0 := ⟨z_at 486 (by decide +kernel) (by decide +kernel), z_at 5 (by decide +kernel) (by decide +kernel), ⟨by decide +kernel, by decide +kernel⟩, by decide +kernel⟩
set_option maxRecDepth 100000 in
theorem I_X0_seeNothing : Cond.instanceMethod yX0_seeNothing ∈ zws := z_at 484 (by decide +kernel) (by decide +kernel)
set_option maxRecDepth 100000 in
theorem S_X0_seeNothing : Cond.selects yX0_seeNothing.cls yX0_seeNothing yX0_seeNothing ∈ zws := z_at 485 (by decide +kernel) (by decide +kernel)
abbrev F_X1_init : zF := (1, cX1_init, none, 4, [], true)
def T_X1_init : List (Nat × zI) := [(0, (4, 0, 0, 0, 1, [])), (1, (35, 0, 0, 0, 4, [])), (4, (4, 0, 0, 0, 5, [])), (5, (0, 0, 0, 6, 7, [])), (7, (31, 1, 0, 0, 9, [])), (9, (19, 1, 3, 0, 12, [])), (12, (4, 0, 0, 0, 13, [])), (13, (4, 1, 0, 0, 14, [])), (14, (19, 1, 0, 0, 17, [])), (17, (4, 0, 0, 0, 18, [])), (18, (4, 2, 0, 0, 19, [])), (19, (19, 1, 1, 0, 22, [])), (22, (4, 0, 0, 0, 23, [])), (23, (4, 3, 0, 0, 24, [])), (24, (19, 1, 2, 0, 27, [])), (27, (29, 0, 0, 0, 28, []))]
set_option maxRecDepth 100000 in
theorem K_X1_init : ztbok F_X1_init T_X1_init := ztbB_ok (by decide +kernel)
set_option maxRecDepth 100000 in
theorem W_X1_init : zMth yX1_init (.code yX1_init cX1_init 4 (none)) 3 := ⟨z_at 225 (by decide +kernel) (by decide +kernel), z_at 7 (by decide +kernel) (by decide +kernel), ⟨by decide +kernel, by decide +kernel⟩, by decide +kernel⟩
set_option maxRecDepth 100000 in
theorem I_X1_init : Cond.instanceMethod yX1_init ∈ zws := z_at 224 (by decide +kernel) (by decide +kernel)
abbrev F_X1_reckon : zF := (1, cX1_reckon, some .int, 3, [], false)
def T_X1_reckon : List (Nat × zI) := [(0, (4, 0, 0, 0, 1, [])), (1, (18, 1, 1, 0, 4, [])), (4, (18, 0, 8, 0, 7, [])), (7, (0, 0, 0, (-1), 8, [])), (8, (16, 0, 11, 0, 15, [])), (11, (0, 0, 0, 0, 12, [])), (12, (15, 0, 0, 0, 22, [])), (15, (4, 0, 0, 0, 16, [])), (16, (18, 1, 1, 0, 19, [])), (19, (18, 0, 8, 0, 22, [])), (22, (5, 1, 0, 0, 23, [])), (23, (4, 0, 0, 0, 24, [])), (24, (18, 1, 0, 0, 27, [])), (27, (2, 1, 0, 0, 28, [])), (31, (0, 0, 0, (-2), 33, [])), (33, (16, 0, 36, 0, 44, [])), (36, (4, 0, 0, 0, 37, [])), (37, (0, 0, 0, 0, 38, [])), (38, (19, 1, 4, 0, 41, [])), (41, (0, 0, 0, (-2), 43, [])), (43, (27, 0, 0, 0, 44, [])), (44, (4, 0, 0, 0, 45, [])), (45, (4, 0, 0, 0, 46, [])), (49, (17, 0, 56, 0, 52, [])), (52, (0, 0, 0, 1, 53, [])), (53, (15, 0, 0, 0, 57, [])), (56, (0, 0, 0, 0, 57, [])), (57, (19, 1, 4, 0, 60, [])), (60, (0, 0, 0, 0, 61, [])), (61, (5, 2, 0, 0, 62, [])), (62, (2, 2, 0, 0, 63, [])), (63, (4, 0, 0, 0, 64, [])), (64, (18, 1, 0, 0, 67, [])), (67, (18, 6, 8, 0, 70, [])), (70, (16, 1, 73, 0, 109, [])), (73, (4, 0, 0, 0, 74, [])), (74, (18, 1, 3, 0, 77, [])), (77, (2, 2, 0, 0, 78, [])), (78, (4, 0, 0, 0, 79, [])), (79, (2, 2, 0, 0, 80, [])), (80, (2, 1, 0, 0, 81, [])), (84, (21, 0, 0, 0, 85, [])), (85, (4, 0, 0, 0, 86, [])), (86, (12, 0, 0, 0, 87, [])), (87, (18, 1, 4, 0, 90, [])), (90, (4, 0, 0, 0, 91, [])), (91, (18, 1, 3, 0, 94, [])), (94, (2, 2, 0, 0, 95, [])), (95, (20, 0, 0, 0, 96, [])), (99, (9, 2, 0, 0, 100, [])), (100, (19, 1, 4, 0, 103, [])), (103, (8, 2, 0, 1, 106, [])), (106, (15, 0, 0, 0, 62, [])), (109, (4, 0, 0, 0, 110, [])), (110, (18, 1, 4, 0, 113, [])), (113, (27, 0, 0, 0, 114, []))]
set_option maxRecDepth 100000 in
theorem K_X1_reckon : ztbok F_X1_reckon T_X1_reckon := ztbB_ok (by decide +kernel)
set_option maxRecDepth 100000 in
theorem W_X1_reckon : zMth yX1_reckon (.code yX1_reckon cX1_reckon 3 (some .int)) 0 := ⟨z_at 494 (by decide +kernel) (by decide +kernel), z_at 7 (by decide +kernel) (by decide +kernel), ⟨by decide +kernel, by decide +kernel⟩, by decide +kernel⟩
set_option maxRecDepth 100000 in
theorem I_X1_reckon : Cond.instanceMethod yX1_reckon ∈ zws := z_at 492 (by decide +kernel) (by decide +kernel)
set_option maxRecDepth 100000 in
theorem S_X1_reckon : Cond.selects yX1_reckon.cls yX1_reckon yX1_reckon ∈ zws := z_at 493 (by decide +kernel) (by decide +kernel)
abbrev F_X1_emptyRoomsHold : zF := (1, cX1_emptyRoomsHold, some .boolean, 3, [], false)
def T_X1_emptyRoomsHold : List (Nat × zI) := [(0, (0, 0, 0, 0, 1, [])), (1, (5, 1, 0, 0, 2, [])), (2, (2, 1, 0, 0, 3, [])), (3, (4, 0, 0, 0, 4, [])), (4, (18, 1, 0, 0, 7, [])), (7, (18, 6, 7, 0, 10, [])), (10, (16, 1, 13, 0, 72, [])), (13, (4, 0, 0, 0, 14, [])), (14, (18, 1, 1, 0, 17, [])), (17, (18, 0, 9, 0, 20, [])), (20, (2, 1, 0, 0, 21, [])), (21, (9, 7, 0, 0, 22, [])), (22, (0, 0, 0, 1, 23, [])), (23, (9, 3, 0, 0, 24, [])), (24, (0, 0, 0, 1, 25, [])), (25, (16, 0, 28, 0, 32, [])), (28, (0, 0, 0, 1, 29, [])), (29, (15, 0, 0, 0, 33, [])), (32, (0, 0, 0, 0, 33, [])), (33, (5, 2, 0, 0, 34, [])), (34, (2, 2, 0, 0, 35, [])), (35, (17, 0, 66, 0, 38, [])), (38, (4, 0, 0, 0, 39, [])), (39, (18, 1, 0, 0, 42, [])), (42, (18, 6, 1, 0, 45, [])), (45, (2, 1, 0, 0, 46, [])), (46, (20, 0, 0, 0, 47, [])), (47, (0, 0, 0, (-1), 48, [])), (48, (16, 0, 51, 0, 66, [])), (51, (4, 0, 0, 0, 52, [])), (52, (18, 1, 1, 0, 55, [])), (55, (18, 0, 6, 0, 58, [])), (58, (2, 1, 0, 0, 59, [])), (59, (20, 0, 0, 0, 60, [])), (60, (0, 0, 0, 3, 61, [])), (61, (16, 0, 66, 0, 64, [])), (64, (0, 0, 0, 0, 65, [])), (65, (27, 0, 0, 0, 66, [])), (66, (8, 1, 0, 1, 69, [])), (69, (15, 0, 0, 0, 2, [])), (72, (0, 0, 0, 1, 73, [])), (73, (27, 0, 0, 0, 74, []))]
set_option maxRecDepth 100000 in
theorem K_X1_emptyRoomsHold : ztbok F_X1_emptyRoomsHold T_X1_emptyRoomsHold := ztbB_ok (by decide +kernel)
set_option maxRecDepth 100000 in
theorem W_X1_emptyRoomsHold : zMth yX1_emptyRoomsHold (.code yX1_emptyRoomsHold cX1_emptyRoomsHold 3 (some .boolean)) 0 := ⟨z_at 504 (by decide +kernel) (by decide +kernel), z_at 7 (by decide +kernel) (by decide +kernel), ⟨by decide +kernel, by decide +kernel⟩, by decide +kernel⟩
set_option maxRecDepth 100000 in
theorem I_X1_emptyRoomsHold : Cond.instanceMethod yX1_emptyRoomsHold ∈ zws := z_at 503 (by decide +kernel) (by decide +kernel)
set_option maxRecDepth 100000 in
theorem S_X1_emptyRoomsHold : Cond.selects yX1_emptyRoomsHold.cls yX1_emptyRoomsHold yX1_emptyRoomsHold ∈ zws := z_in (List.mem_append_left _ (List.mem_map.mpr ⟨_, List.mem_of_getElem? (i := 2) rfl, rfl⟩)) rfl
abbrev F_X1_doingsHeld : zF := (1, cX1_doingsHeld, some .int, 4, [], false)
def T_X1_doingsHeld : List (Nat × zI) := [(0, (4, 0, 0, 0, 1, [])), (1, (18, 1, 0, 0, 4, [])), (4, (18, 6, 2, 0, 7, [])), (7, (2, 1, 0, 0, 8, [])), (8, (20, 0, 0, 0, 9, [])), (9, (5, 3, 0, 0, 10, [])), (10, (4, 0, 0, 0, 11, [])), (11, (18, 1, 1, 0, 14, [])), (14, (18, 0, 9, 0, 17, [])), (17, (2, 3, 0, 0, 18, [])), (18, (9, 7, 0, 0, 19, [])), (19, (0, 0, 0, 1, 20, [])), (20, (9, 3, 0, 0, 21, [])), (21, (17, 0, 24, 0, 34, [])), (24, (4, 0, 0, 0, 25, [])), (25, (18, 1, 0, 0, 28, [])), (28, (2, 1, 0, 0, 29, [])), (29, (2, 2, 0, 0, 30, [])), (33, (27, 0, 0, 0, 34, [])), (34, (4, 0, 0, 0, 35, [])), (35, (18, 1, 2, 0, 38, [])), (38, (2, 1, 0, 0, 39, [])), (39, (2, 2, 0, 0, 40, [])), (40, (4, 0, 0, 0, 41, [])), (41, (18, 1, 1, 0, 44, [])), (44, (18, 0, 6, 0, 47, [])), (47, (2, 3, 0, 0, 48, [])), (48, (20, 0, 0, 0, 49, [])), (52, (27, 0, 0, 0, 53, []))]
set_option maxRecDepth 100000 in
theorem K_X1_doingsHeld : ztbok F_X1_doingsHeld T_X1_doingsHeld := ztbB_ok (by decide +kernel)
set_option maxRecDepth 100000 in
theorem W_X1_doingsHeld : zMth yX1_doingsHeld (.code yX1_doingsHeld cX1_doingsHeld 4 (some .int)) 2 := ⟨z_at 508 (by decide +kernel) (by decide +kernel), z_at 7 (by decide +kernel) (by decide +kernel), ⟨by decide +kernel, by decide +kernel⟩, by decide +kernel⟩
set_option maxRecDepth 100000 in
theorem I_X1_doingsHeld : Cond.instanceMethod yX1_doingsHeld ∈ zws := z_at 507 (by decide +kernel) (by decide +kernel)
set_option maxRecDepth 100000 in
theorem S_X1_doingsHeld : Cond.selects yX1_doingsHeld.cls yX1_doingsHeld yX1_doingsHeld ∈ zws := z_in (List.mem_append_left _ (List.mem_map.mpr ⟨_, List.mem_of_getElem? (i := 3) rfl, rfl⟩)) rfl
abbrev F_X1_doingIn : zF := (1, cX1_doingIn, some .int, 5, [], false)
def T_X1_doingIn : List (Nat × zI) := [(0, (0, 0, 0, 1, 1, [])), (1, (5, 3, 0, 0, 2, [])), (2, (2, 2, 0, 0, 3, [])), (3, (0, 0, 0, 1, 4, [])), (4, (9, 0, 0, 0, 5, [])), (5, (5, 4, 0, 0, 7, [])), (7, (2, 4, 0, 0, 9, [])), (9, (4, 0, 0, 0, 10, [])), (10, (18, 1, 0, 0, 13, [])), (13, (18, 6, 8, 0, 16, [])), (16, (16, 1, 19, 0, 38, [])), (19, (2, 3, 0, 0, 20, [])), (20, (4, 0, 0, 0, 21, [])), (21, (18, 1, 3, 0, 24, [])), (24, (2, 4, 0, 0, 26, [])), (26, (20, 0, 0, 0, 27, [])), (30, (9, 2, 0, 0, 31, [])), (31, (5, 3, 0, 0, 32, [])), (32, (8, 4, 0, 1, 35, [])), (35, (15, 0, 0, 0, 7, [])), (38, (4, 0, 0, 0, 39, [])), (39, (18, 1, 3, 0, 42, [])), (42, (2, 2, 0, 0, 43, [])), (43, (20, 0, 0, 0, 44, [])), (47, (5, 4, 0, 0, 49, [])), (49, (2, 3, 0, 0, 50, [])), (50, (0, 0, 0, 1, 51, [])), (51, (16, 1, 60, 0, 54, [])), (54, (2, 4, 0, 0, 56, [])), (56, (0, 0, 0, 1, 57, [])), (57, (16, 1, 60, 0, 62, [])), (60, (0, 0, 0, (-1), 61, [])), (61, (27, 0, 0, 0, 62, [])), (62, (4, 0, 0, 0, 63, [])), (63, (18, 1, 3, 0, 66, [])), (66, (2, 2, 0, 0, 67, [])), (67, (20, 0, 0, 0, 68, [])), (68, (2, 1, 0, 0, 69, [])), (69, (2, 3, 0, 0, 70, [])), (70, (9, 9, 0, 0, 71, [])), (71, (2, 4, 0, 0, 73, [])), (73, (9, 10, 0, 0, 74, [])), (77, (27, 0, 0, 0, 78, []))]
set_option maxRecDepth 100000 in
theorem K_X1_doingIn : ztbok F_X1_doingIn T_X1_doingIn := ztbB_ok (by decide +kernel)
set_option maxRecDepth 100000 in
theorem W_X1_doingIn : zMth yX1_doingIn (.code yX1_doingIn cX1_doingIn 5 (some .int)) 2 := ⟨z_at 963 (by decide +kernel) (by decide +kernel), z_at 7 (by decide +kernel) (by decide +kernel), ⟨by decide +kernel, by decide +kernel⟩, by decide +kernel⟩
set_option maxRecDepth 100000 in
theorem I_X1_doingIn : Cond.instanceMethod yX1_doingIn ∈ zws := z_at 961 (by decide +kernel) (by decide +kernel)
set_option maxRecDepth 100000 in
theorem S_X1_doingIn : Cond.selects yX1_doingIn.cls yX1_doingIn yX1_doingIn ∈ zws := z_at 962 (by decide +kernel) (by decide +kernel)
abbrev F_X1_casesWithout : zF := (1, cX1_casesWithout, some .int, 4, [], false)
def T_X1_casesWithout : List (Nat × zI) := [(0, (4, 0, 0, 0, 1, [])), (1, (18, 1, 4, 0, 4, [])), (4, (17, 2, 7, 0, 11, [])), (7, (0, 0, 0, 1, 8, [])), (8, (15, 0, 0, 0, 12, [])), (11, (0, 0, 0, 0, 12, [])), (12, (5, 2, 0, 0, 13, [])), (13, (0, 0, 0, 0, 14, [])), (14, (5, 3, 0, 0, 15, [])), (15, (2, 3, 0, 0, 16, [])), (16, (4, 0, 0, 0, 17, [])), (17, (18, 1, 0, 0, 20, [])), (20, (18, 6, 8, 0, 23, [])), (23, (16, 1, 26, 0, 56, [])), (26, (2, 2, 0, 0, 27, [])), (27, (4, 0, 0, 0, 28, [])), (28, (18, 1, 3, 0, 31, [])), (31, (2, 3, 0, 0, 32, [])), (32, (20, 0, 0, 0, 33, [])), (33, (4, 0, 0, 0, 34, [])), (34, (18, 1, 0, 0, 37, [])), (37, (2, 1, 0, 0, 38, [])), (38, (2, 3, 0, 0, 39, [])), (42, (0, 0, 0, (-1), 43, [])), (43, (9, 5, 0, 0, 44, [])), (44, (9, 3, 0, 0, 45, [])), (48, (9, 2, 0, 0, 49, [])), (49, (5, 2, 0, 0, 50, [])), (50, (8, 3, 0, 1, 53, [])), (53, (15, 0, 0, 0, 15, [])), (56, (2, 2, 0, 0, 57, [])), (57, (27, 0, 0, 0, 58, []))]
set_option maxRecDepth 100000 in
theorem K_X1_casesWithout : ztbok F_X1_casesWithout T_X1_casesWithout := ztbB_ok (by decide +kernel)
set_option maxRecDepth 100000 in
theorem W_X1_casesWithout : zMth yX1_casesWithout (.code yX1_casesWithout cX1_casesWithout 4 (some .int)) 1 := ⟨z_at 979 (by decide +kernel) (by decide +kernel), z_at 7 (by decide +kernel) (by decide +kernel), ⟨by decide +kernel, by decide +kernel⟩, by decide +kernel⟩
set_option maxRecDepth 100000 in
theorem I_X1_casesWithout : Cond.instanceMethod yX1_casesWithout ∈ zws := z_at 978 (by decide +kernel) (by decide +kernel)
set_option maxRecDepth 100000 in
theorem S_X1_casesWithout : Cond.selects yX1_casesWithout.cls yX1_casesWithout yX1_casesWithout ∈ zws := z_in (List.mem_append_left _ (List.mem_map.mpr ⟨_, List.mem_of_getElem? (i := 27) rfl, rfl⟩)) rfl
abbrev F_X1_surelyEmpty : zF := (1, cX1_surelyEmpty, some .int, 3, [], false)
def T_X1_surelyEmpty : List (Nat × zI) := [(0, (0, 0, 0, 0, 1, [])), (1, (5, 1, 0, 0, 2, [])), (2, (0, 0, 0, 0, 3, [])), (3, (5, 2, 0, 0, 4, [])), (4, (2, 2, 0, 0, 5, [])), (5, (4, 0, 0, 0, 6, [])), (6, (18, 1, 0, 0, 9, [])), (9, (18, 6, 7, 0, 12, [])), (12, (16, 1, 15, 0, 46, [])), (15, (4, 0, 0, 0, 16, [])), (16, (18, 1, 4, 0, 19, [])), (19, (17, 2, 22, 0, 40, [])), (22, (4, 0, 0, 0, 23, [])), (23, (2, 2, 0, 0, 24, [])), (27, (4, 0, 0, 0, 28, [])), (28, (18, 1, 4, 0, 31, [])), (31, (16, 0, 34, 0, 40, [])), (34, (2, 1, 0, 0, 35, [])), (35, (0, 0, 0, 1, 36, [])), (36, (2, 2, 0, 0, 37, [])), (37, (9, 6, 0, 0, 38, [])), (38, (9, 4, 0, 0, 39, [])), (39, (5, 1, 0, 0, 40, [])), (40, (8, 2, 0, 1, 43, [])), (43, (15, 0, 0, 0, 4, [])), (46, (2, 1, 0, 0, 47, [])), (47, (27, 0, 0, 0, 48, []))]
set_option maxRecDepth 100000 in
theorem K_X1_surelyEmpty : ztbok F_X1_surelyEmpty T_X1_surelyEmpty := ztbB_ok (by decide +kernel)
set_option maxRecDepth 100000 in
theorem W_X1_surelyEmpty : zMth yX1_surelyEmpty (.code yX1_surelyEmpty cX1_surelyEmpty 3 (some .int)) 0 := ⟨z_at 990 (by decide +kernel) (by decide +kernel), z_at 7 (by decide +kernel) (by decide +kernel), ⟨by decide +kernel, by decide +kernel⟩, by decide +kernel⟩
set_option maxRecDepth 100000 in
theorem I_X1_surelyEmpty : Cond.instanceMethod yX1_surelyEmpty ∈ zws := z_at 988 (by decide +kernel) (by decide +kernel)
set_option maxRecDepth 100000 in
theorem S_X1_surelyEmpty : Cond.selects yX1_surelyEmpty.cls yX1_surelyEmpty yX1_surelyEmpty ∈ zws := z_at 989 (by decide +kernel) (by decide +kernel)
abbrev F_X1_surelyTaken : zF := (1, cX1_surelyTaken, some .int, 3, [], false)
def T_X1_surelyTaken : List (Nat × zI) := [(0, (0, 0, 0, 0, 1, [])), (1, (5, 1, 0, 0, 2, [])), (2, (0, 0, 0, 0, 3, [])), (3, (5, 2, 0, 0, 4, [])), (4, (2, 2, 0, 0, 5, [])), (5, (4, 0, 0, 0, 6, [])), (6, (18, 1, 0, 0, 9, [])), (9, (18, 6, 7, 0, 12, [])), (12, (16, 1, 15, 0, 42, [])), (15, (4, 0, 0, 0, 16, [])), (16, (18, 1, 4, 0, 19, [])), (19, (17, 2, 22, 0, 36, [])), (22, (4, 0, 0, 0, 23, [])), (23, (2, 2, 0, 0, 24, [])), (27, (17, 0, 30, 0, 36, [])), (30, (2, 1, 0, 0, 31, [])), (31, (0, 0, 0, 1, 32, [])), (32, (2, 2, 0, 0, 33, [])), (33, (9, 6, 0, 0, 34, [])), (34, (9, 4, 0, 0, 35, [])), (35, (5, 1, 0, 0, 36, [])), (36, (8, 2, 0, 1, 39, [])), (39, (15, 0, 0, 0, 4, [])), (42, (2, 1, 0, 0, 43, [])), (43, (27, 0, 0, 0, 44, []))]
set_option maxRecDepth 100000 in
theorem K_X1_surelyTaken : ztbok F_X1_surelyTaken T_X1_surelyTaken := ztbB_ok (by decide +kernel)
set_option maxRecDepth 100000 in
theorem W_X1_surelyTaken : zMth yX1_surelyTaken (.code yX1_surelyTaken cX1_surelyTaken 3 (some .int)) 0 := ⟨z_at 994 (by decide +kernel) (by decide +kernel), z_at 7 (by decide +kernel) (by decide +kernel), ⟨by decide +kernel, by decide +kernel⟩, by decide +kernel⟩
set_option maxRecDepth 100000 in
theorem I_X1_surelyTaken : Cond.instanceMethod yX1_surelyTaken ∈ zws := z_at 992 (by decide +kernel) (by decide +kernel)
set_option maxRecDepth 100000 in
theorem S_X1_surelyTaken : Cond.selects yX1_surelyTaken.cls yX1_surelyTaken yX1_surelyTaken ∈ zws := z_at 993 (by decide +kernel) (by decide +kernel)
abbrev F_X1_doorToKnockAt : zF := (1, cX1_doorToKnockAt, some .int, 6, [], false)
def T_X1_doorToKnockAt : List (Nat × zI) := [(0, (0, 0, 0, (-1), 1, [])), (1, (5, 1, 0, 0, 2, [])), (2, (4, 0, 0, 0, 3, [])), (3, (18, 1, 4, 0, 6, [])), (6, (5, 2, 0, 0, 7, [])), (7, (0, 0, 0, 0, 8, [])), (8, (5, 3, 0, 0, 9, [])), (9, (2, 3, 0, 0, 10, [])), (10, (4, 0, 0, 0, 11, [])), (11, (18, 1, 0, 0, 14, [])), (14, (18, 6, 7, 0, 17, [])), (17, (16, 1, 20, 0, 70, [])), (20, (4, 0, 0, 0, 21, [])), (21, (18, 1, 4, 0, 24, [])), (24, (17, 2, 27, 0, 70, [])), (27, (4, 0, 0, 0, 28, [])), (28, (2, 3, 0, 0, 29, [])), (32, (5, 4, 0, 0, 34, [])), (34, (2, 4, 0, 0, 36, [])), (36, (4, 0, 0, 0, 37, [])), (37, (18, 1, 4, 0, 40, [])), (40, (2, 4, 0, 0, 42, [])), (42, (9, 1, 0, 0, 43, [])), (46, (5, 5, 0, 0, 48, [])), (48, (2, 1, 0, 0, 49, [])), (49, (0, 0, 0, (-1), 50, [])), (50, (16, 0, 59, 0, 53, [])), (53, (2, 5, 0, 0, 55, [])), (55, (2, 2, 0, 0, 56, [])), (56, (16, 1, 59, 0, 64, [])), (59, (2, 3, 0, 0, 60, [])), (60, (5, 1, 0, 0, 61, [])), (61, (2, 5, 0, 0, 63, [])), (63, (5, 2, 0, 0, 64, [])), (64, (8, 3, 0, 1, 67, [])), (67, (15, 0, 0, 0, 9, [])), (70, (2, 1, 0, 0, 71, [])), (71, (27, 0, 0, 0, 72, []))]
set_option maxRecDepth 100000 in
theorem K_X1_doorToKnockAt : ztbok F_X1_doorToKnockAt T_X1_doorToKnockAt := ztbB_ok (by decide +kernel)
set_option maxRecDepth 100000 in
theorem W_X1_doorToKnockAt : zMth yX1_doorToKnockAt (.code yX1_doorToKnockAt cX1_doorToKnockAt 6 (some .int)) 0 := ⟨z_at 975 (by decide +kernel) (by decide +kernel), z_at 7 (by decide +kernel) (by decide +kernel), ⟨by decide +kernel, by decide +kernel⟩, by decide +kernel⟩
set_option maxRecDepth 100000 in
theorem I_X1_doorToKnockAt : Cond.instanceMethod yX1_doorToKnockAt ∈ zws := z_at 973 (by decide +kernel) (by decide +kernel)
set_option maxRecDepth 100000 in
theorem S_X1_doorToKnockAt : Cond.selects yX1_doorToKnockAt.cls yX1_doorToKnockAt yX1_doorToKnockAt ∈ zws := z_at 974 (by decide +kernel) (by decide +kernel)
abbrev F_X1_roomsOf : zF := (1, cX1_roomsOf, some .int, 4, [], false)
def T_X1_roomsOf : List (Nat × zI) := [(0, (0, 0, 0, 0, 1, [])), (1, (5, 2, 0, 0, 2, [])), (2, (0, 0, 0, 0, 3, [])), (3, (5, 3, 0, 0, 4, [])), (4, (2, 3, 0, 0, 5, [])), (5, (4, 0, 0, 0, 6, [])), (6, (18, 1, 0, 0, 9, [])), (9, (18, 6, 7, 0, 12, [])), (12, (16, 1, 15, 0, 46, [])), (15, (4, 0, 0, 0, 16, [])), (16, (18, 1, 3, 0, 19, [])), (19, (2, 1, 0, 0, 20, [])), (20, (20, 0, 0, 0, 21, [])), (21, (4, 0, 0, 0, 22, [])), (22, (18, 1, 0, 0, 25, [])), (25, (2, 3, 0, 0, 26, [])), (26, (2, 1, 0, 0, 27, [])), (30, (9, 3, 0, 0, 31, [])), (31, (17, 0, 40, 0, 34, [])), (34, (2, 2, 0, 0, 35, [])), (35, (0, 0, 0, 1, 36, [])), (36, (2, 3, 0, 0, 37, [])), (37, (9, 6, 0, 0, 38, [])), (38, (9, 4, 0, 0, 39, [])), (39, (5, 2, 0, 0, 40, [])), (40, (8, 3, 0, 1, 43, [])), (43, (15, 0, 0, 0, 4, [])), (46, (2, 2, 0, 0, 47, [])), (47, (27, 0, 0, 0, 48, []))]
set_option maxRecDepth 100000 in
theorem K_X1_roomsOf : ztbok F_X1_roomsOf T_X1_roomsOf := ztbB_ok (by decide +kernel)
set_option maxRecDepth 100000 in
theorem W_X1_roomsOf : zMth yX1_roomsOf (.code yX1_roomsOf cX1_roomsOf 4 (some .int)) 1 := ⟨z_at 1005 (by decide +kernel) (by decide +kernel), z_at 7 (by decide +kernel) (by decide +kernel), ⟨by decide +kernel, by decide +kernel⟩, by decide +kernel⟩
set_option maxRecDepth 100000 in
theorem I_X1_roomsOf : Cond.instanceMethod yX1_roomsOf ∈ zws := z_at 1003 (by decide +kernel) (by decide +kernel)
set_option maxRecDepth 100000 in
theorem S_X1_roomsOf : Cond.selects yX1_roomsOf.cls yX1_roomsOf yX1_roomsOf ∈ zws := z_at 1004 (by decide +kernel) (by decide +kernel)
abbrev F_X2_init : zF := (2, cX2_init, none, 4, [], true)
def T_X2_init : List (Nat × zI) := [(0, (4, 0, 0, 0, 1, [])), (1, (35, 0, 0, 0, 4, [])), (4, (4, 0, 0, 0, 5, [])), (5, (0, 0, 0, 6, 7, [])), (7, (31, 1, 0, 0, 9, [])), (9, (19, 2, 3, 0, 12, [])), (12, (4, 0, 0, 0, 13, [])), (13, (0, 0, 0, 24, 15, [])), (15, (31, 1, 0, 0, 17, [])), (17, (19, 2, 4, 0, 20, [])), (20, (4, 0, 0, 0, 21, [])), (21, (4, 1, 0, 0, 22, [])), (22, (19, 2, 0, 0, 25, [])), (25, (4, 0, 0, 0, 26, [])), (26, (4, 2, 0, 0, 27, [])), (27, (19, 2, 1, 0, 30, [])), (30, (4, 0, 0, 0, 31, [])), (31, (4, 3, 0, 0, 32, [])), (32, (19, 2, 2, 0, 35, [])), (35, (29, 0, 0, 0, 36, []))]
set_option maxRecDepth 100000 in
theorem K_X2_init : ztbok F_X2_init T_X2_init := ztbB_ok (by decide +kernel)
set_option maxRecDepth 100000 in
theorem W_X2_init : zMth yX2_init (.code yX2_init cX2_init 4 (none)) 3 := ⟨z_at 247 (by decide +kernel) (by decide +kernel), z_at 8 (by decide +kernel) (by decide +kernel), ⟨by decide +kernel, by decide +kernel⟩, by decide +kernel⟩
set_option maxRecDepth 100000 in
theorem I_X2_init : Cond.instanceMethod yX2_init ∈ zws := z_at 246 (by decide +kernel) (by decide +kernel)
abbrev F_X2_fewestLiars : zF := (2, cX2_fewestLiars, some .int, 6, [], false)
def T_X2_fewestLiars : List (Nat × zI) := [(0, (4, 0, 0, 0, 1, [])), (1, (2, 2, 0, 0, 2, [])), (5, (0, 0, 0, (-1), 6, [])), (6, (5, 3, 0, 0, 7, [])), (7, (0, 0, 0, 0, 8, [])), (8, (5, 4, 0, 0, 10, [])), (10, (2, 4, 0, 0, 12, [])), (12, (0, 0, 0, 1, 13, [])), (13, (4, 0, 0, 0, 14, [])), (14, (18, 2, 0, 0, 17, [])), (17, (18, 6, 8, 0, 20, [])), (20, (9, 6, 0, 0, 21, [])), (21, (16, 1, 24, 0, 72, [])), (24, (2, 3, 0, 0, 25, [])), (25, (0, 0, 0, (-1), 26, [])), (26, (16, 0, 41, 0, 29, [])), (29, (2, 4, 0, 0, 31, [])), (34, (2, 3, 0, 0, 35, [])), (38, (16, 1, 41, 0, 45, [])), (41, (0, 0, 0, 1, 42, [])), (42, (15, 0, 0, 0, 46, [])), (45, (0, 0, 0, 0, 46, [])), (46, (5, 5, 0, 0, 48, [])), (48, (2, 5, 0, 0, 50, [])), (50, (17, 0, 66, 0, 53, [])), (53, (4, 0, 0, 0, 54, [])), (54, (2, 4, 0, 0, 56, [])), (56, (2, 1, 0, 0, 57, [])), (60, (17, 0, 66, 0, 63, [])), (63, (2, 4, 0, 0, 65, [])), (65, (5, 3, 0, 0, 66, [])), (66, (8, 4, 0, 1, 69, [])), (69, (15, 0, 0, 0, 10, [])), (72, (2, 3, 0, 0, 73, [])), (73, (27, 0, 0, 0, 74, []))]
set_option maxRecDepth 100000 in
theorem K_X2_fewestLiars : ztbok F_X2_fewestLiars T_X2_fewestLiars := ztbB_ok (by decide +kernel)
set_option maxRecDepth 100000 in
theorem W_X2_fewestLiars : zMth yX2_fewestLiars (.code yX2_fewestLiars cX2_fewestLiars 6 (some .int)) 2 := ⟨z_at 1017 (by decide +kernel) (by decide +kernel), z_at 8 (by decide +kernel) (by decide +kernel), ⟨by decide +kernel, by decide +kernel⟩, by decide +kernel⟩
set_option maxRecDepth 100000 in
theorem I_X2_fewestLiars : Cond.instanceMethod yX2_fewestLiars ∈ zws := z_at 1015 (by decide +kernel) (by decide +kernel)
set_option maxRecDepth 100000 in
theorem S_X2_fewestLiars : Cond.selects yX2_fewestLiars.cls yX2_fewestLiars yX2_fewestLiars ∈ zws := z_at 1016 (by decide +kernel) (by decide +kernel)
abbrev F_X2_sortDoings : zF := (2, cX2_sortDoings, none, 4, [], false)
def T_X2_sortDoings : List (Nat × zI) := [(0, (0, 0, 0, 0, 1, [])), (1, (5, 2, 0, 0, 2, [])), (2, (2, 2, 0, 0, 3, [])), (3, (4, 0, 0, 0, 4, [])), (4, (18, 2, 0, 0, 7, [])), (7, (18, 6, 8, 0, 10, [])), (10, (16, 1, 13, 0, 75, [])), (13, (4, 0, 0, 0, 14, [])), (14, (18, 2, 3, 0, 17, [])), (17, (2, 2, 0, 0, 18, [])), (18, (4, 0, 0, 0, 19, [])), (19, (18, 2, 2, 0, 22, [])), (22, (2, 2, 0, 0, 23, [])), (23, (4, 0, 0, 0, 24, [])), (24, (18, 2, 1, 0, 27, [])), (27, (2, 2, 0, 0, 28, [])), (28, (2, 1, 0, 0, 29, [])), (35, (21, 0, 0, 0, 36, [])), (36, (0, 0, 0, 0, 37, [])), (37, (5, 3, 0, 0, 38, [])), (38, (2, 3, 0, 0, 39, [])), (39, (0, 0, 0, 4, 40, [])), (40, (16, 1, 43, 0, 69, [])), (43, (4, 0, 0, 0, 44, [])), (44, (18, 2, 4, 0, 47, [])), (47, (2, 2, 0, 0, 48, [])), (48, (0, 0, 0, 4, 49, [])), (49, (9, 2, 0, 0, 50, [])), (50, (2, 3, 0, 0, 51, [])), (51, (9, 0, 0, 0, 52, [])), (52, (4, 0, 0, 0, 53, [])), (53, (18, 2, 2, 0, 56, [])), (56, (2, 2, 0, 0, 57, [])), (57, (2, 1, 0, 0, 58, [])), (58, (2, 3, 0, 0, 59, [])), (62, (21, 0, 0, 0, 63, [])), (63, (8, 3, 0, 1, 66, [])), (66, (15, 0, 0, 0, 38, [])), (69, (8, 2, 0, 1, 72, [])), (72, (15, 0, 0, 0, 2, [])), (75, (29, 0, 0, 0, 76, []))]
set_option maxRecDepth 100000 in
theorem K_X2_sortDoings : ztbok F_X2_sortDoings T_X2_sortDoings := ztbB_ok (by decide +kernel)
set_option maxRecDepth 100000 in
theorem W_X2_sortDoings : zMth yX2_sortDoings (.code yX2_sortDoings cX2_sortDoings 4 (none)) 1 := ⟨z_at 1021 (by decide +kernel) (by decide +kernel), z_at 8 (by decide +kernel) (by decide +kernel), ⟨by decide +kernel, by decide +kernel⟩, by decide +kernel⟩
set_option maxRecDepth 100000 in
theorem I_X2_sortDoings : Cond.instanceMethod yX2_sortDoings ∈ zws := z_at 1020 (by decide +kernel) (by decide +kernel)
set_option maxRecDepth 100000 in
theorem S_X2_sortDoings : Cond.selects yX2_sortDoings.cls yX2_sortDoings yX2_sortDoings ∈ zws := z_in (List.mem_append_left _ (List.mem_map.mpr ⟨_, List.mem_of_getElem? (i := 28) rfl, rfl⟩)) rfl
abbrev F_X2_misleads : zF := (2, cX2_misleads, some .boolean, 10, [], false)
def T_X2_misleads : List (Nat × zI) := [(0, (0, 0, 0, 0, 1, [])), (1, (5, 3, 0, 0, 2, [])), (2, (0, 0, 0, 0, 3, [])), (3, (5, 4, 0, 0, 5, [])), (5, (2, 4, 0, 0, 7, [])), (7, (4, 0, 0, 0, 8, [])), (8, (18, 2, 0, 0, 11, [])), (11, (18, 6, 8, 0, 14, [])), (14, (16, 1, 17, 0, 144, [])), (17, (2, 1, 0, 0, 18, [])), (18, (2, 4, 0, 0, 20, [])), (20, (9, 7, 0, 0, 21, [])), (21, (0, 0, 0, 1, 22, [])), (22, (9, 3, 0, 0, 23, [])), (23, (0, 0, 0, 1, 24, [])), (24, (16, 0, 27, 0, 31, [])), (27, (0, 0, 0, 1, 28, [])), (28, (15, 0, 0, 0, 32, [])), (31, (0, 0, 0, 0, 32, [])), (32, (5, 5, 0, 0, 34, [])), (34, (4, 0, 0, 0, 35, [])), (35, (18, 2, 0, 0, 38, [])), (38, (2, 2, 0, 0, 39, [])), (39, (2, 4, 0, 0, 41, [])), (44, (5, 6, 0, 0, 46, [])), (46, (0, 0, 0, 0, 47, [])), (47, (5, 7, 0, 0, 49, [])), (49, (0, 0, 0, 0, 50, [])), (50, (5, 8, 0, 0, 52, [])), (52, (2, 8, 0, 0, 54, [])), (54, (0, 0, 0, 4, 55, [])), (55, (16, 1, 58, 0, 131, [])), (58, (4, 0, 0, 0, 59, [])), (59, (18, 2, 4, 0, 62, [])), (62, (2, 4, 0, 0, 64, [])), (64, (0, 0, 0, 4, 65, [])), (65, (9, 2, 0, 0, 66, [])), (66, (2, 8, 0, 0, 68, [])), (68, (9, 0, 0, 0, 69, [])), (69, (20, 0, 0, 0, 70, [])), (70, (5, 9, 0, 0, 72, [])), (72, (2, 5, 0, 0, 74, [])), (74, (2, 8, 0, 0, 76, [])), (76, (4, 0, 0, 0, 77, [])), (77, (18, 2, 3, 0, 80, [])), (80, (2, 4, 0, 0, 82, [])), (82, (20, 0, 0, 0, 83, [])), (83, (16, 0, 90, 0, 86, [])), (86, (0, 0, 0, 1, 87, [])), (87, (15, 0, 0, 0, 91, [])), (90, (0, 0, 0, 0, 91, [])), (91, (16, 0, 94, 0, 125, [])), (94, (2, 9, 0, 0, 96, [])), (96, (2, 6, 0, 0, 98, [])), (98, (0, 0, 0, (-1), 99, [])), (99, (9, 5, 0, 0, 100, [])), (100, (9, 3, 0, 0, 101, [])), (101, (17, 0, 125, 0, 104, [])), (104, (0, 0, 0, 1, 105, [])), (105, (5, 7, 0, 0, 107, [])), (107, (2, 3, 0, 0, 108, [])), (108, (17, 0, 111, 0, 119, [])), (111, (2, 9, 0, 0, 113, [])), (113, (2, 6, 0, 0, 115, [])), (115, (9, 3, 0, 0, 116, [])), (116, (17, 0, 123, 0, 119, [])), (119, (0, 0, 0, 1, 120, [])), (120, (15, 0, 0, 0, 124, [])), (123, (0, 0, 0, 0, 124, [])), (124, (5, 3, 0, 0, 125, [])), (125, (8, 8, 0, 1, 128, [])), (128, (15, 0, 0, 0, 52, [])), (131, (2, 7, 0, 0, 133, [])), (133, (17, 0, 136, 0, 138, [])), (136, (0, 0, 0, 0, 137, [])), (137, (27, 0, 0, 0, 138, [])), (138, (8, 4, 0, 1, 141, [])), (141, (15, 0, 0, 0, 5, [])), (144, (2, 3, 0, 0, 145, [])), (145, (27, 0, 0, 0, 146, []))]
set_option maxRecDepth 100000 in
theorem K_X2_misleads : ztbok F_X2_misleads T_X2_misleads := ztbB_ok (by decide +kernel)
set_option maxRecDepth 100000 in
theorem W_X2_misleads : zMth yX2_misleads (.code yX2_misleads cX2_misleads 10 (some .boolean)) 2 := ⟨z_at 1029 (by decide +kernel) (by decide +kernel), z_at 8 (by decide +kernel) (by decide +kernel), ⟨by decide +kernel, by decide +kernel⟩, by decide +kernel⟩
set_option maxRecDepth 100000 in
theorem I_X2_misleads : Cond.instanceMethod yX2_misleads ∈ zws := z_at 1028 (by decide +kernel) (by decide +kernel)
set_option maxRecDepth 100000 in
theorem S_X2_misleads : Cond.selects yX2_misleads.cls yX2_misleads yX2_misleads ∈ zws := z_in (List.mem_append_left _ (List.mem_map.mpr ⟨_, List.mem_of_getElem? (i := 29) rfl, rfl⟩)) rfl
abbrev F_X3_init : zF := (3, cX3_init, none, 3, [], true)
def T_X3_init : List (Nat × zI) := [(0, (4, 0, 0, 0, 1, [])), (1, (35, 0, 0, 0, 4, [])), (4, (4, 0, 0, 0, 5, [])), (5, (4, 1, 0, 0, 6, [])), (6, (19, 3, 0, 0, 9, [])), (9, (4, 0, 0, 0, 10, [])), (10, (4, 2, 0, 0, 11, [])), (11, (19, 3, 1, 0, 14, [])), (14, (29, 0, 0, 0, 15, []))]
set_option maxRecDepth 100000 in
theorem K_X3_init : ztbok F_X3_init T_X3_init := ztbB_ok (by decide +kernel)
set_option maxRecDepth 100000 in
theorem W_X3_init : zMth yX3_init (.code yX3_init cX3_init 3 (none)) 2 := ⟨z_at 212 (by decide +kernel) (by decide +kernel), z_at 6 (by decide +kernel) (by decide +kernel), ⟨by decide +kernel, by decide +kernel⟩, by decide +kernel⟩
set_option maxRecDepth 100000 in
theorem I_X3_init : Cond.instanceMethod yX3_init ∈ zws := z_at 211 (by decide +kernel) (by decide +kernel)
abbrev F_X3_signOf : zF := (3, cX3_signOf, some .int, 3, [], false)
def T_X3_signOf : List (Nat × zI) := [(0, (4, 0, 0, 0, 1, [])), (1, (18, 3, 0, 0, 4, [])), (4, (2, 2, 0, 0, 5, [])), (8, (4, 0, 0, 0, 9, [])), (9, (18, 3, 1, 0, 12, [])), (12, (2, 1, 0, 0, 13, [])), (16, (9, 3, 0, 0, 17, [])), (17, (27, 0, 0, 0, 18, []))]
set_option maxRecDepth 100000 in
theorem K_X3_signOf : ztbok F_X3_signOf T_X3_signOf := ztbB_ok (by decide +kernel)
set_option maxRecDepth 100000 in
theorem W_X3_signOf : zMth yX3_signOf (.code yX3_signOf cX3_signOf 3 (some .int)) 2 := ⟨z_at 875 (by decide +kernel) (by decide +kernel), z_at 6 (by decide +kernel) (by decide +kernel), ⟨by decide +kernel, by decide +kernel⟩, by decide +kernel⟩
set_option maxRecDepth 100000 in
theorem I_X3_signOf : Cond.instanceMethod yX3_signOf ∈ zws := z_at 873 (by decide +kernel) (by decide +kernel)
set_option maxRecDepth 100000 in
theorem S_X3_signOf : Cond.selects yX3_signOf.cls yX3_signOf yX3_signOf ∈ zws := z_at 874 (by decide +kernel) (by decide +kernel)
abbrev F_X3_signAt : zF := (3, cX3_signAt, some .int, 4, [], false)
def T_X3_signAt : List (Nat × zI) := [(0, (4, 0, 0, 0, 1, [])), (1, (18, 3, 0, 0, 4, [])), (4, (18, 6, 1, 0, 7, [])), (7, (2, 1, 0, 0, 8, [])), (8, (20, 0, 0, 0, 9, [])), (9, (5, 3, 0, 0, 10, [])), (10, (2, 3, 0, 0, 11, [])), (11, (0, 0, 0, (-1), 12, [])), (12, (16, 0, 15, 0, 19, [])), (15, (0, 0, 0, 3, 16, [])), (16, (15, 0, 0, 0, 33, [])), (19, (4, 0, 0, 0, 20, [])), (20, (2, 3, 0, 0, 21, [])), (21, (4, 0, 0, 0, 22, [])), (22, (18, 3, 1, 0, 25, [])), (25, (2, 3, 0, 0, 26, [])), (26, (2, 2, 0, 0, 27, [])), (33, (27, 0, 0, 0, 34, []))]
set_option maxRecDepth 100000 in
theorem K_X3_signAt : ztbok F_X3_signAt T_X3_signAt := ztbB_ok (by decide +kernel)
set_option maxRecDepth 100000 in
theorem W_X3_signAt : zMth yX3_signAt (.code yX3_signAt cX3_signAt 4 (some .int)) 2 := ⟨z_at 913 (by decide +kernel) (by decide +kernel), z_at 6 (by decide +kernel) (by decide +kernel), ⟨by decide +kernel, by decide +kernel⟩, by decide +kernel⟩
set_option maxRecDepth 100000 in
theorem I_X3_signAt : Cond.instanceMethod yX3_signAt ∈ zws := z_at 911 (by decide +kernel) (by decide +kernel)
set_option maxRecDepth 100000 in
theorem S_X3_signAt : Cond.selects yX3_signAt.cls yX3_signAt yX3_signAt ∈ zws := z_at 912 (by decide +kernel) (by decide +kernel)
abbrev F_X3_doingsBySign : zF := (3, cX3_doingsBySign, some .int, 8, [], false)
def T_X3_doingsBySign : List (Nat × zI) := [(0, (4, 0, 0, 0, 1, [])), (1, (18, 3, 0, 0, 4, [])), (4, (2, 1, 0, 0, 5, [])), (5, (2, 2, 0, 0, 6, [])), (9, (5, 4, 0, 0, 11, [])), (11, (4, 0, 0, 0, 12, [])), (12, (18, 3, 1, 0, 15, [])), (15, (2, 1, 0, 0, 16, [])), (19, (5, 5, 0, 0, 21, [])), (21, (0, 0, 0, 0, 22, [])), (22, (5, 6, 0, 0, 24, [])), (24, (0, 0, 0, 0, 25, [])), (25, (5, 7, 0, 0, 27, [])), (27, (2, 7, 0, 0, 29, [])), (29, (0, 0, 0, 18, 31, [])), (31, (16, 1, 34, 0, 76, [])), (34, (2, 4, 0, 0, 36, [])), (36, (2, 7, 0, 0, 38, [])), (38, (9, 7, 0, 0, 39, [])), (39, (0, 0, 0, 1, 40, [])), (40, (9, 3, 0, 0, 41, [])), (41, (0, 0, 0, 1, 42, [])), (42, (16, 0, 45, 0, 70, [])), (45, (4, 0, 0, 0, 46, [])), (46, (18, 3, 0, 0, 49, [])), (49, (2, 7, 0, 0, 51, [])), (54, (2, 5, 0, 0, 56, [])), (56, (9, 3, 0, 0, 57, [])), (57, (2, 3, 0, 0, 58, [])), (58, (16, 0, 61, 0, 70, [])), (61, (2, 6, 0, 0, 63, [])), (63, (0, 0, 0, 1, 64, [])), (64, (2, 7, 0, 0, 66, [])), (66, (9, 6, 0, 0, 67, [])), (67, (9, 4, 0, 0, 68, [])), (68, (5, 6, 0, 0, 70, [])), (70, (8, 7, 0, 1, 73, [])), (73, (15, 0, 0, 0, 27, [])), (76, (2, 6, 0, 0, 78, [])), (78, (27, 0, 0, 0, 79, []))]
set_option maxRecDepth 100000 in
theorem K_X3_doingsBySign : ztbok F_X3_doingsBySign T_X3_doingsBySign := ztbB_ok (by decide +kernel)
set_option maxRecDepth 100000 in
theorem W_X3_doingsBySign : zMth yX3_doingsBySign (.code yX3_doingsBySign cX3_doingsBySign 8 (some .int)) 3 := ⟨z_at 513 (by decide +kernel) (by decide +kernel), z_at 6 (by decide +kernel) (by decide +kernel), ⟨by decide +kernel, by decide +kernel⟩, by decide +kernel⟩
set_option maxRecDepth 100000 in
theorem I_X3_doingsBySign : Cond.instanceMethod yX3_doingsBySign ∈ zws := z_at 511 (by decide +kernel) (by decide +kernel)
set_option maxRecDepth 100000 in
theorem S_X3_doingsBySign : Cond.selects yX3_doingsBySign.cls yX3_doingsBySign yX3_doingsBySign ∈ zws := z_at 512 (by decide +kernel) (by decide +kernel)
abbrev F_X3_chanceAt : zF := (3, cX3_chanceAt, some .int, 5, [], false)
def T_X3_chanceAt : List (Nat × zI) := [(0, (4, 0, 0, 0, 1, [])), (1, (18, 3, 0, 0, 4, [])), (4, (18, 6, 1, 0, 7, [])), (7, (2, 1, 0, 0, 8, [])), (8, (20, 0, 0, 0, 9, [])), (9, (5, 3, 0, 0, 10, [])), (10, (2, 3, 0, 0, 11, [])), (11, (0, 0, 0, (-1), 12, [])), (12, (16, 0, 15, 0, 17, [])), (15, (0, 0, 0, 0, 16, [])), (16, (27, 0, 0, 0, 17, [])), (17, (4, 0, 0, 0, 18, [])), (18, (18, 3, 0, 0, 21, [])), (21, (2, 3, 0, 0, 22, [])), (22, (2, 2, 0, 0, 23, [])), (29, (5, 4, 0, 0, 31, [])), (31, (2, 4, 0, 0, 33, [])), (33, (17, 0, 36, 0, 38, [])), (36, (0, 0, 0, 0, 37, [])), (37, (27, 0, 0, 0, 38, [])), (38, (0, 0, 0, 27720, 41, [])), (41, (4, 0, 0, 0, 42, [])), (42, (2, 3, 0, 0, 43, [])), (43, (2, 2, 0, 0, 44, [])), (44, (0, 0, 0, 0, 45, [])), (51, (9, 2, 0, 0, 52, [])), (52, (2, 4, 0, 0, 54, [])), (54, (9, 9, 0, 0, 55, [])), (55, (27, 0, 0, 0, 56, []))]
set_option maxRecDepth 100000 in
theorem K_X3_chanceAt : ztbok F_X3_chanceAt T_X3_chanceAt := ztbB_ok (by decide +kernel)
set_option maxRecDepth 100000 in
theorem W_X3_chanceAt : zMth yX3_chanceAt (.code yX3_chanceAt cX3_chanceAt 5 (some .int)) 2 := ⟨z_at 1041 (by decide +kernel) (by decide +kernel), z_at 6 (by decide +kernel) (by decide +kernel), ⟨by decide +kernel, by decide +kernel⟩, by decide +kernel⟩
set_option maxRecDepth 100000 in
theorem I_X3_chanceAt : Cond.instanceMethod yX3_chanceAt ∈ zws := z_at 1039 (by decide +kernel) (by decide +kernel)
set_option maxRecDepth 100000 in
theorem S_X3_chanceAt : Cond.selects yX3_chanceAt.cls yX3_chanceAt yX3_chanceAt ∈ zws := z_at 1040 (by decide +kernel) (by decide +kernel)
abbrev F_X3_worthOf : zF := (3, cX3_worthOf, some .int, 3, [], false)
def T_X3_worthOf : List (Nat × zI) := [(0, (4, 0, 0, 0, 1, [])), (1, (18, 3, 0, 0, 4, [])), (4, (18, 6, 0, 0, 7, [])), (7, (2, 1, 0, 0, 8, [])), (8, (20, 0, 0, 0, 9, [])), (9, (4, 0, 0, 0, 10, [])), (10, (2, 1, 0, 0, 11, [])), (11, (2, 2, 0, 0, 12, [])), (15, (9, 2, 0, 0, 16, [])), (16, (27, 0, 0, 0, 17, []))]
set_option maxRecDepth 100000 in
theorem K_X3_worthOf : ztbok F_X3_worthOf T_X3_worthOf := ztbB_ok (by decide +kernel)
set_option maxRecDepth 100000 in
theorem W_X3_worthOf : zMth yX3_worthOf (.code yX3_worthOf cX3_worthOf 3 (some .int)) 2 := ⟨z_at 1063 (by decide +kernel) (by decide +kernel), z_at 6 (by decide +kernel) (by decide +kernel), ⟨by decide +kernel, by decide +kernel⟩, by decide +kernel⟩
set_option maxRecDepth 100000 in
theorem I_X3_worthOf : Cond.instanceMethod yX3_worthOf ∈ zws := z_at 1061 (by decide +kernel) (by decide +kernel)
set_option maxRecDepth 100000 in
theorem S_X3_worthOf : Cond.selects yX3_worthOf.cls yX3_worthOf yX3_worthOf ∈ zws := z_at 1062 (by decide +kernel) (by decide +kernel)
abbrev F_X4_init : zF := (4, cX4_init, none, 3, [], true)
def T_X4_init : List (Nat × zI) := [(0, (4, 0, 0, 0, 1, [])), (1, (35, 0, 0, 0, 4, [])), (4, (4, 0, 0, 0, 5, [])), (5, (0, 0, 0, 8, 7, [])), (7, (31, 1, 0, 0, 9, [])), (9, (19, 4, 2, 0, 12, [])), (12, (4, 0, 0, 0, 13, [])), (13, (0, 0, 0, 8, 15, [])), (15, (31, 1, 0, 0, 17, [])), (17, (19, 4, 3, 0, 20, [])), (20, (4, 0, 0, 0, 21, [])), (21, (0, 0, 0, 3, 22, [])), (22, (31, 1, 0, 0, 24, [])), (24, (19, 4, 4, 0, 27, [])), (27, (4, 0, 0, 0, 28, [])), (28, (0, 0, 0, 3, 29, [])), (29, (31, 1, 0, 0, 31, [])), (31, (19, 4, 5, 0, 34, [])), (34, (4, 0, 0, 0, 35, [])), (35, (4, 1, 0, 0, 36, [])), (36, (19, 4, 0, 0, 39, [])), (39, (4, 0, 0, 0, 40, [])), (40, (4, 2, 0, 0, 41, [])), (41, (19, 4, 1, 0, 44, [])), (44, (29, 0, 0, 0, 45, []))]
set_option maxRecDepth 100000 in
theorem K_X4_init : ztbok F_X4_init T_X4_init := ztbB_ok (by decide +kernel)
set_option maxRecDepth 100000 in
theorem W_X4_init : zMth yX4_init (.code yX4_init cX4_init 3 (none)) 2 := ⟨z_at 300 (by decide +kernel) (by decide +kernel), z_at 10 (by decide +kernel) (by decide +kernel), ⟨by decide +kernel, by decide +kernel⟩, by decide +kernel⟩
set_option maxRecDepth 100000 in
theorem I_X4_init : Cond.instanceMethod yX4_init ∈ zws := z_at 299 (by decide +kernel) (by decide +kernel)
abbrev F_X4_play : zF := (4, cX4_play, some .int, 6, [], false)
def T_X4_play : List (Nat × zI) := [(0, (0, 0, 0, 0, 1, [])), (1, (5, 3, 0, 0, 2, [])), (2, (2, 3, 0, 0, 3, [])), (3, (4, 0, 0, 0, 4, [])), (4, (18, 4, 0, 0, 7, [])), (7, (18, 6, 7, 0, 10, [])), (10, (16, 1, 13, 0, 34, [])), (13, (4, 0, 0, 0, 14, [])), (14, (18, 4, 2, 0, 17, [])), (17, (2, 3, 0, 0, 18, [])), (18, (4, 0, 0, 0, 19, [])), (19, (18, 4, 1, 0, 22, [])), (22, (2, 3, 0, 0, 23, [])), (23, (2, 1, 0, 0, 24, [])), (27, (21, 0, 0, 0, 28, [])), (28, (8, 3, 0, 1, 31, [])), (31, (15, 0, 0, 0, 2, [])), (34, (0, 0, 0, 1, 35, [])), (35, (5, 3, 0, 0, 36, [])), (36, (0, 0, 0, 0, 37, [])), (37, (5, 4, 0, 0, 39, [])), (39, (2, 4, 0, 0, 41, [])), (41, (2, 2, 0, 0, 42, [])), (42, (16, 1, 45, 0, 61, [])), (45, (2, 3, 0, 0, 46, [])), (46, (4, 0, 0, 0, 47, [])), (47, (18, 4, 0, 0, 50, [])), (50, (18, 6, 7, 0, 53, [])), (53, (9, 2, 0, 0, 54, [])), (54, (5, 3, 0, 0, 55, [])), (55, (8, 4, 0, 1, 58, [])), (58, (15, 0, 0, 0, 39, [])), (61, (0, 0, 0, 0, 62, [])), (62, (5, 4, 0, 0, 64, [])), (64, (0, 0, 0, 0, 65, [])), (65, (5, 5, 0, 0, 67, [])), (67, (2, 5, 0, 0, 69, [])), (69, (2, 3, 0, 0, 70, [])), (70, (16, 1, 73, 0, 116, [])), (73, (4, 0, 0, 0, 74, [])), (74, (2, 5, 0, 0, 76, [])), (76, (2, 2, 0, 0, 77, [])), (80, (4, 0, 0, 0, 81, [])), (81, (2, 2, 0, 0, 82, [])), (85, (17, 0, 110, 0, 88, [])), (88, (2, 4, 0, 0, 90, [])), (90, (17, 0, 93, 0, 107, [])), (93, (4, 0, 0, 0, 94, [])), (94, (18, 4, 4, 0, 97, [])), (97, (0, 0, 0, 0, 98, [])), (98, (4, 0, 0, 0, 99, [])), (99, (18, 4, 5, 0, 102, [])), (102, (0, 0, 0, 0, 103, [])), (103, (2, 2, 0, 0, 104, [])), (107, (8, 4, 0, 1, 110, [])), (110, (8, 5, 0, 1, 113, [])), (113, (15, 0, 0, 0, 67, [])), (116, (2, 4, 0, 0, 118, [])), (118, (27, 0, 0, 0, 119, []))]
set_option maxRecDepth 100000 in
theorem K_X4_play : ztbok F_X4_play T_X4_play := ztbB_ok (by decide +kernel)
set_option maxRecDepth 100000 in
theorem W_X4_play : zMth yX4_play (.code yX4_play cX4_play 6 (some .int)) 2 := ⟨z_at 1103 (by decide +kernel) (by decide +kernel), z_at 10 (by decide +kernel) (by decide +kernel), ⟨by decide +kernel, by decide +kernel⟩, by decide +kernel⟩
set_option maxRecDepth 100000 in
theorem I_X4_play : Cond.instanceMethod yX4_play ∈ zws := z_at 1101 (by decide +kernel) (by decide +kernel)
set_option maxRecDepth 100000 in
theorem S_X4_play : Cond.selects yX4_play.cls yX4_play yX4_play ∈ zws := z_at 1102 (by decide +kernel) (by decide +kernel)
abbrev F_X4_layRow : zF := (4, cX4_layRow, none, 5, [], false)
def T_X4_layRow : List (Nat × zI) := [(0, (4, 0, 0, 0, 1, [])), (1, (18, 4, 3, 0, 4, [])), (4, (0, 0, 0, 0, 5, [])), (8, (2, 1, 0, 0, 9, [])), (9, (5, 3, 0, 0, 10, [])), (10, (2, 2, 0, 0, 11, [])), (11, (0, 0, 0, 1, 12, [])), (12, (9, 1, 0, 0, 13, [])), (13, (5, 4, 0, 0, 15, [])), (15, (2, 4, 0, 0, 17, [])), (17, (17, 1, 78, 0, 20, [])), (20, (4, 0, 0, 0, 21, [])), (21, (18, 4, 0, 0, 24, [])), (24, (18, 6, 7, 0, 27, [])), (27, (17, 2, 30, 0, 78, [])), (30, (4, 0, 0, 0, 31, [])), (31, (18, 4, 4, 0, 34, [])), (34, (2, 4, 0, 0, 36, [])), (36, (2, 3, 0, 0, 37, [])), (37, (4, 0, 0, 0, 38, [])), (38, (18, 4, 0, 0, 41, [])), (41, (18, 6, 7, 0, 44, [])), (44, (9, 10, 0, 0, 45, [])), (45, (21, 0, 0, 0, 46, [])), (46, (2, 3, 0, 0, 47, [])), (47, (4, 0, 0, 0, 48, [])), (48, (18, 4, 0, 0, 51, [])), (51, (18, 6, 7, 0, 54, [])), (54, (9, 9, 0, 0, 55, [])), (55, (5, 3, 0, 0, 56, [])), (56, (4, 0, 0, 0, 57, [])), (57, (18, 4, 3, 0, 60, [])), (60, (4, 0, 0, 0, 61, [])), (61, (18, 4, 4, 0, 64, [])), (64, (2, 4, 0, 0, 66, [])), (66, (20, 0, 0, 0, 67, [])), (67, (13, 0, 0, 0, 68, [])), (68, (20, 0, 0, 0, 69, [])), (69, (0, 0, 0, 1, 70, [])), (70, (9, 0, 0, 0, 71, [])), (71, (21, 0, 0, 0, 72, [])), (72, (8, 4, 0, (-1), 75, [])), (75, (15, 0, 0, 0, 15, [])), (78, (29, 0, 0, 0, 79, []))]
set_option maxRecDepth 100000 in
theorem K_X4_layRow : ztbok F_X4_layRow T_X4_layRow := ztbB_ok (by decide +kernel)
set_option maxRecDepth 100000 in
theorem W_X4_layRow : zMth yX4_layRow (.code yX4_layRow cX4_layRow 5 (none)) 2 := ⟨z_at 1108 (by decide +kernel) (by decide +kernel), z_at 10 (by decide +kernel) (by decide +kernel), ⟨by decide +kernel, by decide +kernel⟩, by decide +kernel⟩
set_option maxRecDepth 100000 in
theorem I_X4_layRow : Cond.instanceMethod yX4_layRow ∈ zws := z_at 1107 (by decide +kernel) (by decide +kernel)
set_option maxRecDepth 100000 in
theorem S_X4_layRow : Cond.selects yX4_layRow.cls yX4_layRow yX4_layRow ∈ zws := z_in (List.mem_append_left _ (List.mem_map.mpr ⟨_, List.mem_of_getElem? (i := 36) rfl, rfl⟩)) rfl
abbrev F_X4_isAtRest : zF := (4, cX4_isAtRest, some .boolean, 6, [], false)
def T_X4_isAtRest : List (Nat × zI) := [(0, (0, 0, 0, 0, 1, [])), (1, (5, 2, 0, 0, 2, [])), (2, (2, 2, 0, 0, 3, [])), (3, (2, 1, 0, 0, 4, [])), (4, (16, 1, 7, 0, 82, [])), (7, (4, 0, 0, 0, 8, [])), (8, (18, 4, 4, 0, 11, [])), (11, (2, 2, 0, 0, 12, [])), (12, (20, 0, 0, 0, 13, [])), (13, (5, 3, 0, 0, 14, [])), (14, (4, 0, 0, 0, 15, [])), (15, (2, 3, 0, 0, 16, [])), (16, (4, 0, 0, 0, 17, [])), (17, (18, 4, 3, 0, 20, [])), (20, (2, 3, 0, 0, 21, [])), (21, (20, 0, 0, 0, 22, [])), (25, (5, 4, 0, 0, 27, [])), (27, (0, 0, 0, 0, 28, [])), (28, (5, 5, 0, 0, 30, [])), (30, (2, 5, 0, 0, 32, [])), (32, (4, 0, 0, 0, 33, [])), (33, (18, 4, 0, 0, 36, [])), (36, (18, 6, 7, 0, 39, [])), (39, (16, 1, 42, 0, 76, [])), (42, (2, 5, 0, 0, 44, [])), (44, (2, 3, 0, 0, 45, [])), (45, (16, 0, 70, 0, 48, [])), (48, (4, 0, 0, 0, 49, [])), (49, (2, 5, 0, 0, 51, [])), (51, (4, 0, 0, 0, 52, [])), (52, (18, 4, 3, 0, 55, [])), (55, (2, 5, 0, 0, 57, [])), (57, (20, 0, 0, 0, 58, [])), (58, (0, 0, 0, 1, 59, [])), (59, (9, 0, 0, 0, 60, [])), (63, (2, 4, 0, 0, 65, [])), (65, (16, 2, 68, 0, 70, [])), (68, (0, 0, 0, 0, 69, [])), (69, (27, 0, 0, 0, 70, [])), (70, (8, 5, 0, 1, 73, [])), (73, (15, 0, 0, 0, 30, [])), (76, (8, 2, 0, 1, 79, [])), (79, (15, 0, 0, 0, 2, [])), (82, (0, 0, 0, 1, 83, [])), (83, (27, 0, 0, 0, 84, []))]
set_option maxRecDepth 100000 in
theorem K_X4_isAtRest : ztbok F_X4_isAtRest T_X4_isAtRest := ztbB_ok (by decide +kernel)
set_option maxRecDepth 100000 in
theorem W_X4_isAtRest : zMth yX4_isAtRest (.code yX4_isAtRest cX4_isAtRest 6 (some .boolean)) 1 := ⟨z_at 1113 (by decide +kernel) (by decide +kernel), z_at 10 (by decide +kernel) (by decide +kernel), ⟨by decide +kernel, by decide +kernel⟩, by decide +kernel⟩
set_option maxRecDepth 100000 in
theorem I_X4_isAtRest : Cond.instanceMethod yX4_isAtRest ∈ zws := z_at 1112 (by decide +kernel) (by decide +kernel)
set_option maxRecDepth 100000 in
theorem S_X4_isAtRest : Cond.selects yX4_isAtRest.cls yX4_isAtRest yX4_isAtRest ∈ zws := z_in (List.mem_append_left _ (List.mem_map.mpr ⟨_, List.mem_of_getElem? (i := 37) rfl, rfl⟩)) rfl
abbrev F_X4_share : zF := (4, cX4_share, some .int, 3, [], false)
def T_X4_share : List (Nat × zI) := [(0, (2, 2, 0, 0, 1, [])), (1, (0, 0, 0, 1, 2, [])), (2, (16, 1, 5, 0, 9, [])), (5, (0, 0, 0, 0, 6, [])), (6, (15, 0, 0, 0, 17, [])), (9, (4, 0, 0, 0, 10, [])), (10, (18, 4, 2, 0, 13, [])), (13, (2, 1, 0, 0, 14, [])), (14, (20, 0, 0, 0, 15, [])), (15, (2, 2, 0, 0, 16, [])), (16, (9, 9, 0, 0, 17, [])), (17, (27, 0, 0, 0, 18, []))]
set_option maxRecDepth 100000 in
theorem K_X4_share : ztbok F_X4_share T_X4_share := ztbB_ok (by decide +kernel)
set_option maxRecDepth 100000 in
theorem W_X4_share : zMth yX4_share (.code yX4_share cX4_share 3 (some .int)) 2 := ⟨z_at 1117 (by decide +kernel) (by decide +kernel), z_at 10 (by decide +kernel) (by decide +kernel), ⟨by decide +kernel, by decide +kernel⟩, by decide +kernel⟩
set_option maxRecDepth 100000 in
theorem I_X4_share : Cond.instanceMethod yX4_share ∈ zws := z_at 1116 (by decide +kernel) (by decide +kernel)
set_option maxRecDepth 100000 in
theorem S_X4_share : Cond.selects yX4_share.cls yX4_share yX4_share ∈ zws := z_in (List.mem_append_left _ (List.mem_map.mpr ⟨_, List.mem_of_getElem? (i := 38) rfl, rfl⟩)) rfl
abbrev F_X5_init : zF := (5, cX5_init, none, 4, [], true)
def T_X5_init : List (Nat × zI) := [(0, (4, 0, 0, 0, 1, [])), (1, (35, 0, 0, 0, 4, [])), (4, (4, 0, 0, 0, 5, [])), (5, (0, 0, 0, 6, 7, [])), (7, (31, 1, 0, 0, 9, [])), (9, (19, 5, 3, 0, 12, [])), (12, (4, 0, 0, 0, 13, [])), (13, (0, 0, 0, 12, 15, [])), (15, (31, 1, 0, 0, 17, [])), (17, (19, 5, 4, 0, 20, [])), (20, (4, 0, 0, 0, 21, [])), (21, (0, 0, 0, 4, 22, [])), (22, (31, 1, 0, 0, 24, [])), (24, (19, 5, 5, 0, 27, [])), (27, (4, 0, 0, 0, 28, [])), (28, (0, 0, 0, 3, 29, [])), (29, (31, 1, 0, 0, 31, [])), (31, (19, 5, 6, 0, 34, [])), (34, (4, 0, 0, 0, 35, [])), (35, (0, 0, 0, 6, 37, [])), (37, (31, 1, 0, 0, 39, [])), (39, (19, 5, 7, 0, 42, [])), (42, (4, 0, 0, 0, 43, [])), (43, (0, 0, 0, 6, 45, [])), (45, (31, 1, 0, 0, 47, [])), (47, (19, 5, 8, 0, 50, [])), (50, (4, 0, 0, 0, 51, [])), (51, (4, 1, 0, 0, 52, [])), (52, (19, 5, 0, 0, 55, [])), (55, (4, 0, 0, 0, 56, [])), (56, (4, 2, 0, 0, 57, [])), (57, (19, 5, 1, 0, 60, [])), (60, (4, 0, 0, 0, 61, [])), (61, (4, 3, 0, 0, 62, [])), (62, (19, 5, 2, 0, 65, [])), (65, (29, 0, 0, 0, 66, []))]
set_option maxRecDepth 100000 in
theorem K_X5_init : ztbok F_X5_init T_X5_init := ztbB_ok (by decide +kernel)
set_option maxRecDepth 100000 in
theorem W_X5_init : zMth yX5_init (.code yX5_init cX5_init 4 (none)) 3 := ⟨z_at 326 (by decide +kernel) (by decide +kernel), z_at 11 (by decide +kernel) (by decide +kernel), ⟨by decide +kernel, by decide +kernel⟩, by decide +kernel⟩
set_option maxRecDepth 100000 in
theorem I_X5_init : Cond.instanceMethod yX5_init ∈ zws := z_at 325 (by decide +kernel) (by decide +kernel)
abbrev F_X5_keepFewest : zF := (5, cX5_keepFewest, some .int, 5, [], false)
def T_X5_keepFewest : List (Nat × zI) := [(0, (4, 0, 0, 0, 1, [])), (1, (18, 5, 5, 0, 4, [])), (4, (0, 0, 0, 0, 5, [])), (8, (4, 0, 0, 0, 9, [])), (9, (18, 5, 6, 0, 12, [])), (12, (0, 0, 0, 0, 13, [])), (16, (0, 0, 0, 0, 17, [])), (17, (5, 3, 0, 0, 18, [])), (18, (0, 0, 0, 0, 19, [])), (19, (5, 4, 0, 0, 21, [])), (21, (2, 4, 0, 0, 23, [])), (23, (4, 0, 0, 0, 24, [])), (24, (18, 5, 0, 0, 27, [])), (27, (18, 6, 8, 0, 30, [])), (30, (16, 1, 33, 0, 100, [])), (33, (4, 0, 0, 0, 34, [])), (34, (2, 4, 0, 0, 36, [])), (36, (2, 1, 0, 0, 37, [])), (37, (2, 2, 0, 0, 38, [])), (41, (4, 0, 0, 0, 42, [])), (42, (18, 5, 3, 0, 45, [])), (45, (2, 4, 0, 0, 47, [])), (47, (0, 0, 0, (-1), 48, [])), (48, (21, 0, 0, 0, 49, [])), (49, (4, 0, 0, 0, 50, [])), (50, (2, 4, 0, 0, 52, [])), (52, (2, 1, 0, 0, 53, [])), (53, (2, 2, 0, 0, 54, [])), (57, (17, 0, 94, 0, 60, [])), (60, (4, 0, 0, 0, 61, [])), (61, (18, 5, 3, 0, 64, [])), (64, (2, 4, 0, 0, 66, [])), (66, (4, 0, 0, 0, 67, [])), (67, (2, 4, 0, 0, 69, [])), (69, (2, 1, 0, 0, 70, [])), (70, (2, 2, 0, 0, 71, [])), (74, (21, 0, 0, 0, 75, [])), (75, (4, 0, 0, 0, 76, [])), (76, (18, 5, 5, 0, 79, [])), (79, (4, 0, 0, 0, 80, [])), (80, (18, 5, 3, 0, 83, [])), (83, (2, 4, 0, 0, 85, [])), (85, (20, 0, 0, 0, 86, [])), (86, (13, 0, 0, 0, 87, [])), (87, (20, 0, 0, 0, 88, [])), (88, (0, 0, 0, 1, 89, [])), (89, (9, 0, 0, 0, 90, [])), (90, (21, 0, 0, 0, 91, [])), (91, (8, 3, 0, 1, 94, [])), (94, (8, 4, 0, 1, 97, [])), (97, (15, 0, 0, 0, 21, [])), (100, (4, 0, 0, 0, 101, [])), (104, (17, 0, 107, 0, 109, [])), (107, (0, 0, 0, (-1), 108, [])), (108, (27, 0, 0, 0, 109, [])), (109, (4, 0, 0, 0, 110, [])), (113, (4, 0, 0, 0, 114, [])), (114, (18, 5, 7, 0, 117, [])), (117, (0, 0, 0, 0, 118, [])), (118, (4, 0, 0, 0, 119, [])), (119, (18, 5, 8, 0, 122, [])), (122, (0, 0, 0, 0, 123, [])), (123, (4, 0, 0, 0, 124, [])), (124, (18, 5, 0, 0, 127, [])), (127, (18, 6, 8, 0, 130, [])), (133, (4, 0, 0, 0, 134, [])), (134, (0, 0, 0, 1, 135, [])), (135, (19, 5, 9, 0, 138, [])), (138, (2, 3, 0, 0, 139, [])), (139, (27, 0, 0, 0, 140, []))]
set_option maxRecDepth 100000 in
theorem K_X5_keepFewest : ztbok F_X5_keepFewest T_X5_keepFewest := ztbB_ok (by decide +kernel)
set_option maxRecDepth 100000 in
theorem W_X5_keepFewest : zMth yX5_keepFewest (.code yX5_keepFewest cX5_keepFewest 5 (some .int)) 2 := ⟨z_at 1131 (by decide +kernel) (by decide +kernel), z_at 11 (by decide +kernel) (by decide +kernel), ⟨by decide +kernel, by decide +kernel⟩, by decide +kernel⟩
set_option maxRecDepth 100000 in
theorem I_X5_keepFewest : Cond.instanceMethod yX5_keepFewest ∈ zws := z_at 1129 (by decide +kernel) (by decide +kernel)
set_option maxRecDepth 100000 in
theorem S_X5_keepFewest : Cond.selects yX5_keepFewest.cls yX5_keepFewest yX5_keepFewest ∈ zws := z_at 1130 (by decide +kernel) (by decide +kernel)
abbrev F_X5_isShoeless : zF := (5, cX5_isShoeless, some .boolean, 6, [], false)
def T_X5_isShoeless : List (Nat × zI) := [(0, (2, 2, 0, 0, 1, [])), (1, (5, 4, 0, 0, 3, [])), (3, (2, 4, 0, 0, 5, [])), (5, (2, 3, 0, 0, 6, [])), (6, (16, 2, 54, 0, 9, [])), (9, (4, 0, 0, 0, 10, [])), (10, (18, 5, 1, 0, 13, [])), (13, (2, 1, 0, 0, 14, [])), (14, (2, 4, 0, 0, 16, [])), (19, (5, 5, 0, 0, 21, [])), (21, (4, 0, 0, 0, 22, [])), (22, (18, 5, 0, 0, 25, [])), (25, (2, 5, 0, 0, 27, [])), (30, (17, 0, 48, 0, 33, [])), (33, (4, 0, 0, 0, 34, [])), (34, (18, 5, 2, 0, 37, [])), (37, (2, 1, 0, 0, 38, [])), (38, (2, 5, 0, 0, 40, [])), (43, (17, 0, 46, 0, 48, [])), (46, (0, 0, 0, 1, 47, [])), (47, (27, 0, 0, 0, 48, [])), (48, (8, 4, 0, 1, 51, [])), (51, (15, 0, 0, 0, 3, [])), (54, (0, 0, 0, 0, 55, [])), (55, (27, 0, 0, 0, 56, []))]
set_option maxRecDepth 100000 in
theorem K_X5_isShoeless : ztbok F_X5_isShoeless T_X5_isShoeless := ztbB_ok (by decide +kernel)
set_option maxRecDepth 100000 in
theorem W_X5_isShoeless : zMth yX5_isShoeless (.code yX5_isShoeless cX5_isShoeless 6 (some .boolean)) 3 := ⟨z_at 1143 (by decide +kernel) (by decide +kernel), z_at 11 (by decide +kernel) (by decide +kernel), ⟨by decide +kernel, by decide +kernel⟩, by decide +kernel⟩
set_option maxRecDepth 100000 in
theorem I_X5_isShoeless : Cond.instanceMethod yX5_isShoeless ∈ zws := z_at 1142 (by decide +kernel) (by decide +kernel)
set_option maxRecDepth 100000 in
theorem S_X5_isShoeless : Cond.selects yX5_isShoeless.cls yX5_isShoeless yX5_isShoeless ∈ zws := z_in (List.mem_append_left _ (List.mem_map.mpr ⟨_, List.mem_of_getElem? (i := 40) rfl, rfl⟩)) rfl
abbrev F_X5_helpfulShoes : zF := (5, cX5_helpfulShoes, some .int, 8, [], false)
def T_X5_helpfulShoes : List (Nat × zI) := [(0, (4, 0, 0, 0, 1, [])), (1, (18, 5, 1, 0, 4, [])), (4, (2, 1, 0, 0, 5, [])), (8, (5, 4, 0, 0, 10, [])), (10, (0, 0, 0, 3, 11, [])), (11, (2, 4, 0, 0, 13, [])), (13, (0, 0, 0, (-1), 14, [])), (14, (9, 5, 0, 0, 15, [])), (15, (9, 3, 0, 0, 16, [])), (16, (5, 5, 0, 0, 18, [])), (18, (2, 2, 0, 0, 19, [])), (19, (5, 6, 0, 0, 21, [])), (21, (2, 6, 0, 0, 23, [])), (23, (2, 3, 0, 0, 24, [])), (24, (16, 2, 72, 0, 27, [])), (27, (4, 0, 0, 0, 28, [])), (28, (18, 5, 0, 0, 31, [])), (31, (4, 0, 0, 0, 32, [])), (32, (18, 5, 1, 0, 35, [])), (35, (2, 1, 0, 0, 36, [])), (36, (2, 6, 0, 0, 38, [])), (44, (5, 7, 0, 0, 46, [])), (46, (2, 7, 0, 0, 48, [])), (48, (17, 0, 66, 0, 51, [])), (51, (2, 7, 0, 0, 53, [])), (53, (2, 4, 0, 0, 55, [])), (55, (9, 3, 0, 0, 56, [])), (56, (17, 0, 59, 0, 66, [])), (59, (2, 5, 0, 0, 61, [])), (61, (2, 7, 0, 0, 63, [])), (63, (9, 3, 0, 0, 64, [])), (64, (5, 5, 0, 0, 66, [])), (66, (8, 6, 0, 1, 69, [])), (69, (15, 0, 0, 0, 21, [])), (72, (2, 5, 0, 0, 74, [])), (74, (27, 0, 0, 0, 75, []))]
set_option maxRecDepth 100000 in
theorem K_X5_helpfulShoes : ztbok F_X5_helpfulShoes T_X5_helpfulShoes := ztbB_ok (by decide +kernel)
set_option maxRecDepth 100000 in
theorem W_X5_helpfulShoes : zMth yX5_helpfulShoes (.code yX5_helpfulShoes cX5_helpfulShoes 8 (some .int)) 3 := ⟨z_at 1148 (by decide +kernel) (by decide +kernel), z_at 11 (by decide +kernel) (by decide +kernel), ⟨by decide +kernel, by decide +kernel⟩, by decide +kernel⟩
set_option maxRecDepth 100000 in
theorem I_X5_helpfulShoes : Cond.instanceMethod yX5_helpfulShoes ∈ zws := z_at 1147 (by decide +kernel) (by decide +kernel)
set_option maxRecDepth 100000 in
theorem S_X5_helpfulShoes : Cond.selects yX5_helpfulShoes.cls yX5_helpfulShoes yX5_helpfulShoes ∈ zws := z_in (List.mem_append_left _ (List.mem_map.mpr ⟨_, List.mem_of_getElem? (i := 41) rfl, rfl⟩)) rfl
abbrev F_X5_countSpare : zF := (5, cX5_countSpare, none, 7, [], false)
def T_X5_countSpare : List (Nat × zI) := [(0, (0, 0, 0, 0, 1, [])), (1, (5, 4, 0, 0, 3, [])), (3, (2, 2, 0, 0, 4, [])), (4, (5, 5, 0, 0, 6, [])), (6, (2, 5, 0, 0, 8, [])), (8, (2, 3, 0, 0, 9, [])), (9, (16, 2, 40, 0, 12, [])), (12, (2, 4, 0, 0, 14, [])), (14, (4, 0, 0, 0, 15, [])), (15, (18, 5, 0, 0, 18, [])), (18, (4, 0, 0, 0, 19, [])), (19, (18, 5, 1, 0, 22, [])), (22, (2, 1, 0, 0, 23, [])), (23, (2, 5, 0, 0, 25, [])), (31, (9, 4, 0, 0, 32, [])), (32, (5, 4, 0, 0, 34, [])), (34, (8, 5, 0, 1, 37, [])), (37, (15, 0, 0, 0, 6, [])), (40, (0, 0, 0, 1, 41, [])), (41, (5, 5, 0, 0, 43, [])), (43, (2, 5, 0, 0, 45, [])), (45, (0, 0, 0, 2, 46, [])), (46, (16, 2, 106, 0, 49, [])), (49, (2, 4, 0, 0, 51, [])), (51, (2, 5, 0, 0, 53, [])), (53, (9, 3, 0, 0, 54, [])), (54, (17, 0, 57, 0, 70, [])), (57, (4, 0, 0, 0, 58, [])), (58, (18, 5, 1, 0, 61, [])), (61, (2, 1, 0, 0, 62, [])), (62, (2, 5, 0, 0, 64, [])), (67, (15, 0, 0, 0, 71, [])), (70, (0, 0, 0, 0, 71, [])), (71, (5, 6, 0, 0, 73, [])), (73, (4, 0, 0, 0, 74, [])), (74, (18, 5, 4, 0, 77, [])), (77, (2, 1, 0, 0, 78, [])), (78, (0, 0, 0, 2, 79, [])), (79, (9, 2, 0, 0, 80, [])), (80, (2, 5, 0, 0, 82, [])), (82, (9, 0, 0, 0, 83, [])), (83, (0, 0, 0, 1, 84, [])), (84, (9, 1, 0, 0, 85, [])), (85, (2, 6, 0, 0, 87, [])), (87, (21, 0, 0, 0, 88, [])), (88, (4, 0, 0, 0, 89, [])), (89, (18, 5, 6, 0, 92, [])), (92, (2, 5, 0, 0, 94, [])), (94, (13, 0, 0, 0, 95, [])), (95, (20, 0, 0, 0, 96, [])), (96, (2, 6, 0, 0, 98, [])), (98, (9, 0, 0, 0, 99, [])), (99, (21, 0, 0, 0, 100, [])), (100, (8, 5, 0, 1, 103, [])), (103, (15, 0, 0, 0, 43, [])), (106, (29, 0, 0, 0, 107, []))]
set_option maxRecDepth 100000 in
theorem K_X5_countSpare : ztbok F_X5_countSpare T_X5_countSpare := ztbB_ok (by decide +kernel)
set_option maxRecDepth 100000 in
theorem W_X5_countSpare : zMth yX5_countSpare (.code yX5_countSpare cX5_countSpare 7 (none)) 3 := ⟨z_at 1136 (by decide +kernel) (by decide +kernel), z_at 11 (by decide +kernel) (by decide +kernel), ⟨by decide +kernel, by decide +kernel⟩, by decide +kernel⟩
set_option maxRecDepth 100000 in
theorem I_X5_countSpare : Cond.instanceMethod yX5_countSpare ∈ zws := z_at 1135 (by decide +kernel) (by decide +kernel)
set_option maxRecDepth 100000 in
theorem S_X5_countSpare : Cond.selects yX5_countSpare.cls yX5_countSpare yX5_countSpare ∈ zws := z_in (List.mem_append_left _ (List.mem_map.mpr ⟨_, List.mem_of_getElem? (i := 39) rfl, rfl⟩)) rfl
abbrev F_X5_canServe : zF := (5, cX5_canServe, some .boolean, 2, [], false)
def T_X5_canServe : List (Nat × zI) := [(0, (4, 0, 0, 0, 1, [])), (1, (18, 5, 5, 0, 4, [])), (4, (0, 0, 0, 1, 5, [])), (5, (20, 0, 0, 0, 6, [])), (6, (4, 0, 0, 0, 7, [])), (7, (18, 5, 5, 0, 10, [])), (10, (0, 0, 0, 2, 11, [])), (11, (20, 0, 0, 0, 12, [])), (12, (9, 0, 0, 0, 13, [])), (13, (4, 0, 0, 0, 14, [])), (14, (18, 5, 5, 0, 17, [])), (17, (0, 0, 0, 3, 18, [])), (18, (20, 0, 0, 0, 19, [])), (19, (9, 0, 0, 0, 20, [])), (20, (5, 1, 0, 0, 21, [])), (21, (4, 0, 0, 0, 22, [])), (22, (18, 5, 5, 0, 25, [])), (25, (0, 0, 0, 0, 26, [])), (26, (20, 0, 0, 0, 27, [])), (27, (17, 0, 30, 0, 81, [])), (30, (4, 0, 0, 0, 31, [])), (31, (18, 5, 5, 0, 34, [])), (34, (0, 0, 0, 1, 35, [])), (35, (20, 0, 0, 0, 36, [])), (36, (4, 0, 0, 0, 37, [])), (37, (18, 5, 6, 0, 40, [])), (40, (0, 0, 0, 1, 41, [])), (41, (20, 0, 0, 0, 42, [])), (42, (16, 2, 81, 0, 45, [])), (45, (4, 0, 0, 0, 46, [])), (46, (18, 5, 5, 0, 49, [])), (49, (0, 0, 0, 2, 50, [])), (50, (20, 0, 0, 0, 51, [])), (51, (4, 0, 0, 0, 52, [])), (52, (18, 5, 6, 0, 55, [])), (55, (0, 0, 0, 2, 56, [])), (56, (20, 0, 0, 0, 57, [])), (57, (16, 2, 81, 0, 60, [])), (60, (2, 1, 0, 0, 61, [])), (61, (4, 0, 0, 0, 62, [])), (62, (18, 5, 6, 0, 65, [])), (65, (0, 0, 0, 1, 66, [])), (66, (20, 0, 0, 0, 67, [])), (67, (4, 0, 0, 0, 68, [])), (68, (18, 5, 6, 0, 71, [])), (71, (0, 0, 0, 2, 72, [])), (72, (20, 0, 0, 0, 73, [])), (73, (9, 0, 0, 0, 74, [])), (74, (16, 2, 81, 0, 77, [])), (77, (0, 0, 0, 1, 78, [])), (78, (15, 0, 0, 0, 82, [])), (81, (0, 0, 0, 0, 82, [])), (82, (27, 0, 0, 0, 83, []))]
set_option maxRecDepth 100000 in
theorem K_X5_canServe : ztbok F_X5_canServe T_X5_canServe := ztbB_ok (by decide +kernel)
set_option maxRecDepth 100000 in
theorem W_X5_canServe : zMth yX5_canServe (.code yX5_canServe cX5_canServe 2 (some .boolean)) 0 := ⟨z_at 1153 (by decide +kernel) (by decide +kernel), z_at 11 (by decide +kernel) (by decide +kernel), ⟨by decide +kernel, by decide +kernel⟩, by decide +kernel⟩
set_option maxRecDepth 100000 in
theorem I_X5_canServe : Cond.instanceMethod yX5_canServe ∈ zws := z_at 1152 (by decide +kernel) (by decide +kernel)
set_option maxRecDepth 100000 in
theorem S_X5_canServe : Cond.selects yX5_canServe.cls yX5_canServe yX5_canServe ∈ zws := z_in (List.mem_append_left _ (List.mem_map.mpr ⟨_, List.mem_of_getElem? (i := 42) rfl, rfl⟩)) rfl
abbrev F_X5_serveAll : zF := (5, cX5_serveAll, none, 2, [], false)
def T_X5_serveAll : List (Nat × zI) := [(0, (0, 0, 0, 0, 1, [])), (1, (5, 1, 0, 0, 2, [])), (2, (2, 1, 0, 0, 3, [])), (3, (4, 0, 0, 0, 4, [])), (4, (18, 5, 0, 0, 7, [])), (7, (18, 6, 8, 0, 10, [])), (10, (16, 1, 13, 0, 56, [])), (13, (4, 0, 0, 0, 14, [])), (14, (18, 5, 7, 0, 17, [])), (17, (2, 1, 0, 0, 18, [])), (18, (0, 0, 0, (-1), 19, [])), (19, (21, 0, 0, 0, 20, [])), (20, (4, 0, 0, 0, 21, [])), (21, (18, 5, 3, 0, 24, [])), (24, (2, 1, 0, 0, 25, [])), (25, (20, 0, 0, 0, 26, [])), (26, (0, 0, 0, (-1), 27, [])), (27, (16, 0, 50, 0, 30, [])), (30, (4, 0, 0, 0, 31, [])), (31, (18, 5, 5, 0, 34, [])), (34, (4, 0, 0, 0, 35, [])), (35, (18, 5, 3, 0, 38, [])), (38, (2, 1, 0, 0, 39, [])), (39, (20, 0, 0, 0, 40, [])), (40, (13, 0, 0, 0, 41, [])), (41, (20, 0, 0, 0, 42, [])), (42, (0, 0, 0, 1, 43, [])), (43, (9, 1, 0, 0, 44, [])), (44, (21, 0, 0, 0, 45, [])), (45, (4, 0, 0, 0, 46, [])), (46, (2, 1, 0, 0, 47, [])), (50, (8, 1, 0, 1, 53, [])), (53, (15, 0, 0, 0, 2, [])), (56, (29, 0, 0, 0, 57, []))]
set_option maxRecDepth 100000 in
theorem K_X5_serveAll : ztbok F_X5_serveAll T_X5_serveAll := ztbB_ok (by decide +kernel)
set_option maxRecDepth 100000 in
theorem W_X5_serveAll : zMth yX5_serveAll (.code yX5_serveAll cX5_serveAll 2 (none)) 0 := ⟨z_at 1157 (by decide +kernel) (by decide +kernel), z_at 11 (by decide +kernel) (by decide +kernel), ⟨by decide +kernel, by decide +kernel⟩, by decide +kernel⟩
set_option maxRecDepth 100000 in
theorem I_X5_serveAll : Cond.instanceMethod yX5_serveAll ∈ zws := z_at 1156 (by decide +kernel) (by decide +kernel)
set_option maxRecDepth 100000 in
theorem S_X5_serveAll : Cond.selects yX5_serveAll.cls yX5_serveAll yX5_serveAll ∈ zws := z_in (List.mem_append_left _ (List.mem_map.mpr ⟨_, List.mem_of_getElem? (i := 43) rfl, rfl⟩)) rfl
abbrev F_X5_serve : zF := (5, cX5_serve, none, 4, [], false)
def T_X5_serve : List (Nat × zI) := [(0, (0, 0, 0, 0, 1, [])), (1, (5, 2, 0, 0, 2, [])), (2, (2, 2, 0, 0, 3, [])), (3, (4, 0, 0, 0, 4, [])), (4, (18, 5, 0, 0, 7, [])), (7, (18, 6, 8, 0, 10, [])), (10, (16, 1, 13, 0, 91, [])), (13, (0, 0, 0, 1, 14, [])), (14, (5, 3, 0, 0, 15, [])), (15, (2, 3, 0, 0, 16, [])), (16, (0, 0, 0, 2, 17, [])), (17, (16, 2, 85, 0, 20, [])), (20, (4, 0, 0, 0, 21, [])), (21, (18, 5, 3, 0, 24, [])), (24, (2, 1, 0, 0, 25, [])), (25, (20, 0, 0, 0, 26, [])), (26, (2, 3, 0, 0, 27, [])), (27, (9, 3, 0, 0, 28, [])), (28, (17, 0, 79, 0, 31, [])), (31, (4, 0, 0, 0, 32, [])), (32, (2, 2, 0, 0, 33, [])), (33, (2, 3, 0, 0, 34, [])), (37, (17, 0, 79, 0, 40, [])), (40, (4, 0, 0, 0, 41, [])), (41, (18, 5, 4, 0, 44, [])), (44, (2, 2, 0, 0, 45, [])), (45, (0, 0, 0, 2, 46, [])), (46, (9, 2, 0, 0, 47, [])), (47, (2, 3, 0, 0, 48, [])), (48, (9, 0, 0, 0, 49, [])), (49, (0, 0, 0, 1, 50, [])), (50, (9, 1, 0, 0, 51, [])), (51, (13, 0, 0, 0, 52, [])), (52, (20, 0, 0, 0, 53, [])), (53, (0, 0, 0, 1, 54, [])), (54, (9, 1, 0, 0, 55, [])), (55, (21, 0, 0, 0, 56, [])), (56, (4, 0, 0, 0, 57, [])), (57, (18, 5, 6, 0, 60, [])), (60, (2, 3, 0, 0, 61, [])), (61, (13, 0, 0, 0, 62, [])), (62, (20, 0, 0, 0, 63, [])), (63, (0, 0, 0, 1, 64, [])), (64, (9, 1, 0, 0, 65, [])), (65, (21, 0, 0, 0, 66, [])), (66, (4, 0, 0, 0, 67, [])), (67, (18, 5, 7, 0, 70, [])), (70, (2, 1, 0, 0, 71, [])), (71, (0, 0, 0, 10, 73, [])), (73, (2, 2, 0, 0, 74, [])), (74, (9, 2, 0, 0, 75, [])), (75, (2, 3, 0, 0, 76, [])), (76, (9, 0, 0, 0, 77, [])), (77, (21, 0, 0, 0, 78, [])), (78, (29, 0, 0, 0, 79, [])), (79, (8, 3, 0, 1, 82, [])), (82, (15, 0, 0, 0, 15, [])), (85, (8, 2, 0, 1, 88, [])), (88, (15, 0, 0, 0, 2, [])), (91, (29, 0, 0, 0, 92, []))]
set_option maxRecDepth 100000 in
theorem K_X5_serve : ztbok F_X5_serve T_X5_serve := ztbB_ok (by decide +kernel)
set_option maxRecDepth 100000 in
theorem W_X5_serve : zMth yX5_serve (.code yX5_serve cX5_serve 4 (none)) 1 := ⟨z_at 1161 (by decide +kernel) (by decide +kernel), z_at 11 (by decide +kernel) (by decide +kernel), ⟨by decide +kernel, by decide +kernel⟩, by decide +kernel⟩
set_option maxRecDepth 100000 in
theorem I_X5_serve : Cond.instanceMethod yX5_serve ∈ zws := z_at 1160 (by decide +kernel) (by decide +kernel)
set_option maxRecDepth 100000 in
theorem S_X5_serve : Cond.selects yX5_serve.cls yX5_serve yX5_serve ∈ zws := z_in (List.mem_append_left _ (List.mem_map.mpr ⟨_, List.mem_of_getElem? (i := 44) rfl, rfl⟩)) rfl
abbrev F_X5_canSpare : zF := (5, cX5_canSpare, some .boolean, 4, [], false)
def T_X5_canSpare : List (Nat × zI) := [(0, (4, 0, 0, 0, 1, [])), (1, (18, 5, 4, 0, 4, [])), (4, (2, 1, 0, 0, 5, [])), (5, (0, 0, 0, 2, 6, [])), (6, (9, 2, 0, 0, 7, [])), (7, (2, 2, 0, 0, 8, [])), (8, (9, 0, 0, 0, 9, [])), (9, (0, 0, 0, 1, 10, [])), (10, (9, 1, 0, 0, 11, [])), (11, (20, 0, 0, 0, 12, [])), (12, (0, 0, 0, 1, 13, [])), (13, (16, 1, 16, 0, 18, [])), (16, (0, 0, 0, 0, 17, [])), (17, (27, 0, 0, 0, 18, [])), (18, (4, 0, 0, 0, 19, [])), (19, (18, 5, 6, 0, 22, [])), (22, (2, 2, 0, 0, 23, [])), (23, (13, 0, 0, 0, 24, [])), (24, (20, 0, 0, 0, 25, [])), (25, (0, 0, 0, 1, 26, [])), (26, (9, 1, 0, 0, 27, [])), (27, (21, 0, 0, 0, 28, [])), (28, (4, 0, 0, 0, 29, [])), (32, (5, 3, 0, 0, 33, [])), (33, (4, 0, 0, 0, 34, [])), (34, (18, 5, 6, 0, 37, [])), (37, (2, 2, 0, 0, 38, [])), (38, (13, 0, 0, 0, 39, [])), (39, (20, 0, 0, 0, 40, [])), (40, (0, 0, 0, 1, 41, [])), (41, (9, 0, 0, 0, 42, [])), (42, (21, 0, 0, 0, 43, [])), (43, (2, 3, 0, 0, 44, [])), (44, (27, 0, 0, 0, 45, []))]
set_option maxRecDepth 100000 in
theorem K_X5_canSpare : ztbok F_X5_canSpare T_X5_canSpare := ztbB_ok (by decide +kernel)
set_option maxRecDepth 100000 in
theorem W_X5_canSpare : zMth yX5_canSpare (.code yX5_canSpare cX5_canSpare 4 (some .boolean)) 2 := ⟨z_at 1165 (by decide +kernel) (by decide +kernel), z_at 11 (by decide +kernel) (by decide +kernel), ⟨by decide +kernel, by decide +kernel⟩, by decide +kernel⟩
set_option maxRecDepth 100000 in
theorem I_X5_canSpare : Cond.instanceMethod yX5_canSpare ∈ zws := z_at 1164 (by decide +kernel) (by decide +kernel)
set_option maxRecDepth 100000 in
theorem S_X5_canSpare : Cond.selects yX5_canSpare.cls yX5_canSpare yX5_canSpare ∈ zws := z_in (List.mem_append_left _ (List.mem_map.mpr ⟨_, List.mem_of_getElem? (i := 45) rfl, rfl⟩)) rfl
abbrev F_X6_init : zF := (6, cX6_init, none, 1, [], true)
def T_X6_init : List (Nat × zI) := [(0, (4, 0, 0, 0, 1, [])), (1, (35, 0, 0, 0, 4, [])), (4, (4, 0, 0, 0, 5, [])), (5, (0, 0, 0, 8, 7, [])), (7, (31, 1, 0, 0, 9, [])), (9, (19, 6, 0, 0, 12, [])), (12, (4, 0, 0, 0, 13, [])), (13, (0, 0, 0, 8, 15, [])), (15, (31, 1, 0, 0, 17, [])), (17, (19, 6, 1, 0, 20, [])), (20, (4, 0, 0, 0, 21, [])), (21, (0, 0, 0, 6, 23, [])), (23, (31, 1, 0, 0, 25, [])), (25, (19, 6, 2, 0, 28, [])), (28, (4, 0, 0, 0, 29, [])), (29, (0, 0, 0, 6, 31, [])), (31, (31, 1, 0, 0, 33, [])), (33, (19, 6, 3, 0, 36, [])), (36, (4, 0, 0, 0, 37, [])), (37, (0, 0, 0, 3, 38, [])), (38, (31, 1, 0, 0, 40, [])), (40, (19, 6, 4, 0, 43, [])), (43, (4, 0, 0, 0, 44, [])), (44, (0, 0, 0, 144, 47, [])), (47, (31, 1, 0, 0, 49, [])), (49, (19, 6, 5, 0, 52, [])), (52, (4, 0, 0, 0, 53, [])), (53, (0, 0, 0, 4, 54, [])), (54, (31, 1, 0, 0, 56, [])), (56, (19, 6, 6, 0, 59, [])), (59, (4, 0, 0, 0, 60, [])), (63, (29, 0, 0, 0, 64, []))]
set_option maxRecDepth 100000 in
theorem K_X6_init : ztbok F_X6_init T_X6_init := ztbB_ok (by decide +kernel)
set_option maxRecDepth 100000 in
theorem W_X6_init : zMth yX6_init (.code yX6_init cX6_init 1 (none)) 0 := ⟨z_at 55 (by decide +kernel) (by decide +kernel), z_at 3 (by decide +kernel) (by decide +kernel), ⟨by decide +kernel, by decide +kernel⟩, by decide +kernel⟩
set_option maxRecDepth 100000 in
theorem I_X6_init : Cond.instanceMethod yX6_init ∈ zws := z_at 54 (by decide +kernel) (by decide +kernel)
abbrev F_X6_setFirstLaw : zF := (6, cX6_setFirstLaw, none, 1, [], false)
def T_X6_setFirstLaw : List (Nat × zI) := [(0, (4, 0, 0, 0, 1, [])), (1, (18, 6, 6, 0, 4, [])), (4, (0, 0, 0, 0, 5, [])), (5, (0, 0, 0, 3, 6, [])), (6, (21, 0, 0, 0, 7, [])), (7, (4, 0, 0, 0, 8, [])), (8, (18, 6, 6, 0, 11, [])), (11, (0, 0, 0, 1, 12, [])), (12, (0, 0, 0, 1, 13, [])), (13, (21, 0, 0, 0, 14, [])), (14, (4, 0, 0, 0, 15, [])), (15, (18, 6, 6, 0, 18, [])), (18, (0, 0, 0, 2, 19, [])), (19, (0, 0, 0, 2, 20, [])), (20, (21, 0, 0, 0, 21, [])), (21, (4, 0, 0, 0, 22, [])), (22, (18, 6, 6, 0, 25, [])), (25, (0, 0, 0, 3, 26, [])), (26, (0, 0, 0, 1, 27, [])), (27, (21, 0, 0, 0, 28, [])), (28, (29, 0, 0, 0, 29, []))]
set_option maxRecDepth 100000 in
theorem K_X6_setFirstLaw : ztbok F_X6_setFirstLaw T_X6_setFirstLaw := ztbB_ok (by decide +kernel)
set_option maxRecDepth 100000 in
theorem W_X6_setFirstLaw : zMth yX6_setFirstLaw (.code yX6_setFirstLaw cX6_setFirstLaw 1 (none)) 0 := ⟨z_at 60 (by decide +kernel) (by decide +kernel), z_at 3 (by decide +kernel) (by decide +kernel), ⟨by decide +kernel, by decide +kernel⟩, by decide +kernel⟩
set_option maxRecDepth 100000 in
theorem I_X6_setFirstLaw : Cond.instanceMethod yX6_setFirstLaw ∈ zws := z_at 59 (by decide +kernel) (by decide +kernel)
set_option maxRecDepth 100000 in
theorem S_X6_setFirstLaw : Cond.selects yX6_setFirstLaw.cls yX6_setFirstLaw yX6_setFirstLaw ∈ zws := z_in (List.mem_append_left _ (List.mem_map.mpr ⟨_, List.mem_of_getElem? (i := 0) rfl, rfl⟩)) rfl
abbrev F_X6_clear : zF := (6, cX6_clear, none, 1, [], false)
def T_X6_clear : List (Nat × zI) := [(0, (4, 0, 0, 0, 1, [])), (1, (0, 0, 0, 0, 2, [])), (2, (19, 6, 7, 0, 5, [])), (5, (4, 0, 0, 0, 6, [])), (6, (0, 0, 0, 0, 7, [])), (7, (19, 6, 8, 0, 10, [])), (10, (4, 0, 0, 0, 11, [])), (11, (0, 0, 0, 0, 12, [])), (12, (19, 6, 9, 0, 15, [])), (15, (4, 0, 0, 0, 16, [])), (16, (0, 0, 0, 0, 17, [])), (17, (19, 6, 10, 0, 20, [])), (20, (4, 0, 0, 0, 21, [])), (21, (0, 0, 0, 0, 22, [])), (22, (19, 6, 11, 0, 25, [])), (25, (4, 0, 0, 0, 26, [])), (26, (18, 6, 5, 0, 29, [])), (29, (0, 0, 0, 0, 30, [])), (33, (4, 0, 0, 0, 34, [])), (37, (29, 0, 0, 0, 38, []))]
set_option maxRecDepth 100000 in
theorem K_X6_clear : ztbok F_X6_clear T_X6_clear := ztbB_ok (by decide +kernel)
set_option maxRecDepth 100000 in
theorem W_X6_clear : zMth yX6_clear (.code yX6_clear cX6_clear 1 (none)) 0 := ⟨z_at 623 (by decide +kernel) (by decide +kernel), z_at 3 (by decide +kernel) (by decide +kernel), ⟨by decide +kernel, by decide +kernel⟩, by decide +kernel⟩
set_option maxRecDepth 100000 in
theorem I_X6_clear : Cond.instanceMethod yX6_clear ∈ zws := z_at 621 (by decide +kernel) (by decide +kernel)
set_option maxRecDepth 100000 in
theorem S_X6_clear : Cond.selects yX6_clear.cls yX6_clear yX6_clear ∈ zws := z_at 622 (by decide +kernel) (by decide +kernel)
abbrev F_X6_copyFrom : zF := (6, cX6_copyFrom, none, 2, [], false)
def T_X6_copyFrom : List (Nat × zI) := [(0, (4, 1, 0, 0, 1, [])), (1, (18, 6, 0, 0, 4, [])), (4, (0, 0, 0, 0, 5, [])), (5, (4, 0, 0, 0, 6, [])), (6, (18, 6, 0, 0, 9, [])), (9, (0, 0, 0, 0, 10, [])), (10, (0, 0, 0, 8, 12, [])), (15, (4, 1, 0, 0, 16, [])), (16, (18, 6, 1, 0, 19, [])), (19, (0, 0, 0, 0, 20, [])), (20, (4, 0, 0, 0, 21, [])), (21, (18, 6, 1, 0, 24, [])), (24, (0, 0, 0, 0, 25, [])), (25, (0, 0, 0, 8, 27, [])), (30, (4, 1, 0, 0, 31, [])), (31, (18, 6, 2, 0, 34, [])), (34, (0, 0, 0, 0, 35, [])), (35, (4, 0, 0, 0, 36, [])), (36, (18, 6, 2, 0, 39, [])), (39, (0, 0, 0, 0, 40, [])), (40, (0, 0, 0, 6, 42, [])), (45, (4, 1, 0, 0, 46, [])), (46, (18, 6, 3, 0, 49, [])), (49, (0, 0, 0, 0, 50, [])), (50, (4, 0, 0, 0, 51, [])), (51, (18, 6, 3, 0, 54, [])), (54, (0, 0, 0, 0, 55, [])), (55, (0, 0, 0, 6, 57, [])), (60, (4, 1, 0, 0, 61, [])), (61, (18, 6, 4, 0, 64, [])), (64, (0, 0, 0, 0, 65, [])), (65, (4, 0, 0, 0, 66, [])), (66, (18, 6, 4, 0, 69, [])), (69, (0, 0, 0, 0, 70, [])), (70, (0, 0, 0, 3, 71, [])), (74, (4, 1, 0, 0, 75, [])), (75, (18, 6, 5, 0, 78, [])), (78, (0, 0, 0, 0, 79, [])), (79, (4, 0, 0, 0, 80, [])), (80, (18, 6, 5, 0, 83, [])), (83, (0, 0, 0, 0, 84, [])), (84, (0, 0, 0, 144, 87, [])), (90, (4, 1, 0, 0, 91, [])), (91, (18, 6, 6, 0, 94, [])), (94, (0, 0, 0, 0, 95, [])), (95, (4, 0, 0, 0, 96, [])), (96, (18, 6, 6, 0, 99, [])), (99, (0, 0, 0, 0, 100, [])), (100, (0, 0, 0, 4, 101, [])), (104, (4, 0, 0, 0, 105, [])), (105, (4, 1, 0, 0, 106, [])), (106, (18, 6, 7, 0, 109, [])), (109, (19, 6, 7, 0, 112, [])), (112, (4, 0, 0, 0, 113, [])), (113, (4, 1, 0, 0, 114, [])), (114, (18, 6, 8, 0, 117, [])), (117, (19, 6, 8, 0, 120, [])), (120, (4, 0, 0, 0, 121, [])), (121, (4, 1, 0, 0, 122, [])), (122, (18, 6, 9, 0, 125, [])), (125, (19, 6, 9, 0, 128, [])), (128, (4, 0, 0, 0, 129, [])), (129, (4, 1, 0, 0, 130, [])), (130, (18, 6, 10, 0, 133, [])), (133, (19, 6, 10, 0, 136, [])), (136, (4, 0, 0, 0, 137, [])), (137, (4, 1, 0, 0, 138, [])), (138, (18, 6, 11, 0, 141, [])), (141, (19, 6, 11, 0, 144, [])), (144, (29, 0, 0, 0, 145, []))]
set_option maxRecDepth 100000 in
theorem K_X6_copyFrom : ztbok F_X6_copyFrom T_X6_copyFrom := ztbB_ok (by decide +kernel)
set_option maxRecDepth 100000 in
theorem W_X6_copyFrom : zMth yX6_copyFrom (.code yX6_copyFrom cX6_copyFrom 2 (none)) 1 := ⟨z_at 784 (by decide +kernel) (by decide +kernel), z_at 3 (by decide +kernel) (by decide +kernel), ⟨by decide +kernel, by decide +kernel⟩, by decide +kernel⟩
set_option maxRecDepth 100000 in
theorem I_X6_copyFrom : Cond.instanceMethod yX6_copyFrom ∈ zws := z_at 782 (by decide +kernel) (by decide +kernel)
set_option maxRecDepth 100000 in
theorem S_X6_copyFrom : Cond.selects yX6_copyFrom.cls yX6_copyFrom yX6_copyFrom ∈ zws := z_at 783 (by decide +kernel) (by decide +kernel)
abbrev F_X6_addRoom : zF := (6, cX6_addRoom, none, 2, [], false)
def T_X6_addRoom : List (Nat × zI) := [(0, (4, 0, 0, 0, 1, [])), (1, (18, 6, 0, 0, 4, [])), (4, (4, 0, 0, 0, 5, [])), (5, (18, 6, 7, 0, 8, [])), (8, (2, 1, 0, 0, 9, [])), (9, (21, 0, 0, 0, 10, [])), (10, (4, 0, 0, 0, 11, [])), (11, (18, 6, 1, 0, 14, [])), (14, (4, 0, 0, 0, 15, [])), (15, (18, 6, 7, 0, 18, [])), (18, (0, 0, 0, (-1), 19, [])), (19, (21, 0, 0, 0, 20, [])), (20, (4, 0, 0, 0, 21, [])), (21, (12, 0, 0, 0, 22, [])), (22, (18, 6, 7, 0, 25, [])), (25, (0, 0, 0, 1, 26, [])), (26, (9, 0, 0, 0, 27, [])), (27, (19, 6, 7, 0, 30, [])), (30, (29, 0, 0, 0, 31, []))]
set_option maxRecDepth 100000 in
theorem K_X6_addRoom : ztbok F_X6_addRoom T_X6_addRoom := ztbB_ok (by decide +kernel)
set_option maxRecDepth 100000 in
theorem W_X6_addRoom : zMth yX6_addRoom (.code yX6_addRoom cX6_addRoom 2 (none)) 1 := ⟨z_at 719 (by decide +kernel) (by decide +kernel), z_at 3 (by decide +kernel) (by decide +kernel), ⟨by decide +kernel, by decide +kernel⟩, by decide +kernel⟩
set_option maxRecDepth 100000 in
theorem I_X6_addRoom : Cond.instanceMethod yX6_addRoom ∈ zws := z_at 717 (by decide +kernel) (by decide +kernel)
set_option maxRecDepth 100000 in
theorem S_X6_addRoom : Cond.selects yX6_addRoom.cls yX6_addRoom yX6_addRoom ∈ zws := z_at 718 (by decide +kernel) (by decide +kernel)
abbrev F_X6_addLodger : zF := (6, cX6_addLodger, none, 2, [], false)
def T_X6_addLodger : List (Nat × zI) := [(0, (4, 0, 0, 0, 1, [])), (1, (18, 6, 2, 0, 4, [])), (4, (4, 0, 0, 0, 5, [])), (5, (18, 6, 8, 0, 8, [])), (8, (2, 1, 0, 0, 9, [])), (9, (21, 0, 0, 0, 10, [])), (10, (4, 0, 0, 0, 11, [])), (11, (18, 6, 3, 0, 14, [])), (14, (4, 0, 0, 0, 15, [])), (15, (18, 6, 8, 0, 18, [])), (18, (0, 0, 0, 3, 19, [])), (19, (21, 0, 0, 0, 20, [])), (20, (4, 0, 0, 0, 21, [])), (21, (18, 6, 1, 0, 24, [])), (24, (2, 1, 0, 0, 25, [])), (25, (4, 0, 0, 0, 26, [])), (26, (18, 6, 8, 0, 29, [])), (29, (21, 0, 0, 0, 30, [])), (30, (4, 0, 0, 0, 31, [])), (31, (12, 0, 0, 0, 32, [])), (32, (18, 6, 8, 0, 35, [])), (35, (0, 0, 0, 1, 36, [])), (36, (9, 0, 0, 0, 37, [])), (37, (19, 6, 8, 0, 40, [])), (40, (29, 0, 0, 0, 41, []))]
set_option maxRecDepth 100000 in
theorem K_X6_addLodger : ztbok F_X6_addLodger T_X6_addLodger := ztbB_ok (by decide +kernel)
set_option maxRecDepth 100000 in
theorem W_X6_addLodger : zMth yX6_addLodger (.code yX6_addLodger cX6_addLodger 2 (none)) 1 := ⟨z_at 732 (by decide +kernel) (by decide +kernel), z_at 3 (by decide +kernel) (by decide +kernel), ⟨by decide +kernel, by decide +kernel⟩, by decide +kernel⟩
set_option maxRecDepth 100000 in
theorem I_X6_addLodger : Cond.instanceMethod yX6_addLodger ∈ zws := z_at 730 (by decide +kernel) (by decide +kernel)
set_option maxRecDepth 100000 in
theorem S_X6_addLodger : Cond.selects yX6_addLodger.cls yX6_addLodger yX6_addLodger ∈ zws := z_at 731 (by decide +kernel) (by decide +kernel)
abbrev F_X6_addFinder : zF := (6, cX6_addFinder, none, 2, [], false)
def T_X6_addFinder : List (Nat × zI) := [(0, (4, 0, 0, 0, 1, [])), (1, (18, 6, 4, 0, 4, [])), (4, (4, 0, 0, 0, 5, [])), (5, (18, 6, 9, 0, 8, [])), (8, (2, 1, 0, 0, 9, [])), (9, (21, 0, 0, 0, 10, [])), (10, (4, 0, 0, 0, 11, [])), (11, (12, 0, 0, 0, 12, [])), (12, (18, 6, 9, 0, 15, [])), (15, (0, 0, 0, 1, 16, [])), (16, (9, 0, 0, 0, 17, [])), (17, (19, 6, 9, 0, 20, [])), (20, (29, 0, 0, 0, 21, []))]
set_option maxRecDepth 100000 in
theorem K_X6_addFinder : ztbok F_X6_addFinder T_X6_addFinder := ztbB_ok (by decide +kernel)
set_option maxRecDepth 100000 in
theorem W_X6_addFinder : zMth yX6_addFinder (.code yX6_addFinder cX6_addFinder 2 (none)) 1 := ⟨z_at 743 (by decide +kernel) (by decide +kernel), z_at 3 (by decide +kernel) (by decide +kernel), ⟨by decide +kernel, by decide +kernel⟩, by decide +kernel⟩
set_option maxRecDepth 100000 in
theorem I_X6_addFinder : Cond.instanceMethod yX6_addFinder ∈ zws := z_at 741 (by decide +kernel) (by decide +kernel)
set_option maxRecDepth 100000 in
theorem S_X6_addFinder : Cond.selects yX6_addFinder.cls yX6_addFinder yX6_addFinder ∈ zws := z_at 742 (by decide +kernel) (by decide +kernel)
abbrev F_X6_addMay : zF := (6, cX6_addMay, none, 6, [], false)
def T_X6_addMay : List (Nat × zI) := [(0, (2, 3, 0, 0, 1, [])), (1, (5, 5, 0, 0, 3, [])), (3, (2, 5, 0, 0, 5, [])), (5, (2, 4, 0, 0, 7, [])), (7, (16, 2, 34, 0, 10, [])), (10, (4, 0, 0, 0, 11, [])), (11, (18, 6, 5, 0, 14, [])), (14, (2, 1, 0, 0, 15, [])), (15, (0, 0, 0, 24, 17, [])), (17, (9, 2, 0, 0, 18, [])), (18, (2, 5, 0, 0, 20, [])), (20, (9, 0, 0, 0, 21, [])), (21, (13, 0, 0, 0, 22, [])), (22, (20, 0, 0, 0, 23, [])), (23, (0, 0, 0, 1, 24, [])), (24, (2, 2, 0, 0, 25, [])), (25, (9, 6, 0, 0, 26, [])), (26, (9, 4, 0, 0, 27, [])), (27, (21, 0, 0, 0, 28, [])), (28, (8, 5, 0, 1, 31, [])), (31, (15, 0, 0, 0, 3, [])), (34, (4, 0, 0, 0, 35, [])), (35, (12, 0, 0, 0, 36, [])), (36, (18, 6, 10, 0, 39, [])), (39, (0, 0, 0, 1, 40, [])), (40, (9, 0, 0, 0, 41, [])), (41, (19, 6, 10, 0, 44, [])), (44, (29, 0, 0, 0, 45, []))]
set_option maxRecDepth 100000 in
theorem K_X6_addMay : ztbok F_X6_addMay T_X6_addMay := ztbB_ok (by decide +kernel)
set_option maxRecDepth 100000 in
theorem W_X6_addMay : zMth yX6_addMay (.code yX6_addMay cX6_addMay 6 (none)) 4 := ⟨z_at 765 (by decide +kernel) (by decide +kernel), z_at 3 (by decide +kernel) (by decide +kernel), ⟨by decide +kernel, by decide +kernel⟩, by decide +kernel⟩
set_option maxRecDepth 100000 in
theorem I_X6_addMay : Cond.instanceMethod yX6_addMay ∈ zws := z_at 763 (by decide +kernel) (by decide +kernel)
set_option maxRecDepth 100000 in
theorem S_X6_addMay : Cond.selects yX6_addMay.cls yX6_addMay yX6_addMay ∈ zws := z_at 764 (by decide +kernel) (by decide +kernel)
abbrev F_X6_addLaw : zF := (6, cX6_addLaw, none, 3, [], false)
def T_X6_addLaw : List (Nat × zI) := [(0, (4, 0, 0, 0, 1, [])), (1, (18, 6, 6, 0, 4, [])), (4, (2, 1, 0, 0, 5, [])), (5, (2, 2, 0, 0, 6, [])), (6, (21, 0, 0, 0, 7, [])), (7, (4, 0, 0, 0, 8, [])), (8, (12, 0, 0, 0, 9, [])), (9, (18, 6, 11, 0, 12, [])), (12, (0, 0, 0, 1, 13, [])), (13, (2, 1, 0, 0, 14, [])), (14, (9, 6, 0, 0, 15, [])), (15, (9, 4, 0, 0, 16, [])), (16, (19, 6, 11, 0, 19, [])), (19, (29, 0, 0, 0, 20, []))]
set_option maxRecDepth 100000 in
theorem K_X6_addLaw : ztbok F_X6_addLaw T_X6_addLaw := ztbB_ok (by decide +kernel)
set_option maxRecDepth 100000 in
theorem W_X6_addLaw : zMth yX6_addLaw (.code yX6_addLaw cX6_addLaw 3 (none)) 2 := ⟨z_at 780 (by decide +kernel) (by decide +kernel), z_at 3 (by decide +kernel) (by decide +kernel), ⟨by decide +kernel, by decide +kernel⟩, by decide +kernel⟩
set_option maxRecDepth 100000 in
theorem I_X6_addLaw : Cond.instanceMethod yX6_addLaw ∈ zws := z_at 778 (by decide +kernel) (by decide +kernel)
set_option maxRecDepth 100000 in
theorem S_X6_addLaw : Cond.selects yX6_addLaw.cls yX6_addLaw yX6_addLaw ∈ zws := z_at 779 (by decide +kernel) (by decide +kernel)
abbrev F_X6_doings : zF := (6, cX6_doings, some .int, 4, [], false)
def T_X6_doings : List (Nat × zI) := [(0, (4, 0, 0, 0, 1, [])), (1, (18, 6, 5, 0, 4, [])), (4, (2, 1, 0, 0, 5, [])), (5, (0, 0, 0, 24, 7, [])), (7, (9, 2, 0, 0, 8, [])), (8, (2, 2, 0, 0, 9, [])), (9, (9, 0, 0, 0, 10, [])), (10, (20, 0, 0, 0, 11, [])), (11, (5, 3, 0, 0, 12, [])), (12, (2, 3, 0, 0, 13, [])), (13, (17, 0, 16, 0, 20, [])), (16, (0, 0, 0, 1, 17, [])), (17, (15, 0, 0, 0, 21, [])), (20, (2, 3, 0, 0, 21, [])), (21, (27, 0, 0, 0, 22, []))]
set_option maxRecDepth 100000 in
theorem K_X6_doings : ztbok F_X6_doings T_X6_doings := ztbB_ok (by decide +kernel)
set_option maxRecDepth 100000 in
theorem W_X6_doings : zMth yX6_doings (.code yX6_doings cX6_doings 4 (some .int)) 2 := ⟨z_at 467 (by decide +kernel) (by decide +kernel), z_at 3 (by decide +kernel) (by decide +kernel), ⟨by decide +kernel, by decide +kernel⟩, by decide +kernel⟩
set_option maxRecDepth 100000 in
theorem I_X6_doings : Cond.instanceMethod yX6_doings ∈ zws := z_at 465 (by decide +kernel) (by decide +kernel)
set_option maxRecDepth 100000 in
theorem S_X6_doings : Cond.selects yX6_doings.cls yX6_doings yX6_doings ∈ zws := z_at 466 (by decide +kernel) (by decide +kernel)
abbrev F_X6_canDo : zF := (6, cX6_canDo, some .boolean, 3, [], false)
def T_X6_canDo : List (Nat × zI) := [(0, (2, 2, 0, 0, 1, [])), (1, (17, 1, 11, 0, 4, [])), (4, (2, 2, 0, 0, 5, [])), (5, (0, 0, 0, 3, 6, [])), (6, (16, 2, 11, 0, 9, [])), (9, (0, 0, 0, 1, 10, [])), (10, (27, 0, 0, 0, 11, [])), (11, (2, 2, 0, 0, 12, [])), (12, (0, 0, 0, 10, 14, [])), (14, (16, 1, 45, 0, 17, [])), (17, (2, 2, 0, 0, 18, [])), (18, (0, 0, 0, 10, 20, [])), (20, (4, 0, 0, 0, 21, [])), (21, (18, 6, 7, 0, 24, [])), (24, (9, 0, 0, 0, 25, [])), (25, (16, 1, 28, 0, 45, [])), (28, (2, 2, 0, 0, 29, [])), (29, (0, 0, 0, 10, 31, [])), (31, (4, 0, 0, 0, 32, [])), (32, (18, 6, 2, 0, 35, [])), (35, (2, 1, 0, 0, 36, [])), (36, (20, 0, 0, 0, 37, [])), (37, (9, 0, 0, 0, 38, [])), (38, (16, 0, 45, 0, 41, [])), (41, (0, 0, 0, 1, 42, [])), (42, (15, 0, 0, 0, 46, [])), (45, (0, 0, 0, 0, 46, [])), (46, (27, 0, 0, 0, 47, []))]
set_option maxRecDepth 100000 in
theorem K_X6_canDo : ztbok F_X6_canDo T_X6_canDo := ztbB_ok (by decide +kernel)
set_option maxRecDepth 100000 in
theorem W_X6_canDo : zMth yX6_canDo (.code yX6_canDo cX6_canDo 3 (some .boolean)) 2 := ⟨z_at 870 (by decide +kernel) (by decide +kernel), z_at 3 (by decide +kernel) (by decide +kernel), ⟨by decide +kernel, by decide +kernel⟩, by decide +kernel⟩
set_option maxRecDepth 100000 in
theorem I_X6_canDo : Cond.instanceMethod yX6_canDo ∈ zws := z_at 868 (by decide +kernel) (by decide +kernel)
set_option maxRecDepth 100000 in
theorem S_X6_canDo : Cond.selects yX6_canDo.cls yX6_canDo yX6_canDo ∈ zws := z_at 869 (by decide +kernel) (by decide +kernel)
abbrev F_X6_lawFor : zF := (6, cX6_lawFor, some .int, 2, [], false)
def T_X6_lawFor : List (Nat × zI) := [(0, (2, 1, 0, 0, 1, [])), (1, (17, 1, 18, 0, 4, [])), (4, (2, 1, 0, 0, 5, [])), (5, (0, 0, 0, 3, 6, [])), (6, (16, 2, 18, 0, 9, [])), (9, (4, 0, 0, 0, 10, [])), (10, (18, 6, 6, 0, 13, [])), (13, (2, 1, 0, 0, 14, [])), (14, (20, 0, 0, 0, 15, [])), (15, (15, 0, 0, 0, 24, [])), (18, (4, 0, 0, 0, 19, [])), (19, (18, 6, 6, 0, 22, [])), (22, (0, 0, 0, 0, 23, [])), (23, (20, 0, 0, 0, 24, [])), (24, (27, 0, 0, 0, 25, []))]
set_option maxRecDepth 100000 in
theorem K_X6_lawFor : ztbok F_X6_lawFor T_X6_lawFor := ztbB_ok (by decide +kernel)
set_option maxRecDepth 100000 in
theorem W_X6_lawFor : zMth yX6_lawFor (.code yX6_lawFor cX6_lawFor 2 (some .int)) 1 := ⟨z_at 522 (by decide +kernel) (by decide +kernel), z_at 3 (by decide +kernel) (by decide +kernel), ⟨by decide +kernel, by decide +kernel⟩, by decide +kernel⟩
set_option maxRecDepth 100000 in
theorem I_X6_lawFor : Cond.instanceMethod yX6_lawFor ∈ zws := z_at 520 (by decide +kernel) (by decide +kernel)
set_option maxRecDepth 100000 in
theorem S_X6_lawFor : Cond.selects yX6_lawFor.cls yX6_lawFor yX6_lawFor ∈ zws := z_at 521 (by decide +kernel) (by decide +kernel)
abbrev F_X6_doingsIn : zF := (6, cX6_doingsIn, some .int, 3, [], false)
def T_X6_doingsIn : List (Nat × zI) := [(0, (4, 0, 0, 0, 1, [])), (1, (18, 6, 2, 0, 4, [])), (4, (2, 2, 0, 0, 5, [])), (5, (20, 0, 0, 0, 6, [])), (6, (2, 1, 0, 0, 7, [])), (7, (16, 0, 10, 0, 15, [])), (10, (0, 0, 0, 14, 12, [])), (12, (15, 0, 0, 0, 21, [])), (15, (0, 0, 0, 1, 16, [])), (16, (0, 0, 0, 10, 18, [])), (18, (2, 1, 0, 0, 19, [])), (19, (9, 0, 0, 0, 20, [])), (20, (9, 6, 0, 0, 21, [])), (21, (27, 0, 0, 0, 22, []))]
set_option maxRecDepth 100000 in
theorem K_X6_doingsIn : ztbok F_X6_doingsIn T_X6_doingsIn := ztbB_ok (by decide +kernel)
set_option maxRecDepth 100000 in
theorem W_X6_doingsIn : zMth yX6_doingsIn (.code yX6_doingsIn cX6_doingsIn 3 (some .int)) 2 := ⟨z_at 983 (by decide +kernel) (by decide +kernel), z_at 3 (by decide +kernel) (by decide +kernel), ⟨by decide +kernel, by decide +kernel⟩, by decide +kernel⟩
set_option maxRecDepth 100000 in
theorem I_X6_doingsIn : Cond.instanceMethod yX6_doingsIn ∈ zws := z_at 981 (by decide +kernel) (by decide +kernel)
set_option maxRecDepth 100000 in
theorem S_X6_doingsIn : Cond.selects yX6_doingsIn.cls yX6_doingsIn yX6_doingsIn ∈ zws := z_at 982 (by decide +kernel) (by decide +kernel)
abbrev F_X6_rowsOf : zF := (6, cX6_rowsOf, some .int, 4, [], false)
def T_X6_rowsOf : List (Nat × zI) := [(0, (0, 0, 0, 1, 1, [])), (1, (5, 2, 0, 0, 2, [])), (2, (0, 0, 0, 0, 3, [])), (3, (5, 3, 0, 0, 4, [])), (4, (2, 3, 0, 0, 5, [])), (5, (4, 0, 0, 0, 6, [])), (6, (18, 6, 8, 0, 9, [])), (9, (16, 1, 12, 0, 30, [])), (12, (2, 2, 0, 0, 13, [])), (13, (4, 0, 0, 0, 14, [])), (14, (2, 3, 0, 0, 15, [])), (15, (2, 1, 0, 0, 16, [])), (22, (9, 2, 0, 0, 23, [])), (23, (5, 2, 0, 0, 24, [])), (24, (8, 3, 0, 1, 27, [])), (27, (15, 0, 0, 0, 4, [])), (30, (2, 2, 0, 0, 31, [])), (31, (0, 0, 0, 4000, 34, [])), (34, (16, 2, 37, 0, 42, [])), (37, (0, 0, 0, (-2), 39, [])), (39, (15, 0, 0, 0, 43, [])), (42, (2, 2, 0, 0, 43, [])), (43, (27, 0, 0, 0, 44, []))]
set_option maxRecDepth 100000 in
theorem K_X6_rowsOf : ztbok F_X6_rowsOf T_X6_rowsOf := ztbB_ok (by decide +kernel)
set_option maxRecDepth 100000 in
theorem W_X6_rowsOf : zMth yX6_rowsOf (.code yX6_rowsOf cX6_rowsOf 4 (some .int)) 1 := ⟨z_at 498 (by decide +kernel) (by decide +kernel), z_at 3 (by decide +kernel) (by decide +kernel), ⟨by decide +kernel, by decide +kernel⟩, by decide +kernel⟩
set_option maxRecDepth 100000 in
theorem I_X6_rowsOf : Cond.instanceMethod yX6_rowsOf ∈ zws := z_at 496 (by decide +kernel) (by decide +kernel)
set_option maxRecDepth 100000 in
theorem S_X6_rowsOf : Cond.selects yX6_rowsOf.cls yX6_rowsOf yX6_rowsOf ∈ zws := z_at 497 (by decide +kernel) (by decide +kernel)
abbrev F_X7_init : zF := (7, cX7_init, none, 3, [], true)
def T_X7_init : List (Nat × zI) := [(0, (4, 0, 0, 0, 1, [])), (1, (35, 0, 0, 0, 4, [])), (4, (4, 0, 0, 0, 5, [])), (5, (4, 1, 0, 0, 6, [])), (6, (19, 7, 0, 0, 9, [])), (9, (4, 0, 0, 0, 10, [])), (10, (4, 2, 0, 0, 11, [])), (11, (19, 7, 1, 0, 14, [])), (14, (29, 0, 0, 0, 15, []))]
set_option maxRecDepth 100000 in
theorem K_X7_init : ztbok F_X7_init T_X7_init := ztbB_ok (by decide +kernel)
set_option maxRecDepth 100000 in
theorem W_X7_init : zMth yX7_init (.code yX7_init cX7_init 3 (none)) 2 := ⟨z_at 133 (by decide +kernel) (by decide +kernel), z_at 4 (by decide +kernel) (by decide +kernel), ⟨by decide +kernel, by decide +kernel⟩, by decide +kernel⟩
set_option maxRecDepth 100000 in
theorem I_X7_init : Cond.instanceMethod yX7_init ∈ zws := z_at 132 (by decide +kernel) (by decide +kernel)
abbrev F_X7_read : zF := (7, cX7_read, some .int, 3, [], false)
def T_X7_read : List (Nat × zI) := [(0, (4, 0, 0, 0, 1, [])), (1, (2, 1, 0, 0, 2, [])), (2, (4, 0, 0, 0, 3, [])), (3, (18, 7, 0, 0, 6, [])), (6, (26, 0, 0, 0, 7, [])), (10, (19, 7, 2, 0, 13, [])), (13, (4, 0, 0, 0, 14, [])), (14, (0, 0, 0, 0, 15, [])), (15, (19, 7, 3, 0, 18, [])), (18, (4, 0, 0, 0, 19, [])), (19, (0, 0, 0, 0, 20, [])), (20, (19, 7, 7, 0, 23, [])), (23, (4, 0, 0, 0, 24, [])), (24, (0, 0, 0, (-1), 25, [])), (25, (19, 7, 8, 0, 28, [])), (28, (4, 0, 0, 0, 29, [])), (29, (18, 7, 1, 0, 32, [])), (35, (4, 0, 0, 0, 36, [])), (39, (0, 0, 0, 0, 40, [])), (40, (5, 2, 0, 0, 41, [])), (41, (2, 2, 0, 0, 42, [])), (42, (0, 0, 0, 700, 45, [])), (45, (16, 1, 48, 0, 72, [])), (48, (4, 0, 0, 0, 49, [])), (49, (18, 7, 4, 0, 52, [])), (52, (17, 0, 72, 0, 55, [])), (55, (4, 0, 0, 0, 56, [])), (56, (18, 7, 7, 0, 59, [])), (59, (17, 0, 62, 0, 72, [])), (62, (4, 0, 0, 0, 63, [])), (66, (8, 2, 0, 1, 69, [])), (69, (15, 0, 0, 0, 41, [])), (72, (4, 0, 0, 0, 73, [])), (73, (18, 7, 7, 0, 76, [])), (76, (27, 0, 0, 0, 77, []))]
set_option maxRecDepth 100000 in
theorem K_X7_read : ztbok F_X7_read T_X7_read := ztbB_ok (by decide +kernel)
set_option maxRecDepth 100000 in
theorem W_X7_read : zMth yX7_read (.code yX7_read cX7_read 3 (some .int)) 1 := ⟨z_at 616 (by decide +kernel) (by decide +kernel), z_at 4 (by decide +kernel) (by decide +kernel), ⟨by decide +kernel, by decide +kernel⟩, by decide +kernel⟩
set_option maxRecDepth 100000 in
theorem I_X7_read : Cond.instanceMethod yX7_read ∈ zws := z_at 614 (by decide +kernel) (by decide +kernel)
set_option maxRecDepth 100000 in
theorem S_X7_read : Cond.selects yX7_read.cls yX7_read yX7_read ∈ zws := z_at 615 (by decide +kernel) (by decide +kernel)
abbrev F_X7_readLine : zF := (7, cX7_readLine, none, 1, [], false)
def T_X7_readLine : List (Nat × zI) := [(0, (4, 0, 0, 0, 1, [])), (6, (17, 0, 16, 0, 9, [])), (9, (4, 0, 0, 0, 10, [])), (13, (15, 0, 0, 0, 86, [])), (16, (4, 0, 0, 0, 17, [])), (22, (17, 0, 32, 0, 25, [])), (25, (4, 0, 0, 0, 26, [])), (29, (15, 0, 0, 0, 86, [])), (32, (4, 0, 0, 0, 33, [])), (38, (17, 0, 48, 0, 41, [])), (41, (4, 0, 0, 0, 42, [])), (45, (15, 0, 0, 0, 86, [])), (48, (4, 0, 0, 0, 49, [])), (54, (17, 0, 64, 0, 57, [])), (57, (4, 0, 0, 0, 58, [])), (61, (15, 0, 0, 0, 86, [])), (64, (4, 0, 0, 0, 65, [])), (70, (17, 0, 80, 0, 73, [])), (73, (4, 0, 0, 0, 74, [])), (77, (15, 0, 0, 0, 86, [])), (80, (4, 0, 0, 0, 81, [])), (81, (0, 0, 0, 1, 82, [])), (85, (14, 0, 0, 0, 86, [])), (86, (4, 0, 0, 0, 87, [])), (87, (18, 7, 7, 0, 90, [])), (90, (17, 0, 93, 0, 107, [])), (93, (4, 0, 0, 0, 94, [])), (94, (18, 7, 4, 0, 97, [])), (97, (0, 0, 0, 3, 98, [])), (98, (16, 0, 107, 0, 101, [])), (101, (4, 0, 0, 0, 102, [])), (102, (0, 0, 0, 1, 103, [])), (106, (14, 0, 0, 0, 107, [])), (107, (4, 0, 0, 0, 108, [])), (111, (29, 0, 0, 0, 112, []))]
set_option maxRecDepth 100000 in
theorem K_X7_readLine : ztbok F_X7_readLine T_X7_readLine := ztbB_ok (by decide +kernel)
set_option maxRecDepth 100000 in
theorem W_X7_readLine : zMth yX7_readLine (.code yX7_readLine cX7_readLine 1 (none)) 0 := ⟨z_at 642 (by decide +kernel) (by decide +kernel), z_at 4 (by decide +kernel) (by decide +kernel), ⟨by decide +kernel, by decide +kernel⟩, by decide +kernel⟩
set_option maxRecDepth 100000 in
theorem I_X7_readLine : Cond.instanceMethod yX7_readLine ∈ zws := z_at 641 (by decide +kernel) (by decide +kernel)
set_option maxRecDepth 100000 in
theorem S_X7_readLine : Cond.selects yX7_readLine.cls yX7_readLine yX7_readLine ∈ zws := z_in (List.mem_append_left _ (List.mem_map.mpr ⟨_, List.mem_of_getElem? (i := 8) rfl, rfl⟩)) rfl
abbrev F_X7_readRoom : zF := (7, cX7_readRoom, none, 2, [], false)
def T_X7_readRoom : List (Nat × zI) := [(0, (4, 0, 0, 0, 1, [])), (1, (4, 0, 0, 0, 2, [])), (2, (18, 7, 1, 0, 5, [])), (5, (18, 6, 7, 0, 8, [])), (8, (0, 0, 0, 8, 10, [])), (13, (17, 0, 17, 0, 16, [])), (16, (29, 0, 0, 0, 17, [])), (17, (4, 0, 0, 0, 18, [])), (21, (4, 0, 0, 0, 22, [])), (22, (0, 0, 0, 0, 23, [])), (23, (0, 0, 0, 99, 25, [])), (28, (5, 1, 0, 0, 29, [])), (29, (2, 1, 0, 0, 30, [])), (30, (0, 0, 0, (-1), 31, [])), (31, (16, 0, 34, 0, 35, [])), (34, (29, 0, 0, 0, 35, [])), (35, (4, 0, 0, 0, 36, [])), (36, (18, 7, 1, 0, 39, [])), (39, (2, 1, 0, 0, 40, [])), (43, (4, 0, 0, 0, 44, [])), (47, (29, 0, 0, 0, 48, []))]
set_option maxRecDepth 100000 in
theorem K_X7_readRoom : ztbok F_X7_readRoom T_X7_readRoom := ztbB_ok (by decide +kernel)
set_option maxRecDepth 100000 in
theorem W_X7_readRoom : zMth yX7_readRoom (.code yX7_readRoom cX7_readRoom 2 (none)) 0 := ⟨z_at 699 (by decide +kernel) (by decide +kernel), z_at 4 (by decide +kernel) (by decide +kernel), ⟨by decide +kernel, by decide +kernel⟩, by decide +kernel⟩
set_option maxRecDepth 100000 in
theorem I_X7_readRoom : Cond.instanceMethod yX7_readRoom ∈ zws := z_at 698 (by decide +kernel) (by decide +kernel)
set_option maxRecDepth 100000 in
theorem S_X7_readRoom : Cond.selects yX7_readRoom.cls yX7_readRoom yX7_readRoom ∈ zws := z_in (List.mem_append_left _ (List.mem_map.mpr ⟨_, List.mem_of_getElem? (i := 10) rfl, rfl⟩)) rfl
abbrev F_X7_readLodger : zF := (7, cX7_readLodger, none, 2, [], false)
def T_X7_readLodger : List (Nat × zI) := [(0, (4, 0, 0, 0, 1, [])), (1, (4, 0, 0, 0, 2, [])), (2, (18, 7, 1, 0, 5, [])), (5, (18, 6, 8, 0, 8, [])), (8, (0, 0, 0, 6, 10, [])), (13, (17, 0, 17, 0, 16, [])), (16, (29, 0, 0, 0, 17, [])), (17, (4, 0, 0, 0, 18, [])), (21, (4, 0, 0, 0, 22, [])), (22, (4, 0, 0, 0, 23, [])), (23, (18, 7, 1, 0, 26, [])), (26, (18, 6, 7, 0, 29, [])), (32, (5, 1, 0, 0, 33, [])), (33, (2, 1, 0, 0, 34, [])), (34, (0, 0, 0, (-1), 35, [])), (35, (16, 0, 38, 0, 39, [])), (38, (29, 0, 0, 0, 39, [])), (39, (4, 0, 0, 0, 40, [])), (40, (18, 7, 1, 0, 43, [])), (43, (18, 6, 1, 0, 46, [])), (46, (2, 1, 0, 0, 47, [])), (47, (20, 0, 0, 0, 48, [])), (48, (0, 0, 0, (-1), 49, [])), (49, (16, 0, 59, 0, 52, [])), (52, (4, 0, 0, 0, 53, [])), (53, (0, 0, 0, 4, 54, [])), (57, (14, 0, 0, 0, 58, [])), (58, (29, 0, 0, 0, 59, [])), (59, (4, 0, 0, 0, 60, [])), (60, (18, 7, 1, 0, 63, [])), (63, (2, 1, 0, 0, 64, [])), (67, (4, 0, 0, 0, 68, [])), (71, (4, 0, 0, 0, 72, [])), (77, (17, 0, 105, 0, 80, [])), (80, (4, 0, 0, 0, 81, [])), (81, (18, 7, 1, 0, 84, [])), (84, (18, 6, 3, 0, 87, [])), (87, (4, 0, 0, 0, 88, [])), (88, (18, 7, 1, 0, 91, [])), (91, (18, 6, 8, 0, 94, [])), (94, (0, 0, 0, 1, 95, [])), (95, (9, 1, 0, 0, 96, [])), (96, (0, 0, 0, 1, 97, [])), (97, (21, 0, 0, 0, 98, [])), (98, (4, 0, 0, 0, 99, [])), (102, (15, 0, 0, 0, 136, [])), (105, (4, 0, 0, 0, 106, [])), (111, (17, 0, 136, 0, 114, [])), (114, (4, 0, 0, 0, 115, [])), (115, (18, 7, 1, 0, 118, [])), (118, (18, 6, 3, 0, 121, [])), (121, (4, 0, 0, 0, 122, [])), (122, (18, 7, 1, 0, 125, [])), (125, (18, 6, 8, 0, 128, [])), (128, (0, 0, 0, 1, 129, [])), (129, (9, 1, 0, 0, 130, [])), (130, (0, 0, 0, 2, 131, [])), (131, (21, 0, 0, 0, 132, [])), (132, (4, 0, 0, 0, 133, [])), (136, (29, 0, 0, 0, 137, []))]
set_option maxRecDepth 100000 in
theorem K_X7_readLodger : ztbok F_X7_readLodger T_X7_readLodger := ztbB_ok (by decide +kernel)
set_option maxRecDepth 100000 in
theorem W_X7_readLodger : zMth yX7_readLodger (.code yX7_readLodger cX7_readLodger 2 (none)) 0 := ⟨z_at 724 (by decide +kernel) (by decide +kernel), z_at 4 (by decide +kernel) (by decide +kernel), ⟨by decide +kernel, by decide +kernel⟩, by decide +kernel⟩
set_option maxRecDepth 100000 in
theorem I_X7_readLodger : Cond.instanceMethod yX7_readLodger ∈ zws := z_at 723 (by decide +kernel) (by decide +kernel)
set_option maxRecDepth 100000 in
theorem S_X7_readLodger : Cond.selects yX7_readLodger.cls yX7_readLodger yX7_readLodger ∈ zws := z_in (List.mem_append_left _ (List.mem_map.mpr ⟨_, List.mem_of_getElem? (i := 15) rfl, rfl⟩)) rfl
abbrev F_X7_readFinder : zF := (7, cX7_readFinder, none, 2, [], false)
def T_X7_readFinder : List (Nat × zI) := [(0, (4, 0, 0, 0, 1, [])), (1, (4, 0, 0, 0, 2, [])), (2, (18, 7, 1, 0, 5, [])), (5, (18, 6, 9, 0, 8, [])), (8, (0, 0, 0, 3, 9, [])), (12, (17, 0, 16, 0, 15, [])), (15, (29, 0, 0, 0, 16, [])), (16, (4, 0, 0, 0, 17, [])), (20, (4, 0, 0, 0, 21, [])), (21, (4, 0, 0, 0, 22, [])), (22, (18, 7, 1, 0, 25, [])), (25, (18, 6, 7, 0, 28, [])), (31, (5, 1, 0, 0, 32, [])), (32, (2, 1, 0, 0, 33, [])), (33, (0, 0, 0, (-1), 34, [])), (34, (16, 0, 37, 0, 38, [])), (37, (29, 0, 0, 0, 38, [])), (38, (4, 0, 0, 0, 39, [])), (39, (18, 7, 1, 0, 42, [])), (42, (2, 1, 0, 0, 43, [])), (46, (4, 0, 0, 0, 47, [])), (50, (29, 0, 0, 0, 51, []))]
set_option maxRecDepth 100000 in
theorem K_X7_readFinder : ztbok F_X7_readFinder T_X7_readFinder := ztbB_ok (by decide +kernel)
set_option maxRecDepth 100000 in
theorem W_X7_readFinder : zMth yX7_readFinder (.code yX7_readFinder cX7_readFinder 2 (none)) 0 := ⟨z_at 739 (by decide +kernel) (by decide +kernel), z_at 4 (by decide +kernel) (by decide +kernel), ⟨by decide +kernel, by decide +kernel⟩, by decide +kernel⟩
set_option maxRecDepth 100000 in
theorem I_X7_readFinder : Cond.instanceMethod yX7_readFinder ∈ zws := z_at 738 (by decide +kernel) (by decide +kernel)
set_option maxRecDepth 100000 in
theorem S_X7_readFinder : Cond.selects yX7_readFinder.cls yX7_readFinder yX7_readFinder ∈ zws := z_in (List.mem_append_left _ (List.mem_map.mpr ⟨_, List.mem_of_getElem? (i := 17) rfl, rfl⟩)) rfl
abbrev F_X7_readMay : zF := (7, cX7_readMay, none, 5, [], false)
def T_X7_readMay : List (Nat × zI) := [(0, (4, 0, 0, 0, 1, [])), (1, (4, 0, 0, 0, 2, [])), (2, (18, 7, 1, 0, 5, [])), (5, (18, 6, 10, 0, 8, [])), (8, (0, 0, 0, 40, 10, [])), (13, (17, 0, 17, 0, 16, [])), (16, (29, 0, 0, 0, 17, [])), (17, (4, 0, 0, 0, 18, [])), (21, (4, 0, 0, 0, 22, [])), (22, (4, 0, 0, 0, 23, [])), (23, (18, 7, 1, 0, 26, [])), (26, (18, 6, 8, 0, 29, [])), (32, (5, 1, 0, 0, 33, [])), (33, (2, 1, 0, 0, 34, [])), (34, (0, 0, 0, (-1), 35, [])), (35, (16, 0, 38, 0, 39, [])), (38, (29, 0, 0, 0, 39, [])), (39, (4, 0, 0, 0, 40, [])), (43, (4, 0, 0, 0, 44, [])), (44, (2, 1, 0, 0, 45, [])), (48, (5, 2, 0, 0, 49, [])), (49, (2, 2, 0, 0, 50, [])), (50, (0, 0, 0, (-1), 51, [])), (51, (16, 0, 54, 0, 55, [])), (54, (29, 0, 0, 0, 55, [])), (55, (4, 0, 0, 0, 56, [])), (59, (4, 0, 0, 0, 60, [])), (60, (0, 0, 0, 0, 61, [])), (61, (0, 0, 0, 23, 63, [])), (66, (5, 3, 0, 0, 67, [])), (67, (2, 3, 0, 0, 68, [])), (68, (0, 0, 0, (-1), 69, [])), (69, (16, 0, 72, 0, 73, [])), (72, (29, 0, 0, 0, 73, [])), (73, (4, 0, 0, 0, 74, [])), (77, (4, 0, 0, 0, 78, [])), (78, (2, 3, 0, 0, 79, [])), (79, (0, 0, 0, 23, 81, [])), (84, (5, 4, 0, 0, 86, [])), (86, (2, 4, 0, 0, 88, [])), (88, (0, 0, 0, (-1), 89, [])), (89, (16, 0, 92, 0, 93, [])), (92, (29, 0, 0, 0, 93, [])), (93, (4, 0, 0, 0, 94, [])), (94, (18, 7, 1, 0, 97, [])), (97, (2, 1, 0, 0, 98, [])), (98, (2, 2, 0, 0, 99, [])), (99, (2, 3, 0, 0, 100, [])), (100, (2, 4, 0, 0, 102, [])), (105, (4, 0, 0, 0, 106, [])), (109, (29, 0, 0, 0, 110, []))]
set_option maxRecDepth 100000 in
theorem K_X7_readMay : ztbok F_X7_readMay T_X7_readMay := ztbB_ok (by decide +kernel)
set_option maxRecDepth 100000 in
theorem W_X7_readMay : zMth yX7_readMay (.code yX7_readMay cX7_readMay 5 (none)) 0 := ⟨z_at 748 (by decide +kernel) (by decide +kernel), z_at 4 (by decide +kernel) (by decide +kernel), ⟨by decide +kernel, by decide +kernel⟩, by decide +kernel⟩
set_option maxRecDepth 100000 in
theorem I_X7_readMay : Cond.instanceMethod yX7_readMay ∈ zws := z_at 747 (by decide +kernel) (by decide +kernel)
set_option maxRecDepth 100000 in
theorem S_X7_readMay : Cond.selects yX7_readMay.cls yX7_readMay yX7_readMay ∈ zws := z_in (List.mem_append_left _ (List.mem_map.mpr ⟨_, List.mem_of_getElem? (i := 18) rfl, rfl⟩)) rfl
abbrev F_X7_readDoing : zF := (7, cX7_readDoing, some .int, 3, [], false)
def T_X7_readDoing : List (Nat × zI) := [(0, (4, 0, 0, 0, 1, [])), (6, (17, 0, 9, 0, 14, [])), (9, (4, 0, 0, 0, 10, [])), (13, (27, 0, 0, 0, 14, [])), (14, (4, 0, 0, 0, 15, [])), (18, (4, 0, 0, 0, 19, [])), (19, (4, 0, 0, 0, 20, [])), (20, (18, 7, 1, 0, 23, [])), (23, (18, 6, 7, 0, 26, [])), (29, (5, 2, 0, 0, 30, [])), (30, (2, 2, 0, 0, 31, [])), (31, (0, 0, 0, (-1), 32, [])), (32, (16, 0, 35, 0, 37, [])), (35, (0, 0, 0, (-1), 36, [])), (36, (27, 0, 0, 0, 37, [])), (37, (2, 2, 0, 0, 38, [])), (38, (4, 0, 0, 0, 39, [])), (39, (18, 7, 1, 0, 42, [])), (42, (18, 6, 2, 0, 45, [])), (45, (2, 1, 0, 0, 46, [])), (46, (20, 0, 0, 0, 47, [])), (47, (16, 0, 50, 0, 56, [])), (50, (4, 0, 0, 0, 51, [])), (51, (0, 0, 0, 4, 52, [])), (55, (27, 0, 0, 0, 56, [])), (56, (0, 0, 0, 10, 58, [])), (58, (2, 2, 0, 0, 59, [])), (59, (9, 0, 0, 0, 60, [])), (60, (27, 0, 0, 0, 61, []))]
set_option maxRecDepth 100000 in
theorem K_X7_readDoing : ztbok F_X7_readDoing T_X7_readDoing := ztbB_ok (by decide +kernel)
set_option maxRecDepth 100000 in
theorem W_X7_readDoing : zMth yX7_readDoing (.code yX7_readDoing cX7_readDoing 3 (some .int)) 1 := ⟨z_at 752 (by decide +kernel) (by decide +kernel), z_at 4 (by decide +kernel) (by decide +kernel), ⟨by decide +kernel, by decide +kernel⟩, by decide +kernel⟩
set_option maxRecDepth 100000 in
theorem I_X7_readDoing : Cond.instanceMethod yX7_readDoing ∈ zws := z_at 751 (by decide +kernel) (by decide +kernel)
set_option maxRecDepth 100000 in
theorem S_X7_readDoing : Cond.selects yX7_readDoing.cls yX7_readDoing yX7_readDoing ∈ zws := z_in (List.mem_append_left _ (List.mem_map.mpr ⟨_, List.mem_of_getElem? (i := 19) rfl, rfl⟩)) rfl
abbrev F_X7_readLaw : zF := (7, cX7_readLaw, none, 3, [], false)
def T_X7_readLaw : List (Nat × zI) := [(0, (4, 0, 0, 0, 1, [])), (4, (4, 0, 0, 0, 5, [])), (8, (5, 1, 0, 0, 9, [])), (9, (2, 1, 0, 0, 10, [])), (10, (0, 0, 0, (-1), 11, [])), (11, (16, 0, 14, 0, 15, [])), (14, (29, 0, 0, 0, 15, [])), (15, (4, 0, 0, 0, 16, [])), (16, (18, 7, 1, 0, 19, [])), (19, (18, 6, 11, 0, 22, [])), (22, (2, 1, 0, 0, 23, [])), (23, (9, 7, 0, 0, 24, [])), (24, (0, 0, 0, 1, 25, [])), (25, (9, 3, 0, 0, 26, [])), (26, (0, 0, 0, 1, 27, [])), (27, (16, 0, 30, 0, 37, [])), (30, (4, 0, 0, 0, 31, [])), (31, (0, 0, 0, 5, 32, [])), (35, (14, 0, 0, 0, 36, [])), (36, (29, 0, 0, 0, 37, [])), (37, (4, 0, 0, 0, 38, [])), (41, (4, 0, 0, 0, 42, [])), (45, (5, 2, 0, 0, 46, [])), (46, (2, 2, 0, 0, 47, [])), (47, (0, 0, 0, (-1), 48, [])), (48, (16, 0, 51, 0, 52, [])), (51, (29, 0, 0, 0, 52, [])), (52, (4, 0, 0, 0, 53, [])), (53, (18, 7, 1, 0, 56, [])), (56, (2, 1, 0, 0, 57, [])), (57, (2, 2, 0, 0, 58, [])), (61, (4, 0, 0, 0, 62, [])), (65, (29, 0, 0, 0, 66, []))]
set_option maxRecDepth 100000 in
theorem K_X7_readLaw : ztbok F_X7_readLaw T_X7_readLaw := ztbB_ok (by decide +kernel)
set_option maxRecDepth 100000 in
theorem W_X7_readLaw : zMth yX7_readLaw (.code yX7_readLaw cX7_readLaw 3 (none)) 0 := ⟨z_at 770 (by decide +kernel) (by decide +kernel), z_at 4 (by decide +kernel) (by decide +kernel), ⟨by decide +kernel, by decide +kernel⟩, by decide +kernel⟩
set_option maxRecDepth 100000 in
theorem I_X7_readLaw : Cond.instanceMethod yX7_readLaw ∈ zws := z_at 769 (by decide +kernel) (by decide +kernel)
set_option maxRecDepth 100000 in
theorem S_X7_readLaw : Cond.selects yX7_readLaw.cls yX7_readLaw yX7_readLaw ∈ zws := z_in (List.mem_append_left _ (List.mem_map.mpr ⟨_, List.mem_of_getElem? (i := 21) rfl, rfl⟩)) rfl
abbrev F_X7_ownDoing : zF := (7, cX7_ownDoing, some .int, 1, [], false)
def T_X7_ownDoing : List (Nat × zI) := [(0, (4, 0, 0, 0, 1, [])), (6, (17, 0, 11, 0, 9, [])), (9, (0, 0, 0, 0, 10, [])), (10, (27, 0, 0, 0, 11, [])), (11, (4, 0, 0, 0, 12, [])), (17, (17, 0, 22, 0, 20, [])), (20, (0, 0, 0, 1, 21, [])), (21, (27, 0, 0, 0, 22, [])), (22, (4, 0, 0, 0, 23, [])), (28, (17, 0, 33, 0, 31, [])), (31, (0, 0, 0, 2, 32, [])), (32, (27, 0, 0, 0, 33, [])), (33, (4, 0, 0, 0, 34, [])), (39, (17, 0, 44, 0, 42, [])), (42, (0, 0, 0, 3, 43, [])), (43, (27, 0, 0, 0, 44, [])), (44, (4, 0, 0, 0, 45, [])), (45, (0, 0, 0, 1, 46, [])), (49, (27, 0, 0, 0, 50, []))]
set_option maxRecDepth 100000 in
theorem K_X7_ownDoing : ztbok F_X7_ownDoing T_X7_ownDoing := ztbB_ok (by decide +kernel)
set_option maxRecDepth 100000 in
theorem W_X7_ownDoing : zMth yX7_ownDoing (.code yX7_ownDoing cX7_ownDoing 1 (some .int)) 0 := ⟨z_at 757 (by decide +kernel) (by decide +kernel), z_at 4 (by decide +kernel) (by decide +kernel), ⟨by decide +kernel, by decide +kernel⟩, by decide +kernel⟩
set_option maxRecDepth 100000 in
theorem I_X7_ownDoing : Cond.instanceMethod yX7_ownDoing ∈ zws := z_at 756 (by decide +kernel) (by decide +kernel)
set_option maxRecDepth 100000 in
theorem S_X7_ownDoing : Cond.selects yX7_ownDoing.cls yX7_ownDoing yX7_ownDoing ∈ zws := z_in (List.mem_append_left _ (List.mem_map.mpr ⟨_, List.mem_of_getElem? (i := 20) rfl, rfl⟩)) rfl
abbrev F_X7_signTold : zF := (7, cX7_signTold, some .int, 1, [], false)
def T_X7_signTold : List (Nat × zI) := [(0, (4, 0, 0, 0, 1, [])), (6, (17, 0, 11, 0, 9, [])), (9, (0, 0, 0, 0, 10, [])), (10, (27, 0, 0, 0, 11, [])), (11, (4, 0, 0, 0, 12, [])), (17, (17, 0, 22, 0, 20, [])), (20, (0, 0, 0, 1, 21, [])), (21, (27, 0, 0, 0, 22, [])), (22, (4, 0, 0, 0, 23, [])), (28, (17, 0, 33, 0, 31, [])), (31, (0, 0, 0, 2, 32, [])), (32, (27, 0, 0, 0, 33, [])), (33, (4, 0, 0, 0, 34, [])), (39, (17, 0, 44, 0, 42, [])), (42, (0, 0, 0, 3, 43, [])), (43, (27, 0, 0, 0, 44, [])), (44, (4, 0, 0, 0, 45, [])), (45, (0, 0, 0, 1, 46, [])), (49, (27, 0, 0, 0, 50, []))]
set_option maxRecDepth 100000 in
theorem K_X7_signTold : ztbok F_X7_signTold T_X7_signTold := ztbB_ok (by decide +kernel)
set_option maxRecDepth 100000 in
theorem W_X7_signTold : zMth yX7_signTold (.code yX7_signTold cX7_signTold 1 (some .int)) 0 := ⟨z_at 774 (by decide +kernel) (by decide +kernel), z_at 4 (by decide +kernel) (by decide +kernel), ⟨by decide +kernel, by decide +kernel⟩, by decide +kernel⟩
set_option maxRecDepth 100000 in
theorem I_X7_signTold : Cond.instanceMethod yX7_signTold ∈ zws := z_at 773 (by decide +kernel) (by decide +kernel)
set_option maxRecDepth 100000 in
theorem S_X7_signTold : Cond.selects yX7_signTold.cls yX7_signTold yX7_signTold ∈ zws := z_in (List.mem_append_left _ (List.mem_map.mpr ⟨_, List.mem_of_getElem? (i := 22) rfl, rfl⟩)) rfl
abbrev F_X7_isFull : zF := (7, cX7_isFull, some .boolean, 3, [], false)
def T_X7_isFull : List (Nat × zI) := [(0, (2, 1, 0, 0, 1, [])), (1, (2, 2, 0, 0, 2, [])), (2, (16, 1, 5, 0, 7, [])), (5, (0, 0, 0, 0, 6, [])), (6, (27, 0, 0, 0, 7, [])), (7, (4, 0, 0, 0, 8, [])), (8, (0, 0, 0, 2, 9, [])), (12, (14, 0, 0, 0, 13, [])), (13, (0, 0, 0, 1, 14, [])), (14, (27, 0, 0, 0, 15, []))]
set_option maxRecDepth 100000 in
theorem K_X7_isFull : ztbok F_X7_isFull T_X7_isFull := ztbB_ok (by decide +kernel)
set_option maxRecDepth 100000 in
theorem W_X7_isFull : zMth yX7_isFull (.code yX7_isFull cX7_isFull 3 (some .boolean)) 2 := ⟨z_at 703 (by decide +kernel) (by decide +kernel), z_at 4 (by decide +kernel) (by decide +kernel), ⟨by decide +kernel, by decide +kernel⟩, by decide +kernel⟩
set_option maxRecDepth 100000 in
theorem I_X7_isFull : Cond.instanceMethod yX7_isFull ∈ zws := z_at 702 (by decide +kernel) (by decide +kernel)
set_option maxRecDepth 100000 in
theorem S_X7_isFull : Cond.selects yX7_isFull.cls yX7_isFull yX7_isFull ∈ zws := z_in (List.mem_append_left _ (List.mem_map.mpr ⟨_, List.mem_of_getElem? (i := 11) rfl, rfl⟩)) rfl
abbrev F_X7_toldNumber : zF := (7, cX7_toldNumber, some .int, 3, [], false)
def T_X7_toldNumber : List (Nat × zI) := [(0, (4, 0, 0, 0, 1, [])), (4, (5, 2, 0, 0, 5, [])), (5, (2, 2, 0, 0, 6, [])), (6, (17, 0, 9, 0, 19, [])), (9, (4, 0, 0, 0, 10, [])), (10, (18, 7, 6, 0, 13, [])), (13, (2, 1, 0, 0, 14, [])), (14, (16, 1, 19, 0, 17, [])), (17, (0, 0, 0, 3, 18, [])), (18, (5, 2, 0, 0, 19, [])), (19, (2, 2, 0, 0, 20, [])), (20, (17, 0, 23, 0, 30, [])), (23, (4, 0, 0, 0, 24, [])), (24, (18, 7, 6, 0, 27, [])), (27, (15, 0, 0, 0, 35, [])), (30, (4, 0, 0, 0, 31, [])), (31, (2, 2, 0, 0, 32, [])), (35, (27, 0, 0, 0, 36, []))]
set_option maxRecDepth 100000 in
theorem K_X7_toldNumber : ztbok F_X7_toldNumber T_X7_toldNumber := ztbB_ok (by decide +kernel)
set_option maxRecDepth 100000 in
theorem W_X7_toldNumber : zMth yX7_toldNumber (.code yX7_toldNumber cX7_toldNumber 3 (some .int)) 1 := ⟨z_at 728 (by decide +kernel) (by decide +kernel), z_at 4 (by decide +kernel) (by decide +kernel), ⟨by decide +kernel, by decide +kernel⟩, by decide +kernel⟩
set_option maxRecDepth 100000 in
theorem I_X7_toldNumber : Cond.instanceMethod yX7_toldNumber ∈ zws := z_at 727 (by decide +kernel) (by decide +kernel)
set_option maxRecDepth 100000 in
theorem S_X7_toldNumber : Cond.selects yX7_toldNumber.cls yX7_toldNumber yX7_toldNumber ∈ zws := z_in (List.mem_append_left _ (List.mem_map.mpr ⟨_, List.mem_of_getElem? (i := 16) rfl, rfl⟩)) rfl
abbrev F_X7_numberWithin : zF := (7, cX7_numberWithin, some .int, 4, [], false)
def T_X7_numberWithin : List (Nat × zI) := [(0, (4, 0, 0, 0, 1, [])), (4, (5, 3, 0, 0, 5, [])), (5, (2, 3, 0, 0, 6, [])), (6, (17, 0, 9, 0, 27, [])), (9, (4, 0, 0, 0, 10, [])), (10, (18, 7, 6, 0, 13, [])), (13, (2, 1, 0, 0, 14, [])), (14, (16, 1, 25, 0, 17, [])), (17, (4, 0, 0, 0, 18, [])), (18, (18, 7, 6, 0, 21, [])), (21, (2, 2, 0, 0, 22, [])), (22, (16, 2, 25, 0, 27, [])), (25, (0, 0, 0, 2, 26, [])), (26, (5, 3, 0, 0, 27, [])), (27, (2, 3, 0, 0, 28, [])), (28, (17, 0, 31, 0, 38, [])), (31, (4, 0, 0, 0, 32, [])), (32, (18, 7, 6, 0, 35, [])), (35, (15, 0, 0, 0, 43, [])), (38, (4, 0, 0, 0, 39, [])), (39, (2, 3, 0, 0, 40, [])), (43, (27, 0, 0, 0, 44, []))]
set_option maxRecDepth 100000 in
theorem K_X7_numberWithin : ztbok F_X7_numberWithin T_X7_numberWithin := ztbB_ok (by decide +kernel)
set_option maxRecDepth 100000 in
theorem W_X7_numberWithin : zMth yX7_numberWithin (.code yX7_numberWithin cX7_numberWithin 4 (some .int)) 2 := ⟨z_at 711 (by decide +kernel) (by decide +kernel), z_at 4 (by decide +kernel) (by decide +kernel), ⟨by decide +kernel, by decide +kernel⟩, by decide +kernel⟩
set_option maxRecDepth 100000 in
theorem I_X7_numberWithin : Cond.instanceMethod yX7_numberWithin ∈ zws := z_at 710 (by decide +kernel) (by decide +kernel)
set_option maxRecDepth 100000 in
theorem S_X7_numberWithin : Cond.selects yX7_numberWithin.cls yX7_numberWithin yX7_numberWithin ∈ zws := z_in (List.mem_append_left _ (List.mem_map.mpr ⟨_, List.mem_of_getElem? (i := 13) rfl, rfl⟩)) rfl
abbrev F_X7_faultOfNumber : zF := (7, cX7_faultOfNumber, some .int, 1, [], false)
def T_X7_faultOfNumber : List (Nat × zI) := [(0, (4, 0, 0, 0, 1, [])), (1, (18, 7, 4, 0, 4, [])), (4, (0, 0, 0, 2, 5, [])), (5, (16, 0, 10, 0, 8, [])), (8, (0, 0, 0, 1, 9, [])), (9, (27, 0, 0, 0, 10, [])), (10, (4, 0, 0, 0, 11, [])), (11, (18, 7, 3, 0, 14, [])), (14, (4, 0, 0, 0, 15, [])), (15, (18, 7, 5, 0, 18, [])), (18, (9, 1, 0, 0, 19, [])), (19, (0, 0, 0, 3, 20, [])), (20, (16, 2, 23, 0, 27, [])), (23, (0, 0, 0, 2, 24, [])), (24, (15, 0, 0, 0, 28, [])), (27, (0, 0, 0, 0, 28, [])), (28, (27, 0, 0, 0, 29, []))]
set_option maxRecDepth 100000 in
theorem K_X7_faultOfNumber : ztbok F_X7_faultOfNumber T_X7_faultOfNumber := ztbB_ok (by decide +kernel)
set_option maxRecDepth 100000 in
theorem W_X7_faultOfNumber : zMth yX7_faultOfNumber (.code yX7_faultOfNumber cX7_faultOfNumber 1 (some .int)) 0 := ⟨z_at 715 (by decide +kernel) (by decide +kernel), z_at 4 (by decide +kernel) (by decide +kernel), ⟨by decide +kernel, by decide +kernel⟩, by decide +kernel⟩
set_option maxRecDepth 100000 in
theorem I_X7_faultOfNumber : Cond.instanceMethod yX7_faultOfNumber ∈ zws := z_at 714 (by decide +kernel) (by decide +kernel)
set_option maxRecDepth 100000 in
theorem S_X7_faultOfNumber : Cond.selects yX7_faultOfNumber.cls yX7_faultOfNumber yX7_faultOfNumber ∈ zws := z_in (List.mem_append_left _ (List.mem_map.mpr ⟨_, List.mem_of_getElem? (i := 14) rfl, rfl⟩)) rfl
abbrev F_X7_refuse : zF := (7, cX7_refuse, some .int, 2, [], false)
def T_X7_refuse : List (Nat × zI) := [(0, (4, 0, 0, 0, 1, [])), (1, (18, 7, 7, 0, 4, [])), (4, (17, 0, 7, 0, 20, [])), (7, (4, 0, 0, 0, 8, [])), (8, (2, 1, 0, 0, 9, [])), (9, (19, 7, 7, 0, 12, [])), (12, (4, 0, 0, 0, 13, [])), (13, (4, 0, 0, 0, 14, [])), (14, (18, 7, 5, 0, 17, [])), (17, (19, 7, 8, 0, 20, [])), (20, (0, 0, 0, (-1), 21, [])), (21, (27, 0, 0, 0, 22, []))]
set_option maxRecDepth 100000 in
theorem K_X7_refuse : ztbok F_X7_refuse T_X7_refuse := ztbB_ok (by decide +kernel)
set_option maxRecDepth 100000 in
theorem W_X7_refuse : zMth yX7_refuse (.code yX7_refuse cX7_refuse 2 (some .int)) 1 := ⟨z_at 707 (by decide +kernel) (by decide +kernel), z_at 4 (by decide +kernel) (by decide +kernel), ⟨by decide +kernel, by decide +kernel⟩, by decide +kernel⟩
set_option maxRecDepth 100000 in
theorem I_X7_refuse : Cond.instanceMethod yX7_refuse ∈ zws := z_at 706 (by decide +kernel) (by decide +kernel)
set_option maxRecDepth 100000 in
theorem S_X7_refuse : Cond.selects yX7_refuse.cls yX7_refuse yX7_refuse ∈ zws := z_in (List.mem_append_left _ (List.mem_map.mpr ⟨_, List.mem_of_getElem? (i := 12) rfl, rfl⟩)) rfl
abbrev F_X7_isWord : zF := (7, cX7_isWord, some .boolean, 3, [], false)
def T_X7_isWord : List (Nat × zI) := [(0, (4, 0, 0, 0, 1, [])), (1, (18, 7, 4, 0, 4, [])), (4, (0, 0, 0, 1, 5, [])), (5, (16, 0, 8, 0, 24, [])), (8, (4, 0, 0, 0, 9, [])), (9, (18, 7, 3, 0, 12, [])), (12, (4, 0, 0, 0, 13, [])), (13, (18, 7, 5, 0, 16, [])), (16, (9, 1, 0, 0, 17, [])), (17, (4, 1, 0, 0, 18, [])), (21, (16, 0, 26, 0, 24, [])), (24, (0, 0, 0, 0, 25, [])), (25, (27, 0, 0, 0, 26, [])), (26, (0, 0, 0, 0, 27, [])), (27, (5, 2, 0, 0, 28, [])), (28, (2, 2, 0, 0, 29, [])), (29, (4, 1, 0, 0, 30, [])), (33, (16, 1, 36, 0, 63, [])), (36, (4, 0, 0, 0, 37, [])), (37, (18, 7, 0, 0, 40, [])), (40, (4, 0, 0, 0, 41, [])), (41, (18, 7, 5, 0, 44, [])), (44, (2, 2, 0, 0, 45, [])), (45, (9, 0, 0, 0, 46, [])), (46, (22, 0, 0, 0, 47, [])), (47, (4, 1, 0, 0, 48, [])), (48, (2, 2, 0, 0, 49, [])), (52, (16, 0, 57, 0, 55, [])), (55, (0, 0, 0, 0, 56, [])), (56, (27, 0, 0, 0, 57, [])), (57, (8, 2, 0, 1, 60, [])), (60, (15, 0, 0, 0, 28, [])), (63, (0, 0, 0, 1, 64, [])), (64, (27, 0, 0, 0, 65, []))]
set_option maxRecDepth 100000 in
theorem K_X7_isWord : ztbok F_X7_isWord T_X7_isWord := ztbB_ok (by decide +kernel)
set_option maxRecDepth 100000 in
theorem W_X7_isWord : zMth yX7_isWord (.code yX7_isWord cX7_isWord 3 (some .boolean)) 1 := ⟨z_at 647 (by decide +kernel) (by decide +kernel), z_at 4 (by decide +kernel) (by decide +kernel), ⟨by decide +kernel, by decide +kernel⟩, by decide +kernel⟩
set_option maxRecDepth 100000 in
theorem I_X7_isWord : Cond.instanceMethod yX7_isWord ∈ zws := z_at 646 (by decide +kernel) (by decide +kernel)
set_option maxRecDepth 100000 in
theorem S_X7_isWord : Cond.selects yX7_isWord.cls yX7_isWord yX7_isWord ∈ zws := z_in (List.mem_append_left _ (List.mem_map.mpr ⟨_, List.mem_of_getElem? (i := 9) rfl, rfl⟩)) rfl
abbrev F_X7_advance : zF := (7, cX7_advance, none, 2, [], false)
def T_X7_advance : List (Nat × zI) := [(0, (4, 0, 0, 0, 1, [])), (1, (18, 7, 3, 0, 4, [])), (4, (4, 0, 0, 0, 5, [])), (5, (18, 7, 2, 0, 8, [])), (8, (16, 1, 11, 0, 52, [])), (11, (4, 0, 0, 0, 12, [])), (12, (18, 7, 0, 0, 15, [])), (15, (4, 0, 0, 0, 16, [])), (16, (18, 7, 3, 0, 19, [])), (19, (22, 0, 0, 0, 20, [])), (20, (0, 0, 0, 32, 22, [])), (22, (16, 0, 39, 0, 25, [])), (25, (4, 0, 0, 0, 26, [])), (26, (18, 7, 0, 0, 29, [])), (29, (4, 0, 0, 0, 30, [])), (30, (18, 7, 3, 0, 33, [])), (33, (22, 0, 0, 0, 34, [])), (34, (0, 0, 0, 10, 36, [])), (36, (16, 0, 39, 0, 52, [])), (39, (4, 0, 0, 0, 40, [])), (40, (12, 0, 0, 0, 41, [])), (41, (18, 7, 3, 0, 44, [])), (44, (0, 0, 0, 1, 45, [])), (45, (9, 0, 0, 0, 46, [])), (46, (19, 7, 3, 0, 49, [])), (49, (15, 0, 0, 0, 0, [])), (52, (4, 0, 0, 0, 53, [])), (53, (4, 0, 0, 0, 54, [])), (54, (18, 7, 3, 0, 57, [])), (57, (19, 7, 5, 0, 60, [])), (60, (4, 0, 0, 0, 61, [])), (61, (18, 7, 3, 0, 64, [])), (64, (4, 0, 0, 0, 65, [])), (65, (18, 7, 2, 0, 68, [])), (68, (16, 1, 85, 0, 71, [])), (71, (4, 0, 0, 0, 72, [])), (72, (0, 0, 0, 0, 73, [])), (73, (19, 7, 4, 0, 76, [])), (76, (4, 0, 0, 0, 77, [])), (77, (4, 0, 0, 0, 78, [])), (78, (18, 7, 2, 0, 81, [])), (81, (19, 7, 5, 0, 84, [])), (84, (29, 0, 0, 0, 85, [])), (85, (4, 0, 0, 0, 86, [])), (86, (18, 7, 0, 0, 89, [])), (89, (4, 0, 0, 0, 90, [])), (90, (18, 7, 3, 0, 93, [])), (93, (22, 0, 0, 0, 94, [])), (94, (5, 1, 0, 0, 95, [])), (95, (4, 0, 0, 0, 96, [])), (96, (12, 0, 0, 0, 97, [])), (97, (18, 7, 3, 0, 100, [])), (100, (0, 0, 0, 1, 101, [])), (101, (9, 0, 0, 0, 102, [])), (102, (19, 7, 3, 0, 105, [])), (105, (2, 1, 0, 0, 106, [])), (106, (0, 0, 0, 97, 108, [])), (108, (16, 1, 133, 0, 111, [])), (111, (2, 1, 0, 0, 112, [])), (112, (0, 0, 0, 122, 114, [])), (114, (16, 2, 133, 0, 117, [])), (117, (4, 0, 0, 0, 118, [])), (118, (0, 0, 0, 1, 119, [])), (119, (19, 7, 4, 0, 122, [])), (122, (4, 0, 0, 0, 123, [])), (123, (0, 0, 0, 97, 125, [])), (125, (0, 0, 0, 122, 127, [])), (130, (15, 0, 0, 0, 184, [])), (133, (2, 1, 0, 0, 134, [])), (134, (0, 0, 0, 48, 136, [])), (136, (16, 1, 169, 0, 139, [])), (139, (2, 1, 0, 0, 140, [])), (140, (0, 0, 0, 57, 142, [])), (142, (16, 2, 169, 0, 145, [])), (145, (4, 0, 0, 0, 146, [])), (146, (0, 0, 0, 2, 147, [])), (147, (19, 7, 4, 0, 150, [])), (150, (4, 0, 0, 0, 151, [])), (151, (0, 0, 0, 48, 153, [])), (153, (0, 0, 0, 57, 155, [])), (158, (4, 0, 0, 0, 159, [])), (159, (4, 0, 0, 0, 160, [])), (163, (19, 7, 6, 0, 166, [])), (166, (15, 0, 0, 0, 184, [])), (169, (4, 0, 0, 0, 170, [])), (170, (2, 1, 0, 0, 171, [])), (171, (0, 0, 0, 59, 173, [])), (173, (16, 0, 176, 0, 180, [])), (176, (0, 0, 0, 3, 177, [])), (177, (15, 0, 0, 0, 181, [])), (180, (0, 0, 0, 4, 181, [])), (181, (19, 7, 4, 0, 184, [])), (184, (29, 0, 0, 0, 185, []))]
set_option maxRecDepth 100000 in
theorem K_X7_advance : ztbok F_X7_advance T_X7_advance := ztbB_ok (by decide +kernel)
set_option maxRecDepth 100000 in
theorem W_X7_advance : zMth yX7_advance (.code yX7_advance cX7_advance 2 (none)) 0 := ⟨z_at 630 (by decide +kernel) (by decide +kernel), z_at 4 (by decide +kernel) (by decide +kernel), ⟨by decide +kernel, by decide +kernel⟩, by decide +kernel⟩
set_option maxRecDepth 100000 in
theorem I_X7_advance : Cond.instanceMethod yX7_advance ∈ zws := z_at 629 (by decide +kernel) (by decide +kernel)
set_option maxRecDepth 100000 in
theorem S_X7_advance : Cond.selects yX7_advance.cls yX7_advance yX7_advance ∈ zws := z_in (List.mem_append_left _ (List.mem_map.mpr ⟨_, List.mem_of_getElem? (i := 5) rfl, rfl⟩)) rfl
abbrev F_X7_valueHere : zF := (7, cX7_valueHere, some .int, 3, [], false)
def T_X7_valueHere : List (Nat × zI) := [(0, (0, 0, 0, 0, 1, [])), (1, (5, 1, 0, 0, 2, [])), (2, (4, 0, 0, 0, 3, [])), (3, (18, 7, 5, 0, 6, [])), (6, (5, 2, 0, 0, 7, [])), (7, (2, 2, 0, 0, 8, [])), (8, (4, 0, 0, 0, 9, [])), (9, (18, 7, 3, 0, 12, [])), (12, (16, 1, 15, 0, 46, [])), (15, (2, 2, 0, 0, 16, [])), (16, (4, 0, 0, 0, 17, [])), (17, (18, 7, 5, 0, 20, [])), (20, (0, 0, 0, 3, 21, [])), (21, (9, 0, 0, 0, 22, [])), (22, (16, 1, 25, 0, 46, [])), (25, (2, 1, 0, 0, 26, [])), (26, (0, 0, 0, 10, 28, [])), (28, (9, 2, 0, 0, 29, [])), (29, (4, 0, 0, 0, 30, [])), (30, (18, 7, 0, 0, 33, [])), (33, (2, 2, 0, 0, 34, [])), (34, (22, 0, 0, 0, 35, [])), (35, (0, 0, 0, 48, 37, [])), (37, (9, 1, 0, 0, 38, [])), (38, (9, 0, 0, 0, 39, [])), (39, (5, 1, 0, 0, 40, [])), (40, (8, 2, 0, 1, 43, [])), (43, (15, 0, 0, 0, 7, [])), (46, (2, 1, 0, 0, 47, [])), (47, (27, 0, 0, 0, 48, []))]
set_option maxRecDepth 100000 in
theorem K_X7_valueHere : ztbok F_X7_valueHere T_X7_valueHere := ztbB_ok (by decide +kernel)
set_option maxRecDepth 100000 in
theorem W_X7_valueHere : zMth yX7_valueHere (.code yX7_valueHere cX7_valueHere 3 (some .int)) 0 := ⟨z_at 638 (by decide +kernel) (by decide +kernel), z_at 4 (by decide +kernel) (by decide +kernel), ⟨by decide +kernel, by decide +kernel⟩, by decide +kernel⟩
set_option maxRecDepth 100000 in
theorem I_X7_valueHere : Cond.instanceMethod yX7_valueHere ∈ zws := z_at 637 (by decide +kernel) (by decide +kernel)
set_option maxRecDepth 100000 in
theorem S_X7_valueHere : Cond.selects yX7_valueHere.cls yX7_valueHere yX7_valueHere ∈ zws := z_in (List.mem_append_left _ (List.mem_map.mpr ⟨_, List.mem_of_getElem? (i := 7) rfl, rfl⟩)) rfl
abbrev F_X7_takeRow : zF := (7, cX7_takeRow, none, 3, [], false)
def T_X7_takeRow : List (Nat × zI) := [(0, (4, 0, 0, 0, 1, [])), (1, (18, 7, 3, 0, 4, [])), (4, (4, 0, 0, 0, 5, [])), (5, (18, 7, 2, 0, 8, [])), (8, (16, 1, 11, 0, 50, [])), (11, (4, 0, 0, 0, 12, [])), (12, (18, 7, 0, 0, 15, [])), (15, (4, 0, 0, 0, 16, [])), (16, (18, 7, 3, 0, 19, [])), (19, (22, 0, 0, 0, 20, [])), (20, (2, 1, 0, 0, 21, [])), (21, (16, 1, 50, 0, 24, [])), (24, (4, 0, 0, 0, 25, [])), (25, (18, 7, 0, 0, 28, [])), (28, (4, 0, 0, 0, 29, [])), (29, (18, 7, 3, 0, 32, [])), (32, (22, 0, 0, 0, 33, [])), (33, (2, 2, 0, 0, 34, [])), (34, (16, 2, 50, 0, 37, [])), (37, (4, 0, 0, 0, 38, [])), (38, (12, 0, 0, 0, 39, [])), (39, (18, 7, 3, 0, 42, [])), (42, (0, 0, 0, 1, 43, [])), (43, (9, 0, 0, 0, 44, [])), (44, (19, 7, 3, 0, 47, [])), (47, (15, 0, 0, 0, 0, [])), (50, (29, 0, 0, 0, 51, []))]
set_option maxRecDepth 100000 in
theorem K_X7_takeRow : ztbok F_X7_takeRow T_X7_takeRow := ztbB_ok (by decide +kernel)
set_option maxRecDepth 100000 in
theorem W_X7_takeRow : zMth yX7_takeRow (.code yX7_takeRow cX7_takeRow 3 (none)) 2 := ⟨z_at 634 (by decide +kernel) (by decide +kernel), z_at 4 (by decide +kernel) (by decide +kernel), ⟨by decide +kernel, by decide +kernel⟩, by decide +kernel⟩
set_option maxRecDepth 100000 in
theorem I_X7_takeRow : Cond.instanceMethod yX7_takeRow ∈ zws := z_at 633 (by decide +kernel) (by decide +kernel)
set_option maxRecDepth 100000 in
theorem S_X7_takeRow : Cond.selects yX7_takeRow.cls yX7_takeRow yX7_takeRow ∈ zws := z_in (List.mem_append_left _ (List.mem_map.mpr ⟨_, List.mem_of_getElem? (i := 6) rfl, rfl⟩)) rfl
abbrev F_X8_init : zF := (8, cX8_init, none, 1, [], true)
def T_X8_init : List (Nat × zI) := [(0, (4, 0, 0, 0, 1, [])), (1, (35, 0, 0, 0, 4, [])), (4, (4, 0, 0, 0, 5, [])), (5, (0, 0, 0, 40, 7, [])), (7, (31, 1, 0, 0, 9, [])), (9, (19, 8, 0, 0, 12, [])), (12, (29, 0, 0, 0, 13, []))]
set_option maxRecDepth 100000 in
theorem K_X8_init : ztbok F_X8_init T_X8_init := ztbB_ok (by decide +kernel)
set_option maxRecDepth 100000 in
theorem W_X8_init : zMth yX8_init (.code yX8_init cX8_init 1 (none)) 0 := ⟨z_at 365 (by decide +kernel) (by decide +kernel), z_at 12 (by decide +kernel) (by decide +kernel), ⟨by decide +kernel, by decide +kernel⟩, by decide +kernel⟩
set_option maxRecDepth 100000 in
theorem I_X8_init : Cond.instanceMethod yX8_init ∈ zws := z_at 364 (by decide +kernel) (by decide +kernel)
abbrev F_X8_lay : zF := (8, cX8_lay, none, 3, [], false)
def T_X8_lay : List (Nat × zI) := [(0, (4, 0, 0, 0, 1, [])), (1, (18, 8, 2, 0, 4, [])), (4, (2, 1, 0, 0, 5, [])), (5, (16, 0, 8, 0, 9, [])), (8, (29, 0, 0, 0, 9, [])), (9, (4, 0, 0, 0, 10, [])), (10, (2, 1, 0, 0, 11, [])), (11, (19, 8, 2, 0, 14, [])), (14, (4, 0, 0, 0, 15, [])), (15, (0, 0, 0, 0, 16, [])), (16, (19, 8, 1, 0, 19, [])), (19, (0, 0, 0, 0, 20, [])), (20, (5, 2, 0, 0, 21, [])), (21, (2, 2, 0, 0, 22, [])), (22, (0, 0, 0, 256, 25, [])), (25, (16, 1, 28, 0, 71, [])), (28, (4, 0, 0, 0, 29, [])), (29, (18, 8, 1, 0, 32, [])), (32, (0, 0, 0, 40, 34, [])), (34, (16, 1, 37, 0, 71, [])), (37, (4, 0, 0, 0, 38, [])), (38, (2, 2, 0, 0, 39, [])), (42, (17, 0, 65, 0, 45, [])), (45, (4, 0, 0, 0, 46, [])), (46, (18, 8, 0, 0, 49, [])), (49, (4, 0, 0, 0, 50, [])), (50, (18, 8, 1, 0, 53, [])), (53, (2, 2, 0, 0, 54, [])), (54, (21, 0, 0, 0, 55, [])), (55, (4, 0, 0, 0, 56, [])), (56, (12, 0, 0, 0, 57, [])), (57, (18, 8, 1, 0, 60, [])), (60, (0, 0, 0, 1, 61, [])), (61, (9, 0, 0, 0, 62, [])), (62, (19, 8, 1, 0, 65, [])), (65, (8, 2, 0, 1, 68, [])), (68, (15, 0, 0, 0, 21, [])), (71, (29, 0, 0, 0, 72, []))]
set_option maxRecDepth 100000 in
theorem K_X8_lay : ztbok F_X8_lay T_X8_lay := ztbB_ok (by decide +kernel)
set_option maxRecDepth 100000 in
theorem W_X8_lay : zMth yX8_lay (.code yX8_lay cX8_lay 3 (none)) 1 := ⟨z_at 1193 (by decide +kernel) (by decide +kernel), z_at 12 (by decide +kernel) (by decide +kernel), ⟨by decide +kernel, by decide +kernel⟩, by decide +kernel⟩
set_option maxRecDepth 100000 in
theorem I_X8_lay : Cond.instanceMethod yX8_lay ∈ zws := z_at 1191 (by decide +kernel) (by decide +kernel)
set_option maxRecDepth 100000 in
theorem S_X8_lay : Cond.selects yX8_lay.cls yX8_lay yX8_lay ∈ zws := z_at 1192 (by decide +kernel) (by decide +kernel)
abbrev F_X8_isApart : zF := (8, cX8_isApart, some .boolean, 3, [], false)
def T_X8_isApart : List (Nat × zI) := [(0, (0, 0, 0, 0, 1, [])), (1, (5, 2, 0, 0, 2, [])), (2, (2, 2, 0, 0, 3, [])), (3, (4, 0, 0, 0, 4, [])), (4, (18, 8, 1, 0, 7, [])), (7, (16, 1, 10, 0, 36, [])), (10, (2, 1, 0, 0, 11, [])), (11, (4, 0, 0, 0, 12, [])), (12, (18, 8, 0, 0, 15, [])), (15, (2, 2, 0, 0, 16, [])), (16, (20, 0, 0, 0, 17, [])), (17, (9, 5, 0, 0, 18, [])), (21, (4, 0, 0, 0, 22, [])), (22, (18, 8, 2, 0, 25, [])), (25, (16, 1, 28, 0, 30, [])), (28, (0, 0, 0, 0, 29, [])), (29, (27, 0, 0, 0, 30, [])), (30, (8, 2, 0, 1, 33, [])), (33, (15, 0, 0, 0, 2, [])), (36, (0, 0, 0, 1, 37, [])), (37, (27, 0, 0, 0, 38, []))]
set_option maxRecDepth 100000 in
theorem K_X8_isApart : ztbok F_X8_isApart T_X8_isApart := ztbB_ok (by decide +kernel)
set_option maxRecDepth 100000 in
theorem W_X8_isApart : zMth yX8_isApart (.code yX8_isApart cX8_isApart 3 (some .boolean)) 1 := ⟨z_at 1197 (by decide +kernel) (by decide +kernel), z_at 12 (by decide +kernel) (by decide +kernel), ⟨by decide +kernel, by decide +kernel⟩, by decide +kernel⟩
set_option maxRecDepth 100000 in
theorem I_X8_isApart : Cond.instanceMethod yX8_isApart ∈ zws := z_at 1196 (by decide +kernel) (by decide +kernel)
set_option maxRecDepth 100000 in
theorem S_X8_isApart : Cond.selects yX8_isApart.cls yX8_isApart yX8_isApart ∈ zws := z_in (List.mem_append_left _ (List.mem_map.mpr ⟨_, List.mem_of_getElem? (i := 46) rfl, rfl⟩)) rfl
abbrev F_X8_kindsFor : zF := (8, cX8_kindsFor, some .int, 3, [], false)
def T_X8_kindsFor : List (Nat × zI) := [(0, (0, 0, 0, 0, 1, [])), (1, (5, 2, 0, 0, 2, [])), (2, (2, 2, 0, 0, 3, [])), (3, (0, 0, 0, 8, 5, [])), (5, (16, 2, 38, 0, 8, [])), (8, (2, 1, 0, 0, 9, [])), (9, (4, 0, 0, 0, 10, [])), (10, (18, 8, 1, 0, 13, [])), (13, (16, 2, 38, 0, 16, [])), (16, (4, 0, 0, 0, 17, [])), (17, (18, 8, 0, 0, 20, [])), (20, (2, 1, 0, 0, 21, [])), (21, (0, 0, 0, 1, 22, [])), (22, (9, 1, 0, 0, 23, [])), (23, (20, 0, 0, 0, 24, [])), (24, (0, 0, 0, 1, 25, [])), (25, (2, 2, 0, 0, 26, [])), (26, (9, 6, 0, 0, 27, [])), (27, (16, 1, 30, 0, 32, [])), (30, (2, 2, 0, 0, 31, [])), (31, (27, 0, 0, 0, 32, [])), (32, (8, 2, 0, 1, 35, [])), (35, (15, 0, 0, 0, 2, [])), (38, (0, 0, 0, (-1), 39, [])), (39, (27, 0, 0, 0, 40, []))]
set_option maxRecDepth 100000 in
theorem K_X8_kindsFor : ztbok F_X8_kindsFor T_X8_kindsFor := ztbB_ok (by decide +kernel)
set_option maxRecDepth 100000 in
theorem W_X8_kindsFor : zMth yX8_kindsFor (.code yX8_kindsFor cX8_kindsFor 3 (some .int)) 1 := ⟨z_at 1202 (by decide +kernel) (by decide +kernel), z_at 12 (by decide +kernel) (by decide +kernel), ⟨by decide +kernel, by decide +kernel⟩, by decide +kernel⟩
set_option maxRecDepth 100000 in
theorem I_X8_kindsFor : Cond.instanceMethod yX8_kindsFor ∈ zws := z_at 1200 (by decide +kernel) (by decide +kernel)
set_option maxRecDepth 100000 in
theorem S_X8_kindsFor : Cond.selects yX8_kindsFor.cls yX8_kindsFor yX8_kindsFor ∈ zws := z_at 1201 (by decide +kernel) (by decide +kernel)
abbrev F_X8_mended : zF := (8, cX8_mended, some .int, 5, [], false)
def T_X8_mended : List (Nat × zI) := [(0, (4, 0, 0, 0, 1, [])), (1, (18, 8, 2, 0, 4, [])), (4, (0, 0, 0, 1, 5, [])), (5, (9, 1, 0, 0, 6, [])), (6, (0, 0, 0, 2, 7, [])), (7, (9, 9, 0, 0, 8, [])), (8, (5, 3, 0, 0, 9, [])), (9, (0, 0, 0, 0, 10, [])), (10, (5, 4, 0, 0, 12, [])), (12, (2, 4, 0, 0, 14, [])), (14, (2, 2, 0, 0, 15, [])), (15, (16, 1, 18, 0, 52, [])), (18, (2, 4, 0, 0, 20, [])), (20, (4, 0, 0, 0, 21, [])), (21, (18, 8, 1, 0, 24, [])), (24, (16, 1, 27, 0, 52, [])), (27, (2, 1, 0, 0, 28, [])), (28, (4, 0, 0, 0, 29, [])), (29, (18, 8, 0, 0, 32, [])), (32, (2, 4, 0, 0, 34, [])), (34, (20, 0, 0, 0, 35, [])), (35, (9, 5, 0, 0, 36, [])), (39, (2, 3, 0, 0, 40, [])), (40, (16, 2, 46, 0, 43, [])), (43, (2, 4, 0, 0, 45, [])), (45, (27, 0, 0, 0, 46, [])), (46, (8, 4, 0, 1, 49, [])), (49, (15, 0, 0, 0, 12, [])), (52, (0, 0, 0, (-1), 53, [])), (53, (27, 0, 0, 0, 54, []))]
set_option maxRecDepth 100000 in
theorem K_X8_mended : ztbok F_X8_mended T_X8_mended := ztbB_ok (by decide +kernel)
set_option maxRecDepth 100000 in
theorem W_X8_mended : zMth yX8_mended (.code yX8_mended cX8_mended 5 (some .int)) 2 := ⟨z_at 1222 (by decide +kernel) (by decide +kernel), z_at 12 (by decide +kernel) (by decide +kernel), ⟨by decide +kernel, by decide +kernel⟩, by decide +kernel⟩
set_option maxRecDepth 100000 in
theorem I_X8_mended : Cond.instanceMethod yX8_mended ∈ zws := z_at 1220 (by decide +kernel) (by decide +kernel)
set_option maxRecDepth 100000 in
theorem S_X8_mended : Cond.selects yX8_mended.cls yX8_mended yX8_mended ∈ zws := z_at 1221 (by decide +kernel) (by decide +kernel)
abbrev F_X9_init : zF := (9, cX9_init, none, 1, [], true)
def T_X9_init : List (Nat × zI) := [(0, (4, 0, 0, 0, 1, [])), (1, (35, 0, 0, 0, 4, [])), (4, (4, 0, 0, 0, 5, [])), (5, (0, 0, 0, 700, 8, [])), (8, (31, 2, 0, 0, 10, [])), (10, (19, 9, 0, 0, 13, [])), (13, (29, 0, 0, 0, 14, []))]
set_option maxRecDepth 100000 in
theorem K_X9_init : ztbok F_X9_init T_X9_init := ztbB_ok (by decide +kernel)
set_option maxRecDepth 100000 in
theorem W_X9_init : zMth yX9_init (.code yX9_init cX9_init 1 (none)) 0 := ⟨z_at 39 (by decide +kernel) (by decide +kernel), z_at 2 (by decide +kernel) (by decide +kernel), ⟨by decide +kernel, by decide +kernel⟩, by decide +kernel⟩
set_option maxRecDepth 100000 in
theorem I_X9_init : Cond.instanceMethod yX9_init ∈ zws := z_at 38 (by decide +kernel) (by decide +kernel)
abbrev F_X9_hasRoomFor : zF := (9, cX9_hasRoomFor, some .boolean, 2, [], false)
def T_X9_hasRoomFor : List (Nat × zI) := [(0, (4, 0, 0, 0, 1, [])), (1, (18, 9, 1, 0, 4, [])), (4, (2, 1, 0, 0, 5, [])), (5, (9, 0, 0, 0, 6, [])), (6, (0, 0, 0, 700, 9, [])), (9, (16, 2, 16, 0, 12, [])), (12, (0, 0, 0, 1, 13, [])), (13, (15, 0, 0, 0, 17, [])), (16, (0, 0, 0, 0, 17, [])), (17, (27, 0, 0, 0, 18, []))]
set_option maxRecDepth 100000 in
theorem K_X9_hasRoomFor : ztbok F_X9_hasRoomFor T_X9_hasRoomFor := ztbB_ok (by decide +kernel)
set_option maxRecDepth 100000 in
theorem W_X9_hasRoomFor : zMth yX9_hasRoomFor (.code yX9_hasRoomFor cX9_hasRoomFor 2 (some .boolean)) 1 := ⟨z_at 435 (by decide +kernel) (by decide +kernel), z_at 2 (by decide +kernel) (by decide +kernel), ⟨by decide +kernel, by decide +kernel⟩, by decide +kernel⟩
set_option maxRecDepth 100000 in
theorem I_X9_hasRoomFor : Cond.instanceMethod yX9_hasRoomFor ∈ zws := z_at 433 (by decide +kernel) (by decide +kernel)
set_option maxRecDepth 100000 in
theorem S_X9_hasRoomFor : Cond.selects yX9_hasRoomFor.cls yX9_hasRoomFor yX9_hasRoomFor ∈ zws := z_at 434 (by decide +kernel) (by decide +kernel)
abbrev F_X9_append : zF := (9, cX9_append, none, 3, [], false)
def T_X9_append : List (Nat × zI) := [(0, (0, 0, 0, 24, 2, [])), (2, (5, 2, 0, 0, 3, [])), (3, (2, 2, 0, 0, 4, [])), (4, (17, 1, 46, 0, 7, [])), (7, (4, 0, 0, 0, 8, [])), (8, (18, 9, 1, 0, 11, [])), (11, (0, 0, 0, 700, 14, [])), (14, (16, 1, 17, 0, 46, [])), (17, (4, 0, 0, 0, 18, [])), (18, (18, 9, 0, 0, 21, [])), (21, (4, 0, 0, 0, 22, [])), (22, (18, 9, 1, 0, 25, [])), (25, (2, 1, 0, 0, 26, [])), (26, (2, 2, 0, 0, 27, [])), (27, (9, 7, 0, 0, 28, [])), (28, (10, 1, 0, 0, 29, [])), (29, (23, 0, 0, 0, 30, [])), (30, (4, 0, 0, 0, 31, [])), (31, (12, 0, 0, 0, 32, [])), (32, (18, 9, 1, 0, 35, [])), (35, (0, 0, 0, 1, 36, [])), (36, (9, 0, 0, 0, 37, [])), (37, (19, 9, 1, 0, 40, [])), (40, (8, 2, 0, (-8), 43, [])), (43, (15, 0, 0, 0, 3, [])), (46, (29, 0, 0, 0, 47, []))]
set_option maxRecDepth 100000 in
theorem K_X9_append : ztbok F_X9_append T_X9_append := ztbB_ok (by decide +kernel)
set_option maxRecDepth 100000 in
theorem W_X9_append : zMth yX9_append (.code yX9_append cX9_append 3 (none)) 1 := ⟨z_at 439 (by decide +kernel) (by decide +kernel), z_at 2 (by decide +kernel) (by decide +kernel), ⟨by decide +kernel, by decide +kernel⟩, by decide +kernel⟩
set_option maxRecDepth 100000 in
theorem I_X9_append : Cond.instanceMethod yX9_append ∈ zws := z_at 437 (by decide +kernel) (by decide +kernel)
set_option maxRecDepth 100000 in
theorem S_X9_append : Cond.selects yX9_append.cls yX9_append yX9_append ∈ zws := z_at 438 (by decide +kernel) (by decide +kernel)
abbrev F_X10_init : zF := (10, cX10_init, none, 3, [], true)
def T_X10_init : List (Nat × zI) := [(0, (4, 0, 0, 0, 1, [])), (1, (35, 0, 0, 0, 4, [])), (4, (4, 0, 0, 0, 5, [])), (5, (0, 0, 0, 48, 7, [])), (7, (31, 1, 0, 0, 9, [])), (9, (19, 10, 2, 0, 12, [])), (12, (4, 0, 0, 0, 13, [])), (13, (0, 0, 0, 6, 15, [])), (15, (31, 1, 0, 0, 17, [])), (17, (19, 10, 3, 0, 20, [])), (20, (4, 0, 0, 0, 21, [])), (21, (0, 0, 0, 6, 23, [])), (23, (31, 1, 0, 0, 25, [])), (25, (19, 10, 4, 0, 28, [])), (28, (4, 0, 0, 0, 29, [])), (29, (0, 0, 0, 6, 31, [])), (31, (31, 1, 0, 0, 33, [])), (33, (19, 10, 5, 0, 36, [])), (36, (4, 0, 0, 0, 37, [])), (37, (4, 1, 0, 0, 38, [])), (38, (19, 10, 0, 0, 41, [])), (41, (4, 0, 0, 0, 42, [])), (42, (4, 2, 0, 0, 43, [])), (43, (19, 10, 1, 0, 46, [])), (46, (29, 0, 0, 0, 47, []))]
set_option maxRecDepth 100000 in
theorem K_X10_init : ztbok F_X10_init T_X10_init := ztbB_ok (by decide +kernel)
set_option maxRecDepth 100000 in
theorem W_X10_init : zMth yX10_init (.code yX10_init cX10_init 3 (none)) 2 := ⟨z_at 269 (by decide +kernel) (by decide +kernel), z_at 9 (by decide +kernel) (by decide +kernel), ⟨by decide +kernel, by decide +kernel⟩, by decide +kernel⟩
set_option maxRecDepth 100000 in
theorem I_X10_init : Cond.instanceMethod yX10_init ∈ zws := z_at 268 (by decide +kernel) (by decide +kernel)
abbrev F_X10_keepBest : zF := (10, cX10_keepBest, some .int, 8, [], false)
def T_X10_keepBest : List (Nat × zI) := [(0, (4, 0, 0, 0, 1, [])), (1, (2, 2, 0, 0, 2, [])), (2, (2, 3, 0, 0, 3, [])), (6, (0, 0, 0, 1, 7, [])), (7, (5, 4, 0, 0, 9, [])), (9, (0, 0, 0, 1, 10, [])), (10, (5, 5, 0, 0, 12, [])), (12, (2, 5, 0, 0, 14, [])), (14, (2, 3, 0, 0, 15, [])), (15, (16, 1, 18, 0, 30, [])), (18, (2, 4, 0, 0, 20, [])), (20, (0, 0, 0, 3, 21, [])), (21, (9, 2, 0, 0, 22, [])), (22, (5, 4, 0, 0, 24, [])), (24, (8, 5, 0, 1, 27, [])), (27, (15, 0, 0, 0, 12, [])), (30, (0, 0, 0, (-1), 31, [])), (31, (5, 5, 0, 0, 33, [])), (33, (0, 0, 0, 0, 34, [])), (34, (5, 6, 0, 0, 36, [])), (36, (2, 6, 0, 0, 38, [])), (38, (2, 4, 0, 0, 40, [])), (40, (16, 1, 43, 0, 83, [])), (43, (4, 0, 0, 0, 44, [])), (44, (2, 6, 0, 0, 46, [])), (46, (2, 1, 0, 0, 47, [])), (47, (2, 3, 0, 0, 48, [])), (51, (17, 0, 77, 0, 54, [])), (54, (4, 0, 0, 0, 55, [])), (55, (2, 3, 0, 0, 56, [])), (59, (5, 7, 0, 0, 61, [])), (61, (2, 7, 0, 0, 63, [])), (63, (2, 5, 0, 0, 65, [])), (65, (16, 2, 68, 0, 77, [])), (68, (2, 7, 0, 0, 70, [])), (70, (5, 5, 0, 0, 72, [])), (72, (4, 0, 0, 0, 73, [])), (73, (2, 3, 0, 0, 74, [])), (77, (8, 6, 0, 1, 80, [])), (80, (15, 0, 0, 0, 36, [])), (83, (2, 5, 0, 0, 85, [])), (85, (27, 0, 0, 0, 86, []))]
set_option maxRecDepth 100000 in
theorem K_X10_keepBest : ztbok F_X10_keepBest T_X10_keepBest := ztbB_ok (by decide +kernel)
set_option maxRecDepth 100000 in
theorem W_X10_keepBest : zMth yX10_keepBest (.code yX10_keepBest cX10_keepBest 8 (some .int)) 3 := ⟨z_at 1055 (by decide +kernel) (by decide +kernel), z_at 9 (by decide +kernel) (by decide +kernel), ⟨by decide +kernel, by decide +kernel⟩, by decide +kernel⟩
set_option maxRecDepth 100000 in
theorem I_X10_keepBest : Cond.instanceMethod yX10_keepBest ∈ zws := z_at 1053 (by decide +kernel) (by decide +kernel)
set_option maxRecDepth 100000 in
theorem S_X10_keepBest : Cond.selects yX10_keepBest.cls yX10_keepBest yX10_keepBest ∈ zws := z_at 1054 (by decide +kernel) (by decide +kernel)
abbrev F_X10_weigh : zF := (10, cX10_weigh, none, 5, [], false)
def T_X10_weigh : List (Nat × zI) := [(0, (0, 0, 0, 0, 1, [])), (1, (5, 3, 0, 0, 2, [])), (2, (2, 3, 0, 0, 3, [])), (3, (2, 2, 0, 0, 4, [])), (4, (16, 1, 7, 0, 58, [])), (7, (0, 0, 0, 0, 8, [])), (8, (5, 4, 0, 0, 10, [])), (10, (2, 4, 0, 0, 12, [])), (12, (4, 0, 0, 0, 13, [])), (13, (18, 10, 0, 0, 16, [])), (16, (18, 6, 7, 0, 19, [])), (19, (16, 1, 22, 0, 52, [])), (22, (4, 0, 0, 0, 23, [])), (23, (18, 10, 2, 0, 26, [])), (26, (2, 3, 0, 0, 27, [])), (27, (0, 0, 0, 8, 29, [])), (29, (9, 2, 0, 0, 30, [])), (30, (2, 4, 0, 0, 32, [])), (32, (9, 0, 0, 0, 33, [])), (33, (4, 0, 0, 0, 34, [])), (34, (18, 10, 1, 0, 37, [])), (37, (2, 4, 0, 0, 39, [])), (39, (2, 1, 0, 0, 40, [])), (40, (2, 3, 0, 0, 41, [])), (41, (9, 0, 0, 0, 42, [])), (45, (21, 0, 0, 0, 46, [])), (46, (8, 4, 0, 1, 49, [])), (49, (15, 0, 0, 0, 10, [])), (52, (8, 3, 0, 1, 55, [])), (55, (15, 0, 0, 0, 2, [])), (58, (29, 0, 0, 0, 59, []))]
set_option maxRecDepth 100000 in
theorem K_X10_weigh : ztbok F_X10_weigh T_X10_weigh := ztbB_ok (by decide +kernel)
set_option maxRecDepth 100000 in
theorem W_X10_weigh : zMth yX10_weigh (.code yX10_weigh cX10_weigh 5 (none)) 2 := ⟨z_at 1059 (by decide +kernel) (by decide +kernel), z_at 9 (by decide +kernel) (by decide +kernel), ⟨by decide +kernel, by decide +kernel⟩, by decide +kernel⟩
set_option maxRecDepth 100000 in
theorem I_X10_weigh : Cond.instanceMethod yX10_weigh ∈ zws := z_at 1058 (by decide +kernel) (by decide +kernel)
set_option maxRecDepth 100000 in
theorem S_X10_weigh : Cond.selects yX10_weigh.cls yX10_weigh yX10_weigh ∈ zws := z_in (List.mem_append_left _ (List.mem_map.mpr ⟨_, List.mem_of_getElem? (i := 30) rfl, rfl⟩)) rfl
abbrev F_X10_layRow : zF := (10, cX10_layRow, some .boolean, 6, [], false)
def T_X10_layRow : List (Nat × zI) := [(0, (2, 1, 0, 0, 1, [])), (1, (5, 4, 0, 0, 3, [])), (3, (2, 3, 0, 0, 4, [])), (4, (0, 0, 0, 1, 5, [])), (5, (9, 1, 0, 0, 6, [])), (6, (5, 5, 0, 0, 8, [])), (8, (2, 5, 0, 0, 10, [])), (10, (17, 2, 13, 0, 38, [])), (13, (4, 0, 0, 0, 14, [])), (14, (18, 10, 3, 0, 17, [])), (17, (2, 5, 0, 0, 19, [])), (19, (2, 4, 0, 0, 21, [])), (21, (0, 0, 0, 3, 22, [])), (22, (9, 10, 0, 0, 23, [])), (23, (0, 0, 0, 1, 24, [])), (24, (9, 1, 0, 0, 25, [])), (25, (21, 0, 0, 0, 26, [])), (26, (2, 4, 0, 0, 28, [])), (28, (0, 0, 0, 3, 29, [])), (29, (9, 9, 0, 0, 30, [])), (30, (5, 4, 0, 0, 32, [])), (32, (8, 5, 0, (-1), 35, [])), (35, (15, 0, 0, 0, 8, [])), (38, (4, 0, 0, 0, 39, [])), (39, (18, 10, 3, 0, 42, [])), (42, (0, 0, 0, 0, 43, [])), (43, (2, 2, 0, 0, 44, [])), (44, (21, 0, 0, 0, 45, [])), (45, (0, 0, 0, 1, 46, [])), (46, (5, 5, 0, 0, 48, [])), (48, (2, 5, 0, 0, 50, [])), (50, (2, 3, 0, 0, 51, [])), (51, (16, 1, 54, 0, 108, [])), (54, (4, 0, 0, 0, 55, [])), (55, (18, 10, 3, 0, 58, [])), (58, (2, 5, 0, 0, 60, [])), (60, (13, 0, 0, 0, 61, [])), (61, (20, 0, 0, 0, 62, [])), (62, (4, 0, 0, 0, 63, [])), (63, (18, 10, 3, 0, 66, [])), (66, (2, 5, 0, 0, 68, [])), (68, (0, 0, 0, 1, 69, [])), (69, (9, 1, 0, 0, 70, [])), (70, (20, 0, 0, 0, 71, [])), (71, (9, 0, 0, 0, 72, [])), (72, (21, 0, 0, 0, 73, [])), (73, (4, 0, 0, 0, 74, [])), (74, (18, 10, 3, 0, 77, [])), (77, (2, 5, 0, 0, 79, [])), (79, (20, 0, 0, 0, 80, [])), (80, (17, 1, 100, 0, 83, [])), (83, (4, 0, 0, 0, 84, [])), (84, (18, 10, 3, 0, 87, [])), (87, (2, 5, 0, 0, 89, [])), (89, (20, 0, 0, 0, 90, [])), (90, (4, 0, 0, 0, 91, [])), (91, (18, 10, 0, 0, 94, [])), (94, (18, 6, 7, 0, 97, [])), (97, (16, 1, 102, 0, 100, [])), (100, (0, 0, 0, 0, 101, [])), (101, (27, 0, 0, 0, 102, [])), (102, (8, 5, 0, 1, 105, [])), (105, (15, 0, 0, 0, 48, [])), (108, (0, 0, 0, 1, 109, [])), (109, (27, 0, 0, 0, 110, []))]
set_option maxRecDepth 100000 in
theorem K_X10_layRow : ztbok F_X10_layRow T_X10_layRow := ztbB_ok (by decide +kernel)
set_option maxRecDepth 100000 in
theorem W_X10_layRow : zMth yX10_layRow (.code yX10_layRow cX10_layRow 6 (some .boolean)) 3 := ⟨z_at 1068 (by decide +kernel) (by decide +kernel), z_at 9 (by decide +kernel) (by decide +kernel), ⟨by decide +kernel, by decide +kernel⟩, by decide +kernel⟩
set_option maxRecDepth 100000 in
theorem I_X10_layRow : Cond.instanceMethod yX10_layRow ∈ zws := z_at 1067 (by decide +kernel) (by decide +kernel)
set_option maxRecDepth 100000 in
theorem S_X10_layRow : Cond.selects yX10_layRow.cls yX10_layRow yX10_layRow ∈ zws := z_in (List.mem_append_left _ (List.mem_map.mpr ⟨_, List.mem_of_getElem? (i := 31) rfl, rfl⟩)) rfl
abbrev F_X10_worthOfRow : zF := (10, cX10_worthOfRow, some .int, 4, [], false)
def T_X10_worthOfRow : List (Nat × zI) := [(0, (0, 0, 0, 0, 1, [])), (1, (5, 2, 0, 0, 2, [])), (2, (0, 0, 0, 0, 3, [])), (3, (5, 3, 0, 0, 4, [])), (4, (2, 3, 0, 0, 5, [])), (5, (2, 1, 0, 0, 6, [])), (6, (16, 1, 9, 0, 32, [])), (9, (4, 0, 0, 0, 10, [])), (10, (2, 3, 0, 0, 11, [])), (11, (2, 1, 0, 0, 12, [])), (15, (17, 0, 26, 0, 18, [])), (18, (2, 2, 0, 0, 19, [])), (19, (4, 0, 0, 0, 20, [])), (20, (2, 3, 0, 0, 21, [])), (24, (9, 0, 0, 0, 25, [])), (25, (5, 2, 0, 0, 26, [])), (26, (8, 3, 0, 1, 29, [])), (29, (15, 0, 0, 0, 4, [])), (32, (2, 2, 0, 0, 33, [])), (33, (27, 0, 0, 0, 34, []))]
set_option maxRecDepth 100000 in
theorem K_X10_worthOfRow : ztbok F_X10_worthOfRow T_X10_worthOfRow := ztbB_ok (by decide +kernel)
set_option maxRecDepth 100000 in
theorem W_X10_worthOfRow : zMth yX10_worthOfRow (.code yX10_worthOfRow cX10_worthOfRow 4 (some .int)) 1 := ⟨z_at 1072 (by decide +kernel) (by decide +kernel), z_at 9 (by decide +kernel) (by decide +kernel), ⟨by decide +kernel, by decide +kernel⟩, by decide +kernel⟩
set_option maxRecDepth 100000 in
theorem I_X10_worthOfRow : Cond.instanceMethod yX10_worthOfRow ∈ zws := z_at 1071 (by decide +kernel) (by decide +kernel)
set_option maxRecDepth 100000 in
theorem S_X10_worthOfRow : Cond.selects yX10_worthOfRow.cls yX10_worthOfRow yX10_worthOfRow ∈ zws := z_in (List.mem_append_left _ (List.mem_map.mpr ⟨_, List.mem_of_getElem? (i := 32) rfl, rfl⟩)) rfl
abbrev F_X10_isLook : zF := (10, cX10_isLook, some .boolean, 6, [], false)
def T_X10_isLook : List (Nat × zI) := [(0, (4, 0, 0, 0, 1, [])), (1, (2, 1, 0, 0, 2, [])), (5, (5, 3, 0, 0, 6, [])), (6, (2, 3, 0, 0, 7, [])), (7, (17, 0, 10, 0, 12, [])), (10, (0, 0, 0, 0, 11, [])), (11, (27, 0, 0, 0, 12, [])), (12, (0, 0, 0, 0, 13, [])), (13, (5, 4, 0, 0, 15, [])), (15, (2, 4, 0, 0, 17, [])), (17, (2, 2, 0, 0, 18, [])), (18, (16, 1, 21, 0, 77, [])), (21, (2, 4, 0, 0, 23, [])), (23, (2, 1, 0, 0, 24, [])), (24, (16, 0, 71, 0, 27, [])), (27, (4, 0, 0, 0, 28, [])), (28, (18, 10, 3, 0, 31, [])), (31, (2, 4, 0, 0, 33, [])), (33, (20, 0, 0, 0, 34, [])), (34, (4, 0, 0, 0, 35, [])), (35, (18, 10, 3, 0, 38, [])), (38, (2, 1, 0, 0, 39, [])), (39, (20, 0, 0, 0, 40, [])), (40, (16, 0, 43, 0, 71, [])), (43, (4, 0, 0, 0, 44, [])), (44, (2, 4, 0, 0, 46, [])), (49, (5, 5, 0, 0, 51, [])), (51, (2, 5, 0, 0, 53, [])), (53, (2, 3, 0, 0, 54, [])), (54, (16, 2, 69, 0, 57, [])), (57, (2, 5, 0, 0, 59, [])), (59, (2, 3, 0, 0, 60, [])), (60, (16, 0, 63, 0, 71, [])), (63, (2, 4, 0, 0, 65, [])), (65, (2, 1, 0, 0, 66, [])), (66, (16, 1, 69, 0, 71, [])), (69, (0, 0, 0, 0, 70, [])), (70, (27, 0, 0, 0, 71, [])), (71, (8, 4, 0, 1, 74, [])), (74, (15, 0, 0, 0, 15, [])), (77, (0, 0, 0, 1, 78, [])), (78, (27, 0, 0, 0, 79, []))]
set_option maxRecDepth 100000 in
theorem K_X10_isLook : ztbok F_X10_isLook T_X10_isLook := ztbB_ok (by decide +kernel)
set_option maxRecDepth 100000 in
theorem W_X10_isLook : zMth yX10_isLook (.code yX10_isLook cX10_isLook 6 (some .boolean)) 2 := ⟨z_at 1076 (by decide +kernel) (by decide +kernel), z_at 9 (by decide +kernel) (by decide +kernel), ⟨by decide +kernel, by decide +kernel⟩, by decide +kernel⟩
set_option maxRecDepth 100000 in
theorem I_X10_isLook : Cond.instanceMethod yX10_isLook ∈ zws := z_at 1075 (by decide +kernel) (by decide +kernel)
set_option maxRecDepth 100000 in
theorem S_X10_isLook : Cond.selects yX10_isLook.cls yX10_isLook yX10_isLook ∈ zws := z_in (List.mem_append_left _ (List.mem_map.mpr ⟨_, List.mem_of_getElem? (i := 33) rfl, rfl⟩)) rfl
abbrev F_X10_worthAt : zF := (10, cX10_worthAt, some .int, 2, [], false)
def T_X10_worthAt : List (Nat × zI) := [(0, (4, 0, 0, 0, 1, [])), (1, (18, 10, 2, 0, 4, [])), (4, (2, 1, 0, 0, 5, [])), (5, (0, 0, 0, 8, 7, [])), (7, (9, 2, 0, 0, 8, [])), (8, (4, 0, 0, 0, 9, [])), (9, (18, 10, 3, 0, 12, [])), (12, (2, 1, 0, 0, 13, [])), (13, (20, 0, 0, 0, 14, [])), (14, (9, 0, 0, 0, 15, [])), (15, (20, 0, 0, 0, 16, [])), (16, (27, 0, 0, 0, 17, []))]
set_option maxRecDepth 100000 in
theorem K_X10_worthAt : ztbok F_X10_worthAt T_X10_worthAt := ztbB_ok (by decide +kernel)
set_option maxRecDepth 100000 in
theorem W_X10_worthAt : zMth yX10_worthAt (.code yX10_worthAt cX10_worthAt 2 (some .int)) 1 := ⟨z_at 1080 (by decide +kernel) (by decide +kernel), z_at 9 (by decide +kernel) (by decide +kernel), ⟨by decide +kernel, by decide +kernel⟩, by decide +kernel⟩
set_option maxRecDepth 100000 in
theorem I_X10_worthAt : Cond.instanceMethod yX10_worthAt ∈ zws := z_at 1079 (by decide +kernel) (by decide +kernel)
set_option maxRecDepth 100000 in
theorem S_X10_worthAt : Cond.selects yX10_worthAt.cls yX10_worthAt yX10_worthAt ∈ zws := z_in (List.mem_append_left _ (List.mem_map.mpr ⟨_, List.mem_of_getElem? (i := 34) rfl, rfl⟩)) rfl
abbrev F_X10_keepRow : zF := (10, cX10_keepRow, none, 3, [], false)
def T_X10_keepRow : List (Nat × zI) := [(0, (0, 0, 0, 0, 1, [])), (1, (5, 2, 0, 0, 2, [])), (2, (2, 2, 0, 0, 3, [])), (3, (2, 1, 0, 0, 4, [])), (4, (16, 1, 7, 0, 45, [])), (7, (4, 0, 0, 0, 8, [])), (8, (18, 10, 4, 0, 11, [])), (11, (2, 2, 0, 0, 12, [])), (12, (4, 0, 0, 0, 13, [])), (13, (18, 10, 3, 0, 16, [])), (16, (2, 2, 0, 0, 17, [])), (17, (20, 0, 0, 0, 18, [])), (18, (21, 0, 0, 0, 19, [])), (19, (4, 0, 0, 0, 20, [])), (20, (18, 10, 5, 0, 23, [])), (23, (2, 2, 0, 0, 24, [])), (24, (4, 0, 0, 0, 25, [])), (25, (2, 2, 0, 0, 26, [])), (26, (2, 1, 0, 0, 27, [])), (30, (17, 0, 37, 0, 33, [])), (33, (0, 0, 0, 1, 34, [])), (34, (15, 0, 0, 0, 38, [])), (37, (0, 0, 0, 0, 38, [])), (38, (21, 0, 0, 0, 39, [])), (39, (8, 2, 0, 1, 42, [])), (42, (15, 0, 0, 0, 2, [])), (45, (4, 0, 0, 0, 46, [])), (46, (2, 1, 0, 0, 47, [])), (47, (19, 10, 6, 0, 50, [])), (50, (29, 0, 0, 0, 51, []))]
set_option maxRecDepth 100000 in
theorem K_X10_keepRow : ztbok F_X10_keepRow T_X10_keepRow := ztbB_ok (by decide +kernel)
set_option maxRecDepth 100000 in
theorem W_X10_keepRow : zMth yX10_keepRow (.code yX10_keepRow cX10_keepRow 3 (none)) 1 := ⟨z_at 1084 (by decide +kernel) (by decide +kernel), z_at 9 (by decide +kernel) (by decide +kernel), ⟨by decide +kernel, by decide +kernel⟩, by decide +kernel⟩
set_option maxRecDepth 100000 in
theorem I_X10_keepRow : Cond.instanceMethod yX10_keepRow ∈ zws := z_at 1083 (by decide +kernel) (by decide +kernel)
set_option maxRecDepth 100000 in
theorem S_X10_keepRow : Cond.selects yX10_keepRow.cls yX10_keepRow yX10_keepRow ∈ zws := z_in (List.mem_append_left _ (List.mem_map.mpr ⟨_, List.mem_of_getElem? (i := 35) rfl, rfl⟩)) rfl
abbrev F_X11_init : zF := (11, cX11_init, none, 1, [], true)
def T_X11_init : List (Nat × zI) := [(0, (4, 0, 0, 0, 1, [])), (1, (35, 0, 0, 0, 4, [])), (4, (4, 0, 0, 0, 5, [])), (5, (30, 9, 2, 0, 8, [])), (8, (12, 0, 0, 0, 9, [])), (12, (19, 11, 0, 0, 15, [])), (15, (4, 0, 0, 0, 16, [])), (16, (30, 6, 12, 0, 19, [])), (19, (12, 0, 0, 0, 20, [])), (23, (19, 11, 1, 0, 26, [])), (26, (4, 0, 0, 0, 27, [])), (27, (30, 6, 12, 0, 30, [])), (30, (12, 0, 0, 0, 31, [])), (34, (19, 11, 2, 0, 37, [])), (37, (4, 0, 0, 0, 38, [])), (38, (30, 7, 9, 0, 41, [])), (41, (12, 0, 0, 0, 42, [])), (42, (4, 0, 0, 0, 43, [])), (43, (18, 11, 0, 0, 46, [])), (46, (18, 9, 0, 0, 49, [])), (49, (4, 0, 0, 0, 50, [])), (50, (18, 11, 2, 0, 53, [])), (56, (19, 11, 3, 0, 59, [])), (59, (4, 0, 0, 0, 60, [])), (60, (30, 0, 10, 0, 63, [])), (63, (12, 0, 0, 0, 64, [])), (67, (19, 11, 4, 0, 70, [])), (70, (4, 0, 0, 0, 71, [])), (71, (30, 0, 10, 0, 74, [])), (74, (12, 0, 0, 0, 75, [])), (78, (19, 11, 5, 0, 81, [])), (81, (4, 0, 0, 0, 82, [])), (82, (30, 3, 2, 0, 85, [])), (85, (12, 0, 0, 0, 86, [])), (86, (4, 0, 0, 0, 87, [])), (87, (18, 11, 1, 0, 90, [])), (90, (4, 0, 0, 0, 91, [])), (91, (18, 11, 4, 0, 94, [])), (97, (19, 11, 6, 0, 100, [])), (100, (4, 0, 0, 0, 101, [])), (101, (30, 1, 5, 0, 104, [])), (104, (12, 0, 0, 0, 105, [])), (105, (4, 0, 0, 0, 106, [])), (106, (18, 11, 1, 0, 109, [])), (109, (4, 0, 0, 0, 110, [])), (110, (18, 11, 4, 0, 113, [])), (113, (4, 0, 0, 0, 114, [])), (114, (18, 11, 6, 0, 117, [])), (120, (19, 11, 7, 0, 123, [])), (123, (4, 0, 0, 0, 124, [])), (124, (30, 2, 5, 0, 127, [])), (127, (12, 0, 0, 0, 128, [])), (128, (4, 0, 0, 0, 129, [])), (129, (18, 11, 1, 0, 132, [])), (132, (4, 0, 0, 0, 133, [])), (133, (18, 11, 4, 0, 136, [])), (136, (4, 0, 0, 0, 137, [])), (137, (18, 11, 6, 0, 140, [])), (143, (19, 11, 8, 0, 146, [])), (146, (4, 0, 0, 0, 147, [])), (147, (30, 10, 7, 0, 150, [])), (150, (12, 0, 0, 0, 151, [])), (151, (4, 0, 0, 0, 152, [])), (152, (18, 11, 1, 0, 155, [])), (155, (4, 0, 0, 0, 156, [])), (156, (18, 11, 6, 0, 159, [])), (162, (19, 11, 9, 0, 165, [])), (165, (4, 0, 0, 0, 166, [])), (166, (30, 4, 6, 0, 169, [])), (169, (12, 0, 0, 0, 170, [])), (170, (4, 0, 0, 0, 171, [])), (171, (18, 11, 1, 0, 174, [])), (174, (4, 0, 0, 0, 175, [])), (175, (18, 11, 6, 0, 178, [])), (181, (19, 11, 10, 0, 184, [])), (184, (4, 0, 0, 0, 185, [])), (185, (30, 5, 10, 0, 188, [])), (188, (12, 0, 0, 0, 189, [])), (189, (4, 0, 0, 0, 190, [])), (190, (18, 11, 1, 0, 193, [])), (193, (4, 0, 0, 0, 194, [])), (194, (18, 11, 4, 0, 197, [])), (197, (4, 0, 0, 0, 198, [])), (198, (18, 11, 6, 0, 201, [])), (204, (19, 11, 11, 0, 207, [])), (207, (4, 0, 0, 0, 208, [])), (208, (30, 8, 3, 0, 211, [])), (211, (12, 0, 0, 0, 212, [])), (215, (19, 11, 12, 0, 218, [])), (218, (4, 0, 0, 0, 219, [])), (219, (0, 0, 0, 3, 220, [])), (220, (31, 1, 0, 0, 222, [])), (222, (19, 11, 13, 0, 225, [])), (225, (4, 0, 0, 0, 226, [])), (226, (0, 0, 0, (-1), 227, [])), (227, (19, 11, 14, 0, 230, [])), (230, (4, 0, 0, 0, 231, [])), (231, (0, 0, 0, 0, 232, [])), (232, (19, 11, 15, 0, 235, [])), (235, (29, 0, 0, 0, 236, []))]
set_option maxRecDepth 100000 in
theorem K_X11_init : ztbok F_X11_init T_X11_init := ztbB_ok (by decide +kernel)
set_option maxRecDepth 100000 in
theorem W_X11_init : zMth yX11_init (.code yX11_init cX11_init 1 (none)) 0 := ⟨z_at 31 (by decide +kernel) (by decide +kernel), z_at 1 (by decide +kernel) (by decide +kernel), ⟨by decide +kernel, by decide +kernel⟩, by decide +kernel⟩
set_option maxRecDepth 100000 in
theorem I_X11_init : Cond.instanceMethod yX11_init ∈ zws := z_at 30 (by decide +kernel) (by decide +kernel)
abbrev F_X11_feed : zF := (11, cX11_feed, some .int, 6, [], false)
def T_X11_feed : List (Nat × zI) := [(0, (4, 0, 0, 0, 1, [])), (1, (18, 11, 0, 0, 4, [])), (4, (0, 0, 0, 20, 6, [])), (9, (17, 0, 12, 0, 14, [])), (12, (0, 0, 0, (-1), 13, [])), (13, (27, 0, 0, 0, 14, [])), (14, (4, 0, 0, 0, 15, [])), (15, (18, 11, 0, 0, 18, [])), (18, (2, 1, 0, 0, 19, [])), (22, (4, 0, 0, 0, 23, [])), (23, (18, 11, 0, 0, 26, [])), (26, (2, 2, 0, 0, 27, [])), (30, (4, 0, 0, 0, 31, [])), (31, (18, 11, 0, 0, 34, [])), (34, (2, 3, 0, 0, 35, [])), (38, (4, 0, 0, 0, 39, [])), (39, (18, 11, 0, 0, 42, [])), (42, (2, 4, 0, 0, 44, [])), (47, (4, 0, 0, 0, 48, [])), (48, (18, 11, 0, 0, 51, [])), (51, (2, 5, 0, 0, 53, [])), (56, (4, 0, 0, 0, 57, [])), (57, (18, 11, 0, 0, 60, [])), (60, (18, 9, 1, 0, 63, [])), (63, (27, 0, 0, 0, 64, []))]
set_option maxRecDepth 100000 in
theorem K_X11_feed : ztbok F_X11_feed T_X11_feed := ztbB_ok (by decide +kernel)
set_option maxRecDepth 100000 in
theorem W_X11_feed : zMth yX11_feed (.code yX11_feed cX11_feed 6 (some .int)) 5 := ⟨z_at 431 (by decide +kernel) (by decide +kernel), z_at 1 (by decide +kernel) (by decide +kernel), ⟨by decide +kernel, by decide +kernel⟩, by decide +kernel⟩
set_option maxRecDepth 100000 in
theorem I_X11_feed : Cond.instanceMethod yX11_feed ∈ zws := z_at 429 (by decide +kernel) (by decide +kernel)
set_option maxRecDepth 100000 in
theorem S_X11_feed : Cond.selects yX11_feed.cls yX11_feed yX11_feed ∈ zws := z_at 430 (by decide +kernel) (by decide +kernel)
abbrev F_X11_house : zF := (11, cX11_house, some .int, 3, [], false)
def T_X11_house : List (Nat × zI) := [(0, (2, 1, 0, 0, 1, [])), (1, (17, 1, 15, 0, 4, [])), (4, (2, 1, 0, 0, 5, [])), (5, (4, 0, 0, 0, 6, [])), (6, (18, 11, 0, 0, 9, [])), (9, (18, 9, 1, 0, 12, [])), (12, (16, 2, 15, 0, 25, [])), (18, (12, 0, 0, 0, 19, [])), (25, (4, 0, 0, 0, 26, [])), (26, (18, 11, 3, 0, 29, [])), (29, (2, 1, 0, 0, 30, [])), (33, (5, 2, 0, 0, 34, [])), (34, (4, 0, 0, 0, 35, [])), (35, (18, 11, 0, 0, 38, [])), (38, (0, 0, 0, 0, 39, [])), (39, (19, 9, 1, 0, 42, [])), (42, (2, 2, 0, 0, 43, [])), (43, (17, 0, 69, 0, 46, [])), (46, (4, 0, 0, 0, 47, [])), (47, (4, 0, 0, 0, 48, [])), (48, (18, 11, 3, 0, 51, [])), (51, (18, 7, 8, 0, 54, [])), (54, (19, 11, 14, 0, 57, [])), (57, (4, 0, 0, 0, 58, [])), (58, (18, 11, 13, 0, 61, [])), (61, (0, 0, 0, 0, 62, [])), (62, (13, 0, 0, 0, 63, [])), (63, (20, 0, 0, 0, 64, [])), (64, (0, 0, 0, 1, 65, [])), (65, (9, 0, 0, 0, 66, [])), (66, (21, 0, 0, 0, 67, [])), (67, (2, 2, 0, 0, 68, [])), (68, (27, 0, 0, 0, 69, [])), (69, (4, 0, 0, 0, 70, [])), (70, (0, 0, 0, (-1), 71, [])), (71, (19, 11, 14, 0, 74, [])), (74, (4, 0, 0, 0, 75, [])), (75, (18, 11, 1, 0, 78, [])), (78, (4, 0, 0, 0, 79, [])), (79, (18, 11, 2, 0, 82, [])), (85, (4, 0, 0, 0, 86, [])), (86, (18, 11, 4, 0, 89, [])), (89, (4, 0, 0, 0, 90, [])), (90, (18, 11, 1, 0, 93, [])), (96, (4, 0, 0, 0, 97, [])), (97, (18, 11, 9, 0, 100, [])), (100, (0, 0, 0, 0, 101, [])), (101, (19, 10, 6, 0, 104, [])), (104, (4, 0, 0, 0, 105, [])), (105, (18, 11, 11, 0, 108, [])), (108, (0, 0, 0, 0, 109, [])), (109, (19, 5, 9, 0, 112, [])), (112, (4, 0, 0, 0, 113, [])), (113, (0, 0, 0, 0, 114, [])), (114, (19, 11, 15, 0, 117, [])), (117, (0, 0, 0, 0, 118, [])), (118, (27, 0, 0, 0, 119, []))]
set_option maxRecDepth 100000 in
theorem K_X11_house : ztbok F_X11_house T_X11_house := ztbB_ok (by decide +kernel)
set_option maxRecDepth 100000 in
theorem W_X11_house : zMth yX11_house (.code yX11_house cX11_house 3 (some .int)) 1 := ⟨z_at 546 (by decide +kernel) (by decide +kernel), z_at 1 (by decide +kernel) (by decide +kernel), ⟨by decide +kernel, by decide +kernel⟩, by decide +kernel⟩
set_option maxRecDepth 100000 in
theorem I_X11_house : Cond.instanceMethod yX11_house ∈ zws := z_at 544 (by decide +kernel) (by decide +kernel)
set_option maxRecDepth 100000 in
theorem S_X11_house : Cond.selects yX11_house.cls yX11_house yX11_house ∈ zws := z_at 545 (by decide +kernel) (by decide +kernel)
abbrev F_X11_fault : zF := (11, cX11_fault, some .int, 1, [], false)
def T_X11_fault : List (Nat × zI) := [(0, (4, 0, 0, 0, 1, [])), (1, (18, 11, 14, 0, 4, [])), (4, (27, 0, 0, 0, 5, []))]
set_option maxRecDepth 100000 in
theorem K_X11_fault : ztbok F_X11_fault T_X11_fault := ztbB_ok (by decide +kernel)
set_option maxRecDepth 100000 in
theorem W_X11_fault : zMth yX11_fault (.code yX11_fault cX11_fault 1 (some .int)) 0 := ⟨z_at 443 (by decide +kernel) (by decide +kernel), z_at 1 (by decide +kernel) (by decide +kernel), ⟨by decide +kernel, by decide +kernel⟩, by decide +kernel⟩
set_option maxRecDepth 100000 in
theorem I_X11_fault : Cond.instanceMethod yX11_fault ∈ zws := z_at 441 (by decide +kernel) (by decide +kernel)
set_option maxRecDepth 100000 in
theorem S_X11_fault : Cond.selects yX11_fault.cls yX11_fault yX11_fault ∈ zws := z_at 442 (by decide +kernel) (by decide +kernel)
abbrev F_X11_count : zF := (11, cX11_count, some .int, 2, [], false)
def T_X11_count : List (Nat × zI) := [(0, (2, 1, 0, 0, 1, [])), (1, (32, 0, 237, 0, 0, [112, 120, 128, 136, 144, 152, 160, 168, 176, 183, 190, 237, 237, 237, 237, 237, 237, 237, 237, 237, 197, 207, 217, 227])), (112, (4, 0, 0, 0, 113, [])), (113, (18, 11, 1, 0, 116, [])), (116, (18, 6, 7, 0, 119, [])), (119, (27, 0, 0, 0, 120, [])), (120, (4, 0, 0, 0, 121, [])), (121, (18, 11, 1, 0, 124, [])), (124, (18, 6, 8, 0, 127, [])), (127, (27, 0, 0, 0, 128, [])), (128, (4, 0, 0, 0, 129, [])), (129, (18, 11, 1, 0, 132, [])), (132, (18, 6, 9, 0, 135, [])), (135, (27, 0, 0, 0, 136, [])), (136, (4, 0, 0, 0, 137, [])), (137, (18, 11, 1, 0, 140, [])), (140, (18, 6, 10, 0, 143, [])), (143, (27, 0, 0, 0, 144, [])), (144, (4, 0, 0, 0, 145, [])), (145, (18, 11, 4, 0, 148, [])), (148, (18, 0, 7, 0, 151, [])), (151, (27, 0, 0, 0, 152, [])), (152, (4, 0, 0, 0, 153, [])), (153, (18, 11, 4, 0, 156, [])), (156, (18, 0, 8, 0, 159, [])), (159, (27, 0, 0, 0, 160, [])), (160, (4, 0, 0, 0, 161, [])), (161, (18, 11, 4, 0, 164, [])), (164, (18, 0, 9, 0, 167, [])), (167, (27, 0, 0, 0, 168, [])), (168, (4, 0, 0, 0, 169, [])), (169, (18, 11, 0, 0, 172, [])), (172, (18, 9, 1, 0, 175, [])), (175, (27, 0, 0, 0, 176, [])), (176, (4, 0, 0, 0, 177, [])), (177, (18, 11, 13, 0, 180, [])), (180, (0, 0, 0, 0, 181, [])), (181, (20, 0, 0, 0, 182, [])), (182, (27, 0, 0, 0, 183, [])), (183, (4, 0, 0, 0, 184, [])), (184, (18, 11, 13, 0, 187, [])), (187, (0, 0, 0, 1, 188, [])), (188, (20, 0, 0, 0, 189, [])), (189, (27, 0, 0, 0, 190, [])), (190, (4, 0, 0, 0, 191, [])), (191, (18, 11, 13, 0, 194, [])), (194, (0, 0, 0, 2, 195, [])), (195, (20, 0, 0, 0, 196, [])), (196, (27, 0, 0, 0, 197, [])), (197, (4, 0, 0, 0, 198, [])), (198, (18, 11, 1, 0, 201, [])), (201, (18, 6, 6, 0, 204, [])), (204, (0, 0, 0, 0, 205, [])), (205, (20, 0, 0, 0, 206, [])), (206, (27, 0, 0, 0, 207, [])), (207, (4, 0, 0, 0, 208, [])), (208, (18, 11, 1, 0, 211, [])), (211, (18, 6, 6, 0, 214, [])), (214, (0, 0, 0, 1, 215, [])), (215, (20, 0, 0, 0, 216, [])), (216, (27, 0, 0, 0, 217, [])), (217, (4, 0, 0, 0, 218, [])), (218, (18, 11, 1, 0, 221, [])), (221, (18, 6, 6, 0, 224, [])), (224, (0, 0, 0, 2, 225, [])), (225, (20, 0, 0, 0, 226, [])), (226, (27, 0, 0, 0, 227, [])), (227, (4, 0, 0, 0, 228, [])), (228, (18, 11, 1, 0, 231, [])), (231, (18, 6, 6, 0, 234, [])), (234, (0, 0, 0, 3, 235, [])), (235, (20, 0, 0, 0, 236, [])), (236, (27, 0, 0, 0, 237, [])), (240, (12, 0, 0, 0, 241, []))]
set_option maxRecDepth 100000 in
theorem K_X11_count : ztbok F_X11_count T_X11_count := ztbB_ok (by decide +kernel)
set_option maxRecDepth 100000 in
theorem W_X11_count : zMth yX11_count (.code yX11_count cX11_count 2 (some .int)) 1 := ⟨z_at 798 (by decide +kernel) (by decide +kernel), z_at 1 (by decide +kernel) (by decide +kernel), ⟨by decide +kernel, by decide +kernel⟩, by decide +kernel⟩
set_option maxRecDepth 100000 in
theorem I_X11_count : Cond.instanceMethod yX11_count ∈ zws := z_at 796 (by decide +kernel) (by decide +kernel)
set_option maxRecDepth 100000 in
theorem S_X11_count : Cond.selects yX11_count.cls yX11_count yX11_count ∈ zws := z_at 797 (by decide +kernel) (by decide +kernel)
abbrev F_X11_room : zF := (11, cX11_room, some .int, 3, [], false)
def T_X11_room : List (Nat × zI) := [(0, (4, 0, 0, 0, 1, [])), (1, (2, 1, 0, 0, 2, [])), (5, (2, 2, 0, 0, 6, [])), (6, (0, 0, 0, 2, 7, [])), (10, (2, 2, 0, 0, 11, [])), (11, (17, 0, 14, 0, 26, [])), (14, (4, 0, 0, 0, 15, [])), (15, (18, 11, 1, 0, 18, [])), (18, (18, 6, 0, 0, 21, [])), (21, (2, 1, 0, 0, 22, [])), (22, (20, 0, 0, 0, 23, [])), (23, (15, 0, 0, 0, 35, [])), (26, (4, 0, 0, 0, 27, [])), (27, (18, 11, 1, 0, 30, [])), (30, (18, 6, 1, 0, 33, [])), (33, (2, 1, 0, 0, 34, [])), (34, (20, 0, 0, 0, 35, [])), (35, (27, 0, 0, 0, 36, []))]
set_option maxRecDepth 100000 in
theorem K_X11_room : ztbok F_X11_room T_X11_room := ztbB_ok (by decide +kernel)
set_option maxRecDepth 100000 in
theorem W_X11_room : zMth yX11_room (.code yX11_room cX11_room 3 (some .int)) 2 := ⟨z_at 821 (by decide +kernel) (by decide +kernel), z_at 1 (by decide +kernel) (by decide +kernel), ⟨by decide +kernel, by decide +kernel⟩, by decide +kernel⟩
set_option maxRecDepth 100000 in
theorem I_X11_room : Cond.instanceMethod yX11_room ∈ zws := z_at 819 (by decide +kernel) (by decide +kernel)
set_option maxRecDepth 100000 in
theorem S_X11_room : Cond.selects yX11_room.cls yX11_room yX11_room ∈ zws := z_at 820 (by decide +kernel) (by decide +kernel)
abbrev F_X11_lodger : zF := (11, cX11_lodger, some .int, 3, [], false)
def T_X11_lodger : List (Nat × zI) := [(0, (4, 0, 0, 0, 1, [])), (1, (2, 1, 0, 0, 2, [])), (5, (2, 2, 0, 0, 6, [])), (6, (0, 0, 0, 3, 7, [])), (10, (2, 2, 0, 0, 11, [])), (11, (17, 0, 14, 0, 26, [])), (14, (4, 0, 0, 0, 15, [])), (15, (18, 11, 1, 0, 18, [])), (18, (18, 6, 2, 0, 21, [])), (21, (2, 1, 0, 0, 22, [])), (22, (20, 0, 0, 0, 23, [])), (23, (15, 0, 0, 0, 35, [])), (26, (4, 0, 0, 0, 27, [])), (27, (18, 11, 4, 0, 30, [])), (30, (2, 1, 0, 0, 31, [])), (31, (2, 2, 0, 0, 32, [])), (35, (27, 0, 0, 0, 36, []))]
set_option maxRecDepth 100000 in
theorem K_X11_lodger : ztbok F_X11_lodger T_X11_lodger := ztbB_ok (by decide +kernel)
set_option maxRecDepth 100000 in
theorem W_X11_lodger : zMth yX11_lodger (.code yX11_lodger cX11_lodger 3 (some .int)) 2 := ⟨z_at 837 (by decide +kernel) (by decide +kernel), z_at 1 (by decide +kernel) (by decide +kernel), ⟨by decide +kernel, by decide +kernel⟩, by decide +kernel⟩
set_option maxRecDepth 100000 in
theorem I_X11_lodger : Cond.instanceMethod yX11_lodger ∈ zws := z_at 835 (by decide +kernel) (by decide +kernel)
set_option maxRecDepth 100000 in
theorem S_X11_lodger : Cond.selects yX11_lodger.cls yX11_lodger yX11_lodger ∈ zws := z_at 836 (by decide +kernel) (by decide +kernel)
abbrev F_X11_may : zF := (11, cX11_may, some .int, 6, [], false)
def T_X11_may : List (Nat × zI) := [(0, (4, 0, 0, 0, 1, [])), (1, (2, 1, 0, 0, 2, [])), (5, (2, 2, 0, 0, 6, [])), (9, (4, 0, 0, 0, 10, [])), (10, (18, 11, 1, 0, 13, [])), (13, (2, 1, 0, 0, 14, [])), (14, (2, 2, 0, 0, 15, [])), (18, (5, 4, 0, 0, 20, [])), (20, (2, 4, 0, 0, 22, [])), (25, (5, 5, 0, 0, 27, [])), (27, (2, 3, 0, 0, 28, [])), (28, (0, 0, 0, (-1), 29, [])), (29, (16, 0, 32, 0, 35, [])), (32, (2, 5, 0, 0, 34, [])), (34, (27, 0, 0, 0, 35, [])), (35, (2, 3, 0, 0, 36, [])), (36, (2, 5, 0, 0, 38, [])), (41, (2, 4, 0, 0, 43, [])), (43, (2, 3, 0, 0, 44, [])), (47, (27, 0, 0, 0, 48, []))]
set_option maxRecDepth 100000 in
theorem K_X11_may : ztbok F_X11_may T_X11_may := ztbB_ok (by decide +kernel)
set_option maxRecDepth 100000 in
theorem W_X11_may : zMth yX11_may (.code yX11_may cX11_may 6 (some .int)) 3 := ⟨z_at 853 (by decide +kernel) (by decide +kernel), z_at 1 (by decide +kernel) (by decide +kernel), ⟨by decide +kernel, by decide +kernel⟩, by decide +kernel⟩
set_option maxRecDepth 100000 in
theorem I_X11_may : Cond.instanceMethod yX11_may ∈ zws := z_at 851 (by decide +kernel) (by decide +kernel)
set_option maxRecDepth 100000 in
theorem S_X11_may : Cond.selects yX11_may.cls yX11_may yX11_may ∈ zws := z_at 852 (by decide +kernel) (by decide +kernel)
abbrev F_X11_says : zF := (11, cX11_says, some .int, 3, [], false)
def T_X11_says : List (Nat × zI) := [(0, (4, 0, 0, 0, 1, [])), (1, (2, 1, 0, 0, 2, [])), (5, (4, 0, 0, 0, 6, [])), (6, (18, 11, 1, 0, 9, [])), (9, (2, 1, 0, 0, 10, [])), (10, (2, 2, 0, 0, 11, [])), (14, (17, 0, 17, 0, 27, [])), (20, (12, 0, 0, 0, 21, [])), (27, (4, 0, 0, 0, 28, [])), (28, (18, 11, 6, 0, 31, [])), (31, (2, 1, 0, 0, 32, [])), (32, (2, 2, 0, 0, 33, [])), (36, (27, 0, 0, 0, 37, []))]
set_option maxRecDepth 100000 in
theorem K_X11_says : ztbok F_X11_says T_X11_says := ztbB_ok (by decide +kernel)
set_option maxRecDepth 100000 in
theorem W_X11_says : zMth yX11_says (.code yX11_says cX11_says 3 (some .int)) 2 := ⟨z_at 866 (by decide +kernel) (by decide +kernel), z_at 1 (by decide +kernel) (by decide +kernel), ⟨by decide +kernel, by decide +kernel⟩, by decide +kernel⟩
set_option maxRecDepth 100000 in
theorem I_X11_says : Cond.instanceMethod yX11_says ∈ zws := z_at 864 (by decide +kernel) (by decide +kernel)
set_option maxRecDepth 100000 in
theorem S_X11_says : Cond.selects yX11_says.cls yX11_says yX11_says ∈ zws := z_at 865 (by decide +kernel) (by decide +kernel)
abbrev F_X11_lend : zF := (11, cX11_lend, some .int, 4, [], false)
def T_X11_lend : List (Nat × zI) := [(0, (4, 0, 0, 0, 1, [])), (1, (2, 1, 0, 0, 2, [])), (5, (4, 0, 0, 0, 6, [])), (6, (2, 2, 0, 0, 7, [])), (10, (2, 1, 0, 0, 11, [])), (11, (2, 2, 0, 0, 12, [])), (12, (16, 0, 27, 0, 15, [])), (15, (4, 0, 0, 0, 16, [])), (16, (18, 11, 4, 0, 19, [])), (19, (2, 1, 0, 0, 20, [])), (20, (2, 3, 0, 0, 21, [])), (24, (17, 0, 27, 0, 39, [])), (27, (4, 0, 0, 0, 28, [])), (28, (18, 11, 13, 0, 31, [])), (31, (0, 0, 0, 1, 32, [])), (32, (13, 0, 0, 0, 33, [])), (33, (20, 0, 0, 0, 34, [])), (34, (0, 0, 0, 1, 35, [])), (35, (9, 0, 0, 0, 36, [])), (36, (21, 0, 0, 0, 37, [])), (37, (0, 0, 0, (-1), 38, [])), (38, (27, 0, 0, 0, 39, [])), (39, (4, 0, 0, 0, 40, [])), (40, (18, 11, 4, 0, 43, [])), (43, (2, 1, 0, 0, 44, [])), (44, (2, 2, 0, 0, 45, [])), (45, (2, 3, 0, 0, 46, [])), (49, (4, 0, 0, 0, 50, [])), (50, (18, 11, 4, 0, 53, [])), (53, (18, 0, 7, 0, 56, [])), (56, (27, 0, 0, 0, 57, []))]
set_option maxRecDepth 100000 in
theorem K_X11_lend : ztbok F_X11_lend T_X11_lend := ztbB_ok (by decide +kernel)
set_option maxRecDepth 100000 in
theorem W_X11_lend : zMth yX11_lend (.code yX11_lend cX11_lend 4 (some .int)) 3 := ⟨z_at 882 (by decide +kernel) (by decide +kernel), z_at 1 (by decide +kernel) (by decide +kernel), ⟨by decide +kernel, by decide +kernel⟩, by decide +kernel⟩
set_option maxRecDepth 100000 in
theorem I_X11_lend : Cond.instanceMethod yX11_lend ∈ zws := z_at 880 (by decide +kernel) (by decide +kernel)
set_option maxRecDepth 100000 in
theorem S_X11_lend : Cond.selects yX11_lend.cls yX11_lend yX11_lend ∈ zws := z_at 881 (by decide +kernel) (by decide +kernel)
abbrev F_X11_back : zF := (11, cX11_back, some .int, 1, [], false)
def T_X11_back : List (Nat × zI) := [(0, (4, 0, 0, 0, 1, [])), (1, (18, 11, 4, 0, 4, [])), (4, (18, 0, 7, 0, 7, [])), (7, (17, 0, 10, 0, 12, [])), (10, (0, 0, 0, (-1), 11, [])), (11, (27, 0, 0, 0, 12, [])), (12, (4, 0, 0, 0, 13, [])), (13, (18, 11, 4, 0, 16, [])), (19, (4, 0, 0, 0, 20, [])), (20, (18, 11, 4, 0, 23, [])), (23, (18, 0, 7, 0, 26, [])), (26, (27, 0, 0, 0, 27, []))]
set_option maxRecDepth 100000 in
theorem K_X11_back : ztbok F_X11_back T_X11_back := ztbB_ok (by decide +kernel)
set_option maxRecDepth 100000 in
theorem W_X11_back : zMth yX11_back (.code yX11_back cX11_back 1 (some .int)) 0 := ⟨z_at 447 (by decide +kernel) (by decide +kernel), z_at 1 (by decide +kernel) (by decide +kernel), ⟨by decide +kernel, by decide +kernel⟩, by decide +kernel⟩
set_option maxRecDepth 100000 in
theorem I_X11_back : Cond.instanceMethod yX11_back ∈ zws := z_at 445 (by decide +kernel) (by decide +kernel)
set_option maxRecDepth 100000 in
theorem S_X11_back : Cond.selects yX11_back.cls yX11_back yX11_back ∈ zws := z_at 446 (by decide +kernel) (by decide +kernel)
abbrev F_X11_draw : zF := (11, cX11_draw, none, 2, [], false)
def T_X11_draw : List (Nat × zI) := [(0, (4, 0, 0, 0, 1, [])), (1, (18, 11, 4, 0, 4, [])), (4, (4, 0, 0, 0, 5, [])), (5, (18, 11, 1, 0, 8, [])), (8, (2, 1, 0, 0, 9, [])), (12, (29, 0, 0, 0, 13, []))]
set_option maxRecDepth 100000 in
theorem K_X11_draw : ztbok F_X11_draw T_X11_draw := ztbB_ok (by decide +kernel)
set_option maxRecDepth 100000 in
theorem W_X11_draw : zMth yX11_draw (.code yX11_draw cX11_draw 2 (none)) 1 := ⟨z_at 459 (by decide +kernel) (by decide +kernel), z_at 1 (by decide +kernel) (by decide +kernel), ⟨by decide +kernel, by decide +kernel⟩, by decide +kernel⟩
set_option maxRecDepth 100000 in
theorem I_X11_draw : Cond.instanceMethod yX11_draw ∈ zws := z_at 457 (by decide +kernel) (by decide +kernel)
set_option maxRecDepth 100000 in
theorem S_X11_draw : Cond.selects yX11_draw.cls yX11_draw yX11_draw ∈ zws := z_at 458 (by decide +kernel) (by decide +kernel)
abbrev F_X11_does : zF := (11, cX11_does, some .int, 3, [], false)
def T_X11_does : List (Nat × zI) := [(0, (4, 0, 0, 0, 1, [])), (1, (2, 1, 0, 0, 2, [])), (5, (2, 2, 0, 0, 6, [])), (9, (4, 0, 0, 0, 10, [])), (10, (18, 11, 4, 0, 13, [])), (13, (2, 1, 0, 0, 14, [])), (14, (2, 2, 0, 0, 15, [])), (18, (27, 0, 0, 0, 19, []))]
set_option maxRecDepth 100000 in
theorem K_X11_does : ztbok F_X11_does T_X11_does := ztbB_ok (by decide +kernel)
set_option maxRecDepth 100000 in
theorem W_X11_does : zMth yX11_does (.code yX11_does cX11_does 3 (some .int)) 2 := ⟨z_at 898 (by decide +kernel) (by decide +kernel), z_at 1 (by decide +kernel) (by decide +kernel), ⟨by decide +kernel, by decide +kernel⟩, by decide +kernel⟩
set_option maxRecDepth 100000 in
theorem I_X11_does : Cond.instanceMethod yX11_does ∈ zws := z_at 896 (by decide +kernel) (by decide +kernel)
set_option maxRecDepth 100000 in
theorem S_X11_does : Cond.selects yX11_does.cls yX11_does yX11_does ∈ zws := z_at 897 (by decide +kernel) (by decide +kernel)
abbrev F_X11_sign : zF := (11, cX11_sign, some .int, 3, [], false)
def T_X11_sign : List (Nat × zI) := [(0, (4, 0, 0, 0, 1, [])), (1, (2, 1, 0, 0, 2, [])), (5, (2, 2, 0, 0, 6, [])), (9, (4, 0, 0, 0, 10, [])), (10, (18, 11, 6, 0, 13, [])), (13, (2, 1, 0, 0, 14, [])), (14, (2, 2, 0, 0, 15, [])), (18, (27, 0, 0, 0, 19, []))]
set_option maxRecDepth 100000 in
theorem K_X11_sign : ztbok F_X11_sign T_X11_sign := ztbB_ok (by decide +kernel)
set_option maxRecDepth 100000 in
theorem W_X11_sign : zMth yX11_sign (.code yX11_sign cX11_sign 3 (some .int)) 2 := ⟨z_at 909 (by decide +kernel) (by decide +kernel), z_at 1 (by decide +kernel) (by decide +kernel), ⟨by decide +kernel, by decide +kernel⟩, by decide +kernel⟩
set_option maxRecDepth 100000 in
theorem I_X11_sign : Cond.instanceMethod yX11_sign ∈ zws := z_at 907 (by decide +kernel) (by decide +kernel)
set_option maxRecDepth 100000 in
theorem S_X11_sign : Cond.selects yX11_sign.cls yX11_sign yX11_sign ∈ zws := z_at 908 (by decide +kernel) (by decide +kernel)
abbrev F_X11_look : zF := (11, cX11_look, some .int, 6, [], false)
def T_X11_look : List (Nat × zI) := [(0, (2, 1, 0, 0, 1, [])), (1, (4, 0, 0, 0, 2, [])), (2, (18, 11, 1, 0, 5, [])), (5, (18, 6, 9, 0, 8, [])), (11, (2, 2, 0, 0, 12, [])), (15, (4, 0, 0, 0, 16, [])), (16, (2, 3, 0, 0, 17, [])), (20, (2, 1, 0, 0, 21, [])), (21, (0, 0, 0, 24, 23, [])), (23, (9, 2, 0, 0, 24, [])), (24, (2, 2, 0, 0, 25, [])), (25, (9, 0, 0, 0, 26, [])), (26, (5, 4, 0, 0, 28, [])), (28, (4, 0, 0, 0, 29, [])), (29, (18, 11, 4, 0, 32, [])), (32, (18, 0, 5, 0, 35, [])), (35, (2, 4, 0, 0, 37, [])), (37, (20, 0, 0, 0, 38, [])), (38, (5, 5, 0, 0, 40, [])), (40, (4, 0, 0, 0, 41, [])), (41, (18, 11, 4, 0, 44, [])), (44, (18, 0, 5, 0, 47, [])), (47, (2, 4, 0, 0, 49, [])), (49, (2, 3, 0, 0, 50, [])), (50, (21, 0, 0, 0, 51, [])), (51, (2, 5, 0, 0, 53, [])), (53, (27, 0, 0, 0, 54, []))]
set_option maxRecDepth 100000 in
theorem K_X11_look : ztbok F_X11_look T_X11_look := ztbB_ok (by decide +kernel)
set_option maxRecDepth 100000 in
theorem W_X11_look : zMth yX11_look (.code yX11_look cX11_look 6 (some .int)) 3 := ⟨z_at 922 (by decide +kernel) (by decide +kernel), z_at 1 (by decide +kernel) (by decide +kernel), ⟨by decide +kernel, by decide +kernel⟩, by decide +kernel⟩
set_option maxRecDepth 100000 in
theorem I_X11_look : Cond.instanceMethod yX11_look ∈ zws := z_at 920 (by decide +kernel) (by decide +kernel)
set_option maxRecDepth 100000 in
theorem S_X11_look : Cond.selects yX11_look.cls yX11_look yX11_look ∈ zws := z_at 921 (by decide +kernel) (by decide +kernel)
abbrev F_X11_theft : zF := (11, cX11_theft, some .int, 4, [], false)
def T_X11_theft : List (Nat × zI) := [(0, (4, 0, 0, 0, 1, [])), (1, (2, 1, 0, 0, 2, [])), (5, (2, 2, 0, 0, 6, [])), (6, (0, 0, 0, 2, 7, [])), (10, (4, 0, 0, 0, 11, [])), (11, (2, 1, 0, 0, 12, [])), (15, (5, 3, 0, 0, 16, [])), (16, (2, 3, 0, 0, 17, [])), (17, (0, 0, 0, (-1), 18, [])), (18, (16, 0, 26, 0, 21, [])), (21, (2, 2, 0, 0, 22, [])), (22, (0, 0, 0, 1, 23, [])), (23, (16, 0, 26, 0, 28, [])), (26, (2, 3, 0, 0, 27, [])), (27, (27, 0, 0, 0, 28, [])), (28, (4, 0, 0, 0, 29, [])), (29, (2, 1, 0, 0, 30, [])), (30, (2, 3, 0, 0, 31, [])), (34, (27, 0, 0, 0, 35, []))]
set_option maxRecDepth 100000 in
theorem K_X11_theft : ztbok F_X11_theft T_X11_theft := ztbB_ok (by decide +kernel)
set_option maxRecDepth 100000 in
theorem W_X11_theft : zMth yX11_theft (.code yX11_theft cX11_theft 4 (some .int)) 2 := ⟨z_at 929 (by decide +kernel) (by decide +kernel), z_at 1 (by decide +kernel) (by decide +kernel), ⟨by decide +kernel, by decide +kernel⟩, by decide +kernel⟩
set_option maxRecDepth 100000 in
theorem I_X11_theft : Cond.instanceMethod yX11_theft ∈ zws := z_at 927 (by decide +kernel) (by decide +kernel)
set_option maxRecDepth 100000 in
theorem S_X11_theft : Cond.selects yX11_theft.cls yX11_theft yX11_theft ∈ zws := z_at 928 (by decide +kernel) (by decide +kernel)
abbrev F_X11_see : zF := (11, cX11_see, some .int, 4, [], false)
def T_X11_see : List (Nat × zI) := [(0, (4, 0, 0, 0, 1, [])), (1, (2, 1, 0, 0, 2, [])), (5, (2, 2, 0, 0, 6, [])), (9, (2, 3, 0, 0, 10, [])), (10, (17, 1, 30, 0, 13, [])), (13, (2, 3, 0, 0, 14, [])), (14, (0, 0, 0, 3, 15, [])), (15, (16, 2, 30, 0, 18, [])), (18, (4, 0, 0, 0, 19, [])), (19, (18, 11, 4, 0, 22, [])), (22, (2, 1, 0, 0, 23, [])), (23, (2, 2, 0, 0, 24, [])), (27, (17, 0, 42, 0, 30, [])), (30, (4, 0, 0, 0, 31, [])), (31, (18, 11, 13, 0, 34, [])), (34, (0, 0, 0, 2, 35, [])), (35, (13, 0, 0, 0, 36, [])), (36, (20, 0, 0, 0, 37, [])), (37, (0, 0, 0, 1, 38, [])), (38, (9, 0, 0, 0, 39, [])), (39, (21, 0, 0, 0, 40, [])), (40, (0, 0, 0, (-1), 41, [])), (41, (27, 0, 0, 0, 42, [])), (42, (4, 0, 0, 0, 43, [])), (43, (18, 11, 4, 0, 46, [])), (46, (2, 1, 0, 0, 47, [])), (47, (2, 2, 0, 0, 48, [])), (48, (2, 3, 0, 0, 49, [])), (52, (4, 0, 0, 0, 53, [])), (53, (18, 11, 4, 0, 56, [])), (56, (18, 0, 9, 0, 59, [])), (62, (27, 0, 0, 0, 63, []))]
set_option maxRecDepth 100000 in
theorem K_X11_see : ztbok F_X11_see T_X11_see := ztbB_ok (by decide +kernel)
set_option maxRecDepth 100000 in
theorem W_X11_see : zMth yX11_see (.code yX11_see cX11_see 4 (some .int)) 3 := ⟨z_at 944 (by decide +kernel) (by decide +kernel), z_at 1 (by decide +kernel) (by decide +kernel), ⟨by decide +kernel, by decide +kernel⟩, by decide +kernel⟩
set_option maxRecDepth 100000 in
theorem I_X11_see : Cond.instanceMethod yX11_see ∈ zws := z_at 942 (by decide +kernel) (by decide +kernel)
set_option maxRecDepth 100000 in
theorem S_X11_see : Cond.selects yX11_see.cls yX11_see yX11_see ∈ zws := z_at 943 (by decide +kernel) (by decide +kernel)
abbrev F_X11_forget : zF := (11, cX11_forget, some .int, 2, [], false)
def T_X11_forget : List (Nat × zI) := [(0, (4, 0, 0, 0, 1, [])), (1, (18, 11, 4, 0, 4, [])), (4, (18, 0, 9, 0, 7, [])), (10, (5, 1, 0, 0, 11, [])), (11, (4, 0, 0, 0, 12, [])), (12, (18, 11, 4, 0, 15, [])), (18, (2, 1, 0, 0, 19, [])), (19, (27, 0, 0, 0, 20, []))]
set_option maxRecDepth 100000 in
theorem K_X11_forget : ztbok F_X11_forget T_X11_forget := ztbB_ok (by decide +kernel)
set_option maxRecDepth 100000 in
theorem W_X11_forget : zMth yX11_forget (.code yX11_forget cX11_forget 2 (some .int)) 0 := ⟨z_at 481 (by decide +kernel) (by decide +kernel), z_at 1 (by decide +kernel) (by decide +kernel), ⟨by decide +kernel, by decide +kernel⟩, by decide +kernel⟩
set_option maxRecDepth 100000 in
theorem I_X11_forget : Cond.instanceMethod yX11_forget ∈ zws := z_at 479 (by decide +kernel) (by decide +kernel)
set_option maxRecDepth 100000 in
theorem S_X11_forget : Cond.selects yX11_forget.cls yX11_forget yX11_forget ∈ zws := z_at 480 (by decide +kernel) (by decide +kernel)
abbrev F_X11_cases : zF := (11, cX11_cases, some .int, 1, [], false)
def T_X11_cases : List (Nat × zI) := [(0, (4, 0, 0, 0, 1, [])), (1, (18, 11, 7, 0, 4, [])), (7, (27, 0, 0, 0, 8, []))]
set_option maxRecDepth 100000 in
theorem K_X11_cases : ztbok F_X11_cases T_X11_cases := ztbB_ok (by decide +kernel)
set_option maxRecDepth 100000 in
theorem W_X11_cases : zMth yX11_cases (.code yX11_cases cX11_cases 1 (some .int)) 0 := ⟨z_at 490 (by decide +kernel) (by decide +kernel), z_at 1 (by decide +kernel) (by decide +kernel), ⟨by decide +kernel, by decide +kernel⟩, by decide +kernel⟩
set_option maxRecDepth 100000 in
theorem I_X11_cases : Cond.instanceMethod yX11_cases ∈ zws := z_at 488 (by decide +kernel) (by decide +kernel)
set_option maxRecDepth 100000 in
theorem S_X11_cases : Cond.selects yX11_cases.cls yX11_cases yX11_cases ∈ zws := z_at 489 (by decide +kernel) (by decide +kernel)
abbrev F_X11_inCase : zF := (11, cX11_inCase, some .int, 3, [], false)
def T_X11_inCase : List (Nat × zI) := [(0, (4, 0, 0, 0, 1, [])), (1, (2, 2, 0, 0, 2, [])), (5, (2, 1, 0, 0, 6, [])), (6, (4, 0, 0, 0, 7, [])), (7, (18, 11, 7, 0, 10, [])), (16, (4, 0, 0, 0, 17, [])), (17, (18, 11, 7, 0, 20, [])), (20, (2, 1, 0, 0, 21, [])), (21, (2, 2, 0, 0, 22, [])), (25, (27, 0, 0, 0, 26, []))]
set_option maxRecDepth 100000 in
theorem K_X11_inCase : ztbok F_X11_inCase T_X11_inCase := ztbB_ok (by decide +kernel)
set_option maxRecDepth 100000 in
theorem W_X11_inCase : zMth yX11_inCase (.code yX11_inCase cX11_inCase 3 (some .int)) 2 := ⟨z_at 959 (by decide +kernel) (by decide +kernel), z_at 1 (by decide +kernel) (by decide +kernel), ⟨by decide +kernel, by decide +kernel⟩, by decide +kernel⟩
set_option maxRecDepth 100000 in
theorem I_X11_inCase : Cond.instanceMethod yX11_inCase ∈ zws := z_at 957 (by decide +kernel) (by decide +kernel)
set_option maxRecDepth 100000 in
theorem S_X11_inCase : Cond.selects yX11_inCase.cls yX11_inCase yX11_inCase ∈ zws := z_at 958 (by decide +kernel) (by decide +kernel)
abbrev F_X11_sure : zF := (11, cX11_sure, some .int, 2, [], false)
def T_X11_sure : List (Nat × zI) := [(0, (2, 1, 0, 0, 1, [])), (1, (0, 0, 0, 3, 2, [])), (5, (4, 0, 0, 0, 6, [])), (6, (18, 11, 7, 0, 9, [])), (12, (0, 0, 0, (-2), 14, [])), (14, (16, 0, 17, 0, 20, [])), (17, (0, 0, 0, (-2), 19, [])), (19, (27, 0, 0, 0, 20, [])), (20, (2, 1, 0, 0, 21, [])), (21, (0, 0, 0, 2, 22, [])), (22, (16, 0, 25, 0, 33, [])), (25, (4, 0, 0, 0, 26, [])), (26, (18, 11, 7, 0, 29, [])), (32, (27, 0, 0, 0, 33, [])), (33, (2, 1, 0, 0, 34, [])), (34, (17, 0, 37, 0, 47, [])), (37, (4, 0, 0, 0, 38, [])), (38, (18, 11, 7, 0, 41, [])), (44, (15, 0, 0, 0, 54, [])), (47, (4, 0, 0, 0, 48, [])), (48, (18, 11, 7, 0, 51, [])), (54, (27, 0, 0, 0, 55, []))]
set_option maxRecDepth 100000 in
theorem K_X11_sure : ztbok F_X11_sure T_X11_sure := ztbB_ok (by decide +kernel)
set_option maxRecDepth 100000 in
theorem W_X11_sure : zMth yX11_sure (.code yX11_sure cX11_sure 2 (some .int)) 1 := ⟨z_at 971 (by decide +kernel) (by decide +kernel), z_at 1 (by decide +kernel) (by decide +kernel), ⟨by decide +kernel, by decide +kernel⟩, by decide +kernel⟩
set_option maxRecDepth 100000 in
theorem I_X11_sure : Cond.instanceMethod yX11_sure ∈ zws := z_at 969 (by decide +kernel) (by decide +kernel)
set_option maxRecDepth 100000 in
theorem S_X11_sure : Cond.selects yX11_sure.cls yX11_sure yX11_sure ∈ zws := z_at 970 (by decide +kernel) (by decide +kernel)
abbrev F_X11_where : zF := (11, cX11_where, some .int, 3, [], false)
def T_X11_where : List (Nat × zI) := [(0, (4, 0, 0, 0, 1, [])), (1, (2, 1, 0, 0, 2, [])), (5, (4, 0, 0, 0, 6, [])), (6, (18, 11, 7, 0, 9, [])), (12, (5, 2, 0, 0, 13, [])), (13, (2, 2, 0, 0, 14, [])), (14, (17, 2, 19, 0, 17, [])), (17, (2, 2, 0, 0, 18, [])), (18, (27, 0, 0, 0, 19, [])), (19, (4, 0, 0, 0, 20, [])), (20, (18, 11, 7, 0, 23, [])), (23, (2, 1, 0, 0, 24, [])), (27, (27, 0, 0, 0, 28, []))]
set_option maxRecDepth 100000 in
theorem K_X11_where : ztbok F_X11_where T_X11_where := ztbB_ok (by decide +kernel)
set_option maxRecDepth 100000 in
theorem W_X11_where : zMth yX11_where (.code yX11_where cX11_where 3 (some .int)) 1 := ⟨z_at 1001 (by decide +kernel) (by decide +kernel), z_at 1 (by decide +kernel) (by decide +kernel), ⟨by decide +kernel, by decide +kernel⟩, by decide +kernel⟩
set_option maxRecDepth 100000 in
theorem I_X11_where : Cond.instanceMethod yX11_where ∈ zws := z_at 999 (by decide +kernel) (by decide +kernel)
set_option maxRecDepth 100000 in
theorem S_X11_where : Cond.selects yX11_where.cls yX11_where yX11_where ∈ zws := z_at 1000 (by decide +kernel) (by decide +kernel)
abbrev F_X11_misled : zF := (11, cX11_misled, some .int, 5, [], false)
def T_X11_misled : List (Nat × zI) := [(0, (4, 0, 0, 0, 1, [])), (1, (2, 1, 0, 0, 2, [])), (5, (2, 2, 0, 0, 6, [])), (9, (2, 3, 0, 0, 10, [])), (10, (0, 0, 0, 2, 11, [])), (14, (4, 0, 0, 0, 15, [])), (15, (18, 11, 1, 0, 18, [])), (18, (2, 2, 0, 0, 19, [])), (22, (0, 0, 0, (-2), 24, [])), (24, (16, 0, 27, 0, 30, [])), (27, (0, 0, 0, (-2), 29, [])), (29, (27, 0, 0, 0, 30, [])), (30, (4, 0, 0, 0, 31, [])), (31, (18, 11, 8, 0, 34, [])), (34, (2, 1, 0, 0, 35, [])), (35, (2, 2, 0, 0, 36, [])), (39, (5, 4, 0, 0, 41, [])), (41, (2, 4, 0, 0, 43, [])), (43, (0, 0, 0, (-1), 44, [])), (44, (16, 0, 52, 0, 47, [])), (47, (2, 3, 0, 0, 48, [])), (48, (0, 0, 0, 1, 49, [])), (49, (16, 0, 52, 0, 55, [])), (52, (2, 4, 0, 0, 54, [])), (54, (27, 0, 0, 0, 55, [])), (55, (2, 4, 0, 0, 57, [])), (60, (27, 0, 0, 0, 61, []))]
set_option maxRecDepth 100000 in
theorem K_X11_misled : ztbok F_X11_misled T_X11_misled := ztbB_ok (by decide +kernel)
set_option maxRecDepth 100000 in
theorem W_X11_misled : zMth yX11_misled (.code yX11_misled cX11_misled 5 (some .int)) 3 := ⟨z_at 1012 (by decide +kernel) (by decide +kernel), z_at 1 (by decide +kernel) (by decide +kernel), ⟨by decide +kernel, by decide +kernel⟩, by decide +kernel⟩
set_option maxRecDepth 100000 in
theorem I_X11_misled : Cond.instanceMethod yX11_misled ∈ zws := z_at 1010 (by decide +kernel) (by decide +kernel)
set_option maxRecDepth 100000 in
theorem S_X11_misled : Cond.selects yX11_misled.cls yX11_misled yX11_misled ∈ zws := z_at 1011 (by decide +kernel) (by decide +kernel)
abbrev F_X11_chance : zF := (11, cX11_chance, some .int, 3, [], false)
def T_X11_chance : List (Nat × zI) := [(0, (4, 0, 0, 0, 1, [])), (1, (2, 1, 0, 0, 2, [])), (5, (2, 2, 0, 0, 6, [])), (9, (4, 0, 0, 0, 10, [])), (10, (18, 11, 6, 0, 13, [])), (13, (2, 1, 0, 0, 14, [])), (14, (2, 2, 0, 0, 15, [])), (18, (27, 0, 0, 0, 19, []))]
set_option maxRecDepth 100000 in
theorem K_X11_chance : ztbok F_X11_chance T_X11_chance := ztbB_ok (by decide +kernel)
set_option maxRecDepth 100000 in
theorem W_X11_chance : zMth yX11_chance (.code yX11_chance cX11_chance 3 (some .int)) 2 := ⟨z_at 1037 (by decide +kernel) (by decide +kernel), z_at 1 (by decide +kernel) (by decide +kernel), ⟨by decide +kernel, by decide +kernel⟩, by decide +kernel⟩
set_option maxRecDepth 100000 in
theorem I_X11_chance : Cond.instanceMethod yX11_chance ∈ zws := z_at 1035 (by decide +kernel) (by decide +kernel)
set_option maxRecDepth 100000 in
theorem S_X11_chance : Cond.selects yX11_chance.cls yX11_chance yX11_chance ∈ zws := z_at 1036 (by decide +kernel) (by decide +kernel)
abbrev F_X11_round : zF := (11, cX11_round, some .int, 4, [], false)
def T_X11_round : List (Nat × zI) := [(0, (4, 0, 0, 0, 1, [])), (1, (2, 1, 0, 0, 2, [])), (5, (2, 2, 0, 0, 6, [])), (9, (2, 3, 0, 0, 10, [])), (10, (0, 0, 0, 1, 11, [])), (11, (16, 1, 28, 0, 14, [])), (14, (2, 3, 0, 0, 15, [])), (15, (0, 0, 0, 6, 17, [])), (17, (16, 2, 28, 0, 20, [])), (20, (2, 2, 0, 0, 21, [])), (21, (2, 3, 0, 0, 22, [])), (22, (9, 0, 0, 0, 23, [])), (23, (0, 0, 0, 24, 25, [])), (25, (16, 2, 28, 0, 39, [])), (31, (12, 0, 0, 0, 32, [])), (39, (4, 0, 0, 0, 40, [])), (40, (18, 11, 9, 0, 43, [])), (43, (2, 1, 0, 0, 44, [])), (44, (2, 2, 0, 0, 45, [])), (45, (2, 3, 0, 0, 46, [])), (49, (27, 0, 0, 0, 50, []))]
set_option maxRecDepth 100000 in
theorem K_X11_round : ztbok F_X11_round T_X11_round := ztbB_ok (by decide +kernel)
set_option maxRecDepth 100000 in
theorem W_X11_round : zMth yX11_round (.code yX11_round cX11_round 4 (some .int)) 3 := ⟨z_at 1050 (by decide +kernel) (by decide +kernel), z_at 1 (by decide +kernel) (by decide +kernel), ⟨by decide +kernel, by decide +kernel⟩, by decide +kernel⟩
set_option maxRecDepth 100000 in
theorem I_X11_round : Cond.instanceMethod yX11_round ∈ zws := z_at 1048 (by decide +kernel) (by decide +kernel)
set_option maxRecDepth 100000 in
theorem S_X11_round : Cond.selects yX11_round.cls yX11_round yX11_round ∈ zws := z_at 1049 (by decide +kernel) (by decide +kernel)
abbrev F_X11_path : zF := (11, cX11_path, some .int, 3, [], false)
def T_X11_path : List (Nat × zI) := [(0, (2, 1, 0, 0, 1, [])), (1, (4, 0, 0, 0, 2, [])), (2, (18, 11, 9, 0, 5, [])), (5, (18, 10, 6, 0, 8, [])), (11, (2, 2, 0, 0, 12, [])), (12, (0, 0, 0, 2, 13, [])), (16, (2, 2, 0, 0, 17, [])), (17, (17, 0, 20, 0, 32, [])), (20, (4, 0, 0, 0, 21, [])), (21, (18, 11, 9, 0, 24, [])), (24, (18, 10, 4, 0, 27, [])), (27, (2, 1, 0, 0, 28, [])), (28, (20, 0, 0, 0, 29, [])), (29, (15, 0, 0, 0, 41, [])), (32, (4, 0, 0, 0, 33, [])), (33, (18, 11, 9, 0, 36, [])), (36, (18, 10, 5, 0, 39, [])), (39, (2, 1, 0, 0, 40, [])), (40, (20, 0, 0, 0, 41, [])), (41, (27, 0, 0, 0, 42, []))]
set_option maxRecDepth 100000 in
theorem K_X11_path : ztbok F_X11_path T_X11_path := ztbB_ok (by decide +kernel)
set_option maxRecDepth 100000 in
theorem W_X11_path : zMth yX11_path (.code yX11_path cX11_path 3 (some .int)) 2 := ⟨z_at 1091 (by decide +kernel) (by decide +kernel), z_at 1 (by decide +kernel) (by decide +kernel), ⟨by decide +kernel, by decide +kernel⟩, by decide +kernel⟩
set_option maxRecDepth 100000 in
theorem I_X11_path : Cond.instanceMethod yX11_path ∈ zws := z_at 1089 (by decide +kernel) (by decide +kernel)
set_option maxRecDepth 100000 in
theorem S_X11_path : Cond.selects yX11_path.cls yX11_path yX11_path ∈ zws := z_at 1090 (by decide +kernel) (by decide +kernel)
abbrev F_X11_rests : zF := (11, cX11_rests, some .int, 5, [], false)
def T_X11_rests : List (Nat × zI) := [(0, (2, 1, 0, 0, 1, [])), (4, (2, 2, 0, 0, 5, [])), (5, (0, 0, 0, 1, 6, [])), (6, (16, 1, 14, 0, 9, [])), (9, (2, 2, 0, 0, 10, [])), (10, (0, 0, 0, 3, 11, [])), (11, (16, 2, 14, 0, 25, [])), (17, (12, 0, 0, 0, 18, [])), (25, (2, 3, 0, 0, 26, [])), (26, (0, 0, 0, (-1), 27, [])), (27, (16, 0, 35, 0, 30, [])), (30, (2, 3, 0, 0, 31, [])), (31, (2, 2, 0, 0, 32, [])), (35, (4, 0, 0, 0, 36, [])), (36, (18, 11, 10, 0, 39, [])), (39, (2, 1, 0, 0, 40, [])), (40, (2, 2, 0, 0, 41, [])), (44, (5, 4, 0, 0, 46, [])), (46, (2, 3, 0, 0, 47, [])), (47, (0, 0, 0, (-1), 48, [])), (48, (16, 0, 51, 0, 54, [])), (51, (2, 4, 0, 0, 53, [])), (53, (27, 0, 0, 0, 54, [])), (54, (2, 4, 0, 0, 56, [])), (56, (17, 0, 59, 0, 70, [])), (62, (12, 0, 0, 0, 63, [])), (70, (4, 0, 0, 0, 71, [])), (71, (18, 11, 10, 0, 74, [])), (74, (18, 4, 5, 0, 77, [])), (77, (2, 3, 0, 0, 78, [])), (78, (20, 0, 0, 0, 79, [])), (79, (27, 0, 0, 0, 80, []))]
set_option maxRecDepth 100000 in
theorem K_X11_rests : ztbok F_X11_rests T_X11_rests := ztbB_ok (by decide +kernel)
set_option maxRecDepth 100000 in
theorem W_X11_rests : zMth yX11_rests (.code yX11_rests cX11_rests 5 (some .int)) 3 := ⟨z_at 1098 (by decide +kernel) (by decide +kernel), z_at 1 (by decide +kernel) (by decide +kernel), ⟨by decide +kernel, by decide +kernel⟩, by decide +kernel⟩
set_option maxRecDepth 100000 in
theorem I_X11_rests : Cond.instanceMethod yX11_rests ∈ zws := z_at 1096 (by decide +kernel) (by decide +kernel)
set_option maxRecDepth 100000 in
theorem S_X11_rests : Cond.selects yX11_rests.cls yX11_rests yX11_rests ∈ zws := z_at 1097 (by decide +kernel) (by decide +kernel)
abbrev F_X11_fewest : zF := (11, cX11_fewest, some .int, 3, [], false)
def T_X11_fewest : List (Nat × zI) := [(0, (2, 1, 0, 0, 1, [])), (1, (17, 1, 15, 0, 4, [])), (4, (2, 2, 0, 0, 5, [])), (5, (2, 1, 0, 0, 6, [])), (6, (16, 1, 15, 0, 9, [])), (9, (2, 2, 0, 0, 10, [])), (10, (0, 0, 0, 24, 12, [])), (12, (16, 1, 26, 0, 15, [])), (18, (12, 0, 0, 0, 19, [])), (26, (4, 0, 0, 0, 27, [])), (27, (18, 11, 11, 0, 30, [])), (30, (2, 1, 0, 0, 31, [])), (31, (2, 2, 0, 0, 32, [])), (35, (27, 0, 0, 0, 36, []))]
set_option maxRecDepth 100000 in
theorem K_X11_fewest : ztbok F_X11_fewest T_X11_fewest := ztbB_ok (by decide +kernel)
set_option maxRecDepth 100000 in
theorem W_X11_fewest : zMth yX11_fewest (.code yX11_fewest cX11_fewest 3 (some .int)) 2 := ⟨z_at 1126 (by decide +kernel) (by decide +kernel), z_at 1 (by decide +kernel) (by decide +kernel), ⟨by decide +kernel, by decide +kernel⟩, by decide +kernel⟩
set_option maxRecDepth 100000 in
theorem I_X11_fewest : Cond.instanceMethod yX11_fewest ∈ zws := z_at 1124 (by decide +kernel) (by decide +kernel)
set_option maxRecDepth 100000 in
theorem S_X11_fewest : Cond.selects yX11_fewest.cls yX11_fewest yX11_fewest ∈ zws := z_at 1125 (by decide +kernel) (by decide +kernel)
abbrev F_X11_lender : zF := (11, cX11_lender, some .int, 2, [], false)
def T_X11_lender : List (Nat × zI) := [(0, (4, 0, 0, 0, 1, [])), (1, (2, 1, 0, 0, 2, [])), (5, (4, 0, 0, 0, 6, [])), (6, (18, 11, 11, 0, 9, [])), (9, (18, 5, 9, 0, 12, [])), (12, (17, 0, 15, 0, 26, [])), (18, (12, 0, 0, 0, 19, [])), (26, (4, 0, 0, 0, 27, [])), (27, (18, 11, 11, 0, 30, [])), (30, (18, 5, 8, 0, 33, [])), (33, (2, 1, 0, 0, 34, [])), (34, (20, 0, 0, 0, 35, [])), (35, (27, 0, 0, 0, 36, []))]
set_option maxRecDepth 100000 in
theorem K_X11_lender : ztbok F_X11_lender T_X11_lender := ztbB_ok (by decide +kernel)
set_option maxRecDepth 100000 in
theorem W_X11_lender : zMth yX11_lender (.code yX11_lender cX11_lender 2 (some .int)) 1 := ⟨z_at 1173 (by decide +kernel) (by decide +kernel), z_at 1 (by decide +kernel) (by decide +kernel), ⟨by decide +kernel, by decide +kernel⟩, by decide +kernel⟩
set_option maxRecDepth 100000 in
theorem I_X11_lender : Cond.instanceMethod yX11_lender ∈ zws := z_at 1171 (by decide +kernel) (by decide +kernel)
set_option maxRecDepth 100000 in
theorem S_X11_lender : Cond.selects yX11_lender.cls yX11_lender yX11_lender ∈ zws := z_at 1172 (by decide +kernel) (by decide +kernel)
abbrev F_X11_kinds : zF := (11, cX11_kinds, some .int, 3, [], false)
def T_X11_kinds : List (Nat × zI) := [(0, (2, 1, 0, 0, 1, [])), (4, (2, 2, 0, 0, 5, [])), (8, (4, 0, 0, 0, 9, [])), (9, (18, 11, 12, 0, 12, [])), (12, (2, 2, 0, 0, 13, [])), (16, (4, 0, 0, 0, 17, [])), (17, (18, 11, 12, 0, 20, [])), (20, (2, 1, 0, 0, 21, [])), (24, (27, 0, 0, 0, 25, []))]
set_option maxRecDepth 100000 in
theorem K_X11_kinds : ztbok F_X11_kinds T_X11_kinds := ztbB_ok (by decide +kernel)
set_option maxRecDepth 100000 in
theorem W_X11_kinds : zMth yX11_kinds (.code yX11_kinds cX11_kinds 3 (some .int)) 2 := ⟨z_at 1181 (by decide +kernel) (by decide +kernel), z_at 1 (by decide +kernel) (by decide +kernel), ⟨by decide +kernel, by decide +kernel⟩, by decide +kernel⟩
set_option maxRecDepth 100000 in
theorem I_X11_kinds : Cond.instanceMethod yX11_kinds ∈ zws := z_at 1179 (by decide +kernel) (by decide +kernel)
set_option maxRecDepth 100000 in
theorem S_X11_kinds : Cond.selects yX11_kinds.cls yX11_kinds yX11_kinds ∈ zws := z_at 1180 (by decide +kernel) (by decide +kernel)
abbrev F_X11_word : zF := (11, cX11_word, some .int, 3, [], false)
def T_X11_word : List (Nat × zI) := [(0, (2, 1, 0, 0, 1, [])), (1, (0, 0, 0, 40, 3, [])), (6, (2, 2, 0, 0, 7, [])), (10, (4, 0, 0, 0, 11, [])), (11, (18, 11, 12, 0, 14, [])), (14, (2, 2, 0, 0, 15, [])), (18, (2, 1, 0, 0, 19, [])), (19, (4, 0, 0, 0, 20, [])), (20, (18, 11, 12, 0, 23, [])), (23, (18, 8, 1, 0, 26, [])), (26, (16, 1, 29, 0, 41, [])), (29, (4, 0, 0, 0, 30, [])), (30, (18, 11, 12, 0, 33, [])), (33, (18, 8, 0, 0, 36, [])), (36, (2, 1, 0, 0, 37, [])), (37, (20, 0, 0, 0, 38, [])), (38, (15, 0, 0, 0, 42, [])), (41, (0, 0, 0, (-1), 42, [])), (42, (27, 0, 0, 0, 43, []))]
set_option maxRecDepth 100000 in
theorem K_X11_word : ztbok F_X11_word T_X11_word := ztbB_ok (by decide +kernel)
set_option maxRecDepth 100000 in
theorem W_X11_word : zMth yX11_word (.code yX11_word cX11_word 3 (some .int)) 2 := ⟨z_at 1209 (by decide +kernel) (by decide +kernel), z_at 1 (by decide +kernel) (by decide +kernel), ⟨by decide +kernel, by decide +kernel⟩, by decide +kernel⟩
set_option maxRecDepth 100000 in
theorem I_X11_word : Cond.instanceMethod yX11_word ∈ zws := z_at 1207 (by decide +kernel) (by decide +kernel)
set_option maxRecDepth 100000 in
theorem S_X11_word : Cond.selects yX11_word.cls yX11_word yX11_word ∈ zws := z_at 1208 (by decide +kernel) (by decide +kernel)
abbrev F_X11_mend : zF := (11, cX11_mend, some .int, 4, [], false)
def T_X11_mend : List (Nat × zI) := [(0, (2, 2, 0, 0, 1, [])), (4, (2, 3, 0, 0, 5, [])), (8, (2, 1, 0, 0, 9, [])), (9, (17, 1, 19, 0, 12, [])), (12, (2, 1, 0, 0, 13, [])), (13, (0, 0, 0, 256, 16, [])), (16, (16, 1, 30, 0, 19, [])), (22, (12, 0, 0, 0, 23, [])), (30, (4, 0, 0, 0, 31, [])), (31, (18, 11, 12, 0, 34, [])), (34, (2, 3, 0, 0, 35, [])), (38, (4, 0, 0, 0, 39, [])), (39, (18, 11, 12, 0, 42, [])), (42, (18, 8, 1, 0, 45, [])), (45, (2, 2, 0, 0, 46, [])), (46, (16, 1, 49, 0, 60, [])), (52, (12, 0, 0, 0, 53, [])), (60, (4, 0, 0, 0, 61, [])), (61, (18, 11, 12, 0, 64, [])), (64, (2, 1, 0, 0, 65, [])), (65, (2, 2, 0, 0, 66, [])), (69, (27, 0, 0, 0, 70, []))]
set_option maxRecDepth 100000 in
theorem K_X11_mend : ztbok F_X11_mend T_X11_mend := ztbB_ok (by decide +kernel)
set_option maxRecDepth 100000 in
theorem W_X11_mend : zMth yX11_mend (.code yX11_mend cX11_mend 4 (some .int)) 3 := ⟨z_at 1216 (by decide +kernel) (by decide +kernel), z_at 1 (by decide +kernel) (by decide +kernel), ⟨by decide +kernel, by decide +kernel⟩, by decide +kernel⟩
set_option maxRecDepth 100000 in
theorem I_X11_mend : Cond.instanceMethod yX11_mend ∈ zws := z_at 1214 (by decide +kernel) (by decide +kernel)
set_option maxRecDepth 100000 in
theorem S_X11_mend : Cond.selects yX11_mend.cls yX11_mend yX11_mend ∈ zws := z_at 1215 (by decide +kernel) (by decide +kernel)
abbrev F_X11_fire : zF := (11, cX11_fire, some .long, 7, [], false)
def T_X11_fire : List (Nat × zI) := [(0, (4, 0, 0, 0, 1, [])), (1, (2, 1, 0, 0, 2, [])), (5, (4, 0, 0, 0, 6, [])), (6, (2, 2, 0, 0, 7, [])), (10, (2, 3, 0, 0, 11, [])), (14, (2, 5, 0, 0, 16, [])), (16, (0, 0, 0, 2, 17, [])), (20, (2, 4, 0, 0, 22, [])), (22, (17, 1, 32, 0, 25, [])), (25, (2, 4, 0, 0, 27, [])), (27, (0, 0, 0, 10, 29, [])), (29, (16, 2, 32, 0, 43, [])), (35, (12, 0, 0, 0, 36, [])), (43, (4, 0, 0, 0, 44, [])), (44, (18, 11, 4, 0, 47, [])), (47, (2, 1, 0, 0, 48, [])), (48, (2, 3, 0, 0, 49, [])), (52, (0, 0, 0, 1, 53, [])), (53, (16, 0, 58, 0, 56, [])), (56, (1, 1, 0, 0, 57, [])), (57, (28, 0, 0, 0, 58, [])), (58, (0, 0, 0, 2, 59, [])), (59, (2, 2, 0, 0, 60, [])), (60, (4, 0, 0, 0, 61, [])), (61, (18, 11, 1, 0, 64, [])), (64, (18, 6, 2, 0, 67, [])), (67, (2, 1, 0, 0, 68, [])), (68, (20, 0, 0, 0, 69, [])), (69, (9, 1, 0, 0, 70, [])), (76, (5, 6, 0, 0, 78, [])), (78, (2, 6, 0, 0, 80, [])), (80, (2, 4, 0, 0, 82, [])), (82, (2, 5, 0, 0, 84, [])), (87, (10, 0, 0, 0, 88, [])), (88, (28, 0, 0, 0, 89, []))]
set_option maxRecDepth 100000 in
theorem K_X11_fire : ztbok F_X11_fire T_X11_fire := ztbB_ok (by decide +kernel)
set_option maxRecDepth 100000 in
theorem W_X11_fire : zMth yX11_fire (.code yX11_fire cX11_fire 7 (some .long)) 5 := ⟨z_at 1229 (by decide +kernel) (by decide +kernel), z_at 1 (by decide +kernel) (by decide +kernel), ⟨by decide +kernel, by decide +kernel⟩, by decide +kernel⟩
set_option maxRecDepth 100000 in
theorem I_X11_fire : Cond.instanceMethod yX11_fire ∈ zws := z_at 1227 (by decide +kernel) (by decide +kernel)
set_option maxRecDepth 100000 in
theorem S_X11_fire : Cond.selects yX11_fire.cls yX11_fire yX11_fire ∈ zws := z_at 1228 (by decide +kernel) (by decide +kernel)
abbrev F_X11_image : zF := (11, cX11_image, none, 1, [], false)
def T_X11_image : List (Nat × zI) := [(0, (4, 0, 0, 0, 1, [])), (1, (18, 11, 5, 0, 4, [])), (4, (4, 0, 0, 0, 5, [])), (5, (18, 11, 4, 0, 8, [])), (11, (4, 0, 0, 0, 12, [])), (12, (0, 0, 0, 1, 13, [])), (13, (19, 11, 15, 0, 16, [])), (16, (29, 0, 0, 0, 17, []))]
set_option maxRecDepth 100000 in
theorem K_X11_image : ztbok F_X11_image T_X11_image := ztbB_ok (by decide +kernel)
set_option maxRecDepth 100000 in
theorem W_X11_image : zMth yX11_image (.code yX11_image cX11_image 1 (none)) 0 := ⟨z_at 527 (by decide +kernel) (by decide +kernel), z_at 1 (by decide +kernel) (by decide +kernel), ⟨by decide +kernel, by decide +kernel⟩, by decide +kernel⟩
set_option maxRecDepth 100000 in
theorem I_X11_image : Cond.instanceMethod yX11_image ∈ zws := z_at 525 (by decide +kernel) (by decide +kernel)
set_option maxRecDepth 100000 in
theorem S_X11_image : Cond.selects yX11_image.cls yX11_image yX11_image ∈ zws := z_at 526 (by decide +kernel) (by decide +kernel)
abbrev F_X11_restore : zF := (11, cX11_restore, some .boolean, 1, [], false)
def T_X11_restore : List (Nat × zI) := [(0, (4, 0, 0, 0, 1, [])), (1, (18, 11, 15, 0, 4, [])), (4, (17, 0, 7, 0, 9, [])), (7, (0, 0, 0, 0, 8, [])), (8, (27, 0, 0, 0, 9, [])), (9, (4, 0, 0, 0, 10, [])), (10, (18, 11, 4, 0, 13, [])), (13, (4, 0, 0, 0, 14, [])), (14, (18, 11, 5, 0, 17, [])), (20, (0, 0, 0, 1, 21, [])), (21, (27, 0, 0, 0, 22, []))]
set_option maxRecDepth 100000 in
theorem K_X11_restore : ztbok F_X11_restore T_X11_restore := ztbB_ok (by decide +kernel)
set_option maxRecDepth 100000 in
theorem W_X11_restore : zMth yX11_restore (.code yX11_restore cX11_restore 1 (some .boolean)) 0 := ⟨z_at 538 (by decide +kernel) (by decide +kernel), z_at 1 (by decide +kernel) (by decide +kernel), ⟨by decide +kernel, by decide +kernel⟩, by decide +kernel⟩
set_option maxRecDepth 100000 in
theorem I_X11_restore : Cond.instanceMethod yX11_restore ∈ zws := z_at 536 (by decide +kernel) (by decide +kernel)
set_option maxRecDepth 100000 in
theorem S_X11_restore : Cond.selects yX11_restore.cls yX11_restore yX11_restore ∈ zws := z_at 537 (by decide +kernel) (by decide +kernel)
abbrev F_X11_needRoom : zF := (11, cX11_needRoom, none, 2, [], false)
def T_X11_needRoom : List (Nat × zI) := [(0, (2, 1, 0, 0, 1, [])), (1, (17, 1, 15, 0, 4, [])), (4, (2, 1, 0, 0, 5, [])), (5, (4, 0, 0, 0, 6, [])), (6, (18, 11, 1, 0, 9, [])), (9, (18, 6, 7, 0, 12, [])), (12, (16, 1, 26, 0, 15, [])), (18, (12, 0, 0, 0, 19, [])), (26, (29, 0, 0, 0, 27, []))]
set_option maxRecDepth 100000 in
theorem K_X11_needRoom : ztbok F_X11_needRoom T_X11_needRoom := ztbB_ok (by decide +kernel)
set_option maxRecDepth 100000 in
theorem W_X11_needRoom : zMth yX11_needRoom (.code yX11_needRoom cX11_needRoom 2 (none)) 1 := ⟨z_at 825 (by decide +kernel) (by decide +kernel), z_at 1 (by decide +kernel) (by decide +kernel), ⟨by decide +kernel, by decide +kernel⟩, by decide +kernel⟩
set_option maxRecDepth 100000 in
theorem I_X11_needRoom : Cond.instanceMethod yX11_needRoom ∈ zws := z_at 824 (by decide +kernel) (by decide +kernel)
set_option maxRecDepth 100000 in
theorem S_X11_needRoom : Cond.selects yX11_needRoom.cls yX11_needRoom yX11_needRoom ∈ zws := z_in (List.mem_append_left _ (List.mem_map.mpr ⟨_, List.mem_of_getElem? (i := 23) rfl, rfl⟩)) rfl
abbrev F_X11_needLodger : zF := (11, cX11_needLodger, none, 2, [], false)
def T_X11_needLodger : List (Nat × zI) := [(0, (2, 1, 0, 0, 1, [])), (1, (17, 1, 15, 0, 4, [])), (4, (2, 1, 0, 0, 5, [])), (5, (4, 0, 0, 0, 6, [])), (6, (18, 11, 1, 0, 9, [])), (9, (18, 6, 8, 0, 12, [])), (12, (16, 1, 26, 0, 15, [])), (18, (12, 0, 0, 0, 19, [])), (26, (29, 0, 0, 0, 27, []))]
set_option maxRecDepth 100000 in
theorem K_X11_needLodger : ztbok F_X11_needLodger T_X11_needLodger := ztbB_ok (by decide +kernel)
set_option maxRecDepth 100000 in
theorem W_X11_needLodger : zMth yX11_needLodger (.code yX11_needLodger cX11_needLodger 2 (none)) 1 := ⟨z_at 841 (by decide +kernel) (by decide +kernel), z_at 1 (by decide +kernel) (by decide +kernel), ⟨by decide +kernel, by decide +kernel⟩, by decide +kernel⟩
set_option maxRecDepth 100000 in
theorem I_X11_needLodger : Cond.instanceMethod yX11_needLodger ∈ zws := z_at 840 (by decide +kernel) (by decide +kernel)
set_option maxRecDepth 100000 in
theorem S_X11_needLodger : Cond.selects yX11_needLodger.cls yX11_needLodger yX11_needLodger ∈ zws := z_in (List.mem_append_left _ (List.mem_map.mpr ⟨_, List.mem_of_getElem? (i := 24) rfl, rfl⟩)) rfl
abbrev F_X11_needHour : zF := (11, cX11_needHour, none, 1, [], false)
def T_X11_needHour : List (Nat × zI) := [(0, (2, 0, 0, 0, 1, [])), (1, (17, 1, 10, 0, 4, [])), (4, (2, 0, 0, 0, 5, [])), (5, (0, 0, 0, 24, 7, [])), (7, (16, 1, 21, 0, 10, [])), (13, (12, 0, 0, 0, 14, [])), (21, (29, 0, 0, 0, 22, []))]
set_option maxRecDepth 100000 in
theorem K_X11_needHour : ztbok F_X11_needHour T_X11_needHour := ztbB_ok (by decide +kernel)
set_option maxRecDepth 100000 in
theorem W_X11_needHour : zMth yX11_needHour (.code yX11_needHour cX11_needHour 1 (none)) 1 := ⟨z_at 856 (by decide +kernel) (by decide +kernel), z_at 1 (by decide +kernel) (by decide +kernel), ⟨by decide +kernel, by decide +kernel⟩, by decide +kernel⟩
set_option maxRecDepth 100000 in
theorem I_X11_needHour : Cond.static yX11_needHour ∈ zws := z_at 855 (by decide +kernel) (by decide +kernel)
abbrev F_X11_needOneOf : zF := (11, cX11_needOneOf, none, 2, [], false)
def T_X11_needOneOf : List (Nat × zI) := [(0, (2, 0, 0, 0, 1, [])), (1, (17, 1, 9, 0, 4, [])), (4, (2, 0, 0, 0, 5, [])), (5, (2, 1, 0, 0, 6, [])), (6, (16, 1, 20, 0, 9, [])), (12, (12, 0, 0, 0, 13, [])), (20, (29, 0, 0, 0, 21, []))]
set_option maxRecDepth 100000 in
theorem K_X11_needOneOf : ztbok F_X11_needOneOf T_X11_needOneOf := ztbB_ok (by decide +kernel)
set_option maxRecDepth 100000 in
theorem W_X11_needOneOf : zMth yX11_needOneOf (.code yX11_needOneOf cX11_needOneOf 2 (none)) 2 := ⟨z_at 829 (by decide +kernel) (by decide +kernel), z_at 1 (by decide +kernel) (by decide +kernel), ⟨by decide +kernel, by decide +kernel⟩, by decide +kernel⟩
set_option maxRecDepth 100000 in
theorem I_X11_needOneOf : Cond.static yX11_needOneOf ∈ zws := z_at 828 (by decide +kernel) (by decide +kernel)
abbrev F_X11_needWordCount : zF := (11, cX11_needWordCount, none, 1, [], false)
def T_X11_needWordCount : List (Nat × zI) := [(0, (2, 0, 0, 0, 1, [])), (1, (0, 0, 0, 1, 2, [])), (2, (16, 1, 11, 0, 5, [])), (5, (2, 0, 0, 0, 6, [])), (6, (0, 0, 0, 40, 8, [])), (8, (16, 2, 11, 0, 22, [])), (14, (12, 0, 0, 0, 15, [])), (22, (29, 0, 0, 0, 23, []))]
set_option maxRecDepth 100000 in
theorem K_X11_needWordCount : ztbok F_X11_needWordCount T_X11_needWordCount := ztbB_ok (by decide +kernel)
set_option maxRecDepth 100000 in
theorem W_X11_needWordCount : zMth yX11_needWordCount (.code yX11_needWordCount cX11_needWordCount 1 (none)) 1 := ⟨z_at 1184 (by decide +kernel) (by decide +kernel), z_at 1 (by decide +kernel) (by decide +kernel), ⟨by decide +kernel, by decide +kernel⟩, by decide +kernel⟩
set_option maxRecDepth 100000 in
theorem I_X11_needWordCount : Cond.static yX11_needWordCount ∈ zws := z_at 1183 (by decide +kernel) (by decide +kernel)
abbrev F_X11_needApart : zF := (11, cX11_needApart, none, 1, [], false)
def T_X11_needApart : List (Nat × zI) := [(0, (2, 0, 0, 0, 1, [])), (1, (0, 0, 0, 1, 2, [])), (2, (16, 1, 10, 0, 5, [])), (5, (2, 0, 0, 0, 6, [])), (6, (0, 0, 0, 3, 7, [])), (7, (16, 2, 10, 0, 21, [])), (13, (12, 0, 0, 0, 14, [])), (21, (29, 0, 0, 0, 22, []))]
set_option maxRecDepth 100000 in
theorem K_X11_needApart : ztbok F_X11_needApart T_X11_needApart := ztbB_ok (by decide +kernel)
set_option maxRecDepth 100000 in
theorem W_X11_needApart : zMth yX11_needApart (.code yX11_needApart cX11_needApart 1 (none)) 1 := ⟨z_at 1188 (by decide +kernel) (by decide +kernel), z_at 1 (by decide +kernel) (by decide +kernel), ⟨by decide +kernel, by decide +kernel⟩, by decide +kernel⟩
set_option maxRecDepth 100000 in
theorem I_X11_needApart : Cond.static yX11_needApart ∈ zws := z_at 1187 (by decide +kernel) (by decide +kernel)
abbrev F_X11_hourOfTheft : zF := (11, cX11_hourOfTheft, some .int, 3, [], false)
def T_X11_hourOfTheft : List (Nat × zI) := [(0, (4, 0, 0, 0, 1, [])), (1, (18, 11, 1, 0, 4, [])), (4, (18, 6, 0, 0, 7, [])), (7, (2, 1, 0, 0, 8, [])), (8, (20, 0, 0, 0, 9, [])), (9, (17, 0, 12, 0, 14, [])), (12, (0, 0, 0, (-1), 13, [])), (13, (27, 0, 0, 0, 14, [])), (14, (0, 0, 0, 0, 15, [])), (15, (5, 2, 0, 0, 16, [])), (16, (2, 2, 0, 0, 17, [])), (17, (0, 0, 0, 24, 19, [])), (19, (16, 1, 22, 0, 52, [])), (22, (4, 0, 0, 0, 23, [])), (23, (18, 11, 6, 0, 26, [])), (26, (2, 1, 0, 0, 27, [])), (27, (2, 2, 0, 0, 28, [])), (31, (17, 0, 34, 0, 46, [])), (34, (4, 0, 0, 0, 35, [])), (35, (2, 1, 0, 0, 36, [])), (36, (2, 2, 0, 0, 37, [])), (40, (0, 0, 0, (-1), 41, [])), (41, (16, 0, 46, 0, 44, [])), (44, (2, 2, 0, 0, 45, [])), (45, (27, 0, 0, 0, 46, [])), (46, (8, 2, 0, 1, 49, [])), (49, (15, 0, 0, 0, 16, [])), (52, (0, 0, 0, (-1), 53, [])), (53, (27, 0, 0, 0, 54, []))]
set_option maxRecDepth 100000 in
theorem K_X11_hourOfTheft : ztbok F_X11_hourOfTheft T_X11_hourOfTheft := ztbB_ok (by decide +kernel)
set_option maxRecDepth 100000 in
theorem W_X11_hourOfTheft : zMth yX11_hourOfTheft (.code yX11_hourOfTheft cX11_hourOfTheft 3 (some .int)) 1 := ⟨z_at 933 (by decide +kernel) (by decide +kernel), z_at 1 (by decide +kernel) (by decide +kernel), ⟨by decide +kernel, by decide +kernel⟩, by decide +kernel⟩
set_option maxRecDepth 100000 in
theorem I_X11_hourOfTheft : Cond.instanceMethod yX11_hourOfTheft ∈ zws := z_at 932 (by decide +kernel) (by decide +kernel)
set_option maxRecDepth 100000 in
theorem S_X11_hourOfTheft : Cond.selects yX11_hourOfTheft.cls yX11_hourOfTheft yX11_hourOfTheft ∈ zws := z_in (List.mem_append_left _ (List.mem_map.mpr ⟨_, List.mem_of_getElem? (i := 25) rfl, rfl⟩)) rfl
abbrev F_X11_finderAt : zF := (11, cX11_finderAt, some .int, 4, [], false)
def T_X11_finderAt : List (Nat × zI) := [(0, (0, 0, 0, 0, 1, [])), (1, (5, 3, 0, 0, 2, [])), (2, (2, 3, 0, 0, 3, [])), (3, (4, 0, 0, 0, 4, [])), (4, (18, 11, 1, 0, 7, [])), (7, (18, 6, 9, 0, 10, [])), (10, (16, 1, 13, 0, 39, [])), (13, (4, 0, 0, 0, 14, [])), (14, (18, 11, 4, 0, 17, [])), (17, (18, 0, 5, 0, 20, [])), (20, (2, 3, 0, 0, 21, [])), (21, (0, 0, 0, 24, 23, [])), (23, (9, 2, 0, 0, 24, [])), (24, (2, 2, 0, 0, 25, [])), (25, (9, 0, 0, 0, 26, [])), (26, (20, 0, 0, 0, 27, [])), (27, (2, 1, 0, 0, 28, [])), (28, (16, 0, 31, 0, 33, [])), (31, (2, 3, 0, 0, 32, [])), (32, (27, 0, 0, 0, 33, [])), (33, (8, 3, 0, 1, 36, [])), (36, (15, 0, 0, 0, 2, [])), (39, (0, 0, 0, (-1), 40, [])), (40, (27, 0, 0, 0, 41, []))]
set_option maxRecDepth 100000 in
theorem K_X11_finderAt : ztbok F_X11_finderAt T_X11_finderAt := ztbB_ok (by decide +kernel)
set_option maxRecDepth 100000 in
theorem W_X11_finderAt : zMth yX11_finderAt (.code yX11_finderAt cX11_finderAt 4 (some .int)) 2 := ⟨z_at 937 (by decide +kernel) (by decide +kernel), z_at 1 (by decide +kernel) (by decide +kernel), ⟨by decide +kernel, by decide +kernel⟩, by decide +kernel⟩
set_option maxRecDepth 100000 in
theorem I_X11_finderAt : Cond.instanceMethod yX11_finderAt ∈ zws := z_at 936 (by decide +kernel) (by decide +kernel)
set_option maxRecDepth 100000 in
theorem S_X11_finderAt : Cond.selects yX11_finderAt.cls yX11_finderAt yX11_finderAt ∈ zws := z_in (List.mem_append_left _ (List.mem_map.mpr ⟨_, List.mem_of_getElem? (i := 26) rfl, rfl⟩)) rfl
abbrev F_X11_partOfEscape : zF := (11, cX11_partOfEscape, some .int, 7, [], false)
def T_X11_partOfEscape : List (Nat × zI) := [(0, (0, 0, 0, 1, 1, [])), (1, (5, 3, 0, 0, 2, [])), (2, (0, 0, 0, 1, 3, [])), (3, (5, 4, 0, 0, 5, [])), (5, (0, 0, 0, 0, 6, [])), (6, (5, 5, 0, 0, 8, [])), (8, (2, 5, 0, 0, 10, [])), (10, (2, 0, 0, 0, 11, [])), (11, (16, 1, 14, 0, 34, [])), (14, (2, 3, 0, 0, 15, [])), (15, (0, 0, 0, 10, 17, [])), (17, (9, 2, 0, 0, 18, [])), (18, (5, 3, 0, 0, 19, [])), (19, (2, 4, 0, 0, 21, [])), (21, (0, 0, 0, 10, 23, [])), (23, (2, 1, 0, 0, 24, [])), (24, (9, 1, 0, 0, 25, [])), (25, (9, 2, 0, 0, 26, [])), (26, (5, 4, 0, 0, 28, [])), (28, (8, 5, 0, 1, 31, [])), (31, (15, 0, 0, 0, 8, [])), (34, (2, 3, 0, 0, 35, [])), (35, (2, 4, 0, 0, 37, [])), (37, (9, 1, 0, 0, 38, [])), (38, (5, 5, 0, 0, 40, [])), (40, (2, 5, 0, 0, 42, [])), (42, (2, 3, 0, 0, 43, [])), (46, (5, 6, 0, 0, 48, [])), (48, (2, 6, 0, 0, 50, [])), (50, (0, 0, 0, 1, 51, [])), (51, (16, 1, 54, 0, 56, [])), (54, (0, 0, 0, (-1), 55, [])), (55, (27, 0, 0, 0, 56, [])), (56, (2, 2, 0, 0, 57, [])), (57, (17, 0, 60, 0, 68, [])), (60, (2, 5, 0, 0, 62, [])), (62, (2, 6, 0, 0, 64, [])), (64, (9, 9, 0, 0, 65, [])), (65, (15, 0, 0, 0, 72, [])), (68, (2, 3, 0, 0, 69, [])), (69, (2, 6, 0, 0, 71, [])), (71, (9, 9, 0, 0, 72, [])), (72, (27, 0, 0, 0, 73, []))]
set_option maxRecDepth 100000 in
theorem K_X11_partOfEscape : ztbok F_X11_partOfEscape T_X11_partOfEscape := ztbB_ok (by decide +kernel)
set_option maxRecDepth 100000 in
theorem W_X11_partOfEscape : zMth yX11_partOfEscape (.code yX11_partOfEscape cX11_partOfEscape 7 (some .int)) 3 := ⟨z_at 1237 (by decide +kernel) (by decide +kernel), z_at 1 (by decide +kernel) (by decide +kernel), ⟨by decide +kernel, by decide +kernel⟩, by decide +kernel⟩
set_option maxRecDepth 100000 in
theorem I_X11_partOfEscape : Cond.static yX11_partOfEscape ∈ zws := z_at 1236 (by decide +kernel) (by decide +kernel)
abbrev F_X11_commonPart : zF := (11, cX11_commonPart, some .int, 3, [], false)
def T_X11_commonPart : List (Nat × zI) := [(0, (2, 1, 0, 0, 1, [])), (1, (5, 2, 0, 0, 2, [])), (2, (2, 2, 0, 0, 3, [])), (3, (0, 0, 0, 1, 4, [])), (4, (16, 2, 7, 0, 27, [])), (7, (2, 0, 0, 0, 8, [])), (8, (2, 2, 0, 0, 9, [])), (9, (9, 10, 0, 0, 10, [])), (10, (17, 0, 13, 0, 21, [])), (13, (2, 1, 0, 0, 14, [])), (14, (2, 2, 0, 0, 15, [])), (15, (9, 10, 0, 0, 16, [])), (16, (17, 0, 19, 0, 21, [])), (19, (2, 2, 0, 0, 20, [])), (20, (27, 0, 0, 0, 21, [])), (21, (8, 2, 0, (-1), 24, [])), (24, (15, 0, 0, 0, 2, [])), (27, (0, 0, 0, 1, 28, [])), (28, (27, 0, 0, 0, 29, []))]
set_option maxRecDepth 100000 in
theorem K_X11_commonPart : ztbok F_X11_commonPart T_X11_commonPart := ztbB_ok (by decide +kernel)
set_option maxRecDepth 100000 in
theorem W_X11_commonPart : zMth yX11_commonPart (.code yX11_commonPart cX11_commonPart 3 (some .int)) 2 := ⟨z_at 1240 (by decide +kernel) (by decide +kernel), z_at 1 (by decide +kernel) (by decide +kernel), ⟨by decide +kernel, by decide +kernel⟩, by decide +kernel⟩
set_option maxRecDepth 100000 in
theorem I_X11_commonPart : Cond.static yX11_commonPart ∈ zws := z_at 1239 (by decide +kernel) (by decide +kernel)
abbrev F_X11_nthBit : zF := (11, cX11_nthBit, some .int, 4, [], false)
def T_X11_nthBit : List (Nat × zI) := [(0, (0, 0, 0, 0, 1, [])), (1, (5, 2, 0, 0, 2, [])), (2, (0, 0, 0, 0, 3, [])), (3, (5, 3, 0, 0, 4, [])), (4, (2, 3, 0, 0, 5, [])), (5, (0, 0, 0, 32, 7, [])), (7, (16, 1, 10, 0, 35, [])), (10, (2, 0, 0, 0, 11, [])), (11, (2, 3, 0, 0, 12, [])), (12, (9, 8, 0, 0, 13, [])), (13, (0, 0, 0, 1, 14, [])), (14, (9, 3, 0, 0, 15, [])), (15, (0, 0, 0, 1, 16, [])), (16, (16, 0, 19, 0, 29, [])), (19, (2, 2, 0, 0, 20, [])), (20, (2, 1, 0, 0, 21, [])), (21, (16, 0, 24, 0, 26, [])), (24, (2, 3, 0, 0, 25, [])), (25, (27, 0, 0, 0, 26, [])), (26, (8, 2, 0, 1, 29, [])), (29, (8, 3, 0, 1, 32, [])), (32, (15, 0, 0, 0, 4, [])), (35, (0, 0, 0, (-1), 36, [])), (36, (27, 0, 0, 0, 37, []))]
set_option maxRecDepth 100000 in
theorem K_X11_nthBit : ztbok F_X11_nthBit T_X11_nthBit := ztbB_ok (by decide +kernel)
set_option maxRecDepth 100000 in
theorem W_X11_nthBit : zMth yX11_nthBit (.code yX11_nthBit cX11_nthBit 4 (some .int)) 2 := ⟨z_at 477 (by decide +kernel) (by decide +kernel), z_at 1 (by decide +kernel) (by decide +kernel), ⟨by decide +kernel, by decide +kernel⟩, by decide +kernel⟩
set_option maxRecDepth 100000 in
theorem I_X11_nthBit : Cond.static yX11_nthBit ∈ zws := z_at 476 (by decide +kernel) (by decide +kernel)
