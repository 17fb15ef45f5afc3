/-! the house: the model reads a line -/
def B_X12_line : List (Nat × zC) := [(3, (0, 0, 1, 2, 0, 0, 12)), (20, (0, 1, 1, 0, 0, 0, 12)), (24, (0, 2, 0, 0, 0, 0, 12)), (32, (0, 3, 0, 1, 0, 0, 12)), (47, (0, 4, 2, 2, 0, 0, 12)), (62, (0, 2, 0, 0, 0, 0, 12)), (84, (0, 0, 1, 2, 0, 0, 12)), (91, (0, 5, 0, 3, 0, 0, 12)), (100, (0, 0, 1, 2, 0, 0, 12)), (116, (0, 1, 1, 0, 0, 0, 12)), (120, (0, 2, 0, 0, 0, 0, 12)), (128, (0, 3, 0, 1, 0, 0, 12)), (144, (0, 6, 1, 2, 0, 0, 12)), (149, (0, 2, 0, 0, 0, 0, 12)), (171, (0, 0, 1, 2, 0, 0, 12)), (178, (0, 7, 0, 4, 0, 0, 12)), (187, (0, 0, 1, 2, 0, 0, 12)), (194, (0, 3, 0, 1, 0, 0, 12)), (200, (0, 8, 2, 3, 0, 0, 12)), (223, (0, 1, 1, 0, 0, 0, 12)), (237, (0, 9, 1, 2, 0, 0, 12)), (241, (0, 2, 0, 0, 0, 0, 12)), (251, (0, 8, 2, 3, 0, 0, 12)), (270, (0, 9, 1, 2, 0, 0, 12)), (274, (0, 2, 0, 0, 0, 0, 12)), (306, (0, 1, 1, 0, 0, 0, 12)), (323, (0, 9, 1, 2, 0, 0, 12))]
def O_X12_line : zO := fun j a S K => match j with
  | 0 => wp_X12_is a S K
  | 1 => wp_X12_wrong a S K
  | 2 => wp_X12_isGood a S K
  | 3 => wp_X12_steps a S K
  | 4 => wp_X12_number a S K
  | 5 => wp_X12_readsLodger a S K
  | 6 => wp_X12_among a S K
  | 7 => wp_X12_readsMay a S K
  | 8 => wp_X12_oneOf a S K
  | 9 => wp_X12_need a S K
  | _ => False
theorem E_X12_line (l : Launch) : ∀ q ∈ B_X12_line, zcok l O_X12_line F_X12_line q.1 q.2 := List.forall_mem_cons.mpr ⟨⟨203, yX12_is, cX12_is, 2, some .boolean, by decide +kernel, C_12_203, W_X12_is, I_X12_is, S_X12_is, rfl, rfl, R_X12_is l⟩, List.forall_mem_cons.mpr ⟨⟨197, yX12_wrong, cX12_wrong, 2, none, by decide +kernel, C_12_197, W_X12_wrong, I_X12_wrong, S_X12_wrong, rfl, rfl, R_X12_wrong l⟩, List.forall_mem_cons.mpr ⟨⟨190, yX12_isGood, cX12_isGood, 1, some .boolean, by decide +kernel, C_12_190, W_X12_isGood, I_X12_isGood, S_X12_isGood, rfl, rfl, R_X12_isGood l⟩, List.forall_mem_cons.mpr ⟨⟨194, yX12_steps, cX12_steps, 2, none, by decide +kernel, C_12_194, W_X12_steps, I_X12_steps, S_X12_steps, rfl, rfl, R_X12_steps l⟩, List.forall_mem_cons.mpr ⟨⟨226, yX12_number, cX12_number, 4, some .int, by decide +kernel, C_12_226, W_X12_number, I_X12_number, S_X12_number, rfl, rfl, R_X12_number l⟩, List.forall_mem_cons.mpr ⟨⟨190, yX12_isGood, cX12_isGood, 1, some .boolean, by decide +kernel, C_12_190, W_X12_isGood, I_X12_isGood, S_X12_isGood, rfl, rfl, R_X12_isGood l⟩, List.forall_mem_cons.mpr ⟨⟨203, yX12_is, cX12_is, 2, some .boolean, by decide +kernel, C_12_203, W_X12_is, I_X12_is, S_X12_is, rfl, rfl, R_X12_is l⟩, List.forall_mem_cons.mpr ⟨⟨229, yX12_readsLodger, cX12_readsLodger, 4, none, by decide +kernel, C_12_229, W_X12_readsLodger, I_X12_readsLodger, S_X12_readsLodger, rfl, rfl, R_X12_readsLodger l⟩, List.forall_mem_cons.mpr ⟨⟨203, yX12_is, cX12_is, 2, some .boolean, by decide +kernel, C_12_203, W_X12_is, I_X12_is, S_X12_is, rfl, rfl, R_X12_is l⟩, List.forall_mem_cons.mpr ⟨⟨197, yX12_wrong, cX12_wrong, 2, none, by decide +kernel, C_12_197, W_X12_wrong, I_X12_wrong, S_X12_wrong, rfl, rfl, R_X12_wrong l⟩, List.forall_mem_cons.mpr ⟨⟨190, yX12_isGood, cX12_isGood, 1, some .boolean, by decide +kernel, C_12_190, W_X12_isGood, I_X12_isGood, S_X12_isGood, rfl, rfl, R_X12_isGood l⟩, List.forall_mem_cons.mpr ⟨⟨194, yX12_steps, cX12_steps, 2, none, by decide +kernel, C_12_194, W_X12_steps, I_X12_steps, S_X12_steps, rfl, rfl, R_X12_steps l⟩, List.forall_mem_cons.mpr ⟨⟨215, yX12_among, cX12_among, 3, some .int, by decide +kernel, C_12_215, W_X12_among, I_X12_among, S_X12_among, rfl, rfl, R_X12_among l⟩, List.forall_mem_cons.mpr ⟨⟨190, yX12_isGood, cX12_isGood, 1, some .boolean, by decide +kernel, C_12_190, W_X12_isGood, I_X12_isGood, S_X12_isGood, rfl, rfl, R_X12_isGood l⟩, List.forall_mem_cons.mpr ⟨⟨203, yX12_is, cX12_is, 2, some .boolean, by decide +kernel, C_12_203, W_X12_is, I_X12_is, S_X12_is, rfl, rfl, R_X12_is l⟩, List.forall_mem_cons.mpr ⟨⟨235, yX12_readsMay, cX12_readsMay, 7, none, by decide +kernel, C_12_235, W_X12_readsMay, I_X12_readsMay, S_X12_readsMay, rfl, rfl, R_X12_readsMay l⟩, List.forall_mem_cons.mpr ⟨⟨203, yX12_is, cX12_is, 2, some .boolean, by decide +kernel, C_12_203, W_X12_is, I_X12_is, S_X12_is, rfl, rfl, R_X12_is l⟩, List.forall_mem_cons.mpr ⟨⟨194, yX12_steps, cX12_steps, 2, none, by decide +kernel, C_12_194, W_X12_steps, I_X12_steps, S_X12_steps, rfl, rfl, R_X12_steps l⟩, List.forall_mem_cons.mpr ⟨⟨218, yX12_oneOf, cX12_oneOf, 4, some .int, by decide +kernel, C_12_218, W_X12_oneOf, I_X12_oneOf, S_X12_oneOf, rfl, rfl, R_X12_oneOf l⟩, List.forall_mem_cons.mpr ⟨⟨197, yX12_wrong, cX12_wrong, 2, none, by decide +kernel, C_12_197, W_X12_wrong, I_X12_wrong, S_X12_wrong, rfl, rfl, R_X12_wrong l⟩, List.forall_mem_cons.mpr ⟨⟨222, yX12_need, cX12_need, 2, none, by decide +kernel, C_12_222, W_X12_need, I_X12_need, S_X12_need, rfl, rfl, R_X12_need l⟩, List.forall_mem_cons.mpr ⟨⟨190, yX12_isGood, cX12_isGood, 1, some .boolean, by decide +kernel, C_12_190, W_X12_isGood, I_X12_isGood, S_X12_isGood, rfl, rfl, R_X12_isGood l⟩, List.forall_mem_cons.mpr ⟨⟨218, yX12_oneOf, cX12_oneOf, 4, some .int, by decide +kernel, C_12_218, W_X12_oneOf, I_X12_oneOf, S_X12_oneOf, rfl, rfl, R_X12_oneOf l⟩, List.forall_mem_cons.mpr ⟨⟨222, yX12_need, cX12_need, 2, none, by decide +kernel, C_12_222, W_X12_need, I_X12_need, S_X12_need, rfl, rfl, R_X12_need l⟩, List.forall_mem_cons.mpr ⟨⟨190, yX12_isGood, cX12_isGood, 1, some .boolean, by decide +kernel, C_12_190, W_X12_isGood, I_X12_isGood, S_X12_isGood, rfl, rfl, R_X12_isGood l⟩, List.forall_mem_cons.mpr ⟨⟨197, yX12_wrong, cX12_wrong, 2, none, by decide +kernel, C_12_197, W_X12_wrong, I_X12_wrong, S_X12_wrong, rfl, rfl, R_X12_wrong l⟩, List.forall_mem_cons.mpr ⟨⟨222, yX12_need, cX12_need, 2, none, by decide +kernel, C_12_222, W_X12_need, I_X12_need, S_X12_need, rfl, rfl, R_X12_need l⟩, fun _ h => by cases h⟩⟩⟩⟩⟩⟩⟩⟩⟩⟩⟩⟩⟩⟩⟩⟩⟩⟩⟩⟩⟩⟩⟩⟩⟩⟩⟩
def U_X12_line : List (Nat × zE) := [(0, Sum.inl (4, 0, 0, 0, 1, [])), (1, Sum.inl (0, 0, 0, 9, 3, [])), (3, Sum.inr (0, 0, 1, 2, 0, 0, 12)), (6, Sum.inl (17, 0, 81, 0, 9, [])), (9, Sum.inl (4, 0, 0, 0, 10, [])), (10, Sum.inl (18, 12, 24, 0, 13, [])), (13, Sum.inl (0, 0, 0, 8, 15, [])), (15, Sum.inl (16, 0, 18, 0, 23, [])), (18, Sum.inl (4, 0, 0, 0, 19, [])), (19, Sum.inl (0, 0, 0, 2, 20, [])), (20, Sum.inr (0, 1, 1, 0, 0, 0, 12)), (23, Sum.inl (4, 0, 0, 0, 24, [])), (24, Sum.inr (0, 2, 0, 0, 0, 0, 12)), (27, Sum.inl (17, 0, 30, 0, 31, [])), (30, Sum.inl (29, 0, 0, 0, 31, [])), (31, Sum.inl (4, 0, 0, 0, 32, [])), (32, Sum.inr (0, 3, 0, 1, 0, 0, 12)), (35, Sum.inl (4, 0, 0, 0, 36, [])), (36, Sum.inl (18, 12, 29, 0, 39, [])), (39, Sum.inl (4, 0, 0, 0, 40, [])), (40, Sum.inl (18, 12, 24, 0, 43, [])), (43, Sum.inl (4, 0, 0, 0, 44, [])), (44, Sum.inl (0, 0, 0, 0, 45, [])), (45, Sum.inl (0, 0, 0, 99, 47, [])), (47, Sum.inr (0, 4, 2, 2, 0, 0, 12)), (50, Sum.inl (21, 0, 0, 0, 51, [])), (51, Sum.inl (4, 0, 0, 0, 52, [])), (52, Sum.inl (18, 12, 30, 0, 55, [])), (55, Sum.inl (4, 0, 0, 0, 56, [])), (56, Sum.inl (18, 12, 24, 0, 59, [])), (59, Sum.inl (0, 0, 0, (-1), 60, [])), (60, Sum.inl (21, 0, 0, 0, 61, [])), (61, Sum.inl (4, 0, 0, 0, 62, [])), (62, Sum.inr (0, 2, 0, 0, 0, 0, 12)), (65, Sum.inl (17, 0, 309, 0, 68, [])), (68, Sum.inl (4, 0, 0, 0, 69, [])), (69, Sum.inl (12, 0, 0, 0, 70, [])), (70, Sum.inl (18, 12, 24, 0, 73, [])), (73, Sum.inl (0, 0, 0, 1, 74, [])), (74, Sum.inl (9, 0, 0, 0, 75, [])), (75, Sum.inl (19, 12, 24, 0, 78, [])), (78, Sum.inl (15, 0, 0, 0, 309, [])), (81, Sum.inl (4, 0, 0, 0, 82, [])), (82, Sum.inl (0, 0, 0, 10, 84, [])), (84, Sum.inr (0, 0, 1, 2, 0, 0, 12)), (87, Sum.inl (17, 0, 97, 0, 90, [])), (90, Sum.inl (4, 0, 0, 0, 91, [])), (91, Sum.inr (0, 5, 0, 3, 0, 0, 12)), (94, Sum.inl (15, 0, 0, 0, 309, [])), (97, Sum.inl (4, 0, 0, 0, 98, [])), (98, Sum.inl (0, 0, 0, 11, 100, [])), (100, Sum.inr (0, 0, 1, 2, 0, 0, 12)), (103, Sum.inl (17, 0, 168, 0, 106, [])), (106, Sum.inl (4, 0, 0, 0, 107, [])), (107, Sum.inl (18, 12, 26, 0, 110, [])), (110, Sum.inl (0, 0, 0, 3, 111, [])), (111, Sum.inl (16, 0, 114, 0, 119, [])), (114, Sum.inl (4, 0, 0, 0, 115, [])), (115, Sum.inl (0, 0, 0, 2, 116, [])), (116, Sum.inr (0, 1, 1, 0, 0, 0, 12)), (119, Sum.inl (4, 0, 0, 0, 120, [])), (120, Sum.inr (0, 2, 0, 0, 0, 0, 12)), (123, Sum.inl (17, 0, 126, 0, 127, [])), (126, Sum.inl (29, 0, 0, 0, 127, [])), (127, Sum.inl (4, 0, 0, 0, 128, [])), (128, Sum.inr (0, 3, 0, 1, 0, 0, 12)), (131, Sum.inl (4, 0, 0, 0, 132, [])), (132, Sum.inl (18, 12, 33, 0, 135, [])), (135, Sum.inl (4, 0, 0, 0, 136, [])), (136, Sum.inl (18, 12, 26, 0, 139, [])), (139, Sum.inl (4, 0, 0, 0, 140, [])), (140, Sum.inl (4, 0, 0, 0, 141, [])), (141, Sum.inl (18, 12, 24, 0, 144, [])), (144, Sum.inr (0, 6, 1, 2, 0, 0, 12)), (147, Sum.inl (21, 0, 0, 0, 148, [])), (148, Sum.inl (4, 0, 0, 0, 149, [])), (149, Sum.inr (0, 2, 0, 0, 0, 0, 12)), (152, Sum.inl (17, 0, 309, 0, 155, [])), (155, Sum.inl (4, 0, 0, 0, 156, [])), (156, Sum.inl (12, 0, 0, 0, 157, [])), (157, Sum.inl (18, 12, 26, 0, 160, [])), (160, Sum.inl (0, 0, 0, 1, 161, [])), (161, Sum.inl (9, 0, 0, 0, 162, [])), (162, Sum.inl (19, 12, 26, 0, 165, [])), (165, Sum.inl (15, 0, 0, 0, 309, [])), (168, Sum.inl (4, 0, 0, 0, 169, [])), (169, Sum.inl (0, 0, 0, 12, 171, [])), (171, Sum.inr (0, 0, 1, 2, 0, 0, 12)), (174, Sum.inl (17, 0, 184, 0, 177, [])), (177, Sum.inl (4, 0, 0, 0, 178, [])), (178, Sum.inr (0, 7, 0, 4, 0, 0, 12)), (181, Sum.inl (15, 0, 0, 0, 309, [])), (184, Sum.inl (4, 0, 0, 0, 185, [])), (185, Sum.inl (0, 0, 0, 13, 187, [])), (187, Sum.inr (0, 0, 1, 2, 0, 0, 12)), (190, Sum.inl (17, 0, 304, 0, 193, [])), (193, Sum.inl (4, 0, 0, 0, 194, [])), (194, Sum.inr (0, 3, 0, 1, 0, 0, 12)), (197, Sum.inl (4, 0, 0, 0, 198, [])), (198, Sum.inl (0, 0, 0, 0, 199, [])), (199, Sum.inl (0, 0, 0, 3, 200, [])), (200, Sum.inr (0, 8, 2, 3, 0, 0, 12)), (203, Sum.inl (5, 1, 0, 0, 204, [])), (204, Sum.inl (2, 1, 0, 0, 205, [])), (205, Sum.inl (0, 0, 0, (-1), 206, [])), (206, Sum.inl (16, 0, 226, 0, 209, [])), (209, Sum.inl (4, 0, 0, 0, 210, [])), (210, Sum.inl (18, 12, 28, 0, 213, [])), (213, Sum.inl (2, 1, 0, 0, 214, [])), (214, Sum.inl (9, 7, 0, 0, 215, [])), (215, Sum.inl (0, 0, 0, 1, 216, [])), (216, Sum.inl (9, 3, 0, 0, 217, [])), (217, Sum.inl (0, 0, 0, 1, 218, [])), (218, Sum.inl (16, 0, 221, 0, 226, [])), (221, Sum.inl (4, 0, 0, 0, 222, [])), (222, Sum.inl (0, 0, 0, 5, 223, [])), (223, Sum.inr (0, 1, 1, 0, 0, 0, 12)), (226, Sum.inl (4, 0, 0, 0, 227, [])), (227, Sum.inl (2, 1, 0, 0, 228, [])), (228, Sum.inl (0, 0, 0, (-1), 229, [])), (229, Sum.inl (16, 0, 236, 0, 232, [])), (232, Sum.inl (0, 0, 0, 1, 233, [])), (233, Sum.inl (15, 0, 0, 0, 237, [])), (236, Sum.inl (0, 0, 0, 0, 237, [])), (237, Sum.inr (0, 9, 1, 2, 0, 0, 12)), (240, Sum.inl (4, 0, 0, 0, 241, [])), (241, Sum.inr (0, 2, 0, 0, 0, 0, 12)), (244, Sum.inl (17, 0, 257, 0, 247, [])), (247, Sum.inl (4, 0, 0, 0, 248, [])), (248, Sum.inl (0, 0, 0, 5, 249, [])), (249, Sum.inl (0, 0, 0, 8, 251, [])), (251, Sum.inr (0, 8, 2, 3, 0, 0, 12)), (254, Sum.inl (15, 0, 0, 0, 258, [])), (257, Sum.inl (0, 0, 0, (-1), 258, [])), (258, Sum.inl (5, 2, 0, 0, 259, [])), (259, Sum.inl (4, 0, 0, 0, 260, [])), (260, Sum.inl (2, 2, 0, 0, 261, [])), (261, Sum.inl (0, 0, 0, (-1), 262, [])), (262, Sum.inl (16, 0, 269, 0, 265, [])), (265, Sum.inl (0, 0, 0, 1, 266, [])), (266, Sum.inl (15, 0, 0, 0, 270, [])), (269, Sum.inl (0, 0, 0, 0, 270, [])), (270, Sum.inr (0, 9, 1, 2, 0, 0, 12)), (273, Sum.inl (4, 0, 0, 0, 274, [])), (274, Sum.inr (0, 2, 0, 0, 0, 0, 12)), (277, Sum.inl (17, 0, 301, 0, 280, [])), (280, Sum.inl (4, 0, 0, 0, 281, [])), (281, Sum.inl (12, 0, 0, 0, 282, [])), (282, Sum.inl (18, 12, 28, 0, 285, [])), (285, Sum.inl (0, 0, 0, 1, 286, [])), (286, Sum.inl (2, 1, 0, 0, 287, [])), (287, Sum.inl (9, 6, 0, 0, 288, [])), (288, Sum.inl (9, 4, 0, 0, 289, [])), (289, Sum.inl (19, 12, 28, 0, 292, [])), (292, Sum.inl (4, 0, 0, 0, 293, [])), (293, Sum.inl (18, 12, 34, 0, 296, [])), (296, Sum.inl (2, 1, 0, 0, 297, [])), (297, Sum.inl (2, 2, 0, 0, 298, [])), (298, Sum.inl (0, 0, 0, 5, 299, [])), (299, Sum.inl (9, 1, 0, 0, 300, [])), (300, Sum.inl (21, 0, 0, 0, 301, [])), (301, Sum.inl (15, 0, 0, 0, 309, [])), (304, Sum.inl (4, 0, 0, 0, 305, [])), (305, Sum.inl (0, 0, 0, 1, 306, [])), (306, Sum.inr (0, 1, 1, 0, 0, 0, 12)), (309, Sum.inl (4, 0, 0, 0, 310, [])), (310, Sum.inl (4, 0, 0, 0, 311, [])), (311, Sum.inl (18, 12, 19, 0, 314, [])), (314, Sum.inl (0, 0, 0, 3, 315, [])), (315, Sum.inl (16, 0, 318, 0, 322, [])), (318, Sum.inl (0, 0, 0, 1, 319, [])), (319, Sum.inl (15, 0, 0, 0, 323, [])), (322, Sum.inl (0, 0, 0, 0, 323, [])), (323, Sum.inr (0, 9, 1, 2, 0, 0, 12)), (326, Sum.inl (29, 0, 0, 0, 327, []))]
set_option maxRecDepth 20000 in
theorem Z_X12_line (l : Launch) : ∀ q ∈ U_X12_line, zTok l O_X12_line F_X12_line q := zU_ok rfl rfl rfl K_X12_line (E_X12_line l)
def wp_X12_line (a : List zV) (S : zS) (K : zR2 → zS → Prop) : Prop := match a with
  | [.inr (.inl c)] => ∃ (T : zD) (n : Nat) (P : zD) (p : Nat), (c = 62 ∧ rdJ S T n P p) ∧ ∀ S', mR S S' T n (li0 T n P p) → K (.inl none) S'
  | _ => False
section
variable {l : Launch} {Q : zR2 → zS → Prop} {S S1 : zS} {T : zD} {n : Nat} {P : zD} {q : Nat}
theorem L_X12_line {r : zLn} (h : ∀ S', mR S S' T n (liS T n r) → Q (.inl none) S') (h1 : mR S S1 T n r) : zGs l 5 0 0 F_X12_line S1 309 [(0, .inr (.inl 62))] [] Q := by
  obtain ⟨fr, hr⟩ := id h1
  rcases r with ⟨k, x⟩ | ⟨P1, x⟩
  · have hb := hr.2.2
    have k9 := h S1 h1
    refine zwq_ok (Z_X12_line l) rfl [309] (fun _ _ _ _ _ _ h => h) 400 (Z_X12_line l) ?_
    exact ⟨fun c => ⟨rfl, fun _ => k9, fun z => absurd z hb, fun z => absurd z hb⟩, fun c => ⟨rfl, fun _ => k9, fun z => absurd z hb, fun z => absurd z hb⟩⟩
  · have I1 : rdJ S1 T n P1 x := hr
    have e := I1.tok.2.1
    have h : ∀ S', mR S S' T n (if tkS T n x = 3 then .inr (P1, tkN T n x) else liE T n 1 x) → Q (.inl none) S' := h
    refine zwq_ok (Z_X12_line l) rfl [309] (fun _ _ _ _ _ _ h => h) 400 (Z_X12_line l) ?_
    refine ⟨fun c => ⟨rfl, fun z => absurd I1.good z, fun _ z => absurd z (by decide), fun _ _ => ⟨T, n, _, ⟨I1.text, I1.tok.1, I1.nx⟩, fun S2 I2 f2 => ?_⟩⟩, fun c => ⟨rfl, fun z => absurd I1.good z, fun _ _ => ?_, fun _ z => absurd rfl z⟩⟩
    · rw [if_pos (by omega)] at h
      exact h S2 ⟨fr.Y f2, I1.adv I2 f2⟩
    · rw [if_neg (by omega)] at h
      have k := h _ (I1.rx (k := 1) fr (by decide))
      rw [← I1.tok.2.2.1] at k
      exact k
theorem bad_X12_line {r : Nat × Nat} {v : Int} (h : ∀ S', mR S S' T n (.inl r) → Q (.inl none) S') (h1 : mR S S1 T n (.inl r)) : zGs l 5 0 0 F_X12_line S1 240 [(0, .inr (.inl 62)), (1, .inl v)] [] Q := by
  have hb := h1.2.2.2
  have L : zGs l 5 0 0 F_X12_line S1 309 [(0, .inr (.inl 62))] [] Q := L_X12_line (r := .inl r) h h1
  refine zwq_ok (Z_X12_line l) rfl [309] (fun _ _ _ _ _ _ h => h) 400 (Z_X12_line l) ?_
  refine ⟨fun z => absurd z hb, fun _ => ⟨Or.inl rfl, fun _ => ⟨fun _ => ⟨rfl, fun _ => ⟨fun z => absurd z hb, fun _ => ⟨Or.inl rfl, fun _ => ?_, fun z => absurd rfl z⟩⟩, fun z => absurd z hb, fun z => absurd z hb⟩, fun z => absurd rfl z⟩, fun z => absurd rfl z⟩⟩
  exact zGs.sub (lo := [(0, _), (1, _), (2, _)]) L (fun q hq => by simp only [List.mem_cons, List.not_mem_nil, or_false] at hq; rcases hq with rfl <;> first | exact .head _ | exact .tail _ (.head _) | exact .tail _ (.tail _ (.head _)) | exact .tail _ (.tail _ (.tail _ (.head _))) | exact .tail _ (.tail _ (.tail _ (.tail _ (.head _)))) | exact .tail _ (.tail _ (.tail _ (.tail _ (.tail _ (.head _))))) | exact .tail _ (.tail _ (.tail _ (.tail _ (.tail _ (.tail _ (.head _)))))) | exact .tail _ (.tail _ (.tail _ (.tail _ (.tail _ (.tail _ (.tail _ (.head _))))))) | exact .tail _ (.tail _ (.tail _ (.tail _ (.tail _ (.tail _ (.tail _ (.tail _ (.head _)))))))) | exact .tail _ (.tail _ (.tail _ (.tail _ (.tail _ (.tail _ (.tail _ (.tail _ (.tail _ (.head _))))))))) | exact .tail _ (.tail _ (.tail _ (.tail _ (.tail _ (.tail _ (.tail _ (.tail _ (.tail _ (.tail _ (.head _)))))))))) | exact .tail _ (.tail _ (.tail _ (.tail _ (.tail _ (.tail _ (.tail _ (.tail _ (.tail _ (.tail _ (.tail _ (.head _))))))))))) | exact .tail _ (.tail _ (.tail _ (.tail _ (.tail _ (.tail _ (.tail _ (.tail _ (.tail _ (.tail _ (.tail _ (.tail _ (.head _)))))))))))) | exact .tail _ (.tail _ (.tail _ (.tail _ (.tail _ (.tail _ (.tail _ (.tail _ (.tail _ (.tail _ (.tail _ (.tail _ (.tail _ (.head _))))))))))))))
theorem law2_X12_line {a : Nat} (I : rdJ S1 T n P q) (fr : frH S1 S) (ha : a < 4) (h : ∀ S', mR S S' T n (liS T n (liA2 T n P a q)) → Q (.inl none) S') : zGs l 5 0 0 F_X12_line S1 259 [(0, .inr (.inl 62)), (1, .inl (a : Int)), (2, .inl (ooF T n q 4 5))] [] Q := by
  have o := I.ok.laws
  unfold liA2 at h
  rw [oo_own]
  by_cases c : own T n q 5 < 4
  · rw [if_pos c]
    rw [if_pos c] at h
    refine zwq_ok (Z_X12_line l) rfl [309] (fun _ _ _ _ _ _ h => h) 400 (Z_X12_line l) ?_
    refine ⟨fun z => by omega, fun _ => ⟨rfl, fun z => absurd I.good z, fun _ z => absurd z (by decide), fun _ _ => ⟨T, n, _, ⟨I.text, I.tok.1, I.nx⟩, fun S2 I2 f2 => ?_⟩⟩⟩
    replace I2 := I.adv I2 f2
    refine ⟨fun _ => ⟨Or.inr rfl, fun z => absurd z (by decide), fun _ => ⟨by omega, a, ⟨rfl, ha⟩, ?_⟩⟩, fun z => absurd I2.good z⟩
    have hp : 2 ^ a < 2147483648 := Nat.lt_of_lt_of_le (Nat.pow_lt_pow_right (by decide) ha) (show 2 ^ 4 ≤ 2147483648 by decide)
    have L := L_X12_line (l := l) h (S1 := zu (zu S2 62 28 ((P 0 4 ||| 2 ^ a : Nat) : Int)) 77 a (((5 + own T n q 5 : Nat) : Int) - 5)) ⟨((fr.Y f2).u (by omega)).u (by omega), I2.pl (I2.plan.aA (a := a) (s := own T n q 5) (v := ((5 + own T n q 5 : Nat) : Int) - 5) (by omega)) (I.ok.aA ha c) (fun c j h1 h2 => by rw [zuN (by omega), zuN (by omega)]) (by rw [zuN (by omega), zuN (by omega)])⟩
    rw [← zor_n (by omega) hp, ← zsh1_n (by omega), ← I2.plan.laws] at L
    exact zGs.sub (lo := [(0, _), (1, _), (2, _)]) L (fun q hq => by simp only [List.mem_cons, List.not_mem_nil, or_false] at hq; rcases hq with rfl <;> first | exact .head _ | exact .tail _ (.head _) | exact .tail _ (.tail _ (.head _)) | exact .tail _ (.tail _ (.tail _ (.head _))) | exact .tail _ (.tail _ (.tail _ (.tail _ (.head _)))) | exact .tail _ (.tail _ (.tail _ (.tail _ (.tail _ (.head _))))) | exact .tail _ (.tail _ (.tail _ (.tail _ (.tail _ (.tail _ (.head _)))))) | exact .tail _ (.tail _ (.tail _ (.tail _ (.tail _ (.tail _ (.tail _ (.head _))))))) | exact .tail _ (.tail _ (.tail _ (.tail _ (.tail _ (.tail _ (.tail _ (.tail _ (.head _)))))))) | exact .tail _ (.tail _ (.tail _ (.tail _ (.tail _ (.tail _ (.tail _ (.tail _ (.tail _ (.head _))))))))) | exact .tail _ (.tail _ (.tail _ (.tail _ (.tail _ (.tail _ (.tail _ (.tail _ (.tail _ (.tail _ (.head _)))))))))) | exact .tail _ (.tail _ (.tail _ (.tail _ (.tail _ (.tail _ (.tail _ (.tail _ (.tail _ (.tail _ (.tail _ (.head _))))))))))) | exact .tail _ (.tail _ (.tail _ (.tail _ (.tail _ (.tail _ (.tail _ (.tail _ (.tail _ (.tail _ (.tail _ (.tail _ (.head _)))))))))))) | exact .tail _ (.tail _ (.tail _ (.tail _ (.tail _ (.tail _ (.tail _ (.tail _ (.tail _ (.tail _ (.tail _ (.tail _ (.tail _ (.head _))))))))))))))
  · rw [if_neg c]
    rw [if_neg c] at h
    have k := I.rx (k := 1) fr (by decide)
    have L := L_X12_line (l := l) h k
    rw [← I.tok.2.2.1] at L
    refine zwq_ok (Z_X12_line l) rfl [309] (fun _ _ _ _ _ _ h => h) 400 (Z_X12_line l) ?_
    refine ⟨fun _ => ⟨rfl, fun z => absurd I.good z, fun _ _ => ⟨fun z => absurd (show (1 : Int) = 0 from z) (by decide), fun _ => ⟨Or.inl rfl, fun _ => ?_, fun z => absurd rfl z⟩⟩, fun _ z => absurd rfl z⟩, fun z => absurd rfl z⟩
    exact zGs.sub (lo := [(0, _), (1, _), (2, _)]) L (fun q hq => by simp only [List.mem_cons, List.not_mem_nil, or_false] at hq; rcases hq with rfl <;> first | exact .head _ | exact .tail _ (.head _) | exact .tail _ (.tail _ (.head _)) | exact .tail _ (.tail _ (.tail _ (.head _))) | exact .tail _ (.tail _ (.tail _ (.tail _ (.head _)))) | exact .tail _ (.tail _ (.tail _ (.tail _ (.tail _ (.head _))))) | exact .tail _ (.tail _ (.tail _ (.tail _ (.tail _ (.tail _ (.head _)))))) | exact .tail _ (.tail _ (.tail _ (.tail _ (.tail _ (.tail _ (.tail _ (.head _))))))) | exact .tail _ (.tail _ (.tail _ (.tail _ (.tail _ (.tail _ (.tail _ (.tail _ (.head _)))))))) | exact .tail _ (.tail _ (.tail _ (.tail _ (.tail _ (.tail _ (.tail _ (.tail _ (.tail _ (.head _))))))))) | exact .tail _ (.tail _ (.tail _ (.tail _ (.tail _ (.tail _ (.tail _ (.tail _ (.tail _ (.tail _ (.head _)))))))))) | exact .tail _ (.tail _ (.tail _ (.tail _ (.tail _ (.tail _ (.tail _ (.tail _ (.tail _ (.tail _ (.tail _ (.head _))))))))))) | exact .tail _ (.tail _ (.tail _ (.tail _ (.tail _ (.tail _ (.tail _ (.tail _ (.tail _ (.tail _ (.tail _ (.tail _ (.head _)))))))))))) | exact .tail _ (.tail _ (.tail _ (.tail _ (.tail _ (.tail _ (.tail _ (.tail _ (.tail _ (.tail _ (.tail _ (.tail _ (.tail _ (.head _))))))))))))))
theorem law1_X12_line (I : rdJ S1 T n P q) (fr : frH S1 S) (h : ∀ S', mR S S' T n (liS T n (liA T n P q)) → Q (.inl none) S') : zGs l 5 0 0 F_X12_line S1 204 [(0, .inr (.inl 62)), (1, .inl (ooF T n q 4 0))] [] Q := by
  have o := I.ok.laws
  unfold liA at h
  rw [oo_own, Nat.zero_add]
  by_cases c : own T n q 0 < 4
  · rw [if_pos c]
    rw [if_pos c] at h
    have eb : zand (zshr (S1 62 28) (own T n q 0 : Int)) 1 = ((bt1 (P 0 4) (own T n q 0) : Nat) : Int) := by
      rw [I.plan.laws]; exact zbit_n (by omega) (by omega)
    refine zwq_ok (Z_X12_line l) rfl [240, 259] (fun _ _ _ _ _ _ h => h) 400 (Z_X12_line l) ?_
    refine ⟨fun z => by omega, fun _ => ⟨fun c2 => ⟨fun _ => ?_, fun z => absurd I.good z⟩, fun c2 => ?_⟩⟩
    · have c2 : zand (zshr (S1 62 28) (own T n q 0 : Int)) 1 = 1 := c2
      rw [if_pos (by omega)] at h
      have k := I.rx (k := 5) fr (by decide)
      have B := bad_X12_line (l := l) (v := (own T n q 0 : Int)) h k
      rw [← I.tok.2.2.1] at B
      exact ⟨fun z => by omega, fun _ => ⟨rfl, fun _ => B, fun z => absurd (show (5 : Int) = 0 from z) (by decide), fun z => absurd (show (5 : Int) = 0 from z) (by decide)⟩⟩
    · have c2 : ¬ zand (zshr (S1 62 28) (own T n q 0 : Int)) 1 = 1 := c2
      rw [if_neg (by omega)] at h
      refine ⟨fun z => by omega, fun _ => ⟨rfl, fun z => absurd I.good z, fun _ z => absurd z (by decide), fun _ _ => ⟨T, n, _, ⟨I.text, I.tok.1, I.nx⟩, fun S2 I2 f2 => ?_⟩⟩⟩
      replace I2 := I.adv I2 f2
      refine zwq_ok (Z_X12_line l) rfl [259] (fun _ _ _ _ _ _ h => h) 400 (Z_X12_line l) ?_
      refine ⟨fun _ => ⟨Or.inr rfl, fun z => absurd z (by decide), fun _ => ?_⟩, fun z => absurd I2.good z⟩
      refine ⟨T, n, _, 5, 4, ⟨rfl, rfl, rfl, by decide, I2.tok, I2.le⟩, ?_⟩
      exact law2_X12_line (l := l) I2 (fr.Y f2) c h
  · rw [if_neg c]
    rw [if_neg c] at h
    have k := I.rx (k := 1) fr (by decide)
    have B := bad_X12_line (l := l) (v := -1) h k
    rw [← I.tok.2.2.1] at B
    refine zwq_ok (Z_X12_line l) rfl [240, 259] (fun _ _ _ _ _ _ h => h) 400 (Z_X12_line l) ?_
    exact ⟨fun _ => ⟨fun _ => ⟨rfl, fun z => absurd I.good z, fun _ _ => B, fun _ z => absurd rfl z⟩, fun z => absurd rfl z⟩, fun z => absurd rfl z⟩
end
theorem R_X12_line (l : Launch) (a : List zV) (S : zS) (Q : zR2 → zS → Prop) (h : wp_X12_line a S Q) : zRs l 5 0 0 yX12_line (.code yX12_line cX12_line 3 (none)) a S Q := by
  unfold wp_X12_line at h
  split at h
  · obtain ⟨T, n, P, p, ⟨rfl, I⟩, h⟩ := h
    have e1 := I.plan.rooms
    have e2 := I.plan.finders
    have o1 := I.ok.rooms
    have o2 := I.ok.finders
    have h : ∀ S', mR S S' T n (liS T n (li1 T n P p)) → Q (.inl none) S' := h
    unfold li1 at h
    refine zRs_of 12 (by decide) rfl rfl ?_; refine zwq_ok (Z_X12_line l) rfl [204, 309] (fun _ _ _ _ _ _ h => h) 400 (Z_X12_line l) ?_
    refine ⟨T, n, p, 9, ⟨rfl, rfl, by decide, I.tok, I.le⟩, fun c => ?_, fun c => ?_⟩
    · rw [if_neg (bt_f c)] at h
      refine ⟨T, n, p, 10, ⟨rfl, rfl, by decide, I.tok, I.le⟩, fun c => ?_, fun c => ?_⟩
      · rw [if_neg (bt_f c)] at h
        refine ⟨T, n, p, 11, ⟨rfl, rfl, by decide, I.tok, I.le⟩, fun c => ?_, fun c => ?_⟩
        · rw [if_neg (bt_f c)] at h
          refine ⟨T, n, p, 12, ⟨rfl, rfl, by decide, I.tok, I.le⟩, fun c => ?_, fun c => ?_⟩
          · rw [if_neg (bt_f c)] at h
            refine ⟨T, n, p, 13, ⟨rfl, rfl, by decide, I.tok, I.le⟩, fun c => ?_, fun c => ?_⟩
            · rw [if_neg (bt_f c)] at h
              have L := L_X12_line (l := l) h (I.rx (k := 1) (frH.r S) (by decide))
              rw [← I.tok.2.2.1] at L
              exact ⟨fun _ => L, fun z => absurd I.good z⟩
            · rw [if_pos (bt_t c)] at h
              refine ⟨T, n, _, ⟨rfl, I.text, I.tok.1, I.nx⟩, fun S1 I1 f1 => ?_⟩
              replace I1 := I.adv I1 f1
              refine ⟨T, n, _, 0, 4, ⟨rfl, rfl, rfl, by decide, I1.tok, I1.le⟩, ?_⟩
              exact law1_X12_line (l := l) I1 ((frH.r S).Y f1) h
          · rw [if_pos (bt_t c)] at h
            exact ⟨T, n, P, p, ⟨rfl, I⟩, fun S1 h1 => L_X12_line (l := l) h h1⟩
        · rw [if_pos (bt_t c)] at h
          unfold liF at h
          refine ⟨fun c2 => ⟨fun _ => ?_, fun z => absurd I.good z⟩, fun c2 => ?_⟩
          · rw [if_neg (by omega)] at h
            have k := h _ (I.rx (k := 2) (frH.r S) (by decide))
            rw [← I.tok.2.2.1] at k
            exact ⟨fun z => absurd (show (2 : Int) = 0 from z) (by decide), fun _ => ⟨Or.inl rfl, fun _ => k, fun z => absurd rfl z⟩⟩
          · rw [if_pos (by omega)] at h
            refine ⟨fun _ => ⟨Or.inr rfl, fun z => absurd z (by decide), fun _ => ?_⟩, fun z => absurd I.good z⟩
            refine ⟨T, n, _, ⟨rfl, I.text, I.tok.1, I.nx⟩, fun S1 I1 f1 => ?_⟩
            replace I1 := I.adv I1 f1
            have e3 := I1.plan.finders
            have fr1 : frH S1 S := (frH.r S).Y f1
            refine ⟨T, n, _, P 0 0, ⟨rfl, I1.good, I1.plan.rooms, I1.text, I1.tok, I1.le⟩, fun c3 S2 I2 f2 => ?_, fun c3 => ?_⟩
            · rw [if_pos c3] at h
              have c3 := toF_0.mp c3
              replace I2 := I1.adv I2 f2
              have e4 := I2.plan.finders
              refine ⟨P 0 2, ⟨e3, by omega⟩, fun _ => ⟨Or.inr rfl, fun z => absurd z (by decide), fun _ => ⟨by show -2147483648 ≤ S2 62 26 + 1 ∧ S2 62 26 + 1 < 2147483648; omega, ?_⟩⟩, fun z => absurd I2.good z⟩
              have L := L_X12_line (l := l) h ⟨((fr1.Y f2).u (by omega)).u (by omega), I2.pl (I2.plan.aF (r := tkV T n (tkN T n p))) (I.ok.aF c3.2.2 (by omega)) (fun c j h1 h2 => by rw [zuN (by omega), zuN (by omega)]) (by rw [zuN (by omega), zuN (by omega)])⟩
              rw [← e4] at L
              exact L
            · rw [if_neg c3] at h
              have k := I1.rx fr1 c3
              have hb := k.2.2.2
              have L := L_X12_line (l := l) h (S1 := zu (zu (zu S1 62 14 (toF T n (tkN T n p) (P 0 0) : Int)) 62 15 (tkP T n (tkN T n p) : Int)) 76 (P 0 2) 0) ⟨k.1.u (by omega), by rw [zuN (by omega)]; exact k.2.1, by rw [zuN (by omega)]; exact k.2.2.1, by rw [zuN (by omega)]; exact hb⟩
              exact ⟨P 0 2, ⟨e3, by omega⟩, fun z => absurd z hb, fun _ => ⟨Or.inl rfl, fun _ => L, fun z => absurd rfl z⟩⟩
      · rw [if_pos (bt_t c)] at h
        exact ⟨T, n, P, p, ⟨rfl, I⟩, fun S1 h1 => L_X12_line (l := l) h h1⟩
    · rw [if_pos (bt_t c)] at h
      unfold liR at h
      refine ⟨fun c2 => ⟨fun _ => ?_, fun z => absurd I.good z⟩, fun c2 => ?_⟩
      · rw [if_neg (by omega)] at h
        have k := h _ (I.rx (k := 2) (frH.r S) (by decide))
        rw [← I.tok.2.2.1] at k
        exact ⟨fun z => absurd (show (2 : Int) = 0 from z) (by decide), fun _ => ⟨Or.inl rfl, fun _ => k, fun z => absurd rfl z⟩⟩
      · rw [if_pos (by omega)] at h
        refine ⟨fun _ => ⟨Or.inr rfl, fun z => absurd z (by decide), fun _ => ?_⟩, fun z => absurd I.good z⟩
        refine ⟨T, n, _, ⟨rfl, I.text, I.tok.1, I.nx⟩, fun S1 I1 f1 => ?_⟩
        replace I1 := I.adv I1 f1
        have e3 := I1.plan.rooms
        have fr1 : frH S1 S := (frH.r S).Y f1
        refine ⟨rfl, fun z => absurd I1.good z, fun _ => ⟨T, n, _, 0, 99, ⟨rfl, rfl, I1.text, I1.tok, I1.le⟩, fun c3 S2 I2 f2 => ?_, fun c3 => ?_⟩⟩
        · rw [if_pos c3] at h
          have c3 := nuF_0.mp c3
          replace I2 := I1.adv I2 f2
          have e4 := I2.plan.rooms
          refine ⟨P 0 0, ⟨e3, by omega⟩, P 0 0, ⟨e4, by omega⟩, fun _ => ⟨Or.inr rfl, fun z => absurd z (by decide), fun _ => ⟨by show -2147483648 ≤ S2 62 24 + 1 ∧ S2 62 24 + 1 < 2147483648; omega, ?_⟩⟩, fun z => absurd I2.good z⟩
          have L := L_X12_line (l := l) h ⟨(((fr1.Y f2).u (by omega)).u (by omega)).u (by omega), I2.pl (I2.plan.aR (g := tkV T n (tkN T n p))) (I.ok.aR (by omega) (by omega)) (fun c j h1 h2 => by rw [zuN (by omega), zuN (by omega), zuN (by omega)]) (by rw [zuN (by omega), zuN (by omega), zuN (by omega)])⟩
          rw [← e4] at L
          exact L
        · rw [if_neg c3] at h
          have k := I1.rx fr1 c3
          have hb := k.2.2.2
          have L := L_X12_line (l := l) h (S1 := zu (zu (zu (zu S1 62 14 (nuF T n (tkN T n p) 0 99 : Int)) 62 15 (tkP T n (tkN T n p) : Int)) 72 (P 0 0) (S1 62 22)) 73 (P 0 0) (-1)) ⟨(k.1.u (by omega)).u (by omega), by rw [zuN (by omega), zuN (by omega)]; exact k.2.1, by rw [zuN (by omega), zuN (by omega)]; exact k.2.2.1, by rw [zuN (by omega), zuN (by omega)]; exact hb⟩
          exact ⟨P 0 0, ⟨e3, by omega⟩, P 0 0, ⟨e3, by omega⟩, fun z => absurd z hb, fun _ => ⟨Or.inl rfl, fun _ => L, fun z => absurd rfl z⟩⟩
  · exact h.elim
