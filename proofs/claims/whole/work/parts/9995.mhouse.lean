/-! the house: the model's call -/
def frN (S S' : zS) : Prop := ∀ c, (c < 62 ∨ (102 ≤ c ∧ c ≠ 1062)) → S' c = S c
def mRes2 (S : zS) (D E T : zD) (r : Nat × Int) (K : zR2 → zS → Prop) : Prop := ∀ S' v, eM S' D E T → frN S S' → S' 62 0 = (r.1 : Int) → (r.1 = 0 → v = r.2) → K (.inl (some (.inl v))) S'
theorem tkS_end {T : zD} {n p : Nat} (h : n ≤ p) : tkS T n p = 0 := by
  have e : tkP T n p = p := by
    show skS T (n - p) p = p
    rw [show n - p = 0 by omega]; rfl
  have eS : tkS T n p = if n ≤ tkP T n p then 0 else if tin T 97 122 (tkP T n p) = true then 1 else if tin T 48 57 (tkP T n p) = true then 2 else if T 1 (tkP T n p) = 59 then 3 else 4 := rfl
  rw [eS, e, if_pos h]
def B_X12_house : List (Nat × zC) := [(24, (0, 0, 2, 0, 0, 0, 12)), (133, (0, 1, 0, 1, 0, 0, 12)), (137, (0, 2, 0, 0, 0, 0, 12)), (151, (0, 3, 0, 5, 0, 0, 12)), (158, (0, 2, 0, 0, 0, 0, 12)), (220, (0, 4, 2, 0, 0, 0, 12)), (232, (0, 4, 2, 0, 0, 0, 12)), (244, (0, 4, 2, 0, 0, 0, 12)), (256, (0, 4, 2, 0, 0, 0, 12)), (268, (0, 4, 2, 0, 0, 0, 12)), (280, (0, 4, 2, 0, 0, 0, 12)), (392, (1, 5, 1, 0, 0, 0, 0))]
def O_X12_house : zO := fun j a S K => match j with
  | 0 => wp_X12_right a S K
  | 1 => wp_X12_steps a S K
  | 2 => wp_X12_isGood a S K
  | 3 => wp_X12_line a S K
  | 4 => wp_X12_copies a S K
  | 5 => wp_X12_lowest a S K
  | _ => False
theorem E_X12_house (l : Launch) : ∀ q ∈ B_X12_house, zcok l O_X12_house F_X12_house q.1 q.2 := List.forall_mem_cons.mpr ⟨⟨241, yX12_right, cX12_right, 3, some .boolean, by decide +kernel, C_12_241, W_X12_right, I_X12_right, S_X12_right, rfl, rfl, R_X12_right l⟩, List.forall_mem_cons.mpr ⟨⟨194, yX12_steps, cX12_steps, 2, none, by decide +kernel, C_12_194, W_X12_steps, I_X12_steps, S_X12_steps, rfl, rfl, R_X12_steps l⟩, List.forall_mem_cons.mpr ⟨⟨190, yX12_isGood, cX12_isGood, 1, some .boolean, by decide +kernel, C_12_190, W_X12_isGood, I_X12_isGood, S_X12_isGood, rfl, rfl, R_X12_isGood l⟩, List.forall_mem_cons.mpr ⟨⟨245, yX12_line, cX12_line, 3, none, by decide +kernel, C_12_245, W_X12_line, I_X12_line, S_X12_line, rfl, rfl, R_X12_line l⟩, List.forall_mem_cons.mpr ⟨⟨190, yX12_isGood, cX12_isGood, 1, some .boolean, by decide +kernel, C_12_190, W_X12_isGood, I_X12_isGood, S_X12_isGood, rfl, rfl, R_X12_isGood l⟩, List.forall_mem_cons.mpr ⟨⟨260, yX12_copies, cX12_copies, 4, none, by decide +kernel, C_12_260, W_X12_copies, I_X12_copies, S_X12_copies, rfl, rfl, R_X12_copies l⟩, List.forall_mem_cons.mpr ⟨⟨260, yX12_copies, cX12_copies, 4, none, by decide +kernel, C_12_260, W_X12_copies, I_X12_copies, S_X12_copies, rfl, rfl, R_X12_copies l⟩, List.forall_mem_cons.mpr ⟨⟨260, yX12_copies, cX12_copies, 4, none, by decide +kernel, C_12_260, W_X12_copies, I_X12_copies, S_X12_copies, rfl, rfl, R_X12_copies l⟩, List.forall_mem_cons.mpr ⟨⟨260, yX12_copies, cX12_copies, 4, none, by decide +kernel, C_12_260, W_X12_copies, I_X12_copies, S_X12_copies, rfl, rfl, R_X12_copies l⟩, List.forall_mem_cons.mpr ⟨⟨260, yX12_copies, cX12_copies, 4, none, by decide +kernel, C_12_260, W_X12_copies, I_X12_copies, S_X12_copies, rfl, rfl, R_X12_copies l⟩, List.forall_mem_cons.mpr ⟨⟨260, yX12_copies, cX12_copies, 4, none, by decide +kernel, C_12_260, W_X12_copies, I_X12_copies, S_X12_copies, rfl, rfl, R_X12_copies l⟩, List.forall_mem_cons.mpr ⟨⟨280, yX12_lowest, cX12_lowest, 2, some .int, by decide +kernel, C_12_280, W_X12_lowest, I_X12_lowest, rfl, R_X12_lowest l⟩, fun _ h => by cases h⟩⟩⟩⟩⟩⟩⟩⟩⟩⟩⟩⟩
def U_X12_house : List (Nat × zE) := [(0, Sum.inl (4, 0, 0, 0, 1, [])), (1, Sum.inl (0, 0, 0, 0, 2, [])), (2, Sum.inl (19, 12, 0, 0, 5, [])), (5, Sum.inl (4, 0, 0, 0, 6, [])), (6, Sum.inl (2, 1, 0, 0, 7, [])), (7, Sum.inl (17, 1, 22, 0, 10, [])), (10, Sum.inl (2, 1, 0, 0, 11, [])), (11, Sum.inl (4, 0, 0, 0, 12, [])), (12, Sum.inl (18, 12, 13, 0, 15, [])), (15, Sum.inl (16, 2, 22, 0, 18, [])), (18, Sum.inl (0, 0, 0, 1, 19, [])), (19, Sum.inl (15, 0, 0, 0, 23, [])), (22, Sum.inl (0, 0, 0, 0, 23, [])), (23, Sum.inl (0, 0, 0, 1, 24, [])), (24, Sum.inr (0, 0, 2, 0, 0, 0, 12)), (27, Sum.inl (17, 0, 30, 0, 32, [])), (30, Sum.inl (0, 0, 0, 0, 31, [])), (31, Sum.inl (27, 0, 0, 0, 32, [])), (32, Sum.inl (4, 0, 0, 0, 33, [])), (33, Sum.inl (0, 0, 0, 0, 34, [])), (34, Sum.inl (19, 12, 13, 0, 37, [])), (37, Sum.inl (4, 0, 0, 0, 38, [])), (38, Sum.inl (0, 0, 0, (-1), 39, [])), (39, Sum.inl (19, 12, 15, 0, 42, [])), (42, Sum.inl (4, 0, 0, 0, 43, [])), (43, Sum.inl (0, 0, 0, 0, 44, [])), (44, Sum.inl (19, 12, 14, 0, 47, [])), (47, Sum.inl (4, 0, 0, 0, 48, [])), (48, Sum.inl (2, 1, 0, 0, 49, [])), (49, Sum.inl (19, 12, 17, 0, 52, [])), (52, Sum.inl (4, 0, 0, 0, 53, [])), (53, Sum.inl (0, 0, 0, 0, 54, [])), (54, Sum.inl (19, 12, 18, 0, 57, [])), (57, Sum.inl (4, 0, 0, 0, 58, [])), (58, Sum.inl (0, 0, 0, 0, 59, [])), (59, Sum.inl (19, 12, 24, 0, 62, [])), (62, Sum.inl (4, 0, 0, 0, 63, [])), (63, Sum.inl (0, 0, 0, 0, 64, [])), (64, Sum.inl (19, 12, 25, 0, 67, [])), (67, Sum.inl (4, 0, 0, 0, 68, [])), (68, Sum.inl (0, 0, 0, 0, 69, [])), (69, Sum.inl (19, 12, 26, 0, 72, [])), (72, Sum.inl (4, 0, 0, 0, 73, [])), (73, Sum.inl (0, 0, 0, 0, 74, [])), (74, Sum.inl (19, 12, 27, 0, 77, [])), (77, Sum.inl (4, 0, 0, 0, 78, [])), (78, Sum.inl (0, 0, 0, 0, 79, [])), (79, Sum.inl (19, 12, 28, 0, 82, [])), (82, Sum.inl (4, 0, 0, 0, 83, [])), (83, Sum.inl (18, 12, 34, 0, 86, [])), (86, Sum.inl (0, 0, 0, 0, 87, [])), (87, Sum.inl (0, 0, 0, 3, 88, [])), (88, Sum.inl (21, 0, 0, 0, 89, [])), (89, Sum.inl (4, 0, 0, 0, 90, [])), (90, Sum.inl (18, 12, 34, 0, 93, [])), (93, Sum.inl (0, 0, 0, 1, 94, [])), (94, Sum.inl (0, 0, 0, 1, 95, [])), (95, Sum.inl (21, 0, 0, 0, 96, [])), (96, Sum.inl (4, 0, 0, 0, 97, [])), (97, Sum.inl (18, 12, 34, 0, 100, [])), (100, Sum.inl (0, 0, 0, 2, 101, [])), (101, Sum.inl (0, 0, 0, 2, 102, [])), (102, Sum.inl (21, 0, 0, 0, 103, [])), (103, Sum.inl (4, 0, 0, 0, 104, [])), (104, Sum.inl (18, 12, 34, 0, 107, [])), (107, Sum.inl (0, 0, 0, 3, 108, [])), (108, Sum.inl (0, 0, 0, 1, 109, [])), (109, Sum.inl (21, 0, 0, 0, 110, [])), (110, Sum.inl (0, 0, 0, 0, 111, [])), (111, Sum.inl (5, 2, 0, 0, 112, [])), (112, Sum.inl (2, 2, 0, 0, 113, [])), (113, Sum.inl (0, 0, 0, 144, 116, [])), (116, Sum.inl (16, 1, 119, 0, 132, [])), (119, Sum.inl (4, 0, 0, 0, 120, [])), (120, Sum.inl (18, 12, 35, 0, 123, [])), (123, Sum.inl (2, 2, 0, 0, 124, [])), (124, Sum.inl (0, 0, 0, 0, 125, [])), (125, Sum.inl (21, 0, 0, 0, 126, [])), (126, Sum.inl (8, 2, 0, 1, 129, [])), (129, Sum.inl (15, 0, 0, 0, 112, [])), (132, Sum.inl (4, 0, 0, 0, 133, [])), (133, Sum.inr (0, 1, 0, 1, 0, 0, 12)), (136, Sum.inl (4, 0, 0, 0, 137, [])), (137, Sum.inr (0, 2, 0, 0, 0, 0, 12)), (140, Sum.inl (17, 0, 157, 0, 143, [])), (143, Sum.inl (4, 0, 0, 0, 144, [])), (144, Sum.inl (18, 12, 19, 0, 147, [])), (147, Sum.inl (17, 0, 157, 0, 150, [])), (150, Sum.inl (4, 0, 0, 0, 151, [])), (151, Sum.inr (0, 3, 0, 5, 0, 0, 12)), (154, Sum.inl (15, 0, 0, 0, 136, [])), (157, Sum.inl (4, 0, 0, 0, 158, [])), (158, Sum.inr (0, 2, 0, 0, 0, 0, 12)), (161, Sum.inl (17, 0, 164, 0, 179, [])), (164, Sum.inl (4, 0, 0, 0, 165, [])), (165, Sum.inl (18, 12, 16, 0, 168, [])), (168, Sum.inl (0, 0, 0, 0, 169, [])), (169, Sum.inl (13, 0, 0, 0, 170, [])), (170, Sum.inl (20, 0, 0, 0, 171, [])), (171, Sum.inl (0, 0, 0, 1, 172, [])), (172, Sum.inl (9, 0, 0, 0, 173, [])), (173, Sum.inl (21, 0, 0, 0, 174, [])), (174, Sum.inl (4, 0, 0, 0, 175, [])), (175, Sum.inl (18, 12, 14, 0, 178, [])), (178, Sum.inl (27, 0, 0, 0, 179, [])), (179, Sum.inl (4, 0, 0, 0, 180, [])), (180, Sum.inl (4, 0, 0, 0, 181, [])), (181, Sum.inl (18, 12, 24, 0, 184, [])), (184, Sum.inl (19, 12, 1, 0, 187, [])), (187, Sum.inl (4, 0, 0, 0, 188, [])), (188, Sum.inl (4, 0, 0, 0, 189, [])), (189, Sum.inl (18, 12, 25, 0, 192, [])), (192, Sum.inl (19, 12, 2, 0, 195, [])), (195, Sum.inl (4, 0, 0, 0, 196, [])), (196, Sum.inl (4, 0, 0, 0, 197, [])), (197, Sum.inl (18, 12, 26, 0, 200, [])), (200, Sum.inl (19, 12, 3, 0, 203, [])), (203, Sum.inl (4, 0, 0, 0, 204, [])), (204, Sum.inl (4, 0, 0, 0, 205, [])), (205, Sum.inl (18, 12, 27, 0, 208, [])), (208, Sum.inl (19, 12, 4, 0, 211, [])), (211, Sum.inl (4, 0, 0, 0, 212, [])), (212, Sum.inl (4, 0, 0, 0, 213, [])), (213, Sum.inl (18, 12, 29, 0, 216, [])), (216, Sum.inl (4, 0, 0, 0, 217, [])), (217, Sum.inl (18, 12, 5, 0, 220, [])), (220, Sum.inr (0, 4, 2, 0, 0, 0, 12)), (223, Sum.inl (4, 0, 0, 0, 224, [])), (224, Sum.inl (4, 0, 0, 0, 225, [])), (225, Sum.inl (18, 12, 30, 0, 228, [])), (228, Sum.inl (4, 0, 0, 0, 229, [])), (229, Sum.inl (18, 12, 6, 0, 232, [])), (232, Sum.inr (0, 4, 2, 0, 0, 0, 12)), (235, Sum.inl (4, 0, 0, 0, 236, [])), (236, Sum.inl (4, 0, 0, 0, 237, [])), (237, Sum.inl (18, 12, 31, 0, 240, [])), (240, Sum.inl (4, 0, 0, 0, 241, [])), (241, Sum.inl (18, 12, 7, 0, 244, [])), (244, Sum.inr (0, 4, 2, 0, 0, 0, 12)), (247, Sum.inl (4, 0, 0, 0, 248, [])), (248, Sum.inl (4, 0, 0, 0, 249, [])), (249, Sum.inl (18, 12, 32, 0, 252, [])), (252, Sum.inl (4, 0, 0, 0, 253, [])), (253, Sum.inl (18, 12, 8, 0, 256, [])), (256, Sum.inr (0, 4, 2, 0, 0, 0, 12)), (259, Sum.inl (4, 0, 0, 0, 260, [])), (260, Sum.inl (4, 0, 0, 0, 261, [])), (261, Sum.inl (18, 12, 33, 0, 264, [])), (264, Sum.inl (4, 0, 0, 0, 265, [])), (265, Sum.inl (18, 12, 9, 0, 268, [])), (268, Sum.inr (0, 4, 2, 0, 0, 0, 12)), (271, Sum.inl (4, 0, 0, 0, 272, [])), (272, Sum.inl (4, 0, 0, 0, 273, [])), (273, Sum.inl (18, 12, 34, 0, 276, [])), (276, Sum.inl (4, 0, 0, 0, 277, [])), (277, Sum.inl (18, 12, 10, 0, 280, [])), (280, Sum.inr (0, 4, 2, 0, 0, 0, 12)), (283, Sum.inl (0, 0, 0, 0, 284, [])), (284, Sum.inl (5, 2, 0, 0, 285, [])), (285, Sum.inl (2, 2, 0, 0, 286, [])), (286, Sum.inl (0, 0, 0, 144, 289, [])), (289, Sum.inl (16, 1, 292, 0, 323, [])), (292, Sum.inl (4, 0, 0, 0, 293, [])), (293, Sum.inl (18, 12, 11, 0, 296, [])), (296, Sum.inl (2, 2, 0, 0, 297, [])), (297, Sum.inl (4, 0, 0, 0, 298, [])), (298, Sum.inl (18, 12, 35, 0, 301, [])), (301, Sum.inl (2, 2, 0, 0, 302, [])), (302, Sum.inl (20, 0, 0, 0, 303, [])), (303, Sum.inl (17, 0, 306, 0, 310, [])), (306, Sum.inl (0, 0, 0, 1, 307, [])), (307, Sum.inl (15, 0, 0, 0, 316, [])), (310, Sum.inl (4, 0, 0, 0, 311, [])), (311, Sum.inl (18, 12, 35, 0, 314, [])), (314, Sum.inl (2, 2, 0, 0, 315, [])), (315, Sum.inl (20, 0, 0, 0, 316, [])), (316, Sum.inl (21, 0, 0, 0, 317, [])), (317, Sum.inl (8, 2, 0, 1, 320, [])), (320, Sum.inl (15, 0, 0, 0, 285, [])), (323, Sum.inl (4, 0, 0, 0, 324, [])), (324, Sum.inl (0, 0, 0, 0, 325, [])), (325, Sum.inl (19, 12, 36, 0, 328, [])), (328, Sum.inl (4, 0, 0, 0, 329, [])), (329, Sum.inl (0, 0, 0, (-1), 330, [])), (330, Sum.inl (19, 12, 40, 0, 333, [])), (333, Sum.inl (4, 0, 0, 0, 334, [])), (334, Sum.inl (0, 0, 0, 0, 335, [])), (335, Sum.inl (19, 12, 41, 0, 338, [])), (338, Sum.inl (4, 0, 0, 0, 339, [])), (339, Sum.inl (0, 0, 0, 0, 340, [])), (340, Sum.inl (19, 12, 52, 0, 343, [])), (343, Sum.inl (4, 0, 0, 0, 344, [])), (344, Sum.inl (0, 0, 0, 0, 345, [])), (345, Sum.inl (19, 12, 56, 0, 348, [])), (348, Sum.inl (4, 0, 0, 0, 349, [])), (349, Sum.inl (0, 0, 0, 0, 350, [])), (350, Sum.inl (19, 12, 63, 0, 353, [])), (353, Sum.inl (0, 0, 0, 0, 354, [])), (354, Sum.inl (5, 2, 0, 0, 355, [])), (355, Sum.inl (2, 2, 0, 0, 356, [])), (356, Sum.inl (4, 0, 0, 0, 357, [])), (357, Sum.inl (18, 12, 2, 0, 360, [])), (360, Sum.inl (16, 1, 363, 0, 408, [])), (363, Sum.inl (0, 0, 0, 0, 364, [])), (364, Sum.inl (5, 3, 0, 0, 365, [])), (365, Sum.inl (2, 3, 0, 0, 366, [])), (366, Sum.inl (0, 0, 0, 24, 368, [])), (368, Sum.inl (16, 1, 371, 0, 402, [])), (371, Sum.inl (4, 0, 0, 0, 372, [])), (372, Sum.inl (18, 12, 38, 0, 375, [])), (375, Sum.inl (0, 0, 0, 24, 377, [])), (377, Sum.inl (2, 2, 0, 0, 378, [])), (378, Sum.inl (9, 2, 0, 0, 379, [])), (379, Sum.inl (2, 3, 0, 0, 380, [])), (380, Sum.inl (9, 0, 0, 0, 381, [])), (381, Sum.inl (4, 0, 0, 0, 382, [])), (382, Sum.inl (18, 12, 11, 0, 385, [])), (385, Sum.inl (0, 0, 0, 24, 387, [])), (387, Sum.inl (2, 2, 0, 0, 388, [])), (388, Sum.inl (9, 2, 0, 0, 389, [])), (389, Sum.inl (2, 3, 0, 0, 390, [])), (390, Sum.inl (9, 0, 0, 0, 391, [])), (391, Sum.inl (20, 0, 0, 0, 392, [])), (392, Sum.inr (1, 5, 1, 0, 0, 0, 0)), (395, Sum.inl (21, 0, 0, 0, 396, [])), (396, Sum.inl (8, 3, 0, 1, 399, [])), (399, Sum.inl (15, 0, 0, 0, 365, [])), (402, Sum.inl (8, 2, 0, 1, 405, [])), (405, Sum.inl (15, 0, 0, 0, 355, [])), (408, Sum.inl (0, 0, 0, 0, 409, [])), (409, Sum.inl (5, 2, 0, 0, 410, [])), (410, Sum.inl (2, 2, 0, 0, 411, [])), (411, Sum.inl (4, 0, 0, 0, 412, [])), (412, Sum.inl (18, 12, 3, 0, 415, [])), (415, Sum.inl (16, 1, 418, 0, 455, [])), (418, Sum.inl (0, 0, 0, 0, 419, [])), (419, Sum.inl (5, 3, 0, 0, 420, [])), (420, Sum.inl (2, 3, 0, 0, 421, [])), (421, Sum.inl (0, 0, 0, 24, 423, [])), (423, Sum.inl (16, 1, 426, 0, 449, [])), (426, Sum.inl (4, 0, 0, 0, 427, [])), (427, Sum.inl (18, 12, 39, 0, 430, [])), (430, Sum.inl (0, 0, 0, 24, 432, [])), (432, Sum.inl (2, 2, 0, 0, 433, [])), (433, Sum.inl (9, 2, 0, 0, 434, [])), (434, Sum.inl (2, 3, 0, 0, 435, [])), (435, Sum.inl (9, 0, 0, 0, 436, [])), (436, Sum.inl (4, 0, 0, 0, 437, [])), (437, Sum.inl (18, 12, 9, 0, 440, [])), (440, Sum.inl (2, 2, 0, 0, 441, [])), (441, Sum.inl (20, 0, 0, 0, 442, [])), (442, Sum.inl (21, 0, 0, 0, 443, [])), (443, Sum.inl (8, 3, 0, 1, 446, [])), (446, Sum.inl (15, 0, 0, 0, 420, [])), (449, Sum.inl (8, 2, 0, 1, 452, [])), (452, Sum.inl (15, 0, 0, 0, 410, [])), (455, Sum.inl (0, 0, 0, 0, 456, [])), (456, Sum.inl (27, 0, 0, 0, 457, []))]
set_option maxRecDepth 20000 in
theorem Z_X12_house (l : Launch) : ∀ q ∈ U_X12_house, zTok l O_X12_house F_X12_house q := zU_ok rfl rfl rfl K_X12_house (E_X12_house l)
def plM (S : zS) (P : zD) : Prop := (S 62 1 = (P 0 0 : Int)) ∧ (S 62 2 = (P 0 1 : Int)) ∧ (S 62 3 = (P 0 2 : Int)) ∧ (S 62 4 = (P 0 3 : Int)) ∧ (∀ r, r < P 0 0 → S 63 r = (P 1 r : Int)) ∧ (∀ r, r < P 0 0 → S 64 r = (P 2 r : Int) - 1) ∧ (∀ l, l < P 0 1 → S 65 l = (P 3 l : Int)) ∧ (∀ k, k < 2 * P 0 1 → S 66 k = (P 4 k : Int)) ∧ (∀ f, f < P 0 2 → S 67 f = (P 5 f : Int)) ∧ (∀ a, a < 4 → S 68 a = (P 6 a : Int))
theorem plM.rooms {S : zS} {P : zD} (h : plM S P) : S 62 1 = (P 0 0 : Int) := h.1
theorem plM.lodgers {S : zS} {P : zD} (h : plM S P) : S 62 2 = (P 0 1 : Int) := h.2.1
theorem plM.finders {S : zS} {P : zD} (h : plM S P) : S 62 3 = (P 0 2 : Int) := h.2.2.1
theorem plM.mays {S : zS} {P : zD} (h : plM S P) : S 62 4 = (P 0 3 : Int) := h.2.2.2.1
theorem plM.goods {S : zS} {P : zD} (h : plM S P) : ∀ r, r < P 0 0 → S 63 r = (P 1 r : Int) := h.2.2.2.2.1
theorem plM.whose {S : zS} {P : zD} (h : plM S P) : ∀ r, r < P 0 0 → S 64 r = (P 2 r : Int) - 1 := h.2.2.2.2.2.1
theorem plM.home {S : zS} {P : zD} (h : plM S P) : ∀ l, l < P 0 1 → S 65 l = (P 3 l : Int) := h.2.2.2.2.2.2.1
theorem plM.feet {S : zS} {P : zD} (h : plM S P) : ∀ k, k < 2 * P 0 1 → S 66 k = (P 4 k : Int) := h.2.2.2.2.2.2.2.1
theorem plM.begins {S : zS} {P : zD} (h : plM S P) : ∀ f, f < P 0 2 → S 67 f = (P 5 f : Int) := h.2.2.2.2.2.2.2.2.1
theorem plM.law {S : zS} {P : zD} (h : plM S P) : ∀ a, a < 4 → S 68 a = (P 6 a : Int) := h.2.2.2.2.2.2.2.2.2
theorem plM.fr {S S' : zS} {P : zD} (h : plM S P) (h1 : ∀ j, 1 ≤ j → j ≤ 4 → S' 62 j = S 62 j) (hf : ∀ c, 63 ≤ c → c ≤ 68 → S' c = S c) : plM S' P := by
  unfold plM at h ⊢
  rw [h1 1 (by omega) (by omega), h1 2 (by omega) (by omega), h1 3 (by omega) (by omega), h1 4 (by omega) (by omega), hf 63 (by omega) (by omega), hf 64 (by omega) (by omega), hf 65 (by omega) (by omega), hf 66 (by omega) (by omega), hf 67 (by omega) (by omega), hf 68 (by omega) (by omega)]
  exact h
section
variable {l : Launch} {Q : zR2 → zS → Prop} {S0 : zS} {P : zD} {x : Int}
theorem L1_X12_house {S : zS} (k : zGs l 6 0 0 F_X12_house (zfil S 78 144 0) 132 [(0, .inr (.inl 62)), (1, .inl x), (2, .inl 144)] [] Q) (f : Nat) : ∀ j : Nat, j + f = 144 → zGs l 6 0 0 F_X12_house (zfil S 78 j 0) 112 [(0, .inr (.inl 62)), (1, .inl x), (2, .inl (j : Int))] [] Q := by
  induction f with
  | zero =>
    intro j hj
    have e : j = 144 := by omega
    subst e
    refine zwq_ok (Z_X12_house l) rfl [112, 132] (fun _ _ _ _ _ _ h => h) 400 (Z_X12_house l) ?_
    exact ⟨fun c => by omega, fun c => k⟩
  | succ f ih =>
    intro j hj
    have this := ih (j + 1) (by omega)
    rw [← zfil_s] at this
    refine zwq_ok (Z_X12_house l) rfl [112, 132] (fun _ _ _ _ _ _ h => h) 400 (Z_X12_house l) ?_
    exact ⟨fun c => ⟨j, ⟨rfl, by omega⟩, by omega, this⟩, fun c => by omega⟩
theorem L2_X12_house {T : zD} {n : Nat} (f : Nat) : ∀ (P : zD) (p : Nat) (S1 : zS), n ≤ p + f → rdJ S1 T n P p → frH S1 S0 → (∀ S', mR S0 S' T n (rdA T n f P p) → zGs l 6 0 0 F_X12_house S' 157 [(0, .inr (.inl 62)), (1, .inl x), (2, .inl 144)] [] Q) → zGs l 6 0 0 F_X12_house S1 136 [(0, .inr (.inl 62)), (1, .inl x), (2, .inl 144)] [] Q := by
  induction f with
  | zero =>
    intro P p S1 hp I fr h
    have e := I.tok.2.1
    rw [tkS_end (by omega)] at e
    have k := h S1 ⟨fr, I⟩
    refine zwq_ok (Z_X12_house l) rfl [136, 157] (fun _ _ _ _ _ _ h => h) 400 (Z_X12_house l) ?_
    exact ⟨fun _ => ⟨Or.inr rfl, fun z => absurd z (by decide), fun _ => ⟨fun _ => k, fun z => absurd e z⟩⟩, fun z => absurd I.good z⟩
  | succ f ih =>
    intro P p S1 hp I fr h
    have e := I.tok.2.1
    have h : ∀ S', mR S0 S' T n (if tkS T n p = 0 then .inr (P, p) else match li0 T n P p with
      | .inl e => .inl e
      | .inr (Q, q) => rdA T n f Q q) → zGs l 6 0 0 F_X12_house S' 157 [(0, .inr (.inl 62)), (1, .inl x), (2, .inl 144)] [] Q := h
    refine zwq_ok (Z_X12_house l) rfl [136, 157] (fun _ _ _ _ _ _ h => h) 400 (Z_X12_house l) ?_
    refine ⟨fun _ => ⟨Or.inr rfl, fun z => absurd z (by decide), fun _ => ⟨fun c => ?_, fun c => ?_⟩⟩, fun z => absurd I.good z⟩
    · rw [if_pos (by omega)] at h
      exact h S1 ⟨fr, I⟩
    · rw [if_neg (by omega)] at h
      have hg := li_ok (T := T) I.ok I.le
      refine ⟨T, n, P, p, ⟨rfl, I⟩, fun S2 h2 => ?_⟩
      have f2 := fr.t h2.1
      cases hr : li0 T n P p with
      | inl e =>
        obtain ⟨k, q⟩ := e
        rw [hr] at h2 h
        have hb := h2.2.2.2
        have k9 := h S2 ⟨f2, h2.2⟩
        refine zwq_ok (Z_X12_house l) rfl [136, 157] (fun _ _ _ _ _ _ h => h) 400 (Z_X12_house l) ?_
        exact ⟨fun z => absurd z hb, fun _ => ⟨Or.inl rfl, fun _ => k9, fun z => absurd rfl z⟩⟩
      | inr e =>
        obtain ⟨P2, q⟩ := e
        rw [hr] at h2 h hg
        have hg : pOK P2 ∧ p < q ∧ q ≤ n := hg
        exact ih P2 q S2 (by omega) h2.2 f2 h
set_option maxRecDepth 20000 in
theorem L3_X12_house (h78 : ∀ j, j < 144 → S0 78 j = (P 7 j : Int)) (k : ∀ S, (∀ c, c ≠ 69 → S c = S0 c) → (∀ j, j < 144 → S 69 j = (myP P j : Int)) → zGs l 6 0 0 F_X12_house S 323 [(0, .inr (.inl 62)), (1, .inl x), (2, .inl 144)] [] Q) (f : Nat) : ∀ (j : Nat) (S : zS), j + f = 144 → (∀ c, c ≠ 69 → S c = S0 c) → (∀ i, i < j → S 69 i = (myP P i : Int)) → zGs l 6 0 0 F_X12_house S 285 [(0, .inr (.inl 62)), (1, .inl x), (2, .inl (j : Int))] [] Q := by
  induction f with
  | zero =>
    intro j S hj fr h69
    have e : j = 144 := by omega
    subst e
    have go := k S fr h69
    refine zwq_ok (Z_X12_house l) rfl [285, 323] (fun _ _ _ _ _ _ h => h) 400 (Z_X12_house l) ?_
    exact ⟨fun c => by omega, fun c => go⟩
  | succ f ih =>
    intro j S hj fr h69
    have e := h78 j (by omega)
    rw [← fr 78 (by decide)] at e
    have this := ih (j + 1) (zu S 69 j (myP P j : Int)) (by omega) (fun c hc => (zu_c hc).trans (fr c hc)) (fun i hi => by
      rw [zu_i]
      split
      · rename_i c; rw [c]
      · exact h69 i (by omega))
    unfold myP at this
    refine zwq_ok (Z_X12_house l) rfl [285, 323] (fun _ _ _ _ _ _ h => h) 400 (Z_X12_house l) ?_
    refine ⟨fun c => ⟨j, ⟨rfl, by omega⟩, fun c2 => ⟨j, ⟨rfl, by omega⟩, by omega, ?_⟩, fun c2 => ⟨j, ⟨rfl, by omega⟩, j, ⟨rfl, by omega⟩, by omega, ?_⟩⟩, fun c => by omega⟩
    · rw [if_pos (by omega)] at this; exact this
    · rw [if_neg (by omega), ← e] at this; exact this
def bgM (S : zS) (S0 : zS) (P : zD) (a : Nat) (d : Nat) : Prop := (∀ c, c ≠ 80 → c ≠ 81 → S c = S0 c) ∧ (∀ k, k < 144 → S 80 k = if k < a then (lwD (myP P k) : Int) else S0 80 k) ∧ (∀ k, k < 72 → S 81 k = if k < d then (P 5 (k / 24) : Int) else S0 81 k)
theorem bgM.fr {S : zS} {S0 : zS} {P : zD} {a : Nat} {d : Nat} (h : bgM S S0 P a d) : ∀ c, c ≠ 80 → c ≠ 81 → S c = S0 c := h.1
theorem bgM.day {S : zS} {S0 : zS} {P : zD} {a : Nat} {d : Nat} (h : bgM S S0 P a d) : ∀ k, k < 144 → S 80 k = if k < a then (lwD (myP P k) : Int) else S0 80 k := h.2.1
theorem bgM.looks {S : zS} {S0 : zS} {P : zD} {a : Nat} {d : Nat} (h : bgM S S0 P a d) : ∀ k, k < 72 → S 81 k = if k < d then (P 5 (k / 24) : Int) else S0 81 k := h.2.2
set_option maxRecDepth 20000 in
theorem L4_X12_house (hP : pOK P) (h69 : ∀ j, j < 144 → S0 69 j = (myP P j : Int)) {i : Nat} (hi : i < P 0 1) (k : ∀ S, bgM S S0 P (24 * (i + 1)) 0 → zGs l 6 0 0 F_X12_house S 355 [(0, .inr (.inl 62)), (1, .inl x), (2, .inl ((i : Int) + 1))] [] Q) (f : Nat) : ∀ (t : Nat) (S : zS), t + f = 24 → bgM S S0 P (24 * i + t) 0 → zGs l 6 0 0 F_X12_house S 365 [(0, .inr (.inl 62)), (1, .inl x), (2, .inl (i : Int)), (3, .inl (t : Int))] [] Q := by
  have o := hP.lodgers
  induction f with
  | zero =>
    intro t S ht hS
    have e : t = 24 := by omega
    subst e
    have go := k S (by rw [show 24 * (i + 1) = 24 * i + 24 by omega]; exact hS)
    refine zwq_ok (Z_X12_house l) rfl [355, 365] (fun _ _ _ _ _ _ h => h) 400 (Z_X12_house l) ?_
    refine ⟨fun c => by omega, fun c => ⟨by omega, ?_⟩⟩
    exact zGs.sub (lo := [(0, _), (1, _), (2, _), (3, _)]) go (fun q hq => by simp only [List.mem_cons, List.not_mem_nil, or_false] at hq; rcases hq with rfl | rfl | rfl <;> first | exact .head _ | exact .tail _ (.head _) | exact .tail _ (.tail _ (.head _)) | exact .tail _ (.tail _ (.tail _ (.head _))) | exact .tail _ (.tail _ (.tail _ (.tail _ (.head _)))) | exact .tail _ (.tail _ (.tail _ (.tail _ (.tail _ (.head _))))) | exact .tail _ (.tail _ (.tail _ (.tail _ (.tail _ (.tail _ (.head _)))))) | exact .tail _ (.tail _ (.tail _ (.tail _ (.tail _ (.tail _ (.tail _ (.head _))))))) | exact .tail _ (.tail _ (.tail _ (.tail _ (.tail _ (.tail _ (.tail _ (.tail _ (.head _)))))))) | exact .tail _ (.tail _ (.tail _ (.tail _ (.tail _ (.tail _ (.tail _ (.tail _ (.tail _ (.head _))))))))) | exact .tail _ (.tail _ (.tail _ (.tail _ (.tail _ (.tail _ (.tail _ (.tail _ (.tail _ (.tail _ (.head _)))))))))) | exact .tail _ (.tail _ (.tail _ (.tail _ (.tail _ (.tail _ (.tail _ (.tail _ (.tail _ (.tail _ (.tail _ (.head _))))))))))) | exact .tail _ (.tail _ (.tail _ (.tail _ (.tail _ (.tail _ (.tail _ (.tail _ (.tail _ (.tail _ (.tail _ (.tail _ (.head _)))))))))))) | exact .tail _ (.tail _ (.tail _ (.tail _ (.tail _ (.tail _ (.tail _ (.tail _ (.tail _ (.tail _ (.tail _ (.tail _ (.tail _ (.head _))))))))))))))
  | succ f ih =>
    intro t S ht hS
    have m1 := myP_1 hP (24 * i + t)
    have em := h69 (24 * i + t) (by omega)
    rw [← hS.fr 69 (by decide) (by decide)] at em
    have this := ih (t + 1) (zu S 80 (24 * i + t) (lwD (myP P (24 * i + t)) : Int)) (by omega) ⟨fun c h1 h2 => (zu_c h1).trans (hS.fr c h1 h2), fun k hk => by
      rw [zu_i]
      split
      · rename_i c; rw [c, if_pos (by omega)]
      · rw [hS.day k hk]
        by_cases c : k < 24 * i + t
        · rw [if_pos c, if_pos (by omega)]
        · rw [if_neg c, if_neg (by omega)], fun k hk => by rw [zuN (by omega)]; exact hS.looks k hk⟩
    refine zwq_ok (Z_X12_house l) rfl [355, 365] (fun _ _ _ _ _ _ h => h) 400 (Z_X12_house l) ?_
    refine ⟨fun c => ⟨by omega, by omega, by omega, by omega, 24 * i + t, ⟨by omega, by omega⟩, myP P (24 * i + t), lwD (myP P (24 * i + t)), ⟨em, by omega, lw_get m1.1 m1.2⟩, 24 * i + t, ⟨by omega, by omega⟩, by omega, ?_⟩, fun c => by omega⟩
    exact this
set_option maxRecDepth 20000 in
theorem L5_X12_house (hP : pOK P) (hl : S0 62 2 = (P 0 1 : Int)) (h69 : ∀ j, j < 144 → S0 69 j = (myP P j : Int)) (k : ∀ S, bgM S S0 P (24 * P 0 1) 0 → zGs l 6 0 0 F_X12_house S 408 [(0, .inr (.inl 62)), (1, .inl x), (2, .inl (P 0 1 : Int))] [] Q) (f : Nat) : ∀ (i : Nat) (S : zS), i + f = P 0 1 → bgM S S0 P (24 * i) 0 → zGs l 6 0 0 F_X12_house S 355 [(0, .inr (.inl 62)), (1, .inl x), (2, .inl (i : Int))] [] Q := by
  induction f with
  | zero =>
    intro i S hi hS
    have e : i = P 0 1 := by omega
    subst e
    have el : S 62 2 = (P 0 1 : Int) := by rw [hS.fr 62 (by decide) (by decide)]; exact hl
    have go := k S hS
    refine zwq_ok (Z_X12_house l) rfl [355, 365, 408] (fun _ _ _ _ _ _ h => h) 400 (Z_X12_house l) ?_
    exact ⟨fun c => by omega, fun c => go⟩
  | succ f ih =>
    intro i S hi hS
    have el : S 62 2 = (P 0 1 : Int) := by rw [hS.fr 62 (by decide) (by decide)]; exact hl
    have go := L4_X12_house (l := l) (Q := Q) (x := x) hP h69 (i := i) (by omega) (fun S' hS' => ih (i + 1) S' (by omega) hS') 24 0 S (by omega) hS
    refine zwq_ok (Z_X12_house l) rfl [355, 365, 408] (fun _ _ _ _ _ _ h => h) 400 (Z_X12_house l) ?_
    exact ⟨fun c => go, fun c => by omega⟩
set_option maxRecDepth 20000 in
theorem L6_X12_house {a : Nat} (hP : pOK P) (h67 : ∀ f, f < P 0 2 → S0 67 f = (P 5 f : Int)) {i : Nat} (hi : i < P 0 2) (k : ∀ S, bgM S S0 P a (24 * (i + 1)) → zGs l 6 0 0 F_X12_house S 410 [(0, .inr (.inl 62)), (1, .inl x), (2, .inl ((i : Int) + 1))] [] Q) (f : Nat) : ∀ (t : Nat) (S : zS), t + f = 24 → bgM S S0 P a (24 * i + t) → zGs l 6 0 0 F_X12_house S 420 [(0, .inr (.inl 62)), (1, .inl x), (2, .inl (i : Int)), (3, .inl (t : Int))] [] Q := by
  have o := hP.finders
  induction f with
  | zero =>
    intro t S ht hS
    have e : t = 24 := by omega
    subst e
    have go := k S (by rw [show 24 * (i + 1) = 24 * i + 24 by omega]; exact hS)
    refine zwq_ok (Z_X12_house l) rfl [410, 420] (fun _ _ _ _ _ _ h => h) 400 (Z_X12_house l) ?_
    refine ⟨fun c => by omega, fun c => ⟨by omega, ?_⟩⟩
    exact zGs.sub (lo := [(0, _), (1, _), (2, _), (3, _)]) go (fun q hq => by simp only [List.mem_cons, List.not_mem_nil, or_false] at hq; rcases hq with rfl | rfl | rfl <;> first | exact .head _ | exact .tail _ (.head _) | exact .tail _ (.tail _ (.head _)) | exact .tail _ (.tail _ (.tail _ (.head _))) | exact .tail _ (.tail _ (.tail _ (.tail _ (.head _)))) | exact .tail _ (.tail _ (.tail _ (.tail _ (.tail _ (.head _))))) | exact .tail _ (.tail _ (.tail _ (.tail _ (.tail _ (.tail _ (.head _)))))) | exact .tail _ (.tail _ (.tail _ (.tail _ (.tail _ (.tail _ (.tail _ (.head _))))))) | exact .tail _ (.tail _ (.tail _ (.tail _ (.tail _ (.tail _ (.tail _ (.tail _ (.head _)))))))) | exact .tail _ (.tail _ (.tail _ (.tail _ (.tail _ (.tail _ (.tail _ (.tail _ (.tail _ (.head _))))))))) | exact .tail _ (.tail _ (.tail _ (.tail _ (.tail _ (.tail _ (.tail _ (.tail _ (.tail _ (.tail _ (.head _)))))))))) | exact .tail _ (.tail _ (.tail _ (.tail _ (.tail _ (.tail _ (.tail _ (.tail _ (.tail _ (.tail _ (.tail _ (.head _))))))))))) | exact .tail _ (.tail _ (.tail _ (.tail _ (.tail _ (.tail _ (.tail _ (.tail _ (.tail _ (.tail _ (.tail _ (.tail _ (.head _)))))))))))) | exact .tail _ (.tail _ (.tail _ (.tail _ (.tail _ (.tail _ (.tail _ (.tail _ (.tail _ (.tail _ (.tail _ (.tail _ (.tail _ (.head _))))))))))))))
  | succ f ih =>
    intro t S ht hS
    have eb := h67 i hi
    rw [← hS.fr 67 (by decide) (by decide)] at eb
    have this := ih (t + 1) (zu S 81 (24 * i + t) (P 5 i : Int)) (by omega) ⟨fun c h1 h2 => (zu_c h2).trans (hS.fr c h1 h2), fun k hk => by rw [zuN (by omega)]; exact hS.day k hk, fun k hk => by
      rw [zu_i]
      split
      · rename_i c; rw [c, if_pos (by omega), show (24 * i + t) / 24 = i by omega]
      · rw [hS.looks k hk]
        by_cases c : k < 24 * i + t
        · rw [if_pos c, if_pos (by omega)]
        · rw [if_neg c, if_neg (by omega)]⟩
    rw [← eb] at this
    refine zwq_ok (Z_X12_house l) rfl [410, 420] (fun _ _ _ _ _ _ h => h) 400 (Z_X12_house l) ?_
    refine ⟨fun c => ⟨by omega, by omega, i, ⟨rfl, by omega⟩, 24 * i + t, ⟨by omega, by omega⟩, by omega, ?_⟩, fun c => by omega⟩
    exact this
set_option maxRecDepth 20000 in
theorem L7_X12_house {a : Nat} (hP : pOK P) (hl : S0 62 3 = (P 0 2 : Int)) (h67 : ∀ f, f < P 0 2 → S0 67 f = (P 5 f : Int)) (k : ∀ S, bgM S S0 P a (24 * P 0 2) → Q (.inl (some (.inl 0))) S) (f : Nat) : ∀ (i : Nat) (S : zS), i + f = P 0 2 → bgM S S0 P a (24 * i) → zGs l 6 0 0 F_X12_house S 410 [(0, .inr (.inl 62)), (1, .inl x), (2, .inl (i : Int))] [] Q := by
  induction f with
  | zero =>
    intro i S hi hS
    have e : i = P 0 2 := by omega
    subst e
    have el : S 62 3 = (P 0 2 : Int) := by rw [hS.fr 62 (by decide) (by decide)]; exact hl
    have go := k S hS
    refine zwq_ok (Z_X12_house l) rfl [410, 420] (fun _ _ _ _ _ _ h => h) 400 (Z_X12_house l) ?_
    exact ⟨fun c => by omega, fun c => go⟩
  | succ f ih =>
    intro i S hi hS
    have el : S 62 3 = (P 0 2 : Int) := by rw [hS.fr 62 (by decide) (by decide)]; exact hl
    have go := L6_X12_house (l := l) (Q := Q) (x := x) hP h67 (i := i) (by omega) (fun S' hS' => ih (i + 1) S' (by omega) hS') 24 0 S (by omega) hS
    refine zwq_ok (Z_X12_house l) rfl [410, 420] (fun _ _ _ _ _ _ h => h) 400 (Z_X12_house l) ?_
    exact ⟨fun c => go, fun c => by omega⟩
end
