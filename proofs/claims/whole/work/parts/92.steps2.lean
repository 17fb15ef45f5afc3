/-! the house: the model's steps -/
theorem rdM.bt {S : zS} {T : zD} {n p : Nat} (h : rdM S T n) (hp : p < n) : btN T n p = T 1 p := if_pos hp
def B_X12_steps : List (Nat × zC) := [(16, (0, 0, 1, 0, 0, 0, 12)), (29, (0, 0, 1, 0, 0, 0, 12)), (73, (0, 0, 1, 0, 0, 0, 12)), (97, (1, 1, 1, 0, 0, 0, 0)), (108, (0, 0, 1, 0, 0, 0, 12)), (111, (1, 1, 1, 0, 0, 0, 0)), (143, (0, 0, 1, 0, 0, 0, 12)), (176, (1, 2, 1, 0, 0, 0, 0)), (187, (0, 0, 1, 0, 0, 0, 12)), (190, (1, 2, 1, 0, 0, 0, 0)), (222, (0, 0, 1, 0, 0, 0, 12))]
def O_X12_steps : zO := fun j a S K => match j with
  | 0 => wp_X12_byteAt a S K
  | 1 => wp_X12_isLetter a S K
  | 2 => wp_X12_isDigit a S K
  | _ => False
theorem E_X12_steps (l : Launch) : ∀ q ∈ B_X12_steps, zcok l O_X12_steps F_X12_steps q.1 q.2 := List.forall_mem_cons.mpr ⟨⟨150, yX12_byteAt, cX12_byteAt, 2, some .int, by decide +kernel, C_12_150, W_X12_byteAt, I_X12_byteAt, S_X12_byteAt, rfl, rfl, R_X12_byteAt l⟩, List.forall_mem_cons.mpr ⟨⟨150, yX12_byteAt, cX12_byteAt, 2, some .int, by decide +kernel, C_12_150, W_X12_byteAt, I_X12_byteAt, S_X12_byteAt, rfl, rfl, R_X12_byteAt l⟩, List.forall_mem_cons.mpr ⟨⟨150, yX12_byteAt, cX12_byteAt, 2, some .int, by decide +kernel, C_12_150, W_X12_byteAt, I_X12_byteAt, S_X12_byteAt, rfl, rfl, R_X12_byteAt l⟩, List.forall_mem_cons.mpr ⟨⟨167, yX12_isLetter, cX12_isLetter, 1, some .boolean, by decide +kernel, C_12_167, W_X12_isLetter, I_X12_isLetter, rfl, R_X12_isLetter l⟩, List.forall_mem_cons.mpr ⟨⟨150, yX12_byteAt, cX12_byteAt, 2, some .int, by decide +kernel, C_12_150, W_X12_byteAt, I_X12_byteAt, S_X12_byteAt, rfl, rfl, R_X12_byteAt l⟩, List.forall_mem_cons.mpr ⟨⟨167, yX12_isLetter, cX12_isLetter, 1, some .boolean, by decide +kernel, C_12_167, W_X12_isLetter, I_X12_isLetter, rfl, R_X12_isLetter l⟩, List.forall_mem_cons.mpr ⟨⟨150, yX12_byteAt, cX12_byteAt, 2, some .int, by decide +kernel, C_12_150, W_X12_byteAt, I_X12_byteAt, S_X12_byteAt, rfl, rfl, R_X12_byteAt l⟩, List.forall_mem_cons.mpr ⟨⟨171, yX12_isDigit, cX12_isDigit, 1, some .boolean, by decide +kernel, C_12_171, W_X12_isDigit, I_X12_isDigit, rfl, R_X12_isDigit l⟩, List.forall_mem_cons.mpr ⟨⟨150, yX12_byteAt, cX12_byteAt, 2, some .int, by decide +kernel, C_12_150, W_X12_byteAt, I_X12_byteAt, S_X12_byteAt, rfl, rfl, R_X12_byteAt l⟩, List.forall_mem_cons.mpr ⟨⟨171, yX12_isDigit, cX12_isDigit, 1, some .boolean, by decide +kernel, C_12_171, W_X12_isDigit, I_X12_isDigit, rfl, R_X12_isDigit l⟩, List.forall_mem_cons.mpr ⟨⟨150, yX12_byteAt, cX12_byteAt, 2, some .int, by decide +kernel, C_12_150, W_X12_byteAt, I_X12_byteAt, S_X12_byteAt, rfl, rfl, R_X12_byteAt l⟩, fun _ h => by cases h⟩⟩⟩⟩⟩⟩⟩⟩⟩⟩⟩
def U_X12_steps : List (Nat × zE) := [(0, Sum.inl (4, 0, 0, 0, 1, [])), (1, Sum.inl (18, 12, 18, 0, 4, [])), (4, Sum.inl (4, 0, 0, 0, 5, [])), (5, Sum.inl (18, 12, 17, 0, 8, [])), (8, Sum.inl (16, 1, 11, 0, 50, [])), (11, Sum.inl (4, 0, 0, 0, 12, [])), (12, Sum.inl (4, 0, 0, 0, 13, [])), (13, Sum.inl (18, 12, 18, 0, 16, [])), (16, Sum.inr (0, 0, 1, 0, 0, 0, 12)), (19, Sum.inl (0, 0, 0, 32, 21, [])), (21, Sum.inl (16, 0, 37, 0, 24, [])), (24, Sum.inl (4, 0, 0, 0, 25, [])), (25, Sum.inl (4, 0, 0, 0, 26, [])), (26, Sum.inl (18, 12, 18, 0, 29, [])), (29, Sum.inr (0, 0, 1, 0, 0, 0, 12)), (32, Sum.inl (0, 0, 0, 10, 34, [])), (34, Sum.inl (16, 0, 37, 0, 50, [])), (37, Sum.inl (4, 0, 0, 0, 38, [])), (38, Sum.inl (12, 0, 0, 0, 39, [])), (39, Sum.inl (18, 12, 18, 0, 42, [])), (42, Sum.inl (0, 0, 0, 1, 43, [])), (43, Sum.inl (9, 0, 0, 0, 44, [])), (44, Sum.inl (19, 12, 18, 0, 47, [])), (47, Sum.inl (15, 0, 0, 0, 0, [])), (50, Sum.inl (4, 0, 0, 0, 51, [])), (51, Sum.inl (4, 0, 0, 0, 52, [])), (52, Sum.inl (18, 12, 18, 0, 55, [])), (55, Sum.inl (19, 12, 20, 0, 58, [])), (58, Sum.inl (4, 0, 0, 0, 59, [])), (59, Sum.inl (1, 0, 0, 0, 60, [])), (60, Sum.inl (19, 12, 23, 0, 63, [])), (63, Sum.inl (4, 0, 0, 0, 64, [])), (64, Sum.inl (0, 0, 0, 0, 65, [])), (65, Sum.inl (19, 12, 22, 0, 68, [])), (68, Sum.inl (4, 0, 0, 0, 69, [])), (69, Sum.inl (4, 0, 0, 0, 70, [])), (70, Sum.inl (18, 12, 18, 0, 73, [])), (73, Sum.inr (0, 0, 1, 0, 0, 0, 12)), (76, Sum.inl (5, 1, 0, 0, 77, [])), (77, Sum.inl (4, 0, 0, 0, 78, [])), (78, Sum.inl (18, 12, 18, 0, 81, [])), (81, Sum.inl (4, 0, 0, 0, 82, [])), (82, Sum.inl (18, 12, 17, 0, 85, [])), (85, Sum.inl (16, 1, 96, 0, 88, [])), (88, Sum.inl (4, 0, 0, 0, 89, [])), (89, Sum.inl (0, 0, 0, 0, 90, [])), (90, Sum.inl (19, 12, 19, 0, 93, [])), (93, Sum.inl (15, 0, 0, 0, 278, [])), (96, Sum.inl (2, 1, 0, 0, 97, [])), (97, Sum.inr (1, 1, 1, 0, 0, 0, 0)), (100, Sum.inl (17, 0, 175, 0, 103, [])), (103, Sum.inl (4, 0, 0, 0, 104, [])), (104, Sum.inl (4, 0, 0, 0, 105, [])), (105, Sum.inl (18, 12, 18, 0, 108, [])), (108, Sum.inr (0, 0, 1, 0, 0, 0, 12)), (111, Sum.inr (1, 1, 1, 0, 0, 0, 0)), (114, Sum.inl (17, 0, 167, 0, 117, [])), (117, Sum.inl (4, 0, 0, 0, 118, [])), (118, Sum.inl (18, 12, 18, 0, 121, [])), (121, Sum.inl (4, 0, 0, 0, 122, [])), (122, Sum.inl (18, 12, 20, 0, 125, [])), (125, Sum.inl (9, 1, 0, 0, 126, [])), (126, Sum.inl (0, 0, 0, 6, 128, [])), (128, Sum.inl (16, 1, 131, 0, 154, [])), (131, Sum.inl (4, 0, 0, 0, 132, [])), (132, Sum.inl (4, 0, 0, 0, 133, [])), (133, Sum.inl (18, 12, 23, 0, 136, [])), (136, Sum.inl (0, 0, 0, 5, 137, [])), (137, Sum.inl (11, 3, 0, 0, 138, [])), (138, Sum.inl (4, 0, 0, 0, 139, [])), (139, Sum.inl (4, 0, 0, 0, 140, [])), (140, Sum.inl (18, 12, 18, 0, 143, [])), (143, Sum.inr (0, 0, 1, 0, 0, 0, 12)), (146, Sum.inl (0, 0, 0, 96, 148, [])), (148, Sum.inl (9, 1, 0, 0, 149, [])), (149, Sum.inl (10, 0, 0, 0, 150, [])), (150, Sum.inl (11, 0, 0, 0, 151, [])), (151, Sum.inl (19, 12, 23, 0, 154, [])), (154, Sum.inl (4, 0, 0, 0, 155, [])), (155, Sum.inl (12, 0, 0, 0, 156, [])), (156, Sum.inl (18, 12, 18, 0, 159, [])), (159, Sum.inl (0, 0, 0, 1, 160, [])), (160, Sum.inl (9, 0, 0, 0, 161, [])), (161, Sum.inl (19, 12, 18, 0, 164, [])), (164, Sum.inl (15, 0, 0, 0, 103, [])), (167, Sum.inl (4, 0, 0, 0, 168, [])), (168, Sum.inl (0, 0, 0, 1, 169, [])), (169, Sum.inl (19, 12, 19, 0, 172, [])), (172, Sum.inl (15, 0, 0, 0, 278, [])), (175, Sum.inl (2, 1, 0, 0, 176, [])), (176, Sum.inr (1, 2, 1, 0, 0, 0, 0)), (179, Sum.inl (17, 0, 253, 0, 182, [])), (182, Sum.inl (4, 0, 0, 0, 183, [])), (183, Sum.inl (4, 0, 0, 0, 184, [])), (184, Sum.inl (18, 12, 18, 0, 187, [])), (187, Sum.inr (0, 0, 1, 0, 0, 0, 12)), (190, Sum.inr (1, 2, 1, 0, 0, 0, 0)), (193, Sum.inl (17, 0, 245, 0, 196, [])), (196, Sum.inl (4, 0, 0, 0, 197, [])), (197, Sum.inl (18, 12, 18, 0, 200, [])), (200, Sum.inl (4, 0, 0, 0, 201, [])), (201, Sum.inl (18, 12, 20, 0, 204, [])), (204, Sum.inl (9, 1, 0, 0, 205, [])), (205, Sum.inl (0, 0, 0, 3, 206, [])), (206, Sum.inl (16, 1, 209, 0, 232, [])), (209, Sum.inl (4, 0, 0, 0, 210, [])), (210, Sum.inl (0, 0, 0, 10, 212, [])), (212, Sum.inl (4, 0, 0, 0, 213, [])), (213, Sum.inl (18, 12, 22, 0, 216, [])), (216, Sum.inl (9, 2, 0, 0, 217, [])), (217, Sum.inl (4, 0, 0, 0, 218, [])), (218, Sum.inl (4, 0, 0, 0, 219, [])), (219, Sum.inl (18, 12, 18, 0, 222, [])), (222, Sum.inr (0, 0, 1, 0, 0, 0, 12)), (225, Sum.inl (9, 0, 0, 0, 226, [])), (226, Sum.inl (0, 0, 0, 48, 228, [])), (228, Sum.inl (9, 1, 0, 0, 229, [])), (229, Sum.inl (19, 12, 22, 0, 232, [])), (232, Sum.inl (4, 0, 0, 0, 233, [])), (233, Sum.inl (12, 0, 0, 0, 234, [])), (234, Sum.inl (18, 12, 18, 0, 237, [])), (237, Sum.inl (0, 0, 0, 1, 238, [])), (238, Sum.inl (9, 0, 0, 0, 239, [])), (239, Sum.inl (19, 12, 18, 0, 242, [])), (242, Sum.inl (15, 0, 0, 0, 182, [])), (245, Sum.inl (4, 0, 0, 0, 246, [])), (246, Sum.inl (0, 0, 0, 2, 247, [])), (247, Sum.inl (19, 12, 19, 0, 250, [])), (250, Sum.inl (15, 0, 0, 0, 278, [])), (253, Sum.inl (4, 0, 0, 0, 254, [])), (254, Sum.inl (12, 0, 0, 0, 255, [])), (255, Sum.inl (18, 12, 18, 0, 258, [])), (258, Sum.inl (0, 0, 0, 1, 259, [])), (259, Sum.inl (9, 0, 0, 0, 260, [])), (260, Sum.inl (19, 12, 18, 0, 263, [])), (263, Sum.inl (4, 0, 0, 0, 264, [])), (264, Sum.inl (2, 1, 0, 0, 265, [])), (265, Sum.inl (0, 0, 0, 59, 267, [])), (267, Sum.inl (16, 0, 270, 0, 274, [])), (270, Sum.inl (0, 0, 0, 3, 271, [])), (271, Sum.inl (15, 0, 0, 0, 275, [])), (274, Sum.inl (0, 0, 0, 4, 275, [])), (275, Sum.inl (19, 12, 19, 0, 278, [])), (278, Sum.inl (4, 0, 0, 0, 279, [])), (279, Sum.inl (4, 0, 0, 0, 280, [])), (280, Sum.inl (18, 12, 18, 0, 283, [])), (283, Sum.inl (4, 0, 0, 0, 284, [])), (284, Sum.inl (18, 12, 20, 0, 287, [])), (287, Sum.inl (9, 1, 0, 0, 288, [])), (288, Sum.inl (19, 12, 21, 0, 291, [])), (291, Sum.inl (29, 0, 0, 0, 292, []))]
set_option maxRecDepth 20000 in
theorem Z_X12_steps (l : Launch) : ∀ q ∈ U_X12_steps, zTok l O_X12_steps F_X12_steps q := zU_ok rfl rfl rfl K_X12_steps (E_X12_steps l)
section
variable {lc : Launch} {S0 : zS} {Q : zR2 → zS → Prop} {T : zD} {n : Nat}
theorem L1_X12_steps {q0 : Nat} (hT : rdM S0 T n) (k : ∀ S, S 62 18 = (q0 : Int) → frY S S0 → (q0 < n → spB T q0 = false) → q0 ≤ n → zGs lc 1 0 0 F_X12_steps S 50 [(0, .inr (.inl 62))] [] Q) (f : Nat) : ∀ p S, p + f = n → S 62 18 = (p : Int) → frY S S0 → skS T f p = q0 → zGs lc 1 0 0 F_X12_steps S 0 [(0, .inr (.inl 62))] [] Q := by
  induction f with
  | zero =>
    intro p S hp h3 hf hq
    have hq : p = q0 := hq
    subst hq
    obtain ⟨e2, hn, hb, h256⟩ := hT.fy hf
    refine zwq_ok (Z_X12_steps lc) rfl [0, 50] (fun _ _ _ _ _ _ h => h) 400 (Z_X12_steps lc) ?_
    exact ⟨fun c => by omega, fun c => k S h3 hf (fun z => by omega) (by omega)⟩
  | succ f ih =>
    intro p S hp h3 hf hq
    have hq : (bif spB T p then skS T f (p + 1) else p) = q0 := hq
    have hM := hT.fy hf
    obtain ⟨e2, hn, hb, h256⟩ := id hM
    have eb := hM.bt (p := p) (by omega)
    have nx : (T 1 p = 32 ∨ T 1 p = 10) → zGs lc 1 0 0 F_X12_steps S 37 [(0, .inr (.inl 62))] [] Q := fun c => by
      rw [spB_t.mpr c] at hq
      have this := ih (p + 1) (zu S 62 18 ((p : Int) + 1)) (by omega) zuE (hf.u (by omega)) hq
      rw [← h3] at this
      refine zwq_ok (Z_X12_steps lc) rfl [0, 50] (fun _ _ _ _ _ _ h => h) 400 (Z_X12_steps lc) ?_
      exact ⟨by omega, this⟩
    refine zwq_ok (Z_X12_steps lc) rfl [0, 37, 50] (fun _ _ _ _ _ _ h => h) 400 (Z_X12_steps lc) ?_
    refine ⟨fun c => ⟨T, n, p, ⟨rfl, hM, h3⟩, fun c1 => nx (by omega), fun c1 => ⟨T, n, p, ⟨rfl, hM, h3⟩, fun c2 => nx (by omega), fun c2 => ?_⟩⟩, fun c => by omega⟩
    have hs : spB T p = false := spB_f (by omega)
    rw [hs] at hq
    have hq : p = q0 := hq
    subst hq
    exact k S h3 hf (fun _ => hs) (by omega)
theorem L2_X12_steps {q e : Nat} {b : Int} (hT : rdM S0 T n) (k : ∀ S, S 62 18 = (e : Int) → S 62 20 = (q : Int) → S 1062 23 = (wpS T (min 6 (e - q)) q 0 : Int) → frY S S0 → zGs lc 1 0 0 F_X12_steps S 167 [(0, .inr (.inl 62)), (1, .inl b)] [] Q) (f : Nat) : ∀ i S, i + f = n → q ≤ i → S 62 18 = (i : Int) → S 62 20 = (q : Int) → S 1062 23 = (wpS T (min 6 (i - q)) q 0 : Int) → wpS T (min 6 (i - q)) q 0 < 32 ^ (min 6 (i - q)) → frY S S0 → rwS T 97 122 f i = e → zGs lc 1 0 0 F_X12_steps S 103 [(0, .inr (.inl 62)), (1, .inl b)] [] Q := by
  induction f with
  | zero =>
    intro i S hi hq h3 h20 h23 hw hf he
    have he : i = e := he
    subst he
    have hM := hT.fy hf
    obtain ⟨e2, hn, hb, h256⟩ := id hM
    have eb : btN T n i = 0 := if_neg (by omega)
    refine zwq_ok (Z_X12_steps lc) rfl [103, 167] (fun _ _ _ _ _ _ h => h) 400 (Z_X12_steps lc) ?_
    refine ⟨T, n, i, ⟨rfl, hM, h3⟩, btN T n i, rfl, fun c => k S h3 h20 h23 hf, fun c => ?_⟩
    rw [eb] at c
    exact absurd rfl c
  | succ f ih =>
    intro i S hi hq h3 h20 h23 hw hf he
    have he : (bif tin T 97 122 i then rwS T 97 122 f (i + 1) else i) = e := he
    have hM := hT.fy hf
    obtain ⟨e2, hn, hb, h256⟩ := id hM
    have eb := hM.bt (p := i) (by omega)
    by_cases t : tin T 97 122 i = true
    · rw [t] at he
      have t := tin_t.mp t
      have nx : ∀ S1, S1 62 18 = (i : Int) → S1 62 20 = (q : Int) → S1 1062 23 = (wpS T (min 6 (i + 1 - q)) q 0 : Int) → wpS T (min 6 (i + 1 - q)) q 0 < 32 ^ (min 6 (i + 1 - q)) → frY S1 S0 → zGs lc 1 0 0 F_X12_steps S1 154 [(0, .inr (.inl 62)), (1, .inl b)] [] Q := fun S1 g1 g2 g3 g4 g5 => by
        have this := ih (i + 1) (zu S1 62 18 ((i : Int) + 1)) (by omega) (by omega) zuE (by rw [zuN (by omega)]; exact g2) (by rw [zuN (by omega)]; exact g3) g4 (g5.u (by omega)) he
        rw [← g1] at this
        refine zwq_ok (Z_X12_steps lc) rfl [103, 167] (fun _ _ _ _ _ _ h => h) 400 (Z_X12_steps lc) ?_
        exact ⟨by omega, this⟩
      refine zwq_ok (Z_X12_steps lc) rfl [103, 154, 167] (fun _ _ _ _ _ _ h => h) 400 (Z_X12_steps lc) ?_
      refine ⟨T, n, i, ⟨rfl, hM, h3⟩, btN T n i, rfl, fun c => ?_, fun c => ⟨by omega, fun c2 => ⟨T, n, i, ⟨rfl, hM, h3⟩, by omega, ?_⟩, fun c2 => ?_⟩⟩
      · rw [eb, inB_t.mpr t] at c
        exact absurd c (by decide)
      · have em : min 6 (i + 1 - q) = min 6 (i - q) + 1 := by omega
        have ei : q + min 6 (i - q) = i := by omega
        have hp : 32 ^ (min 6 (i - q)) ≤ 32 ^ 5 := Nat.pow_le_pow_right (by decide) (by omega)
        have es := wpS_snoc T (min 6 (i - q)) q 0
        rw [← em, ei] at es
        have ez := zwd (w := wpS T (min 6 (i - q)) q 0) (d := T 1 i - 96) (by omega) (by omega)
        rw [← es] at ez
        rw [← h23] at ez
        have go := nx (zu S 1062 23 (wpS T (min 6 (i + 1 - q)) q 0 : Int)) (by rw [zuN (by omega)]; exact h3) (by rw [zuN (by omega)]; exact h20) zuE (by rw [es, em, Nat.pow_succ]; omega) hf.w
        rw [← ez, show ((T 1 i - 96 : Nat) : Int) = (btN T n i : Int) - 96 by omega] at go
        exact go
      · rw [show min 6 (i - q) = min 6 (i + 1 - q) by omega] at h23 hw
        exact nx S h3 h20 h23 hw hf
    · have t2 : tin T 97 122 i = false := by
        cases hz : tin T 97 122 i
        · rfl
        · exact absurd hz t
      rw [t2] at he
      have he : i = e := he
      subst he
      refine zwq_ok (Z_X12_steps lc) rfl [103, 154, 167] (fun _ _ _ _ _ _ h => h) 400 (Z_X12_steps lc) ?_
      refine ⟨T, n, i, ⟨rfl, hM, h3⟩, btN T n i, rfl, fun c => k S h3 h20 h23 hf, fun c => ?_⟩
      rw [eb, show inB 97 122 (T 1 i) = false from t2] at c
      exact absurd rfl c
end
