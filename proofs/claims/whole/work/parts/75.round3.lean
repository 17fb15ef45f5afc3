/-! round: the model's best walk -/
def B_X12_round : List (Nat × zC) := [(7, (0, 0, 1, 1, 0, 0, 12)), (15, (0, 1, 1, 1, 0, 0, 12)), (26, (1, 2, 3, 0, 0, 0, 0)), (46, (0, 3, 2, 0, 0, 0, 12)), (101, (0, 4, 2, 3, 0, 0, 12)), (187, (0, 5, 1, 1, 0, 0, 12)), (212, (0, 6, 2, 0, 0, 0, 12)), (239, (0, 7, 2, 0, 0, 0, 12)), (261, (0, 8, 1, 0, 0, 0, 12))]
def O_X12_round : zO := fun j a S K => match j with
  | 0 => wp_X12_isRoom a S K
  | 1 => wp_X12_isHour a S K
  | 2 => wp_X12_within a S K
  | 3 => wp_X12_right a S K
  | 4 => wp_X12_chanceOf a S K
  | 5 => wp_X12_all a S K
  | 6 => wp_X12_copies a S K
  | 7 => wp_X12_bestOf a S K
  | 8 => wp_X12_turnsPath a S K
  | _ => False
theorem E_X12_round (l : Launch) : ∀ q ∈ B_X12_round, zcok l O_X12_round F_X12_round q.1 q.2 := List.forall_mem_cons.mpr ⟨⟨287, yX12_isRoom, cX12_isRoom, 2, some .boolean, by decide +kernel, C_12_287, W_X12_isRoom, I_X12_isRoom, S_X12_isRoom, rfl, rfl, R_X12_isRoom l⟩, List.forall_mem_cons.mpr ⟨⟨305, yX12_isHour, cX12_isHour, 2, some .boolean, by decide +kernel, C_12_305, W_X12_isHour, I_X12_isHour, S_X12_isHour, rfl, rfl, R_X12_isHour l⟩, List.forall_mem_cons.mpr ⟨⟨283, yX12_within, cX12_within, 3, some .boolean, by decide +kernel, C_12_283, W_X12_within, I_X12_within, rfl, R_X12_within l⟩, List.forall_mem_cons.mpr ⟨⟨241, yX12_right, cX12_right, 3, some .boolean, by decide +kernel, C_12_241, W_X12_right, I_X12_right, S_X12_right, rfl, rfl, R_X12_right l⟩, List.forall_mem_cons.mpr ⟨⟨371, yX12_chanceOf, cX12_chanceOf, 6, some .int, by decide +kernel, C_12_371, W_X12_chanceOf, I_X12_chanceOf, S_X12_chanceOf, rfl, rfl, R_X12_chanceOf l⟩, List.forall_mem_cons.mpr ⟨⟨377, yX12_all, cX12_all, 5, some .int, by decide +kernel, C_12_377, W_X12_all, I_X12_all, S_X12_all, rfl, rfl, R_X12_all l⟩, List.forall_mem_cons.mpr ⟨⟨260, yX12_copies, cX12_copies, 4, none, by decide +kernel, C_12_260, W_X12_copies, I_X12_copies, S_X12_copies, rfl, rfl, R_X12_copies l⟩, List.forall_mem_cons.mpr ⟨⟨374, yX12_bestOf, cX12_bestOf, 5, some .int, by decide +kernel, C_12_374, W_X12_bestOf, I_X12_bestOf, S_X12_bestOf, rfl, rfl, R_X12_bestOf l⟩, List.forall_mem_cons.mpr ⟨⟨380, yX12_turnsPath, cX12_turnsPath, 5, some .boolean, by decide +kernel, C_12_380, W_X12_turnsPath, I_X12_turnsPath, S_X12_turnsPath, rfl, rfl, R_X12_turnsPath l⟩, fun _ h => by cases h⟩⟩⟩⟩⟩⟩⟩⟩⟩
def U_X12_round : List (Nat × zE) := [(0, Sum.inl (4, 0, 0, 0, 1, [])), (1, Sum.inl (0, 0, 0, 0, 2, [])), (2, Sum.inl (19, 12, 0, 0, 5, [])), (5, Sum.inl (4, 0, 0, 0, 6, [])), (6, Sum.inl (2, 1, 0, 0, 7, [])), (7, Sum.inr (0, 0, 1, 1, 0, 0, 12)), (10, Sum.inl (17, 0, 52, 0, 13, [])), (13, Sum.inl (4, 0, 0, 0, 14, [])), (14, Sum.inl (2, 2, 0, 0, 15, [])), (15, Sum.inr (0, 1, 1, 1, 0, 0, 12)), (18, Sum.inl (17, 0, 52, 0, 21, [])), (21, Sum.inl (4, 0, 0, 0, 22, [])), (22, Sum.inl (2, 3, 0, 0, 23, [])), (23, Sum.inl (0, 0, 0, 1, 24, [])), (24, Sum.inl (0, 0, 0, 6, 26, [])), (26, Sum.inr (1, 2, 3, 0, 0, 0, 0)), (29, Sum.inl (17, 0, 44, 0, 32, [])), (32, Sum.inl (2, 2, 0, 0, 33, [])), (33, Sum.inl (2, 3, 0, 0, 34, [])), (34, Sum.inl (9, 0, 0, 0, 35, [])), (35, Sum.inl (0, 0, 0, 24, 37, [])), (37, Sum.inl (16, 2, 44, 0, 40, [])), (40, Sum.inl (0, 0, 0, 1, 41, [])), (41, Sum.inl (15, 0, 0, 0, 45, [])), (44, Sum.inl (0, 0, 0, 0, 45, [])), (45, Sum.inl (0, 0, 0, 2, 46, [])), (46, Sum.inr (0, 3, 2, 0, 0, 0, 12)), (49, Sum.inl (17, 0, 52, 0, 54, [])), (52, Sum.inl (0, 0, 0, 0, 53, [])), (53, Sum.inl (27, 0, 0, 0, 54, [])), (54, Sum.inl (0, 0, 0, 0, 55, [])), (55, Sum.inl (5, 4, 0, 0, 57, [])), (57, Sum.inl (2, 4, 0, 0, 59, [])), (59, Sum.inl (4, 0, 0, 0, 60, [])), (60, Sum.inl (18, 12, 1, 0, 63, [])), (63, Sum.inl (16, 1, 66, 0, 118, [])), (66, Sum.inl (0, 0, 0, 0, 67, [])), (67, Sum.inl (5, 5, 0, 0, 69, [])), (69, Sum.inl (2, 5, 0, 0, 71, [])), (71, Sum.inl (2, 3, 0, 0, 72, [])), (72, Sum.inl (16, 1, 75, 0, 112, [])), (75, Sum.inl (4, 0, 0, 0, 76, [])), (76, Sum.inl (18, 12, 48, 0, 79, [])), (79, Sum.inl (0, 0, 0, 6, 81, [])), (81, Sum.inl (2, 4, 0, 0, 83, [])), (83, Sum.inl (9, 2, 0, 0, 84, [])), (84, Sum.inl (2, 5, 0, 0, 86, [])), (86, Sum.inl (9, 0, 0, 0, 87, [])), (87, Sum.inl (4, 0, 0, 0, 88, [])), (88, Sum.inl (18, 12, 5, 0, 91, [])), (91, Sum.inl (2, 4, 0, 0, 93, [])), (93, Sum.inl (20, 0, 0, 0, 94, [])), (94, Sum.inl (4, 0, 0, 0, 95, [])), (95, Sum.inl (2, 4, 0, 0, 97, [])), (97, Sum.inl (2, 2, 0, 0, 98, [])), (98, Sum.inl (2, 5, 0, 0, 100, [])), (100, Sum.inl (9, 0, 0, 0, 101, [])), (101, Sum.inr (0, 4, 2, 3, 0, 0, 12)), (104, Sum.inl (9, 2, 0, 0, 105, [])), (105, Sum.inl (21, 0, 0, 0, 106, [])), (106, Sum.inl (8, 5, 0, 1, 109, [])), (109, Sum.inl (15, 0, 0, 0, 69, [])), (112, Sum.inl (8, 4, 0, 1, 115, [])), (115, Sum.inl (15, 0, 0, 0, 57, [])), (118, Sum.inl (4, 0, 0, 0, 119, [])), (119, Sum.inl (18, 12, 49, 0, 122, [])), (122, Sum.inl (0, 0, 0, 0, 123, [])), (123, Sum.inl (2, 1, 0, 0, 124, [])), (124, Sum.inl (21, 0, 0, 0, 125, [])), (125, Sum.inl (0, 0, 0, 1, 126, [])), (126, Sum.inl (5, 4, 0, 0, 128, [])), (128, Sum.inl (2, 4, 0, 0, 130, [])), (130, Sum.inl (2, 3, 0, 0, 131, [])), (131, Sum.inl (16, 1, 134, 0, 174, [])), (134, Sum.inl (4, 0, 0, 0, 135, [])), (135, Sum.inl (18, 12, 49, 0, 138, [])), (138, Sum.inl (2, 4, 0, 0, 140, [])), (140, Sum.inl (4, 0, 0, 0, 141, [])), (141, Sum.inl (18, 12, 49, 0, 144, [])), (144, Sum.inl (2, 4, 0, 0, 146, [])), (146, Sum.inl (0, 0, 0, 1, 147, [])), (147, Sum.inl (9, 1, 0, 0, 148, [])), (148, Sum.inl (20, 0, 0, 0, 149, [])), (149, Sum.inl (17, 2, 152, 0, 166, [])), (152, Sum.inl (4, 0, 0, 0, 153, [])), (153, Sum.inl (18, 12, 49, 0, 156, [])), (156, Sum.inl (2, 4, 0, 0, 158, [])), (158, Sum.inl (0, 0, 0, 1, 159, [])), (159, Sum.inl (9, 1, 0, 0, 160, [])), (160, Sum.inl (20, 0, 0, 0, 161, [])), (161, Sum.inl (0, 0, 0, 1, 162, [])), (162, Sum.inl (9, 1, 0, 0, 163, [])), (163, Sum.inl (15, 0, 0, 0, 167, [])), (166, Sum.inl (0, 0, 0, 0, 167, [])), (167, Sum.inl (21, 0, 0, 0, 168, [])), (168, Sum.inl (8, 4, 0, 1, 171, [])), (171, Sum.inl (15, 0, 0, 0, 128, [])), (174, Sum.inl (0, 0, 0, (-1), 175, [])), (175, Sum.inl (5, 4, 0, 0, 177, [])), (177, Sum.inl (0, 0, 0, 1, 178, [])), (178, Sum.inl (5, 5, 0, 0, 180, [])), (180, Sum.inl (2, 5, 0, 0, 182, [])), (182, Sum.inl (17, 0, 269, 0, 185, [])), (185, Sum.inl (4, 0, 0, 0, 186, [])), (186, Sum.inl (2, 3, 0, 0, 187, [])), (187, Sum.inr (0, 5, 1, 1, 0, 0, 12)), (190, Sum.inl (5, 6, 0, 0, 192, [])), (192, Sum.inl (2, 6, 0, 0, 194, [])), (194, Sum.inl (2, 4, 0, 0, 196, [])), (196, Sum.inl (16, 2, 199, 0, 259, [])), (199, Sum.inl (2, 6, 0, 0, 201, [])), (201, Sum.inl (5, 4, 0, 0, 203, [])), (203, Sum.inl (4, 0, 0, 0, 204, [])), (204, Sum.inl (4, 0, 0, 0, 205, [])), (205, Sum.inl (18, 12, 49, 0, 208, [])), (208, Sum.inl (4, 0, 0, 0, 209, [])), (209, Sum.inl (18, 12, 50, 0, 212, [])), (212, Sum.inr (0, 6, 2, 0, 0, 0, 12)), (215, Sum.inl (0, 0, 0, 0, 216, [])), (216, Sum.inl (5, 7, 0, 0, 218, [])), (218, Sum.inl (2, 7, 0, 0, 220, [])), (220, Sum.inl (2, 3, 0, 0, 221, [])), (221, Sum.inl (16, 1, 224, 0, 259, [])), (224, Sum.inl (4, 0, 0, 0, 225, [])), (225, Sum.inl (18, 12, 51, 0, 228, [])), (228, Sum.inl (2, 7, 0, 0, 230, [])), (230, Sum.inl (4, 0, 0, 0, 231, [])), (231, Sum.inl (4, 0, 0, 0, 232, [])), (232, Sum.inl (18, 12, 49, 0, 235, [])), (235, Sum.inl (2, 7, 0, 0, 237, [])), (237, Sum.inl (20, 0, 0, 0, 238, [])), (238, Sum.inl (2, 3, 0, 0, 239, [])), (239, Sum.inr (0, 7, 2, 0, 0, 0, 12)), (242, Sum.inl (2, 7, 0, 0, 244, [])), (244, Sum.inl (16, 0, 247, 0, 251, [])), (247, Sum.inl (0, 0, 0, 1, 248, [])), (248, Sum.inl (15, 0, 0, 0, 252, [])), (251, Sum.inl (0, 0, 0, 0, 252, [])), (252, Sum.inl (21, 0, 0, 0, 253, [])), (253, Sum.inl (8, 7, 0, 1, 256, [])), (256, Sum.inl (15, 0, 0, 0, 218, [])), (259, Sum.inl (4, 0, 0, 0, 260, [])), (260, Sum.inl (2, 3, 0, 0, 261, [])), (261, Sum.inr (0, 8, 1, 0, 0, 0, 12)), (264, Sum.inl (5, 5, 0, 0, 266, [])), (266, Sum.inl (15, 0, 0, 0, 180, [])), (269, Sum.inl (4, 0, 0, 0, 270, [])), (270, Sum.inl (2, 3, 0, 0, 271, [])), (271, Sum.inl (19, 12, 52, 0, 274, [])), (274, Sum.inl (2, 4, 0, 0, 276, [])), (276, Sum.inl (27, 0, 0, 0, 277, []))]
set_option maxRecDepth 20000 in
theorem Z_X12_round (l : Launch) : ∀ q ∈ U_X12_round, zTok l O_X12_round F_X12_round q := zU_ok rfl rfl rfl K_X12_round (E_X12_round l)
def wp_X12_round (a : List zV) (S : zS) (K : zR2 → zS → Prop) : Prop := match a with
  | [.inr (.inl c), .inl x, .inl y, .inl z] => ∃ (D E T : zD) (N : Nat), (c = 62 ∧ zir z ∧ eM S D E T ∧ xOK D E T N) ∧ mRes S D E (roundT D T x y z) (roundA D x y z) K
  | _ => False
/-- what the model's round may change -/
def frQ (S S0 : zS) : Prop := ∀ c, c ≠ 87 → c ≠ 88 → c ≠ 89 → c ≠ 90 → S c = S0 c
theorem mOK.fq {S S0 : zS} {D : zD} (h : mOK S0 D) (hf : frQ S S0) : mOK S D := h.fr (fun j _ _ => by rw [hf 62 (by omega) (by omega) (by omega) (by omega)]) (fun c hc => hf c (by omega) (by omega) (by omega) (by omega))
def kpM (S : zS) (D : zD) (h n : Nat) (row : Nat → Nat) : Prop := ∀ s, s < n → S 89 s = (row s : Int) ∧ S 90 s = (bti (lkB (GnD D h row) row n s) : Int)
theorem GnD_congr {D : zD} {h s : Nat} {row row' : Nat → Nat} (e : row' s = row s) : GnD D h row' s = GnD D h row s := by unfold GnD; rw [e]
theorem lk_congr {D : zD} {h n s : Nat} {row row' : Nat → Nat} (e : ∀ k, k < n → row' k = row k) (hs : s < n) : lkB (GnD D h row') row' n s = lkB (GnD D h row) row n s := by
  unfold lkB
  rw [GnD_congr (e s hs)]
  have g : ∀ f o, o + f = n → lkS (GnD D h row') row' s f o = lkS (GnD D h row) row s f o := by
    intro f
    induction f with
    | zero => intro o _; rfl
    | succ f ih =>
      intro o ho
      show (bif !(Nat.beq o s) && (Nat.beq (row' o) (row' s) && (Nat.blt (GnD D h row' s) (GnD D h row' o) || (Nat.beq (GnD D h row' o) (GnD D h row' s) && Nat.blt o s))) then false else lkS (GnD D h row') row' s f (o + 1)) = (bif !(Nat.beq o s) && (Nat.beq (row o) (row s) && (Nat.blt (GnD D h row s) (GnD D h row o) || (Nat.beq (GnD D h row o) (GnD D h row s) && Nat.blt o s))) then false else lkS (GnD D h row) row s f (o + 1))
      rw [ih (o + 1) (by omega), e o (by omega), e s hs, GnD_congr (e s hs), GnD_congr (e o (by omega))]
  rw [g n 0 (by omega)]
theorem va_congr {D : zD} {h n : Nat} {row row' : Nat → Nat} (e : ∀ k, k < n → row' k = row k) : vaC D h n row' = vaC D h n row := by
  unfold vaC
  refine suN_congr n (fun s hs => ?_)
  rw [lk_congr e hs, GnD_congr (e s hs)]
section
variable {l : Launch} {S0 : zS} {Q : zR2 → zS → Prop} {D : zD} {r h n : Nat}
theorem row_pa {path : Nat → Nat} (h0 : path 0 = r) (hn1 : 1 ≤ n) : ∀ k, k < n → (r :: rowN path (n - 1) 1).getD k 0 = path k := by
  intro k hk
  cases k with
  | zero => exact h0.symm
  | succ k =>
    show (rowN path (n - 1) 1).getD k 0 = _
    rw [rowN_get _ _ _ _ (by omega), Nat.add_comm]
/-- the looks of a row are kept -/
theorem L3_X12_round {path : Nat → Nat} {b v : Int} (hD : dOK D) (hn : n ≤ 6) (hg : gnM S0 D h n) (hp : paM S0 D n path) (k : ∀ S, (∀ s, s < n → S 90 s = (bti (lkB (GnD D h path) path n s) : Int)) → (∀ c, c ≠ 90 → S c = S0 c) → zGs l 4 0 0 F_X12_round S 259 [(0, .inr (.inl 62)), (1, .inl (r : Int)), (2, .inl (h : Int)), (3, .inl (n : Int)), (4, .inl b), (5, .inl 1)] [] Q) (f : Nat) : ∀ s S, s + f = n → (∀ i, i < s → S 90 i = (bti (lkB (GnD D h path) path n i) : Int)) → (∀ c, c ≠ 90 → S c = S0 c) → zGs l 4 0 0 F_X12_round S 218 [(0, .inr (.inl 62)), (1, .inl (r : Int)), (2, .inl (h : Int)), (3, .inl (n : Int)), (4, .inl b), (5, .inl 1), (6, .inl v), (7, .inl (s : Int))] [] Q := by
  have h8 := hD.rooms
  induction f with
  | zero =>
    intro s S hs a1 hf
    have : s = n := by omega
    subst this
    refine zwq_ok (Z_X12_round l) rfl [218, 259] (fun _ _ _ _ _ _ h => h) 400 (Z_X12_round l) ?_
    refine ⟨fun c => by omega, fun c => ?_⟩
    exact zGs.sub (lo := [(0, _), (1, _), (2, _), (3, _), (4, _), (5, _), (6, _), (7, _)]) (k S a1 hf) (fun q hq => by simp only [List.mem_cons, List.not_mem_nil, or_false] at hq; rcases hq with rfl | rfl | rfl | rfl | rfl | rfl <;> first | exact .head _ | exact .tail _ (.head _) | exact .tail _ (.tail _ (.head _)) | exact .tail _ (.tail _ (.tail _ (.head _))) | exact .tail _ (.tail _ (.tail _ (.tail _ (.head _)))) | exact .tail _ (.tail _ (.tail _ (.tail _ (.tail _ (.head _))))) | exact .tail _ (.tail _ (.tail _ (.tail _ (.tail _ (.tail _ (.head _)))))) | exact .tail _ (.tail _ (.tail _ (.tail _ (.tail _ (.tail _ (.tail _ (.head _))))))) | exact .tail _ (.tail _ (.tail _ (.tail _ (.tail _ (.tail _ (.tail _ (.tail _ (.head _)))))))) | exact .tail _ (.tail _ (.tail _ (.tail _ (.tail _ (.tail _ (.tail _ (.tail _ (.tail _ (.head _))))))))) | exact .tail _ (.tail _ (.tail _ (.tail _ (.tail _ (.tail _ (.tail _ (.tail _ (.tail _ (.tail _ (.head _)))))))))) | exact .tail _ (.tail _ (.tail _ (.tail _ (.tail _ (.tail _ (.tail _ (.tail _ (.tail _ (.tail _ (.tail _ (.head _))))))))))) | exact .tail _ (.tail _ (.tail _ (.tail _ (.tail _ (.tail _ (.tail _ (.tail _ (.tail _ (.tail _ (.tail _ (.tail _ (.head _)))))))))))) | exact .tail _ (.tail _ (.tail _ (.tail _ (.tail _ (.tail _ (.tail _ (.tail _ (.tail _ (.tail _ (.tail _ (.tail _ (.tail _ (.head _))))))))))))))
  | succ f ih =>
    intro s S hs a1 hf
    have hgS : gnM S D h n := fun q hq i hi => by rw [hf 87 (by omega)]; exact hg q hq i hi
    have hpS : paM S D n path := fun i hi => by rw [hf 88 (by omega)]; exact hp i hi
    obtain ⟨p1, p2⟩ := hpS s (by omega)
    have hb := bo_look (D := D) (h := h) (row := path) (show s < n by omega)
    have nx : ∀ v9 : Int, v9 = (bti (lkB (GnD D h path) path n s) : Int) → zGs l 4 0 0 F_X12_round (zu S 90 s v9) 218 [(0, .inr (.inl 62)), (1, .inl (r : Int)), (2, .inl (h : Int)), (3, .inl (n : Int)), (4, .inl b), (5, .inl 1), (6, .inl v), (7, .inl ((s : Int) + 1))] [] Q := fun v9 hv => by
      subst hv
      refine ih (s + 1) _ (by omega) (fun i hi => ?_) (fun c hc => (zu_c hc).trans (hf c hc))
      rw [zu_if]
      by_cases e : i = s
      · rw [if_pos e, e]
      · rw [if_neg e]; exact a1 i (by omega)
    refine zwq_ok (Z_X12_round l) rfl [218, 259] (fun _ _ _ _ _ _ h => h) 400 (Z_X12_round l) ?_
    refine ⟨fun c => ⟨s, ⟨rfl, by omega⟩, D, h, n, path s, path, ⟨rfl, h8, hgS, hpS, hn, p1, p2, rfl⟩, fun c2 => ⟨s, ⟨rfl, by omega⟩, by omega, ?_⟩, fun c2 => ⟨s, ⟨rfl, by omega⟩, by omega, ?_⟩⟩, fun c => by omega⟩
    · exact nx 1 (by rw [hb.mp c2]; rfl)
    · exact nx 0 (by
        cases hq : lkB (GnD D h path) path n s
        · rfl
        · exact absurd (hb.mpr hq) c2)
theorem L2_X12_round (hD : dOK D) (hM : mOK S0 D) (hr : r < dR D) (hn1 : 1 ≤ n) (hn : n ≤ 6) (hh : h + n ≤ 24) (k : ∀ S', kpM S' D h n (roR D r h n) → frQ S' S0 → Q (.inl (some (.inl (roD D r h n).1))) (zu S' 62 52 (n : Int))) (f : Nat) : ∀ (path : Nat → Nat) (b : Int) (kr : List Nat) (S : zS), (sW (dR D) path (n - 1) 1).length = f → path 0 = r → gnM S D h n → paM S D n path → stP n path → (0 ≤ b → kpM S D h n (fun s => kr.getD s 0)) → foS (vaR D h n) ((sW (dR D) path (n - 1) 1).map (fun t => r :: t)) b kr = roD D r h n → frQ S S0 → zGs l 4 0 0 F_X12_round S 180 [(0, .inr (.inl 62)), (1, .inl (r : Int)), (2, .inl (h : Int)), (3, .inl (n : Int)), (4, .inl b), (5, .inl 1)] [] Q := by
  induction f with
  | zero =>
    intro path b kr S hl
    obtain ⟨q, hq⟩ := sW_hd (dR D) path (n - 1) 1
    rw [hq] at hl
    cases hl
  | succ f ih =>
    intro path b kr S hl h0 hg hp hst hk he hf
    obtain ⟨q, hq⟩ := sW_hd (dR D) path (n - 1) 1
    have hMS := hM.fq hf
    have hlq : q.length = f := by
      rw [hq] at hl
      exact Nat.succ.inj hl
    rw [hq] at he
    have he : (if b < (vaR D h n (r :: rowN path (n - 1) 1) : Int) then foS (vaR D h n) (q.map (fun t => r :: t)) (vaR D h n (r :: rowN path (n - 1) 1) : Int) (r :: rowN path (n - 1) 1) else foS (vaR D h n) (q.map (fun t => r :: t)) b kr) = roD D r h n := he
    have ev : vaR D h n (r :: rowN path (n - 1) 1) = vaC D h n path := va_congr (row_pa h0 hn1)
    rw [ev] at he
    have nx : ∀ (b2 : Int) (kr2 : List Nat) (S2 : zS), gnM S2 D h n → paM S2 D n path → (0 ≤ b2 → kpM S2 D h n (fun s => kr2.getD s 0)) → foS (vaR D h n) (q.map (fun t => r :: t)) b2 kr2 = roD D r h n → frQ S2 S0 → zGs l 4 0 0 F_X12_round S2 259 [(0, .inr (.inl 62)), (1, .inl (r : Int)), (2, .inl (h : Int)), (3, .inl (n : Int)), (4, .inl b2), (5, .inl 1)] [] Q := by
      intro b2 kr2 S2 g2 p2 k2 e2 f2
      have hM2 := hM.fq f2
      refine zwq_ok (Z_X12_round l) rfl [180] (fun _ _ _ _ _ _ h => h) 400 (Z_X12_round l) ?_
      refine ⟨D, n, path, ⟨rfl, hD, hM2, p2, hst, hn1, hn, rfl⟩, fun S3 path3 d1 d2 d3 d4 d5 => ?_, fun d5 => ?_⟩
      · rw [hq] at d5
        have d5 : sW (dR D) path3 (n - 1) 1 = q := d5
        exact ih path3 b2 kr2 S3 (by rw [d5]; exact hlq) (d3.trans h0) (fun i hi j hj => by rw [d4 87 (by omega)]; exact g2 i hi j hj) d1 d2 (fun hb => fun s hs => by rw [d4 89 (by omega), d4 90 (by omega)]; exact k2 hb s hs) (by rw [d5]; exact e2) (fun c a1 a2 a3 a4 => (d4 c a2).trans (f2 c a1 a2 a3 a4))
      · rw [hq] at d5
        have d5 : q = [] := d5
        rw [d5] at e2
        have e2 : (b2, kr2) = roD D r h n := e2
        have hge := ro_ge D r h n
        have e3 : (fun s => kr2.getD s 0) = roR D r h n := by funext s; unfold roR; rw [← e2]
        rw [e3] at k2
        have k3 := k2 (by rw [← e2] at hge; exact hge)
        have hfin := k S2 k3 f2
        rw [← e2] at hfin
        refine zwq_ok (Z_X12_round l) rfl [180] (fun _ _ _ _ _ _ h => h) 400 (Z_X12_round l) ?_
        exact ⟨fun _ => hfin, fun c9 => absurd rfl c9⟩
    have hvb : 0 ≤ (vaC D h n path : Int) := by omega
    refine zwq_ok (Z_X12_round l) rfl [180, 218, 259] (fun _ _ _ _ _ _ h => h) 400 (Z_X12_round l) ?_
    refine ⟨fun c9 => absurd c9 (by decide), fun _ => ⟨D, h, n, path, ⟨rfl, hD, hMS, hg, hp, hn, hh, rfl⟩, fun c => ?_, fun c => ?_⟩⟩
    · rw [if_pos c] at he
      refine L3_X12_round (S0 := zcpI S 88 89 6) hD hn hg hp (fun S2 a1 a2 => ?_) n 0 _ (by omega) (fun i hi => absurd hi (Nat.not_lt_zero i)) (fun _ _ => rfl)
      have hg2 : gnM S2 D h n := fun q hq i hi => by rw [a2 87 (by omega)]; exact hg q hq i hi
      have hp2 : paM S2 D n path := fun i hi => by rw [a2 88 (by omega)]; exact hp i hi
      refine nx (vaC D h n path : Int) (r :: rowN path (n - 1) 1) S2 hg2 hp2 (fun _ s hs => ?_) he (fun c b1 b2 b3 b4 => (a2 c b4).trans ((funext fun j => zcp_n b3 : zcpI S 88 89 6 c = S c).trans (hf c b1 b2 b3 b4)))
      refine ⟨?_, ?_⟩
      · rw [a2 89 (by omega), zcp_at (by omega), (hp s hs).1]
        show (path s : Int) = (((r :: rowN path (n - 1) 1).getD s 0 : Nat) : Int)
        rw [row_pa h0 hn1 s hs]
      · rw [a1 s hs, lk_congr (row_pa h0 hn1) hs]
    · rw [if_neg c] at he
      have := nx b kr S hg hp hk he hf
      exact zGs.sub (lo := [(0, _), (1, _), (2, _), (3, _), (4, _), (5, _), (6, _)]) this (fun q hq => by simp only [List.mem_cons, List.not_mem_nil, or_false] at hq; rcases hq with rfl | rfl | rfl | rfl | rfl | rfl <;> first | exact .head _ | exact .tail _ (.head _) | exact .tail _ (.tail _ (.head _)) | exact .tail _ (.tail _ (.tail _ (.head _))) | exact .tail _ (.tail _ (.tail _ (.tail _ (.head _)))) | exact .tail _ (.tail _ (.tail _ (.tail _ (.tail _ (.head _))))) | exact .tail _ (.tail _ (.tail _ (.tail _ (.tail _ (.tail _ (.head _)))))) | exact .tail _ (.tail _ (.tail _ (.tail _ (.tail _ (.tail _ (.tail _ (.head _))))))) | exact .tail _ (.tail _ (.tail _ (.tail _ (.tail _ (.tail _ (.tail _ (.tail _ (.head _)))))))) | exact .tail _ (.tail _ (.tail _ (.tail _ (.tail _ (.tail _ (.tail _ (.tail _ (.tail _ (.head _))))))))) | exact .tail _ (.tail _ (.tail _ (.tail _ (.tail _ (.tail _ (.tail _ (.tail _ (.tail _ (.tail _ (.head _)))))))))) | exact .tail _ (.tail _ (.tail _ (.tail _ (.tail _ (.tail _ (.tail _ (.tail _ (.tail _ (.tail _ (.tail _ (.head _))))))))))) | exact .tail _ (.tail _ (.tail _ (.tail _ (.tail _ (.tail _ (.tail _ (.tail _ (.tail _ (.tail _ (.tail _ (.tail _ (.head _)))))))))))) | exact .tail _ (.tail _ (.tail _ (.tail _ (.tail _ (.tail _ (.tail _ (.tail _ (.tail _ (.tail _ (.tail _ (.tail _ (.tail _ (.head _))))))))))))))
theorem L1_X12_round {x4 : Int} (hD : dOK D) (hn1 : 1 ≤ n) (hn : n ≤ 6) (k : ∀ S path, paM S D n path → path 0 = r → (∀ i, 1 ≤ i → i < n → path i = lowR (path (i - 1))) → (∀ c, c ≠ 88 → S c = S0 c) → zGs l 4 0 0 F_X12_round S 174 [(0, .inr (.inl 62)), (1, .inl (r : Int)), (2, .inl (h : Int)), (3, .inl (n : Int))] [] Q) (f : Nat) : ∀ (j : Nat) (S : zS) (pa : Nat → Nat), 1 ≤ j → j + f = n → (∀ i, i < j → S 88 i = (pa i : Int) ∧ pa i < dR D) → pa 0 = r → (∀ i, 1 ≤ i → i < j → pa i = lowR (pa (i - 1))) → (∀ c, c ≠ 88 → S c = S0 c) → zGs l 4 0 0 F_X12_round S 128 [(0, .inr (.inl 62)), (1, .inl (r : Int)), (2, .inl (h : Int)), (3, .inl (n : Int)), (4, .inl (j : Int))] [] Q := by
  have h8 := hD.rooms
  induction f with
  | zero =>
    intro j S pa hj1 hj a1 a2 a3 hf
    have : j = n := by omega
    subst this
    refine zwq_ok (Z_X12_round l) rfl [128, 174] (fun _ _ _ _ _ _ h => h) 400 (Z_X12_round l) ?_
    refine ⟨fun c => by omega, fun c => ?_⟩
    exact zGs.sub (lo := [(0, _), (1, _), (2, _), (3, _), (4, _)]) (k S pa a1 a2 a3 hf) (fun q hq => by simp only [List.mem_cons, List.not_mem_nil, or_false] at hq; rcases hq with rfl | rfl | rfl | rfl <;> first | exact .head _ | exact .tail _ (.head _) | exact .tail _ (.tail _ (.head _)) | exact .tail _ (.tail _ (.tail _ (.head _))) | exact .tail _ (.tail _ (.tail _ (.tail _ (.head _)))) | exact .tail _ (.tail _ (.tail _ (.tail _ (.tail _ (.head _))))) | exact .tail _ (.tail _ (.tail _ (.tail _ (.tail _ (.tail _ (.head _)))))) | exact .tail _ (.tail _ (.tail _ (.tail _ (.tail _ (.tail _ (.tail _ (.head _))))))) | exact .tail _ (.tail _ (.tail _ (.tail _ (.tail _ (.tail _ (.tail _ (.tail _ (.head _)))))))) | exact .tail _ (.tail _ (.tail _ (.tail _ (.tail _ (.tail _ (.tail _ (.tail _ (.tail _ (.head _))))))))) | exact .tail _ (.tail _ (.tail _ (.tail _ (.tail _ (.tail _ (.tail _ (.tail _ (.tail _ (.tail _ (.head _)))))))))) | exact .tail _ (.tail _ (.tail _ (.tail _ (.tail _ (.tail _ (.tail _ (.tail _ (.tail _ (.tail _ (.tail _ (.head _))))))))))) | exact .tail _ (.tail _ (.tail _ (.tail _ (.tail _ (.tail _ (.tail _ (.tail _ (.tail _ (.tail _ (.tail _ (.tail _ (.head _)))))))))))) | exact .tail _ (.tail _ (.tail _ (.tail _ (.tail _ (.tail _ (.tail _ (.tail _ (.tail _ (.tail _ (.tail _ (.tail _ (.tail _ (.head _))))))))))))))
  | succ f ih =>
    intro j S pa hj1 hj a1 a2 a3 hf
    obtain ⟨q1, q2⟩ := a1 (j - 1) (by omega)
    obtain ⟨l1, l2, l3⟩ := low_lt q2
    have nx : ∀ v : Int, v = (lowR (pa (j - 1)) : Int) → zGs l 4 0 0 F_X12_round (zu S 88 j v) 128 [(0, .inr (.inl 62)), (1, .inl (r : Int)), (2, .inl (h : Int)), (3, .inl (n : Int)), (4, .inl ((j : Int) + 1))] [] Q := fun v hv => by
      subst hv
      refine ih (j + 1) _ (fun i => if i = j then lowR (pa (j - 1)) else pa i) (by omega) (by omega) (fun i hi => ?_) ?_ (fun i h1 h2 => ?_) (fun c hc => (zu_c hc).trans (hf c hc))
      · rw [zu_if]
        show _ = (((if i = j then lowR (pa (j - 1)) else pa i) : Nat) : Int) ∧ (if i = j then lowR (pa (j - 1)) else pa i) < dR D
        by_cases e : i = j
        · rw [if_pos e, if_pos e]; exact ⟨rfl, l1⟩
        · rw [if_neg e, if_neg e]; exact a1 i (by omega)
      · show (if 0 = j then lowR (pa (j - 1)) else pa 0) = _
        rw [if_neg (by omega)]; exact a2
      · show (if i = j then lowR (pa (j - 1)) else pa i) = lowR (if i - 1 = j then lowR (pa (j - 1)) else pa (i - 1))
        rw [if_neg (show ¬ i - 1 = j by omega)]
        by_cases e : i = j
        · rw [if_pos e, e]
        · rw [if_neg e]; exact a3 i h1 (by omega)
    have el : lowR (pa (j - 1)) = if 0 < pa (j - 1) then pa (j - 1) - 1 else 0 := rfl
    refine zwq_ok (Z_X12_round l) rfl [128, 174] (fun _ _ _ _ _ _ h => h) 400 (Z_X12_round l) ?_
    refine ⟨fun c => ⟨by omega, j - 1, ⟨by omega, by omega⟩, fun c2 => ⟨by omega, j - 1, ⟨by omega, by omega⟩, by omega, j, ⟨rfl, by omega⟩, by omega, ?_⟩, fun c2 => ⟨j, ⟨rfl, by omega⟩, by omega, ?_⟩⟩, fun c => by omega⟩
    · exact nx _ (by rw [el, if_pos (by omega)]; omega)
    · exact nx _ (by rw [el, if_neg (by omega)]; rfl)
theorem L4_X12_round {q : Nat} (hD : dOK D) (hM : mOK S0 D) (hn : n ≤ 6) (hh : h + n ≤ 24) (hq : q < dR D) (k : ∀ S, (∀ i, i < n → S 87 (6 * q + i) = (worD D q (h + i) : Int)) → (∀ j, j < 6 * q → S 87 j = S0 87 j) → (∀ c, c ≠ 87 → S c = S0 c) → zGs l 4 0 0 F_X12_round S 112 [(0, .inr (.inl 62)), (1, .inl (r : Int)), (2, .inl (h : Int)), (3, .inl (n : Int)), (4, .inl (q : Int))] [] Q) (f : Nat) : ∀ i S, i + f = n → (∀ j, j < i → S 87 (6 * q + j) = (worD D q (h + j) : Int)) → (∀ j, j < 6 * q → S 87 j = S0 87 j) → (∀ c, c ≠ 87 → S c = S0 c) → zGs l 4 0 0 F_X12_round S 69 [(0, .inr (.inl 62)), (1, .inl (r : Int)), (2, .inl (h : Int)), (3, .inl (n : Int)), (4, .inl (q : Int)), (5, .inl (i : Int))] [] Q := by
  have h8 := hD.rooms
  induction f with
  | zero =>
    intro i S hi a1 a2 hf
    have : i = n := by omega
    subst this
    refine zwq_ok (Z_X12_round l) rfl [69, 112] (fun _ _ _ _ _ _ h => h) 400 (Z_X12_round l) ?_
    refine ⟨fun c => by omega, fun c => ?_⟩
    exact zGs.sub (lo := [(0, _), (1, _), (2, _), (3, _), (4, _), (5, _)]) (k S a1 a2 hf) (fun q hq => by simp only [List.mem_cons, List.not_mem_nil, or_false] at hq; rcases hq with rfl | rfl | rfl | rfl | rfl <;> first | exact .head _ | exact .tail _ (.head _) | exact .tail _ (.tail _ (.head _)) | exact .tail _ (.tail _ (.tail _ (.head _))) | exact .tail _ (.tail _ (.tail _ (.tail _ (.head _)))) | exact .tail _ (.tail _ (.tail _ (.tail _ (.tail _ (.head _))))) | exact .tail _ (.tail _ (.tail _ (.tail _ (.tail _ (.tail _ (.head _)))))) | exact .tail _ (.tail _ (.tail _ (.tail _ (.tail _ (.tail _ (.tail _ (.head _))))))) | exact .tail _ (.tail _ (.tail _ (.tail _ (.tail _ (.tail _ (.tail _ (.tail _ (.head _)))))))) | exact .tail _ (.tail _ (.tail _ (.tail _ (.tail _ (.tail _ (.tail _ (.tail _ (.tail _ (.head _))))))))) | exact .tail _ (.tail _ (.tail _ (.tail _ (.tail _ (.tail _ (.tail _ (.tail _ (.tail _ (.tail _ (.head _)))))))))) | exact .tail _ (.tail _ (.tail _ (.tail _ (.tail _ (.tail _ (.tail _ (.tail _ (.tail _ (.tail _ (.tail _ (.head _))))))))))) | exact .tail _ (.tail _ (.tail _ (.tail _ (.tail _ (.tail _ (.tail _ (.tail _ (.tail _ (.tail _ (.tail _ (.tail _ (.head _)))))))))))) | exact .tail _ (.tail _ (.tail _ (.tail _ (.tail _ (.tail _ (.tail _ (.tail _ (.tail _ (.tail _ (.tail _ (.tail _ (.tail _ (.head _))))))))))))))
  | succ f ih =>
    intro i S hi a1 a2 hf
    have hMS : mOK S D := hM.fq (fun c a _ _ _ => hf c a)
    have hwl := wor_le hD (r := q) (t := h + i) hq (by omega)
    have e : S 63 q * (chaD D q (h + i) : Int) = (worD D q (h + i) : Int) := by
      rw [hMS.goods q hq]
      unfold worD
      rw [Int.natCast_mul]
    have this := ih (i + 1) (zu S 87 (6 * q + i) (worD D q (h + i) : Int)) (by omega) (fun j hj => by
      rw [zu_if]
      by_cases e : j = i
      · rw [if_pos (by omega), e]
      · rw [if_neg (by omega)]; exact a1 j (by omega)) (fun j hj => by rw [zuN (Or.inr (by omega))]; exact a2 j hj) (fun c hc => (zu_c hc).trans (hf c hc))
    refine zwq_ok (Z_X12_round l) rfl [69, 112] (fun _ _ _ _ _ _ h => h) 400 (Z_X12_round l) ?_
    refine ⟨fun c => ⟨by omega, by omega, q, ⟨rfl, by omega⟩, by omega, D, q, h + i, ⟨rfl, hD, hMS, rfl, rfl, hq, by omega⟩, ?_, 6 * q + i, ⟨by omega, by omega⟩, by omega, ?_⟩, fun c => by omega⟩
    · rw [e]; omega
    · rw [e]; exact this
theorem L5_X12_round (hD : dOK D) (hM : mOK S0 D) (hn : n ≤ 6) (hh : h + n ≤ 24) (k : ∀ S, gnM S D h n → (∀ c, c ≠ 87 → S c = S0 c) → zGs l 4 0 0 F_X12_round S 118 [(0, .inr (.inl 62)), (1, .inl (r : Int)), (2, .inl (h : Int)), (3, .inl (n : Int))] [] Q) (f : Nat) : ∀ q S, q + f = dR D → (∀ p, p < q → ∀ i, i < n → S 87 (6 * p + i) = (worD D p (h + i) : Int)) → (∀ c, c ≠ 87 → S c = S0 c) → zGs l 4 0 0 F_X12_round S 57 [(0, .inr (.inl 62)), (1, .inl (r : Int)), (2, .inl (h : Int)), (3, .inl (n : Int)), (4, .inl (q : Int))] [] Q := by
  have h8 := hD.rooms
  induction f with
  | zero =>
    intro q S hq a1 hf
    have : q = dR D := by omega
    subst this
    have eR := (hM.fq (S := S) (fun c a _ _ _ => hf c a)).rooms
    refine zwq_ok (Z_X12_round l) rfl [57, 69, 118] (fun _ _ _ _ _ _ h => h) 400 (Z_X12_round l) ?_
    refine ⟨fun c => by omega, fun c => ?_⟩
    exact zGs.sub (lo := [(0, _), (1, _), (2, _), (3, _), (4, _)]) (k S a1 hf) (fun q hq => by simp only [List.mem_cons, List.not_mem_nil, or_false] at hq; rcases hq with rfl | rfl | rfl | rfl <;> first | exact .head _ | exact .tail _ (.head _) | exact .tail _ (.tail _ (.head _)) | exact .tail _ (.tail _ (.tail _ (.head _))) | exact .tail _ (.tail _ (.tail _ (.tail _ (.head _)))) | exact .tail _ (.tail _ (.tail _ (.tail _ (.tail _ (.head _))))) | exact .tail _ (.tail _ (.tail _ (.tail _ (.tail _ (.tail _ (.head _)))))) | exact .tail _ (.tail _ (.tail _ (.tail _ (.tail _ (.tail _ (.tail _ (.head _))))))) | exact .tail _ (.tail _ (.tail _ (.tail _ (.tail _ (.tail _ (.tail _ (.tail _ (.head _)))))))) | exact .tail _ (.tail _ (.tail _ (.tail _ (.tail _ (.tail _ (.tail _ (.tail _ (.tail _ (.head _))))))))) | exact .tail _ (.tail _ (.tail _ (.tail _ (.tail _ (.tail _ (.tail _ (.tail _ (.tail _ (.tail _ (.head _)))))))))) | exact .tail _ (.tail _ (.tail _ (.tail _ (.tail _ (.tail _ (.tail _ (.tail _ (.tail _ (.tail _ (.tail _ (.head _))))))))))) | exact .tail _ (.tail _ (.tail _ (.tail _ (.tail _ (.tail _ (.tail _ (.tail _ (.tail _ (.tail _ (.tail _ (.tail _ (.head _)))))))))))) | exact .tail _ (.tail _ (.tail _ (.tail _ (.tail _ (.tail _ (.tail _ (.tail _ (.tail _ (.tail _ (.tail _ (.tail _ (.tail _ (.head _))))))))))))))
  | succ f ih =>
    intro q S hq a1 hf
    have hMS : mOK S D := hM.fq (fun c a _ _ _ => hf c a)
    have eR := hMS.rooms
    have go := L4_X12_round (l := l) (Q := Q) (S0 := S) (r := r) (h := h) (n := n) (q := q) hD hMS hn hh (by omega) (fun S1 b1 b2 b3 => by
      have := ih (q + 1) S1 (by omega) (fun p hp i hi => by
        by_cases e : p = q
        · subst e; exact b1 i hi
        · rw [b2 _ (by omega)]; exact a1 p (by omega) i hi) (fun c hc => (b3 c hc).trans (hf c hc))
      refine zwq_ok (Z_X12_round l) rfl [57] (fun _ _ _ _ _ _ h => h) 400 (Z_X12_round l) ?_
      exact ⟨by omega, this⟩) n 0 S (by omega) (fun j hj => absurd hj (Nat.not_lt_zero j)) (fun _ _ => rfl) (fun _ _ => rfl)
    refine zwq_ok (Z_X12_round l) rfl [57, 69] (fun _ _ _ _ _ _ h => h) 400 (Z_X12_round l) ?_
    refine ⟨fun c => ?_, fun c => by omega⟩
    exact go
end
theorem eM.pt {S S' : zS} {D E T : zD} {n : Nat} {row look : Nat → Nat} (h : eM S D E T) (hf : ∀ c j, 62 ≤ c → c ≠ 87 → c ≠ 88 → c ≠ 89 → c ≠ 90 → (c ≠ 62 ∨ j ≠ 52) → S' c j = S c j) (h1 : S' 62 52 = (n : Int)) (h2 : ∀ s, s < n → S' 89 s = (row s : Int) ∧ S' 90 s = (look s : Int)) : eM S' D E (setR T n row look) := by
  have g : ∀ c, 63 ≤ c → c ≠ 87 → c ≠ 88 → c ≠ 89 → c ≠ 90 → S' c = S c := fun c a b d e f => funext fun i => hf c i (by omega) b d e f (Or.inl (by omega))
  have gj : ∀ j, j ≠ 52 → S' 62 j = S 62 j := fun j hj => hf 62 j (by omega) (by omega) (by omega) (by omega) (by omega) (Or.inr hj)
  have hn : mOK S' D := h.now.fr (fun j a _ => gj j (by omega)) (fun c hc => g c (by omega) (by omega) (by omega) (by omega) (by omega))
  have hk := h.image
  unfold iOK at hk
  have hk2 : T 4 0 = 1 → iOK S' E := by
    unfold iOK
    rw [g 97 (by omega) (by omega) (by omega) (by omega) (by omega), g 98 (by omega) (by omega) (by omega) (by omega) (by omega), g 99 (by omega) (by omega) (by omega) (by omega) (by omega), g 100 (by omega) (by omega) (by omega) (by omega) (by omega), g 101 (by omega) (by omega) (by omega) (by omega) (by omega)]
    exact hk
  unfold eM at h ⊢
  rw [setR_c (c := 0) (by omega), setR_c (c := 1) (by omega), setR_c (c := 2) (by omega), setR_c (c := 3) (by omega), setR_c (c := 4) (by omega), setR_c (c := 8) (by omega), setR_c (c := 9) (by omega), gj 13 (by omega), gj 15 (by omega), gj 63 (by omega), gj 56 (by omega), g 70 (by omega) (by omega) (by omega) (by omega) (by omega), g 71 (by omega) (by omega) (by omega) (by omega) (by omega), g 95 (by omega) (by omega) (by omega) (by omega) (by omega)]
  exact ⟨hn, h.2.1, h.2.2.1, h.2.2.2.1, h.2.2.2.2.1, h.2.2.2.2.2.1, hk2, h1, fun i hi => (h2 i hi).1, fun i hi => (h2 i hi).2, h.2.2.2.2.2.2.2.2.2.2⟩
theorem R_X12_round (l : Launch) (a : List zV) (S : zS) (Q : zR2 → zS → Prop) (h : wp_X12_round a S Q) : zRs l 4 0 0 yX12_round (.code yX12_round cX12_round 8 (some .int)) a S Q := by
  unfold wp_X12_round at h
  split at h
  · rename_i c x y z
    obtain ⟨D, E, T, N, ⟨rfl, ⟨hz1, hz2⟩, hM, hX⟩, h⟩ := h
    have hM0 : mOK (zu S 62 0 0) D := hM.now.u (Or.inl rfl)
    have e1 : zu S 62 0 0 62 1 = (dR D : Int) := hM.now.rooms
    unfold roundA roundT at h
    by_cases hp : rouP D x y
    · by_cases hq : rouQ y z
      · rw [if_pos ⟨hp, hq⟩, if_pos hp, if_pos hq] at h
        obtain ⟨⟨x1, x2⟩, y1, y2⟩ := hp
        obtain ⟨⟨z1, z2⟩, z3⟩ := hq
        have main := L5_X12_round (l := l) (Q := Q) (S0 := zu S 62 0 0) (D := D) (r := x.toNat) (h := y.toNat) (n := z.toNat) hX.now hM0 (by omega) (by omega) (fun S1 g1 f1 => by
          have go := L1_X12_round (l := l) (Q := Q) (S0 := S1) (D := D) (r := x.toNat) (h := y.toNat) (n := z.toNat) (x4 := 0) hX.now (by omega) (by omega) (fun S2 path p1 p2 p3 f2 => by
            have hall := sW_all (R := dR D) (path := path) (z.toNat - 1) 1 (fun i a b => p3 i a (by omega))
            rw [show 1 - 1 = 0 from rfl, p2] at hall
            have go2 := L2_X12_round (l := l) (Q := Q) (S0 := zu S 62 0 0) (D := D) (r := x.toNat) (h := y.toNat) (n := z.toNat) hX.now hM0 (by omega) (by omega) (by omega) (by omega) (fun S3 k3 f3 => by
              refine h _ _ ((hM.u (k := 0) (v := 0) (Or.inl rfl)).pt (fun c j a b d e f g => (zuN g).trans (congrFun (f3 c b d e f) j)) zuE (fun s hs => k3 s hs)) (fun c hc => (zu_c (by omega)).trans ((f3 c (by omega) (by omega) (by omega) (by omega)).trans (zu_c (by omega)))) ?_ (fun _ => rfl)
              show zu S3 62 52 _ 62 0 = 0
              rw [zuN (Or.inr (by omega)), f3 62 (by omega) (by omega) (by omega) (by omega)]
              exact zuE) _ path (-1) [] S2 rfl p2 (fun q hq i hi => by rw [f2 87 (by omega)]; exact g1 q hq i hi) p1 (fun i a b => by
              rw [p3 i a b]
              obtain ⟨l1, l2, l3⟩ := low_lt (p1 (i - 1) (by omega)).2
              exact ⟨l2, l3⟩) (fun q => absurd q (by decide)) (by rw [hall]; rfl) (fun c a b _ _ => (f2 c b).trans (f1 c a))
            refine zwq_ok (Z_X12_round l) rfl [180] (fun _ _ _ _ _ _ h => h) 400 (Z_X12_round l) ?_
            exact go2) (z.toNat - 1) 1 (zu S1 88 0 (x.toNat : Int)) (fun i => x.toNat) (by omega) (by omega) (fun i hi => by rw [show i = 0 by omega, zuE]; exact ⟨rfl, by omega⟩) rfl (fun i a b => by omega) (fun c hc => zu_c hc)
          refine zwq_ok (Z_X12_round l) rfl [128] (fun _ _ _ _ _ _ h => h) 400 (Z_X12_round l) ?_
          exact ⟨0, ⟨rfl, by omega⟩, go⟩) (dR D) 0 (zu S 62 0 0) (by omega) (fun p hp => absurd hp (Nat.not_lt_zero p)) (fun _ _ => rfl)
        rw [show ((x.toNat : Nat) : Int) = x by omega, show ((y.toNat : Nat) : Int) = y by omega, show ((z.toNat : Nat) : Int) = z by omega] at main
        refine zRs_of 12 (by decide) rfl rfl ?_; refine zwq_ok (Z_X12_round l) rfl [57] (fun _ _ _ _ _ _ h => h) 400 (Z_X12_round l) ?_
        refine ⟨⟨rfl, rfl⟩, fun _ => ⟨fun c9 => absurd c9 (by decide), fun _ => ⟨⟨rfl, rfl⟩, fun _ => ⟨fun c9 => absurd c9 (by decide), fun _ => ⟨fun _ => ⟨fun c9 => absurd c9 (by decide), fun _ => ⟨by omega, fun c9 => by omega, fun _ => ⟨⟨rfl, Or.inr rfl⟩, fun _ c9 => absurd c9 (by decide), fun _ _ => ⟨fun c9 => absurd c9 (by decide), fun _ => ?_⟩, rfl, by decide⟩⟩⟩, fun c9 => by omega⟩⟩, fun c9 => by omega⟩⟩, fun c9 => by omega⟩
        exact main
      · rw [if_neg (fun c => hq c.2), if_pos hp, if_neg hq] at h
        unfold rouQ at hq
        obtain ⟨⟨x1, x2⟩, y1, y2⟩ := hp
        have h := mFail2 hM h
        refine zRs_of 12 (by decide) rfl rfl ?_; refine zwq_ok (Z_X12_round l) rfl [57] (fun _ _ _ _ _ _ h => h) 400 (Z_X12_round l) ?_
        repeat' (first | refine And.intro ?_ ?_ | (intro _; try omega) | omega | rfl | refine ⟨_, ⟨rfl, by omega⟩, ?_⟩ | fail)
        all_goals exact h
    · rw [if_neg (fun c => hp c.1), if_neg hp] at h
      unfold rouP at hp
      have h := mFail1 hM h
      refine zRs_of 12 (by decide) rfl rfl ?_; refine zwq_ok (Z_X12_round l) rfl [57] (fun _ _ _ _ _ _ h => h) 400 (Z_X12_round l) ?_
      repeat' (first | refine And.intro ?_ ?_ | (intro _; try omega) | omega | rfl | refine ⟨_, ⟨rfl, by omega⟩, ?_⟩ | fail)
      all_goals exact h
  · exact h.elim
theorem m_round {S : zS} {D E T : zD} {N : Nat} {K : zR2 → zS → Prop} {x y z : Int} (hM : eM S D E T) (hX : xOK D E T N) (hz : zir z) (h : mRes S D E (roundT D T x y z) (roundA D x y z) K) : wp_X12_round [.inr (.inl 62), .inl x, .inl y, .inl z] S K := ⟨D, E, T, N, ⟨rfl, hz, hM, hX⟩, h⟩
