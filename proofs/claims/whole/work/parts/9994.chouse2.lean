/-! the house: the class's call -/
def plN (S : zS) (P : zD) : Prop := (S 3 7 = (P 0 0 : Int)) ∧ (S 3 10 = (P 0 3 : Int)) ∧ (∀ r, r < P 0 0 → S 4 r = (P 1 r : Int)) ∧ (∀ r, r < P 0 0 → S 5 r = (P 2 r : Int) - 1) ∧ (∀ l, l < P 0 1 → S 6 l = (P 3 l : Int)) ∧ (∀ a, a < 4 → S 10 a = (P 6 a : Int)) ∧ (plC S P)
theorem plN.rooms {S : zS} {P : zD} (h : plN S P) : S 3 7 = (P 0 0 : Int) := h.1
theorem plN.mays {S : zS} {P : zD} (h : plN S P) : S 3 10 = (P 0 3 : Int) := h.2.1
theorem plN.goods {S : zS} {P : zD} (h : plN S P) : ∀ r, r < P 0 0 → S 4 r = (P 1 r : Int) := h.2.2.1
theorem plN.tenant {S : zS} {P : zD} (h : plN S P) : ∀ r, r < P 0 0 → S 5 r = (P 2 r : Int) - 1 := h.2.2.2.1
theorem plN.home {S : zS} {P : zD} (h : plN S P) : ∀ l, l < P 0 1 → S 6 l = (P 3 l : Int) := h.2.2.2.2.1
theorem plN.law {S : zS} {P : zD} (h : plN S P) : ∀ a, a < 4 → S 10 a = (P 6 a : Int) := h.2.2.2.2.2.1
theorem plN.rest {S : zS} {P : zD} (h : plN S P) : plC S P := h.2.2.2.2.2.2
def B_X6_copyFrom : List (Nat × zC) := [(12, (8, 0, 0, 0, 0, 0, 0)), (27, (8, 0, 0, 0, 0, 0, 0)), (42, (8, 0, 0, 0, 0, 0, 0)), (57, (8, 0, 0, 0, 0, 0, 0)), (71, (8, 0, 0, 0, 0, 0, 0)), (87, (8, 0, 0, 0, 0, 0, 0)), (101, (8, 0, 0, 0, 0, 0, 0))]
def O_X6_copyFrom : zO := fun j a S K => match j with
  | _ => False
theorem E_X6_copyFrom (l : Launch) : ∀ q ∈ B_X6_copyFrom, zcok l O_X6_copyFrom F_X6_copyFrom q.1 q.2 := List.forall_mem_cons.mpr ⟨⟨58, by decide +kernel, z_at 785 (by decide +kernel) (by decide +kernel)⟩, List.forall_mem_cons.mpr ⟨⟨58, by decide +kernel, z_at 785 (by decide +kernel) (by decide +kernel)⟩, List.forall_mem_cons.mpr ⟨⟨58, by decide +kernel, z_at 785 (by decide +kernel) (by decide +kernel)⟩, List.forall_mem_cons.mpr ⟨⟨58, by decide +kernel, z_at 785 (by decide +kernel) (by decide +kernel)⟩, List.forall_mem_cons.mpr ⟨⟨58, by decide +kernel, z_at 785 (by decide +kernel) (by decide +kernel)⟩, List.forall_mem_cons.mpr ⟨⟨58, by decide +kernel, z_at 785 (by decide +kernel) (by decide +kernel)⟩, List.forall_mem_cons.mpr ⟨⟨58, by decide +kernel, z_at 785 (by decide +kernel) (by decide +kernel)⟩, fun _ h => by cases h⟩⟩⟩⟩⟩⟩⟩
def U_X6_copyFrom : List (Nat × zE) := [(0, Sum.inl (4, 1, 0, 0, 1, [])), (1, Sum.inl (18, 6, 0, 0, 4, [])), (4, Sum.inl (0, 0, 0, 0, 5, [])), (5, Sum.inl (4, 0, 0, 0, 6, [])), (6, Sum.inl (18, 6, 0, 0, 9, [])), (9, Sum.inl (0, 0, 0, 0, 10, [])), (10, Sum.inl (0, 0, 0, 8, 12, [])), (12, Sum.inr (8, 0, 0, 0, 0, 0, 0)), (15, Sum.inl (4, 1, 0, 0, 16, [])), (16, Sum.inl (18, 6, 1, 0, 19, [])), (19, Sum.inl (0, 0, 0, 0, 20, [])), (20, Sum.inl (4, 0, 0, 0, 21, [])), (21, Sum.inl (18, 6, 1, 0, 24, [])), (24, Sum.inl (0, 0, 0, 0, 25, [])), (25, Sum.inl (0, 0, 0, 8, 27, [])), (27, Sum.inr (8, 0, 0, 0, 0, 0, 0)), (30, Sum.inl (4, 1, 0, 0, 31, [])), (31, Sum.inl (18, 6, 2, 0, 34, [])), (34, Sum.inl (0, 0, 0, 0, 35, [])), (35, Sum.inl (4, 0, 0, 0, 36, [])), (36, Sum.inl (18, 6, 2, 0, 39, [])), (39, Sum.inl (0, 0, 0, 0, 40, [])), (40, Sum.inl (0, 0, 0, 6, 42, [])), (42, Sum.inr (8, 0, 0, 0, 0, 0, 0)), (45, Sum.inl (4, 1, 0, 0, 46, [])), (46, Sum.inl (18, 6, 3, 0, 49, [])), (49, Sum.inl (0, 0, 0, 0, 50, [])), (50, Sum.inl (4, 0, 0, 0, 51, [])), (51, Sum.inl (18, 6, 3, 0, 54, [])), (54, Sum.inl (0, 0, 0, 0, 55, [])), (55, Sum.inl (0, 0, 0, 6, 57, [])), (57, Sum.inr (8, 0, 0, 0, 0, 0, 0)), (60, Sum.inl (4, 1, 0, 0, 61, [])), (61, Sum.inl (18, 6, 4, 0, 64, [])), (64, Sum.inl (0, 0, 0, 0, 65, [])), (65, Sum.inl (4, 0, 0, 0, 66, [])), (66, Sum.inl (18, 6, 4, 0, 69, [])), (69, Sum.inl (0, 0, 0, 0, 70, [])), (70, Sum.inl (0, 0, 0, 3, 71, [])), (71, Sum.inr (8, 0, 0, 0, 0, 0, 0)), (74, Sum.inl (4, 1, 0, 0, 75, [])), (75, Sum.inl (18, 6, 5, 0, 78, [])), (78, Sum.inl (0, 0, 0, 0, 79, [])), (79, Sum.inl (4, 0, 0, 0, 80, [])), (80, Sum.inl (18, 6, 5, 0, 83, [])), (83, Sum.inl (0, 0, 0, 0, 84, [])), (84, Sum.inl (0, 0, 0, 144, 87, [])), (87, Sum.inr (8, 0, 0, 0, 0, 0, 0)), (90, Sum.inl (4, 1, 0, 0, 91, [])), (91, Sum.inl (18, 6, 6, 0, 94, [])), (94, Sum.inl (0, 0, 0, 0, 95, [])), (95, Sum.inl (4, 0, 0, 0, 96, [])), (96, Sum.inl (18, 6, 6, 0, 99, [])), (99, Sum.inl (0, 0, 0, 0, 100, [])), (100, Sum.inl (0, 0, 0, 4, 101, [])), (101, Sum.inr (8, 0, 0, 0, 0, 0, 0)), (104, Sum.inl (4, 0, 0, 0, 105, [])), (105, Sum.inl (4, 1, 0, 0, 106, [])), (106, Sum.inl (18, 6, 7, 0, 109, [])), (109, Sum.inl (19, 6, 7, 0, 112, [])), (112, Sum.inl (4, 0, 0, 0, 113, [])), (113, Sum.inl (4, 1, 0, 0, 114, [])), (114, Sum.inl (18, 6, 8, 0, 117, [])), (117, Sum.inl (19, 6, 8, 0, 120, [])), (120, Sum.inl (4, 0, 0, 0, 121, [])), (121, Sum.inl (4, 1, 0, 0, 122, [])), (122, Sum.inl (18, 6, 9, 0, 125, [])), (125, Sum.inl (19, 6, 9, 0, 128, [])), (128, Sum.inl (4, 0, 0, 0, 129, [])), (129, Sum.inl (4, 1, 0, 0, 130, [])), (130, Sum.inl (18, 6, 10, 0, 133, [])), (133, Sum.inl (19, 6, 10, 0, 136, [])), (136, Sum.inl (4, 0, 0, 0, 137, [])), (137, Sum.inl (4, 1, 0, 0, 138, [])), (138, Sum.inl (18, 6, 11, 0, 141, [])), (141, Sum.inl (19, 6, 11, 0, 144, [])), (144, Sum.inl (29, 0, 0, 0, 145, []))]
theorem Z_X6_copyFrom (l : Launch) : ∀ q ∈ U_X6_copyFrom, zTok l O_X6_copyFrom F_X6_copyFrom q := zU_ok rfl rfl rfl K_X6_copyFrom (E_X6_copyFrom l)
def wp_X6_copyFrom (a : List zV) (S : zS) (K : zR2 → zS → Prop) : Prop := match a with
  | [.inr (.inl c), .inr (.inl d)] => ∃ P : zD, (c = 3 ∧ d = 11 ∧ pOK P ∧ cP S P) ∧ ∀ S', plN S' P → (∀ c, (c < 3 ∨ 10 < c) → S' c = S c) → K (.inl none) S'
  | _ => False
theorem R_X6_copyFrom (l : Launch) (a : List zV) (S : zS) (Q : zR2 → zS → Prop) (h : wp_X6_copyFrom a S Q) : zRs l 1 0 0 yX6_copyFrom (.code yX6_copyFrom cX6_copyFrom 2 (none)) a S Q := by
  unfold wp_X6_copyFrom at h
  split at h
  · obtain ⟨P, ⟨rfl, rfl, hP, hC⟩, h⟩ := h
    have o1 := hP.rooms
    have o2 := hP.lodgers
    have o3 := hP.finders
    refine zRs_of 6 (by decide) rfl rfl ?_; refine zwq_ok (Z_X6_copyFrom l) rfl [] (fun _ _ _ _ _ _ h => h) 400 (Z_X6_copyFrom l) ?_
    refine ⟨⟨rfl, rfl⟩, 8, ⟨rfl, by decide, by decide⟩, ⟨rfl, rfl⟩, 8, ⟨rfl, by decide, by decide⟩, ⟨rfl, rfl⟩, 6, ⟨rfl, by decide, by decide⟩, ⟨rfl, rfl⟩, 6, ⟨rfl, by decide, by decide⟩, ⟨rfl, rfl⟩, 3, ⟨rfl, by decide, by decide⟩, ⟨rfl, rfl⟩, 144, ⟨rfl, by decide, by decide⟩, ⟨rfl, rfl⟩, 4, ⟨rfl, by decide, by decide⟩, ?_⟩
    refine h _ ⟨hC.rooms, hC.mays, fun r hr => ?_, fun r hr => ?_, fun r hr => ?_, fun r hr => ?_, hC.lodgers, hC.finders, fun r hr => ?_, fun r hr => ?_, fun r hr => ?_⟩ (fun c hc => ?_)
    · rw [zuN (by omega), zuN (by omega), zuN (by omega), zuN (by omega), zuN (by omega), zcp_n (by omega), zcp_n (by omega), zcp_n (by omega), zcp_n (by omega), zcp_n (by omega), zcp_n (by omega), zcp_at (by omega)]
      exact hC.goods r hr
    · rw [zuN (by omega), zuN (by omega), zuN (by omega), zuN (by omega), zuN (by omega), zcp_n (by omega), zcp_n (by omega), zcp_n (by omega), zcp_n (by omega), zcp_n (by omega), zcp_at (by omega), zcp_n (by omega)]
      exact hC.tenant r hr
    · rw [zuN (by omega), zuN (by omega), zuN (by omega), zuN (by omega), zuN (by omega), zcp_n (by omega), zcp_n (by omega), zcp_n (by omega), zcp_n (by omega), zcp_at (by omega), zcp_n (by omega), zcp_n (by omega)]
      exact hC.home r hr
    · rw [zuN (by omega), zuN (by omega), zuN (by omega), zuN (by omega), zuN (by omega), zcp_at (by omega), zcp_n (by omega), zcp_n (by omega), zcp_n (by omega), zcp_n (by omega), zcp_n (by omega), zcp_n (by omega)]
      exact hC.law r hr
    · rw [zuN (by omega), zuN (by omega), zuN (by omega), zuN (by omega), zuN (by omega), zcp_n (by omega), zcp_n (by omega), zcp_n (by omega), zcp_at (by omega), zcp_n (by omega), zcp_n (by omega), zcp_n (by omega)]
      exact hC.feet r hr
    · rw [zuN (by omega), zuN (by omega), zuN (by omega), zuN (by omega), zuN (by omega), zcp_n (by omega), zcp_n (by omega), zcp_at (by omega), zcp_n (by omega), zcp_n (by omega), zcp_n (by omega), zcp_n (by omega)]
      exact hC.begins r hr
    · rw [zuN (by omega), zuN (by omega), zuN (by omega), zuN (by omega), zuN (by omega), zcp_n (by omega), zcp_at (by omega), zcp_n (by omega), zcp_n (by omega), zcp_n (by omega), zcp_n (by omega), zcp_n (by omega)]
      exact hC.told r hr
    · funext j
      rw [zuN (by omega), zuN (by omega), zuN (by omega), zuN (by omega), zuN (by omega), zcp_n (by omega), zcp_n (by omega), zcp_n (by omega), zcp_n (by omega), zcp_n (by omega), zcp_n (by omega), zcp_n (by omega)]
  · exact h.elim
def B_X11_house : List (Nat × zC) := [(15, (9, 0, 0, 127, 129, 131, 0)), (30, (0, 0, 1, 9, 0, 0, 7)), (82, (0, 1, 1, 1, 0, 0, 6)), (93, (0, 2, 1, 1, 0, 0, 0))]
def O_X11_house : zO := fun j a S K => match j with
  | 0 => wp_X7_read a S K
  | 1 => wp_X6_copyFrom a S K
  | 2 => wp_X0_begin a S K
  | _ => False
theorem E_X11_house (l : Launch) : ∀ q ∈ B_X11_house, zcok l O_X11_house F_X11_house q.1 q.2 := List.forall_mem_cons.mpr ⟨⟨rfl, rfl, z_at 547 (by decide +kernel) (by decide +kernel), ⟨14, _, rfl, rfl, rfl⟩, by decide +kernel, by decide +kernel, Or.inl ⟨rfl, by decide +kernel, by decide +kernel, by decide +kernel⟩, Or.inl ⟨rfl, rfl⟩⟩, List.forall_mem_cons.mpr ⟨⟨134, yX7_read, cX7_read, 3, some .int, by decide +kernel, C_11_134, W_X7_read, I_X7_read, S_X7_read, rfl, rfl, R_X7_read l⟩, List.forall_mem_cons.mpr ⟨⟨141, yX6_copyFrom, cX6_copyFrom, 2, none, by decide +kernel, C_11_141, W_X6_copyFrom, I_X6_copyFrom, S_X6_copyFrom, rfl, rfl, R_X6_copyFrom l⟩, List.forall_mem_cons.mpr ⟨⟨145, yX0_begin, cX0_begin, 4, none, by decide +kernel, C_11_145, W_X0_begin, I_X0_begin, S_X0_begin, rfl, rfl, R_X0_begin l⟩, fun _ h => by cases h⟩⟩⟩⟩
def U_X11_house : List (Nat × zE) := [(0, Sum.inl (2, 1, 0, 0, 1, [])), (1, Sum.inl (17, 1, 15, 0, 4, [])), (4, Sum.inl (2, 1, 0, 0, 5, [])), (5, Sum.inl (4, 0, 0, 0, 6, [])), (6, Sum.inl (18, 11, 0, 0, 9, [])), (9, Sum.inl (18, 9, 1, 0, 12, [])), (12, Sum.inl (16, 2, 15, 0, 25, [])), (15, Sum.inr (9, 0, 0, 127, 129, 131, 0)), (18, Sum.inl (12, 0, 0, 0, 19, [])), (25, Sum.inl (4, 0, 0, 0, 26, [])), (26, Sum.inl (18, 11, 3, 0, 29, [])), (29, Sum.inl (2, 1, 0, 0, 30, [])), (30, Sum.inr (0, 0, 1, 9, 0, 0, 7)), (33, Sum.inl (5, 2, 0, 0, 34, [])), (34, Sum.inl (4, 0, 0, 0, 35, [])), (35, Sum.inl (18, 11, 0, 0, 38, [])), (38, Sum.inl (0, 0, 0, 0, 39, [])), (39, Sum.inl (19, 9, 1, 0, 42, [])), (42, Sum.inl (2, 2, 0, 0, 43, [])), (43, Sum.inl (17, 0, 69, 0, 46, [])), (46, Sum.inl (4, 0, 0, 0, 47, [])), (47, Sum.inl (4, 0, 0, 0, 48, [])), (48, Sum.inl (18, 11, 3, 0, 51, [])), (51, Sum.inl (18, 7, 8, 0, 54, [])), (54, Sum.inl (19, 11, 14, 0, 57, [])), (57, Sum.inl (4, 0, 0, 0, 58, [])), (58, Sum.inl (18, 11, 13, 0, 61, [])), (61, Sum.inl (0, 0, 0, 0, 62, [])), (62, Sum.inl (13, 0, 0, 0, 63, [])), (63, Sum.inl (20, 0, 0, 0, 64, [])), (64, Sum.inl (0, 0, 0, 1, 65, [])), (65, Sum.inl (9, 0, 0, 0, 66, [])), (66, Sum.inl (21, 0, 0, 0, 67, [])), (67, Sum.inl (2, 2, 0, 0, 68, [])), (68, Sum.inl (27, 0, 0, 0, 69, [])), (69, Sum.inl (4, 0, 0, 0, 70, [])), (70, Sum.inl (0, 0, 0, (-1), 71, [])), (71, Sum.inl (19, 11, 14, 0, 74, [])), (74, Sum.inl (4, 0, 0, 0, 75, [])), (75, Sum.inl (18, 11, 1, 0, 78, [])), (78, Sum.inl (4, 0, 0, 0, 79, [])), (79, Sum.inl (18, 11, 2, 0, 82, [])), (82, Sum.inr (0, 1, 1, 1, 0, 0, 6)), (85, Sum.inl (4, 0, 0, 0, 86, [])), (86, Sum.inl (18, 11, 4, 0, 89, [])), (89, Sum.inl (4, 0, 0, 0, 90, [])), (90, Sum.inl (18, 11, 1, 0, 93, [])), (93, Sum.inr (0, 2, 1, 1, 0, 0, 0)), (96, Sum.inl (4, 0, 0, 0, 97, [])), (97, Sum.inl (18, 11, 9, 0, 100, [])), (100, Sum.inl (0, 0, 0, 0, 101, [])), (101, Sum.inl (19, 10, 6, 0, 104, [])), (104, Sum.inl (4, 0, 0, 0, 105, [])), (105, Sum.inl (18, 11, 11, 0, 108, [])), (108, Sum.inl (0, 0, 0, 0, 109, [])), (109, Sum.inl (19, 5, 9, 0, 112, [])), (112, Sum.inl (4, 0, 0, 0, 113, [])), (113, Sum.inl (0, 0, 0, 0, 114, [])), (114, Sum.inl (19, 11, 15, 0, 117, [])), (117, Sum.inl (0, 0, 0, 0, 118, [])), (118, Sum.inl (27, 0, 0, 0, 119, []))]
theorem Z_X11_house (l : Launch) : ∀ q ∈ U_X11_house, zTok l O_X11_house F_X11_house q := zU_ok rfl rfl rfl K_X11_house (E_X11_house l)
def wp_X11_house (a : List zV) (S : zS) (K : zR2 → zS → Prop) : Prop := zif (Nat.ble (zsum a) 3) (zwq 10 F_X11_house U_X11_house O_X11_house [] (fun _ _ _ _ _ _ => False) K 65 U_X11_house 1 6 S 0 (zar 0 a) [])
theorem R_X11_house (l : Launch) (a : List zV) (S : zS) (Q : zR2 → zS → Prop) (h : wp_X11_house a S Q) : zRs l 10 1 6 yX11_house (.code yX11_house cX11_house 3 (some .int)) a S Q := by
  obtain ⟨h1, h⟩ := zif_ok h
  exact zRs_of 11 (by decide) rfl h1 (zwq_ok (Z_X11_house l) rfl [] (fun _ _ _ _ _ _ h => h.elim) 65 (Z_X11_house l) h)
section
variable {S S1 S3 S4 : zS} {D E T : zD} {N : Nat} {K : zR2 → zS → Prop} {x : Int} {P : zD}
theorem c_new (hP : pOK P) (hC : eC S D E T) (f1 : ∀ c, (c < 11 ∨ 19 < c) → c ≠ 1 → c ≠ 0 → S1 c = S c) (e0 : ∀ j, j ≠ 14 → S1 0 j = S 0 j) (e1 : S1 0 14 = -1) (e2 : S1 1 1 = 0) (h3 : plN S3 P) (f3 : ∀ c, (c < 3 ∨ 10 < c) → S3 c = S1 c) (h4 : bgC S4 (zu (zu (zu S3 20 7 0) 20 8 (-1)) 20 9 0) P (24 * P 0 1) (2 * P 0 1) (24 * P 0 2)) :
    eC (zu (zu (zu S4 42 6 0) 52 9 0) 0 15 0) (newD D P) E (zu (zu (zu (zu (zu T 0 0 0) 2 0 0) 4 0 0) 5 0 0) 8 0 0) := by
  have g4 : ∀ c, c ≠ 20 → c ≠ 24 → c ≠ 25 → c ≠ 26 → S4 c = S3 c := fun c a b d e => (h4.fr c b d e).trans ((zu_c a).trans ((zu_c a).trans (zu_c a)))
  have gp : ∀ c, 3 ≤ c → c ≤ 10 → (zu (zu (zu S4 42 6 0) 52 9 0) 0 15 0) c = S3 c := fun c a b => (zu_c (by omega)).trans ((zu_c (by omega)).trans ((zu_c (by omega)).trans (g4 c (by omega) (by omega) (by omega) (by omega))))
  have gx : ∀ c, c ≠ 42 → c ≠ 52 → c ≠ 0 → (zu (zu (zu S4 42 6 0) 52 9 0) 0 15 0) c = S4 c := fun c a b d => (zu_c d).trans ((zu_c b).trans (zu_c a))
  have g20 : S4 20 = zu (zu (zu S3 20 7 0) 20 8 (-1)) 20 9 0 20 := h4.fr 20 (by decide) (by decide) (by decide)
  have gold : ∀ c, 27 ≤ c → S4 c = S c := fun c a => (g4 c (by omega) (by omega) (by omega) (by omega)).trans ((f3 c (by omega)).trans (f1 c (by omega) (by omega) (by omega)))
  have g25 : zu (zu (zu S3 20 7 0) 20 8 (-1)) 20 9 0 25 = S 25 := (zu_c (by decide)).trans ((zu_c (by decide)).trans ((zu_c (by decide)).trans ((f3 25 (by omega)).trans (f1 25 (by omega) (by omega) (by omega)))))
  have g26 : zu (zu (zu S3 20 7 0) 20 8 (-1)) 20 9 0 26 = S 26 := (zu_c (by decide)).trans ((zu_c (by decide)).trans ((zu_c (by decide)).trans ((f3 26 (by omega)).trans (f1 26 (by omega) (by omega) (by omega)))))
  have hcn : cOK (zu (zu (zu S4 42 6 0) 52 9 0) 0 15 0) (newD D P) := by
    unfold cOK
    rw [gp 3 (by omega) (by omega), gp 4 (by omega) (by omega), gp 5 (by omega) (by omega), gp 6 (by omega) (by omega), gp 9 (by omega) (by omega), gp 10 (by omega) (by omega), gx 20 (by omega) (by omega) (by omega), gx 21 (by omega) (by omega) (by omega), gx 22 (by omega) (by omega) (by omega), gx 23 (by omega) (by omega) (by omega), gx 24 (by omega) (by omega) (by omega), gx 25 (by omega) (by omega) (by omega), gx 26 (by omega) (by omega) (by omega), gx 27 (by omega) (by omega) (by omega), g20, gold 27 (by omega)]
    refine ⟨h3.rooms, h3.rest.lodgers, h3.rest.finders, h3.mays, h3.goods, h3.tenant, h3.home, fun k hk => ?_, h3.law, rfl, rfl, rfl, fun k hk => absurd hk (Nat.not_lt_zero k), fun k hk => absurd hk (Nat.not_lt_zero k), fun k hk => absurd hk (Nat.not_lt_zero k), h4.shoes, fun k hk => ?_, fun k hk => ?_, hC.now.seen⟩
    · have hk : k < 24 * P 0 1 := hk
      have o := hP.lodgers
      have et := h3.rest.told k (by omega)
      show (S3 9 k = 0 ∧ myP P k = 1) ∨ S3 9 k = (spr (myP P k) : Int)
      unfold myP
      by_cases c : P 7 k = 0
      · rw [if_pos c]
        rw [c] at et
        exact Or.inl ⟨et, rfl⟩
      · rw [if_neg c]; exact Or.inr et
    · rw [h4.day k hk, g25]
      show _ = ((tol (if k < 24 * P 0 1 then lwD (myP P k) else D 8 k) : Nat) : Int)
      split
      · rfl
      · exact hC.now.day k hk
    · rw [h4.rounds k hk, g26]
      show _ = (((if k < 24 * P 0 2 then P 5 (k / 24) else D 9 k) : Nat) : Int)
      split
      · rfl
      · exact hC.now.rounds k hk
  have t0 : (zu (zu (zu S4 42 6 0) 52 9 0) 0 15 0) 0 14 = -1 := by
    rw [zuN (by omega), zuN (by omega), zuN (by omega), g4 0 (by omega) (by omega) (by omega) (by omega), f3 0 (by omega)]; exact e1
  have t1 : (zu (zu (zu S4 42 6 0) 52 9 0) 0 15 0) 1 1 = 0 := by
    rw [zuN (by omega), zuN (by omega), zuN (by omega), g4 1 (by omega) (by omega) (by omega) (by omega), f3 1 (by omega)]; exact e2
  refine ⟨hcn, t1, fun k hk => absurd (show k < 0 from hk) (Nat.not_lt_zero k), t0, ?_, zuE, fun z => absurd (show (0 : Nat) = 1 from z) (by decide), by rw [zuN (by omega), zuN (by omega), zuE]; rfl, fun i hi => absurd (show i < 0 from hi) (Nat.not_lt_zero i), fun i hi => absurd (show i < 0 from hi) (Nat.not_lt_zero i), by rw [zuN (by omega), zuE]; rfl, fun z => absurd (show (0 : Nat) = 1 from z) (by decide), ?_⟩
  · rw [gx 61 (by omega) (by omega) (by omega), gold 61 (by omega)]
    exact hC.refused
  · rw [gx 59 (by omega) (by omega) (by omega), gx 60 (by omega) (by omega) (by omega), gold 59 (by omega), gold 60 (by omega)]
    exact hC.slippers
theorem c_house (hC : eC S D E T) (hX : xOK D E T N) (h : cRes S (huzD D T x) E (huzT T x) (cr2 (huzA T x)) K) : wp_X11_house [.inr (.inl 0), .inl x] S K := by
  have e1 := hC.tape
  have e2 := hX.tape
  unfold huzA huzT huzD at h
  by_cases c : 0 ≤ x ∧ x ≤ (T 0 0 : Int)
  · rw [if_pos c, if_pos c, if_pos c] at h
    have hx : x = (x.toNat : Int) := by omega
    have hr := rdA_ok (T := T) (n := x.toNat) 700 p0 0 p0_ok (Nat.zero_le _)
    refine ⟨fun c1 => by omega, fun _ => ⟨fun c1 => by omega, fun _ => ?_⟩⟩
    refine ⟨T, x.toNat, ⟨rfl, hx, by omega, fun k hk => hC.bytes k (by omega), hX.bytes⟩, fun S1 v hE => ?_⟩
    obtain ⟨f1, hE⟩ := hE
    have hC1 : eC S1 D E T := hC.fr (fun c h1 h2 => f1 c (by unfold cScr at h2; omega))
    cases hd : rdA T x.toNat 700 p0 0 with
    | inl e =>
      obtain ⟨k, q⟩ := e
      rw [hd] at h hr hE
      obtain ⟨rfl, e8⟩ := hE
      have hr : 1 ≤ k ∧ k ≤ 5 ∧ q ≤ x.toNat := hr
      have h : cRes S D E (zu (zu (zu T 0 0 0) 2 0 (q + 1)) 3 0 (T 3 0 + 1)) (.inl (some (.inl (k : Int)))) K := h
      have n0 := hX.refused 0
      have nf := hX.few
      have er := hC1.refused 0 (by decide)
      refine ⟨fun z => by omega, fun _ => ⟨0, ⟨rfl, by decide⟩, by show -2147483648 ≤ S1 61 0 + 1 ∧ S1 61 0 + 1 < 2147483648; omega, 0, ⟨rfl, by decide⟩, ?_⟩⟩
      refine h _ ?_ ?_
      · refine ⟨hC1.now.fr (fun c h1 h2 => (zu_c (by omega)).trans ((zu_c (by omega)).trans (zu_c (by omega)))) (fun c h1 h2 => (zu_c (by omega)).trans ((zu_c (by omega)).trans (zu_c (by omega)))), rfl, fun k hk => absurd (show k < 0 from hk) (Nat.not_lt_zero k), ?_, ?_, hC1.isKept, ?_, hC1.path, hC1.pathRooms, hC1.pathLooks, hC1.lends, hC1.lenders, hC1.slippers⟩
        · show S1 19 8 = ((q + 1 : Nat) : Int) - 1
          omega
        · intro i hi
          rw [zu_i, show zu (zu (zu T 0 0 0) 2 0 (q + 1)) 3 0 (T 3 0 + 1) 3 i = if i = 0 then T 3 0 + 1 else T 3 i from zu_if]
          split
          · show S1 61 0 + 1 = ((T 3 0 + 1 : Nat) : Int)
            omega
          · exact hC1.refused i hi
        · intro z
          exact hC1.kept z
      · intro c hc
        exact (zu_c (by omega)).trans ((zu_c (by omega)).trans ((zu_c (by omega)).trans (f1 c (by omega))))
    | inr e =>
      obtain ⟨P, q⟩ := e
      rw [hd] at h hr hE
      obtain ⟨rfl, hcP⟩ := hE
      have hr : pOK P := hr
      have h : cRes S (newD D P) E (zu (zu (zu (zu (zu T 0 0 0) 2 0 0) 4 0 0) 5 0 0) 8 0 0) (.inl (some (.inl 0))) K := h
      refine ⟨fun _ => ?_, fun z => absurd rfl z⟩
      refine ⟨P, ⟨rfl, rfl, hr, hcP.fr (fun c h1 h2 => (zu_c (by omega)).trans (zu_c (by omega)))⟩, fun S3 h3 f3 => ?_⟩
      refine ⟨P, ⟨rfl, rfl, hr, h3.rest⟩, fun S4 h4 => ?_⟩
      refine ⟨Or.inl rfl, Or.inl rfl, ?_⟩
      refine h _ (c_new hr hC (S1 := zu (zu S1 1 1 0) 0 14 (-1)) (fun c h1 h2 h3 => (zu_c h3).trans ((zu_c h2).trans (f1 c h1))) (fun j hj => ?_) zuE rfl h3 f3 h4) ?_
      · rw [zuN (Or.inr hj), zuN (by omega), f1 0 (by omega)]
      · intro c hc
        have g : S4 c = S3 c := (h4.fr c (by omega) (by omega) (by omega)).trans ((zu_c (by omega)).trans ((zu_c (by omega)).trans (zu_c (by omega))))
        rw [zu_c (by omega), zu_c (by omega), zu_c (by omega), g, f3 c (by omega), zu_c (by omega), zu_c (by omega)]
        exact f1 c (by omega)
  · rw [if_neg c, if_neg c, if_neg c] at h
    have h := cGood hC h
    exact ⟨fun _ => h, fun c1 => ⟨fun _ => h, fun c2 => by omega⟩⟩
end
