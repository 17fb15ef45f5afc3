/-! CALLS that change nothing: fault, lodger, does, sign, chance, says -/
def B_X6_canDo : List (Nat × zC) := []
def O_X6_canDo : zO := fun j a S K => match j with
  | _ => False
theorem E_X6_canDo (l : Launch) : ∀ q ∈ B_X6_canDo, zcok l O_X6_canDo F_X6_canDo q.1 q.2 := fun _ h => by cases h
def U_X6_canDo : List (Nat × zE) := [(0, Sum.inl (2, 2, 0, 0, 1, [])), (1, Sum.inl (17, 1, 11, 0, 4, [])), (4, Sum.inl (2, 2, 0, 0, 5, [])), (5, Sum.inl (0, 0, 0, 3, 6, [])), (6, Sum.inl (16, 2, 11, 0, 9, [])), (9, Sum.inl (0, 0, 0, 1, 10, [])), (10, Sum.inl (27, 0, 0, 0, 11, [])), (11, Sum.inl (2, 2, 0, 0, 12, [])), (12, Sum.inl (0, 0, 0, 10, 14, [])), (14, Sum.inl (16, 1, 45, 0, 17, [])), (17, Sum.inl (2, 2, 0, 0, 18, [])), (18, Sum.inl (0, 0, 0, 10, 20, [])), (20, Sum.inl (4, 0, 0, 0, 21, [])), (21, Sum.inl (18, 6, 7, 0, 24, [])), (24, Sum.inl (9, 0, 0, 0, 25, [])), (25, Sum.inl (16, 1, 28, 0, 45, [])), (28, Sum.inl (2, 2, 0, 0, 29, [])), (29, Sum.inl (0, 0, 0, 10, 31, [])), (31, Sum.inl (4, 0, 0, 0, 32, [])), (32, Sum.inl (18, 6, 2, 0, 35, [])), (35, Sum.inl (2, 1, 0, 0, 36, [])), (36, Sum.inl (20, 0, 0, 0, 37, [])), (37, Sum.inl (9, 0, 0, 0, 38, [])), (38, Sum.inl (16, 0, 45, 0, 41, [])), (41, Sum.inl (0, 0, 0, 1, 42, [])), (42, Sum.inl (15, 0, 0, 0, 46, [])), (45, Sum.inl (0, 0, 0, 0, 46, [])), (46, Sum.inl (27, 0, 0, 0, 47, []))]
theorem Z_X6_canDo (l : Launch) : ∀ q ∈ U_X6_canDo, zTok l O_X6_canDo F_X6_canDo q := zU_ok rfl rfl rfl K_X6_canDo (E_X6_canDo l)
def cdoP (D : zD) (i : Nat) (y : Int) : Prop := (0 ≤ y ∧ y ≤ 3) ∨ (10 ≤ y ∧ y < 10 + (dR D : Int) ∧ y ≠ 10 + (dH D i : Int))
def wp_X6_canDo (a : List zV) (S : zS) (K : zR2 → zS → Prop) : Prop := match a with
  | [.inr (.inl c), .inl x, .inl y] => ∃ (D : zD) (i : Nat), (c = 3 ∧ dOK D ∧ cOK S D ∧ x = (i : Int) ∧ i < dL D) ∧ (cdoP D i y → K (.inl (some (.inl 1))) S) ∧ (¬ cdoP D i y → K (.inl (some (.inl 0))) S)
  | _ => False
theorem R_X6_canDo (l : Launch) (a : List zV) (S : zS) (Q : zR2 → zS → Prop) (h : wp_X6_canDo a S Q) : zRs l 0 0 0 yX6_canDo (.code yX6_canDo cX6_canDo 3 (some .boolean)) a S Q := by
  unfold wp_X6_canDo at h
  split at h
  · obtain ⟨D, i, ⟨rfl, hD, hC, rfl, hi⟩, h1, h2⟩ := h
    have e1 := hC.rooms
    have e2 := hC.home i hi
    have e3 := hD.rooms
    have e4 := hD.home i hi
    have e5 := hD.lodgers
    unfold cdoP at h1 h2
    refine zRs_of 6 (by decide) rfl rfl ?_; refine zwq_ok (Z_X6_canDo l) rfl [] (fun _ _ _ _ _ _ h => h) 400 (Z_X6_canDo l) ?_
    refine ⟨fun c => ⟨fun d1 => ⟨Or.inl rfl, h2 (by omega)⟩, fun d1 => ⟨by omega, fun d2 => ⟨i, ⟨rfl, by omega⟩, by omega, fun d3 => ⟨Or.inl rfl, h2 (by omega)⟩, fun d3 => ⟨Or.inr rfl, h1 (by omega)⟩⟩, fun d2 => ⟨Or.inl rfl, h2 (by omega)⟩⟩⟩, fun c => ⟨fun c2 => ⟨fun d1 => ⟨Or.inl rfl, h2 (by omega)⟩, fun d1 => ⟨by omega, fun d2 => ⟨i, ⟨rfl, by omega⟩, by omega, fun d3 => ⟨Or.inl rfl, h2 (by omega)⟩, fun d3 => ⟨Or.inr rfl, h1 (by omega)⟩⟩, fun d2 => ⟨Or.inl rfl, h2 (by omega)⟩⟩⟩, fun c2 => ⟨Or.inr rfl, h1 (by omega)⟩⟩⟩
  · exact h.elim
def B_X11_fault : List (Nat × zC) := []
def O_X11_fault : zO := fun j a S K => match j with
  | _ => False
theorem E_X11_fault (l : Launch) : ∀ q ∈ B_X11_fault, zcok l O_X11_fault F_X11_fault q.1 q.2 := fun _ h => by cases h
def U_X11_fault : List (Nat × zE) := [(0, Sum.inl (4, 0, 0, 0, 1, [])), (1, Sum.inl (18, 11, 14, 0, 4, [])), (4, Sum.inl (27, 0, 0, 0, 5, []))]
theorem Z_X11_fault (l : Launch) : ∀ q ∈ U_X11_fault, zTok l O_X11_fault F_X11_fault q := zU_ok rfl rfl rfl K_X11_fault (E_X11_fault l)
def wp_X11_fault (a : List zV) (S : zS) (K : zR2 → zS → Prop) : Prop := zif (Nat.ble (zsum a) 1) (zwq 0 F_X11_fault U_X11_fault O_X11_fault [] (fun _ _ _ _ _ _ => False) K 4 U_X11_fault 0 0 S 0 (zar 0 a) [])
theorem R_X11_fault (l : Launch) (a : List zV) (S : zS) (Q : zR2 → zS → Prop) (h : wp_X11_fault a S Q) : zRs l 0 0 0 yX11_fault (.code yX11_fault cX11_fault 1 (some .int)) a S Q := by
  obtain ⟨h1, h⟩ := zif_ok h
  exact zRs_of 11 (by decide) rfl h1 (zwq_ok (Z_X11_fault l) rfl [] (fun _ _ _ _ _ _ h => h.elim) 4 (Z_X11_fault l) h)
def B_X12_fault : List (Nat × zC) := []
def O_X12_fault : zO := fun j a S K => match j with
  | _ => False
theorem E_X12_fault (l : Launch) : ∀ q ∈ B_X12_fault, zcok l O_X12_fault F_X12_fault q.1 q.2 := fun _ h => by cases h
def U_X12_fault : List (Nat × zE) := [(0, Sum.inl (4, 0, 0, 0, 1, [])), (1, Sum.inl (0, 0, 0, 0, 2, [])), (2, Sum.inl (19, 12, 0, 0, 5, [])), (5, Sum.inl (4, 0, 0, 0, 6, [])), (6, Sum.inl (18, 12, 15, 0, 9, [])), (9, Sum.inl (27, 0, 0, 0, 10, []))]
theorem Z_X12_fault (l : Launch) : ∀ q ∈ U_X12_fault, zTok l O_X12_fault F_X12_fault q := zU_ok rfl rfl rfl K_X12_fault (E_X12_fault l)
def wp_X12_fault (a : List zV) (S : zS) (K : zR2 → zS → Prop) : Prop := zif (Nat.ble (zsum a) 1) (zwq 0 F_X12_fault U_X12_fault O_X12_fault [] (fun _ _ _ _ _ _ => False) K 7 U_X12_fault 0 0 S 0 (zar 0 a) [])
theorem R_X12_fault (l : Launch) (a : List zV) (S : zS) (Q : zR2 → zS → Prop) (h : wp_X12_fault a S Q) : zRs l 0 0 0 yX12_fault (.code yX12_fault cX12_fault 1 (some .int)) a S Q := by
  obtain ⟨h1, h⟩ := zif_ok h
  exact zRs_of 12 (by decide) rfl h1 (zwq_ok (Z_X12_fault l) rfl [] (fun _ _ _ _ _ _ h => h.elim) 7 (Z_X12_fault l) h)
def B_X0_shoesOf : List (Nat × zC) := []
def O_X0_shoesOf : zO := fun j a S K => match j with
  | _ => False
theorem E_X0_shoesOf (l : Launch) : ∀ q ∈ B_X0_shoesOf, zcok l O_X0_shoesOf F_X0_shoesOf q.1 q.2 := fun _ h => by cases h
def U_X0_shoesOf : List (Nat × zE) := [(0, Sum.inl (4, 0, 0, 0, 1, [])), (1, Sum.inl (18, 0, 3, 0, 4, [])), (4, Sum.inl (2, 1, 0, 0, 5, [])), (5, Sum.inl (0, 0, 0, 2, 6, [])), (6, Sum.inl (9, 2, 0, 0, 7, [])), (7, Sum.inl (2, 2, 0, 0, 8, [])), (8, Sum.inl (9, 0, 0, 0, 9, [])), (9, Sum.inl (0, 0, 0, 1, 10, [])), (10, Sum.inl (9, 1, 0, 0, 11, [])), (11, Sum.inl (20, 0, 0, 0, 12, [])), (12, Sum.inl (27, 0, 0, 0, 13, []))]
theorem Z_X0_shoesOf (l : Launch) : ∀ q ∈ U_X0_shoesOf, zTok l O_X0_shoesOf F_X0_shoesOf q := zU_ok rfl rfl rfl K_X0_shoesOf (E_X0_shoesOf l)
def wp_X0_shoesOf (a : List zV) (S : zS) (K : zR2 → zS → Prop) : Prop := zif (Nat.ble (zsum a) 3) (zwq 0 F_X0_shoesOf U_X0_shoesOf O_X0_shoesOf [] (fun _ _ _ _ _ _ => False) K 12 U_X0_shoesOf 0 0 S 0 (zar 0 a) [])
theorem R_X0_shoesOf (l : Launch) (a : List zV) (S : zS) (Q : zR2 → zS → Prop) (h : wp_X0_shoesOf a S Q) : zRs l 0 0 0 yX0_shoesOf (.code yX0_shoesOf cX0_shoesOf 3 (some .int)) a S Q := by
  obtain ⟨h1, h⟩ := zif_ok h
  exact zRs_of 0 (by decide) rfl h1 (zwq_ok (Z_X0_shoesOf l) rfl [] (fun _ _ _ _ _ _ h => h.elim) 12 (Z_X0_shoesOf l) h)
def B_X11_lodger : List (Nat × zC) := [(2, (2, 0, 1, 6, 0, 0, 11)), (7, (4, 1, 2, 6, 0, 0, 0)), (32, (0, 2, 2, 0, 0, 0, 0))]
def O_X11_lodger : zO := fun j a S K => match j with
  | 0 => wp_X11_needLodger a S K
  | 1 => wp_X11_needOneOf a S K
  | 2 => wp_X0_shoesOf a S K
  | _ => False
theorem E_X11_lodger (l : Launch) : ∀ q ∈ B_X11_lodger, zcok l O_X11_lodger F_X11_lodger q.1 q.2 := List.forall_mem_cons.mpr ⟨⟨192, yX11_needLodger, cX11_needLodger, 2, none, by decide +kernel, C_11_192, W_X11_needLodger, I_X11_needLodger, S_X11_needLodger, rfl, rfl, R_X11_needLodger l⟩, List.forall_mem_cons.mpr ⟨⟨182, yX11_needOneOf, cX11_needOneOf, 2, none, by decide +kernel, C_11_182, W_X11_needOneOf, I_X11_needOneOf, rfl, R_X11_needOneOf l⟩, List.forall_mem_cons.mpr ⟨⟨198, yX0_shoesOf, cX0_shoesOf, 3, some .int, by decide +kernel, C_11_198, W_X0_shoesOf, I_X0_shoesOf, S_X0_shoesOf, rfl, rfl, R_X0_shoesOf l⟩, fun _ h => by cases h⟩⟩⟩
def U_X11_lodger : List (Nat × zE) := [(0, Sum.inl (4, 0, 0, 0, 1, [])), (1, Sum.inl (2, 1, 0, 0, 2, [])), (2, Sum.inr (2, 0, 1, 6, 0, 0, 11)), (5, Sum.inl (2, 2, 0, 0, 6, [])), (6, Sum.inl (0, 0, 0, 3, 7, [])), (7, Sum.inr (4, 1, 2, 6, 0, 0, 0)), (10, Sum.inl (2, 2, 0, 0, 11, [])), (11, Sum.inl (17, 0, 14, 0, 26, [])), (14, Sum.inl (4, 0, 0, 0, 15, [])), (15, Sum.inl (18, 11, 1, 0, 18, [])), (18, Sum.inl (18, 6, 2, 0, 21, [])), (21, Sum.inl (2, 1, 0, 0, 22, [])), (22, Sum.inl (20, 0, 0, 0, 23, [])), (23, Sum.inl (15, 0, 0, 0, 35, [])), (26, Sum.inl (4, 0, 0, 0, 27, [])), (27, Sum.inl (18, 11, 4, 0, 30, [])), (30, Sum.inl (2, 1, 0, 0, 31, [])), (31, Sum.inl (2, 2, 0, 0, 32, [])), (32, Sum.inr (0, 2, 2, 0, 0, 0, 0)), (35, Sum.inl (27, 0, 0, 0, 36, []))]
theorem Z_X11_lodger (l : Launch) : ∀ q ∈ U_X11_lodger, zTok l O_X11_lodger F_X11_lodger q := zU_ok rfl rfl rfl K_X11_lodger (E_X11_lodger l)
def wp_X11_lodger (a : List zV) (S : zS) (K : zR2 → zS → Prop) : Prop := zif (Nat.ble (zsum a) 3) (zwq 7 F_X11_lodger U_X11_lodger O_X11_lodger [] (fun _ _ _ _ _ _ => False) K 21 U_X11_lodger 1 6 S 0 (zar 0 a) [])
theorem R_X11_lodger (l : Launch) (a : List zV) (S : zS) (Q : zR2 → zS → Prop) (h : wp_X11_lodger a S Q) : zRs l 7 1 6 yX11_lodger (.code yX11_lodger cX11_lodger 3 (some .int)) a S Q := by
  obtain ⟨h1, h⟩ := zif_ok h
  exact zRs_of 11 (by decide) rfl h1 (zwq_ok (Z_X11_lodger l) rfl [] (fun _ _ _ _ _ _ h => h.elim) 21 (Z_X11_lodger l) h)
def B_X12_lodger : List (Nat × zC) := [(7, (0, 0, 1, 1, 0, 0, 12)), (17, (1, 1, 3, 0, 0, 0, 0)), (21, (0, 2, 2, 0, 0, 0, 12)), (45, (0, 3, 2, 0, 0, 0, 12))]
def O_X12_lodger : zO := fun j a S K => match j with
  | 0 => wp_X12_isLodger a S K
  | 1 => wp_X12_within a S K
  | 2 => wp_X12_right a S K
  | 3 => wp_X12_has a S K
  | _ => False
theorem E_X12_lodger (l : Launch) : ∀ q ∈ B_X12_lodger, zcok l O_X12_lodger F_X12_lodger q.1 q.2 := List.forall_mem_cons.mpr ⟨⟨302, yX12_isLodger, cX12_isLodger, 2, some .boolean, by decide +kernel, C_12_302, W_X12_isLodger, I_X12_isLodger, S_X12_isLodger, rfl, rfl, R_X12_isLodger l⟩, List.forall_mem_cons.mpr ⟨⟨283, yX12_within, cX12_within, 3, some .boolean, by decide +kernel, C_12_283, W_X12_within, I_X12_within, rfl, R_X12_within l⟩, List.forall_mem_cons.mpr ⟨⟨241, yX12_right, cX12_right, 3, some .boolean, by decide +kernel, C_12_241, W_X12_right, I_X12_right, S_X12_right, rfl, rfl, R_X12_right l⟩, List.forall_mem_cons.mpr ⟨⟨293, yX12_has, cX12_has, 5, some .int, by decide +kernel, C_12_293, W_X12_has, I_X12_has, S_X12_has, rfl, rfl, R_X12_has l⟩, fun _ h => by cases h⟩⟩⟩⟩
def U_X12_lodger : List (Nat × zE) := [(0, Sum.inl (4, 0, 0, 0, 1, [])), (1, Sum.inl (0, 0, 0, 0, 2, [])), (2, Sum.inl (19, 12, 0, 0, 5, [])), (5, Sum.inl (4, 0, 0, 0, 6, [])), (6, Sum.inl (2, 1, 0, 0, 7, [])), (7, Sum.inr (0, 0, 1, 1, 0, 0, 12)), (10, Sum.inl (17, 0, 27, 0, 13, [])), (13, Sum.inl (4, 0, 0, 0, 14, [])), (14, Sum.inl (2, 2, 0, 0, 15, [])), (15, Sum.inl (0, 0, 0, 0, 16, [])), (16, Sum.inl (0, 0, 0, 2, 17, [])), (17, Sum.inr (1, 1, 3, 0, 0, 0, 0)), (20, Sum.inl (0, 0, 0, 1, 21, [])), (21, Sum.inr (0, 2, 2, 0, 0, 0, 12)), (24, Sum.inl (17, 0, 27, 0, 29, [])), (27, Sum.inl (0, 0, 0, 0, 28, [])), (28, Sum.inl (27, 0, 0, 0, 29, [])), (29, Sum.inl (2, 2, 0, 0, 30, [])), (30, Sum.inl (17, 0, 33, 0, 42, [])), (33, Sum.inl (4, 0, 0, 0, 34, [])), (34, Sum.inl (18, 12, 7, 0, 37, [])), (37, Sum.inl (2, 1, 0, 0, 38, [])), (38, Sum.inl (20, 0, 0, 0, 39, [])), (39, Sum.inl (15, 0, 0, 0, 48, [])), (42, Sum.inl (4, 0, 0, 0, 43, [])), (43, Sum.inl (2, 1, 0, 0, 44, [])), (44, Sum.inl (2, 2, 0, 0, 45, [])), (45, Sum.inr (0, 3, 2, 0, 0, 0, 12)), (48, Sum.inl (27, 0, 0, 0, 49, []))]
theorem Z_X12_lodger (l : Launch) : ∀ q ∈ U_X12_lodger, zTok l O_X12_lodger F_X12_lodger q := zU_ok rfl rfl rfl K_X12_lodger (E_X12_lodger l)
def wp_X12_lodger (a : List zV) (S : zS) (K : zR2 → zS → Prop) : Prop := zif (Nat.ble (zsum a) 3) (zwq 2 F_X12_lodger U_X12_lodger O_X12_lodger [] (fun _ _ _ _ _ _ => False) K 30 U_X12_lodger 0 0 S 0 (zar 0 a) [])
theorem R_X12_lodger (l : Launch) (a : List zV) (S : zS) (Q : zR2 → zS → Prop) (h : wp_X12_lodger a S Q) : zRs l 2 0 0 yX12_lodger (.code yX12_lodger cX12_lodger 3 (some .int)) a S Q := by
  obtain ⟨h1, h⟩ := zif_ok h
  exact zRs_of 12 (by decide) rfl h1 (zwq_ok (Z_X12_lodger l) rfl [] (fun _ _ _ _ _ _ h => h.elim) 30 (Z_X12_lodger l) h)
def B_X11_does : List (Nat × zC) := [(2, (2, 0, 1, 6, 0, 0, 11)), (6, (4, 1, 1, 6, 0, 0, 0)), (15, (0, 2, 2, 0, 0, 0, 0))]
def O_X11_does : zO := fun j a S K => match j with
  | 0 => wp_X11_needLodger a S K
  | 1 => wp_X11_needHour a S K
  | 2 => wp_X0_doing a S K
  | _ => False
theorem E_X11_does (l : Launch) : ∀ q ∈ B_X11_does, zcok l O_X11_does F_X11_does q.1 q.2 := List.forall_mem_cons.mpr ⟨⟨192, yX11_needLodger, cX11_needLodger, 2, none, by decide +kernel, C_11_192, W_X11_needLodger, I_X11_needLodger, S_X11_needLodger, rfl, rfl, R_X11_needLodger l⟩, List.forall_mem_cons.mpr ⟨⟨202, yX11_needHour, cX11_needHour, 1, none, by decide +kernel, C_11_202, W_X11_needHour, I_X11_needHour, rfl, R_X11_needHour l⟩, List.forall_mem_cons.mpr ⟨⟨239, yX0_doing, cX0_doing, 3, some .int, by decide +kernel, C_11_239, W_X0_doing, I_X0_doing, S_X0_doing, rfl, rfl, R_X0_doing l⟩, fun _ h => by cases h⟩⟩⟩
def U_X11_does : List (Nat × zE) := [(0, Sum.inl (4, 0, 0, 0, 1, [])), (1, Sum.inl (2, 1, 0, 0, 2, [])), (2, Sum.inr (2, 0, 1, 6, 0, 0, 11)), (5, Sum.inl (2, 2, 0, 0, 6, [])), (6, Sum.inr (4, 1, 1, 6, 0, 0, 0)), (9, Sum.inl (4, 0, 0, 0, 10, [])), (10, Sum.inl (18, 11, 4, 0, 13, [])), (13, Sum.inl (2, 1, 0, 0, 14, [])), (14, Sum.inl (2, 2, 0, 0, 15, [])), (15, Sum.inr (0, 2, 2, 0, 0, 0, 0)), (18, Sum.inl (27, 0, 0, 0, 19, []))]
theorem Z_X11_does (l : Launch) : ∀ q ∈ U_X11_does, zTok l O_X11_does F_X11_does q := zU_ok rfl rfl rfl K_X11_does (E_X11_does l)
def wp_X11_does (a : List zV) (S : zS) (K : zR2 → zS → Prop) : Prop := zif (Nat.ble (zsum a) 3) (zwq 7 F_X11_does U_X11_does O_X11_does [] (fun _ _ _ _ _ _ => False) K 12 U_X11_does 1 6 S 0 (zar 0 a) [])
theorem R_X11_does (l : Launch) (a : List zV) (S : zS) (Q : zR2 → zS → Prop) (h : wp_X11_does a S Q) : zRs l 7 1 6 yX11_does (.code yX11_does cX11_does 3 (some .int)) a S Q := by
  obtain ⟨h1, h⟩ := zif_ok h
  exact zRs_of 11 (by decide) rfl h1 (zwq_ok (Z_X11_does l) rfl [] (fun _ _ _ _ _ _ h => h.elim) 12 (Z_X11_does l) h)
def B_X12_does : List (Nat × zC) := [(7, (0, 0, 1, 1, 0, 0, 12)), (15, (0, 1, 1, 1, 0, 0, 12)), (32, (1, 2, 1, 0, 0, 0, 0))]
def O_X12_does : zO := fun j a S K => match j with
  | 0 => wp_X12_isLodger a S K
  | 1 => wp_X12_isHour a S K
  | 2 => wp_X12_toldOf a S K
  | _ => False
theorem E_X12_does (l : Launch) : ∀ q ∈ B_X12_does, zcok l O_X12_does F_X12_does q.1 q.2 := List.forall_mem_cons.mpr ⟨⟨302, yX12_isLodger, cX12_isLodger, 2, some .boolean, by decide +kernel, C_12_302, W_X12_isLodger, I_X12_isLodger, S_X12_isLodger, rfl, rfl, R_X12_isLodger l⟩, List.forall_mem_cons.mpr ⟨⟨305, yX12_isHour, cX12_isHour, 2, some .boolean, by decide +kernel, C_12_305, W_X12_isHour, I_X12_isHour, S_X12_isHour, rfl, rfl, R_X12_isHour l⟩, List.forall_mem_cons.mpr ⟨⟨311, yX12_toldOf, cX12_toldOf, 1, some .int, by decide +kernel, C_12_311, W_X12_toldOf, I_X12_toldOf, rfl, R_X12_toldOf l⟩, fun _ h => by cases h⟩⟩⟩
def U_X12_does : List (Nat × zE) := [(0, Sum.inl (4, 0, 0, 0, 1, [])), (1, Sum.inl (0, 0, 0, 0, 2, [])), (2, Sum.inl (19, 12, 0, 0, 5, [])), (5, Sum.inl (4, 0, 0, 0, 6, [])), (6, Sum.inl (2, 1, 0, 0, 7, [])), (7, Sum.inr (0, 0, 1, 1, 0, 0, 12)), (10, Sum.inl (17, 0, 38, 0, 13, [])), (13, Sum.inl (4, 0, 0, 0, 14, [])), (14, Sum.inl (2, 2, 0, 0, 15, [])), (15, Sum.inr (0, 1, 1, 1, 0, 0, 12)), (18, Sum.inl (17, 0, 38, 0, 21, [])), (21, Sum.inl (4, 0, 0, 0, 22, [])), (22, Sum.inl (18, 12, 38, 0, 25, [])), (25, Sum.inl (0, 0, 0, 24, 27, [])), (27, Sum.inl (2, 1, 0, 0, 28, [])), (28, Sum.inl (9, 2, 0, 0, 29, [])), (29, Sum.inl (2, 2, 0, 0, 30, [])), (30, Sum.inl (9, 0, 0, 0, 31, [])), (31, Sum.inl (20, 0, 0, 0, 32, [])), (32, Sum.inr (1, 2, 1, 0, 0, 0, 0)), (35, Sum.inl (15, 0, 0, 0, 39, [])), (38, Sum.inl (0, 0, 0, 0, 39, [])), (39, Sum.inl (27, 0, 0, 0, 40, []))]
theorem Z_X12_does (l : Launch) : ∀ q ∈ U_X12_does, zTok l O_X12_does F_X12_does q := zU_ok rfl rfl rfl K_X12_does (E_X12_does l)
def wp_X12_does (a : List zV) (S : zS) (K : zR2 → zS → Prop) : Prop := zif (Nat.ble (zsum a) 3) (zwq 2 F_X12_does U_X12_does O_X12_does [] (fun _ _ _ _ _ _ => False) K 24 U_X12_does 0 0 S 0 (zar 0 a) [])
theorem R_X12_does (l : Launch) (a : List zV) (S : zS) (Q : zR2 → zS → Prop) (h : wp_X12_does a S Q) : zRs l 2 0 0 yX12_does (.code yX12_does cX12_does 3 (some .int)) a S Q := by
  obtain ⟨h1, h⟩ := zif_ok h
  exact zRs_of 12 (by decide) rfl h1 (zwq_ok (Z_X12_does l) rfl [] (fun _ _ _ _ _ _ h => h.elim) 24 (Z_X12_does l) h)
def B_X11_sign : List (Nat × zC) := [(2, (2, 0, 1, 6, 0, 0, 11)), (6, (4, 1, 1, 6, 0, 0, 0)), (15, (0, 2, 2, 2, 0, 0, 3))]
def O_X11_sign : zO := fun j a S K => match j with
  | 0 => wp_X11_needRoom a S K
  | 1 => wp_X11_needHour a S K
  | 2 => wp_X3_signAt a S K
  | _ => False
theorem E_X11_sign (l : Launch) : ∀ q ∈ B_X11_sign, zcok l O_X11_sign F_X11_sign q.1 q.2 := List.forall_mem_cons.mpr ⟨⟨179, yX11_needRoom, cX11_needRoom, 2, none, by decide +kernel, C_11_179, W_X11_needRoom, I_X11_needRoom, S_X11_needRoom, rfl, rfl, R_X11_needRoom l⟩, List.forall_mem_cons.mpr ⟨⟨202, yX11_needHour, cX11_needHour, 1, none, by decide +kernel, C_11_202, W_X11_needHour, I_X11_needHour, rfl, R_X11_needHour l⟩, List.forall_mem_cons.mpr ⟨⟨242, yX3_signAt, cX3_signAt, 4, some .int, by decide +kernel, C_11_242, W_X3_signAt, I_X3_signAt, S_X3_signAt, rfl, rfl, R_X3_signAt l⟩, fun _ h => by cases h⟩⟩⟩
def U_X11_sign : List (Nat × zE) := [(0, Sum.inl (4, 0, 0, 0, 1, [])), (1, Sum.inl (2, 1, 0, 0, 2, [])), (2, Sum.inr (2, 0, 1, 6, 0, 0, 11)), (5, Sum.inl (2, 2, 0, 0, 6, [])), (6, Sum.inr (4, 1, 1, 6, 0, 0, 0)), (9, Sum.inl (4, 0, 0, 0, 10, [])), (10, Sum.inl (18, 11, 6, 0, 13, [])), (13, Sum.inl (2, 1, 0, 0, 14, [])), (14, Sum.inl (2, 2, 0, 0, 15, [])), (15, Sum.inr (0, 2, 2, 2, 0, 0, 3)), (18, Sum.inl (27, 0, 0, 0, 19, []))]
theorem Z_X11_sign (l : Launch) : ∀ q ∈ U_X11_sign, zTok l O_X11_sign F_X11_sign q := zU_ok rfl rfl rfl K_X11_sign (E_X11_sign l)
def wp_X11_sign (a : List zV) (S : zS) (K : zR2 → zS → Prop) : Prop := zif (Nat.ble (zsum a) 3) (zwq 7 F_X11_sign U_X11_sign O_X11_sign [] (fun _ _ _ _ _ _ => False) K 12 U_X11_sign 1 6 S 0 (zar 0 a) [])
theorem R_X11_sign (l : Launch) (a : List zV) (S : zS) (Q : zR2 → zS → Prop) (h : wp_X11_sign a S Q) : zRs l 7 1 6 yX11_sign (.code yX11_sign cX11_sign 3 (some .int)) a S Q := by
  obtain ⟨h1, h⟩ := zif_ok h
  exact zRs_of 11 (by decide) rfl h1 (zwq_ok (Z_X11_sign l) rfl [] (fun _ _ _ _ _ _ h => h.elim) 12 (Z_X11_sign l) h)
def B_X12_sign : List (Nat × zC) := [(7, (0, 0, 1, 1, 0, 0, 12)), (15, (0, 1, 1, 1, 0, 0, 12)), (24, (0, 2, 2, 3, 0, 0, 12))]
def O_X12_sign : zO := fun j a S K => match j with
  | 0 => wp_X12_isRoom a S K
  | 1 => wp_X12_isHour a S K
  | 2 => wp_X12_signAt a S K
  | _ => False
theorem E_X12_sign (l : Launch) : ∀ q ∈ B_X12_sign, zcok l O_X12_sign F_X12_sign q.1 q.2 := List.forall_mem_cons.mpr ⟨⟨287, yX12_isRoom, cX12_isRoom, 2, some .boolean, by decide +kernel, C_12_287, W_X12_isRoom, I_X12_isRoom, S_X12_isRoom, rfl, rfl, R_X12_isRoom l⟩, List.forall_mem_cons.mpr ⟨⟨305, yX12_isHour, cX12_isHour, 2, some .boolean, by decide +kernel, C_12_305, W_X12_isHour, I_X12_isHour, S_X12_isHour, rfl, rfl, R_X12_isHour l⟩, List.forall_mem_cons.mpr ⟨⟨321, yX12_signAt, cX12_signAt, 3, some .int, by decide +kernel, C_12_321, W_X12_signAt, I_X12_signAt, S_X12_signAt, rfl, rfl, R_X12_signAt l⟩, fun _ h => by cases h⟩⟩⟩
def U_X12_sign : List (Nat × zE) := [(0, Sum.inl (4, 0, 0, 0, 1, [])), (1, Sum.inl (0, 0, 0, 0, 2, [])), (2, Sum.inl (19, 12, 0, 0, 5, [])), (5, Sum.inl (4, 0, 0, 0, 6, [])), (6, Sum.inl (2, 1, 0, 0, 7, [])), (7, Sum.inr (0, 0, 1, 1, 0, 0, 12)), (10, Sum.inl (17, 0, 30, 0, 13, [])), (13, Sum.inl (4, 0, 0, 0, 14, [])), (14, Sum.inl (2, 2, 0, 0, 15, [])), (15, Sum.inr (0, 1, 1, 1, 0, 0, 12)), (18, Sum.inl (17, 0, 30, 0, 21, [])), (21, Sum.inl (4, 0, 0, 0, 22, [])), (22, Sum.inl (2, 1, 0, 0, 23, [])), (23, Sum.inl (2, 2, 0, 0, 24, [])), (24, Sum.inr (0, 2, 2, 3, 0, 0, 12)), (27, Sum.inl (15, 0, 0, 0, 31, [])), (30, Sum.inl (0, 0, 0, 0, 31, [])), (31, Sum.inl (27, 0, 0, 0, 32, []))]
theorem Z_X12_sign (l : Launch) : ∀ q ∈ U_X12_sign, zTok l O_X12_sign F_X12_sign q := zU_ok rfl rfl rfl K_X12_sign (E_X12_sign l)
def wp_X12_sign (a : List zV) (S : zS) (K : zR2 → zS → Prop) : Prop := zif (Nat.ble (zsum a) 3) (zwq 4 F_X12_sign U_X12_sign O_X12_sign [] (fun _ _ _ _ _ _ => False) K 19 U_X12_sign 0 0 S 0 (zar 0 a) [])
theorem R_X12_sign (l : Launch) (a : List zV) (S : zS) (Q : zR2 → zS → Prop) (h : wp_X12_sign a S Q) : zRs l 4 0 0 yX12_sign (.code yX12_sign cX12_sign 3 (some .int)) a S Q := by
  obtain ⟨h1, h⟩ := zif_ok h
  exact zRs_of 12 (by decide) rfl h1 (zwq_ok (Z_X12_sign l) rfl [] (fun _ _ _ _ _ _ h => h.elim) 19 (Z_X12_sign l) h)
def B_X11_chance : List (Nat × zC) := [(2, (2, 0, 1, 6, 0, 0, 11)), (6, (4, 1, 1, 6, 0, 0, 0)), (15, (0, 2, 2, 2, 0, 0, 3))]
def O_X11_chance : zO := fun j a S K => match j with
  | 0 => wp_X11_needRoom a S K
  | 1 => wp_X11_needHour a S K
  | 2 => wp_X3_chanceAt a S K
  | _ => False
theorem E_X11_chance (l : Launch) : ∀ q ∈ B_X11_chance, zcok l O_X11_chance F_X11_chance q.1 q.2 := List.forall_mem_cons.mpr ⟨⟨179, yX11_needRoom, cX11_needRoom, 2, none, by decide +kernel, C_11_179, W_X11_needRoom, I_X11_needRoom, S_X11_needRoom, rfl, rfl, R_X11_needRoom l⟩, List.forall_mem_cons.mpr ⟨⟨202, yX11_needHour, cX11_needHour, 1, none, by decide +kernel, C_11_202, W_X11_needHour, I_X11_needHour, rfl, R_X11_needHour l⟩, List.forall_mem_cons.mpr ⟨⟨288, yX3_chanceAt, cX3_chanceAt, 5, some .int, by decide +kernel, C_11_288, W_X3_chanceAt, I_X3_chanceAt, S_X3_chanceAt, rfl, rfl, R_X3_chanceAt l⟩, fun _ h => by cases h⟩⟩⟩
def U_X11_chance : List (Nat × zE) := [(0, Sum.inl (4, 0, 0, 0, 1, [])), (1, Sum.inl (2, 1, 0, 0, 2, [])), (2, Sum.inr (2, 0, 1, 6, 0, 0, 11)), (5, Sum.inl (2, 2, 0, 0, 6, [])), (6, Sum.inr (4, 1, 1, 6, 0, 0, 0)), (9, Sum.inl (4, 0, 0, 0, 10, [])), (10, Sum.inl (18, 11, 6, 0, 13, [])), (13, Sum.inl (2, 1, 0, 0, 14, [])), (14, Sum.inl (2, 2, 0, 0, 15, [])), (15, Sum.inr (0, 2, 2, 2, 0, 0, 3)), (18, Sum.inl (27, 0, 0, 0, 19, []))]
theorem Z_X11_chance (l : Launch) : ∀ q ∈ U_X11_chance, zTok l O_X11_chance F_X11_chance q := zU_ok rfl rfl rfl K_X11_chance (E_X11_chance l)
def wp_X11_chance (a : List zV) (S : zS) (K : zR2 → zS → Prop) : Prop := zif (Nat.ble (zsum a) 3) (zwq 7 F_X11_chance U_X11_chance O_X11_chance [] (fun _ _ _ _ _ _ => False) K 12 U_X11_chance 1 6 S 0 (zar 0 a) [])
theorem R_X11_chance (l : Launch) (a : List zV) (S : zS) (Q : zR2 → zS → Prop) (h : wp_X11_chance a S Q) : zRs l 7 1 6 yX11_chance (.code yX11_chance cX11_chance 3 (some .int)) a S Q := by
  obtain ⟨h1, h⟩ := zif_ok h
  exact zRs_of 11 (by decide) rfl h1 (zwq_ok (Z_X11_chance l) rfl [] (fun _ _ _ _ _ _ h => h.elim) 12 (Z_X11_chance l) h)
def B_X12_chance : List (Nat × zC) := [(7, (0, 0, 1, 1, 0, 0, 12)), (15, (0, 1, 1, 1, 0, 0, 12)), (24, (0, 2, 2, 3, 0, 0, 12))]
def O_X12_chance : zO := fun j a S K => match j with
  | 0 => wp_X12_isRoom a S K
  | 1 => wp_X12_isHour a S K
  | 2 => wp_X12_chanceOf a S K
  | _ => False
theorem E_X12_chance (l : Launch) : ∀ q ∈ B_X12_chance, zcok l O_X12_chance F_X12_chance q.1 q.2 := List.forall_mem_cons.mpr ⟨⟨287, yX12_isRoom, cX12_isRoom, 2, some .boolean, by decide +kernel, C_12_287, W_X12_isRoom, I_X12_isRoom, S_X12_isRoom, rfl, rfl, R_X12_isRoom l⟩, List.forall_mem_cons.mpr ⟨⟨305, yX12_isHour, cX12_isHour, 2, some .boolean, by decide +kernel, C_12_305, W_X12_isHour, I_X12_isHour, S_X12_isHour, rfl, rfl, R_X12_isHour l⟩, List.forall_mem_cons.mpr ⟨⟨371, yX12_chanceOf, cX12_chanceOf, 6, some .int, by decide +kernel, C_12_371, W_X12_chanceOf, I_X12_chanceOf, S_X12_chanceOf, rfl, rfl, R_X12_chanceOf l⟩, fun _ h => by cases h⟩⟩⟩
def U_X12_chance : List (Nat × zE) := [(0, Sum.inl (4, 0, 0, 0, 1, [])), (1, Sum.inl (0, 0, 0, 0, 2, [])), (2, Sum.inl (19, 12, 0, 0, 5, [])), (5, Sum.inl (4, 0, 0, 0, 6, [])), (6, Sum.inl (2, 1, 0, 0, 7, [])), (7, Sum.inr (0, 0, 1, 1, 0, 0, 12)), (10, Sum.inl (17, 0, 30, 0, 13, [])), (13, Sum.inl (4, 0, 0, 0, 14, [])), (14, Sum.inl (2, 2, 0, 0, 15, [])), (15, Sum.inr (0, 1, 1, 1, 0, 0, 12)), (18, Sum.inl (17, 0, 30, 0, 21, [])), (21, Sum.inl (4, 0, 0, 0, 22, [])), (22, Sum.inl (2, 1, 0, 0, 23, [])), (23, Sum.inl (2, 2, 0, 0, 24, [])), (24, Sum.inr (0, 2, 2, 3, 0, 0, 12)), (27, Sum.inl (15, 0, 0, 0, 31, [])), (30, Sum.inl (0, 0, 0, 0, 31, [])), (31, Sum.inl (27, 0, 0, 0, 32, []))]
theorem Z_X12_chance (l : Launch) : ∀ q ∈ U_X12_chance, zTok l O_X12_chance F_X12_chance q := zU_ok rfl rfl rfl K_X12_chance (E_X12_chance l)
def wp_X12_chance (a : List zV) (S : zS) (K : zR2 → zS → Prop) : Prop := zif (Nat.ble (zsum a) 3) (zwq 4 F_X12_chance U_X12_chance O_X12_chance [] (fun _ _ _ _ _ _ => False) K 19 U_X12_chance 0 0 S 0 (zar 0 a) [])
theorem R_X12_chance (l : Launch) (a : List zV) (S : zS) (Q : zR2 → zS → Prop) (h : wp_X12_chance a S Q) : zRs l 4 0 0 yX12_chance (.code yX12_chance cX12_chance 3 (some .int)) a S Q := by
  obtain ⟨h1, h⟩ := zif_ok h
  exact zRs_of 12 (by decide) rfl h1 (zwq_ok (Z_X12_chance l) rfl [] (fun _ _ _ _ _ _ h => h.elim) 19 (Z_X12_chance l) h)
def B_X11_says : List (Nat × zC) := [(2, (2, 0, 1, 6, 0, 0, 11)), (11, (0, 1, 2, 0, 0, 0, 6)), (17, (9, 1, 0, 174, 220, 178, 0)), (33, (0, 2, 2, 1, 0, 0, 3))]
def O_X11_says : zO := fun j a S K => match j with
  | 0 => wp_X11_needLodger a S K
  | 1 => wp_X6_canDo a S K
  | 2 => wp_X3_signOf a S K
  | _ => False
theorem E_X11_says (l : Launch) : ∀ q ∈ B_X11_says, zcok l O_X11_says F_X11_says q.1 q.2 := List.forall_mem_cons.mpr ⟨⟨192, yX11_needLodger, cX11_needLodger, 2, none, by decide +kernel, C_11_192, W_X11_needLodger, I_X11_needLodger, S_X11_needLodger, rfl, rfl, R_X11_needLodger l⟩, List.forall_mem_cons.mpr ⟨⟨216, yX6_canDo, cX6_canDo, 3, some .boolean, by decide +kernel, C_11_216, W_X6_canDo, I_X6_canDo, S_X6_canDo, rfl, rfl, R_X6_canDo l⟩, List.forall_mem_cons.mpr ⟨⟨rfl, rfl, z_at 799 (by decide +kernel) (by decide +kernel), ⟨20, _, rfl, rfl, rfl⟩, by decide +kernel, by decide +kernel, Or.inl ⟨rfl, by decide +kernel, by decide +kernel, by decide +kernel⟩, Or.inr ⟨rfl, rfl⟩⟩, List.forall_mem_cons.mpr ⟨⟨222, yX3_signOf, cX3_signOf, 3, some .int, by decide +kernel, C_11_222, W_X3_signOf, I_X3_signOf, S_X3_signOf, rfl, rfl, R_X3_signOf l⟩, fun _ h => by cases h⟩⟩⟩⟩
def U_X11_says : List (Nat × zE) := [(0, Sum.inl (4, 0, 0, 0, 1, [])), (1, Sum.inl (2, 1, 0, 0, 2, [])), (2, Sum.inr (2, 0, 1, 6, 0, 0, 11)), (5, Sum.inl (4, 0, 0, 0, 6, [])), (6, Sum.inl (18, 11, 1, 0, 9, [])), (9, Sum.inl (2, 1, 0, 0, 10, [])), (10, Sum.inl (2, 2, 0, 0, 11, [])), (11, Sum.inr (0, 1, 2, 0, 0, 0, 6)), (14, Sum.inl (17, 0, 17, 0, 27, [])), (17, Sum.inr (9, 1, 0, 174, 220, 178, 0)), (20, Sum.inl (12, 0, 0, 0, 21, [])), (27, Sum.inl (4, 0, 0, 0, 28, [])), (28, Sum.inl (18, 11, 6, 0, 31, [])), (31, Sum.inl (2, 1, 0, 0, 32, [])), (32, Sum.inl (2, 2, 0, 0, 33, [])), (33, Sum.inr (0, 2, 2, 1, 0, 0, 3)), (36, Sum.inl (27, 0, 0, 0, 37, []))]
theorem Z_X11_says (l : Launch) : ∀ q ∈ U_X11_says, zTok l O_X11_says F_X11_says q := zU_ok rfl rfl rfl K_X11_says (E_X11_says l)
def wp_X11_says (a : List zV) (S : zS) (K : zR2 → zS → Prop) : Prop := zif (Nat.ble (zsum a) 3) (zwq 7 F_X11_says U_X11_says O_X11_says [] (fun _ _ _ _ _ _ => False) K 21 U_X11_says 1 6 S 0 (zar 0 a) [])
theorem R_X11_says (l : Launch) (a : List zV) (S : zS) (Q : zR2 → zS → Prop) (h : wp_X11_says a S Q) : zRs l 7 1 6 yX11_says (.code yX11_says cX11_says 3 (some .int)) a S Q := by
  obtain ⟨h1, h⟩ := zif_ok h
  exact zRs_of 11 (by decide) rfl h1 (zwq_ok (Z_X11_says l) rfl [] (fun _ _ _ _ _ _ h => h.elim) 21 (Z_X11_says l) h)
def B_X12_says : List (Nat × zC) := [(7, (0, 0, 1, 1, 0, 0, 12)), (17, (1, 1, 3, 0, 0, 0, 0)), (59, (0, 2, 2, 0, 0, 0, 12)), (82, (0, 3, 2, 2, 0, 0, 12))]
def O_X12_says : zO := fun j a S K => match j with
  | 0 => wp_X12_isLodger a S K
  | 1 => wp_X12_within a S K
  | 2 => wp_X12_right a S K
  | 3 => wp_X12_signOf a S K
  | _ => False
theorem E_X12_says (l : Launch) : ∀ q ∈ B_X12_says, zcok l O_X12_says F_X12_says q.1 q.2 := List.forall_mem_cons.mpr ⟨⟨302, yX12_isLodger, cX12_isLodger, 2, some .boolean, by decide +kernel, C_12_302, W_X12_isLodger, I_X12_isLodger, S_X12_isLodger, rfl, rfl, R_X12_isLodger l⟩, List.forall_mem_cons.mpr ⟨⟨283, yX12_within, cX12_within, 3, some .boolean, by decide +kernel, C_12_283, W_X12_within, I_X12_within, rfl, R_X12_within l⟩, List.forall_mem_cons.mpr ⟨⟨241, yX12_right, cX12_right, 3, some .boolean, by decide +kernel, C_12_241, W_X12_right, I_X12_right, S_X12_right, rfl, rfl, R_X12_right l⟩, List.forall_mem_cons.mpr ⟨⟨314, yX12_signOf, cX12_signOf, 3, some .int, by decide +kernel, C_12_314, W_X12_signOf, I_X12_signOf, S_X12_signOf, rfl, rfl, R_X12_signOf l⟩, fun _ h => by cases h⟩⟩⟩⟩
def U_X12_says : List (Nat × zE) := [(0, Sum.inl (4, 0, 0, 0, 1, [])), (1, Sum.inl (0, 0, 0, 0, 2, [])), (2, Sum.inl (19, 12, 0, 0, 5, [])), (5, Sum.inl (4, 0, 0, 0, 6, [])), (6, Sum.inl (2, 1, 0, 0, 7, [])), (7, Sum.inr (0, 0, 1, 1, 0, 0, 12)), (10, Sum.inl (17, 0, 65, 0, 13, [])), (13, Sum.inl (4, 0, 0, 0, 14, [])), (14, Sum.inl (2, 2, 0, 0, 15, [])), (15, Sum.inl (0, 0, 0, 0, 16, [])), (16, Sum.inl (0, 0, 0, 3, 17, [])), (17, Sum.inr (1, 1, 3, 0, 0, 0, 0)), (20, Sum.inl (17, 0, 23, 0, 53, [])), (23, Sum.inl (2, 2, 0, 0, 24, [])), (24, Sum.inl (0, 0, 0, 10, 26, [])), (26, Sum.inl (16, 1, 57, 0, 29, [])), (29, Sum.inl (2, 2, 0, 0, 30, [])), (30, Sum.inl (0, 0, 0, 10, 32, [])), (32, Sum.inl (9, 1, 0, 0, 33, [])), (33, Sum.inl (4, 0, 0, 0, 34, [])), (34, Sum.inl (18, 12, 1, 0, 37, [])), (37, Sum.inl (16, 1, 40, 0, 57, [])), (40, Sum.inl (2, 2, 0, 0, 41, [])), (41, Sum.inl (0, 0, 0, 10, 43, [])), (43, Sum.inl (9, 1, 0, 0, 44, [])), (44, Sum.inl (4, 0, 0, 0, 45, [])), (45, Sum.inl (18, 12, 7, 0, 48, [])), (48, Sum.inl (2, 1, 0, 0, 49, [])), (49, Sum.inl (20, 0, 0, 0, 50, [])), (50, Sum.inl (16, 0, 57, 0, 53, [])), (53, Sum.inl (0, 0, 0, 1, 54, [])), (54, Sum.inl (15, 0, 0, 0, 58, [])), (57, Sum.inl (0, 0, 0, 0, 58, [])), (58, Sum.inl (0, 0, 0, 1, 59, [])), (59, Sum.inr (0, 2, 2, 0, 0, 0, 12)), (62, Sum.inl (17, 0, 65, 0, 67, [])), (65, Sum.inl (0, 0, 0, 0, 66, [])), (66, Sum.inl (27, 0, 0, 0, 67, [])), (67, Sum.inl (4, 0, 0, 0, 68, [])), (68, Sum.inl (2, 1, 0, 0, 69, [])), (69, Sum.inl (2, 2, 0, 0, 70, [])), (70, Sum.inl (0, 0, 0, 4, 71, [])), (71, Sum.inl (16, 1, 74, 0, 78, [])), (74, Sum.inl (2, 2, 0, 0, 75, [])), (75, Sum.inl (15, 0, 0, 0, 82, [])), (78, Sum.inl (2, 2, 0, 0, 79, [])), (79, Sum.inl (0, 0, 0, 6, 81, [])), (81, Sum.inl (9, 1, 0, 0, 82, [])), (82, Sum.inr (0, 3, 2, 2, 0, 0, 12)), (85, Sum.inl (27, 0, 0, 0, 86, []))]
theorem Z_X12_says (l : Launch) : ∀ q ∈ U_X12_says, zTok l O_X12_says F_X12_says q := zU_ok rfl rfl rfl K_X12_says (E_X12_says l)
def wp_X12_says (a : List zV) (S : zS) (K : zR2 → zS → Prop) : Prop := zif (Nat.ble (zsum a) 3) (zwq 3 F_X12_says U_X12_says O_X12_says [] (fun _ _ _ _ _ _ => False) K 51 U_X12_says 0 0 S 0 (zar 0 a) [])
theorem R_X12_says (l : Launch) (a : List zV) (S : zS) (Q : zR2 → zS → Prop) (h : wp_X12_says a S Q) : zRs l 3 0 0 yX12_says (.code yX12_says cX12_says 3 (some .int)) a S Q := by
  obtain ⟨h1, h⟩ := zif_ok h
  exact zRs_of 12 (by decide) rfl h1 (zwq_ok (Z_X12_says l) rfl [] (fun _ _ _ _ _ _ h => h.elim) 51 (Z_X12_says l) h)
def lodgerA (D : zD) (x y : Int) : Nat × Int := if 0 ≤ x ∧ x < dL D then (if 0 ≤ y ∧ y < 3 then (if y = 0 then (0, (dH D x.toNat : Int)) else (0, (dU D (2 * x.toNat + y.toNat - 1) : Int))) else (1, 0)) else (1, 0)
def doesA (D : zD) (x y : Int) : Nat × Int := if 0 ≤ x ∧ x < dL D then (if 0 ≤ y ∧ y < 24 then (0, (tol (dD D (24 * x.toNat + y.toNat)) : Int)) else (1, 0)) else (1, 0)
def signA (D : zD) (x y : Int) : Nat × Int := if 0 ≤ x ∧ x < dR D then (if 0 ≤ y ∧ y < 24 then (0, (sgaD D x.toNat y.toNat : Int)) else (1, 0)) else (1, 0)
def chanceA (D : zD) (x y : Int) : Nat × Int := if 0 ≤ x ∧ x < dR D then (if 0 ≤ y ∧ y < 24 then (0, (chaD D x.toNat y.toNat : Int)) else (1, 0)) else (1, 0)
def saysA (D : zD) (x y : Int) : Nat × Int := if 0 ≤ x ∧ x < dL D then (if (0 ≤ y ∧ y ≤ 3) ∨ (10 ≤ y ∧ y < 10 + (dR D : Int) ∧ y ≠ 10 + (dH D x.toNat : Int)) then (0, (sigD D x.toNat y.toNat : Int)) else (1, 0)) else (1, 0)
section
variable {S : zS} {D E T : zD} {N : Nat} {K : zR2 → zS → Prop} {x y z u w : Int}
theorem c_fault (hC : eC S D E T) (h : cRes S D E T (cr1 (0, (T 2 0 : Int) - 1)) K) : wp_X11_fault [.inr (.inl 0)] S K := by
  have h := cGood hC h
  rw [← hC.fault] at h
  exact h
theorem m_fault (hM : eM S D E T) (h : mRes S D E T (0, (T 2 0 : Int) - 1) K) : wp_X12_fault [.inr (.inl 62)] S K := by
  rw [← hM.fault] at h
  exact mGood hM h
theorem c_lodger (hC : eC S D E T) (hX : xOK D E T N) (h : cRes S D E T (cr1 (lodgerA D x y)) K) : wp_X11_lodger [.inr (.inl 0), .inl x, .inl y] S K := by
  have h := cGood hC h
  have e1 := hC.now.lodgers
  have e2 := hX.now.lodgers
  unfold lodgerA at h
  refine ⟨rfl, fun c => ?_, fun c => ⟨fun c2 => ?_, fun c2 => ⟨fun c3 => ⟨x.toNat, ⟨by omega, by omega⟩, ?_⟩, fun c3 => ⟨by omega, by omega, by omega, 2 * x.toNat + y.toNat - 1, ⟨by omega, by omega⟩, ?_⟩⟩⟩⟩
  · rw [if_neg (by omega)] at h; exact h
  · rw [if_pos (by omega), if_neg (by omega)] at h; exact h
  · rw [if_pos (by omega), if_pos (by omega), if_pos (by omega), ← hC.now.home x.toNat (by omega)] at h; exact h
  · rw [if_pos (by omega), if_pos (by omega), if_neg (by omega), ← hC.now.shoes (2 * x.toNat + y.toNat - 1) (by omega)] at h; exact h
theorem m_lodger (hM : eM S D E T) (hX : xOK D E T N) (h : mRes S D E T (lodgerA D x y) K) : wp_X12_lodger [.inr (.inl 62), .inl x, .inl y] S K := by
  have e1 : zu S 62 0 0 62 2 = (dL D : Int) := hM.now.lodgers
  have e2 := hX.now.lodgers
  unfold lodgerA at h
  refine ⟨⟨rfl, rfl⟩, fun c => ⟨fun c9 => by omega, fun _ => ⟨fun c2 => ⟨⟨rfl, Or.inr rfl⟩, fun _ z => absurd z (by decide), fun _ _ => ⟨fun c9 => by omega, fun _ => ⟨fun c3 => ⟨x.toNat, ⟨by omega, by omega⟩, ?_⟩, fun c3 => ⟨D, x.toNat, y.toNat, ⟨rfl, hX.now, hM.now.u (Or.inl rfl), by omega, by omega, by omega, by omega⟩, ?_⟩⟩⟩, rfl, by decide⟩, fun c2 => ⟨⟨rfl, Or.inl rfl⟩, fun _ _ _ => ⟨fun _ => ?_, fun c9 => absurd rfl c9⟩, fun _ z => absurd z (by decide), rfl, by decide⟩⟩⟩, fun c => ⟨fun _ => ?_, fun c9 => absurd rfl c9⟩⟩
  · rw [if_pos (by omega), if_pos (by omega), if_pos (by omega), ← hM.now.home x.toNat (by omega)] at h; exact mGood hM h
  · rw [if_pos (by omega), if_pos (by omega), if_neg (by omega)] at h; exact mGood hM h
  · rw [if_pos (by omega), if_neg (by omega)] at h; exact mFail1 hM h
  · rw [if_neg (by omega)] at h; exact mFail1 hM h
theorem c_does (hC : eC S D E T) (hX : xOK D E T N) (h : cRes S D E T (cr1 (doesA D x y)) K) : wp_X11_does [.inr (.inl 0), .inl x, .inl y] S K := by
  have h := cGood hC h
  have e1 := hC.now.lodgers
  have e2 := hX.now.lodgers
  unfold doesA at h
  refine ⟨rfl, fun c => ?_, fun c => ⟨fun c2 => ?_, fun c2 => ⟨D, x.toNat, y.toNat, ⟨rfl, hC.now, by omega, by omega, by omega, by omega⟩, ?_⟩⟩⟩
  · rw [if_neg (by omega)] at h; exact h
  · rw [if_pos (by omega), if_neg (by omega)] at h; exact h
  · rw [if_pos (by omega), if_pos (by omega)] at h; exact h
theorem m_does (hM : eM S D E T) (hX : xOK D E T N) (h : mRes S D E T (doesA D x y) K) : wp_X12_does [.inr (.inl 62), .inl x, .inl y] S K := by
  have e1 : zu S 62 0 0 62 2 = (dL D : Int) := hM.now.lodgers
  have e2 := hX.now.lodgers
  unfold doesA at h
  refine ⟨⟨rfl, rfl⟩, fun c => ⟨fun c9 => by omega, fun _ => ⟨⟨rfl, rfl⟩, fun c2 => ⟨fun c9 => by omega, fun _ => ⟨by omega, by omega, 24 * x.toNat + y.toNat, ⟨by omega, by omega⟩, dD D (24 * x.toNat + y.toNat), ⟨hM.now.day _ (by omega), by have := hX.now.day (24 * x.toNat + y.toNat) (by omega); omega⟩, ?_⟩⟩, fun c2 => ⟨fun _ => ?_, fun c9 => absurd rfl c9⟩⟩⟩, fun c => ⟨fun _ => ?_, fun c9 => absurd rfl c9⟩⟩
  · rw [if_pos (by omega), if_pos (by omega)] at h; exact mGood hM h
  · rw [if_pos (by omega), if_neg (by omega)] at h; exact mFail1 hM h
  · rw [if_neg (by omega)] at h; exact mFail1 hM h
theorem c_sign (hC : eC S D E T) (hX : xOK D E T N) (h : cRes S D E T (cr1 (signA D x y)) K) : wp_X11_sign [.inr (.inl 0), .inl x, .inl y] S K := by
  have h := cGood hC h
  have e1 := hC.now.rooms
  unfold signA at h
  refine ⟨rfl, fun c => ?_, fun c => ⟨fun c2 => ?_, fun c2 => ⟨D, x.toNat, y.toNat, ⟨rfl, hX.now, hC.now, by omega, by omega, by omega, by omega⟩, ?_⟩⟩⟩
  · rw [if_neg (by omega)] at h; exact h
  · rw [if_pos (by omega), if_neg (by omega)] at h; exact h
  · rw [if_pos (by omega), if_pos (by omega)] at h; exact h
theorem m_sign (hM : eM S D E T) (hX : xOK D E T N) (h : mRes S D E T (signA D x y) K) : wp_X12_sign [.inr (.inl 62), .inl x, .inl y] S K := by
  have e1 : zu S 62 0 0 62 1 = (dR D : Int) := hM.now.rooms
  unfold signA at h
  refine ⟨⟨rfl, rfl⟩, fun c => ⟨fun c9 => by omega, fun _ => ⟨⟨rfl, rfl⟩, fun c2 => ⟨fun c9 => by omega, fun _ => ⟨D, x.toNat, y.toNat, ⟨rfl, hX.now, hM.now.u (Or.inl rfl), by omega, by omega, by omega, by omega⟩, ?_⟩⟩, fun c2 => ⟨fun _ => ?_, fun c9 => absurd rfl c9⟩⟩⟩, fun c => ⟨fun _ => ?_, fun c9 => absurd rfl c9⟩⟩
  · rw [if_pos (by omega), if_pos (by omega)] at h; exact mGood hM h
  · rw [if_pos (by omega), if_neg (by omega)] at h; exact mFail1 hM h
  · rw [if_neg (by omega)] at h; exact mFail1 hM h
theorem c_chance (hC : eC S D E T) (hX : xOK D E T N) (h : cRes S D E T (cr1 (chanceA D x y)) K) : wp_X11_chance [.inr (.inl 0), .inl x, .inl y] S K := by
  have h := cGood hC h
  have e1 := hC.now.rooms
  unfold chanceA at h
  refine ⟨rfl, fun c => ?_, fun c => ⟨fun c2 => ?_, fun c2 => ⟨D, x.toNat, y.toNat, ⟨rfl, hX.now, hC.now, by omega, by omega, by omega, by omega⟩, ?_⟩⟩⟩
  · rw [if_neg (by omega)] at h; exact h
  · rw [if_pos (by omega), if_neg (by omega)] at h; exact h
  · rw [if_pos (by omega), if_pos (by omega)] at h; exact h
theorem m_chance (hM : eM S D E T) (hX : xOK D E T N) (h : mRes S D E T (chanceA D x y) K) : wp_X12_chance [.inr (.inl 62), .inl x, .inl y] S K := by
  have e1 : zu S 62 0 0 62 1 = (dR D : Int) := hM.now.rooms
  unfold chanceA at h
  refine ⟨⟨rfl, rfl⟩, fun c => ⟨fun c9 => by omega, fun _ => ⟨⟨rfl, rfl⟩, fun c2 => ⟨fun c9 => by omega, fun _ => ⟨D, x.toNat, y.toNat, ⟨rfl, hX.now, hM.now.u (Or.inl rfl), by omega, by omega, by omega, by omega⟩, ?_⟩⟩, fun c2 => ⟨fun _ => ?_, fun c9 => absurd rfl c9⟩⟩⟩, fun c => ⟨fun _ => ?_, fun c9 => absurd rfl c9⟩⟩
  · rw [if_pos (by omega), if_pos (by omega)] at h; exact mGood hM h
  · rw [if_pos (by omega), if_neg (by omega)] at h; exact mFail1 hM h
  · rw [if_neg (by omega)] at h; exact mFail1 hM h
theorem c_says (hC : eC S D E T) (hX : xOK D E T N) (h : cRes S D E T (cr1 (saysA D x y)) K) : wp_X11_says [.inr (.inl 0), .inl x, .inl y] S K := by
  have h := cGood hC h
  have e1 := hC.now.lodgers
  unfold saysA at h
  refine ⟨rfl, fun c => ?_, fun c => ⟨D, x.toNat, ⟨rfl, hX.now, hC.now, by omega, by omega⟩, fun c2 => ⟨fun c9 => by omega, fun _ => ⟨D, x.toNat, y.toNat, ⟨rfl, hX.now, hC.now, by omega, ?_, by omega⟩, ?_⟩⟩, fun c2 => ⟨fun _ => ?_, fun c9 => absurd rfl c9⟩⟩⟩
  · rw [if_neg (by omega)] at h; exact h
  · unfold cdoP at c2; omega
  · unfold cdoP at c2; rw [if_pos (by omega), if_pos c2] at h; exact h
  · unfold cdoP at c2; rw [if_pos (by omega), if_neg c2] at h; exact h
theorem sig_6 (D : zD) (i : Nat) {k : Nat} (h : 10 ≤ k) : sigD D i (k - 6) = sigD D i k := by
  unfold sigD lawD
  rw [if_neg (by omega), if_neg (by omega)]
theorem m_says (hM : eM S D E T) (hX : xOK D E T N) (hy : zir y) (h : mRes S D E T (saysA D x y) K) : wp_X12_says [.inr (.inl 62), .inl x, .inl y] S K := by
  have e1 : zu S 62 0 0 62 2 = (dL D : Int) := hM.now.lodgers
  have e2 : zu S 62 0 0 62 1 = (dR D : Int) := hM.now.rooms
  have e3 := hX.now.lodgers
  have e4 := hX.now.rooms
  obtain ⟨hy1, hy2⟩ := hy
  unfold saysA at h
  have good : 0 ≤ x ∧ x < dL D → (0 ≤ y ∧ y ≤ 3) ∨ (10 ≤ y ∧ y < 10 + (dR D : Int) ∧ y ≠ 10 + (dH D x.toNat : Int)) → mRes S D E T (0, (sigD D x.toNat y.toNat : Int)) K := fun a b => by rw [if_pos a, if_pos b] at h; exact h
  have bad : 0 ≤ x ∧ x < dL D → ¬ ((0 ≤ y ∧ y ≤ 3) ∨ (10 ≤ y ∧ y < 10 + (dR D : Int) ∧ y ≠ 10 + (dH D x.toNat : Int))) → K (.inl (some (.inl 0))) (zu (zu S 62 0 0) 62 0 1) := fun a b => by rw [if_pos a, if_neg b] at h; exact mFail1 hM h
  refine ⟨⟨rfl, rfl⟩, fun c => ⟨fun c9 => by omega, fun _ => ?_⟩, fun c => ⟨fun _ => ?_, fun c9 => absurd rfl c9⟩⟩
  · have e5 : S 65 x.toNat = (dH D x.toNat : Int) := hM.now.home x.toNat (by omega)
    have e6 := hX.now.home x.toNat (by omega)
    refine ⟨fun c2 => ⟨fun c9 => by omega, fun _ => ⟨⟨rfl, Or.inr rfl⟩, fun _ z => absurd z (by decide), fun _ _ => ⟨fun c9 => by omega, fun _ => ⟨fun c3 => ⟨D, x.toNat, y.toNat, ⟨rfl, hX.now, hM.now.u (Or.inl rfl), by omega, by omega, by omega⟩, ?_⟩, fun c3 => by omega⟩⟩, rfl, by decide⟩⟩, fun c2 => ⟨fun _ => ⟨fun d1 => ?_, fun d1 => ⟨by omega, fun d2 => ⟨by omega, x.toNat, ⟨by omega, by omega⟩, fun d3 => ?_, fun d3 => ?_⟩, fun d2 => ?_⟩⟩, fun c9 => absurd rfl c9⟩⟩
    · exact mGood hM (good (by omega) (by omega))
    · exact ⟨⟨rfl, Or.inl rfl⟩, fun _ _ _ => ⟨fun _ => bad (by omega) (by omega), fun c9 => absurd rfl c9⟩, fun _ z => absurd z (by decide), rfl, by decide⟩
    · have d3 : y - 10 = S 65 x.toNat := d3
      exact ⟨⟨rfl, Or.inl rfl⟩, fun _ _ _ => ⟨fun _ => bad (by omega) (by omega), fun c9 => absurd rfl c9⟩, fun _ z => absurd z (by decide), rfl, by decide⟩
    · have d3 : ¬ y - 10 = S 65 x.toNat := d3
      refine ⟨⟨rfl, Or.inr rfl⟩, fun _ z => absurd z (by decide), fun _ _ => ⟨fun c9 => by omega, fun _ => ⟨fun c3 => by omega, fun c3 => ⟨by omega, D, x.toNat, y.toNat - 6, ⟨rfl, hX.now, hM.now.u (Or.inl rfl), by omega, by omega, by omega⟩, ?_⟩⟩⟩, rfl, by decide⟩
      rw [sig_6 D _ (by omega)]
      exact mGood hM (good (by omega) (by omega))
    · exact ⟨⟨rfl, Or.inl rfl⟩, fun _ _ _ => ⟨fun _ => bad (by omega) (by omega), fun c9 => absurd rfl c9⟩, fun _ z => absurd z (by decide), rfl, by decide⟩
  · rw [if_neg (by omega)] at h; exact mFail1 hM h
end
