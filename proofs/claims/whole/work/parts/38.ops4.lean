/-! path, lender, may, theft -/
theorem lget {l : List Nat} {n : Nat} (h : n < l.length) : l[n]? = some (l.getD n 0) := by
  rw [List.getD_eq_getElem?_getD, List.getElem?_eq_getElem h]
  rfl
theorem lget_mem {l : List Nat} {n : Nat} (h : n < l.length) : l.getD n 0 ∈ l := List.mem_of_getElem? (lget h)
def B_X11_path : List (Nat × zC) := [(8, (4, 0, 2, 6, 0, 0, 0)), (13, (4, 0, 2, 6, 0, 0, 0))]
def O_X11_path : zO := fun j a S K => match j with
  | 0 => wp_X11_needOneOf a S K
  | _ => False
theorem E_X11_path (l : Launch) : ∀ q ∈ B_X11_path, zcok l O_X11_path F_X11_path q.1 q.2 := List.forall_mem_cons.mpr ⟨⟨182, yX11_needOneOf, cX11_needOneOf, 2, none, by decide +kernel, C_11_182, W_X11_needOneOf, I_X11_needOneOf, rfl, R_X11_needOneOf l⟩, List.forall_mem_cons.mpr ⟨⟨182, yX11_needOneOf, cX11_needOneOf, 2, none, by decide +kernel, C_11_182, W_X11_needOneOf, I_X11_needOneOf, rfl, R_X11_needOneOf l⟩, fun _ h => by cases h⟩⟩
def U_X11_path : List (Nat × zE) := [(0, Sum.inl (2, 1, 0, 0, 1, [])), (1, Sum.inl (4, 0, 0, 0, 2, [])), (2, Sum.inl (18, 11, 9, 0, 5, [])), (5, Sum.inl (18, 10, 6, 0, 8, [])), (8, Sum.inr (4, 0, 2, 6, 0, 0, 0)), (11, Sum.inl (2, 2, 0, 0, 12, [])), (12, Sum.inl (0, 0, 0, 2, 13, [])), (13, Sum.inr (4, 0, 2, 6, 0, 0, 0)), (16, Sum.inl (2, 2, 0, 0, 17, [])), (17, Sum.inl (17, 0, 20, 0, 32, [])), (20, Sum.inl (4, 0, 0, 0, 21, [])), (21, Sum.inl (18, 11, 9, 0, 24, [])), (24, Sum.inl (18, 10, 4, 0, 27, [])), (27, Sum.inl (2, 1, 0, 0, 28, [])), (28, Sum.inl (20, 0, 0, 0, 29, [])), (29, Sum.inl (15, 0, 0, 0, 41, [])), (32, Sum.inl (4, 0, 0, 0, 33, [])), (33, Sum.inl (18, 11, 9, 0, 36, [])), (36, Sum.inl (18, 10, 5, 0, 39, [])), (39, Sum.inl (2, 1, 0, 0, 40, [])), (40, Sum.inl (20, 0, 0, 0, 41, [])), (41, Sum.inl (27, 0, 0, 0, 42, []))]
theorem Z_X11_path (l : Launch) : ∀ q ∈ U_X11_path, zTok l O_X11_path F_X11_path q := zU_ok rfl rfl rfl K_X11_path (E_X11_path l)
def wp_X11_path (a : List zV) (S : zS) (K : zR2 → zS → Prop) : Prop := zif (Nat.ble (zsum a) 3) (zwq 7 F_X11_path U_X11_path O_X11_path [] (fun _ _ _ _ _ _ => False) K 23 U_X11_path 1 6 S 0 (zar 0 a) [])
theorem R_X11_path (l : Launch) (a : List zV) (S : zS) (Q : zR2 → zS → Prop) (h : wp_X11_path a S Q) : zRs l 7 1 6 yX11_path (.code yX11_path cX11_path 3 (some .int)) a S Q := by
  obtain ⟨h1, h⟩ := zif_ok h
  exact zRs_of 11 (by decide) rfl h1 (zwq_ok (Z_X11_path l) rfl [] (fun _ _ _ _ _ _ h => h.elim) 23 (Z_X11_path l) h)
def B_X12_path : List (Nat × zC) := [(24, (0, 0, 2, 0, 0, 0, 12)), (32, (0, 1, 1, 1, 0, 0, 12))]
def O_X12_path : zO := fun j a S K => match j with
  | 0 => wp_X12_right a S K
  | 1 => wp_X12_isTwo a S K
  | _ => False
theorem E_X12_path (l : Launch) : ∀ q ∈ B_X12_path, zcok l O_X12_path F_X12_path q.1 q.2 := List.forall_mem_cons.mpr ⟨⟨241, yX12_right, cX12_right, 3, some .boolean, by decide +kernel, C_12_241, W_X12_right, I_X12_right, S_X12_right, rfl, rfl, R_X12_right l⟩, List.forall_mem_cons.mpr ⟨⟨290, yX12_isTwo, cX12_isTwo, 2, some .boolean, by decide +kernel, C_12_290, W_X12_isTwo, I_X12_isTwo, S_X12_isTwo, rfl, rfl, R_X12_isTwo l⟩, fun _ h => by cases h⟩⟩
def U_X12_path : List (Nat × zE) := [(0, Sum.inl (4, 0, 0, 0, 1, [])), (1, Sum.inl (0, 0, 0, 0, 2, [])), (2, Sum.inl (19, 12, 0, 0, 5, [])), (5, Sum.inl (4, 0, 0, 0, 6, [])), (6, Sum.inl (2, 1, 0, 0, 7, [])), (7, Sum.inl (17, 1, 22, 0, 10, [])), (10, Sum.inl (2, 1, 0, 0, 11, [])), (11, Sum.inl (4, 0, 0, 0, 12, [])), (12, Sum.inl (18, 12, 52, 0, 15, [])), (15, Sum.inl (16, 1, 18, 0, 22, [])), (18, Sum.inl (0, 0, 0, 1, 19, [])), (19, Sum.inl (15, 0, 0, 0, 23, [])), (22, Sum.inl (0, 0, 0, 0, 23, [])), (23, Sum.inl (0, 0, 0, 1, 24, [])), (24, Sum.inr (0, 0, 2, 0, 0, 0, 12)), (27, Sum.inl (17, 0, 38, 0, 30, [])), (30, Sum.inl (4, 0, 0, 0, 31, [])), (31, Sum.inl (2, 2, 0, 0, 32, [])), (32, Sum.inr (0, 1, 1, 1, 0, 0, 12)), (35, Sum.inl (17, 0, 38, 0, 40, [])), (38, Sum.inl (0, 0, 0, 0, 39, [])), (39, Sum.inl (27, 0, 0, 0, 40, [])), (40, Sum.inl (2, 2, 0, 0, 41, [])), (41, Sum.inl (17, 0, 44, 0, 53, [])), (44, Sum.inl (4, 0, 0, 0, 45, [])), (45, Sum.inl (18, 12, 50, 0, 48, [])), (48, Sum.inl (2, 1, 0, 0, 49, [])), (49, Sum.inl (20, 0, 0, 0, 50, [])), (50, Sum.inl (15, 0, 0, 0, 59, [])), (53, Sum.inl (4, 0, 0, 0, 54, [])), (54, Sum.inl (18, 12, 51, 0, 57, [])), (57, Sum.inl (2, 1, 0, 0, 58, [])), (58, Sum.inl (20, 0, 0, 0, 59, [])), (59, Sum.inl (27, 0, 0, 0, 60, []))]
theorem Z_X12_path (l : Launch) : ∀ q ∈ U_X12_path, zTok l O_X12_path F_X12_path q := zU_ok rfl rfl rfl K_X12_path (E_X12_path l)
def wp_X12_path (a : List zV) (S : zS) (K : zR2 → zS → Prop) : Prop := zif (Nat.ble (zsum a) 3) (zwq 2 F_X12_path U_X12_path O_X12_path [] (fun _ _ _ _ _ _ => False) K 35 U_X12_path 0 0 S 0 (zar 0 a) [])
theorem R_X12_path (l : Launch) (a : List zV) (S : zS) (Q : zR2 → zS → Prop) (h : wp_X12_path a S Q) : zRs l 2 0 0 yX12_path (.code yX12_path cX12_path 3 (some .int)) a S Q := by
  obtain ⟨h1, h⟩ := zif_ok h
  exact zRs_of 12 (by decide) rfl h1 (zwq_ok (Z_X12_path l) rfl [] (fun _ _ _ _ _ _ h => h.elim) 35 (Z_X12_path l) h)
def B_X11_lender : List (Nat × zC) := [(2, (2, 0, 1, 6, 0, 0, 11)), (15, (9, 1, 1, 174, 317, 178, 0))]
def O_X11_lender : zO := fun j a S K => match j with
  | 0 => wp_X11_needLodger a S K
  | _ => False
theorem E_X11_lender (l : Launch) : ∀ q ∈ B_X11_lender, zcok l O_X11_lender F_X11_lender q.1 q.2 := List.forall_mem_cons.mpr ⟨⟨192, yX11_needLodger, cX11_needLodger, 2, none, by decide +kernel, C_11_192, W_X11_needLodger, I_X11_needLodger, S_X11_needLodger, rfl, rfl, R_X11_needLodger l⟩, List.forall_mem_cons.mpr ⟨⟨rfl, rfl, z_at 799 (by decide +kernel) (by decide +kernel), ⟨25, _, rfl, rfl, rfl⟩, by decide +kernel, by decide +kernel, Or.inr ⟨rfl, by decide +kernel, by decide +kernel, by decide +kernel⟩, Or.inr ⟨rfl, rfl⟩⟩, fun _ h => by cases h⟩⟩
def U_X11_lender : List (Nat × zE) := [(0, Sum.inl (4, 0, 0, 0, 1, [])), (1, Sum.inl (2, 1, 0, 0, 2, [])), (2, Sum.inr (2, 0, 1, 6, 0, 0, 11)), (5, Sum.inl (4, 0, 0, 0, 6, [])), (6, Sum.inl (18, 11, 11, 0, 9, [])), (9, Sum.inl (18, 5, 9, 0, 12, [])), (12, Sum.inl (17, 0, 15, 0, 26, [])), (15, Sum.inr (9, 1, 1, 174, 317, 178, 0)), (18, Sum.inl (12, 0, 0, 0, 19, [])), (26, Sum.inl (4, 0, 0, 0, 27, [])), (27, Sum.inl (18, 11, 11, 0, 30, [])), (30, Sum.inl (18, 5, 8, 0, 33, [])), (33, Sum.inl (2, 1, 0, 0, 34, [])), (34, Sum.inl (20, 0, 0, 0, 35, [])), (35, Sum.inl (27, 0, 0, 0, 36, []))]
theorem Z_X11_lender (l : Launch) : ∀ q ∈ U_X11_lender, zTok l O_X11_lender F_X11_lender q := zU_ok rfl rfl rfl K_X11_lender (E_X11_lender l)
def wp_X11_lender (a : List zV) (S : zS) (K : zR2 → zS → Prop) : Prop := zif (Nat.ble (zsum a) 2) (zwq 7 F_X11_lender U_X11_lender O_X11_lender [] (fun _ _ _ _ _ _ => False) K 19 U_X11_lender 1 6 S 0 (zar 0 a) [])
theorem R_X11_lender (l : Launch) (a : List zV) (S : zS) (Q : zR2 → zS → Prop) (h : wp_X11_lender a S Q) : zRs l 7 1 6 yX11_lender (.code yX11_lender cX11_lender 2 (some .int)) a S Q := by
  obtain ⟨h1, h⟩ := zif_ok h
  exact zRs_of 11 (by decide) rfl h1 (zwq_ok (Z_X11_lender l) rfl [] (fun _ _ _ _ _ _ h => h.elim) 19 (Z_X11_lender l) h)
def B_X12_lender : List (Nat × zC) := [(7, (0, 0, 1, 1, 0, 0, 12)), (19, (0, 1, 2, 0, 0, 0, 12))]
def O_X12_lender : zO := fun j a S K => match j with
  | 0 => wp_X12_isLodger a S K
  | 1 => wp_X12_right a S K
  | _ => False
theorem E_X12_lender (l : Launch) : ∀ q ∈ B_X12_lender, zcok l O_X12_lender F_X12_lender q.1 q.2 := List.forall_mem_cons.mpr ⟨⟨302, yX12_isLodger, cX12_isLodger, 2, some .boolean, by decide +kernel, C_12_302, W_X12_isLodger, I_X12_isLodger, S_X12_isLodger, rfl, rfl, R_X12_isLodger l⟩, List.forall_mem_cons.mpr ⟨⟨241, yX12_right, cX12_right, 3, some .boolean, by decide +kernel, C_12_241, W_X12_right, I_X12_right, S_X12_right, rfl, rfl, R_X12_right l⟩, fun _ h => by cases h⟩⟩
def U_X12_lender : List (Nat × zE) := [(0, Sum.inl (4, 0, 0, 0, 1, [])), (1, Sum.inl (0, 0, 0, 0, 2, [])), (2, Sum.inl (19, 12, 0, 0, 5, [])), (5, Sum.inl (4, 0, 0, 0, 6, [])), (6, Sum.inl (2, 1, 0, 0, 7, [])), (7, Sum.inr (0, 0, 1, 1, 0, 0, 12)), (10, Sum.inl (17, 0, 34, 0, 13, [])), (13, Sum.inl (4, 0, 0, 0, 14, [])), (14, Sum.inl (4, 0, 0, 0, 15, [])), (15, Sum.inl (18, 12, 56, 0, 18, [])), (18, Sum.inl (0, 0, 0, 1, 19, [])), (19, Sum.inr (0, 1, 2, 0, 0, 0, 12)), (22, Sum.inl (17, 0, 34, 0, 25, [])), (25, Sum.inl (4, 0, 0, 0, 26, [])), (26, Sum.inl (18, 12, 58, 0, 29, [])), (29, Sum.inl (2, 1, 0, 0, 30, [])), (30, Sum.inl (20, 0, 0, 0, 31, [])), (31, Sum.inl (15, 0, 0, 0, 35, [])), (34, Sum.inl (0, 0, 0, 0, 35, [])), (35, Sum.inl (27, 0, 0, 0, 36, []))]
theorem Z_X12_lender (l : Launch) : ∀ q ∈ U_X12_lender, zTok l O_X12_lender F_X12_lender q := zU_ok rfl rfl rfl K_X12_lender (E_X12_lender l)
def wp_X12_lender (a : List zV) (S : zS) (K : zR2 → zS → Prop) : Prop := zif (Nat.ble (zsum a) 2) (zwq 2 F_X12_lender U_X12_lender O_X12_lender [] (fun _ _ _ _ _ _ => False) K 21 U_X12_lender 0 0 S 0 (zar 0 a) [])
theorem R_X12_lender (l : Launch) (a : List zV) (S : zS) (Q : zR2 → zS → Prop) (h : wp_X12_lender a S Q) : zRs l 2 0 0 yX12_lender (.code yX12_lender cX12_lender 2 (some .int)) a S Q := by
  obtain ⟨h1, h⟩ := zif_ok h
  exact zRs_of 12 (by decide) rfl h1 (zwq_ok (Z_X12_lender l) rfl [] (fun _ _ _ _ _ _ h => h.elim) 21 (Z_X12_lender l) h)
def B_X11_may : List (Nat × zC) := [(2, (2, 0, 1, 6, 0, 0, 11)), (6, (4, 1, 1, 6, 0, 0, 0)), (15, (0, 2, 2, 0, 0, 0, 6)), (22, (1, 3, 1, 0, 0, 0, 0)), (38, (4, 4, 2, 6, 0, 0, 0)), (44, (1, 5, 2, 0, 0, 0, 0))]
def O_X11_may : zO := fun j a S K => match j with
  | 0 => wp_X11_needLodger a S K
  | 1 => wp_X11_needHour a S K
  | 2 => wp_X6_doings a S K
  | 3 => wp_J6_bitCount_0f7a4 a S K
  | 4 => wp_X11_needOneOf a S K
  | 5 => wp_X11_nthBit a S K
  | _ => False
theorem E_X11_may (l : Launch) : ∀ q ∈ B_X11_may, zcok l O_X11_may F_X11_may q.1 q.2 := List.forall_mem_cons.mpr ⟨⟨192, yX11_needLodger, cX11_needLodger, 2, none, by decide +kernel, C_11_192, W_X11_needLodger, I_X11_needLodger, S_X11_needLodger, rfl, rfl, R_X11_needLodger l⟩, List.forall_mem_cons.mpr ⟨⟨202, yX11_needHour, cX11_needHour, 1, none, by decide +kernel, C_11_202, W_X11_needHour, I_X11_needHour, rfl, R_X11_needHour l⟩, List.forall_mem_cons.mpr ⟨⟨205, yX6_doings, cX6_doings, 4, some .int, by decide +kernel, C_11_205, W_X6_doings, I_X6_doings, S_X6_doings, rfl, rfl, R_X6_doings l⟩, List.forall_mem_cons.mpr ⟨⟨208, yJ6_bitCount_0f7a4, cJ6_bitCount_0f7a4, 1, some .int, by decide +kernel, C_11_208, W_J6_bitCount_0f7a4, I_J6_bitCount_0f7a4, rfl, R_J6_bitCount_0f7a4 l⟩, List.forall_mem_cons.mpr ⟨⟨182, yX11_needOneOf, cX11_needOneOf, 2, none, by decide +kernel, C_11_182, W_X11_needOneOf, I_X11_needOneOf, rfl, R_X11_needOneOf l⟩, List.forall_mem_cons.mpr ⟨⟨213, yX11_nthBit, cX11_nthBit, 4, some .int, by decide +kernel, C_11_213, W_X11_nthBit, I_X11_nthBit, rfl, R_X11_nthBit l⟩, fun _ h => by cases h⟩⟩⟩⟩⟩⟩
def U_X11_may : List (Nat × zE) := [(0, Sum.inl (4, 0, 0, 0, 1, [])), (1, Sum.inl (2, 1, 0, 0, 2, [])), (2, Sum.inr (2, 0, 1, 6, 0, 0, 11)), (5, Sum.inl (2, 2, 0, 0, 6, [])), (6, Sum.inr (4, 1, 1, 6, 0, 0, 0)), (9, Sum.inl (4, 0, 0, 0, 10, [])), (10, Sum.inl (18, 11, 1, 0, 13, [])), (13, Sum.inl (2, 1, 0, 0, 14, [])), (14, Sum.inl (2, 2, 0, 0, 15, [])), (15, Sum.inr (0, 2, 2, 0, 0, 0, 6)), (18, Sum.inl (5, 4, 0, 0, 20, [])), (20, Sum.inl (2, 4, 0, 0, 22, [])), (22, Sum.inr (1, 3, 1, 0, 0, 0, 0)), (25, Sum.inl (5, 5, 0, 0, 27, [])), (27, Sum.inl (2, 3, 0, 0, 28, [])), (28, Sum.inl (0, 0, 0, (-1), 29, [])), (29, Sum.inl (16, 0, 32, 0, 35, [])), (32, Sum.inl (2, 5, 0, 0, 34, [])), (34, Sum.inl (27, 0, 0, 0, 35, [])), (35, Sum.inl (2, 3, 0, 0, 36, [])), (36, Sum.inl (2, 5, 0, 0, 38, [])), (38, Sum.inr (4, 4, 2, 6, 0, 0, 0)), (41, Sum.inl (2, 4, 0, 0, 43, [])), (43, Sum.inl (2, 3, 0, 0, 44, [])), (44, Sum.inr (1, 5, 2, 0, 0, 0, 0)), (47, Sum.inl (27, 0, 0, 0, 48, []))]
theorem Z_X11_may (l : Launch) : ∀ q ∈ U_X11_may, zTok l O_X11_may F_X11_may q := zU_ok rfl rfl rfl K_X11_may (E_X11_may l)
def wp_X11_may (a : List zV) (S : zS) (K : zR2 → zS → Prop) : Prop := zif (Nat.ble (zsum a) 6) (zwq 7 F_X11_may U_X11_may O_X11_may [] (fun _ _ _ _ _ _ => False) K 27 U_X11_may 1 6 S 0 (zar 0 a) [])
theorem R_X11_may (l : Launch) (a : List zV) (S : zS) (Q : zR2 → zS → Prop) (h : wp_X11_may a S Q) : zRs l 7 1 6 yX11_may (.code yX11_may cX11_may 6 (some .int)) a S Q := by
  obtain ⟨h1, h⟩ := zif_ok h
  exact zRs_of 11 (by decide) rfl h1 (zwq_ok (Z_X11_may l) rfl [] (fun _ _ _ _ _ _ h => h.elim) 27 (Z_X11_may l) h)
def pathA (T : zD) (x y : Int) : Nat × Int := if 0 ≤ x ∧ x < T 5 0 then (if 0 ≤ y ∧ y < 2 then (if y = 0 then (0, (T 6 x.toNat : Int)) else (0, (T 7 x.toNat : Int))) else (1, 0)) else (1, 0)
def lenderA (D T : zD) (x : Int) : Nat × Int := if 0 ≤ x ∧ x < dL D then (if T 8 0 = 1 then (0, (T 9 x.toNat : Int) - 1) else (1, 0)) else (1, 0)
def mayA (D : zD) (x y z : Int) : Nat × Int := if 0 ≤ x ∧ x < dL D then (if 0 ≤ y ∧ y < 24 then (if z = -1 then (0, ((bl (dM D (24 * x.toNat + y.toNat))).length : Int)) else if 0 ≤ z ∧ z < ((bl (dM D (24 * x.toNat + y.toNat))).length : Int) then (0, (tol ((bl (dM D (24 * x.toNat + y.toNat))).getD z.toNat 0) : Int)) else (1, 0)) else (1, 0)) else (1, 0)
section
variable {S : zS} {D E T : zD} {N : Nat} {K : zR2 → zS → Prop} {x y z u w : Int}
theorem c_path (hC : eC S D E T) (hX : xOK D E T N) (h : cRes S D E T (cr1 (pathA T x y)) K) : wp_X11_path [.inr (.inl 0), .inl x, .inl y] S K := by
  have h := cGood hC h
  have e1 := hC.path
  have e2 := hX.path
  unfold pathA at h
  refine ⟨fun c => ?_, fun c => ⟨fun c2 => ?_, fun c2 => ⟨fun c3 => ⟨x.toNat, ⟨by omega, by omega⟩, ?_⟩, fun c3 => ⟨x.toNat, ⟨by omega, by omega⟩, ?_⟩⟩⟩⟩
  · rw [if_neg (by omega)] at h; exact h
  · rw [if_pos (by omega), if_neg (by omega)] at h; exact h
  · rw [if_pos (by omega), if_pos (by omega), if_pos (by omega), ← hC.pathRooms x.toNat (by omega)] at h; exact h
  · rw [if_pos (by omega), if_pos (by omega), if_neg (by omega), ← hC.pathLooks x.toNat (by omega)] at h; exact h
theorem m_path (hM : eM S D E T) (hX : xOK D E T N) (h : mRes S D E T (pathA T x y) K) : wp_X12_path [.inr (.inl 62), .inl x, .inl y] S K := by
  have e1 : zu S 62 0 0 62 52 = (T 5 0 : Int) := hM.path
  have e2 := hX.path
  unfold pathA at h
  have bad : ¬ (0 ≤ x ∧ x < T 5 0) → K (.inl (some (.inl 0))) (zu (zu S 62 0 0) 62 0 1) := fun c => by
    rw [if_neg c] at h; exact mFail1 hM h
  refine ⟨fun c => ⟨⟨rfl, Or.inl rfl⟩, fun _ _ _ => ⟨fun _ => bad (by omega), fun c9 => absurd rfl c9⟩, fun _ z => absurd z (by decide), rfl, by decide⟩, fun c => ⟨fun c1 => ⟨⟨rfl, Or.inr rfl⟩, fun _ z => absurd z (by decide), fun _ _ => ⟨fun c9 => by omega, fun _ => ⟨⟨rfl, rfl⟩, fun c2 => ⟨fun c9 => by omega, fun _ => ⟨fun c3 => ⟨x.toNat, ⟨by omega, by omega⟩, ?_⟩, fun c3 => ⟨x.toNat, ⟨by omega, by omega⟩, ?_⟩⟩⟩, fun c2 => ⟨fun _ => ?_, fun c9 => absurd rfl c9⟩⟩⟩, rfl, by decide⟩, fun c1 => ⟨⟨rfl, Or.inl rfl⟩, fun _ _ _ => ⟨fun _ => bad (by omega), fun c9 => absurd rfl c9⟩, fun _ z => absurd z (by decide), rfl, by decide⟩⟩⟩
  · rw [if_pos (by omega), if_pos (by omega), if_pos (by omega), ← hM.pathRooms x.toNat (by omega)] at h; exact mGood hM h
  · rw [if_pos (by omega), if_pos (by omega), if_neg (by omega), ← hM.pathLooks x.toNat (by omega)] at h; exact mGood hM h
  · rw [if_pos (by omega), if_neg (by omega)] at h; exact mFail1 hM h
theorem c_lender (hC : eC S D E T) (hX : xOK D E T N) (h : cRes S D E T (cr1 (lenderA D T x)) K) : wp_X11_lender [.inr (.inl 0), .inl x] S K := by
  have h := cGood hC h
  have e1 := hC.now.lodgers
  have e2 := hX.now.lodgers
  have e3 := hC.lends
  have e4 := hX.lends
  unfold lenderA at h
  refine ⟨rfl, fun c => ?_, fun c => ⟨fun c2 => ?_, fun c2 => ⟨x.toNat, ⟨by omega, by omega⟩, ?_⟩⟩⟩
  · rw [if_neg (by omega)] at h; exact h
  · rw [if_pos (by omega), if_neg (by omega)] at h; exact h
  · rw [if_pos (by omega), if_pos (by omega), ← hC.lenders (by omega) x.toNat (by omega)] at h; exact h
theorem m_lender (hM : eM S D E T) (hX : xOK D E T N) (h : mRes S D E T (lenderA D T x) K) : wp_X12_lender [.inr (.inl 62), .inl x] S K := by
  have e1 : zu S 62 0 0 62 2 = (dL D : Int) := hM.now.lodgers
  have e2 := hX.now.lodgers
  have e3 : zu S 62 0 0 62 56 = (T 8 0 : Int) := hM.lends
  have e4 := hX.lends
  unfold lenderA at h
  refine ⟨⟨rfl, rfl⟩, fun c => ⟨fun c9 => by omega, fun _ => ⟨⟨rfl, by omega⟩, fun _ c2 _ => ⟨fun _ => ?_, fun c9 => absurd rfl c9⟩, fun _ c2 => ⟨fun c9 => by omega, fun _ => ⟨x.toNat, ⟨by omega, by omega⟩, ?_⟩⟩, rfl, by decide⟩⟩, fun c => ⟨fun _ => ?_, fun c9 => absurd rfl c9⟩⟩
  · rw [if_pos (by omega), if_neg (by omega)] at h; exact mFail1 hM h
  · rw [if_pos (by omega), if_pos (by omega), ← hM.lenders (by omega) x.toNat (by omega)] at h; exact mGood hM h
  · rw [if_neg (by omega)] at h; exact mFail1 hM h
theorem c_may (hC : eC S D E T) (hX : xOK D E T N) (h : cRes S D E T (cr1 (mayA D x y z)) K) : wp_X11_may [.inr (.inl 0), .inl x, .inl y, .inl z] S K := by
  have h := cGood hC h
  have e1 := hC.now.lodgers
  unfold mayA at h
  refine ⟨rfl, fun c => ?_, fun c => ⟨fun c2 => ?_, fun c2 => ?_⟩⟩
  · rw [if_neg (by omega)] at h; exact h
  · rw [if_pos (by omega), if_neg (by omega)] at h; exact h
  · rw [if_pos (by omega), if_pos (by omega)] at h
    have hm := hX.now.may (24 * x.toNat + y.toNat) (by omega)
    have hs := chkA_ok hm.2
    generalize hmm : dM D (24 * x.toNat + y.toNat) = m at h hm hs
    refine ⟨D, x.toNat, y.toNat, ⟨rfl, hX.now, hC.now, by omega, by omega, by omega, by omega⟩, _, m, ⟨rfl, Or.inr ⟨by rw [hmm], hm.2⟩⟩, fun c3 => ?_, fun c3 => ⟨fun c4 => ?_, fun c4 => ⟨spr m, z.toNat, tol ((bl m).getD z.toNat 0), ⟨by rw [hmm], by omega, by omega, ?_⟩, ?_⟩⟩⟩
    · rw [if_pos c3] at h; exact h
    · rw [if_neg c3, if_neg c4] at h; exact h
    · rw [hs.2.1, List.getElem?_map, lget (by omega)]
      rfl
    · rw [if_neg c3, if_pos c4] at h; exact h
end
def B_X12_may : List (Nat × zC) := [(7, (0, 0, 1, 1, 0, 0, 12)), (15, (0, 1, 1, 1, 0, 0, 12)), (33, (0, 2, 2, 0, 0, 0, 12)), (61, (1, 3, 1, 0, 0, 0, 0)), (69, (1, 3, 1, 0, 0, 0, 0)), (81, (0, 2, 2, 0, 0, 0, 12)), (115, (1, 4, 1, 0, 0, 0, 0)), (118, (1, 5, 1, 0, 0, 0, 0))]
def O_X12_may : zO := fun j a S K => match j with
  | 0 => wp_X12_isLodger a S K
  | 1 => wp_X12_isHour a S K
  | 2 => wp_X12_right a S K
  | 3 => wp_X12_bits a S K
  | 4 => wp_X12_lowest a S K
  | 5 => wp_X12_toldOf a S K
  | _ => False
theorem E_X12_may (l : Launch) : ∀ q ∈ B_X12_may, zcok l O_X12_may F_X12_may q.1 q.2 := List.forall_mem_cons.mpr ⟨⟨302, yX12_isLodger, cX12_isLodger, 2, some .boolean, by decide +kernel, C_12_302, W_X12_isLodger, I_X12_isLodger, S_X12_isLodger, rfl, rfl, R_X12_isLodger l⟩, List.forall_mem_cons.mpr ⟨⟨305, yX12_isHour, cX12_isHour, 2, some .boolean, by decide +kernel, C_12_305, W_X12_isHour, I_X12_isHour, S_X12_isHour, rfl, rfl, R_X12_isHour l⟩, List.forall_mem_cons.mpr ⟨⟨241, yX12_right, cX12_right, 3, some .boolean, by decide +kernel, C_12_241, W_X12_right, I_X12_right, S_X12_right, rfl, rfl, R_X12_right l⟩, List.forall_mem_cons.mpr ⟨⟨308, yX12_bits, cX12_bits, 3, some .int, by decide +kernel, C_12_308, W_X12_bits, I_X12_bits, rfl, R_X12_bits l⟩, List.forall_mem_cons.mpr ⟨⟨308, yX12_bits, cX12_bits, 3, some .int, by decide +kernel, C_12_308, W_X12_bits, I_X12_bits, rfl, R_X12_bits l⟩, List.forall_mem_cons.mpr ⟨⟨241, yX12_right, cX12_right, 3, some .boolean, by decide +kernel, C_12_241, W_X12_right, I_X12_right, S_X12_right, rfl, rfl, R_X12_right l⟩, List.forall_mem_cons.mpr ⟨⟨280, yX12_lowest, cX12_lowest, 2, some .int, by decide +kernel, C_12_280, W_X12_lowest, I_X12_lowest, rfl, R_X12_lowest l⟩, List.forall_mem_cons.mpr ⟨⟨311, yX12_toldOf, cX12_toldOf, 1, some .int, by decide +kernel, C_12_311, W_X12_toldOf, I_X12_toldOf, rfl, R_X12_toldOf l⟩, fun _ h => by cases h⟩⟩⟩⟩⟩⟩⟩⟩
def U_X12_may : List (Nat × zE) := [(0, Sum.inl (4, 0, 0, 0, 1, [])), (1, Sum.inl (0, 0, 0, 0, 2, [])), (2, Sum.inl (19, 12, 0, 0, 5, [])), (5, Sum.inl (4, 0, 0, 0, 6, [])), (6, Sum.inl (2, 1, 0, 0, 7, [])), (7, Sum.inr (0, 0, 1, 1, 0, 0, 12)), (10, Sum.inl (17, 0, 39, 0, 13, [])), (13, Sum.inl (4, 0, 0, 0, 14, [])), (14, Sum.inl (2, 2, 0, 0, 15, [])), (15, Sum.inr (0, 1, 1, 1, 0, 0, 12)), (18, Sum.inl (17, 0, 39, 0, 21, [])), (21, Sum.inl (4, 0, 0, 0, 22, [])), (22, Sum.inl (2, 3, 0, 0, 23, [])), (23, Sum.inl (0, 0, 0, (-1), 24, [])), (24, Sum.inl (16, 1, 31, 0, 27, [])), (27, Sum.inl (0, 0, 0, 1, 28, [])), (28, Sum.inl (15, 0, 0, 0, 32, [])), (31, Sum.inl (0, 0, 0, 0, 32, [])), (32, Sum.inl (0, 0, 0, 1, 33, [])), (33, Sum.inr (0, 2, 2, 0, 0, 0, 12)), (36, Sum.inl (17, 0, 39, 0, 41, [])), (39, Sum.inl (0, 0, 0, 0, 40, [])), (40, Sum.inl (27, 0, 0, 0, 41, [])), (41, Sum.inl (4, 0, 0, 0, 42, [])), (42, Sum.inl (18, 12, 11, 0, 45, [])), (45, Sum.inl (0, 0, 0, 24, 47, [])), (47, Sum.inl (2, 1, 0, 0, 48, [])), (48, Sum.inl (9, 2, 0, 0, 49, [])), (49, Sum.inl (2, 2, 0, 0, 50, [])), (50, Sum.inl (9, 0, 0, 0, 51, [])), (51, Sum.inl (20, 0, 0, 0, 52, [])), (52, Sum.inl (5, 4, 0, 0, 54, [])), (54, Sum.inl (2, 3, 0, 0, 55, [])), (55, Sum.inl (0, 0, 0, (-1), 56, [])), (56, Sum.inl (16, 0, 59, 0, 65, [])), (59, Sum.inl (2, 4, 0, 0, 61, [])), (61, Sum.inr (1, 3, 1, 0, 0, 0, 0)), (64, Sum.inl (27, 0, 0, 0, 65, [])), (65, Sum.inl (4, 0, 0, 0, 66, [])), (66, Sum.inl (2, 3, 0, 0, 67, [])), (67, Sum.inl (2, 4, 0, 0, 69, [])), (69, Sum.inr (1, 3, 1, 0, 0, 0, 0)), (72, Sum.inl (16, 1, 75, 0, 79, [])), (75, Sum.inl (0, 0, 0, 1, 76, [])), (76, Sum.inl (15, 0, 0, 0, 80, [])), (79, Sum.inl (0, 0, 0, 0, 80, [])), (80, Sum.inl (0, 0, 0, 1, 81, [])), (81, Sum.inr (0, 2, 2, 0, 0, 0, 12)), (84, Sum.inl (17, 0, 87, 0, 89, [])), (87, Sum.inl (0, 0, 0, 0, 88, [])), (88, Sum.inl (27, 0, 0, 0, 89, [])), (89, Sum.inl (0, 0, 0, 0, 90, [])), (90, Sum.inl (5, 5, 0, 0, 92, [])), (92, Sum.inl (2, 5, 0, 0, 94, [])), (94, Sum.inl (2, 3, 0, 0, 95, [])), (95, Sum.inl (16, 1, 98, 0, 113, [])), (98, Sum.inl (2, 4, 0, 0, 100, [])), (100, Sum.inl (2, 4, 0, 0, 102, [])), (102, Sum.inl (0, 0, 0, 1, 103, [])), (103, Sum.inl (9, 1, 0, 0, 104, [])), (104, Sum.inl (9, 3, 0, 0, 105, [])), (105, Sum.inl (5, 4, 0, 0, 107, [])), (107, Sum.inl (8, 5, 0, 1, 110, [])), (110, Sum.inl (15, 0, 0, 0, 92, [])), (113, Sum.inl (2, 4, 0, 0, 115, [])), (115, Sum.inr (1, 4, 1, 0, 0, 0, 0)), (118, Sum.inr (1, 5, 1, 0, 0, 0, 0)), (121, Sum.inl (27, 0, 0, 0, 122, []))]
theorem Z_X12_may (l : Launch) : ∀ q ∈ U_X12_may, zTok l O_X12_may F_X12_may q := zU_ok rfl rfl rfl K_X12_may (E_X12_may l)
def wp_X12_may (a : List zV) (S : zS) (K : zR2 → zS → Prop) : Prop := match a with
  | [.inr (.inl c), .inl x, .inl y, .inl z] => ∃ (D E T : zD) (N : Nat), (c = 62 ∧ eM S D E T ∧ xOK D E T N) ∧ mRes S D E T (mayA D x y z) K
  | _ => False
theorem bl_and {m : Nat} (h : m < 4096) (h1 : 1 ≤ m) : zand (m : Int) ((m : Int) - 1) = ((m &&& (m - 1) : Nat) : Int) := by
  have : (m : Int) - 1 = ((m - 1 : Nat) : Int) := by omega
  rw [this, zand_n (by omega)]
theorem L_X12_may {l : Launch} {S : zS} {Q : zR2 → zS → Prop} {x y : Int} {m n : Nat} (hn : n < (bl m).length) (h : Q (.inl (some (.inl (tol ((bl m).getD n 0) : Int)))) S) (f : Nat) : ∀ k m', k + f = n → m' < 4096 → bl m' = (bl m).drop k → zGs l 2 0 0 F_X12_may S 92 [(0, .inr (.inl 62)), (1, .inl x), (2, .inl y), (3, .inl (n : Int)), (4, .inl (m' : Int)), (5, .inl (k : Int))] [] Q := by
  have h18 := bl_le m
  induction f with
  | zero =>
    intro k m' hk hm' hb
    have : k = n := by omega
    subst this
    have e0 : (bl m')[0]? = some ((bl m).getD k 0) := by
      rw [hb, List.getElem?_drop, Nat.add_zero, lget hn]
    have hlt : (bl m).getD k 0 < 18 := by
      exact (bl_mem.mp (lget_mem hn)).1
    refine zwq_ok (Z_X12_may l) rfl [92] (fun _ _ _ _ _ _ h => h) 400 (Z_X12_may l) ?_
    exact ⟨fun c => by omega, fun c => ⟨m', (bl m).getD k 0, ⟨rfl, by omega, e0⟩, (bl m).getD k 0, ⟨rfl, by omega⟩, h⟩⟩
  | succ f ih =>
    intro k m' hk hm' hb
    have hpos : 1 ≤ m' := by
      by_cases z : m' = 0
      · subst z
        have e9 : bl 0 = [] := by decide +kernel
        rw [e9] at hb
        have := congrArg List.length hb
        rw [List.length_drop] at this
        simp at this
        omega
      · omega
    have e := bl_and hm' hpos
    have ht := (chkA_ok hm').2.2.1
    have hle : m' &&& (m' - 1) ≤ m' := Nat.and_le_left
    refine zwq_ok (Z_X12_may l) rfl [92] (fun _ _ _ _ _ _ h => h) 400 (Z_X12_may l) ?_
    refine ⟨fun c => ⟨by omega, by omega, ?_⟩, fun c => by omega⟩
    rw [e]
    exact ih (k + 1) (m' &&& (m' - 1)) (by omega) (by omega) (by rw [ht, hb, List.tail_drop])
theorem R_X12_may (l : Launch) (a : List zV) (S : zS) (Q : zR2 → zS → Prop) (h : wp_X12_may a S Q) : zRs l 2 0 0 yX12_may (.code yX12_may cX12_may 6 (some .int)) a S Q := by
  unfold wp_X12_may at h
  split at h
  · rename_i c x y z
    obtain ⟨D, E, T, N, ⟨rfl, hM, hX⟩, h⟩ := h
    have e1 : zu S 62 0 0 62 2 = (dL D : Int) := hM.now.lodgers
    have e2 := hX.now.lodgers
    unfold mayA at h
    refine zRs_of 12 (by decide) rfl rfl ?_; refine zwq_ok (Z_X12_may l) rfl [92] (fun _ _ _ _ _ _ h => h) 400 (Z_X12_may l) ?_
    refine ⟨⟨rfl, rfl⟩, fun c => ⟨fun c9 => by omega, fun _ => ⟨⟨rfl, rfl⟩, fun c2 => ⟨fun c9 => by omega, fun _ => ?_⟩, fun c2 => ⟨fun _ => ?_, fun c9 => absurd rfl c9⟩⟩⟩, fun c => ⟨fun _ => ?_, fun c9 => absurd rfl c9⟩⟩
    · rw [if_pos (by omega), if_pos (by omega)] at h
      have hm := hX.now.may (24 * x.toNat + y.toNat) (by omega)
      have em : zu S 62 0 0 69 (24 * x.toNat + y.toNat) = (dM D (24 * x.toNat + y.toNat) : Int) := hM.now.may _ (by omega)
      have hs := chkA_ok hm.2
      generalize dM D (24 * x.toNat + y.toNat) = m at h hm hs em
      have h18 := bl_le m
      have bad : ¬ z = -1 → ¬ (0 ≤ z ∧ z < ((bl m).length : Int)) → Q (.inl (some (.inl 0))) (zu (zu S 62 0 0) 62 0 1) := fun a b => by
        rw [if_neg a, if_neg b] at h; exact mFail1 hM h
      refine ⟨fun c3 => ⟨⟨rfl, Or.inl rfl⟩, fun _ _ _ => ⟨fun _ => bad (by omega) (by omega), fun c9 => absurd rfl c9⟩, fun _ z => absurd z (by decide), rfl, by decide⟩, fun c3 => ⟨⟨rfl, Or.inr rfl⟩, fun _ z => absurd z (by decide), fun _ _ => ⟨fun c9 => by omega, fun _ => ⟨by omega, by omega, 24 * x.toNat + y.toNat, ⟨by omega, by omega⟩, fun c4 => ⟨m, ⟨em, by omega⟩, ?_⟩, fun c4 => ⟨m, ⟨em, by omega⟩, fun c5 => ⟨⟨rfl, Or.inr rfl⟩, fun _ z => absurd z (by decide), fun _ _ => ⟨fun c9 => by omega, fun _ => ?_⟩, rfl, by decide⟩, fun c5 => ⟨⟨rfl, Or.inl rfl⟩, fun _ _ _ => ⟨fun _ => bad c4 (by omega), fun c9 => absurd rfl c9⟩, fun _ z => absurd z (by decide), rfl, by decide⟩⟩⟩⟩, rfl, by decide⟩⟩
      · rw [if_pos c4] at h; exact mGood hM h
      · rw [if_neg c4, if_pos (by omega)] at h
        have := L_X12_may (l := l) (x := x) (y := y) (m := m) (n := z.toNat) (by omega) (mGood hM h) z.toNat 0 m (by omega) hm.2 rfl
        rw [show ((z.toNat : Nat) : Int) = z by omega, ← em] at this
        exact this
    · rw [if_pos (by omega), if_neg (by omega)] at h; exact mFail1 hM h
    · rw [if_neg (by omega)] at h; exact mFail1 hM h
  · exact h.elim
