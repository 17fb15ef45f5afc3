/-! the house: small steps -/
def B_X7_refuse : List (Nat × zC) := []
def O_X7_refuse : zO := fun j a S K => match j with
  | _ => False
theorem E_X7_refuse (l : Launch) : ∀ q ∈ B_X7_refuse, zcok l O_X7_refuse F_X7_refuse q.1 q.2 := fun _ h => by cases h
def U_X7_refuse : List (Nat × zE) := [(0, Sum.inl (4, 0, 0, 0, 1, [])), (1, Sum.inl (18, 7, 7, 0, 4, [])), (4, Sum.inl (17, 0, 7, 0, 20, [])), (7, Sum.inl (4, 0, 0, 0, 8, [])), (8, Sum.inl (2, 1, 0, 0, 9, [])), (9, Sum.inl (19, 7, 7, 0, 12, [])), (12, Sum.inl (4, 0, 0, 0, 13, [])), (13, Sum.inl (4, 0, 0, 0, 14, [])), (14, Sum.inl (18, 7, 5, 0, 17, [])), (17, Sum.inl (19, 7, 8, 0, 20, [])), (20, Sum.inl (0, 0, 0, (-1), 21, [])), (21, Sum.inl (27, 0, 0, 0, 22, []))]
theorem Z_X7_refuse (l : Launch) : ∀ q ∈ U_X7_refuse, zTok l O_X7_refuse F_X7_refuse q := zU_ok rfl rfl rfl K_X7_refuse (E_X7_refuse l)
def wp_X7_refuse (a : List zV) (S : zS) (K : zR2 → zS → Prop) : Prop := zif (Nat.ble (zsum a) 2) (zwq 0 F_X7_refuse U_X7_refuse O_X7_refuse [] (fun _ _ _ _ _ _ => False) K 13 U_X7_refuse 0 0 S 0 (zar 0 a) [])
theorem R_X7_refuse (l : Launch) (a : List zV) (S : zS) (Q : zR2 → zS → Prop) (h : wp_X7_refuse a S Q) : zRs l 0 0 0 yX7_refuse (.code yX7_refuse cX7_refuse 2 (some .int)) a S Q := by
  obtain ⟨h1, h⟩ := zif_ok h
  exact zRs_of 7 (by decide) rfl h1 (zwq_ok (Z_X7_refuse l) rfl [] (fun _ _ _ _ _ _ h => h.elim) 13 (Z_X7_refuse l) h)
def B_X7_faultOfNumber : List (Nat × zC) := []
def O_X7_faultOfNumber : zO := fun j a S K => match j with
  | _ => False
theorem E_X7_faultOfNumber (l : Launch) : ∀ q ∈ B_X7_faultOfNumber, zcok l O_X7_faultOfNumber F_X7_faultOfNumber q.1 q.2 := fun _ h => by cases h
def U_X7_faultOfNumber : List (Nat × zE) := [(0, Sum.inl (4, 0, 0, 0, 1, [])), (1, Sum.inl (18, 7, 4, 0, 4, [])), (4, Sum.inl (0, 0, 0, 2, 5, [])), (5, Sum.inl (16, 0, 10, 0, 8, [])), (8, Sum.inl (0, 0, 0, 1, 9, [])), (9, Sum.inl (27, 0, 0, 0, 10, [])), (10, Sum.inl (4, 0, 0, 0, 11, [])), (11, Sum.inl (18, 7, 3, 0, 14, [])), (14, Sum.inl (4, 0, 0, 0, 15, [])), (15, Sum.inl (18, 7, 5, 0, 18, [])), (18, Sum.inl (9, 1, 0, 0, 19, [])), (19, Sum.inl (0, 0, 0, 3, 20, [])), (20, Sum.inl (16, 2, 23, 0, 27, [])), (23, Sum.inl (0, 0, 0, 2, 24, [])), (24, Sum.inl (15, 0, 0, 0, 28, [])), (27, Sum.inl (0, 0, 0, 0, 28, [])), (28, Sum.inl (27, 0, 0, 0, 29, []))]
theorem Z_X7_faultOfNumber (l : Launch) : ∀ q ∈ U_X7_faultOfNumber, zTok l O_X7_faultOfNumber F_X7_faultOfNumber q := zU_ok rfl rfl rfl K_X7_faultOfNumber (E_X7_faultOfNumber l)
def wp_X7_faultOfNumber (a : List zV) (S : zS) (K : zR2 → zS → Prop) : Prop := zif (Nat.ble (zsum a) 1) (zwq 0 F_X7_faultOfNumber U_X7_faultOfNumber O_X7_faultOfNumber [] (fun _ _ _ _ _ _ => False) K 18 U_X7_faultOfNumber 0 0 S 0 (zar 0 a) [])
theorem R_X7_faultOfNumber (l : Launch) (a : List zV) (S : zS) (Q : zR2 → zS → Prop) (h : wp_X7_faultOfNumber a S Q) : zRs l 0 0 0 yX7_faultOfNumber (.code yX7_faultOfNumber cX7_faultOfNumber 1 (some .int)) a S Q := by
  obtain ⟨h1, h⟩ := zif_ok h
  exact zRs_of 7 (by decide) rfl h1 (zwq_ok (Z_X7_faultOfNumber l) rfl [] (fun _ _ _ _ _ _ h => h.elim) 18 (Z_X7_faultOfNumber l) h)
def B_X7_isFull : List (Nat × zC) := [(9, (0, 0, 1, 0, 0, 0, 7))]
def O_X7_isFull : zO := fun j a S K => match j with
  | 0 => wp_X7_refuse a S K
  | _ => False
theorem E_X7_isFull (l : Launch) : ∀ q ∈ B_X7_isFull, zcok l O_X7_isFull F_X7_isFull q.1 q.2 := List.forall_mem_cons.mpr ⟨⟨81, yX7_refuse, cX7_refuse, 2, some .int, by decide +kernel, C_7_81, W_X7_refuse, I_X7_refuse, S_X7_refuse, rfl, rfl, R_X7_refuse l⟩, fun _ h => by cases h⟩
def U_X7_isFull : List (Nat × zE) := [(0, Sum.inl (2, 1, 0, 0, 1, [])), (1, Sum.inl (2, 2, 0, 0, 2, [])), (2, Sum.inl (16, 1, 5, 0, 7, [])), (5, Sum.inl (0, 0, 0, 0, 6, [])), (6, Sum.inl (27, 0, 0, 0, 7, [])), (7, Sum.inl (4, 0, 0, 0, 8, [])), (8, Sum.inl (0, 0, 0, 2, 9, [])), (9, Sum.inr (0, 0, 1, 0, 0, 0, 7)), (12, Sum.inl (14, 0, 0, 0, 13, [])), (13, Sum.inl (0, 0, 0, 1, 14, [])), (14, Sum.inl (27, 0, 0, 0, 15, []))]
theorem Z_X7_isFull (l : Launch) : ∀ q ∈ U_X7_isFull, zTok l O_X7_isFull F_X7_isFull q := zU_ok rfl rfl rfl K_X7_isFull (E_X7_isFull l)
def wp_X7_isFull (a : List zV) (S : zS) (K : zR2 → zS → Prop) : Prop := zif (Nat.ble (zsum a) 3) (zwq 1 F_X7_isFull U_X7_isFull O_X7_isFull [] (fun _ _ _ _ _ _ => False) K 12 U_X7_isFull 0 0 S 0 (zar 0 a) [])
theorem R_X7_isFull (l : Launch) (a : List zV) (S : zS) (Q : zR2 → zS → Prop) (h : wp_X7_isFull a S Q) : zRs l 1 0 0 yX7_isFull (.code yX7_isFull cX7_isFull 3 (some .boolean)) a S Q := by
  obtain ⟨h1, h⟩ := zif_ok h
  exact zRs_of 7 (by decide) rfl h1 (zwq_ok (Z_X7_isFull l) rfl [] (fun _ _ _ _ _ _ h => h.elim) 12 (Z_X7_isFull l) h)
def B_X7_toldNumber : List (Nat × zC) := [(1, (0, 0, 0, 0, 0, 0, 7)), (32, (0, 1, 1, 0, 0, 0, 7))]
def O_X7_toldNumber : zO := fun j a S K => match j with
  | 0 => wp_X7_faultOfNumber a S K
  | 1 => wp_X7_refuse a S K
  | _ => False
theorem E_X7_toldNumber (l : Launch) : ∀ q ∈ B_X7_toldNumber, zcok l O_X7_toldNumber F_X7_toldNumber q.1 q.2 := List.forall_mem_cons.mpr ⟨⟨166, yX7_faultOfNumber, cX7_faultOfNumber, 1, some .int, by decide +kernel, C_7_166, W_X7_faultOfNumber, I_X7_faultOfNumber, S_X7_faultOfNumber, rfl, rfl, R_X7_faultOfNumber l⟩, List.forall_mem_cons.mpr ⟨⟨81, yX7_refuse, cX7_refuse, 2, some .int, by decide +kernel, C_7_81, W_X7_refuse, I_X7_refuse, S_X7_refuse, rfl, rfl, R_X7_refuse l⟩, fun _ h => by cases h⟩⟩
def U_X7_toldNumber : List (Nat × zE) := [(0, Sum.inl (4, 0, 0, 0, 1, [])), (1, Sum.inr (0, 0, 0, 0, 0, 0, 7)), (4, Sum.inl (5, 2, 0, 0, 5, [])), (5, Sum.inl (2, 2, 0, 0, 6, [])), (6, Sum.inl (17, 0, 9, 0, 19, [])), (9, Sum.inl (4, 0, 0, 0, 10, [])), (10, Sum.inl (18, 7, 6, 0, 13, [])), (13, Sum.inl (2, 1, 0, 0, 14, [])), (14, Sum.inl (16, 1, 19, 0, 17, [])), (17, Sum.inl (0, 0, 0, 3, 18, [])), (18, Sum.inl (5, 2, 0, 0, 19, [])), (19, Sum.inl (2, 2, 0, 0, 20, [])), (20, Sum.inl (17, 0, 23, 0, 30, [])), (23, Sum.inl (4, 0, 0, 0, 24, [])), (24, Sum.inl (18, 7, 6, 0, 27, [])), (27, Sum.inl (15, 0, 0, 0, 35, [])), (30, Sum.inl (4, 0, 0, 0, 31, [])), (31, Sum.inl (2, 2, 0, 0, 32, [])), (32, Sum.inr (0, 1, 1, 0, 0, 0, 7)), (35, Sum.inl (27, 0, 0, 0, 36, []))]
theorem Z_X7_toldNumber (l : Launch) : ∀ q ∈ U_X7_toldNumber, zTok l O_X7_toldNumber F_X7_toldNumber q := zU_ok rfl rfl rfl K_X7_toldNumber (E_X7_toldNumber l)
def wp_X7_toldNumber (a : List zV) (S : zS) (K : zR2 → zS → Prop) : Prop := zif (Nat.ble (zsum a) 3) (zwq 1 F_X7_toldNumber U_X7_toldNumber O_X7_toldNumber [] (fun _ _ _ _ _ _ => False) K 21 U_X7_toldNumber 0 0 S 0 (zar 0 a) [])
theorem R_X7_toldNumber (l : Launch) (a : List zV) (S : zS) (Q : zR2 → zS → Prop) (h : wp_X7_toldNumber a S Q) : zRs l 1 0 0 yX7_toldNumber (.code yX7_toldNumber cX7_toldNumber 3 (some .int)) a S Q := by
  obtain ⟨h1, h⟩ := zif_ok h
  exact zRs_of 7 (by decide) rfl h1 (zwq_ok (Z_X7_toldNumber l) rfl [] (fun _ _ _ _ _ _ h => h.elim) 21 (Z_X7_toldNumber l) h)
def B_X7_numberWithin : List (Nat × zC) := [(1, (0, 0, 0, 0, 0, 0, 7)), (40, (0, 1, 1, 0, 0, 0, 7))]
def O_X7_numberWithin : zO := fun j a S K => match j with
  | 0 => wp_X7_faultOfNumber a S K
  | 1 => wp_X7_refuse a S K
  | _ => False
theorem E_X7_numberWithin (l : Launch) : ∀ q ∈ B_X7_numberWithin, zcok l O_X7_numberWithin F_X7_numberWithin q.1 q.2 := List.forall_mem_cons.mpr ⟨⟨166, yX7_faultOfNumber, cX7_faultOfNumber, 1, some .int, by decide +kernel, C_7_166, W_X7_faultOfNumber, I_X7_faultOfNumber, S_X7_faultOfNumber, rfl, rfl, R_X7_faultOfNumber l⟩, List.forall_mem_cons.mpr ⟨⟨81, yX7_refuse, cX7_refuse, 2, some .int, by decide +kernel, C_7_81, W_X7_refuse, I_X7_refuse, S_X7_refuse, rfl, rfl, R_X7_refuse l⟩, fun _ h => by cases h⟩⟩
def U_X7_numberWithin : List (Nat × zE) := [(0, Sum.inl (4, 0, 0, 0, 1, [])), (1, Sum.inr (0, 0, 0, 0, 0, 0, 7)), (4, Sum.inl (5, 3, 0, 0, 5, [])), (5, Sum.inl (2, 3, 0, 0, 6, [])), (6, Sum.inl (17, 0, 9, 0, 27, [])), (9, Sum.inl (4, 0, 0, 0, 10, [])), (10, Sum.inl (18, 7, 6, 0, 13, [])), (13, Sum.inl (2, 1, 0, 0, 14, [])), (14, Sum.inl (16, 1, 25, 0, 17, [])), (17, Sum.inl (4, 0, 0, 0, 18, [])), (18, Sum.inl (18, 7, 6, 0, 21, [])), (21, Sum.inl (2, 2, 0, 0, 22, [])), (22, Sum.inl (16, 2, 25, 0, 27, [])), (25, Sum.inl (0, 0, 0, 2, 26, [])), (26, Sum.inl (5, 3, 0, 0, 27, [])), (27, Sum.inl (2, 3, 0, 0, 28, [])), (28, Sum.inl (17, 0, 31, 0, 38, [])), (31, Sum.inl (4, 0, 0, 0, 32, [])), (32, Sum.inl (18, 7, 6, 0, 35, [])), (35, Sum.inl (15, 0, 0, 0, 43, [])), (38, Sum.inl (4, 0, 0, 0, 39, [])), (39, Sum.inl (2, 3, 0, 0, 40, [])), (40, Sum.inr (0, 1, 1, 0, 0, 0, 7)), (43, Sum.inl (27, 0, 0, 0, 44, []))]
theorem Z_X7_numberWithin (l : Launch) : ∀ q ∈ U_X7_numberWithin, zTok l O_X7_numberWithin F_X7_numberWithin q := zU_ok rfl rfl rfl K_X7_numberWithin (E_X7_numberWithin l)
def wp_X7_numberWithin (a : List zV) (S : zS) (K : zR2 → zS → Prop) : Prop := zif (Nat.ble (zsum a) 4) (zwq 1 F_X7_numberWithin U_X7_numberWithin O_X7_numberWithin [] (fun _ _ _ _ _ _ => False) K 25 U_X7_numberWithin 0 0 S 0 (zar 0 a) [])
theorem R_X7_numberWithin (l : Launch) (a : List zV) (S : zS) (Q : zR2 → zS → Prop) (h : wp_X7_numberWithin a S Q) : zRs l 1 0 0 yX7_numberWithin (.code yX7_numberWithin cX7_numberWithin 4 (some .int)) a S Q := by
  obtain ⟨h1, h⟩ := zif_ok h
  exact zRs_of 7 (by decide) rfl h1 (zwq_ok (Z_X7_numberWithin l) rfl [] (fun _ _ _ _ _ _ h => h.elim) 25 (Z_X7_numberWithin l) h)
def B_X6_addRoom : List (Nat × zC) := []
def O_X6_addRoom : zO := fun j a S K => match j with
  | _ => False
theorem E_X6_addRoom (l : Launch) : ∀ q ∈ B_X6_addRoom, zcok l O_X6_addRoom F_X6_addRoom q.1 q.2 := fun _ h => by cases h
def U_X6_addRoom : List (Nat × zE) := [(0, Sum.inl (4, 0, 0, 0, 1, [])), (1, Sum.inl (18, 6, 0, 0, 4, [])), (4, Sum.inl (4, 0, 0, 0, 5, [])), (5, Sum.inl (18, 6, 7, 0, 8, [])), (8, Sum.inl (2, 1, 0, 0, 9, [])), (9, Sum.inl (21, 0, 0, 0, 10, [])), (10, Sum.inl (4, 0, 0, 0, 11, [])), (11, Sum.inl (18, 6, 1, 0, 14, [])), (14, Sum.inl (4, 0, 0, 0, 15, [])), (15, Sum.inl (18, 6, 7, 0, 18, [])), (18, Sum.inl (0, 0, 0, (-1), 19, [])), (19, Sum.inl (21, 0, 0, 0, 20, [])), (20, Sum.inl (4, 0, 0, 0, 21, [])), (21, Sum.inl (12, 0, 0, 0, 22, [])), (22, Sum.inl (18, 6, 7, 0, 25, [])), (25, Sum.inl (0, 0, 0, 1, 26, [])), (26, Sum.inl (9, 0, 0, 0, 27, [])), (27, Sum.inl (19, 6, 7, 0, 30, [])), (30, Sum.inl (29, 0, 0, 0, 31, []))]
theorem Z_X6_addRoom (l : Launch) : ∀ q ∈ U_X6_addRoom, zTok l O_X6_addRoom F_X6_addRoom q := zU_ok rfl rfl rfl K_X6_addRoom (E_X6_addRoom l)
def wp_X6_addRoom (a : List zV) (S : zS) (K : zR2 → zS → Prop) : Prop := zif (Nat.ble (zsum a) 2) (zwq 0 F_X6_addRoom U_X6_addRoom O_X6_addRoom [] (fun _ _ _ _ _ _ => False) K 20 U_X6_addRoom 0 0 S 0 (zar 0 a) [])
theorem R_X6_addRoom (l : Launch) (a : List zV) (S : zS) (Q : zR2 → zS → Prop) (h : wp_X6_addRoom a S Q) : zRs l 0 0 0 yX6_addRoom (.code yX6_addRoom cX6_addRoom 2 (none)) a S Q := by
  obtain ⟨h1, h⟩ := zif_ok h
  exact zRs_of 6 (by decide) rfl h1 (zwq_ok (Z_X6_addRoom l) rfl [] (fun _ _ _ _ _ _ h => h.elim) 20 (Z_X6_addRoom l) h)
def B_X6_addLodger : List (Nat × zC) := []
def O_X6_addLodger : zO := fun j a S K => match j with
  | _ => False
theorem E_X6_addLodger (l : Launch) : ∀ q ∈ B_X6_addLodger, zcok l O_X6_addLodger F_X6_addLodger q.1 q.2 := fun _ h => by cases h
def U_X6_addLodger : List (Nat × zE) := [(0, Sum.inl (4, 0, 0, 0, 1, [])), (1, Sum.inl (18, 6, 2, 0, 4, [])), (4, Sum.inl (4, 0, 0, 0, 5, [])), (5, Sum.inl (18, 6, 8, 0, 8, [])), (8, Sum.inl (2, 1, 0, 0, 9, [])), (9, Sum.inl (21, 0, 0, 0, 10, [])), (10, Sum.inl (4, 0, 0, 0, 11, [])), (11, Sum.inl (18, 6, 3, 0, 14, [])), (14, Sum.inl (4, 0, 0, 0, 15, [])), (15, Sum.inl (18, 6, 8, 0, 18, [])), (18, Sum.inl (0, 0, 0, 3, 19, [])), (19, Sum.inl (21, 0, 0, 0, 20, [])), (20, Sum.inl (4, 0, 0, 0, 21, [])), (21, Sum.inl (18, 6, 1, 0, 24, [])), (24, Sum.inl (2, 1, 0, 0, 25, [])), (25, Sum.inl (4, 0, 0, 0, 26, [])), (26, Sum.inl (18, 6, 8, 0, 29, [])), (29, Sum.inl (21, 0, 0, 0, 30, [])), (30, Sum.inl (4, 0, 0, 0, 31, [])), (31, Sum.inl (12, 0, 0, 0, 32, [])), (32, Sum.inl (18, 6, 8, 0, 35, [])), (35, Sum.inl (0, 0, 0, 1, 36, [])), (36, Sum.inl (9, 0, 0, 0, 37, [])), (37, Sum.inl (19, 6, 8, 0, 40, [])), (40, Sum.inl (29, 0, 0, 0, 41, []))]
theorem Z_X6_addLodger (l : Launch) : ∀ q ∈ U_X6_addLodger, zTok l O_X6_addLodger F_X6_addLodger q := zU_ok rfl rfl rfl K_X6_addLodger (E_X6_addLodger l)
def wp_X6_addLodger (a : List zV) (S : zS) (K : zR2 → zS → Prop) : Prop := zif (Nat.ble (zsum a) 2) (zwq 0 F_X6_addLodger U_X6_addLodger O_X6_addLodger [] (fun _ _ _ _ _ _ => False) K 26 U_X6_addLodger 0 0 S 0 (zar 0 a) [])
theorem R_X6_addLodger (l : Launch) (a : List zV) (S : zS) (Q : zR2 → zS → Prop) (h : wp_X6_addLodger a S Q) : zRs l 0 0 0 yX6_addLodger (.code yX6_addLodger cX6_addLodger 2 (none)) a S Q := by
  obtain ⟨h1, h⟩ := zif_ok h
  exact zRs_of 6 (by decide) rfl h1 (zwq_ok (Z_X6_addLodger l) rfl [] (fun _ _ _ _ _ _ h => h.elim) 26 (Z_X6_addLodger l) h)
def B_X6_addFinder : List (Nat × zC) := []
def O_X6_addFinder : zO := fun j a S K => match j with
  | _ => False
theorem E_X6_addFinder (l : Launch) : ∀ q ∈ B_X6_addFinder, zcok l O_X6_addFinder F_X6_addFinder q.1 q.2 := fun _ h => by cases h
def U_X6_addFinder : List (Nat × zE) := [(0, Sum.inl (4, 0, 0, 0, 1, [])), (1, Sum.inl (18, 6, 4, 0, 4, [])), (4, Sum.inl (4, 0, 0, 0, 5, [])), (5, Sum.inl (18, 6, 9, 0, 8, [])), (8, Sum.inl (2, 1, 0, 0, 9, [])), (9, Sum.inl (21, 0, 0, 0, 10, [])), (10, Sum.inl (4, 0, 0, 0, 11, [])), (11, Sum.inl (12, 0, 0, 0, 12, [])), (12, Sum.inl (18, 6, 9, 0, 15, [])), (15, Sum.inl (0, 0, 0, 1, 16, [])), (16, Sum.inl (9, 0, 0, 0, 17, [])), (17, Sum.inl (19, 6, 9, 0, 20, [])), (20, Sum.inl (29, 0, 0, 0, 21, []))]
theorem Z_X6_addFinder (l : Launch) : ∀ q ∈ U_X6_addFinder, zTok l O_X6_addFinder F_X6_addFinder q := zU_ok rfl rfl rfl K_X6_addFinder (E_X6_addFinder l)
def wp_X6_addFinder (a : List zV) (S : zS) (K : zR2 → zS → Prop) : Prop := zif (Nat.ble (zsum a) 2) (zwq 0 F_X6_addFinder U_X6_addFinder O_X6_addFinder [] (fun _ _ _ _ _ _ => False) K 14 U_X6_addFinder 0 0 S 0 (zar 0 a) [])
theorem R_X6_addFinder (l : Launch) (a : List zV) (S : zS) (Q : zR2 → zS → Prop) (h : wp_X6_addFinder a S Q) : zRs l 0 0 0 yX6_addFinder (.code yX6_addFinder cX6_addFinder 2 (none)) a S Q := by
  obtain ⟨h1, h⟩ := zif_ok h
  exact zRs_of 6 (by decide) rfl h1 (zwq_ok (Z_X6_addFinder l) rfl [] (fun _ _ _ _ _ _ h => h.elim) 14 (Z_X6_addFinder l) h)
def B_X6_addLaw : List (Nat × zC) := []
def O_X6_addLaw : zO := fun j a S K => match j with
  | _ => False
theorem E_X6_addLaw (l : Launch) : ∀ q ∈ B_X6_addLaw, zcok l O_X6_addLaw F_X6_addLaw q.1 q.2 := fun _ h => by cases h
def U_X6_addLaw : List (Nat × zE) := [(0, Sum.inl (4, 0, 0, 0, 1, [])), (1, Sum.inl (18, 6, 6, 0, 4, [])), (4, Sum.inl (2, 1, 0, 0, 5, [])), (5, Sum.inl (2, 2, 0, 0, 6, [])), (6, Sum.inl (21, 0, 0, 0, 7, [])), (7, Sum.inl (4, 0, 0, 0, 8, [])), (8, Sum.inl (12, 0, 0, 0, 9, [])), (9, Sum.inl (18, 6, 11, 0, 12, [])), (12, Sum.inl (0, 0, 0, 1, 13, [])), (13, Sum.inl (2, 1, 0, 0, 14, [])), (14, Sum.inl (9, 6, 0, 0, 15, [])), (15, Sum.inl (9, 4, 0, 0, 16, [])), (16, Sum.inl (19, 6, 11, 0, 19, [])), (19, Sum.inl (29, 0, 0, 0, 20, []))]
theorem Z_X6_addLaw (l : Launch) : ∀ q ∈ U_X6_addLaw, zTok l O_X6_addLaw F_X6_addLaw q := zU_ok rfl rfl rfl K_X6_addLaw (E_X6_addLaw l)
def wp_X6_addLaw (a : List zV) (S : zS) (K : zR2 → zS → Prop) : Prop := zif (Nat.ble (zsum a) 3) (zwq 0 F_X6_addLaw U_X6_addLaw O_X6_addLaw [] (fun _ _ _ _ _ _ => False) K 15 U_X6_addLaw 0 0 S 0 (zar 0 a) [])
theorem R_X6_addLaw (l : Launch) (a : List zV) (S : zS) (Q : zR2 → zS → Prop) (h : wp_X6_addLaw a S Q) : zRs l 0 0 0 yX6_addLaw (.code yX6_addLaw cX6_addLaw 3 (none)) a S Q := by
  obtain ⟨h1, h⟩ := zif_ok h
  exact zRs_of 6 (by decide) rfl h1 (zwq_ok (Z_X6_addLaw l) rfl [] (fun _ _ _ _ _ _ h => h.elim) 15 (Z_X6_addLaw l) h)
def B_X6_setFirstLaw : List (Nat × zC) := []
def O_X6_setFirstLaw : zO := fun j a S K => match j with
  | _ => False
theorem E_X6_setFirstLaw (l : Launch) : ∀ q ∈ B_X6_setFirstLaw, zcok l O_X6_setFirstLaw F_X6_setFirstLaw q.1 q.2 := fun _ h => by cases h
def U_X6_setFirstLaw : List (Nat × zE) := [(0, Sum.inl (4, 0, 0, 0, 1, [])), (1, Sum.inl (18, 6, 6, 0, 4, [])), (4, Sum.inl (0, 0, 0, 0, 5, [])), (5, Sum.inl (0, 0, 0, 3, 6, [])), (6, Sum.inl (21, 0, 0, 0, 7, [])), (7, Sum.inl (4, 0, 0, 0, 8, [])), (8, Sum.inl (18, 6, 6, 0, 11, [])), (11, Sum.inl (0, 0, 0, 1, 12, [])), (12, Sum.inl (0, 0, 0, 1, 13, [])), (13, Sum.inl (21, 0, 0, 0, 14, [])), (14, Sum.inl (4, 0, 0, 0, 15, [])), (15, Sum.inl (18, 6, 6, 0, 18, [])), (18, Sum.inl (0, 0, 0, 2, 19, [])), (19, Sum.inl (0, 0, 0, 2, 20, [])), (20, Sum.inl (21, 0, 0, 0, 21, [])), (21, Sum.inl (4, 0, 0, 0, 22, [])), (22, Sum.inl (18, 6, 6, 0, 25, [])), (25, Sum.inl (0, 0, 0, 3, 26, [])), (26, Sum.inl (0, 0, 0, 1, 27, [])), (27, Sum.inl (21, 0, 0, 0, 28, [])), (28, Sum.inl (29, 0, 0, 0, 29, []))]
theorem Z_X6_setFirstLaw (l : Launch) : ∀ q ∈ U_X6_setFirstLaw, zTok l O_X6_setFirstLaw F_X6_setFirstLaw q := zU_ok rfl rfl rfl K_X6_setFirstLaw (E_X6_setFirstLaw l)
def wp_X6_setFirstLaw (a : List zV) (S : zS) (K : zR2 → zS → Prop) : Prop := zif (Nat.ble (zsum a) 1) (zwq 0 F_X6_setFirstLaw U_X6_setFirstLaw O_X6_setFirstLaw [] (fun _ _ _ _ _ _ => False) K 22 U_X6_setFirstLaw 0 0 S 0 (zar 0 a) [])
theorem R_X6_setFirstLaw (l : Launch) (a : List zV) (S : zS) (Q : zR2 → zS → Prop) (h : wp_X6_setFirstLaw a S Q) : zRs l 0 0 0 yX6_setFirstLaw (.code yX6_setFirstLaw cX6_setFirstLaw 1 (none)) a S Q := by
  obtain ⟨h1, h⟩ := zif_ok h
  exact zRs_of 6 (by decide) rfl h1 (zwq_ok (Z_X6_setFirstLaw l) rfl [] (fun _ _ _ _ _ _ h => h.elim) 22 (Z_X6_setFirstLaw l) h)
def B_X12_isGood : List (Nat × zC) := []
def O_X12_isGood : zO := fun j a S K => match j with
  | _ => False
theorem E_X12_isGood (l : Launch) : ∀ q ∈ B_X12_isGood, zcok l O_X12_isGood F_X12_isGood q.1 q.2 := fun _ h => by cases h
def U_X12_isGood : List (Nat × zE) := [(0, Sum.inl (4, 0, 0, 0, 1, [])), (1, Sum.inl (18, 12, 14, 0, 4, [])), (4, Sum.inl (17, 0, 7, 0, 11, [])), (7, Sum.inl (0, 0, 0, 1, 8, [])), (8, Sum.inl (15, 0, 0, 0, 12, [])), (11, Sum.inl (0, 0, 0, 0, 12, [])), (12, Sum.inl (27, 0, 0, 0, 13, []))]
theorem Z_X12_isGood (l : Launch) : ∀ q ∈ U_X12_isGood, zTok l O_X12_isGood F_X12_isGood q := zU_ok rfl rfl rfl K_X12_isGood (E_X12_isGood l)
def wp_X12_isGood (a : List zV) (S : zS) (K : zR2 → zS → Prop) : Prop := zif (Nat.ble (zsum a) 1) (zwq 0 F_X12_isGood U_X12_isGood O_X12_isGood [] (fun _ _ _ _ _ _ => False) K 8 U_X12_isGood 0 0 S 0 (zar 0 a) [])
theorem R_X12_isGood (l : Launch) (a : List zV) (S : zS) (Q : zR2 → zS → Prop) (h : wp_X12_isGood a S Q) : zRs l 0 0 0 yX12_isGood (.code yX12_isGood cX12_isGood 1 (some .boolean)) a S Q := by
  obtain ⟨h1, h⟩ := zif_ok h
  exact zRs_of 12 (by decide) rfl h1 (zwq_ok (Z_X12_isGood l) rfl [] (fun _ _ _ _ _ _ h => h.elim) 8 (Z_X12_isGood l) h)
def B_X12_wrong : List (Nat × zC) := []
def O_X12_wrong : zO := fun j a S K => match j with
  | _ => False
theorem E_X12_wrong (l : Launch) : ∀ q ∈ B_X12_wrong, zcok l O_X12_wrong F_X12_wrong q.1 q.2 := fun _ h => by cases h
def U_X12_wrong : List (Nat × zE) := [(0, Sum.inl (4, 0, 0, 0, 1, [])), (1, Sum.inl (18, 12, 14, 0, 4, [])), (4, Sum.inl (17, 0, 8, 0, 7, [])), (7, Sum.inl (29, 0, 0, 0, 8, [])), (8, Sum.inl (4, 0, 0, 0, 9, [])), (9, Sum.inl (2, 1, 0, 0, 10, [])), (10, Sum.inl (19, 12, 14, 0, 13, [])), (13, Sum.inl (4, 0, 0, 0, 14, [])), (14, Sum.inl (4, 0, 0, 0, 15, [])), (15, Sum.inl (18, 12, 20, 0, 18, [])), (18, Sum.inl (19, 12, 15, 0, 21, [])), (21, Sum.inl (29, 0, 0, 0, 22, []))]
theorem Z_X12_wrong (l : Launch) : ∀ q ∈ U_X12_wrong, zTok l O_X12_wrong F_X12_wrong q := zU_ok rfl rfl rfl K_X12_wrong (E_X12_wrong l)
def wp_X12_wrong (a : List zV) (S : zS) (K : zR2 → zS → Prop) : Prop := zif (Nat.ble (zsum a) 2) (zwq 0 F_X12_wrong U_X12_wrong O_X12_wrong [] (fun _ _ _ _ _ _ => False) K 13 U_X12_wrong 0 0 S 0 (zar 0 a) [])
theorem R_X12_wrong (l : Launch) (a : List zV) (S : zS) (Q : zR2 → zS → Prop) (h : wp_X12_wrong a S Q) : zRs l 0 0 0 yX12_wrong (.code yX12_wrong cX12_wrong 2 (none)) a S Q := by
  obtain ⟨h1, h⟩ := zif_ok h
  exact zRs_of 12 (by decide) rfl h1 (zwq_ok (Z_X12_wrong l) rfl [] (fun _ _ _ _ _ _ h => h.elim) 13 (Z_X12_wrong l) h)
def B_X12_amongHere : List (Nat × zC) := [(1, (0, 0, 0, 0, 0, 0, 12)), (19, (0, 1, 1, 0, 0, 0, 12)), (35, (0, 1, 1, 0, 0, 0, 12)), (51, (0, 1, 1, 0, 0, 0, 12)), (55, (0, 0, 0, 0, 0, 0, 12))]
def O_X12_amongHere : zO := fun j a S K => match j with
  | 0 => wp_X12_isGood a S K
  | 1 => wp_X12_wrong a S K
  | _ => False
theorem E_X12_amongHere (l : Launch) : ∀ q ∈ B_X12_amongHere, zcok l O_X12_amongHere F_X12_amongHere q.1 q.2 := List.forall_mem_cons.mpr ⟨⟨190, yX12_isGood, cX12_isGood, 1, some .boolean, by decide +kernel, C_12_190, W_X12_isGood, I_X12_isGood, S_X12_isGood, rfl, rfl, R_X12_isGood l⟩, List.forall_mem_cons.mpr ⟨⟨197, yX12_wrong, cX12_wrong, 2, none, by decide +kernel, C_12_197, W_X12_wrong, I_X12_wrong, S_X12_wrong, rfl, rfl, R_X12_wrong l⟩, List.forall_mem_cons.mpr ⟨⟨197, yX12_wrong, cX12_wrong, 2, none, by decide +kernel, C_12_197, W_X12_wrong, I_X12_wrong, S_X12_wrong, rfl, rfl, R_X12_wrong l⟩, List.forall_mem_cons.mpr ⟨⟨197, yX12_wrong, cX12_wrong, 2, none, by decide +kernel, C_12_197, W_X12_wrong, I_X12_wrong, S_X12_wrong, rfl, rfl, R_X12_wrong l⟩, List.forall_mem_cons.mpr ⟨⟨190, yX12_isGood, cX12_isGood, 1, some .boolean, by decide +kernel, C_12_190, W_X12_isGood, I_X12_isGood, S_X12_isGood, rfl, rfl, R_X12_isGood l⟩, fun _ h => by cases h⟩⟩⟩⟩⟩
def U_X12_amongHere : List (Nat × zE) := [(0, Sum.inl (4, 0, 0, 0, 1, [])), (1, Sum.inr (0, 0, 0, 0, 0, 0, 12)), (4, Sum.inl (17, 0, 7, 0, 9, [])), (7, Sum.inl (0, 0, 0, 0, 8, [])), (8, Sum.inl (27, 0, 0, 0, 9, [])), (9, Sum.inl (4, 0, 0, 0, 10, [])), (10, Sum.inl (18, 12, 19, 0, 13, [])), (13, Sum.inl (0, 0, 0, 2, 14, [])), (14, Sum.inl (16, 0, 25, 0, 17, [])), (17, Sum.inl (4, 0, 0, 0, 18, [])), (18, Sum.inl (0, 0, 0, 1, 19, [])), (19, Sum.inr (0, 1, 1, 0, 0, 0, 12)), (22, Sum.inl (15, 0, 0, 0, 54, [])), (25, Sum.inl (4, 0, 0, 0, 26, [])), (26, Sum.inl (18, 12, 21, 0, 29, [])), (29, Sum.inl (0, 0, 0, 3, 30, [])), (30, Sum.inl (16, 2, 33, 0, 41, [])), (33, Sum.inl (4, 0, 0, 0, 34, [])), (34, Sum.inl (0, 0, 0, 2, 35, [])), (35, Sum.inr (0, 1, 1, 0, 0, 0, 12)), (38, Sum.inl (15, 0, 0, 0, 54, [])), (41, Sum.inl (4, 0, 0, 0, 42, [])), (42, Sum.inl (18, 12, 22, 0, 45, [])), (45, Sum.inl (2, 1, 0, 0, 46, [])), (46, Sum.inl (16, 1, 54, 0, 49, [])), (49, Sum.inl (4, 0, 0, 0, 50, [])), (50, Sum.inl (0, 0, 0, 3, 51, [])), (51, Sum.inr (0, 1, 1, 0, 0, 0, 12)), (54, Sum.inl (4, 0, 0, 0, 55, [])), (55, Sum.inr (0, 0, 0, 0, 0, 0, 12)), (58, Sum.inl (27, 0, 0, 0, 59, []))]
theorem Z_X12_amongHere (l : Launch) : ∀ q ∈ U_X12_amongHere, zTok l O_X12_amongHere F_X12_amongHere q := zU_ok rfl rfl rfl K_X12_amongHere (E_X12_amongHere l)
def wp_X12_amongHere (a : List zV) (S : zS) (K : zR2 → zS → Prop) : Prop := zif (Nat.ble (zsum a) 2) (zwq 1 F_X12_amongHere U_X12_amongHere O_X12_amongHere [] (fun _ _ _ _ _ _ => False) K 32 U_X12_amongHere 0 0 S 0 (zar 0 a) [])
theorem R_X12_amongHere (l : Launch) (a : List zV) (S : zS) (Q : zR2 → zS → Prop) (h : wp_X12_amongHere a S Q) : zRs l 1 0 0 yX12_amongHere (.code yX12_amongHere cX12_amongHere 2 (some .boolean)) a S Q := by
  obtain ⟨h1, h⟩ := zif_ok h
  exact zRs_of 12 (by decide) rfl h1 (zwq_ok (Z_X12_amongHere l) rfl [] (fun _ _ _ _ _ _ h => h.elim) 32 (Z_X12_amongHere l) h)
