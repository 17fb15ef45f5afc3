/-! the house: small steps -/
def B_X7_refuse : List (Nat × zC) := []
def O_X7_refuse : zO := fun j a S K => match j with
  | _ => False
theorem E_X7_refuse (l : Launch) : ∀ q ∈ B_X7_refuse, zcok l O_X7_refuse F_X7_refuse q.1 q.2 := fun _ h => by cases h
def U_X7_refuse : List (Nat × zE) := [(0, Sum.inl (4, 0, 0, 0, 1, [])), (1, Sum.inl (18, 7, 7, 0, 4, [])), (4, Sum.inl (17, 0, 7, 0, 20, [])), (7, Sum.inl (4, 0, 0, 0, 8, [])), (8, Sum.inl (2, 1, 0, 0, 9, [])), (9, Sum.inl (19, 7, 7, 0, 12, [])), (12, Sum.inl (4, 0, 0, 0, 13, [])), (13, Sum.inl (4, 0, 0, 0, 14, [])), (14, Sum.inl (18, 7, 5, 0, 17, [])), (17, Sum.inl (19, 7, 8, 0, 20, [])), (20, Sum.inl (0, 0, 0, (-1), 21, [])), (21, Sum.inl (27, 0, 0, 0, 22, []))]
theorem Z_X7_refuse (l : Launch) : ∀ q ∈ U_X7_refuse, zTok l O_X7_refuse F_X7_refuse q := zU_ok rfl rfl rfl K_X7_refuse (E_X7_refuse l)
def wp_X7_refuse (a : List zV) (S : zS) (K : zR2 → zS → Prop) : Prop := zif (Nat.ble (zsum a) 2) (zwq 0 F_X7_refuse U_X7_refuse O_X7_refuse [] (fun _ _ _ _ _ _ => False) K 13 U_X7_refuse 0 0 S 0 (zar 0 a) [])
theorem R_X7_refuse (l : Launch) (a : List zV) (S : zS) (Q : zR2 → zS → Prop) (h : wp_X7_refuse a S Q) : zRs l 0 0 0 yX7_refuse (.code yX7_refuse cX7_refuse 2 (some .int)) a S Q := by
  obtain ⟨h1, h⟩ := zif_ok h
  exact zRs_of 7 (by decide) rfl h1 (zwq_ok (Z_X7_refuse l) rfl [] (fun _ _ _ _ _ _ h => h.elim) 13 (Z_X7_refuse l) h)
def B_X7_faultOfNumber : List (Nat × zC) := []
def O_X7_faultOfNumber : zO := fun j a S K => match j with
  | _ => False
theorem E_X7_faultOfNumber (l : Launch) : ∀ q ∈ B_X7_faultOfNumber, zcok l O_X7_faultOfNumber F_X7_faultOfNumber q.1 q.2 := fun _ h => by cases h
def U_X7_faultOfNumber : List (Nat × zE) := [(0, Sum.inl (4, 0, 0, 0, 1, [])), (1, Sum.inl (18, 7, 4, 0, 4, [])), (4, Sum.inl (0, 0, 0, 2, 5, [])), (5, Sum.inl (16, 0, 10, 0, 8, [])), (8, Sum.inl (0, 0, 0, 1, 9, [])), (9, Sum.inl (27, 0, 0, 0, 10, [])), (10, Sum.inl (4, 0, 0, 0, 11, [])), (11, Sum.inl (18, 7, 3, 0, 14, [])), (14, Sum.inl (4, 0, 0, 0, 15, [])), (15, Sum.inl (18, 7, 5, 0, 18, [])), (18, Sum.inl (9, 1, 0, 0, 19, [])), (19, Sum.inl (0, 0, 0, 3, 20, [])), (20, Sum.inl (16, 2, 23, 0, 27, [])), (23, Sum.inl (0, 0, 0, 2, 24, [])), (24, Sum.inl (15, 0, 0, 0, 28, [])), (27, Sum.inl (0, 0, 0, 0, 28, [])), (28, Sum.inl (27, 0, 0, 0, 29, []))]
theorem Z_X7_faultOfNumber (l : Launch) : ∀ q ∈ U_X7_faultOfNumber, zTok l O_X7_faultOfNumber F_X7_faultOfNumber q := zU_ok rfl rfl rfl K_X7_faultOfNumber (E_X7_faultOfNumber l)
def wp_X7_faultOfNumber (a : List zV) (S : zS) (K : zR2 → zS → Prop) : Prop := zif (Nat.ble (zsum a) 1) (zwq 0 F_X7_faultOfNumber U_X7_faultOfNumber O_X7_faultOfNumber [] (fun _ _ _ _ _ _ => False) K 18 U_X7_faultOfNumber 0 0 S 0 (zar 0 a) [])
theorem R_X7_faultOfNumber (l : Launch) (a : List zV) (S : zS) (Q : zR2 → zS → Prop) (h : wp_X7_faultOfNumber a S Q) : zRs l 0 0 0 yX7_faultOfNumber (.code yX7_faultOfNumber cX7_faultOfNumber 1 (some .int)) a S Q := by
  obtain ⟨h1, h⟩ := zif_ok h
  exact zRs_of 7 (by decide) rfl h1 (zwq_ok (Z_X7_faultOfNumber l) rfl [] (fun _ _ _ _ _ _ h => h.elim) 18 (Z_X7_faultOfNumber l) h)
def B_X6_setFirstLaw : List (Nat × zC) := []
def O_X6_setFirstLaw : zO := fun j a S K => match j with
  | _ => False
theorem E_X6_setFirstLaw (l : Launch) : ∀ q ∈ B_X6_setFirstLaw, zcok l O_X6_setFirstLaw F_X6_setFirstLaw q.1 q.2 := fun _ h => by cases h
def U_X6_setFirstLaw : List (Nat × zE) := [(0, Sum.inl (4, 0, 0, 0, 1, [])), (1, Sum.inl (18, 6, 6, 0, 4, [])), (4, Sum.inl (0, 0, 0, 0, 5, [])), (5, Sum.inl (0, 0, 0, 3, 6, [])), (6, Sum.inl (21, 0, 0, 0, 7, [])), (7, Sum.inl (4, 0, 0, 0, 8, [])), (8, Sum.inl (18, 6, 6, 0, 11, [])), (11, Sum.inl (0, 0, 0, 1, 12, [])), (12, Sum.inl (0, 0, 0, 1, 13, [])), (13, Sum.inl (21, 0, 0, 0, 14, [])), (14, Sum.inl (4, 0, 0, 0, 15, [])), (15, Sum.inl (18, 6, 6, 0, 18, [])), (18, Sum.inl (0, 0, 0, 2, 19, [])), (19, Sum.inl (0, 0, 0, 2, 20, [])), (20, Sum.inl (21, 0, 0, 0, 21, [])), (21, Sum.inl (4, 0, 0, 0, 22, [])), (22, Sum.inl (18, 6, 6, 0, 25, [])), (25, Sum.inl (0, 0, 0, 3, 26, [])), (26, Sum.inl (0, 0, 0, 1, 27, [])), (27, Sum.inl (21, 0, 0, 0, 28, [])), (28, Sum.inl (29, 0, 0, 0, 29, []))]
theorem Z_X6_setFirstLaw (l : Launch) : ∀ q ∈ U_X6_setFirstLaw, zTok l O_X6_setFirstLaw F_X6_setFirstLaw q := zU_ok rfl rfl rfl K_X6_setFirstLaw (E_X6_setFirstLaw l)
def wp_X6_setFirstLaw (a : List zV) (S : zS) (K : zR2 → zS → Prop) : Prop := zif (Nat.ble (zsum a) 1) (zwq 0 F_X6_setFirstLaw U_X6_setFirstLaw O_X6_setFirstLaw [] (fun _ _ _ _ _ _ => False) K 22 U_X6_setFirstLaw 0 0 S 0 (zar 0 a) [])
theorem R_X6_setFirstLaw (l : Launch) (a : List zV) (S : zS) (Q : zR2 → zS → Prop) (h : wp_X6_setFirstLaw a S Q) : zRs l 0 0 0 yX6_setFirstLaw (.code yX6_setFirstLaw cX6_setFirstLaw 1 (none)) a S Q := by
  obtain ⟨h1, h⟩ := zif_ok h
  exact zRs_of 6 (by decide) rfl h1 (zwq_ok (Z_X6_setFirstLaw l) rfl [] (fun _ _ _ _ _ _ h => h.elim) 22 (Z_X6_setFirstLaw l) h)
def B_X12_isGood : List (Nat × zC) := []
def O_X12_isGood : zO := fun j a S K => match j with
  | _ => False
theorem E_X12_isGood (l : Launch) : ∀ q ∈ B_X12_isGood, zcok l O_X12_isGood F_X12_isGood q.1 q.2 := fun _ h => by cases h
def U_X12_isGood : List (Nat × zE) := [(0, Sum.inl (4, 0, 0, 0, 1, [])), (1, Sum.inl (18, 12, 14, 0, 4, [])), (4, Sum.inl (17, 0, 7, 0, 11, [])), (7, Sum.inl (0, 0, 0, 1, 8, [])), (8, Sum.inl (15, 0, 0, 0, 12, [])), (11, Sum.inl (0, 0, 0, 0, 12, [])), (12, Sum.inl (27, 0, 0, 0, 13, []))]
theorem Z_X12_isGood (l : Launch) : ∀ q ∈ U_X12_isGood, zTok l O_X12_isGood F_X12_isGood q := zU_ok rfl rfl rfl K_X12_isGood (E_X12_isGood l)
def wp_X12_isGood (a : List zV) (S : zS) (K : zR2 → zS → Prop) : Prop := zif (Nat.ble (zsum a) 1) (zwq 0 F_X12_isGood U_X12_isGood O_X12_isGood [] (fun _ _ _ _ _ _ => False) K 8 U_X12_isGood 0 0 S 0 (zar 0 a) [])
theorem R_X12_isGood (l : Launch) (a : List zV) (S : zS) (Q : zR2 → zS → Prop) (h : wp_X12_isGood a S Q) : zRs l 0 0 0 yX12_isGood (.code yX12_isGood cX12_isGood 1 (some .boolean)) a S Q := by
  obtain ⟨h1, h⟩ := zif_ok h
  exact zRs_of 12 (by decide) rfl h1 (zwq_ok (Z_X12_isGood l) rfl [] (fun _ _ _ _ _ _ h => h.elim) 8 (Z_X12_isGood l) h)
def B_X12_wrong : List (Nat × zC) := []
def O_X12_wrong : zO := fun j a S K => match j with
  | _ => False
theorem E_X12_wrong (l : Launch) : ∀ q ∈ B_X12_wrong, zcok l O_X12_wrong F_X12_wrong q.1 q.2 := fun _ h => by cases h
def U_X12_wrong : List (Nat × zE) := [(0, Sum.inl (4, 0, 0, 0, 1, [])), (1, Sum.inl (18, 12, 14, 0, 4, [])), (4, Sum.inl (17, 0, 8, 0, 7, [])), (7, Sum.inl (29, 0, 0, 0, 8, [])), (8, Sum.inl (4, 0, 0, 0, 9, [])), (9, Sum.inl (2, 1, 0, 0, 10, [])), (10, Sum.inl (19, 12, 14, 0, 13, [])), (13, Sum.inl (4, 0, 0, 0, 14, [])), (14, Sum.inl (4, 0, 0, 0, 15, [])), (15, Sum.inl (18, 12, 20, 0, 18, [])), (18, Sum.inl (19, 12, 15, 0, 21, [])), (21, Sum.inl (29, 0, 0, 0, 22, []))]
theorem Z_X12_wrong (l : Launch) : ∀ q ∈ U_X12_wrong, zTok l O_X12_wrong F_X12_wrong q := zU_ok rfl rfl rfl K_X12_wrong (E_X12_wrong l)
def wp_X12_wrong (a : List zV) (S : zS) (K : zR2 → zS → Prop) : Prop := zif (Nat.ble (zsum a) 2) (zwq 0 F_X12_wrong U_X12_wrong O_X12_wrong [] (fun _ _ _ _ _ _ => False) K 13 U_X12_wrong 0 0 S 0 (zar 0 a) [])
theorem R_X12_wrong (l : Launch) (a : List zV) (S : zS) (Q : zR2 → zS → Prop) (h : wp_X12_wrong a S Q) : zRs l 0 0 0 yX12_wrong (.code yX12_wrong cX12_wrong 2 (none)) a S Q := by
  obtain ⟨h1, h⟩ := zif_ok h
  exact zRs_of 12 (by decide) rfl h1 (zwq_ok (Z_X12_wrong l) rfl [] (fun _ _ _ _ _ _ h => h.elim) 13 (Z_X12_wrong l) h)
