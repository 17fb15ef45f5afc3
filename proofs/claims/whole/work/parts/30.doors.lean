/-! Plan, Affairs, Doors -/
def B_X6_doings : List (Nat × zC) := []
def O_X6_doings : zO := fun j a S K => match j with
  | _ => False
theorem E_X6_doings (l : Launch) : ∀ q ∈ B_X6_doings, zcok l O_X6_doings F_X6_doings q.1 q.2 := fun _ h => by cases h
def U_X6_doings : List (Nat × zE) := [(0, Sum.inl (4, 0, 0, 0, 1, [])), (1, Sum.inl (18, 6, 5, 0, 4, [])), (4, Sum.inl (2, 1, 0, 0, 5, [])), (5, Sum.inl (0, 0, 0, 24, 7, [])), (7, Sum.inl (9, 2, 0, 0, 8, [])), (8, Sum.inl (2, 2, 0, 0, 9, [])), (9, Sum.inl (9, 0, 0, 0, 10, [])), (10, Sum.inl (20, 0, 0, 0, 11, [])), (11, Sum.inl (5, 3, 0, 0, 12, [])), (12, Sum.inl (2, 3, 0, 0, 13, [])), (13, Sum.inl (17, 0, 16, 0, 20, [])), (16, Sum.inl (0, 0, 0, 1, 17, [])), (17, Sum.inl (15, 0, 0, 0, 21, [])), (20, Sum.inl (2, 3, 0, 0, 21, [])), (21, Sum.inl (27, 0, 0, 0, 22, []))]
theorem Z_X6_doings (l : Launch) : ∀ q ∈ U_X6_doings, zTok l O_X6_doings F_X6_doings q := zU_ok rfl rfl rfl K_X6_doings (E_X6_doings l)
def wp_X6_doings (a : List zV) (S : zS) (K : zR2 → zS → Prop) : Prop := zif (Nat.ble (zsum a) 4) (zwq 0 F_X6_doings U_X6_doings O_X6_doings [] (fun _ _ _ _ _ _ => False) K 16 U_X6_doings 0 0 S 0 (zar 0 a) [])
theorem R_X6_doings (l : Launch) (a : List zV) (S : zS) (Q : zR2 → zS → Prop) (h : wp_X6_doings a S Q) : zRs l 0 0 0 yX6_doings (.code yX6_doings cX6_doings 4 (some .int)) a S Q := by
  obtain ⟨h1, h⟩ := zif_ok h
  exact zRs_of 6 (by decide) rfl h1 (zwq_ok (Z_X6_doings l) rfl [] (fun _ _ _ _ _ _ h => h.elim) 16 (Z_X6_doings l) h)
def B_X6_lawFor : List (Nat × zC) := []
def O_X6_lawFor : zO := fun j a S K => match j with
  | _ => False
theorem E_X6_lawFor (l : Launch) : ∀ q ∈ B_X6_lawFor, zcok l O_X6_lawFor F_X6_lawFor q.1 q.2 := fun _ h => by cases h
def U_X6_lawFor : List (Nat × zE) := [(0, Sum.inl (2, 1, 0, 0, 1, [])), (1, Sum.inl (17, 1, 18, 0, 4, [])), (4, Sum.inl (2, 1, 0, 0, 5, [])), (5, Sum.inl (0, 0, 0, 3, 6, [])), (6, Sum.inl (16, 2, 18, 0, 9, [])), (9, Sum.inl (4, 0, 0, 0, 10, [])), (10, Sum.inl (18, 6, 6, 0, 13, [])), (13, Sum.inl (2, 1, 0, 0, 14, [])), (14, Sum.inl (20, 0, 0, 0, 15, [])), (15, Sum.inl (15, 0, 0, 0, 24, [])), (18, Sum.inl (4, 0, 0, 0, 19, [])), (19, Sum.inl (18, 6, 6, 0, 22, [])), (22, Sum.inl (0, 0, 0, 0, 23, [])), (23, Sum.inl (20, 0, 0, 0, 24, [])), (24, Sum.inl (27, 0, 0, 0, 25, []))]
theorem Z_X6_lawFor (l : Launch) : ∀ q ∈ U_X6_lawFor, zTok l O_X6_lawFor F_X6_lawFor q := zU_ok rfl rfl rfl K_X6_lawFor (E_X6_lawFor l)
def wp_X6_lawFor (a : List zV) (S : zS) (K : zR2 → zS → Prop) : Prop := zif (Nat.ble (zsum a) 2) (zwq 0 F_X6_lawFor U_X6_lawFor O_X6_lawFor [] (fun _ _ _ _ _ _ => False) K 16 U_X6_lawFor 0 0 S 0 (zar 0 a) [])
theorem R_X6_lawFor (l : Launch) (a : List zV) (S : zS) (Q : zR2 → zS → Prop) (h : wp_X6_lawFor a S Q) : zRs l 0 0 0 yX6_lawFor (.code yX6_lawFor cX6_lawFor 2 (some .int)) a S Q := by
  obtain ⟨h1, h⟩ := zif_ok h
  exact zRs_of 6 (by decide) rfl h1 (zwq_ok (Z_X6_lawFor l) rfl [] (fun _ _ _ _ _ _ h => h.elim) 16 (Z_X6_lawFor l) h)
def B_X0_doing : List (Nat × zC) := []
def O_X0_doing : zO := fun j a S K => match j with
  | _ => False
theorem E_X0_doing (l : Launch) : ∀ q ∈ B_X0_doing, zcok l O_X0_doing F_X0_doing q.1 q.2 := fun _ h => by cases h
def U_X0_doing : List (Nat × zE) := [(0, Sum.inl (4, 0, 0, 0, 1, [])), (1, Sum.inl (18, 0, 4, 0, 4, [])), (4, Sum.inl (2, 1, 0, 0, 5, [])), (5, Sum.inl (0, 0, 0, 24, 7, [])), (7, Sum.inl (9, 2, 0, 0, 8, [])), (8, Sum.inl (2, 2, 0, 0, 9, [])), (9, Sum.inl (9, 0, 0, 0, 10, [])), (10, Sum.inl (20, 0, 0, 0, 11, [])), (11, Sum.inl (27, 0, 0, 0, 12, []))]
theorem Z_X0_doing (l : Launch) : ∀ q ∈ U_X0_doing, zTok l O_X0_doing F_X0_doing q := zU_ok rfl rfl rfl K_X0_doing (E_X0_doing l)
def wp_X0_doing (a : List zV) (S : zS) (K : zR2 → zS → Prop) : Prop := zif (Nat.ble (zsum a) 3) (zwq 0 F_X0_doing U_X0_doing O_X0_doing [] (fun _ _ _ _ _ _ => False) K 10 U_X0_doing 0 0 S 0 (zar 0 a) [])
theorem R_X0_doing (l : Launch) (a : List zV) (S : zS) (Q : zR2 → zS → Prop) (h : wp_X0_doing a S Q) : zRs l 0 0 0 yX0_doing (.code yX0_doing cX0_doing 3 (some .int)) a S Q := by
  obtain ⟨h1, h⟩ := zif_ok h
  exact zRs_of 0 (by decide) rfl h1 (zwq_ok (Z_X0_doing l) rfl [] (fun _ _ _ _ _ _ h => h.elim) 10 (Z_X0_doing l) h)
def B_X0_shoeKinds : List (Nat × zC) := []
def O_X0_shoeKinds : zO := fun j a S K => match j with
  | _ => False
theorem E_X0_shoeKinds (l : Launch) : ∀ q ∈ B_X0_shoeKinds, zcok l O_X0_shoeKinds F_X0_shoeKinds q.1 q.2 := fun _ h => by cases h
def U_X0_shoeKinds : List (Nat × zE) := [(0, Sum.inl (4, 0, 0, 0, 1, [])), (1, Sum.inl (18, 0, 3, 0, 4, [])), (4, Sum.inl (2, 1, 0, 0, 5, [])), (5, Sum.inl (0, 0, 0, 2, 6, [])), (6, Sum.inl (9, 2, 0, 0, 7, [])), (7, Sum.inl (20, 0, 0, 0, 8, [])), (8, Sum.inl (17, 2, 11, 0, 15, [])), (11, Sum.inl (0, 0, 0, 1, 12, [])), (12, Sum.inl (15, 0, 0, 0, 16, [])), (15, Sum.inl (0, 0, 0, 0, 16, [])), (16, Sum.inl (5, 2, 0, 0, 17, [])), (17, Sum.inl (4, 0, 0, 0, 18, [])), (18, Sum.inl (18, 0, 3, 0, 21, [])), (21, Sum.inl (2, 1, 0, 0, 22, [])), (22, Sum.inl (0, 0, 0, 2, 23, [])), (23, Sum.inl (9, 2, 0, 0, 24, [])), (24, Sum.inl (0, 0, 0, 1, 25, [])), (25, Sum.inl (9, 0, 0, 0, 26, [])), (26, Sum.inl (20, 0, 0, 0, 27, [])), (27, Sum.inl (17, 2, 30, 0, 34, [])), (30, Sum.inl (0, 0, 0, 2, 31, [])), (31, Sum.inl (15, 0, 0, 0, 35, [])), (34, Sum.inl (0, 0, 0, 0, 35, [])), (35, Sum.inl (5, 3, 0, 0, 36, [])), (36, Sum.inl (2, 2, 0, 0, 37, [])), (37, Sum.inl (2, 3, 0, 0, 38, [])), (38, Sum.inl (9, 4, 0, 0, 39, [])), (39, Sum.inl (27, 0, 0, 0, 40, []))]
theorem Z_X0_shoeKinds (l : Launch) : ∀ q ∈ U_X0_shoeKinds, zTok l O_X0_shoeKinds F_X0_shoeKinds q := zU_ok rfl rfl rfl K_X0_shoeKinds (E_X0_shoeKinds l)
def wp_X0_shoeKinds (a : List zV) (S : zS) (K : zR2 → zS → Prop) : Prop := zif (Nat.ble (zsum a) 4) (zwq 0 F_X0_shoeKinds U_X0_shoeKinds O_X0_shoeKinds [] (fun _ _ _ _ _ _ => False) K 29 U_X0_shoeKinds 0 0 S 0 (zar 0 a) [])
theorem R_X0_shoeKinds (l : Launch) (a : List zV) (S : zS) (Q : zR2 → zS → Prop) (h : wp_X0_shoeKinds a S Q) : zRs l 0 0 0 yX0_shoeKinds (.code yX0_shoeKinds cX0_shoeKinds 4 (some .int)) a S Q := by
  obtain ⟨h1, h⟩ := zif_ok h
  exact zRs_of 0 (by decide) rfl h1 (zwq_ok (Z_X0_shoeKinds l) rfl [] (fun _ _ _ _ _ _ h => h.elim) 29 (Z_X0_shoeKinds l) h)
def B_X3_signOf : List (Nat × zC) := [(5, (0, 0, 1, 0, 0, 0, 6)), (13, (0, 1, 1, 0, 0, 0, 0))]
def O_X3_signOf : zO := fun j a S K => match j with
  | 0 => wp_X6_lawFor a S K
  | 1 => wp_X0_shoeKinds a S K
  | _ => False
theorem E_X3_signOf (l : Launch) : ∀ q ∈ B_X3_signOf, zcok l O_X3_signOf F_X3_signOf q.1 q.2 := List.forall_mem_cons.mpr ⟨⟨19, yX6_lawFor, cX6_lawFor, 2, some .int, by decide +kernel, C_3_19, W_X6_lawFor, I_X6_lawFor, S_X6_lawFor, rfl, rfl, R_X6_lawFor l⟩, List.forall_mem_cons.mpr ⟨⟨25, yX0_shoeKinds, cX0_shoeKinds, 4, some .int, by decide +kernel, C_3_25, W_X0_shoeKinds, I_X0_shoeKinds, S_X0_shoeKinds, rfl, rfl, R_X0_shoeKinds l⟩, fun _ h => by cases h⟩⟩
def U_X3_signOf : List (Nat × zE) := [(0, Sum.inl (4, 0, 0, 0, 1, [])), (1, Sum.inl (18, 3, 0, 0, 4, [])), (4, Sum.inl (2, 2, 0, 0, 5, [])), (5, Sum.inr (0, 0, 1, 0, 0, 0, 6)), (8, Sum.inl (4, 0, 0, 0, 9, [])), (9, Sum.inl (18, 3, 1, 0, 12, [])), (12, Sum.inl (2, 1, 0, 0, 13, [])), (13, Sum.inr (0, 1, 1, 0, 0, 0, 0)), (16, Sum.inl (9, 3, 0, 0, 17, [])), (17, Sum.inl (27, 0, 0, 0, 18, []))]
theorem Z_X3_signOf (l : Launch) : ∀ q ∈ U_X3_signOf, zTok l O_X3_signOf F_X3_signOf q := zU_ok rfl rfl rfl K_X3_signOf (E_X3_signOf l)
def wp_X3_signOf (a : List zV) (S : zS) (K : zR2 → zS → Prop) : Prop := zif (Nat.ble (zsum a) 3) (zwq 1 F_X3_signOf U_X3_signOf O_X3_signOf [] (fun _ _ _ _ _ _ => False) K 11 U_X3_signOf 0 0 S 0 (zar 0 a) [])
theorem R_X3_signOf (l : Launch) (a : List zV) (S : zS) (Q : zR2 → zS → Prop) (h : wp_X3_signOf a S Q) : zRs l 1 0 0 yX3_signOf (.code yX3_signOf cX3_signOf 3 (some .int)) a S Q := by
  obtain ⟨h1, h⟩ := zif_ok h
  exact zRs_of 3 (by decide) rfl h1 (zwq_ok (Z_X3_signOf l) rfl [] (fun _ _ _ _ _ _ h => h.elim) 11 (Z_X3_signOf l) h)
def B_X3_signAt : List (Nat × zC) := [(27, (0, 0, 2, 0, 0, 0, 0)), (30, (0, 1, 2, 1, 0, 0, 3))]
def O_X3_signAt : zO := fun j a S K => match j with
  | 0 => wp_X0_doing a S K
  | 1 => wp_X3_signOf a S K
  | _ => False
theorem E_X3_signAt (l : Launch) : ∀ q ∈ B_X3_signAt, zcok l O_X3_signAt F_X3_signAt q.1 q.2 := List.forall_mem_cons.mpr ⟨⟨34, yX0_doing, cX0_doing, 3, some .int, by decide +kernel, C_3_34, W_X0_doing, I_X0_doing, S_X0_doing, rfl, rfl, R_X0_doing l⟩, List.forall_mem_cons.mpr ⟨⟨38, yX3_signOf, cX3_signOf, 3, some .int, by decide +kernel, C_3_38, W_X3_signOf, I_X3_signOf, S_X3_signOf, rfl, rfl, R_X3_signOf l⟩, fun _ h => by cases h⟩⟩
def U_X3_signAt : List (Nat × zE) := [(0, Sum.inl (4, 0, 0, 0, 1, [])), (1, Sum.inl (18, 3, 0, 0, 4, [])), (4, Sum.inl (18, 6, 1, 0, 7, [])), (7, Sum.inl (2, 1, 0, 0, 8, [])), (8, Sum.inl (20, 0, 0, 0, 9, [])), (9, Sum.inl (5, 3, 0, 0, 10, [])), (10, Sum.inl (2, 3, 0, 0, 11, [])), (11, Sum.inl (0, 0, 0, (-1), 12, [])), (12, Sum.inl (16, 0, 15, 0, 19, [])), (15, Sum.inl (0, 0, 0, 3, 16, [])), (16, Sum.inl (15, 0, 0, 0, 33, [])), (19, Sum.inl (4, 0, 0, 0, 20, [])), (20, Sum.inl (2, 3, 0, 0, 21, [])), (21, Sum.inl (4, 0, 0, 0, 22, [])), (22, Sum.inl (18, 3, 1, 0, 25, [])), (25, Sum.inl (2, 3, 0, 0, 26, [])), (26, Sum.inl (2, 2, 0, 0, 27, [])), (27, Sum.inr (0, 0, 2, 0, 0, 0, 0)), (30, Sum.inr (0, 1, 2, 1, 0, 0, 3)), (33, Sum.inl (27, 0, 0, 0, 34, []))]
theorem Z_X3_signAt (l : Launch) : ∀ q ∈ U_X3_signAt, zTok l O_X3_signAt F_X3_signAt q := zU_ok rfl rfl rfl K_X3_signAt (E_X3_signAt l)
def wp_X3_signAt (a : List zV) (S : zS) (K : zR2 → zS → Prop) : Prop := zif (Nat.ble (zsum a) 4) (zwq 2 F_X3_signAt U_X3_signAt O_X3_signAt [] (fun _ _ _ _ _ _ => False) K 21 U_X3_signAt 0 0 S 0 (zar 0 a) [])
theorem R_X3_signAt (l : Launch) (a : List zV) (S : zS) (Q : zR2 → zS → Prop) (h : wp_X3_signAt a S Q) : zRs l 2 0 0 yX3_signAt (.code yX3_signAt cX3_signAt 4 (some .int)) a S Q := by
  obtain ⟨h1, h⟩ := zif_ok h
  exact zRs_of 3 (by decide) rfl h1 (zwq_ok (Z_X3_signAt l) rfl [] (fun _ _ _ _ _ _ h => h.elim) 21 (Z_X3_signAt l) h)
theorem tst_lawFor (S : zS) (x : Nat) (hx : x < 4) (K : zR2 → zS → Prop) (h : K (.inl (some (.inl (S 10 x)))) S) : wp_X6_lawFor [.inr (.inl 3), .inl (x : Int)] S K := by
  refine ⟨fun c => by omega, fun c => ⟨fun c2 => by omega, fun c2 => ⟨x, ⟨rfl, by omega⟩, h⟩⟩⟩
theorem tst_signAt (S : zS) (r hh t a : Nat) (hr : r < 8) (ht : t < 6) (h24 : hh < 24) (e1 : S 5 r = t) (ha : a < 4) (e2 : S 25 (t * 24 + hh) = a) (K : zR2 → zS → Prop) (h : K (.inl (some (.inl (zand (S 10 a) (zor 1 2))))) S) (h1 : 0 < S 24 (t * 2)) (h2 : 0 < S 24 (t * 2 + 1)) : wp_X3_signAt [.inr (.inl 36), .inl (r : Int), .inl (hh : Int)] S K := by
  refine ⟨r, ⟨rfl, by omega⟩, fun c => ?_, fun c => ?_⟩
  · omega
  · refine ⟨by omega, by omega, t * 24 + hh, ⟨by omega, by omega⟩, ?_⟩
    refine ⟨fun c => by omega, fun c => ⟨fun c2 => by omega, fun c2 => ⟨a, ⟨by omega, by omega⟩, ?_⟩⟩⟩
    refine ⟨by omega, t * 2, ⟨by omega, by omega⟩, fun c => ?_, fun c => ?_⟩
    · refine ⟨by omega, by omega, t * 2 + 1, ⟨by omega, by omega⟩, fun c => ?_, fun c => ?_⟩
      · exact h
      · omega
    · omega
