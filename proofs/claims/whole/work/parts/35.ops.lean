/-! CALLS that change nothing -/
def B_X12_isRoom : List (Nat × zC) := [(19, (0, 0, 2, 0, 0, 0, 12))]
def O_X12_isRoom : zO := fun j a S K => match j with
  | 0 => wp_X12_right a S K
  | _ => False
theorem E_X12_isRoom (l : Launch) : ∀ q ∈ B_X12_isRoom, zcok l O_X12_isRoom F_X12_isRoom q.1 q.2 := List.forall_mem_cons.mpr ⟨⟨241, yX12_right, cX12_right, 3, some .boolean, by decide +kernel, C_12_241, W_X12_right, I_X12_right, S_X12_right, rfl, rfl, R_X12_right l⟩, fun _ h => by cases h⟩
def U_X12_isRoom : List (Nat × zE) := [(0, Sum.inl (4, 0, 0, 0, 1, [])), (1, Sum.inl (2, 1, 0, 0, 2, [])), (2, Sum.inl (17, 1, 17, 0, 5, [])), (5, Sum.inl (2, 1, 0, 0, 6, [])), (6, Sum.inl (4, 0, 0, 0, 7, [])), (7, Sum.inl (18, 12, 1, 0, 10, [])), (10, Sum.inl (16, 1, 13, 0, 17, [])), (13, Sum.inl (0, 0, 0, 1, 14, [])), (14, Sum.inl (15, 0, 0, 0, 18, [])), (17, Sum.inl (0, 0, 0, 0, 18, [])), (18, Sum.inl (0, 0, 0, 1, 19, [])), (19, Sum.inr (0, 0, 2, 0, 0, 0, 12)), (22, Sum.inl (27, 0, 0, 0, 23, []))]
theorem Z_X12_isRoom (l : Launch) : ∀ q ∈ U_X12_isRoom, zTok l O_X12_isRoom F_X12_isRoom q := zU_ok rfl rfl rfl K_X12_isRoom (E_X12_isRoom l)
def B_X12_isLodger : List (Nat × zC) := [(19, (0, 0, 2, 0, 0, 0, 12))]
def O_X12_isLodger : zO := fun j a S K => match j with
  | 0 => wp_X12_right a S K
  | _ => False
theorem E_X12_isLodger (l : Launch) : ∀ q ∈ B_X12_isLodger, zcok l O_X12_isLodger F_X12_isLodger q.1 q.2 := List.forall_mem_cons.mpr ⟨⟨241, yX12_right, cX12_right, 3, some .boolean, by decide +kernel, C_12_241, W_X12_right, I_X12_right, S_X12_right, rfl, rfl, R_X12_right l⟩, fun _ h => by cases h⟩
def U_X12_isLodger : List (Nat × zE) := [(0, Sum.inl (4, 0, 0, 0, 1, [])), (1, Sum.inl (2, 1, 0, 0, 2, [])), (2, Sum.inl (17, 1, 17, 0, 5, [])), (5, Sum.inl (2, 1, 0, 0, 6, [])), (6, Sum.inl (4, 0, 0, 0, 7, [])), (7, Sum.inl (18, 12, 2, 0, 10, [])), (10, Sum.inl (16, 1, 13, 0, 17, [])), (13, Sum.inl (0, 0, 0, 1, 14, [])), (14, Sum.inl (15, 0, 0, 0, 18, [])), (17, Sum.inl (0, 0, 0, 0, 18, [])), (18, Sum.inl (0, 0, 0, 1, 19, [])), (19, Sum.inr (0, 0, 2, 0, 0, 0, 12)), (22, Sum.inl (27, 0, 0, 0, 23, []))]
theorem Z_X12_isLodger (l : Launch) : ∀ q ∈ U_X12_isLodger, zTok l O_X12_isLodger F_X12_isLodger q := zU_ok rfl rfl rfl K_X12_isLodger (E_X12_isLodger l)
def B_X12_isFinder : List (Nat × zC) := [(19, (0, 0, 2, 0, 0, 0, 12))]
def O_X12_isFinder : zO := fun j a S K => match j with
  | 0 => wp_X12_right a S K
  | _ => False
theorem E_X12_isFinder (l : Launch) : ∀ q ∈ B_X12_isFinder, zcok l O_X12_isFinder F_X12_isFinder q.1 q.2 := List.forall_mem_cons.mpr ⟨⟨241, yX12_right, cX12_right, 3, some .boolean, by decide +kernel, C_12_241, W_X12_right, I_X12_right, S_X12_right, rfl, rfl, R_X12_right l⟩, fun _ h => by cases h⟩
def U_X12_isFinder : List (Nat × zE) := [(0, Sum.inl (4, 0, 0, 0, 1, [])), (1, Sum.inl (2, 1, 0, 0, 2, [])), (2, Sum.inl (17, 1, 17, 0, 5, [])), (5, Sum.inl (2, 1, 0, 0, 6, [])), (6, Sum.inl (4, 0, 0, 0, 7, [])), (7, Sum.inl (18, 12, 3, 0, 10, [])), (10, Sum.inl (16, 1, 13, 0, 17, [])), (13, Sum.inl (0, 0, 0, 1, 14, [])), (14, Sum.inl (15, 0, 0, 0, 18, [])), (17, Sum.inl (0, 0, 0, 0, 18, [])), (18, Sum.inl (0, 0, 0, 1, 19, [])), (19, Sum.inr (0, 0, 2, 0, 0, 0, 12)), (22, Sum.inl (27, 0, 0, 0, 23, []))]
theorem Z_X12_isFinder (l : Launch) : ∀ q ∈ U_X12_isFinder, zTok l O_X12_isFinder F_X12_isFinder q := zU_ok rfl rfl rfl K_X12_isFinder (E_X12_isFinder l)
def B_X12_isHour : List (Nat × zC) := [(5, (1, 0, 3, 0, 0, 0, 0)), (9, (0, 1, 2, 0, 0, 0, 12))]
def O_X12_isHour : zO := fun j a S K => match j with
  | 0 => wp_X12_within a S K
  | 1 => wp_X12_right a S K
  | _ => False
theorem E_X12_isHour (l : Launch) : ∀ q ∈ B_X12_isHour, zcok l O_X12_isHour F_X12_isHour q.1 q.2 := List.forall_mem_cons.mpr ⟨⟨283, yX12_within, cX12_within, 3, some .boolean, by decide +kernel, C_12_283, W_X12_within, I_X12_within, rfl, R_X12_within l⟩, List.forall_mem_cons.mpr ⟨⟨241, yX12_right, cX12_right, 3, some .boolean, by decide +kernel, C_12_241, W_X12_right, I_X12_right, S_X12_right, rfl, rfl, R_X12_right l⟩, fun _ h => by cases h⟩⟩
def U_X12_isHour : List (Nat × zE) := [(0, Sum.inl (4, 0, 0, 0, 1, [])), (1, Sum.inl (2, 1, 0, 0, 2, [])), (2, Sum.inl (0, 0, 0, 0, 3, [])), (3, Sum.inl (0, 0, 0, 23, 5, [])), (5, Sum.inr (1, 0, 3, 0, 0, 0, 0)), (8, Sum.inl (0, 0, 0, 1, 9, [])), (9, Sum.inr (0, 1, 2, 0, 0, 0, 12)), (12, Sum.inl (27, 0, 0, 0, 13, []))]
theorem Z_X12_isHour (l : Launch) : ∀ q ∈ U_X12_isHour, zTok l O_X12_isHour F_X12_isHour q := zU_ok rfl rfl rfl K_X12_isHour (E_X12_isHour l)
def B_X12_isTwo : List (Nat × zC) := [(16, (0, 0, 2, 0, 0, 0, 12))]
def O_X12_isTwo : zO := fun j a S K => match j with
  | 0 => wp_X12_right a S K
  | _ => False
theorem E_X12_isTwo (l : Launch) : ∀ q ∈ B_X12_isTwo, zcok l O_X12_isTwo F_X12_isTwo q.1 q.2 := List.forall_mem_cons.mpr ⟨⟨241, yX12_right, cX12_right, 3, some .boolean, by decide +kernel, C_12_241, W_X12_right, I_X12_right, S_X12_right, rfl, rfl, R_X12_right l⟩, fun _ h => by cases h⟩
def U_X12_isTwo : List (Nat × zE) := [(0, Sum.inl (4, 0, 0, 0, 1, [])), (1, Sum.inl (2, 1, 0, 0, 2, [])), (2, Sum.inl (17, 0, 10, 0, 5, [])), (5, Sum.inl (2, 1, 0, 0, 6, [])), (6, Sum.inl (0, 0, 0, 1, 7, [])), (7, Sum.inl (16, 0, 10, 0, 14, [])), (10, Sum.inl (0, 0, 0, 1, 11, [])), (11, Sum.inl (15, 0, 0, 0, 15, [])), (14, Sum.inl (0, 0, 0, 0, 15, [])), (15, Sum.inl (0, 0, 0, 1, 16, [])), (16, Sum.inr (0, 0, 2, 0, 0, 0, 12)), (19, Sum.inl (27, 0, 0, 0, 20, []))]
theorem Z_X12_isTwo (l : Launch) : ∀ q ∈ U_X12_isTwo, zTok l O_X12_isTwo F_X12_isTwo q := zU_ok rfl rfl rfl K_X12_isTwo (E_X12_isTwo l)
def wp_X12_isRoom (a : List zV) (S : zS) (K : zR2 → zS → Prop) : Prop := match a with
  | [.inr (.inl c), .inl x] => (c = 62 ∧ S 62 0 = 0) ∧ ((0 ≤ x ∧ x < S 62 1) → K (.inl (some (.inl 1))) S) ∧ (¬ (0 ≤ x ∧ x < S 62 1) → K (.inl (some (.inl 0))) (zu S 62 0 1))
  | _ => False
theorem R_X12_isRoom (l : Launch) (a : List zV) (S : zS) (Q : zR2 → zS → Prop) (h : wp_X12_isRoom a S Q) : zRs l 1 0 0 yX12_isRoom (.code yX12_isRoom cX12_isRoom 2 (some .boolean)) a S Q := by
  unfold wp_X12_isRoom at h
  split at h
  · obtain ⟨⟨rfl, h0⟩, h1, h2⟩ := h
    refine zRs_of 12 (by decide) rfl rfl ?_; refine zwq_ok (Z_X12_isRoom l) rfl [] (fun _ _ _ _ _ _ h => h) 400 (Z_X12_isRoom l) ?_
    exact ⟨fun c => ⟨⟨rfl, Or.inl rfl⟩, fun _ _ _ => ⟨Or.inl rfl, h2 (by omega)⟩, fun _ z => absurd z (by decide), h0, by decide⟩, fun c => ⟨fun c2 => ⟨⟨rfl, Or.inr rfl⟩, fun _ z => absurd z (by decide), fun _ _ => ⟨Or.inr rfl, h1 (by omega)⟩, h0, by decide⟩, fun c2 => ⟨⟨rfl, Or.inl rfl⟩, fun _ _ _ => ⟨Or.inl rfl, h2 (by omega)⟩, fun _ z => absurd z (by decide), h0, by decide⟩⟩⟩
  · exact h.elim
def wp_X12_isLodger (a : List zV) (S : zS) (K : zR2 → zS → Prop) : Prop := match a with
  | [.inr (.inl c), .inl x] => (c = 62 ∧ S 62 0 = 0) ∧ ((0 ≤ x ∧ x < S 62 2) → K (.inl (some (.inl 1))) S) ∧ (¬ (0 ≤ x ∧ x < S 62 2) → K (.inl (some (.inl 0))) (zu S 62 0 1))
  | _ => False
theorem R_X12_isLodger (l : Launch) (a : List zV) (S : zS) (Q : zR2 → zS → Prop) (h : wp_X12_isLodger a S Q) : zRs l 1 0 0 yX12_isLodger (.code yX12_isLodger cX12_isLodger 2 (some .boolean)) a S Q := by
  unfold wp_X12_isLodger at h
  split at h
  · obtain ⟨⟨rfl, h0⟩, h1, h2⟩ := h
    refine zRs_of 12 (by decide) rfl rfl ?_; refine zwq_ok (Z_X12_isLodger l) rfl [] (fun _ _ _ _ _ _ h => h) 400 (Z_X12_isLodger l) ?_
    exact ⟨fun c => ⟨⟨rfl, Or.inl rfl⟩, fun _ _ _ => ⟨Or.inl rfl, h2 (by omega)⟩, fun _ z => absurd z (by decide), h0, by decide⟩, fun c => ⟨fun c2 => ⟨⟨rfl, Or.inr rfl⟩, fun _ z => absurd z (by decide), fun _ _ => ⟨Or.inr rfl, h1 (by omega)⟩, h0, by decide⟩, fun c2 => ⟨⟨rfl, Or.inl rfl⟩, fun _ _ _ => ⟨Or.inl rfl, h2 (by omega)⟩, fun _ z => absurd z (by decide), h0, by decide⟩⟩⟩
  · exact h.elim
def wp_X12_isFinder (a : List zV) (S : zS) (K : zR2 → zS → Prop) : Prop := match a with
  | [.inr (.inl c), .inl x] => (c = 62 ∧ S 62 0 = 0) ∧ ((0 ≤ x ∧ x < S 62 3) → K (.inl (some (.inl 1))) S) ∧ (¬ (0 ≤ x ∧ x < S 62 3) → K (.inl (some (.inl 0))) (zu S 62 0 1))
  | _ => False
theorem R_X12_isFinder (l : Launch) (a : List zV) (S : zS) (Q : zR2 → zS → Prop) (h : wp_X12_isFinder a S Q) : zRs l 1 0 0 yX12_isFinder (.code yX12_isFinder cX12_isFinder 2 (some .boolean)) a S Q := by
  unfold wp_X12_isFinder at h
  split at h
  · obtain ⟨⟨rfl, h0⟩, h1, h2⟩ := h
    refine zRs_of 12 (by decide) rfl rfl ?_; refine zwq_ok (Z_X12_isFinder l) rfl [] (fun _ _ _ _ _ _ h => h) 400 (Z_X12_isFinder l) ?_
    exact ⟨fun c => ⟨⟨rfl, Or.inl rfl⟩, fun _ _ _ => ⟨Or.inl rfl, h2 (by omega)⟩, fun _ z => absurd z (by decide), h0, by decide⟩, fun c => ⟨fun c2 => ⟨⟨rfl, Or.inr rfl⟩, fun _ z => absurd z (by decide), fun _ _ => ⟨Or.inr rfl, h1 (by omega)⟩, h0, by decide⟩, fun c2 => ⟨⟨rfl, Or.inl rfl⟩, fun _ _ _ => ⟨Or.inl rfl, h2 (by omega)⟩, fun _ z => absurd z (by decide), h0, by decide⟩⟩⟩
  · exact h.elim
def wp_X12_isHour (a : List zV) (S : zS) (K : zR2 → zS → Prop) : Prop := match a with
  | [.inr (.inl c), .inl x] => (c = 62 ∧ S 62 0 = 0) ∧ ((0 ≤ x ∧ x < 24) → K (.inl (some (.inl 1))) S) ∧ (¬ (0 ≤ x ∧ x < 24) → K (.inl (some (.inl 0))) (zu S 62 0 1))
  | _ => False
theorem R_X12_isHour (l : Launch) (a : List zV) (S : zS) (Q : zR2 → zS → Prop) (h : wp_X12_isHour a S Q) : zRs l 1 0 0 yX12_isHour (.code yX12_isHour cX12_isHour 2 (some .boolean)) a S Q := by
  unfold wp_X12_isHour at h
  split at h
  · obtain ⟨⟨rfl, h0⟩, h1, h2⟩ := h
    refine zRs_of 12 (by decide) rfl rfl ?_; refine zwq_ok (Z_X12_isHour l) rfl [] (fun _ _ _ _ _ _ h => h) 400 (Z_X12_isHour l) ?_
    exact ⟨fun c => ⟨⟨rfl, Or.inr rfl⟩, fun _ z => absurd z (by decide), fun _ _ => ⟨Or.inr rfl, h1 (by omega)⟩, h0, by decide⟩, fun c => ⟨⟨rfl, Or.inl rfl⟩, fun _ _ _ => ⟨Or.inl rfl, h2 (by omega)⟩, fun _ z => absurd z (by decide), h0, by decide⟩⟩
  · exact h.elim
def wp_X12_isTwo (a : List zV) (S : zS) (K : zR2 → zS → Prop) : Prop := match a with
  | [.inr (.inl c), .inl x] => (c = 62 ∧ S 62 0 = 0) ∧ ((0 ≤ x ∧ x < 2) → K (.inl (some (.inl 1))) S) ∧ (¬ (0 ≤ x ∧ x < 2) → K (.inl (some (.inl 0))) (zu S 62 0 1))
  | _ => False
theorem R_X12_isTwo (l : Launch) (a : List zV) (S : zS) (Q : zR2 → zS → Prop) (h : wp_X12_isTwo a S Q) : zRs l 1 0 0 yX12_isTwo (.code yX12_isTwo cX12_isTwo 2 (some .boolean)) a S Q := by
  unfold wp_X12_isTwo at h
  split at h
  · obtain ⟨⟨rfl, h0⟩, h1, h2⟩ := h
    refine zRs_of 12 (by decide) rfl rfl ?_; refine zwq_ok (Z_X12_isTwo l) rfl [] (fun _ _ _ _ _ _ h => h) 400 (Z_X12_isTwo l) ?_
    exact ⟨fun c => ⟨⟨rfl, Or.inr rfl⟩, fun _ z => absurd z (by decide), fun _ _ => ⟨Or.inr rfl, h1 (by omega)⟩, h0, by decide⟩, fun c => ⟨fun c2 => ⟨⟨rfl, Or.inr rfl⟩, fun _ z => absurd z (by decide), fun _ _ => ⟨Or.inr rfl, h1 (by omega)⟩, h0, by decide⟩, fun c2 => ⟨⟨rfl, Or.inl rfl⟩, fun _ _ _ => ⟨Or.inl rfl, h2 (by omega)⟩, fun _ z => absurd z (by decide), h0, by decide⟩⟩⟩
  · exact h.elim
def B_X11_room : List (Nat × zC) := [(2, (2, 0, 1, 6, 0, 0, 11)), (7, (4, 1, 2, 6, 0, 0, 0))]
def O_X11_room : zO := fun j a S K => match j with
  | 0 => wp_X11_needRoom a S K
  | 1 => wp_X11_needOneOf a S K
  | _ => False
theorem E_X11_room (l : Launch) : ∀ q ∈ B_X11_room, zcok l O_X11_room F_X11_room q.1 q.2 := List.forall_mem_cons.mpr ⟨⟨179, yX11_needRoom, cX11_needRoom, 2, none, by decide +kernel, C_11_179, W_X11_needRoom, I_X11_needRoom, S_X11_needRoom, rfl, rfl, R_X11_needRoom l⟩, List.forall_mem_cons.mpr ⟨⟨182, yX11_needOneOf, cX11_needOneOf, 2, none, by decide +kernel, C_11_182, W_X11_needOneOf, I_X11_needOneOf, rfl, R_X11_needOneOf l⟩, fun _ h => by cases h⟩⟩
def U_X11_room : List (Nat × zE) := [(0, Sum.inl (4, 0, 0, 0, 1, [])), (1, Sum.inl (2, 1, 0, 0, 2, [])), (2, Sum.inr (2, 0, 1, 6, 0, 0, 11)), (5, Sum.inl (2, 2, 0, 0, 6, [])), (6, Sum.inl (0, 0, 0, 2, 7, [])), (7, Sum.inr (4, 1, 2, 6, 0, 0, 0)), (10, Sum.inl (2, 2, 0, 0, 11, [])), (11, Sum.inl (17, 0, 14, 0, 26, [])), (14, Sum.inl (4, 0, 0, 0, 15, [])), (15, Sum.inl (18, 11, 1, 0, 18, [])), (18, Sum.inl (18, 6, 0, 0, 21, [])), (21, Sum.inl (2, 1, 0, 0, 22, [])), (22, Sum.inl (20, 0, 0, 0, 23, [])), (23, Sum.inl (15, 0, 0, 0, 35, [])), (26, Sum.inl (4, 0, 0, 0, 27, [])), (27, Sum.inl (18, 11, 1, 0, 30, [])), (30, Sum.inl (18, 6, 1, 0, 33, [])), (33, Sum.inl (2, 1, 0, 0, 34, [])), (34, Sum.inl (20, 0, 0, 0, 35, [])), (35, Sum.inl (27, 0, 0, 0, 36, []))]
theorem Z_X11_room (l : Launch) : ∀ q ∈ U_X11_room, zTok l O_X11_room F_X11_room q := zU_ok rfl rfl rfl K_X11_room (E_X11_room l)
def wp_X11_room (a : List zV) (S : zS) (K : zR2 → zS → Prop) : Prop := zif (Nat.ble (zsum a) 3) (zwq 7 F_X11_room U_X11_room O_X11_room [] (fun _ _ _ _ _ _ => False) K 21 U_X11_room 1 6 S 0 (zar 0 a) [])
theorem R_X11_room (l : Launch) (a : List zV) (S : zS) (Q : zR2 → zS → Prop) (h : wp_X11_room a S Q) : zRs l 7 1 6 yX11_room (.code yX11_room cX11_room 3 (some .int)) a S Q := by
  obtain ⟨h1, h⟩ := zif_ok h
  exact zRs_of 11 (by decide) rfl h1 (zwq_ok (Z_X11_room l) rfl [] (fun _ _ _ _ _ _ h => h.elim) 21 (Z_X11_room l) h)
def B_X12_room : List (Nat × zC) := [(7, (0, 0, 1, 1, 0, 0, 12)), (15, (0, 1, 1, 1, 0, 0, 12))]
def O_X12_room : zO := fun j a S K => match j with
  | 0 => wp_X12_isRoom a S K
  | 1 => wp_X12_isTwo a S K
  | _ => False
theorem E_X12_room (l : Launch) : ∀ q ∈ B_X12_room, zcok l O_X12_room F_X12_room q.1 q.2 := List.forall_mem_cons.mpr ⟨⟨287, yX12_isRoom, cX12_isRoom, 2, some .boolean, by decide +kernel, C_12_287, W_X12_isRoom, I_X12_isRoom, S_X12_isRoom, rfl, rfl, R_X12_isRoom l⟩, List.forall_mem_cons.mpr ⟨⟨290, yX12_isTwo, cX12_isTwo, 2, some .boolean, by decide +kernel, C_12_290, W_X12_isTwo, I_X12_isTwo, S_X12_isTwo, rfl, rfl, R_X12_isTwo l⟩, fun _ h => by cases h⟩⟩
def U_X12_room : List (Nat × zE) := [(0, Sum.inl (4, 0, 0, 0, 1, [])), (1, Sum.inl (0, 0, 0, 0, 2, [])), (2, Sum.inl (19, 12, 0, 0, 5, [])), (5, Sum.inl (4, 0, 0, 0, 6, [])), (6, Sum.inl (2, 1, 0, 0, 7, [])), (7, Sum.inr (0, 0, 1, 1, 0, 0, 12)), (10, Sum.inl (17, 0, 43, 0, 13, [])), (13, Sum.inl (4, 0, 0, 0, 14, [])), (14, Sum.inl (2, 2, 0, 0, 15, [])), (15, Sum.inr (0, 1, 1, 1, 0, 0, 12)), (18, Sum.inl (17, 0, 43, 0, 21, [])), (21, Sum.inl (2, 2, 0, 0, 22, [])), (22, Sum.inl (17, 0, 25, 0, 34, [])), (25, Sum.inl (4, 0, 0, 0, 26, [])), (26, Sum.inl (18, 12, 5, 0, 29, [])), (29, Sum.inl (2, 1, 0, 0, 30, [])), (30, Sum.inl (20, 0, 0, 0, 31, [])), (31, Sum.inl (15, 0, 0, 0, 44, [])), (34, Sum.inl (4, 0, 0, 0, 35, [])), (35, Sum.inl (18, 12, 6, 0, 38, [])), (38, Sum.inl (2, 1, 0, 0, 39, [])), (39, Sum.inl (20, 0, 0, 0, 40, [])), (40, Sum.inl (15, 0, 0, 0, 44, [])), (43, Sum.inl (0, 0, 0, 0, 44, [])), (44, Sum.inl (27, 0, 0, 0, 45, []))]
theorem Z_X12_room (l : Launch) : ∀ q ∈ U_X12_room, zTok l O_X12_room F_X12_room q := zU_ok rfl rfl rfl K_X12_room (E_X12_room l)
def wp_X12_room (a : List zV) (S : zS) (K : zR2 → zS → Prop) : Prop := zif (Nat.ble (zsum a) 3) (zwq 2 F_X12_room U_X12_room O_X12_room [] (fun _ _ _ _ _ _ => False) K 26 U_X12_room 0 0 S 0 (zar 0 a) [])
theorem R_X12_room (l : Launch) (a : List zV) (S : zS) (Q : zR2 → zS → Prop) (h : wp_X12_room a S Q) : zRs l 2 0 0 yX12_room (.code yX12_room cX12_room 3 (some .int)) a S Q := by
  obtain ⟨h1, h⟩ := zif_ok h
  exact zRs_of 12 (by decide) rfl h1 (zwq_ok (Z_X12_room l) rfl [] (fun _ _ _ _ _ _ h => h.elim) 26 (Z_X12_room l) h)
def roomA (D : zD) (x y : Int) : Nat × Int := if 0 ≤ x ∧ x < dR D then (if 0 ≤ y ∧ y < 2 then (if y = 0 then (0, (dG D x.toNat : Int)) else (0, (dW D x.toNat : Int) - 1)) else (1, 0)) else (1, 0)
section
variable {S : zS} {D E T : zD} {N : Nat} {K : zR2 → zS → Prop} {x y z u w : Int}
theorem c_room (hC : eC S D E T) (hX : xOK D E T N) (h : cRes S D E T (cr1 (roomA D x y)) K) : wp_X11_room [.inr (.inl 0), .inl x, .inl y] S K := by
  have h := cGood hC h
  have e1 := hC.now.rooms
  have e2 := hX.now.rooms
  unfold roomA at h
  refine ⟨rfl, fun c => ?_, fun c => ⟨fun c2 => ?_, fun c2 => ⟨fun c3 => ⟨x.toNat, ⟨by omega, by omega⟩, ?_⟩, fun c3 => ⟨x.toNat, ⟨by omega, by omega⟩, ?_⟩⟩⟩⟩
  · rw [if_neg (by omega)] at h; exact h
  · rw [if_pos (by omega), if_neg (by omega)] at h; exact h
  · rw [if_pos (by omega), if_pos (by omega), if_pos (by omega), ← hC.now.goods x.toNat (by omega)] at h; exact h
  · rw [if_pos (by omega), if_pos (by omega), if_neg (by omega), ← hC.now.tenant x.toNat (by omega)] at h; exact h
theorem m_room (hM : eM S D E T) (hX : xOK D E T N) (h : mRes S D E T (roomA D x y) K) : wp_X12_room [.inr (.inl 62), .inl x, .inl y] S K := by
  have e1 : zu S 62 0 0 62 1 = (dR D : Int) := hM.now.rooms
  have e2 := hX.now.rooms
  unfold roomA at h
  refine ⟨⟨rfl, rfl⟩, fun c => ⟨fun c9 => by omega, fun _ => ⟨⟨rfl, rfl⟩, fun c2 => ⟨fun c9 => by omega, fun _ => ⟨fun c3 => ⟨x.toNat, ⟨by omega, by omega⟩, ?_⟩, fun c3 => ⟨x.toNat, ⟨by omega, by omega⟩, ?_⟩⟩⟩, fun c2 => ⟨fun _ => ?_, fun c9 => absurd rfl c9⟩⟩⟩, fun c => ⟨fun _ => ?_, fun c9 => absurd rfl c9⟩⟩
  · rw [if_pos (by omega), if_pos (by omega), if_pos (by omega), ← hM.now.goods x.toNat (by omega)] at h; exact mGood hM h
  · rw [if_pos (by omega), if_pos (by omega), if_neg (by omega), ← hM.now.whose x.toNat (by omega)] at h; exact mGood hM h
  · rw [if_pos (by omega), if_neg (by omega)] at h; exact mFail1 hM h
  · rw [if_neg (by omega)] at h; exact mFail1 hM h
end
