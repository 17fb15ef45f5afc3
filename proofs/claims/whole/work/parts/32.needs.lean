/-! What every call asks for -/
def zNS : String := "java/util/NoSuchElementException"
def zIA : String := "java/lang/IllegalArgumentException"
def B_X11_needRoom : List (Nat × zC) := [(15, (9, 1, 1, 174, 363, 178, 0))]
def O_X11_needRoom : zO := fun j a S K => match j with
  | _ => False
theorem E_X11_needRoom (l : Launch) : ∀ q ∈ B_X11_needRoom, zcok l O_X11_needRoom F_X11_needRoom q.1 q.2 := List.forall_mem_cons.mpr ⟨⟨rfl, rfl, z_at 799 (by decide +kernel) (by decide +kernel), ⟨16, _, rfl, rfl, rfl⟩, by decide +kernel, by decide +kernel, Or.inr ⟨rfl, by decide +kernel, by decide +kernel, by decide +kernel⟩, Or.inr ⟨rfl, rfl⟩⟩, fun _ h => by cases h⟩
def U_X11_needRoom : List (Nat × zE) := [(0, Sum.inl (2, 1, 0, 0, 1, [])), (1, Sum.inl (17, 1, 15, 0, 4, [])), (4, Sum.inl (2, 1, 0, 0, 5, [])), (5, Sum.inl (4, 0, 0, 0, 6, [])), (6, Sum.inl (18, 11, 1, 0, 9, [])), (9, Sum.inl (18, 6, 7, 0, 12, [])), (12, Sum.inl (16, 1, 26, 0, 15, [])), (15, Sum.inr (9, 1, 1, 174, 363, 178, 0)), (18, Sum.inl (12, 0, 0, 0, 19, [])), (26, Sum.inl (29, 0, 0, 0, 27, []))]
theorem Z_X11_needRoom (l : Launch) : ∀ q ∈ U_X11_needRoom, zTok l O_X11_needRoom F_X11_needRoom q := zU_ok rfl rfl rfl K_X11_needRoom (E_X11_needRoom l)
def B_X11_needLodger : List (Nat × zC) := [(15, (9, 1, 1, 174, 365, 178, 0))]
def O_X11_needLodger : zO := fun j a S K => match j with
  | _ => False
theorem E_X11_needLodger (l : Launch) : ∀ q ∈ B_X11_needLodger, zcok l O_X11_needLodger F_X11_needLodger q.1 q.2 := List.forall_mem_cons.mpr ⟨⟨rfl, rfl, z_at 799 (by decide +kernel) (by decide +kernel), ⟨18, _, rfl, rfl, rfl⟩, by decide +kernel, by decide +kernel, Or.inr ⟨rfl, by decide +kernel, by decide +kernel, by decide +kernel⟩, Or.inr ⟨rfl, rfl⟩⟩, fun _ h => by cases h⟩
def U_X11_needLodger : List (Nat × zE) := [(0, Sum.inl (2, 1, 0, 0, 1, [])), (1, Sum.inl (17, 1, 15, 0, 4, [])), (4, Sum.inl (2, 1, 0, 0, 5, [])), (5, Sum.inl (4, 0, 0, 0, 6, [])), (6, Sum.inl (18, 11, 1, 0, 9, [])), (9, Sum.inl (18, 6, 8, 0, 12, [])), (12, Sum.inl (16, 1, 26, 0, 15, [])), (15, Sum.inr (9, 1, 1, 174, 365, 178, 0)), (18, Sum.inl (12, 0, 0, 0, 19, [])), (26, Sum.inl (29, 0, 0, 0, 27, []))]
theorem Z_X11_needLodger (l : Launch) : ∀ q ∈ U_X11_needLodger, zTok l O_X11_needLodger F_X11_needLodger q := zU_ok rfl rfl rfl K_X11_needLodger (E_X11_needLodger l)
def B_X11_needHour : List (Nat × zC) := [(10, (9, 1, 1, 174, 367, 178, 0))]
def O_X11_needHour : zO := fun j a S K => match j with
  | _ => False
theorem E_X11_needHour (l : Launch) : ∀ q ∈ B_X11_needHour, zcok l O_X11_needHour F_X11_needHour q.1 q.2 := List.forall_mem_cons.mpr ⟨⟨rfl, rfl, z_at 799 (by decide +kernel) (by decide +kernel), ⟨19, _, rfl, rfl, rfl⟩, by decide +kernel, by decide +kernel, Or.inr ⟨rfl, by decide +kernel, by decide +kernel, by decide +kernel⟩, Or.inr ⟨rfl, rfl⟩⟩, fun _ h => by cases h⟩
def U_X11_needHour : List (Nat × zE) := [(0, Sum.inl (2, 0, 0, 0, 1, [])), (1, Sum.inl (17, 1, 10, 0, 4, [])), (4, Sum.inl (2, 0, 0, 0, 5, [])), (5, Sum.inl (0, 0, 0, 24, 7, [])), (7, Sum.inl (16, 1, 21, 0, 10, [])), (10, Sum.inr (9, 1, 1, 174, 367, 178, 0)), (13, Sum.inl (12, 0, 0, 0, 14, [])), (21, Sum.inl (29, 0, 0, 0, 22, []))]
theorem Z_X11_needHour (l : Launch) : ∀ q ∈ U_X11_needHour, zTok l O_X11_needHour F_X11_needHour q := zU_ok rfl rfl rfl K_X11_needHour (E_X11_needHour l)
def B_X11_needOneOf : List (Nat × zC) := [(9, (9, 1, 1, 174, 369, 178, 0))]
def O_X11_needOneOf : zO := fun j a S K => match j with
  | _ => False
theorem E_X11_needOneOf (l : Launch) : ∀ q ∈ B_X11_needOneOf, zcok l O_X11_needOneOf F_X11_needOneOf q.1 q.2 := List.forall_mem_cons.mpr ⟨⟨rfl, rfl, z_at 799 (by decide +kernel) (by decide +kernel), ⟨17, _, rfl, rfl, rfl⟩, by decide +kernel, by decide +kernel, Or.inr ⟨rfl, by decide +kernel, by decide +kernel, by decide +kernel⟩, Or.inr ⟨rfl, rfl⟩⟩, fun _ h => by cases h⟩
def U_X11_needOneOf : List (Nat × zE) := [(0, Sum.inl (2, 0, 0, 0, 1, [])), (1, Sum.inl (17, 1, 9, 0, 4, [])), (4, Sum.inl (2, 0, 0, 0, 5, [])), (5, Sum.inl (2, 1, 0, 0, 6, [])), (6, Sum.inl (16, 1, 20, 0, 9, [])), (9, Sum.inr (9, 1, 1, 174, 369, 178, 0)), (12, Sum.inl (12, 0, 0, 0, 13, [])), (20, Sum.inl (29, 0, 0, 0, 21, []))]
theorem Z_X11_needOneOf (l : Launch) : ∀ q ∈ U_X11_needOneOf, zTok l O_X11_needOneOf F_X11_needOneOf q := zU_ok rfl rfl rfl K_X11_needOneOf (E_X11_needOneOf l)
def B_X11_needWordCount : List (Nat × zC) := [(11, (9, 0, 1, 127, 371, 131, 0))]
def O_X11_needWordCount : zO := fun j a S K => match j with
  | _ => False
theorem E_X11_needWordCount (l : Launch) : ∀ q ∈ B_X11_needWordCount, zcok l O_X11_needWordCount F_X11_needWordCount q.1 q.2 := List.forall_mem_cons.mpr ⟨⟨rfl, rfl, z_at 547 (by decide +kernel) (by decide +kernel), ⟨26, _, rfl, rfl, rfl⟩, by decide +kernel, by decide +kernel, Or.inr ⟨rfl, by decide +kernel, by decide +kernel, by decide +kernel⟩, Or.inl ⟨rfl, rfl⟩⟩, fun _ h => by cases h⟩
def U_X11_needWordCount : List (Nat × zE) := [(0, Sum.inl (2, 0, 0, 0, 1, [])), (1, Sum.inl (0, 0, 0, 1, 2, [])), (2, Sum.inl (16, 1, 11, 0, 5, [])), (5, Sum.inl (2, 0, 0, 0, 6, [])), (6, Sum.inl (0, 0, 0, 40, 8, [])), (8, Sum.inl (16, 2, 11, 0, 22, [])), (11, Sum.inr (9, 0, 1, 127, 371, 131, 0)), (14, Sum.inl (12, 0, 0, 0, 15, [])), (22, Sum.inl (29, 0, 0, 0, 23, []))]
theorem Z_X11_needWordCount (l : Launch) : ∀ q ∈ U_X11_needWordCount, zTok l O_X11_needWordCount F_X11_needWordCount q := zU_ok rfl rfl rfl K_X11_needWordCount (E_X11_needWordCount l)
def B_X11_needApart : List (Nat × zC) := [(10, (9, 0, 1, 127, 373, 131, 0))]
def O_X11_needApart : zO := fun j a S K => match j with
  | _ => False
theorem E_X11_needApart (l : Launch) : ∀ q ∈ B_X11_needApart, zcok l O_X11_needApart F_X11_needApart q.1 q.2 := List.forall_mem_cons.mpr ⟨⟨rfl, rfl, z_at 547 (by decide +kernel) (by decide +kernel), ⟨27, _, rfl, rfl, rfl⟩, by decide +kernel, by decide +kernel, Or.inr ⟨rfl, by decide +kernel, by decide +kernel, by decide +kernel⟩, Or.inl ⟨rfl, rfl⟩⟩, fun _ h => by cases h⟩
def U_X11_needApart : List (Nat × zE) := [(0, Sum.inl (2, 0, 0, 0, 1, [])), (1, Sum.inl (0, 0, 0, 1, 2, [])), (2, Sum.inl (16, 1, 10, 0, 5, [])), (5, Sum.inl (2, 0, 0, 0, 6, [])), (6, Sum.inl (0, 0, 0, 3, 7, [])), (7, Sum.inl (16, 2, 10, 0, 21, [])), (10, Sum.inr (9, 0, 1, 127, 373, 131, 0)), (13, Sum.inl (12, 0, 0, 0, 14, [])), (21, Sum.inl (29, 0, 0, 0, 22, []))]
theorem Z_X11_needApart (l : Launch) : ∀ q ∈ U_X11_needApart, zTok l O_X11_needApart F_X11_needApart q := zU_ok rfl rfl rfl K_X11_needApart (E_X11_needApart l)
def wp_X11_needRoom (a : List zV) (S : zS) (K : zR2 → zS → Prop) : Prop := match a with
  | [.inr (.inl c), .inl x] => c = 0 ∧ (¬ (0 ≤ x ∧ x < S 3 7) → K (.inr zNS) S) ∧ ((0 ≤ x ∧ x < S 3 7) → K (.inl none) S)
  | _ => False
theorem R_X11_needRoom (l : Launch) (a : List zV) (S : zS) (Q : zR2 → zS → Prop) (h : wp_X11_needRoom a S Q) : zRs2 l 6 yX11_needRoom (.code yX11_needRoom cX11_needRoom 2 (none)) a S Q := by
  unfold wp_X11_needRoom at h
  split at h
  · rename_i c x
    obtain ⟨rfl, h1, h2⟩ := h
    by_cases hc : 0 ≤ x ∧ x < S 3 7
    · refine Or.inl ?_
      refine zRs_of 11 (by decide) rfl rfl ?_; refine zwq_ok (Z_X11_needRoom l) rfl [] (fun _ _ _ _ _ _ h => h) 400 (Z_X11_needRoom l) ?_
      exact ⟨fun c => absurd hc (by omega), fun c => ⟨fun c2 => ⟨h2 hc, none, rfl⟩, fun c2 => absurd hc (by omega)⟩⟩
    · refine Or.inr ?_
      refine zRs_of 11 (by decide) rfl rfl ?_; refine zwq_ok (Z_X11_needRoom l) rfl [] (fun _ _ _ _ _ _ h => h) 400 (Z_X11_needRoom l) ?_
      exact ⟨fun c => ⟨h1 hc, _, rfl⟩, fun c => ⟨fun c2 => absurd (And.intro (by omega) (by omega)) hc, fun c2 => ⟨h1 hc, _, rfl⟩⟩⟩
  · exact h.elim
def wp_X11_needLodger (a : List zV) (S : zS) (K : zR2 → zS → Prop) : Prop := match a with
  | [.inr (.inl c), .inl x] => c = 0 ∧ (¬ (0 ≤ x ∧ x < S 3 8) → K (.inr zNS) S) ∧ ((0 ≤ x ∧ x < S 3 8) → K (.inl none) S)
  | _ => False
theorem R_X11_needLodger (l : Launch) (a : List zV) (S : zS) (Q : zR2 → zS → Prop) (h : wp_X11_needLodger a S Q) : zRs2 l 6 yX11_needLodger (.code yX11_needLodger cX11_needLodger 2 (none)) a S Q := by
  unfold wp_X11_needLodger at h
  split at h
  · rename_i c x
    obtain ⟨rfl, h1, h2⟩ := h
    by_cases hc : 0 ≤ x ∧ x < S 3 8
    · refine Or.inl ?_
      refine zRs_of 11 (by decide) rfl rfl ?_; refine zwq_ok (Z_X11_needLodger l) rfl [] (fun _ _ _ _ _ _ h => h) 400 (Z_X11_needLodger l) ?_
      exact ⟨fun c => absurd hc (by omega), fun c => ⟨fun c2 => ⟨h2 hc, none, rfl⟩, fun c2 => absurd hc (by omega)⟩⟩
    · refine Or.inr ?_
      refine zRs_of 11 (by decide) rfl rfl ?_; refine zwq_ok (Z_X11_needLodger l) rfl [] (fun _ _ _ _ _ _ h => h) 400 (Z_X11_needLodger l) ?_
      exact ⟨fun c => ⟨h1 hc, _, rfl⟩, fun c => ⟨fun c2 => absurd (And.intro (by omega) (by omega)) hc, fun c2 => ⟨h1 hc, _, rfl⟩⟩⟩
  · exact h.elim
def wp_X11_needHour (a : List zV) (S : zS) (K : zR2 → zS → Prop) : Prop := match a with
  | [.inl x] => (¬ (0 ≤ x ∧ x < 24) → K (.inr zNS) S) ∧ ((0 ≤ x ∧ x < 24) → K (.inl none) S)
  | _ => False
theorem R_X11_needHour (l : Launch) (a : List zV) (S : zS) (Q : zR2 → zS → Prop) (h : wp_X11_needHour a S Q) : zRs2 l 6 yX11_needHour (.code yX11_needHour cX11_needHour 1 (none)) a S Q := by
  unfold wp_X11_needHour at h
  split at h
  · rename_i x
    obtain ⟨h1, h2⟩ := h
    by_cases hc : 0 ≤ x ∧ x < 24
    · refine Or.inl ?_
      refine zRs_of 11 (by decide) rfl rfl ?_; refine zwq_ok (Z_X11_needHour l) rfl [] (fun _ _ _ _ _ _ h => h) 400 (Z_X11_needHour l) ?_
      exact ⟨fun c => absurd hc (by omega), fun c => ⟨fun c2 => ⟨h2 hc, none, rfl⟩, fun c2 => absurd hc (by omega)⟩⟩
    · refine Or.inr ?_
      refine zRs_of 11 (by decide) rfl rfl ?_; refine zwq_ok (Z_X11_needHour l) rfl [] (fun _ _ _ _ _ _ h => h) 400 (Z_X11_needHour l) ?_
      exact ⟨fun c => ⟨h1 hc, _, rfl⟩, fun c => ⟨fun c2 => absurd (And.intro (by omega) (by omega)) hc, fun c2 => ⟨h1 hc, _, rfl⟩⟩⟩
  · exact h.elim
def wp_X11_needOneOf (a : List zV) (S : zS) (K : zR2 → zS → Prop) : Prop := match a with
  | [.inl x, .inl m] => (¬ (0 ≤ x ∧ x < m) → K (.inr zNS) S) ∧ ((0 ≤ x ∧ x < m) → K (.inl none) S)
  | _ => False
theorem R_X11_needOneOf (l : Launch) (a : List zV) (S : zS) (Q : zR2 → zS → Prop) (h : wp_X11_needOneOf a S Q) : zRs2 l 6 yX11_needOneOf (.code yX11_needOneOf cX11_needOneOf 2 (none)) a S Q := by
  unfold wp_X11_needOneOf at h
  split at h
  · rename_i x m
    obtain ⟨h1, h2⟩ := h
    by_cases hc : 0 ≤ x ∧ x < m
    · refine Or.inl ?_
      refine zRs_of 11 (by decide) rfl rfl ?_; refine zwq_ok (Z_X11_needOneOf l) rfl [] (fun _ _ _ _ _ _ h => h) 400 (Z_X11_needOneOf l) ?_
      exact ⟨fun c => absurd hc (by omega), fun c => ⟨fun c2 => ⟨h2 hc, none, rfl⟩, fun c2 => absurd hc (by omega)⟩⟩
    · refine Or.inr ?_
      refine zRs_of 11 (by decide) rfl rfl ?_; refine zwq_ok (Z_X11_needOneOf l) rfl [] (fun _ _ _ _ _ _ h => h) 400 (Z_X11_needOneOf l) ?_
      exact ⟨fun c => ⟨h1 hc, _, rfl⟩, fun c => ⟨fun c2 => absurd (And.intro (by omega) (by omega)) hc, fun c2 => ⟨h1 hc, _, rfl⟩⟩⟩
  · exact h.elim
def wp_X11_needWordCount (a : List zV) (S : zS) (K : zR2 → zS → Prop) : Prop := match a with
  | [.inl x] => (¬ (1 ≤ x ∧ x ≤ 40) → K (.inr zIA) S) ∧ ((1 ≤ x ∧ x ≤ 40) → K (.inl none) S)
  | _ => False
theorem R_X11_needWordCount (l : Launch) (a : List zV) (S : zS) (Q : zR2 → zS → Prop) (h : wp_X11_needWordCount a S Q) : zRs2 l 6 yX11_needWordCount (.code yX11_needWordCount cX11_needWordCount 1 (none)) a S Q := by
  unfold wp_X11_needWordCount at h
  split at h
  · rename_i x
    obtain ⟨h1, h2⟩ := h
    by_cases hc : 1 ≤ x ∧ x ≤ 40
    · refine Or.inl ?_
      refine zRs_of 11 (by decide) rfl rfl ?_; refine zwq_ok (Z_X11_needWordCount l) rfl [] (fun _ _ _ _ _ _ h => h) 400 (Z_X11_needWordCount l) ?_
      exact ⟨fun c => absurd hc (by omega), fun c => ⟨fun c2 => absurd hc (by omega), fun c2 => ⟨h2 hc, none, rfl⟩⟩⟩
    · refine Or.inr ?_
      refine zRs_of 11 (by decide) rfl rfl ?_; refine zwq_ok (Z_X11_needWordCount l) rfl [] (fun _ _ _ _ _ _ h => h) 400 (Z_X11_needWordCount l) ?_
      exact ⟨fun c => ⟨h1 hc, _, rfl⟩, fun c => ⟨fun c2 => ⟨h1 hc, _, rfl⟩, fun c2 => absurd (And.intro (by omega) (by omega)) hc⟩⟩
  · exact h.elim
def wp_X11_needApart (a : List zV) (S : zS) (K : zR2 → zS → Prop) : Prop := match a with
  | [.inl x] => (¬ (1 ≤ x ∧ x ≤ 3) → K (.inr zIA) S) ∧ ((1 ≤ x ∧ x ≤ 3) → K (.inl none) S)
  | _ => False
theorem R_X11_needApart (l : Launch) (a : List zV) (S : zS) (Q : zR2 → zS → Prop) (h : wp_X11_needApart a S Q) : zRs2 l 6 yX11_needApart (.code yX11_needApart cX11_needApart 1 (none)) a S Q := by
  unfold wp_X11_needApart at h
  split at h
  · rename_i x
    obtain ⟨h1, h2⟩ := h
    by_cases hc : 1 ≤ x ∧ x ≤ 3
    · refine Or.inl ?_
      refine zRs_of 11 (by decide) rfl rfl ?_; refine zwq_ok (Z_X11_needApart l) rfl [] (fun _ _ _ _ _ _ h => h) 400 (Z_X11_needApart l) ?_
      exact ⟨fun c => absurd hc (by omega), fun c => ⟨fun c2 => absurd hc (by omega), fun c2 => ⟨h2 hc, none, rfl⟩⟩⟩
    · refine Or.inr ?_
      refine zRs_of 11 (by decide) rfl rfl ?_; refine zwq_ok (Z_X11_needApart l) rfl [] (fun _ _ _ _ _ _ h => h) 400 (Z_X11_needApart l) ?_
      exact ⟨fun c => ⟨h1 hc, _, rfl⟩, fun c => ⟨fun c2 => ⟨h1 hc, _, rfl⟩, fun c2 => absurd (And.intro (by omega) (by omega)) hc⟩⟩
  · exact h.elim
/-! The model's own -/
def B_X12_right : List (Nat × zC) := []
def O_X12_right : zO := fun j a S K => match j with
  | _ => False
theorem E_X12_right (l : Launch) : ∀ q ∈ B_X12_right, zcok l O_X12_right F_X12_right q.1 q.2 := fun _ h => by cases h
def U_X12_right : List (Nat × zE) := [(0, Sum.inl (4, 0, 0, 0, 1, [])), (1, Sum.inl (18, 12, 0, 0, 4, [])), (4, Sum.inl (17, 0, 7, 0, 16, [])), (7, Sum.inl (2, 1, 0, 0, 8, [])), (8, Sum.inl (17, 0, 11, 0, 16, [])), (11, Sum.inl (4, 0, 0, 0, 12, [])), (12, Sum.inl (2, 2, 0, 0, 13, [])), (13, Sum.inl (19, 12, 0, 0, 16, [])), (16, Sum.inl (4, 0, 0, 0, 17, [])), (17, Sum.inl (18, 12, 0, 0, 20, [])), (20, Sum.inl (17, 0, 23, 0, 27, [])), (23, Sum.inl (0, 0, 0, 1, 24, [])), (24, Sum.inl (15, 0, 0, 0, 28, [])), (27, Sum.inl (0, 0, 0, 0, 28, [])), (28, Sum.inl (27, 0, 0, 0, 29, []))]
theorem Z_X12_right (l : Launch) : ∀ q ∈ U_X12_right, zTok l O_X12_right F_X12_right q := zU_ok rfl rfl rfl K_X12_right (E_X12_right l)
def B_X12_within : List (Nat × zC) := []
def O_X12_within : zO := fun j a S K => match j with
  | _ => False
theorem E_X12_within (l : Launch) : ∀ q ∈ B_X12_within, zcok l O_X12_within F_X12_within q.1 q.2 := fun _ h => by cases h
def U_X12_within : List (Nat × zE) := [(0, Sum.inl (2, 0, 0, 0, 1, [])), (1, Sum.inl (2, 1, 0, 0, 2, [])), (2, Sum.inl (16, 1, 14, 0, 5, [])), (5, Sum.inl (2, 0, 0, 0, 6, [])), (6, Sum.inl (2, 2, 0, 0, 7, [])), (7, Sum.inl (16, 2, 14, 0, 10, [])), (10, Sum.inl (0, 0, 0, 1, 11, [])), (11, Sum.inl (15, 0, 0, 0, 15, [])), (14, Sum.inl (0, 0, 0, 0, 15, [])), (15, Sum.inl (27, 0, 0, 0, 16, []))]
theorem Z_X12_within (l : Launch) : ∀ q ∈ U_X12_within, zTok l O_X12_within F_X12_within q := zU_ok rfl rfl rfl K_X12_within (E_X12_within l)
def B_X12_bits : List (Nat × zC) := []
def O_X12_bits : zO := fun j a S K => match j with
  | _ => False
theorem E_X12_bits (l : Launch) : ∀ q ∈ B_X12_bits, zcok l O_X12_bits F_X12_bits q.1 q.2 := fun _ h => by cases h
def U_X12_bits : List (Nat × zE) := [(0, Sum.inl (0, 0, 0, 0, 1, [])), (1, Sum.inl (5, 1, 0, 0, 2, [])), (2, Sum.inl (0, 0, 0, 0, 3, [])), (3, Sum.inl (5, 2, 0, 0, 4, [])), (4, Sum.inl (2, 2, 0, 0, 5, [])), (5, Sum.inl (0, 0, 0, 18, 7, [])), (7, Sum.inl (16, 1, 10, 0, 24, [])), (10, Sum.inl (2, 1, 0, 0, 11, [])), (11, Sum.inl (2, 0, 0, 0, 12, [])), (12, Sum.inl (2, 2, 0, 0, 13, [])), (13, Sum.inl (9, 7, 0, 0, 14, [])), (14, Sum.inl (0, 0, 0, 1, 15, [])), (15, Sum.inl (9, 3, 0, 0, 16, [])), (16, Sum.inl (9, 0, 0, 0, 17, [])), (17, Sum.inl (5, 1, 0, 0, 18, [])), (18, Sum.inl (8, 2, 0, 1, 21, [])), (21, Sum.inl (15, 0, 0, 0, 4, [])), (24, Sum.inl (2, 1, 0, 0, 25, [])), (25, Sum.inl (27, 0, 0, 0, 26, []))]
theorem Z_X12_bits (l : Launch) : ∀ q ∈ U_X12_bits, zTok l O_X12_bits F_X12_bits q := zU_ok rfl rfl rfl K_X12_bits (E_X12_bits l)
def B_X12_lowest : List (Nat × zC) := []
def O_X12_lowest : zO := fun j a S K => match j with
  | _ => False
theorem E_X12_lowest (l : Launch) : ∀ q ∈ B_X12_lowest, zcok l O_X12_lowest F_X12_lowest q.1 q.2 := fun _ h => by cases h
def U_X12_lowest : List (Nat × zE) := [(0, Sum.inl (0, 0, 0, 0, 1, [])), (1, Sum.inl (5, 1, 0, 0, 2, [])), (2, Sum.inl (2, 0, 0, 0, 3, [])), (3, Sum.inl (2, 1, 0, 0, 4, [])), (4, Sum.inl (9, 7, 0, 0, 5, [])), (5, Sum.inl (0, 0, 0, 1, 6, [])), (6, Sum.inl (9, 3, 0, 0, 7, [])), (7, Sum.inl (17, 0, 10, 0, 16, [])), (10, Sum.inl (8, 1, 0, 1, 13, [])), (13, Sum.inl (15, 0, 0, 0, 2, [])), (16, Sum.inl (2, 1, 0, 0, 17, [])), (17, Sum.inl (27, 0, 0, 0, 18, []))]
theorem Z_X12_lowest (l : Launch) : ∀ q ∈ U_X12_lowest, zTok l O_X12_lowest F_X12_lowest q := zU_ok rfl rfl rfl K_X12_lowest (E_X12_lowest l)
def wp_X12_right (a : List zV) (S : zS) (K : zR2 → zS → Prop) : Prop := match a with
  | [.inr (.inl c), .inl b, .inl w] => (c = 62 ∧ (b = 0 ∨ b = 1)) ∧ (S 62 0 = 0 → b = 0 → w ≠ 0 → K (.inl (some (.inl 0))) (zu S 62 0 w)) ∧ (S 62 0 = 0 → b = 1 → K (.inl (some (.inl 1))) S) ∧ (S 62 0 = 0 ∧ w ≠ 0)
  | _ => False
theorem R_X12_right (l : Launch) (a : List zV) (S : zS) (Q : zR2 → zS → Prop) (h : wp_X12_right a S Q) : zRs l 0 0 0 yX12_right (.code yX12_right cX12_right 3 (some .boolean)) a S Q := by
  unfold wp_X12_right at h
  split at h
  · obtain ⟨⟨rfl, hb⟩, h1, h2, h3, h4⟩ := h
    refine zRs_of 12 (by decide) rfl rfl ?_; refine zwq_ok (Z_X12_right l) rfl [] (fun _ _ _ _ _ _ h => h) 400 (Z_X12_right l) ?_
    refine ⟨fun c => ⟨fun c2 => ⟨fun c3 => absurd c3 h4, fun c3 => ⟨Or.inl rfl, h1 h3 c2 h4⟩⟩, fun c2 => ⟨fun c3 => ⟨Or.inr rfl, h2 h3 (by omega)⟩, fun c3 => absurd h3 c3⟩⟩, fun c => absurd h3 c⟩
  · exact h.elim
def wp_X12_within (a : List zV) (S : zS) (K : zR2 → zS → Prop) : Prop := match a with
  | [.inl v, .inl x, .inl y] => ((x ≤ v ∧ v ≤ y) → K (.inl (some (.inl 1))) S) ∧ (¬ (x ≤ v ∧ v ≤ y) → K (.inl (some (.inl 0))) S)
  | _ => False
theorem R_X12_within (l : Launch) (a : List zV) (S : zS) (Q : zR2 → zS → Prop) (h : wp_X12_within a S Q) : zRs l 0 0 0 yX12_within (.code yX12_within cX12_within 3 (some .boolean)) a S Q := by
  unfold wp_X12_within at h
  split at h
  · obtain ⟨h1, h2⟩ := h
    refine zRs_of 12 (by decide) rfl rfl ?_; refine zwq_ok (Z_X12_within l) rfl [] (fun _ _ _ _ _ _ h => h) 400 (Z_X12_within l) ?_
    refine ⟨fun c => ⟨Or.inl rfl, h2 (by omega)⟩, fun c => ⟨fun c2 => ⟨Or.inl rfl, h2 (by omega)⟩, fun c2 => ⟨Or.inr rfl, h1 (by omega)⟩⟩⟩
  · exact h.elim
def wp_X12_bits (a : List zV) (S : zS) (K : zR2 → zS → Prop) : Prop := match a with
  | [.inl x] => ∃ n : Nat, (x = (n : Int) ∧ n < 262144) ∧ K (.inl (some (.inl ((bl n).length : Int)))) S
  | _ => False
theorem L_X12_bits {l : Launch} {S : zS} {Q : zR2 → zS → Prop} {n : Nat} (hn : n < 262144) (h : Q (.inl (some (.inl ((bl n).length : Int)))) S) (f : Nat) : ∀ j a, j + f = 18 → a + (blS n f j).length = (bl n).length → zGs l 0 0 0 F_X12_bits S 4 [(0, .inl (n : Int)), (1, .inl (a : Int)), (2, .inl (j : Int))] [] Q := by
  have hle := bl_le n
  induction f with
  | zero =>
    intro j a hj ha
    have ha : a + 0 = (bl n).length := ha
    rw [← ha] at h
    refine zwq_ok (Z_X12_bits l) rfl [4] (fun _ _ _ _ _ _ h => h) 400 (Z_X12_bits l) ?_
    exact ⟨fun c => by omega, fun c => h⟩
  | succ f ih =>
    intro j a hj ha
    have e := zbit_n (a := n) (j := j) (by omega) (by omega)
    have hb := bt1_lt n j
    have hj2 : (a : Int) + (bt1 n j : Int) = ((a + bt1 n j : Nat) : Int) := by omega
    have h2 : a + bt1 n j + (blS n f (j + 1)).length = (bl n).length := by
      by_cases hb1 : bt1 n j = 1
      · rw [blS_1 hb1, List.length_cons] at ha; omega
      · rw [blS_0 hb1] at ha; omega
    refine zwq_ok (Z_X12_bits l) rfl [4] (fun _ _ _ _ _ _ h => h) 400 (Z_X12_bits l) ?_
    refine ⟨fun c => ⟨?_, by omega, ?_⟩, fun c => by omega⟩
    · rw [e]; omega
    · rw [e, hj2]; exact ih (j + 1) (a + bt1 n j) (by omega) h2
theorem R_X12_bits (l : Launch) (a : List zV) (S : zS) (Q : zR2 → zS → Prop) (h : wp_X12_bits a S Q) : zRs l 0 0 0 yX12_bits (.code yX12_bits cX12_bits 3 (some .int)) a S Q := by
  unfold wp_X12_bits at h
  split at h
  · obtain ⟨n, ⟨rfl, hn⟩, h⟩ := h
    refine zRs_of 12 (by decide) rfl rfl ?_; refine zwq_ok (Z_X12_bits l) rfl [4] (fun _ _ _ _ _ _ h => h) 400 (Z_X12_bits l) ?_
    exact L_X12_bits hn h 18 0 0 (by omega) (by rw [Nat.zero_add]; rfl)
  · exact h.elim
def wp_X12_lowest (a : List zV) (S : zS) (K : zR2 → zS → Prop) : Prop := match a with
  | [.inl x] => ∃ n p : Nat, (x = (n : Int) ∧ n < 262144 ∧ (bl n)[0]? = some p) ∧ K (.inl (some (.inl (p : Int)))) S
  | _ => False
theorem L_X12_lowest {l : Launch} {S : zS} {Q : zR2 → zS → Prop} {n p : Nat} (hn : n < 262144) (h : Q (.inl (some (.inl (p : Int)))) S) (f : Nat) : ∀ j, j + f = 18 → (blS n f j)[0]? = some p → zGs l 0 0 0 F_X12_lowest S 2 [(0, .inl (n : Int)), (1, .inl (j : Int))] [] Q := by
  induction f with
  | zero => intro j hj ha; cases ha
  | succ f ih =>
    intro j hj ha
    have e := zbit_n (a := n) (j := j) (by omega) (by omega)
    refine zwq_ok (Z_X12_lowest l) rfl [2] (fun _ _ _ _ _ _ h => h) 400 (Z_X12_lowest l) ?_
    refine ⟨fun c => ⟨by omega, ?_⟩, fun c => ?_⟩
    · rw [e] at c
      rw [blS_0 (by omega)] at ha
      exact ih (j + 1) (by omega) ha
    · rw [e] at c
      have := bt1_lt n j
      rw [blS_1 (by omega)] at ha
      cases ha
      exact h
theorem R_X12_lowest (l : Launch) (a : List zV) (S : zS) (Q : zR2 → zS → Prop) (h : wp_X12_lowest a S Q) : zRs l 0 0 0 yX12_lowest (.code yX12_lowest cX12_lowest 2 (some .int)) a S Q := by
  unfold wp_X12_lowest at h
  split at h
  · obtain ⟨n, p, ⟨rfl, hn, hp⟩, h⟩ := h
    refine zRs_of 12 (by decide) rfl rfl ?_; refine zwq_ok (Z_X12_lowest l) rfl [2] (fun _ _ _ _ _ _ h => h) 400 (Z_X12_lowest l) ?_
    exact L_X12_lowest hn h 18 0 (by omega) hp
  · exact h.elim
