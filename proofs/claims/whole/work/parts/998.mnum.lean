/-! the house: the model's numbers; its draft -/
def B_X12_need : List (Nat × zC) := [(1, (0, 0, 0, 0, 0, 0, 12)), (13, (0, 1, 0, 1, 0, 0, 12)), (21, (0, 2, 1, 0, 0, 0, 12))]
def O_X12_need : zO := fun j a S K => match j with
  | 0 => wp_X12_isGood a S K
  | 1 => wp_X12_steps a S K
  | 2 => wp_X12_wrong a S K
  | _ => False
theorem E_X12_need (l : Launch) : ∀ q ∈ B_X12_need, zcok l O_X12_need F_X12_need q.1 q.2 := List.forall_mem_cons.mpr ⟨⟨190, yX12_isGood, cX12_isGood, 1, some .boolean, by decide +kernel, C_12_190, W_X12_isGood, I_X12_isGood, S_X12_isGood, rfl, rfl, R_X12_isGood l⟩, List.forall_mem_cons.mpr ⟨⟨194, yX12_steps, cX12_steps, 2, none, by decide +kernel, C_12_194, W_X12_steps, I_X12_steps, S_X12_steps, rfl, rfl, R_X12_steps l⟩, List.forall_mem_cons.mpr ⟨⟨197, yX12_wrong, cX12_wrong, 2, none, by decide +kernel, C_12_197, W_X12_wrong, I_X12_wrong, S_X12_wrong, rfl, rfl, R_X12_wrong l⟩, fun _ h => by cases h⟩⟩⟩
def U_X12_need : List (Nat × zE) := [(0, Sum.inl (4, 0, 0, 0, 1, [])), (1, Sum.inr (0, 0, 0, 0, 0, 0, 12)), (4, Sum.inl (17, 0, 7, 0, 8, [])), (7, Sum.inl (29, 0, 0, 0, 8, [])), (8, Sum.inl (2, 1, 0, 0, 9, [])), (9, Sum.inl (17, 0, 19, 0, 12, [])), (12, Sum.inl (4, 0, 0, 0, 13, [])), (13, Sum.inr (0, 1, 0, 1, 0, 0, 12)), (16, Sum.inl (15, 0, 0, 0, 24, [])), (19, Sum.inl (4, 0, 0, 0, 20, [])), (20, Sum.inl (0, 0, 0, 1, 21, [])), (21, Sum.inr (0, 2, 1, 0, 0, 0, 12)), (24, Sum.inl (29, 0, 0, 0, 25, []))]
theorem Z_X12_need (l : Launch) : ∀ q ∈ U_X12_need, zTok l O_X12_need F_X12_need q := zU_ok rfl rfl rfl K_X12_need (E_X12_need l)
def wp_X12_need (a : List zV) (S : zS) (K : zR2 → zS → Prop) : Prop := match a with
  | [.inr (.inl c), .inl b] => c = 62 ∧ (S 62 14 ≠ 0 → K (.inl none) S) ∧ (S 62 14 = 0 → b = 0 → K (.inl none) (zu (zu S 62 14 1) 62 15 (S 62 20))) ∧ (S 62 14 = 0 → b ≠ 0 → ∃ (T : zD) (n p : Nat), (rdM S T n ∧ S 62 18 = (p : Int) ∧ p ≤ n) ∧ ∀ S', rdV S' T n p → frY S' S → K (.inl none) S')
  | _ => False
theorem R_X12_need (l : Launch) (a : List zV) (S : zS) (Q : zR2 → zS → Prop) (h : wp_X12_need a S Q) : zRs l 2 0 0 yX12_need (.code yX12_need cX12_need 2 (none)) a S Q := by
  unfold wp_X12_need at h
  split at h
  · obtain ⟨rfl, h1, h2, h3⟩ := h
    refine zRs_of 12 (by decide) rfl rfl ?_; refine zwq_ok (Z_X12_need l) rfl [] (fun _ _ _ _ _ _ h => h) 400 (Z_X12_need l) ?_
    refine ⟨fun z => ⟨Or.inr rfl, fun z2 => absurd z2 (by decide), fun _ => ⟨fun c => ⟨fun _ => h2 z c, fun z2 => absurd z z2⟩, fun c => ?_⟩⟩, fun z => ⟨Or.inl rfl, fun _ => h1 z, fun z2 => absurd rfl z2⟩⟩
    obtain ⟨T, n, p, ⟨a1, a2, a3⟩, h⟩ := h3 z c
    exact ⟨T, n, p, ⟨rfl, a1, a2, a3⟩, h⟩
  · exact h.elim
def B_X12_number : List (Nat × zC) := [(1, (0, 0, 0, 0, 0, 0, 12)), (19, (0, 1, 1, 0, 0, 0, 12)), (51, (0, 1, 1, 0, 0, 0, 12)), (60, (0, 0, 0, 0, 0, 0, 12)), (67, (0, 2, 0, 1, 0, 0, 12))]
def O_X12_number : zO := fun j a S K => match j with
  | 0 => wp_X12_isGood a S K
  | 1 => wp_X12_wrong a S K
  | 2 => wp_X12_steps a S K
  | _ => False
theorem E_X12_number (l : Launch) : ∀ q ∈ B_X12_number, zcok l O_X12_number F_X12_number q.1 q.2 := List.forall_mem_cons.mpr ⟨⟨190, yX12_isGood, cX12_isGood, 1, some .boolean, by decide +kernel, C_12_190, W_X12_isGood, I_X12_isGood, S_X12_isGood, rfl, rfl, R_X12_isGood l⟩, List.forall_mem_cons.mpr ⟨⟨197, yX12_wrong, cX12_wrong, 2, none, by decide +kernel, C_12_197, W_X12_wrong, I_X12_wrong, S_X12_wrong, rfl, rfl, R_X12_wrong l⟩, List.forall_mem_cons.mpr ⟨⟨197, yX12_wrong, cX12_wrong, 2, none, by decide +kernel, C_12_197, W_X12_wrong, I_X12_wrong, S_X12_wrong, rfl, rfl, R_X12_wrong l⟩, List.forall_mem_cons.mpr ⟨⟨190, yX12_isGood, cX12_isGood, 1, some .boolean, by decide +kernel, C_12_190, W_X12_isGood, I_X12_isGood, S_X12_isGood, rfl, rfl, R_X12_isGood l⟩, List.forall_mem_cons.mpr ⟨⟨194, yX12_steps, cX12_steps, 2, none, by decide +kernel, C_12_194, W_X12_steps, I_X12_steps, S_X12_steps, rfl, rfl, R_X12_steps l⟩, fun _ h => by cases h⟩⟩⟩⟩⟩
def U_X12_number : List (Nat × zE) := [(0, Sum.inl (4, 0, 0, 0, 1, [])), (1, Sum.inr (0, 0, 0, 0, 0, 0, 12)), (4, Sum.inl (17, 0, 7, 0, 9, [])), (7, Sum.inl (0, 0, 0, 0, 8, [])), (8, Sum.inl (27, 0, 0, 0, 9, [])), (9, Sum.inl (4, 0, 0, 0, 10, [])), (10, Sum.inl (18, 12, 19, 0, 13, [])), (13, Sum.inl (0, 0, 0, 2, 14, [])), (14, Sum.inl (16, 0, 25, 0, 17, [])), (17, Sum.inl (4, 0, 0, 0, 18, [])), (18, Sum.inl (0, 0, 0, 1, 19, [])), (19, Sum.inr (0, 1, 1, 0, 0, 0, 12)), (22, Sum.inl (15, 0, 0, 0, 54, [])), (25, Sum.inl (4, 0, 0, 0, 26, [])), (26, Sum.inl (18, 12, 21, 0, 29, [])), (29, Sum.inl (0, 0, 0, 3, 30, [])), (30, Sum.inl (16, 2, 49, 0, 33, [])), (33, Sum.inl (4, 0, 0, 0, 34, [])), (34, Sum.inl (18, 12, 22, 0, 37, [])), (37, Sum.inl (2, 1, 0, 0, 38, [])), (38, Sum.inl (16, 1, 49, 0, 41, [])), (41, Sum.inl (4, 0, 0, 0, 42, [])), (42, Sum.inl (18, 12, 22, 0, 45, [])), (45, Sum.inl (2, 2, 0, 0, 46, [])), (46, Sum.inl (16, 2, 49, 0, 54, [])), (49, Sum.inl (4, 0, 0, 0, 50, [])), (50, Sum.inl (0, 0, 0, 2, 51, [])), (51, Sum.inr (0, 1, 1, 0, 0, 0, 12)), (54, Sum.inl (4, 0, 0, 0, 55, [])), (55, Sum.inl (18, 12, 22, 0, 58, [])), (58, Sum.inl (5, 3, 0, 0, 59, [])), (59, Sum.inl (4, 0, 0, 0, 60, [])), (60, Sum.inr (0, 0, 0, 0, 0, 0, 12)), (63, Sum.inl (17, 0, 70, 0, 66, [])), (66, Sum.inl (4, 0, 0, 0, 67, [])), (67, Sum.inr (0, 2, 0, 1, 0, 0, 12)), (70, Sum.inl (2, 3, 0, 0, 71, [])), (71, Sum.inl (27, 0, 0, 0, 72, []))]
theorem Z_X12_number (l : Launch) : ∀ q ∈ U_X12_number, zTok l O_X12_number F_X12_number q := zU_ok rfl rfl rfl K_X12_number (E_X12_number l)
def wp_X12_number (a : List zV) (S : zS) (K : zR2 → zS → Prop) : Prop := match a with
  | [.inr (.inl c), .inl x, .inl y] => c = 62 ∧ (S 62 14 ≠ 0 → K (.inl (some (.inl 0))) S) ∧ (S 62 14 = 0 → ∃ (T : zD) (n p lo hi : Nat), (x = (lo : Int) ∧ y = (hi : Int) ∧ rdM S T n ∧ rdV S T n p ∧ p ≤ n) ∧ (nuF T n p lo hi = 0 → ∀ S', rdV S' T n (tkN T n p) → frY S' S → K (.inl (some (.inl (tkV T n p : Int)))) S') ∧ (nuF T n p lo hi ≠ 0 → K (.inl (some (.inl (S 62 22)))) (zu (zu S 62 14 (nuF T n p lo hi : Int)) 62 15 (tkP T n p : Int))))
  | _ => False
theorem R_X12_number (l : Launch) (a : List zV) (S : zS) (Q : zR2 → zS → Prop) (h : wp_X12_number a S Q) : zRs l 2 0 0 yX12_number (.code yX12_number cX12_number 4 (some .int)) a S Q := by
  unfold wp_X12_number at h
  split at h
  · rename_i c x y
    obtain ⟨rfl, h0, h⟩ := h
    refine zRs_of 12 (by decide) rfl rfl ?_; refine zwq_ok (Z_X12_number l) rfl [54] (fun _ _ _ _ _ _ h => h) 400 (Z_X12_number l) ?_
    refine ⟨fun z => ⟨Or.inr rfl, fun z2 => absurd z2 (by decide), fun _ => ?_⟩, fun z => ⟨Or.inl rfl, fun _ => h0 z, fun z2 => absurd rfl z2⟩⟩
    obtain ⟨T, n, p, lo, hi, ⟨rfl, rfl, hM, hV, hp⟩, h1, h2⟩ := h z
    obtain ⟨v1, v2, v3, v4, v5, v6⟩ := hV
    have tp := tk_le (T := T) hp
    rw [← v3] at h2
    unfold nuF at h1 h2
    have bad : ∀ k : Int, k ≠ 0 → Q (.inl (some (.inl (S 62 22)))) (zu (zu S 62 14 k) 62 15 (S 62 20)) → zGs l 2 0 0 F_X12_number (zu (zu S 62 14 k) 62 15 (S 62 20)) 54 [(0, .inr (.inl 62)), (1, .inl (lo : Int)), (2, .inl (hi : Int))] [] Q := fun k hk h => by
      refine zwq_ok (Z_X12_number l) rfl [54] (fun _ _ _ _ _ _ h => h) 400 (Z_X12_number l) ?_
      exact ⟨fun z => absurd z hk, fun _ => ⟨Or.inl rfl, fun _ => h, fun z => absurd rfl z⟩⟩
    refine ⟨fun c => ⟨fun c2 => ⟨fun _ => bad 2 (by decide) ?_, fun z2 => absurd z z2⟩, fun c2 => ⟨fun c3 => ⟨fun _ => bad 2 (by decide) ?_, fun z2 => absurd z z2⟩, fun c3 => ⟨fun c4 => ⟨fun _ => bad 2 (by decide) ?_, fun z2 => absurd z z2⟩, fun c4 => ?_⟩⟩⟩, fun c => ⟨fun _ => bad 1 (by decide) ?_, fun z2 => absurd z z2⟩⟩
    · rw [if_pos (by omega), if_neg (by omega)] at h2; exact h2 (by decide)
    · have e := v5 (by omega)
      rw [if_pos (by omega), if_neg (by omega)] at h2; exact h2 (by decide)
    · have e := v5 (by omega)
      rw [if_pos (by omega), if_neg (by omega)] at h2; exact h2 (by decide)
    · have e := v5 (by omega)
      rw [if_pos (by omega), if_pos (by omega)] at h1
      have h1 := h1 rfl
      rw [← e] at h1
      refine zwq_ok (Z_X12_number l) rfl [54] (fun _ _ _ _ _ _ h => h) 400 (Z_X12_number l) ?_
      refine ⟨fun _ => ⟨Or.inr rfl, fun z2 => absurd z2 (by decide), fun _ => ?_⟩, fun z2 => absurd z z2⟩
      exact ⟨T, n, tkN T n p, ⟨rfl, hM, v1, tp.2.2.1⟩, h1⟩
    · rw [if_neg (by omega)] at h2; exact h2 (by decide)
  · exact h.elim
def B_X12_amongHere : List (Nat × zC) := [(1, (0, 0, 0, 0, 0, 0, 12)), (19, (0, 1, 1, 0, 0, 0, 12)), (35, (0, 1, 1, 0, 0, 0, 12)), (51, (0, 1, 1, 0, 0, 0, 12)), (55, (0, 0, 0, 0, 0, 0, 12))]
def O_X12_amongHere : zO := fun j a S K => match j with
  | 0 => wp_X12_isGood a S K
  | 1 => wp_X12_wrong a S K
  | _ => False
theorem E_X12_amongHere (l : Launch) : ∀ q ∈ B_X12_amongHere, zcok l O_X12_amongHere F_X12_amongHere q.1 q.2 := List.forall_mem_cons.mpr ⟨⟨190, yX12_isGood, cX12_isGood, 1, some .boolean, by decide +kernel, C_12_190, W_X12_isGood, I_X12_isGood, S_X12_isGood, rfl, rfl, R_X12_isGood l⟩, List.forall_mem_cons.mpr ⟨⟨197, yX12_wrong, cX12_wrong, 2, none, by decide +kernel, C_12_197, W_X12_wrong, I_X12_wrong, S_X12_wrong, rfl, rfl, R_X12_wrong l⟩, List.forall_mem_cons.mpr ⟨⟨197, yX12_wrong, cX12_wrong, 2, none, by decide +kernel, C_12_197, W_X12_wrong, I_X12_wrong, S_X12_wrong, rfl, rfl, R_X12_wrong l⟩, List.forall_mem_cons.mpr ⟨⟨197, yX12_wrong, cX12_wrong, 2, none, by decide +kernel, C_12_197, W_X12_wrong, I_X12_wrong, S_X12_wrong, rfl, rfl, R_X12_wrong l⟩, List.forall_mem_cons.mpr ⟨⟨190, yX12_isGood, cX12_isGood, 1, some .boolean, by decide +kernel, C_12_190, W_X12_isGood, I_X12_isGood, S_X12_isGood, rfl, rfl, R_X12_isGood l⟩, fun _ h => by cases h⟩⟩⟩⟩⟩
def U_X12_amongHere : List (Nat × zE) := [(0, Sum.inl (4, 0, 0, 0, 1, [])), (1, Sum.inr (0, 0, 0, 0, 0, 0, 12)), (4, Sum.inl (17, 0, 7, 0, 9, [])), (7, Sum.inl (0, 0, 0, 0, 8, [])), (8, Sum.inl (27, 0, 0, 0, 9, [])), (9, Sum.inl (4, 0, 0, 0, 10, [])), (10, Sum.inl (18, 12, 19, 0, 13, [])), (13, Sum.inl (0, 0, 0, 2, 14, [])), (14, Sum.inl (16, 0, 25, 0, 17, [])), (17, Sum.inl (4, 0, 0, 0, 18, [])), (18, Sum.inl (0, 0, 0, 1, 19, [])), (19, Sum.inr (0, 1, 1, 0, 0, 0, 12)), (22, Sum.inl (15, 0, 0, 0, 54, [])), (25, Sum.inl (4, 0, 0, 0, 26, [])), (26, Sum.inl (18, 12, 21, 0, 29, [])), (29, Sum.inl (0, 0, 0, 3, 30, [])), (30, Sum.inl (16, 2, 33, 0, 41, [])), (33, Sum.inl (4, 0, 0, 0, 34, [])), (34, Sum.inl (0, 0, 0, 2, 35, [])), (35, Sum.inr (0, 1, 1, 0, 0, 0, 12)), (38, Sum.inl (15, 0, 0, 0, 54, [])), (41, Sum.inl (4, 0, 0, 0, 42, [])), (42, Sum.inl (18, 12, 22, 0, 45, [])), (45, Sum.inl (2, 1, 0, 0, 46, [])), (46, Sum.inl (16, 1, 54, 0, 49, [])), (49, Sum.inl (4, 0, 0, 0, 50, [])), (50, Sum.inl (0, 0, 0, 3, 51, [])), (51, Sum.inr (0, 1, 1, 0, 0, 0, 12)), (54, Sum.inl (4, 0, 0, 0, 55, [])), (55, Sum.inr (0, 0, 0, 0, 0, 0, 12)), (58, Sum.inl (27, 0, 0, 0, 59, []))]
theorem Z_X12_amongHere (l : Launch) : ∀ q ∈ U_X12_amongHere, zTok l O_X12_amongHere F_X12_amongHere q := zU_ok rfl rfl rfl K_X12_amongHere (E_X12_amongHere l)
def wp_X12_amongHere (a : List zV) (S : zS) (K : zR2 → zS → Prop) : Prop := match a with
  | [.inr (.inl c), .inl x] => c = 62 ∧ (S 62 14 ≠ 0 → K (.inl (some (.inl 0))) S) ∧ (S 62 14 = 0 → ∃ (T : zD) (n p many : Nat), (x = (many : Int) ∧ rdV S T n p ∧ p ≤ n) ∧ (toF T n p many = 0 → K (.inl (some (.inl 1))) S) ∧ (toF T n p many ≠ 0 → K (.inl (some (.inl 0))) (zu (zu S 62 14 (toF T n p many : Int)) 62 15 (tkP T n p : Int))))
  | _ => False
theorem R_X12_amongHere (l : Launch) (a : List zV) (S : zS) (Q : zR2 → zS → Prop) (h : wp_X12_amongHere a S Q) : zRs l 1 0 0 yX12_amongHere (.code yX12_amongHere cX12_amongHere 2 (some .boolean)) a S Q := by
  unfold wp_X12_amongHere at h
  split at h
  · rename_i c x
    obtain ⟨rfl, h0, h⟩ := h
    refine zRs_of 12 (by decide) rfl rfl ?_; refine zwq_ok (Z_X12_amongHere l) rfl [54] (fun _ _ _ _ _ _ h => h) 400 (Z_X12_amongHere l) ?_
    refine ⟨fun z => ⟨Or.inr rfl, fun z2 => absurd z2 (by decide), fun _ => ?_⟩, fun z => ⟨Or.inl rfl, fun _ => ⟨Or.inl rfl, h0 z⟩, fun z2 => absurd rfl z2⟩⟩
    obtain ⟨T, n, p, many, ⟨rfl, hV, hp⟩, h1, h2⟩ := h z
    obtain ⟨v1, v2, v3, v4, v5, v6⟩ := hV
    have tp := tk_le (T := T) hp
    rw [← v3] at h2
    unfold toF at h1 h2
    have bad : ∀ k : Int, k ≠ 0 → Q (.inl (some (.inl 0))) (zu (zu S 62 14 k) 62 15 (S 62 20)) → zGs l 1 0 0 F_X12_amongHere (zu (zu S 62 14 k) 62 15 (S 62 20)) 54 [(0, .inr (.inl 62)), (1, .inl (many : Int))] [] Q := fun k hk h => by
      refine zwq_ok (Z_X12_amongHere l) rfl [54] (fun _ _ _ _ _ _ h => h) 400 (Z_X12_amongHere l) ?_
      exact ⟨fun z => absurd z hk, fun _ => ⟨Or.inl rfl, Or.inl rfl, h⟩⟩
    refine ⟨fun c => ⟨fun c2 => ⟨fun _ => bad 2 (by decide) ?_, fun z2 => absurd z z2⟩, fun c2 => ⟨fun c3 => ?_, fun c3 => ⟨fun _ => bad 3 (by decide) ?_, fun z2 => absurd z z2⟩⟩⟩, fun c => ⟨fun _ => bad 1 (by decide) ?_, fun z2 => absurd z z2⟩⟩
    · rw [if_pos (by omega), if_neg (by omega)] at h2; exact h2 (by decide)
    · have e := v5 (by omega)
      rw [if_pos (by omega), if_pos (by omega), if_pos (by omega)] at h1
      have h1 := h1 rfl
      refine zwq_ok (Z_X12_amongHere l) rfl [54] (fun _ _ _ _ _ _ h => h) 400 (Z_X12_amongHere l) ?_
      exact ⟨fun _ => ⟨Or.inr rfl, Or.inr rfl, h1⟩, fun z2 => absurd z z2⟩
    · have e := v5 (by omega)
      rw [if_pos (by omega), if_pos (by omega), if_neg (by omega)] at h2; exact h2 (by decide)
    · rw [if_neg (by omega)] at h2; exact h2 (by decide)
  · exact h.elim
def B_X12_among : List (Nat × zC) := [(2, (0, 0, 1, 1, 0, 0, 12)), (18, (0, 1, 0, 0, 0, 0, 12)), (25, (0, 2, 0, 1, 0, 0, 12))]
def O_X12_among : zO := fun j a S K => match j with
  | 0 => wp_X12_amongHere a S K
  | 1 => wp_X12_isGood a S K
  | 2 => wp_X12_steps a S K
  | _ => False
theorem E_X12_among (l : Launch) : ∀ q ∈ B_X12_among, zcok l O_X12_among F_X12_among q.1 q.2 := List.forall_mem_cons.mpr ⟨⟨200, yX12_amongHere, cX12_amongHere, 2, some .boolean, by decide +kernel, C_12_200, W_X12_amongHere, I_X12_amongHere, S_X12_amongHere, rfl, rfl, R_X12_amongHere l⟩, List.forall_mem_cons.mpr ⟨⟨190, yX12_isGood, cX12_isGood, 1, some .boolean, by decide +kernel, C_12_190, W_X12_isGood, I_X12_isGood, S_X12_isGood, rfl, rfl, R_X12_isGood l⟩, List.forall_mem_cons.mpr ⟨⟨194, yX12_steps, cX12_steps, 2, none, by decide +kernel, C_12_194, W_X12_steps, I_X12_steps, S_X12_steps, rfl, rfl, R_X12_steps l⟩, fun _ h => by cases h⟩⟩⟩
def U_X12_among : List (Nat × zE) := [(0, Sum.inl (4, 0, 0, 0, 1, [])), (1, Sum.inl (2, 1, 0, 0, 2, [])), (2, Sum.inr (0, 0, 1, 1, 0, 0, 12)), (5, Sum.inl (17, 0, 15, 0, 8, [])), (8, Sum.inl (4, 0, 0, 0, 9, [])), (9, Sum.inl (18, 12, 22, 0, 12, [])), (12, Sum.inl (15, 0, 0, 0, 16, [])), (15, Sum.inl (0, 0, 0, 0, 16, [])), (16, Sum.inl (5, 2, 0, 0, 17, [])), (17, Sum.inl (4, 0, 0, 0, 18, [])), (18, Sum.inr (0, 1, 0, 0, 0, 0, 12)), (21, Sum.inl (17, 0, 28, 0, 24, [])), (24, Sum.inl (4, 0, 0, 0, 25, [])), (25, Sum.inr (0, 2, 0, 1, 0, 0, 12)), (28, Sum.inl (2, 2, 0, 0, 29, [])), (29, Sum.inl (27, 0, 0, 0, 30, []))]
theorem Z_X12_among (l : Launch) : ∀ q ∈ U_X12_among, zTok l O_X12_among F_X12_among q := zU_ok rfl rfl rfl K_X12_among (E_X12_among l)
def wp_X12_among (a : List zV) (S : zS) (K : zR2 → zS → Prop) : Prop := match a with
  | [.inr (.inl c), .inl x] => ∃ (T : zD) (n p many : Nat), (c = 62 ∧ S 62 14 = 0 ∧ x = (many : Int) ∧ rdM S T n ∧ rdV S T n p ∧ p ≤ n) ∧ (toF T n p many = 0 → ∀ S', rdV S' T n (tkN T n p) → frY S' S → K (.inl (some (.inl (tkV T n p : Int)))) S') ∧ (toF T n p many ≠ 0 → K (.inl (some (.inl 0))) (zu (zu S 62 14 (toF T n p many : Int)) 62 15 (tkP T n p : Int)))
  | _ => False
theorem R_X12_among (l : Launch) (a : List zV) (S : zS) (Q : zR2 → zS → Prop) (h : wp_X12_among a S Q) : zRs l 2 0 0 yX12_among (.code yX12_among cX12_among 3 (some .int)) a S Q := by
  unfold wp_X12_among at h
  split at h
  · obtain ⟨T, n, p, many, ⟨rfl, z, rfl, hM, hV, hp⟩, h1, h2⟩ := h
    have tp := tk_le (T := T) hp
    refine zRs_of 12 (by decide) rfl rfl ?_; refine zwq_ok (Z_X12_among l) rfl [] (fun _ _ _ _ _ _ h => h) 400 (Z_X12_among l) ?_
    refine ⟨rfl, fun z2 => absurd z z2, fun _ => ⟨T, n, p, many, ⟨rfl, hV, hp⟩, fun c => ?_, fun c => ?_⟩⟩
    · have e := hV.2.2.2.2.1 (toF_0.mp c).1
      have h1 := h1 c
      rw [← e] at h1
      refine ⟨fun z2 => absurd z2 (by decide), fun _ => ⟨fun _ => ⟨Or.inr rfl, fun z2 => absurd z2 (by decide), fun _ => ?_⟩, fun z2 => absurd z z2⟩⟩
      exact ⟨T, n, tkN T n p, ⟨rfl, hM, hV.1, tp.2.2.1⟩, h1⟩
    · refine ⟨fun _ => ⟨fun z2 => ?_, fun _ => ⟨Or.inl rfl, fun _ => h2 c, fun z2 => absurd rfl z2⟩⟩, fun z2 => absurd rfl z2⟩
      have z2 : (toF T n p many : Int) = 0 := z2
      omega
  · exact h.elim
def mP (S : zS) (P : zD) : Prop := (S 62 24 = (P 0 0 : Int)) ∧ (S 62 25 = (P 0 1 : Int)) ∧ (S 62 26 = (P 0 2 : Int)) ∧ (S 62 27 = (P 0 3 : Int)) ∧ (S 62 28 = (P 0 4 : Int)) ∧ (∀ r, r < P 0 0 → S 72 r = (P 1 r : Int)) ∧ (∀ r, r < P 0 0 → S 73 r = (P 2 r : Int) - 1) ∧ (∀ l, l < P 0 1 → S 74 l = (P 3 l : Int)) ∧ (∀ k, k < 2 * P 0 1 → S 75 k = (P 4 k : Int)) ∧ (∀ f, f < P 0 2 → S 76 f = (P 5 f : Int)) ∧ (∀ a, a < 4 → S 77 a = (P 6 a : Int)) ∧ (∀ k, k < 144 → S 78 k = (P 7 k : Int))
theorem mP.rooms {S : zS} {P : zD} (h : mP S P) : S 62 24 = (P 0 0 : Int) := h.1
theorem mP.lodgers {S : zS} {P : zD} (h : mP S P) : S 62 25 = (P 0 1 : Int) := h.2.1
theorem mP.finders {S : zS} {P : zD} (h : mP S P) : S 62 26 = (P 0 2 : Int) := h.2.2.1
theorem mP.mays {S : zS} {P : zD} (h : mP S P) : S 62 27 = (P 0 3 : Int) := h.2.2.2.1
theorem mP.laws {S : zS} {P : zD} (h : mP S P) : S 62 28 = (P 0 4 : Int) := h.2.2.2.2.1
theorem mP.goods {S : zS} {P : zD} (h : mP S P) : ∀ r, r < P 0 0 → S 72 r = (P 1 r : Int) := h.2.2.2.2.2.1
theorem mP.whose {S : zS} {P : zD} (h : mP S P) : ∀ r, r < P 0 0 → S 73 r = (P 2 r : Int) - 1 := h.2.2.2.2.2.2.1
theorem mP.home {S : zS} {P : zD} (h : mP S P) : ∀ l, l < P 0 1 → S 74 l = (P 3 l : Int) := h.2.2.2.2.2.2.2.1
theorem mP.shoes {S : zS} {P : zD} (h : mP S P) : ∀ k, k < 2 * P 0 1 → S 75 k = (P 4 k : Int) := h.2.2.2.2.2.2.2.2.1
theorem mP.begins {S : zS} {P : zD} (h : mP S P) : ∀ f, f < P 0 2 → S 76 f = (P 5 f : Int) := h.2.2.2.2.2.2.2.2.2.1
theorem mP.law {S : zS} {P : zD} (h : mP S P) : ∀ a, a < 4 → S 77 a = (P 6 a : Int) := h.2.2.2.2.2.2.2.2.2.2.1
theorem mP.may {S : zS} {P : zD} (h : mP S P) : ∀ k, k < 144 → S 78 k = (P 7 k : Int) := h.2.2.2.2.2.2.2.2.2.2.2
theorem mP.fr {S S' : zS} {P : zD} (h : mP S P) (h1 : ∀ j, 24 ≤ j → j ≤ 28 → S' 62 j = S 62 j) (hf : ∀ c, 72 ≤ c → c ≤ 78 → S' c = S c) : mP S' P := by
  unfold mP at h ⊢
  rw [h1 24 (by omega) (by omega), h1 25 (by omega) (by omega), h1 26 (by omega) (by omega), h1 27 (by omega) (by omega), h1 28 (by omega) (by omega), hf 72 (by omega) (by omega), hf 73 (by omega) (by omega), hf 74 (by omega) (by omega), hf 75 (by omega) (by omega), hf 76 (by omega) (by omega), hf 77 (by omega) (by omega), hf 78 (by omega) (by omega)]
  exact h
section
variable {S : zS} {P : zD}
theorem mP.aR (h : mP S P) {g : Nat} : mP (zu (zu (zu S 72 (P 0 0) (g : Int)) 73 (P 0 0) (-1)) 62 24 ((P 0 0 : Int) + 1)) (adR P g) := by
  have eN : ∀ j, j ≠ 0 → adR P g 0 j = P 0 j := fun j hj => (zuD_n (Or.inr hj)).trans ((zuD_n (Or.inl (by omega))).trans (zuD_n (Or.inl (by omega))))
  have e1 : ∀ r, adR P g 1 r = if r = P 0 0 then g else P 1 r := fun r => (zuD_n (Or.inl (by omega))).trans ((zuD_n (Or.inl (by omega))).trans zu_if)
  have e2 : ∀ r, adR P g 2 r = if r = P 0 0 then 0 else P 2 r := fun r => (zuD_n (Or.inl (by omega))).trans zu_if
  have eC : ∀ c, 3 ≤ c → adR P g c = P c := fun c hc => funext fun j => (zuD_n (Or.inl (by omega))).trans ((zuD_n (Or.inl (by omega))).trans (zuD_n (Or.inl (by omega))))
  unfold mP
  rw [eN 1 (by omega), eN 2 (by omega), eN 3 (by omega), eN 4 (by omega), eC 3 (by omega), eC 4 (by omega), eC 5 (by omega), eC 6 (by omega), eC 7 (by omega)]
  refine ⟨rfl, h.lodgers, h.finders, h.mays, h.laws, ?_, ?_, h.home, h.shoes, h.begins, h.law, h.may⟩
  · intro r hr
    have hr : r < P 0 0 + 1 := hr
    rw [zuN (by omega), zuN (by omega), zu_i, e1]
    split
    · rfl
    · exact h.goods r (by omega)
  · intro r hr
    have hr : r < P 0 0 + 1 := hr
    rw [zuN (by omega), zu_i, e2]
    split
    · rfl
    · rw [zuN (by omega)]; exact h.whose r (by omega)
theorem mP.aF (h : mP S P) {r : Nat} : mP (zu (zu S 76 (P 0 2) (r : Int)) 62 26 ((P 0 2 : Int) + 1)) (adF P r) := by
  have eN : ∀ j, j ≠ 2 → adF P r 0 j = P 0 j := fun j hj => (zuD_n (Or.inr hj)).trans (zuD_n (Or.inl (by omega)))
  have e5 : ∀ f, adF P r 5 f = if f = P 0 2 then r else P 5 f := fun f => (zuD_n (Or.inl (by omega))).trans zu_if
  have eC : ∀ c, c ≠ 0 → c ≠ 5 → adF P r c = P c := fun c h1 h2 => funext fun j => (zuD_n (Or.inl h1)).trans (zuD_n (Or.inl h2))
  unfold mP
  rw [eN 0 (by omega), eN 1 (by omega), eN 3 (by omega), eN 4 (by omega), eC 1 (by omega) (by omega), eC 2 (by omega) (by omega), eC 3 (by omega) (by omega), eC 4 (by omega) (by omega), eC 6 (by omega) (by omega), eC 7 (by omega) (by omega)]
  refine ⟨h.rooms, h.lodgers, rfl, h.mays, h.laws, h.goods, h.whose, h.home, h.shoes, ?_, h.law, h.may⟩
  intro f hf
  have hf : f < P 0 2 + 1 := hf
  rw [zuN (by omega), zu_i, e5]
  split
  · rfl
  · exact h.begins f (by omega)
theorem mP.aA (h : mP S P) {a s : Nat} {v : Int} (hv : v = (s : Int)) : mP (zu (zu S 62 28 ((P 0 4 ||| 2 ^ a : Nat) : Int)) 77 a v) (adA P a s) := by
  subst hv
  have eN : ∀ j, j ≠ 4 → adA P a s 0 j = P 0 j := fun j hj => (zuD_n (Or.inr hj)).trans (zuD_n (Or.inl (by omega)))
  have e6 : ∀ b, adA P a s 6 b = if b = a then s else P 6 b := fun f => (zuD_n (Or.inl (by omega))).trans zu_if
  have eC : ∀ c, c ≠ 0 → c ≠ 6 → adA P a s c = P c := fun c h1 h2 => funext fun j => (zuD_n (Or.inl h1)).trans (zuD_n (Or.inl h2))
  unfold mP
  rw [eN 0 (by omega), eN 1 (by omega), eN 2 (by omega), eN 3 (by omega), eC 1 (by omega) (by omega), eC 2 (by omega) (by omega), eC 3 (by omega) (by omega), eC 4 (by omega) (by omega), eC 5 (by omega) (by omega), eC 7 (by omega) (by omega)]
  refine ⟨h.rooms, h.lodgers, h.finders, h.mays, rfl, h.goods, h.whose, h.home, h.shoes, h.begins, ?_, h.may⟩
  intro b hb
  rw [zu_i, e6]
  split
  · rfl
  · rw [zuN (by omega)]; exact h.law b hb
theorem mP.aL (h : mP S P) {r e1 e2 : Nat} : mP (zu (zu (zu (zu (zu S 74 (P 0 1) (r : Int)) 73 r (P 0 1 : Int)) 75 (2 * P 0 1) (e1 : Int)) 75 (2 * P 0 1 + 1) (e2 : Int)) 62 25 ((P 0 1 : Int) + 1)) (adL P r e1 e2) := by
  have eN : ∀ j, j ≠ 1 → adL P r e1 e2 0 j = P 0 j := fun j hj => (zuD_n (Or.inr hj)).trans ((zuD_n (Or.inl (by omega))).trans ((zuD_n (Or.inl (by omega))).trans ((zuD_n (Or.inl (by omega))).trans (zuD_n (Or.inl (by omega))))))
  have e2' : ∀ q, adL P r e1 e2 2 q = if q = r then P 0 1 + 1 else P 2 q := fun q => (zuD_n (Or.inl (by omega))).trans ((zuD_n (Or.inl (by omega))).trans ((zuD_n (Or.inl (by omega))).trans (zu_if.trans (by rw [zuD_n (Or.inl (by omega))]))))
  have e3 : ∀ l, adL P r e1 e2 3 l = if l = P 0 1 then r else P 3 l := fun l => (zuD_n (Or.inl (by omega))).trans ((zuD_n (Or.inl (by omega))).trans ((zuD_n (Or.inl (by omega))).trans ((zuD_n (Or.inl (by omega))).trans zu_if)))
  have e4 : ∀ k, adL P r e1 e2 4 k = if k = 2 * P 0 1 + 1 then e2 else if k = 2 * P 0 1 then e1 else P 4 k := fun k => (zuD_n (Or.inl (by omega))).trans (zu_if.trans (by rw [zu_if]; split; rfl; split; rfl; exact (zuD_n (Or.inl (by omega))).trans (zuD_n (Or.inl (by omega)))))
  have eC : ∀ c, c = 1 ∨ 5 ≤ c → adL P r e1 e2 c = P c := fun c hc => funext fun j => (zuD_n (Or.inl (by omega))).trans ((zuD_n (Or.inl (by omega))).trans ((zuD_n (Or.inl (by omega))).trans ((zuD_n (Or.inl (by omega))).trans (zuD_n (Or.inl (by omega))))))
  unfold mP
  rw [eN 0 (by omega), eN 2 (by omega), eN 3 (by omega), eN 4 (by omega), eC 1 (by omega), eC 5 (by omega), eC 6 (by omega), eC 7 (by omega)]
  refine ⟨h.rooms, rfl, h.finders, h.mays, h.laws, h.goods, ?_, ?_, ?_, h.begins, h.law, h.may⟩
  · intro q hq
    rw [zuN (by omega), zuN (by omega), zuN (by omega), zu_i, e2']
    split
    · omega
    · rw [zuN (by omega)]; exact h.whose q hq
  · intro l hl
    have hl : l < P 0 1 + 1 := hl
    rw [zuN (by omega), zuN (by omega), zuN (by omega), zuN (by omega), zu_i, e3]
    split
    · rfl
    · exact h.home l (by omega)
  · intro k hk
    have hk : k < 2 * (P 0 1 + 1) := hk
    rw [zuN (by omega), zu_i, e4]
    split
    · rfl
    · rw [zu_i]
      split
      · rfl
      · rw [zuN (by omega), zuN (by omega)]; exact h.shoes k (by omega)
end
/-- only the model's reader and its draft change -/
def frH (S S0 : zS) : Prop := ∀ c j, c ≠ 1062 → (c < 72 ∨ 78 < c) → (c ≠ 62 ∨ (j ≠ 14 ∧ j ≠ 15 ∧ (j < 18 ∨ 28 < j))) → S c j = S0 c j
theorem frH.r (S : zS) : frH S S := fun _ _ _ _ _ => rfl
theorem frH.Y {S1 S S0 : zS} (h : frH S S0) (hf : frY S1 S) : frH S1 S0 := fun c j h1 h2 h3 => (hf c j h1 (by omega)).trans (h c j h1 h2 h3)
theorem frH.t {S1 S S0 : zS} (h : frH S S0) (hf : frH S1 S) : frH S1 S0 := fun c j h1 h2 h3 => (hf c j h1 h2 h3).trans (h c j h1 h2 h3)
theorem frH.u {S S0 : zS} {c k : Nat} {v : Int} (h : frH S S0) (hc : (72 ≤ c ∧ c ≤ 78) ∨ (c = 62 ∧ (k = 14 ∨ k = 15 ∨ (18 ≤ k ∧ k ≤ 28)))) : frH (zu S c k v) S0 := fun x j h1 h2 h3 => (zuN (by omega)).trans (h x j h1 h2 h3)
def rdJ (S : zS) (T : zD) (n : Nat) (P : zD) (p : Nat) : Prop := (rdM S T n) ∧ (S 62 14 = 0) ∧ (S 62 15 = -1) ∧ (mP S P) ∧ (rdV S T n p) ∧ (p ≤ n) ∧ (pOK P)
theorem rdJ.text {S : zS} {T : zD} {n : Nat} {P : zD} {p : Nat} (h : rdJ S T n P p) : rdM S T n := h.1
theorem rdJ.good {S : zS} {T : zD} {n : Nat} {P : zD} {p : Nat} (h : rdJ S T n P p) : S 62 14 = 0 := h.2.1
theorem rdJ.none {S : zS} {T : zD} {n : Nat} {P : zD} {p : Nat} (h : rdJ S T n P p) : S 62 15 = -1 := h.2.2.1
theorem rdJ.plan {S : zS} {T : zD} {n : Nat} {P : zD} {p : Nat} (h : rdJ S T n P p) : mP S P := h.2.2.2.1
theorem rdJ.tok {S : zS} {T : zD} {n : Nat} {P : zD} {p : Nat} (h : rdJ S T n P p) : rdV S T n p := h.2.2.2.2.1
theorem rdJ.le {S : zS} {T : zD} {n : Nat} {P : zD} {p : Nat} (h : rdJ S T n P p) : p ≤ n := h.2.2.2.2.2.1
theorem rdJ.ok {S : zS} {T : zD} {n : Nat} {P : zD} {p : Nat} (h : rdJ S T n P p) : pOK P := h.2.2.2.2.2.2
def mR (S0 S : zS) (T : zD) (n : Nat) (r : zLn) : Prop := frH S S0 ∧ match r with
  | .inl (k, q) => S 62 14 = (k : Int) ∧ S 62 15 = (q : Int) ∧ S 62 14 ≠ 0
  | .inr (P, p) => rdJ S T n P p
section
variable {S S1 S0 : zS} {T : zD} {n : Nat} {P P1 : zD} {p k : Nat}
theorem rdJ.n7 (I : rdJ S T n P p) : n ≤ 700 := I.text.2.1
theorem rdJ.nx (I : rdJ S T n P p) : tkN T n p ≤ n := (tk_le (T := T) I.le).2.2.1
theorem rdJ.adv (I : rdJ S T n P p) (hS : rdV S1 T n (tkN T n p)) (hf : frY S1 S) : rdJ S1 T n P (tkN T n p) :=
  ⟨I.text.fy hf, (hf 62 14 (by omega) (by omega)).trans I.good, (hf 62 15 (by omega) (by omega)).trans I.none, I.plan.fr (fun j _ _ => hf 62 j (by omega) (by omega)) (fun c _ _ => funext fun j => hf c j (by omega) (by omega)), hS, I.nx, I.ok⟩
theorem rdV.fr (h : rdV S T n p) (h1 : ∀ j, 18 ≤ j → j ≤ 22 → S1 62 j = S 62 j) (h2 : S1 1062 23 = S 1062 23) : rdV S1 T n p := by
  unfold rdV at h ⊢
  rw [h1 18 (by omega) (by omega), h1 19 (by omega) (by omega), h1 20 (by omega) (by omega), h1 21 (by omega) (by omega), h1 22 (by omega) (by omega), h2]
  exact h
theorem rdM.fr (h : rdM S T n) (h1 : S1 62 17 = S 62 17) (h2 : S1 70 = S 70) : rdM S1 T n := by
  unfold rdM at h ⊢
  rw [h1, h2]
  exact h
/-- the draft changes -/
theorem rdJ.pl (I : rdJ S T n P p) (hC : mP S1 P1) (hP : pOK P1) (hf : ∀ c j, c < 72 → (c ≠ 62 ∨ j < 24 ∨ 28 < j) → S1 c j = S c j) (h2 : S1 1062 23 = S 1062 23) : rdJ S1 T n P1 p :=
  ⟨I.text.fr (hf 62 17 (by omega) (by omega)) (funext fun j => hf 70 j (by omega) (by omega)), (hf 62 14 (by omega) (by omega)).trans I.good, (hf 62 15 (by omega) (by omega)).trans I.none, hC, I.tok.fr (fun j _ _ => hf 62 j (by omega) (by omega)) h2, I.le, hP⟩
theorem rdJ.rx (I : rdJ S T n P p) (hf : frH S S0) (hk : k ≠ 0) : mR S0 (zu (zu S 62 14 (k : Int)) 62 15 (tkP T n p : Int)) T n (liE T n k p) :=
  ⟨(hf.u (by omega)).u (by omega), by rw [zuN (by omega), zuE], zuE, by rw [zuN (by omega), zuE]; omega⟩
end
