/-! The model's: who has which shoes, signs, chances -/
theorem mOK.u {S : zS} {D : zD} {k : Nat} {v : Int} (h : mOK S D) (hk : k = 0 ∨ (17 ≤ k ∧ k ≤ 28) ∨ k = 14 ∨ k = 45 ∨ k = 59 ∨ k = 60 ∨ k = 62) : mOK (zu S 62 k v) D := by
  have e : ∀ j, j ≠ k → zu S 62 k v 62 j = S 62 j := fun j hj => by
    show (bif 62 == 62 && j == k then v else S 62 j) = _
    rw [show (j == k) = false by simpa using hj]
    rfl
  unfold mOK at h ⊢
  rw [e 1 (by omega), e 2 (by omega), e 3 (by omega), e 4 (by omega), e 36 (by omega), e 40 (by omega), e 41 (by omega)]
  exact h
def B_X12_has : List (Nat × zC) := []
def O_X12_has : zO := fun j a S K => match j with
  | _ => False
theorem E_X12_has (l : Launch) : ∀ q ∈ B_X12_has, zcok l O_X12_has F_X12_has q.1 q.2 := fun _ h => by cases h
def U_X12_has : List (Nat × zE) := [(0, Sum.inl (4, 0, 0, 0, 1, [])), (1, Sum.inl (18, 12, 8, 0, 4, [])), (4, Sum.inl (0, 0, 0, 2, 5, [])), (5, Sum.inl (2, 1, 0, 0, 6, [])), (6, Sum.inl (9, 2, 0, 0, 7, [])), (7, Sum.inl (2, 2, 0, 0, 8, [])), (8, Sum.inl (9, 0, 0, 0, 9, [])), (9, Sum.inl (0, 0, 0, 1, 10, [])), (10, Sum.inl (9, 1, 0, 0, 11, [])), (11, Sum.inl (20, 0, 0, 0, 12, [])), (12, Sum.inl (5, 3, 0, 0, 13, [])), (13, Sum.inl (0, 0, 0, 0, 14, [])), (14, Sum.inl (5, 4, 0, 0, 16, [])), (16, Sum.inl (2, 4, 0, 0, 18, [])), (18, Sum.inl (4, 0, 0, 0, 19, [])), (19, Sum.inl (18, 12, 36, 0, 22, [])), (22, Sum.inl (16, 1, 25, 0, 93, [])), (25, Sum.inl (4, 0, 0, 0, 26, [])), (26, Sum.inl (18, 12, 37, 0, 29, [])), (29, Sum.inl (0, 0, 0, 3, 30, [])), (30, Sum.inl (2, 4, 0, 0, 32, [])), (32, Sum.inl (9, 2, 0, 0, 33, [])), (33, Sum.inl (0, 0, 0, 2, 34, [])), (34, Sum.inl (9, 0, 0, 0, 35, [])), (35, Sum.inl (20, 0, 0, 0, 36, [])), (36, Sum.inl (2, 2, 0, 0, 37, [])), (37, Sum.inl (16, 0, 43, 0, 40, [])), (40, Sum.inl (15, 0, 0, 0, 87, [])), (43, Sum.inl (2, 3, 0, 0, 44, [])), (44, Sum.inl (4, 0, 0, 0, 45, [])), (45, Sum.inl (18, 12, 37, 0, 48, [])), (48, Sum.inl (0, 0, 0, 3, 49, [])), (49, Sum.inl (2, 4, 0, 0, 51, [])), (51, Sum.inl (9, 2, 0, 0, 52, [])), (52, Sum.inl (20, 0, 0, 0, 53, [])), (53, Sum.inl (2, 1, 0, 0, 54, [])), (54, Sum.inl (16, 0, 57, 0, 61, [])), (57, Sum.inl (0, 0, 0, 1, 58, [])), (58, Sum.inl (15, 0, 0, 0, 62, [])), (61, Sum.inl (0, 0, 0, 0, 62, [])), (62, Sum.inl (9, 1, 0, 0, 63, [])), (63, Sum.inl (5, 3, 0, 0, 64, [])), (64, Sum.inl (2, 3, 0, 0, 65, [])), (65, Sum.inl (4, 0, 0, 0, 66, [])), (66, Sum.inl (18, 12, 37, 0, 69, [])), (69, Sum.inl (0, 0, 0, 3, 70, [])), (70, Sum.inl (2, 4, 0, 0, 72, [])), (72, Sum.inl (9, 2, 0, 0, 73, [])), (73, Sum.inl (0, 0, 0, 1, 74, [])), (74, Sum.inl (9, 0, 0, 0, 75, [])), (75, Sum.inl (20, 0, 0, 0, 76, [])), (76, Sum.inl (2, 1, 0, 0, 77, [])), (77, Sum.inl (16, 0, 80, 0, 84, [])), (80, Sum.inl (0, 0, 0, 1, 81, [])), (81, Sum.inl (15, 0, 0, 0, 85, [])), (84, Sum.inl (0, 0, 0, 0, 85, [])), (85, Sum.inl (9, 0, 0, 0, 86, [])), (86, Sum.inl (5, 3, 0, 0, 87, [])), (87, Sum.inl (8, 4, 0, 1, 90, [])), (90, Sum.inl (15, 0, 0, 0, 16, [])), (93, Sum.inl (2, 3, 0, 0, 94, [])), (94, Sum.inl (27, 0, 0, 0, 95, []))]
theorem Z_X12_has (l : Launch) : ∀ q ∈ U_X12_has, zTok l O_X12_has F_X12_has q := zU_ok rfl rfl rfl K_X12_has (E_X12_has l)
def wp_X12_has (a : List zV) (S : zS) (K : zR2 → zS → Prop) : Prop := match a with
  | [.inr (.inl c), .inl x, .inl y] => ∃ (D : zD) (i s : Nat), (c = 62 ∧ dOK D ∧ mOK S D ∧ x = (i : Int) ∧ y = (s : Int) ∧ i < dL D ∧ (s = 1 ∨ s = 2)) ∧ K (.inl (some (.inl (dU D (2 * i + s - 1) : Int)))) S
  | _ => False
theorem L_X12_has {l : Launch} {S : zS} {Q : zR2 → zS → Prop} {D : zD} {i s : Nat} (hD : dOK D) (hM : mOK S D) (hi : i < dL D) (hs : s = 1 ∨ s = 2) (h : Q (.inl (some (.inl (dU D (2 * i + s - 1) : Int)))) S) (f : Nat) : ∀ k, k + f = dN D → zGs l 0 0 0 F_X12_has S 16 [(0, .inr (.inl 62)), (1, .inl (i : Int)), (2, .inl (s : Int)), (3, .inl ((dE D (2 * i + s - 1) : Int) + lnd D i s k)), (4, .inl (k : Int))] [] Q := by
  have hn := hM.lent
  have h12 := hD.lent
  have hfe := hD.feet (2 * i + s - 1)
  induction f with
  | zero =>
    intro k hk
    have : k = dN D := by omega
    subst this
    rw [hD.shoes i s hi hs] at h
    refine zwq_ok (Z_X12_has l) rfl [16] (fun _ _ _ _ _ _ h => h) 400 (Z_X12_has l) ?_
    exact ⟨fun c => by omega, fun c => h⟩
  | succ f ih =>
    intro k hk
    have l1 := lnd_le D i s k
    have a0 := hM.lending (3 * k) (by omega)
    have a1 := hM.lending (3 * k + 1) (by omega)
    have a2 := hM.lending (3 * k + 2) (by omega)
    have this := ih (k + 1) (by omega)
    have el : lnd D i s (k + 1) = lnd D i s k + lnd1 D i s k := rfl
    rw [el] at this
    unfold lnd1 at this
    refine zwq_ok (Z_X12_has l) rfl [16] (fun _ _ _ _ _ _ h => h) 400 (Z_X12_has l) ?_
    refine ⟨fun c => ⟨by omega, by omega, 3 * k + 2, ⟨by omega, by omega⟩, fun c2 => ⟨by omega, 3 * k, ⟨by omega, by omega⟩, fun c3 => ⟨by omega, by omega, by omega, 3 * k + 1, ⟨by omega, by omega⟩, fun c4 => ⟨by omega, by omega, ?_⟩, fun c4 => ⟨by omega, by omega, ?_⟩⟩, fun c3 => ⟨by omega, by omega, by omega, 3 * k + 1, ⟨by omega, by omega⟩, fun c4 => ⟨by omega, by omega, ?_⟩, fun c4 => ⟨by omega, by omega, ?_⟩⟩⟩, fun c2 => ⟨by omega, ?_⟩⟩, fun c => by omega⟩
    · rw [if_pos (by omega), if_pos (by omega), if_pos (by omega), show (dE D (2 * i + s - 1) : Int) + (lnd D i s k + (1 - 1)) = (dE D (2 * i + s - 1) : Int) + lnd D i s k - 1 + 1 by omega] at this
      exact this
    · rw [if_pos (by omega), if_neg (by omega), if_pos (by omega), show (dE D (2 * i + s - 1) : Int) + (lnd D i s k + (0 - 1)) = (dE D (2 * i + s - 1) : Int) + lnd D i s k - 1 + 0 by omega] at this
      exact this
    · rw [if_pos (by omega), if_pos (by omega), if_neg (by omega), show (dE D (2 * i + s - 1) : Int) + (lnd D i s k + (1 - 0)) = (dE D (2 * i + s - 1) : Int) + lnd D i s k - 0 + 1 by omega] at this
      exact this
    · rw [if_pos (by omega), if_neg (by omega), if_neg (by omega), show (dE D (2 * i + s - 1) : Int) + (lnd D i s k + (0 - 0)) = (dE D (2 * i + s - 1) : Int) + lnd D i s k - 0 + 0 by omega] at this
      exact this
    · rw [if_neg (by omega), show (dE D (2 * i + s - 1) : Int) + (lnd D i s k + 0) = (dE D (2 * i + s - 1) : Int) + lnd D i s k by omega] at this
      exact this
theorem R_X12_has (l : Launch) (a : List zV) (S : zS) (Q : zR2 → zS → Prop) (h : wp_X12_has a S Q) : zRs l 0 0 0 yX12_has (.code yX12_has cX12_has 5 (some .int)) a S Q := by
  unfold wp_X12_has at h
  split at h
  · obtain ⟨D, i, s, ⟨rfl, hD, hM, rfl, rfl, hi, hs⟩, h⟩ := h
    have h6 := hD.lodgers
    have e := hM.feet (2 * i + s - 1) (by omega)
    refine zRs_of 12 (by decide) rfl rfl ?_; refine zwq_ok (Z_X12_has l) rfl [16] (fun _ _ _ _ _ _ h => h) 400 (Z_X12_has l) ?_
    refine ⟨by omega, by omega, by omega, 2 * i + s - 1, ⟨by omega, by omega⟩, ?_⟩
    have := L_X12_has (l := l) hD hM hi hs h (dN D) 0 (by omega)
    rw [show (dE D (2 * i + s - 1) : Int) + lnd D i s 0 = S 66 (2 * i + s - 1) by rw [e]; show _ + 0 = _; omega] at this
    exact this
  · exact h.elim
def B_X12_both : List (Nat × zC) := [(3, (0, 0, 2, 0, 0, 0, 12)), (17, (0, 0, 2, 0, 0, 0, 12))]
def O_X12_both : zO := fun j a S K => match j with
  | 0 => wp_X12_has a S K
  | _ => False
theorem E_X12_both (l : Launch) : ∀ q ∈ B_X12_both, zcok l O_X12_both F_X12_both q.1 q.2 := List.forall_mem_cons.mpr ⟨⟨293, yX12_has, cX12_has, 5, some .int, by decide +kernel, C_12_293, W_X12_has, I_X12_has, S_X12_has, rfl, rfl, R_X12_has l⟩, List.forall_mem_cons.mpr ⟨⟨293, yX12_has, cX12_has, 5, some .int, by decide +kernel, C_12_293, W_X12_has, I_X12_has, S_X12_has, rfl, rfl, R_X12_has l⟩, fun _ h => by cases h⟩⟩
def U_X12_both : List (Nat × zE) := [(0, Sum.inl (4, 0, 0, 0, 1, [])), (1, Sum.inl (2, 1, 0, 0, 2, [])), (2, Sum.inl (0, 0, 0, 1, 3, [])), (3, Sum.inr (0, 0, 2, 0, 0, 0, 12)), (6, Sum.inl (17, 2, 9, 0, 13, [])), (9, Sum.inl (0, 0, 0, 1, 10, [])), (10, Sum.inl (15, 0, 0, 0, 14, [])), (13, Sum.inl (0, 0, 0, 0, 14, [])), (14, Sum.inl (4, 0, 0, 0, 15, [])), (15, Sum.inl (2, 1, 0, 0, 16, [])), (16, Sum.inl (0, 0, 0, 2, 17, [])), (17, Sum.inr (0, 0, 2, 0, 0, 0, 12)), (20, Sum.inl (17, 2, 23, 0, 27, [])), (23, Sum.inl (0, 0, 0, 2, 24, [])), (24, Sum.inl (15, 0, 0, 0, 28, [])), (27, Sum.inl (0, 0, 0, 0, 28, [])), (28, Sum.inl (9, 4, 0, 0, 29, [])), (29, Sum.inl (27, 0, 0, 0, 30, []))]
theorem Z_X12_both (l : Launch) : ∀ q ∈ U_X12_both, zTok l O_X12_both F_X12_both q := zU_ok rfl rfl rfl K_X12_both (E_X12_both l)
def wp_X12_both (a : List zV) (S : zS) (K : zR2 → zS → Prop) : Prop := match a with
  | [.inr (.inl c), .inl x] => ∃ (D : zD) (i : Nat), (c = 62 ∧ dOK D ∧ mOK S D ∧ x = (i : Int) ∧ i < dL D) ∧ K (.inl (some (.inl (kinD D i : Int)))) S
  | _ => False
theorem R_X12_both (l : Launch) (a : List zV) (S : zS) (Q : zR2 → zS → Prop) (h : wp_X12_both a S Q) : zRs l 1 0 0 yX12_both (.code yX12_both cX12_both 2 (some .int)) a S Q := by
  unfold wp_X12_both at h
  split at h
  · obtain ⟨D, i, ⟨rfl, hD, hM, rfl, hi⟩, h⟩ := h
    unfold kinD at h
    refine zRs_of 12 (by decide) rfl rfl ?_; refine zwq_ok (Z_X12_both l) rfl [] (fun _ _ _ _ _ _ h => h) 400 (Z_X12_both l) ?_
    refine ⟨D, i, 1, ⟨rfl, hD, hM, rfl, rfl, hi, Or.inl rfl⟩, fun c => ⟨D, i, 2, ⟨rfl, hD, hM, rfl, rfl, hi, Or.inr rfl⟩, fun c2 => ?_, fun c2 => ?_⟩, fun c => ⟨D, i, 2, ⟨rfl, hD, hM, rfl, rfl, hi, Or.inr rfl⟩, fun c2 => ?_, fun c2 => ?_⟩⟩
    all_goals (have e1 : 2 * i + 1 - 1 = 2 * i := by omega)
    all_goals (have e2 : 2 * i + 2 - 1 = 2 * i + 1 := by omega)
    all_goals (rw [e1] at c; rw [e2] at c2)
    · rw [if_pos (by omega), if_pos (by omega)] at h; exact h
    · rw [if_pos (by omega), if_neg (by omega)] at h; exact h
    · rw [if_neg (by omega), if_pos (by omega)] at h; exact h
    · rw [if_neg (by omega), if_neg (by omega)] at h; exact h
  · exact h.elim
def B_X12_lawOf : List (Nat × zC) := []
def O_X12_lawOf : zO := fun j a S K => match j with
  | _ => False
theorem E_X12_lawOf (l : Launch) : ∀ q ∈ B_X12_lawOf, zcok l O_X12_lawOf F_X12_lawOf q.1 q.2 := fun _ h => by cases h
def U_X12_lawOf : List (Nat × zE) := [(0, Sum.inl (4, 0, 0, 0, 1, [])), (1, Sum.inl (18, 12, 10, 0, 4, [])), (4, Sum.inl (2, 1, 0, 0, 5, [])), (5, Sum.inl (0, 0, 0, 4, 6, [])), (6, Sum.inl (16, 1, 9, 0, 13, [])), (9, Sum.inl (2, 1, 0, 0, 10, [])), (10, Sum.inl (15, 0, 0, 0, 14, [])), (13, Sum.inl (0, 0, 0, 0, 14, [])), (14, Sum.inl (20, 0, 0, 0, 15, [])), (15, Sum.inl (27, 0, 0, 0, 16, []))]
theorem Z_X12_lawOf (l : Launch) : ∀ q ∈ U_X12_lawOf, zTok l O_X12_lawOf F_X12_lawOf q := zU_ok rfl rfl rfl K_X12_lawOf (E_X12_lawOf l)
def wp_X12_lawOf (a : List zV) (S : zS) (K : zR2 → zS → Prop) : Prop := match a with
  | [.inr (.inl c), .inl x] => ∃ (D : zD) (k : Nat), (c = 62 ∧ mOK S D ∧ x = (k : Int)) ∧ K (.inl (some (.inl (lawD D k : Int)))) S
  | _ => False
theorem R_X12_lawOf (l : Launch) (a : List zV) (S : zS) (Q : zR2 → zS → Prop) (h : wp_X12_lawOf a S Q) : zRs l 0 0 0 yX12_lawOf (.code yX12_lawOf cX12_lawOf 2 (some .int)) a S Q := by
  unfold wp_X12_lawOf at h
  split at h
  · obtain ⟨D, k, ⟨rfl, hM, rfl⟩, h⟩ := h
    unfold lawD at h
    refine zRs_of 12 (by decide) rfl rfl ?_; refine zwq_ok (Z_X12_lawOf l) rfl [] (fun _ _ _ _ _ _ h => h) 400 (Z_X12_lawOf l) ?_
    refine ⟨fun c => ⟨k, ⟨rfl, by omega⟩, ?_⟩, fun c => ⟨0, ⟨rfl, by omega⟩, ?_⟩⟩
    · rw [if_pos (by omega), ← hM.law k (by omega)] at h; exact h
    · rw [if_neg (by omega), ← hM.law 0 (by omega)] at h; exact h
  · exact h.elim
def B_X12_signOf : List (Nat × zC) := [(2, (0, 0, 1, 0, 0, 0, 12)), (7, (0, 1, 1, 1, 0, 0, 12))]
def O_X12_signOf : zO := fun j a S K => match j with
  | 0 => wp_X12_lawOf a S K
  | 1 => wp_X12_both a S K
  | _ => False
theorem E_X12_signOf (l : Launch) : ∀ q ∈ B_X12_signOf, zcok l O_X12_signOf F_X12_signOf q.1 q.2 := List.forall_mem_cons.mpr ⟨⟨296, yX12_lawOf, cX12_lawOf, 2, some .int, by decide +kernel, C_12_296, W_X12_lawOf, I_X12_lawOf, S_X12_lawOf, rfl, rfl, R_X12_lawOf l⟩, List.forall_mem_cons.mpr ⟨⟨299, yX12_both, cX12_both, 2, some .int, by decide +kernel, C_12_299, W_X12_both, I_X12_both, S_X12_both, rfl, rfl, R_X12_both l⟩, fun _ h => by cases h⟩⟩
def U_X12_signOf : List (Nat × zE) := [(0, Sum.inl (4, 0, 0, 0, 1, [])), (1, Sum.inl (2, 2, 0, 0, 2, [])), (2, Sum.inr (0, 0, 1, 0, 0, 0, 12)), (5, Sum.inl (4, 0, 0, 0, 6, [])), (6, Sum.inl (2, 1, 0, 0, 7, [])), (7, Sum.inr (0, 1, 1, 1, 0, 0, 12)), (10, Sum.inl (9, 3, 0, 0, 11, [])), (11, Sum.inl (27, 0, 0, 0, 12, []))]
theorem Z_X12_signOf (l : Launch) : ∀ q ∈ U_X12_signOf, zTok l O_X12_signOf F_X12_signOf q := zU_ok rfl rfl rfl K_X12_signOf (E_X12_signOf l)
def wp_X12_signOf (a : List zV) (S : zS) (K : zR2 → zS → Prop) : Prop := match a with
  | [.inr (.inl c), .inl x, .inl y] => ∃ (D : zD) (i k : Nat), (c = 62 ∧ dOK D ∧ mOK S D ∧ x = (i : Int) ∧ y = (k : Int) ∧ i < dL D) ∧ K (.inl (some (.inl (sigD D i k : Int)))) S
  | _ => False
theorem R_X12_signOf (l : Launch) (a : List zV) (S : zS) (Q : zR2 → zS → Prop) (h : wp_X12_signOf a S Q) : zRs l 2 0 0 yX12_signOf (.code yX12_signOf cX12_signOf 3 (some .int)) a S Q := by
  unfold wp_X12_signOf at h
  split at h
  · obtain ⟨D, i, k, ⟨rfl, hD, hM, rfl, rfl, hi⟩, h⟩ := h
    rw [← sig_ok hD] at h
    refine zRs_of 12 (by decide) rfl rfl ?_; refine zwq_ok (Z_X12_signOf l) rfl [] (fun _ _ _ _ _ _ h => h) 400 (Z_X12_signOf l) ?_
    exact ⟨D, k, ⟨rfl, hM, rfl⟩, D, i, ⟨rfl, hD, hM, rfl, hi⟩, h⟩
  · exact h.elim
def B_X12_toldOf : List (Nat × zC) := []
def O_X12_toldOf : zO := fun j a S K => match j with
  | _ => False
theorem E_X12_toldOf (l : Launch) : ∀ q ∈ B_X12_toldOf, zcok l O_X12_toldOf F_X12_toldOf q.1 q.2 := fun _ h => by cases h
def U_X12_toldOf : List (Nat × zE) := [(0, Sum.inl (2, 0, 0, 0, 1, [])), (1, Sum.inl (0, 0, 0, 4, 2, [])), (2, Sum.inl (16, 1, 5, 0, 9, [])), (5, Sum.inl (2, 0, 0, 0, 6, [])), (6, Sum.inl (15, 0, 0, 0, 13, [])), (9, Sum.inl (2, 0, 0, 0, 10, [])), (10, Sum.inl (0, 0, 0, 6, 12, [])), (12, Sum.inl (9, 0, 0, 0, 13, [])), (13, Sum.inl (27, 0, 0, 0, 14, []))]
theorem Z_X12_toldOf (l : Launch) : ∀ q ∈ U_X12_toldOf, zTok l O_X12_toldOf F_X12_toldOf q := zU_ok rfl rfl rfl K_X12_toldOf (E_X12_toldOf l)
def wp_X12_toldOf (a : List zV) (S : zS) (K : zR2 → zS → Prop) : Prop := match a with
  | [.inl x] => ∃ k : Nat, (x = (k : Int) ∧ k < 100) ∧ K (.inl (some (.inl (tol k : Int)))) S
  | _ => False
theorem R_X12_toldOf (l : Launch) (a : List zV) (S : zS) (Q : zR2 → zS → Prop) (h : wp_X12_toldOf a S Q) : zRs l 0 0 0 yX12_toldOf (.code yX12_toldOf cX12_toldOf 1 (some .int)) a S Q := by
  unfold wp_X12_toldOf at h
  split at h
  · obtain ⟨k, ⟨rfl, hk⟩, h⟩ := h
    refine zRs_of 12 (by decide) rfl rfl ?_; refine zwq_ok (Z_X12_toldOf l) rfl [] (fun _ _ _ _ _ _ h => h) 400 (Z_X12_toldOf l) ?_
    refine ⟨fun c => ?_, fun c => ⟨by omega, ?_⟩⟩
    · rw [tol_1 (by omega)] at h; exact h
    · rw [tol_2 (by omega)] at h; exact h
  · exact h.elim
def B_X12_signAt : List (Nat × zC) := [(37, (0, 0, 2, 2, 0, 0, 12))]
def O_X12_signAt : zO := fun j a S K => match j with
  | 0 => wp_X12_signOf a S K
  | _ => False
theorem E_X12_signAt (l : Launch) : ∀ q ∈ B_X12_signAt, zcok l O_X12_signAt F_X12_signAt q.1 q.2 := List.forall_mem_cons.mpr ⟨⟨314, yX12_signOf, cX12_signOf, 3, some .int, by decide +kernel, C_12_314, W_X12_signOf, I_X12_signOf, S_X12_signOf, rfl, rfl, R_X12_signOf l⟩, fun _ h => by cases h⟩
def U_X12_signAt : List (Nat × zE) := [(0, Sum.inl (4, 0, 0, 0, 1, [])), (1, Sum.inl (18, 12, 6, 0, 4, [])), (4, Sum.inl (2, 1, 0, 0, 5, [])), (5, Sum.inl (20, 0, 0, 0, 6, [])), (6, Sum.inl (0, 0, 0, (-1), 7, [])), (7, Sum.inl (16, 0, 10, 0, 14, [])), (10, Sum.inl (0, 0, 0, 3, 11, [])), (11, Sum.inl (15, 0, 0, 0, 40, [])), (14, Sum.inl (4, 0, 0, 0, 15, [])), (15, Sum.inl (4, 0, 0, 0, 16, [])), (16, Sum.inl (18, 12, 6, 0, 19, [])), (19, Sum.inl (2, 1, 0, 0, 20, [])), (20, Sum.inl (20, 0, 0, 0, 21, [])), (21, Sum.inl (4, 0, 0, 0, 22, [])), (22, Sum.inl (18, 12, 38, 0, 25, [])), (25, Sum.inl (0, 0, 0, 24, 27, [])), (27, Sum.inl (4, 0, 0, 0, 28, [])), (28, Sum.inl (18, 12, 6, 0, 31, [])), (31, Sum.inl (2, 1, 0, 0, 32, [])), (32, Sum.inl (20, 0, 0, 0, 33, [])), (33, Sum.inl (9, 2, 0, 0, 34, [])), (34, Sum.inl (2, 2, 0, 0, 35, [])), (35, Sum.inl (9, 0, 0, 0, 36, [])), (36, Sum.inl (20, 0, 0, 0, 37, [])), (37, Sum.inr (0, 0, 2, 2, 0, 0, 12)), (40, Sum.inl (27, 0, 0, 0, 41, []))]
theorem Z_X12_signAt (l : Launch) : ∀ q ∈ U_X12_signAt, zTok l O_X12_signAt F_X12_signAt q := zU_ok rfl rfl rfl K_X12_signAt (E_X12_signAt l)
def wp_X12_signAt (a : List zV) (S : zS) (K : zR2 → zS → Prop) : Prop := match a with
  | [.inr (.inl c), .inl x, .inl y] => ∃ (D : zD) (r t : Nat), (c = 62 ∧ dOK D ∧ mOK S D ∧ x = (r : Int) ∧ y = (t : Int) ∧ r < dR D ∧ t < 24) ∧ K (.inl (some (.inl (sgaD D r t : Int)))) S
  | _ => False
theorem R_X12_signAt (l : Launch) (a : List zV) (S : zS) (Q : zR2 → zS → Prop) (h : wp_X12_signAt a S Q) : zRs l 3 0 0 yX12_signAt (.code yX12_signAt cX12_signAt 3 (some .int)) a S Q := by
  unfold wp_X12_signAt at h
  split at h
  · obtain ⟨D, r, t, ⟨rfl, hD, hM, rfl, rfl, hr, ht⟩, h⟩ := h
    have h8 := hD.rooms
    have h6 := hD.lodgers
    have hw := hM.whose r hr
    have hw2 := hD.whose r hr
    unfold sgaD at h
    refine zRs_of 12 (by decide) rfl rfl ?_; refine zwq_ok (Z_X12_signAt l) rfl [] (fun _ _ _ _ _ _ h => h) 400 (Z_X12_signAt l) ?_
    refine ⟨r, ⟨rfl, by omega⟩, fun c => ?_, fun c => ?_⟩
    · rw [if_pos (by omega)] at h; exact h
    · rw [if_neg (by omega)] at h
      have hd := hM.day (24 * (dW D r - 1) + t) (by omega)
      refine ⟨r, ⟨rfl, by omega⟩, r, ⟨rfl, by omega⟩, by omega, by omega, 24 * (dW D r - 1) + t, ⟨by omega, by omega⟩, D, dW D r - 1, dD D (24 * (dW D r - 1) + t), ⟨rfl, hD, hM, by omega, hd, by omega⟩, h⟩
  · exact h.elim
def B_X12_chanceOf : List (Nat × zC) := [(58, (0, 0, 2, 2, 0, 0, 12)), (92, (1, 1, 1, 0, 0, 0, 0))]
def O_X12_chanceOf : zO := fun j a S K => match j with
  | 0 => wp_X12_signOf a S K
  | 1 => wp_X12_bits a S K
  | _ => False
theorem E_X12_chanceOf (l : Launch) : ∀ q ∈ B_X12_chanceOf, zcok l O_X12_chanceOf F_X12_chanceOf q.1 q.2 := List.forall_mem_cons.mpr ⟨⟨314, yX12_signOf, cX12_signOf, 3, some .int, by decide +kernel, C_12_314, W_X12_signOf, I_X12_signOf, S_X12_signOf, rfl, rfl, R_X12_signOf l⟩, List.forall_mem_cons.mpr ⟨⟨308, yX12_bits, cX12_bits, 3, some .int, by decide +kernel, C_12_308, W_X12_bits, I_X12_bits, rfl, R_X12_bits l⟩, fun _ h => by cases h⟩⟩
def U_X12_chanceOf : List (Nat × zE) := [(0, Sum.inl (4, 0, 0, 0, 1, [])), (1, Sum.inl (18, 12, 6, 0, 4, [])), (4, Sum.inl (2, 1, 0, 0, 5, [])), (5, Sum.inl (20, 0, 0, 0, 6, [])), (6, Sum.inl (0, 0, 0, (-1), 7, [])), (7, Sum.inl (16, 0, 10, 0, 12, [])), (10, Sum.inl (0, 0, 0, 0, 11, [])), (11, Sum.inl (27, 0, 0, 0, 12, [])), (12, Sum.inl (4, 0, 0, 0, 13, [])), (13, Sum.inl (18, 12, 6, 0, 16, [])), (16, Sum.inl (2, 1, 0, 0, 17, [])), (17, Sum.inl (20, 0, 0, 0, 18, [])), (18, Sum.inl (5, 3, 0, 0, 19, [])), (19, Sum.inl (0, 0, 0, 0, 20, [])), (20, Sum.inl (5, 4, 0, 0, 22, [])), (22, Sum.inl (0, 0, 0, 0, 23, [])), (23, Sum.inl (5, 5, 0, 0, 25, [])), (25, Sum.inl (2, 5, 0, 0, 27, [])), (27, Sum.inl (0, 0, 0, 18, 29, [])), (29, Sum.inl (16, 1, 32, 0, 78, [])), (32, Sum.inl (2, 4, 0, 0, 34, [])), (34, Sum.inl (4, 0, 0, 0, 35, [])), (35, Sum.inl (18, 12, 11, 0, 38, [])), (38, Sum.inl (0, 0, 0, 24, 40, [])), (40, Sum.inl (2, 3, 0, 0, 41, [])), (41, Sum.inl (9, 2, 0, 0, 42, [])), (42, Sum.inl (2, 2, 0, 0, 43, [])), (43, Sum.inl (9, 0, 0, 0, 44, [])), (44, Sum.inl (20, 0, 0, 0, 45, [])), (45, Sum.inl (2, 5, 0, 0, 47, [])), (47, Sum.inl (9, 7, 0, 0, 48, [])), (48, Sum.inl (0, 0, 0, 1, 49, [])), (49, Sum.inl (9, 3, 0, 0, 50, [])), (50, Sum.inl (0, 0, 0, 1, 51, [])), (51, Sum.inl (16, 0, 54, 0, 68, [])), (54, Sum.inl (4, 0, 0, 0, 55, [])), (55, Sum.inl (2, 3, 0, 0, 56, [])), (56, Sum.inl (2, 5, 0, 0, 58, [])), (58, Sum.inr (0, 0, 2, 2, 0, 0, 12)), (61, Sum.inl (17, 0, 64, 0, 68, [])), (64, Sum.inl (0, 0, 0, 1, 65, [])), (65, Sum.inl (15, 0, 0, 0, 69, [])), (68, Sum.inl (0, 0, 0, 0, 69, [])), (69, Sum.inl (9, 0, 0, 0, 70, [])), (70, Sum.inl (5, 4, 0, 0, 72, [])), (72, Sum.inl (8, 5, 0, 1, 75, [])), (75, Sum.inl (15, 0, 0, 0, 25, [])), (78, Sum.inl (0, 0, 0, 27720, 81, [])), (81, Sum.inl (4, 0, 0, 0, 82, [])), (82, Sum.inl (18, 12, 11, 0, 85, [])), (85, Sum.inl (0, 0, 0, 24, 87, [])), (87, Sum.inl (2, 3, 0, 0, 88, [])), (88, Sum.inl (9, 2, 0, 0, 89, [])), (89, Sum.inl (2, 2, 0, 0, 90, [])), (90, Sum.inl (9, 0, 0, 0, 91, [])), (91, Sum.inl (20, 0, 0, 0, 92, [])), (92, Sum.inr (1, 1, 1, 0, 0, 0, 0)), (95, Sum.inl (9, 9, 0, 0, 96, [])), (96, Sum.inl (2, 4, 0, 0, 98, [])), (98, Sum.inl (9, 2, 0, 0, 99, [])), (99, Sum.inl (27, 0, 0, 0, 100, []))]
theorem Z_X12_chanceOf (l : Launch) : ∀ q ∈ U_X12_chanceOf, zTok l O_X12_chanceOf F_X12_chanceOf q := zU_ok rfl rfl rfl K_X12_chanceOf (E_X12_chanceOf l)
def cntF (f : Nat → Bool) : Nat → Nat
  | 0 => 0
  | j + 1 => cntF f j + bti (f j)
theorem bl_msk (f : Nat → Bool) (g : Nat → Bool) : ∀ k j, j + k = 18 → (∀ a, a < 18 → (f a = true ↔ bt1 (msk g 12) a = 1)) → cntF f j + (blS (msk g 12) k j).length = cntF f 18 := by
  intro k
  induction k with
  | zero => intro j hj _; have : j = 18 := by omega
            subst this; rfl
  | succ k ih =>
    intro j hj hf
    have := ih (j + 1) (by omega) hf
    have e : cntF f (j + 1) = cntF f j + bti (f j) := rfl
    by_cases hb : bt1 (msk g 12) j = 1
    · rw [blS_1 hb, List.length_cons]
      rw [e, (hf j (by omega)).mpr hb] at this
      have : cntF f j + 1 + _ = _ := this
      omega
    · rw [blS_0 hb]
      have hfj : f j = false := by
        cases hz : f j
        · rfl
        · exact absurd ((hf j (by omega)).mp hz) hb
      rw [e, hfj] at this
      exact this
/-- how many doings leave no shoe -/
theorem gm_cnt {D : zD} (hm : ∀ k, k < 24 * dL D → dM D k < 4096) {i k : Nat} (hk : k < 24 * dL D) (s : Nat) : cntF (gmF D i k s) 18 = (bl (gmD D i k s)).length := by
  have := bl_msk (gmF D i k s) (gmF D i k s) 18 0 (by omega) (fun a ha => by
    rw [bt1_msk]
    by_cases c : a < 12
    · by_cases c2 : gmF D i k s a = true
      · rw [if_pos ⟨c, c2⟩]; exact ⟨fun _ => rfl, fun _ => c2⟩
      · rw [if_neg (fun z => c2 z.2)]; exact ⟨fun z => absurd z c2, fun z => absurd z (by decide)⟩
    · rw [if_neg (fun z => c z.1)]
      have hz : gmF D i k s a = false := by
        unfold gmF
        rw [bt1_hi (k := 12) (hm k hk) (by omega)]
        rfl
      rw [hz]
      exact ⟨fun z => absurd z (by decide), fun z => absurd z (by decide)⟩)
  rw [← this]
  exact Nat.zero_add _
theorem div_27720 : ∀ n, n < 13 → 1 ≤ n → 27720 % n = 0 := by decide
theorem cha_mul {n g : Nat} (h1 : 1 ≤ n) (h2 : n ≤ 12) : 27720 / n * g = 27720 * g / n := by
  have h := div_27720 n (by omega) h1
  obtain ⟨q, hq⟩ := Nat.dvd_of_mod_eq_zero h
  rw [hq, Nat.mul_div_cancel_left _ (by omega), Nat.mul_assoc, Nat.mul_div_cancel_left _ (by omega)]
def wp_X12_chanceOf (a : List zV) (S : zS) (K : zR2 → zS → Prop) : Prop := match a with
  | [.inr (.inl c), .inl x, .inl y] => ∃ (D : zD) (r t : Nat), (c = 62 ∧ dOK D ∧ mOK S D ∧ x = (r : Int) ∧ y = (t : Int) ∧ r < dR D ∧ t < 24) ∧ K (.inl (some (.inl (chaD D r t : Int)))) S
  | _ => False
theorem cntF_le (f : Nat → Bool) (j : Nat) : cntF f j ≤ j := by
  induction j with
  | zero => exact Nat.le_refl 0
  | succ j ih =>
    have := bti_le (f j)
    show cntF f j + bti (f j) ≤ j + 1
    omega
theorem L_X12_chanceOf {l : Launch} {S : zS} {Q : zR2 → zS → Prop} {D : zD} {r t : Nat} (hD : dOK D) (hM : mOK S D) (hr : r < dR D) (ht : t < 24) (hw : dW D r ≠ 0) (h : Q (.inl (some (.inl (chaD D r t : Int)))) S) (f : Nat) : ∀ j, j + f = 18 → zGs l 3 0 0 F_X12_chanceOf S 25 [(0, .inr (.inl 62)), (1, .inl (r : Int)), (2, .inl (t : Int)), (3, .inl ((dW D r - 1 : Nat) : Int)), (4, .inl (cntF (gmF D (dW D r - 1) (24 * (dW D r - 1) + t) 0) j : Int)), (5, .inl (j : Int))] [] Q := by
  have hw2 := hD.whose r hr
  have h6 := hD.lodgers
  have hk : 24 * (dW D r - 1) + t < 24 * dL D := by omega
  have hm := hD.may _ hk
  have em := hM.may _ hk
  have hp := bl_pos hm.1 hm.2
  have hp2 := bl_12 hm.2
  induction f with
  | zero =>
    intro j hj
    have : j = 18 := by omega
    subst this
    have hg := gm_cnt (D := D) (fun k hk => (hD.may k hk).2) hk (i := dW D r - 1) 0
    have hg2 := bl_le (gmD D (dW D r - 1) (24 * (dW D r - 1) + t) 0)
    have e : chaD D r t = 27720 / (bl (dM D (24 * (dW D r - 1) + t))).length * cntF (gmF D (dW D r - 1) (24 * (dW D r - 1) + t) 0) 18 := by
      unfold chaD
      rw [if_neg hw, hg, cha_mul hp hp2]
    have e2 : (27720 : Int) / ((bl (dM D (24 * (dW D r - 1) + t))).length : Int) * (cntF (gmF D (dW D r - 1) (24 * (dW D r - 1) + t) 0) 18 : Int) = (chaD D r t : Int) := by
      rw [e, Int.natCast_mul]
      rfl
    have hc := cha_le hD hr ht
    refine zwq_ok (Z_X12_chanceOf l) rfl [25] (fun _ _ _ _ _ _ h => h) 400 (Z_X12_chanceOf l) ?_
    refine ⟨fun c => by omega, fun c => ⟨by omega, by omega, 24 * (dW D r - 1) + t, ⟨by omega, by omega⟩, dM D (24 * (dW D r - 1) + t), ⟨em, by omega⟩, by omega, ?_, ?_⟩⟩
    · rw [e2]; omega
    · rw [← e2] at h; exact h
  | succ f ih =>
    intro j hj
    have e := zbit_n (a := dM D (24 * (dW D r - 1) + t)) (j := j) (by omega) (by omega)
    have hb := bt1_lt (dM D (24 * (dW D r - 1) + t)) j
    have hcl := cntF_le (gmF D (dW D r - 1) (24 * (dW D r - 1) + t) 0) j
    have this := ih (j + 1) (by omega)
    have e2 : cntF (gmF D (dW D r - 1) (24 * (dW D r - 1) + t) 0) (j + 1) = cntF (gmF D (dW D r - 1) (24 * (dW D r - 1) + t) 0) j + bti (gmF D (dW D r - 1) (24 * (dW D r - 1) + t) 0 j) := rfl
    rw [e2] at this
    refine zwq_ok (Z_X12_chanceOf l) rfl [25] (fun _ _ _ _ _ _ h => h) 400 (Z_X12_chanceOf l) ?_
    refine ⟨fun c => ⟨by omega, by omega, 24 * (dW D r - 1) + t, ⟨by omega, by omega⟩, fun c2 => ⟨D, dW D r - 1, j, ⟨rfl, hD, hM, rfl, rfl, by omega⟩, fun c3 => ⟨by omega, by omega, ?_⟩, fun c3 => ⟨by omega, by omega, ?_⟩⟩, fun c2 => ⟨by omega, by omega, ?_⟩⟩, fun c => by omega⟩
    · rw [em, e] at c2
      have hf : gmF D (dW D r - 1) (24 * (dW D r - 1) + t) 0 j = true := by
        unfold gmF
        rw [show bt1 (dM D (24 * (dW D r - 1) + t)) j = 1 by omega, show sigD D (dW D r - 1) j = 0 by omega]
        rfl
      rw [hf] at this
      exact this
    · have hf : gmF D (dW D r - 1) (24 * (dW D r - 1) + t) 0 j = false := by
        unfold gmF
        rw [show Nat.beq (sigD D (dW D r - 1) j) 0 = false by
          cases hb : Nat.beq (sigD D (dW D r - 1) j) 0
          · rfl
          · have := Nat.eq_of_beq_eq_true hb; omega, Bool.and_false]
      rw [hf] at this
      exact this
    · rw [em, e] at c2
      have hf : gmF D (dW D r - 1) (24 * (dW D r - 1) + t) 0 j = false := by
        unfold gmF
        rw [show bt1 (dM D (24 * (dW D r - 1) + t)) j = 0 by omega]
        rfl
      rw [hf] at this
      exact this
theorem R_X12_chanceOf (l : Launch) (a : List zV) (S : zS) (Q : zR2 → zS → Prop) (h : wp_X12_chanceOf a S Q) : zRs l 3 0 0 yX12_chanceOf (.code yX12_chanceOf cX12_chanceOf 6 (some .int)) a S Q := by
  unfold wp_X12_chanceOf at h
  split at h
  · obtain ⟨D, r, t, ⟨rfl, hD, hM, rfl, rfl, hr, ht⟩, h⟩ := h
    have h8 := hD.rooms
    have hw := hM.whose r hr
    have hw2 := hD.whose r hr
    refine zRs_of 12 (by decide) rfl rfl ?_; refine zwq_ok (Z_X12_chanceOf l) rfl [25] (fun _ _ _ _ _ _ h => h) 400 (Z_X12_chanceOf l) ?_
    refine ⟨r, ⟨rfl, by omega⟩, fun c => ?_, fun c => ⟨r, ⟨rfl, by omega⟩, ?_⟩⟩
    · unfold chaD at h
      rw [if_pos (by omega)] at h; exact h
    · have := L_X12_chanceOf (l := l) hD hM hr ht (by omega) h 18 0 (by omega)
      rw [show ((dW D r - 1 : Nat) : Int) = S 64 r by omega] at this
      exact this
  · exact h.elim
def B_X12_isSpent : List (Nat × zC) := [(24, (1, 0, 1, 0, 0, 0, 0))]
def O_X12_isSpent : zO := fun j a S K => match j with
  | 0 => wp_X12_bits a S K
  | _ => False
theorem E_X12_isSpent (l : Launch) : ∀ q ∈ B_X12_isSpent, zcok l O_X12_isSpent F_X12_isSpent q.1 q.2 := List.forall_mem_cons.mpr ⟨⟨308, yX12_bits, cX12_bits, 3, some .int, by decide +kernel, C_12_308, W_X12_bits, I_X12_bits, rfl, R_X12_bits l⟩, fun _ h => by cases h⟩
def U_X12_isSpent : List (Nat × zE) := [(0, Sum.inl (0, 0, 0, 1, 1, [])), (1, Sum.inl (5, 2, 0, 0, 2, [])), (2, Sum.inl (0, 0, 0, 0, 3, [])), (3, Sum.inl (5, 3, 0, 0, 4, [])), (4, Sum.inl (2, 3, 0, 0, 5, [])), (5, Sum.inl (4, 0, 0, 0, 6, [])), (6, Sum.inl (18, 12, 2, 0, 9, [])), (9, Sum.inl (16, 1, 12, 0, 44, [])), (12, Sum.inl (2, 2, 0, 0, 13, [])), (13, Sum.inl (4, 0, 0, 0, 14, [])), (14, Sum.inl (18, 12, 11, 0, 17, [])), (17, Sum.inl (0, 0, 0, 24, 19, [])), (19, Sum.inl (2, 3, 0, 0, 20, [])), (20, Sum.inl (9, 2, 0, 0, 21, [])), (21, Sum.inl (2, 1, 0, 0, 22, [])), (22, Sum.inl (9, 0, 0, 0, 23, [])), (23, Sum.inl (20, 0, 0, 0, 24, [])), (24, Sum.inr (1, 0, 1, 0, 0, 0, 0)), (27, Sum.inl (9, 2, 0, 0, 28, [])), (28, Sum.inl (5, 2, 0, 0, 29, [])), (29, Sum.inl (2, 2, 0, 0, 30, [])), (30, Sum.inl (0, 0, 0, 4000, 33, [])), (33, Sum.inl (16, 2, 36, 0, 38, [])), (36, Sum.inl (0, 0, 0, 1, 37, [])), (37, Sum.inl (27, 0, 0, 0, 38, [])), (38, Sum.inl (8, 3, 0, 1, 41, [])), (41, Sum.inl (15, 0, 0, 0, 4, [])), (44, Sum.inl (0, 0, 0, 0, 45, [])), (45, Sum.inl (27, 0, 0, 0, 46, []))]
theorem Z_X12_isSpent (l : Launch) : ∀ q ∈ U_X12_isSpent, zTok l O_X12_isSpent F_X12_isSpent q := zU_ok rfl rfl rfl K_X12_isSpent (E_X12_isSpent l)
def wp_X12_isSpent (a : List zV) (S : zS) (K : zR2 → zS → Prop) : Prop := match a with
  | [.inr (.inl c), .inl y] => ∃ (D : zD) (t : Nat), (c = 62 ∧ dOK D ∧ mOK S D ∧ y = (t : Int) ∧ t < 24) ∧ (4000 < rowD D t (dL D) → K (.inl (some (.inl 1))) S) ∧ (¬ 4000 < rowD D t (dL D) → K (.inl (some (.inl 0))) S)
  | _ => False
theorem row_mono {D : zD} (hD : dOK D) {t : Nat} (ht : t < 24) : ∀ f n, n + f = dL D → rowD D t n ≤ rowD D t (dL D) := by
  intro f
  induction f with
  | zero => intro n hn; have : n = dL D := by omega
            rw [this]; exact Nat.le_refl _
  | succ f ih =>
    intro n hn
    have hm := hD.may (24 * n + t) (by omega)
    have b1 := bl_pos hm.1 hm.2
    exact Nat.le_trans (Nat.le_mul_of_pos_right _ b1) (ih (n + 1) (by omega))
theorem L_X12_isSpent {l : Launch} {S : zS} {Q : zR2 → zS → Prop} {D : zD} {t : Nat} (hD : dOK D) (hM : mOK S D) (ht : t < 24) (h1 : 4000 < rowD D t (dL D) → Q (.inl (some (.inl 1))) S) (h2 : ¬ 4000 < rowD D t (dL D) → Q (.inl (some (.inl 0))) S) (f : Nat) : ∀ j, j + f = dL D → rowD D t j ≤ 4000 → zGs l 1 0 0 F_X12_isSpent S 4 [(0, .inr (.inl 62)), (1, .inl (t : Int)), (2, .inl (rowD D t j : Int)), (3, .inl (j : Int))] [] Q := by
  have h6 := hD.lodgers
  have hl := hM.lodgers
  induction f with
  | zero =>
    intro j hj hr
    have : j = dL D := by omega
    subst this
    refine zwq_ok (Z_X12_isSpent l) rfl [4] (fun _ _ _ _ _ _ h => h) 400 (Z_X12_isSpent l) ?_
    exact ⟨fun c => by omega, fun c => ⟨Or.inl rfl, h2 (by omega)⟩⟩
  | succ f ih =>
    intro j hj hr
    have hm := hD.may (24 * j + t) (by omega)
    have em := hM.may (24 * j + t) (by omega)
    have hr2 := (row_le hD ht (j + 1) (by omega)).2
    have hp : 12 ^ (j + 1) ≤ 12 ^ 6 := Nat.pow_le_pow_right (by decide) (by omega)
    have hmo := row_mono hD ht f (j + 1) (by omega)
    have e : (rowD D t j : Int) * ((bl (dM D (24 * j + t))).length : Int) = (rowD D t (j + 1) : Int) := by
      rw [← Int.natCast_mul]; rfl
    refine zwq_ok (Z_X12_isSpent l) rfl [4] (fun _ _ _ _ _ _ h => h) 400 (Z_X12_isSpent l) ?_
    refine ⟨fun c => ⟨by omega, by omega, 24 * j + t, ⟨by omega, by omega⟩, dM D (24 * j + t), ⟨em, by omega⟩, ?_, ?_⟩, fun c => by omega⟩
    · rw [e]; omega
    · rw [e]
      refine ⟨fun c2 => ⟨Or.inr rfl, h1 (by omega)⟩, fun c2 => ⟨by omega, ih (j + 1) (by omega) (by omega)⟩⟩
theorem R_X12_isSpent (l : Launch) (a : List zV) (S : zS) (Q : zR2 → zS → Prop) (h : wp_X12_isSpent a S Q) : zRs l 1 0 0 yX12_isSpent (.code yX12_isSpent cX12_isSpent 4 (some .boolean)) a S Q := by
  unfold wp_X12_isSpent at h
  split at h
  · obtain ⟨D, t, ⟨rfl, hD, hM, rfl, ht⟩, h1, h2⟩ := h
    refine zRs_of 12 (by decide) rfl rfl ?_; refine zwq_ok (Z_X12_isSpent l) rfl [4] (fun _ _ _ _ _ _ h => h) 400 (Z_X12_isSpent l) ?_
    exact L_X12_isSpent hD hM ht h1 h2 (dL D) 0 (by omega) (by show 1 ≤ 4000; omega)
  · exact h.elim
