/-! the house: the model spells -/
def pk2 (w c : Nat) : Nat := if c = 0 then w else w * 32 + (c - 96)
def lcO (c : Nat) : Prop := c = 0 ∨ (97 ≤ c ∧ c ≤ 122)
theorem pk2_lt {w c b : Nat} (hw : w < b) (hc : lcO c) : pk2 w c < b * 32 := by
  unfold pk2 lcO at *
  split <;> omega
def B_X12_spelled : List (Nat × zC) := []
def O_X12_spelled : zO := fun j a S K => match j with
  | _ => False
theorem E_X12_spelled (l : Launch) : ∀ q ∈ B_X12_spelled, zcok l O_X12_spelled F_X12_spelled q.1 q.2 := fun _ h => by cases h
def U_X12_spelled : List (Nat × zE) := [(0, Sum.inl (2, 0, 0, 0, 1, [])), (1, Sum.inl (10, 0, 0, 0, 2, [])), (2, Sum.inl (1, 96, 0, 0, 5, [])), (5, Sum.inl (11, 1, 0, 0, 6, [])), (6, Sum.inl (0, 0, 0, 5, 7, [])), (7, Sum.inl (11, 3, 0, 0, 8, [])), (8, Sum.inl (2, 1, 0, 0, 9, [])), (9, Sum.inl (0, 0, 0, 96, 11, [])), (11, Sum.inl (9, 1, 0, 0, 12, [])), (12, Sum.inl (10, 0, 0, 0, 13, [])), (13, Sum.inl (11, 0, 0, 0, 14, [])), (14, Sum.inl (6, 6, 0, 0, 16, [])), (16, Sum.inl (2, 2, 0, 0, 17, [])), (17, Sum.inl (17, 0, 32, 0, 20, [])), (20, Sum.inl (3, 6, 0, 0, 22, [])), (22, Sum.inl (0, 0, 0, 5, 23, [])), (23, Sum.inl (11, 3, 0, 0, 24, [])), (24, Sum.inl (2, 2, 0, 0, 25, [])), (25, Sum.inl (0, 0, 0, 96, 27, [])), (27, Sum.inl (9, 1, 0, 0, 28, [])), (28, Sum.inl (10, 0, 0, 0, 29, [])), (29, Sum.inl (11, 0, 0, 0, 30, [])), (30, Sum.inl (6, 6, 0, 0, 32, [])), (32, Sum.inl (2, 3, 0, 0, 33, [])), (33, Sum.inl (17, 0, 48, 0, 36, [])), (36, Sum.inl (3, 6, 0, 0, 38, [])), (38, Sum.inl (0, 0, 0, 5, 39, [])), (39, Sum.inl (11, 3, 0, 0, 40, [])), (40, Sum.inl (2, 3, 0, 0, 41, [])), (41, Sum.inl (0, 0, 0, 96, 43, [])), (43, Sum.inl (9, 1, 0, 0, 44, [])), (44, Sum.inl (10, 0, 0, 0, 45, [])), (45, Sum.inl (11, 0, 0, 0, 46, [])), (46, Sum.inl (6, 6, 0, 0, 48, [])), (48, Sum.inl (2, 4, 0, 0, 50, [])), (50, Sum.inl (17, 0, 66, 0, 53, [])), (53, Sum.inl (3, 6, 0, 0, 55, [])), (55, Sum.inl (0, 0, 0, 5, 56, [])), (56, Sum.inl (11, 3, 0, 0, 57, [])), (57, Sum.inl (2, 4, 0, 0, 59, [])), (59, Sum.inl (0, 0, 0, 96, 61, [])), (61, Sum.inl (9, 1, 0, 0, 62, [])), (62, Sum.inl (10, 0, 0, 0, 63, [])), (63, Sum.inl (11, 0, 0, 0, 64, [])), (64, Sum.inl (6, 6, 0, 0, 66, [])), (66, Sum.inl (2, 5, 0, 0, 68, [])), (68, Sum.inl (17, 0, 84, 0, 71, [])), (71, Sum.inl (3, 6, 0, 0, 73, [])), (73, Sum.inl (0, 0, 0, 5, 74, [])), (74, Sum.inl (11, 3, 0, 0, 75, [])), (75, Sum.inl (2, 5, 0, 0, 77, [])), (77, Sum.inl (0, 0, 0, 96, 79, [])), (79, Sum.inl (9, 1, 0, 0, 80, [])), (80, Sum.inl (10, 0, 0, 0, 81, [])), (81, Sum.inl (11, 0, 0, 0, 82, [])), (82, Sum.inl (6, 6, 0, 0, 84, [])), (84, Sum.inl (3, 6, 0, 0, 86, [])), (86, Sum.inl (28, 0, 0, 0, 87, []))]
theorem Z_X12_spelled (l : Launch) : ∀ q ∈ U_X12_spelled, zTok l O_X12_spelled F_X12_spelled q := zU_ok rfl rfl rfl K_X12_spelled (E_X12_spelled l)
def wp_X12_spelled (a : List zV) (S : zS) (K : zR2 → zS → Prop) : Prop := match a with
  | [.inl x0, .inl x1, .inl x2, .inl x3, .inl x4, .inl x5] => ∃ a0 a1 a2 a3 a4 a5 : Nat, (x0 = (a0 : Int) ∧ x1 = (a1 : Int) ∧ x2 = (a2 : Int) ∧ x3 = (a3 : Int) ∧ x4 = (a4 : Int) ∧ x5 = (a5 : Int) ∧ (97 ≤ a0 ∧ a0 ≤ 122) ∧ (97 ≤ a1 ∧ a1 ≤ 122) ∧ lcO a2 ∧ lcO a3 ∧ lcO a4 ∧ lcO a5) ∧ K (.inl (some (.inr (.inr (pk2 (pk2 (pk2 (pk2 ((a0 - 96) * 32 + (a1 - 96)) a2) a3) a4) a5 : Int))))) S
  | _ => False
theorem R_X12_spelled (l : Launch) (a : List zV) (S : zS) (Q : zR2 → zS → Prop) (h : wp_X12_spelled a S Q) : zRs l 0 0 0 yX12_spelled (.code yX12_spelled cX12_spelled 8 (some .long)) a S Q := by
  unfold wp_X12_spelled at h
  split at h
  · obtain ⟨a0, a1, a2, a3, a4, a5, ⟨rfl, rfl, rfl, rfl, rfl, rfl, h0, h1, h2, h3, h4, h5⟩, h⟩ := h
    have q2 : a2 ≤ 122 := by unfold lcO at h2; omega
    have q3 : a3 ≤ 122 := by unfold lcO at h3; omega
    have q4 : a4 ≤ 122 := by unfold lcO at h4; omega
    have q5 : a5 ≤ 122 := by unfold lcO at h5; omega
    have b1 : (a0 - 96) * 32 + (a1 - 96) < 1024 := by omega
    have b2 := pk2_lt b1 h2
    have b3 := pk2_lt b2 h3
    have b4 := pk2_lt b3 h4
    have zz : ∀ (w c : Nat), w < 33554432 → lcO c → c ≠ 0 → zlor (zlsl (w : Int) 5) ((c : Int) - 96) = (pk2 w c : Int) := fun w c hw hc hn => by
      rcases hc with hc | hc
      · exact absurd hc hn
      · rw [show (c : Int) - 96 = ((c - 96 : Nat) : Int) by omega, zwd hw (by omega)]
        unfold pk2
        rw [if_neg hn]
    have z0 : zlor (zlsl ((a0 : Int) - 96) 5) ((a1 : Int) - 96) = (((a0 - 96) * 32 + (a1 - 96) : Nat) : Int) := by
      rw [show (a0 : Int) - 96 = ((a0 - 96 : Nat) : Int) by omega, show (a1 : Int) - 96 = ((a1 - 96 : Nat) : Int) by omega, zwd (by omega) (by omega)]
    have p0 : ∀ w, pk2 w 0 = w := fun w => rfl
    generalize (a0 - 96) * 32 + (a1 - 96) = w1 at *
    have s84 : ∀ z : Int, z = (pk2 (pk2 (pk2 (pk2 w1 a2) a3) a4) a5 : Int) → zGs l 0 0 0 F_X12_spelled S 84 [(0, .inl (a0 : Int)), (1, .inl (a1 : Int)), (2, .inl (a2 : Int)), (3, .inl (a3 : Int)), (4, .inl (a4 : Int)), (5, .inl (a5 : Int)), (6, .inr (.inr z))] [] Q := fun z hz => by
      subst hz
      refine zwq_ok (Z_X12_spelled l) rfl [0] (fun _ _ _ _ _ _ h => h) 400 (Z_X12_spelled l) ?_
      exact h
    have s66 : ∀ z : Int, z = (pk2 (pk2 (pk2 w1 a2) a3) a4 : Int) → zGs l 0 0 0 F_X12_spelled S 66 [(0, .inl (a0 : Int)), (1, .inl (a1 : Int)), (2, .inl (a2 : Int)), (3, .inl (a3 : Int)), (4, .inl (a4 : Int)), (5, .inl (a5 : Int)), (6, .inr (.inr z))] [] Q := fun z hz => by
      subst hz
      refine zwq_ok (Z_X12_spelled l) rfl [84] (fun _ _ _ _ _ _ h => h) 400 (Z_X12_spelled l) ?_
      exact ⟨fun c => s84 _ (by rw [show a5 = 0 by omega, p0]), fun c => ⟨by omega, s84 _ (zz _ _ (by omega) h5 (by omega))⟩⟩
    have s48 : ∀ z : Int, z = (pk2 (pk2 w1 a2) a3 : Int) → zGs l 0 0 0 F_X12_spelled S 48 [(0, .inl (a0 : Int)), (1, .inl (a1 : Int)), (2, .inl (a2 : Int)), (3, .inl (a3 : Int)), (4, .inl (a4 : Int)), (5, .inl (a5 : Int)), (6, .inr (.inr z))] [] Q := fun z hz => by
      subst hz
      refine zwq_ok (Z_X12_spelled l) rfl [66] (fun _ _ _ _ _ _ h => h) 400 (Z_X12_spelled l) ?_
      exact ⟨fun c => s66 _ (by rw [show a4 = 0 by omega, p0]), fun c => ⟨by omega, s66 _ (zz _ _ (by omega) h4 (by omega))⟩⟩
    have s32 : ∀ z : Int, z = (pk2 w1 a2 : Int) → zGs l 0 0 0 F_X12_spelled S 32 [(0, .inl (a0 : Int)), (1, .inl (a1 : Int)), (2, .inl (a2 : Int)), (3, .inl (a3 : Int)), (4, .inl (a4 : Int)), (5, .inl (a5 : Int)), (6, .inr (.inr z))] [] Q := fun z hz => by
      subst hz
      refine zwq_ok (Z_X12_spelled l) rfl [48] (fun _ _ _ _ _ _ h => h) 400 (Z_X12_spelled l) ?_
      exact ⟨fun c => s48 _ (by rw [show a3 = 0 by omega, p0]), fun c => ⟨by omega, s48 _ (zz _ _ (by omega) h3 (by omega))⟩⟩
    refine zRs_of 12 (by decide) rfl rfl ?_; refine zwq_ok (Z_X12_spelled l) rfl [32] (fun _ _ _ _ _ _ h => h) 400 (Z_X12_spelled l) ?_
    refine ⟨by omega, by omega, fun c => s32 _ (by rw [show a2 = 0 by omega, p0]; exact z0), fun c => ⟨by omega, s32 _ ?_⟩⟩
    show zlor (zlsl (zlor (zlsl ((a0 : Int) - 96) 5) ((a1 : Int) - 96)) 5) ((a2 : Int) - 96) = _
    rw [z0]
    exact zz _ _ (by omega) h2 (by omega)
  · exact h.elim
