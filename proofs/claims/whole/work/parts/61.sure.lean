/-! the model: sure, where -/
def B_X12_sure : List (Nat × zC) := [(9, (1, 0, 3, 0, 0, 0, 0)), (13, (0, 1, 2, 0, 0, 0, 12)), (23, (0, 2, 0, 0, 0, 0, 12)), (26, (0, 3, 1, 1, 0, 0, 12)), (37, (0, 2, 0, 0, 0, 0, 12)), (48, (0, 4, 3, 4, 0, 0, 12)), (80, (0, 5, 1, 2, 0, 0, 12))]
def O_X12_sure : zO := fun j a S K => match j with
  | 0 => wp_X12_within a S K
  | 1 => wp_X12_right a S K
  | 2 => wp_X12_hour a S K
  | 3 => wp_X12_isSpent a S K
  | 4 => wp_X12_seeks a S K
  | 5 => wp_X12_with a S K
  | _ => False
theorem E_X12_sure (l : Launch) : ∀ q ∈ B_X12_sure, zcok l O_X12_sure F_X12_sure q.1 q.2 := List.forall_mem_cons.mpr ⟨⟨283, yX12_within, cX12_within, 3, some .boolean, by decide +kernel, C_12_283, W_X12_within, I_X12_within, rfl, R_X12_within l⟩, List.forall_mem_cons.mpr ⟨⟨241, yX12_right, cX12_right, 3, some .boolean, by decide +kernel, C_12_241, W_X12_right, I_X12_right, S_X12_right, rfl, rfl, R_X12_right l⟩, List.forall_mem_cons.mpr ⟨⟨341, yX12_hour, cX12_hour, 1, some .int, by decide +kernel, C_12_341, W_X12_hour, I_X12_hour, S_X12_hour, rfl, rfl, R_X12_hour l⟩, List.forall_mem_cons.mpr ⟨⟨345, yX12_isSpent, cX12_isSpent, 4, some .boolean, by decide +kernel, C_12_345, W_X12_isSpent, I_X12_isSpent, S_X12_isSpent, rfl, rfl, R_X12_isSpent l⟩, List.forall_mem_cons.mpr ⟨⟨341, yX12_hour, cX12_hour, 1, some .int, by decide +kernel, C_12_341, W_X12_hour, I_X12_hour, S_X12_hour, rfl, rfl, R_X12_hour l⟩, List.forall_mem_cons.mpr ⟨⟨348, yX12_seeks, cX12_seeks, 6, none, by decide +kernel, C_12_348, W_X12_seeks, I_X12_seeks, S_X12_seeks, rfl, rfl, R_X12_seeks l⟩, List.forall_mem_cons.mpr ⟨⟨359, yX12_with, cX12_with, 4, some .int, by decide +kernel, C_12_359, W_X12_with, I_X12_with, S_X12_with, rfl, rfl, R_X12_with l⟩, fun _ h => by cases h⟩⟩⟩⟩⟩⟩⟩
def U_X12_sure : List (Nat × zE) := [(0, Sum.inl (4, 0, 0, 0, 1, [])), (1, Sum.inl (0, 0, 0, 0, 2, [])), (2, Sum.inl (19, 12, 0, 0, 5, [])), (5, Sum.inl (4, 0, 0, 0, 6, [])), (6, Sum.inl (2, 1, 0, 0, 7, [])), (7, Sum.inl (0, 0, 0, 0, 8, [])), (8, Sum.inl (0, 0, 0, 2, 9, [])), (9, Sum.inr (1, 0, 3, 0, 0, 0, 0)), (12, Sum.inl (0, 0, 0, 1, 13, [])), (13, Sum.inr (0, 1, 2, 0, 0, 0, 12)), (16, Sum.inl (17, 0, 19, 0, 21, [])), (19, Sum.inl (0, 0, 0, 0, 20, [])), (20, Sum.inl (27, 0, 0, 0, 21, [])), (21, Sum.inl (4, 0, 0, 0, 22, [])), (22, Sum.inl (4, 0, 0, 0, 23, [])), (23, Sum.inr (0, 2, 0, 0, 0, 0, 12)), (26, Sum.inr (0, 3, 1, 1, 0, 0, 12)), (29, Sum.inl (17, 0, 35, 0, 32, [])), (32, Sum.inl (0, 0, 0, (-2), 34, [])), (34, Sum.inl (27, 0, 0, 0, 35, [])), (35, Sum.inl (4, 0, 0, 0, 36, [])), (36, Sum.inl (4, 0, 0, 0, 37, [])), (37, Sum.inr (0, 2, 0, 0, 0, 0, 12)), (40, Sum.inl (4, 0, 0, 0, 41, [])), (41, Sum.inl (18, 12, 41, 0, 44, [])), (44, Sum.inl (4, 0, 0, 0, 45, [])), (45, Sum.inl (18, 12, 42, 0, 48, [])), (48, Sum.inr (0, 4, 3, 4, 0, 0, 12)), (51, Sum.inl (0, 0, 0, 0, 52, [])), (52, Sum.inl (5, 2, 0, 0, 53, [])), (53, Sum.inl (0, 0, 0, (-1), 54, [])), (54, Sum.inl (5, 3, 0, 0, 55, [])), (55, Sum.inl (0, 0, 0, 0, 56, [])), (56, Sum.inl (5, 4, 0, 0, 58, [])), (58, Sum.inl (0, 0, 0, 0, 59, [])), (59, Sum.inl (5, 5, 0, 0, 61, [])), (61, Sum.inl (2, 5, 0, 0, 63, [])), (63, Sum.inl (4, 0, 0, 0, 64, [])), (64, Sum.inl (18, 12, 1, 0, 67, [])), (67, Sum.inl (16, 1, 70, 0, 167, [])), (70, Sum.inl (4, 0, 0, 0, 71, [])), (71, Sum.inl (18, 12, 45, 0, 74, [])), (74, Sum.inl (17, 2, 77, 0, 167, [])), (77, Sum.inl (4, 0, 0, 0, 78, [])), (78, Sum.inl (2, 5, 0, 0, 80, [])), (80, Sum.inr (0, 5, 1, 2, 0, 0, 12)), (83, Sum.inl (5, 6, 0, 0, 85, [])), (85, Sum.inl (2, 2, 0, 0, 86, [])), (86, Sum.inl (2, 6, 0, 0, 88, [])), (88, Sum.inl (2, 1, 0, 0, 89, [])), (89, Sum.inl (17, 0, 92, 0, 96, [])), (92, Sum.inl (0, 0, 0, 0, 93, [])), (93, Sum.inl (15, 0, 0, 0, 100, [])), (96, Sum.inl (4, 0, 0, 0, 97, [])), (97, Sum.inl (18, 12, 45, 0, 100, [])), (100, Sum.inl (16, 0, 103, 0, 110, [])), (103, Sum.inl (0, 0, 0, 1, 104, [])), (104, Sum.inl (2, 5, 0, 0, 106, [])), (106, Sum.inl (9, 6, 0, 0, 107, [])), (107, Sum.inl (15, 0, 0, 0, 111, [])), (110, Sum.inl (0, 0, 0, 0, 111, [])), (111, Sum.inl (9, 4, 0, 0, 112, [])), (112, Sum.inl (5, 2, 0, 0, 113, [])), (113, Sum.inl (2, 6, 0, 0, 115, [])), (115, Sum.inl (4, 0, 0, 0, 116, [])), (116, Sum.inl (18, 12, 45, 0, 119, [])), (119, Sum.inl (2, 6, 0, 0, 121, [])), (121, Sum.inl (9, 1, 0, 0, 122, [])), (122, Sum.inl (16, 2, 125, 0, 130, [])), (125, Sum.inl (2, 6, 0, 0, 127, [])), (127, Sum.inl (15, 0, 0, 0, 137, [])), (130, Sum.inl (4, 0, 0, 0, 131, [])), (131, Sum.inl (18, 12, 45, 0, 134, [])), (134, Sum.inl (2, 6, 0, 0, 136, [])), (136, Sum.inl (9, 1, 0, 0, 137, [])), (137, Sum.inl (5, 7, 0, 0, 139, [])), (139, Sum.inl (2, 3, 0, 0, 140, [])), (140, Sum.inl (0, 0, 0, (-1), 141, [])), (141, Sum.inl (16, 0, 154, 0, 144, [])), (144, Sum.inl (2, 7, 0, 0, 146, [])), (146, Sum.inl (2, 4, 0, 0, 148, [])), (148, Sum.inl (16, 1, 154, 0, 151, [])), (151, Sum.inl (15, 0, 0, 0, 161, [])), (154, Sum.inl (2, 5, 0, 0, 156, [])), (156, Sum.inl (5, 3, 0, 0, 157, [])), (157, Sum.inl (2, 7, 0, 0, 159, [])), (159, Sum.inl (5, 4, 0, 0, 161, [])), (161, Sum.inl (8, 5, 0, 1, 164, [])), (164, Sum.inl (15, 0, 0, 0, 61, [])), (167, Sum.inl (2, 1, 0, 0, 168, [])), (168, Sum.inl (0, 0, 0, 2, 169, [])), (169, Sum.inl (16, 0, 172, 0, 176, [])), (172, Sum.inl (2, 3, 0, 0, 173, [])), (173, Sum.inl (15, 0, 0, 0, 177, [])), (176, Sum.inl (2, 2, 0, 0, 177, [])), (177, Sum.inl (27, 0, 0, 0, 178, []))]
set_option maxRecDepth 20000 in
theorem Z_X12_sure (l : Launch) : ∀ q ∈ U_X12_sure, zTok l O_X12_sure F_X12_sure q := zU_ok rfl rfl rfl K_X12_sure (E_X12_sure l)
def wp_X12_sure (a : List zV) (S : zS) (K : zR2 → zS → Prop) : Prop := match a with
  | [.inr (.inl c), .inl x] => ∃ (D E T : zD) (N : Nat), (c = 62 ∧ eM S D E T ∧ xOK D E T N) ∧ mRes S D E T (sureA D x) K
  | _ => False
def suF (D : zD) (t : Nat) (x : Int) (r : Nat) : Bool := if x = 0 then seF D t r else stF D t r
theorem L_X12_sure {l : Launch} {S : zS} {Q : zR2 → zS → Prop} {D : zD} {t : Nat} {x kf : Int} (hD : dOK D) (hM : mOK S D) (ht : t < 24) (hc : csM S D (caL D t)) (hw : rwO D (caL D t)) (h0 : 0 < toD D t) (h : Q (.inl (some (.inl (if x = 2 then kf else (msk (suF D t x) (dR D) : Int))))) S) (f : Nat) : ∀ r kn le, r + f = dR D → knS D t f r kn le = kf → zGs l 5 0 0 F_X12_sure S 61 [(0, .inr (.inl 62)), (1, .inl x), (2, .inl (msk (suF D t x) r : Int)), (3, .inl kn), (4, .inl (le : Int)), (5, .inl (r : Int))] [] Q := by
  have h8 := hD.rooms
  have eR := hM.rooms
  have eC := hc.1
  rw [caL_len] at eC
  induction f with
  | zero =>
    intro r kn le hr hk
    have : r = dR D := by omega
    subst this
    have hk : kn = kf := hk
    subst hk
    refine zwq_ok (Z_X12_sure l) rfl [61] (fun _ _ _ _ _ _ h => h) 400 (Z_X12_sure l) ?_
    refine ⟨fun c => by omega, fun c => ⟨fun c2 => ?_, fun c2 => ?_⟩⟩
    · rw [if_pos c2] at h; exact h
    · rw [if_neg c2] at h; exact h
  | succ f ih =>
    intro r kn le hr hk
    have hwo := caL_wo (D := D) (t := t) (r := r)
    have hk : (if kn = -1 ∨ max (woD D t r) (toD D t - woD D t r) < le then knS D t f (r + 1) (r : Int) (max (woD D t r) (toD D t - woD D t r)) else knS D t f (r + 1) kn le) = kf := hk
    have hlt := msk_lt (suF D t x) r
    have hp2 : 2 ^ r ≤ 2 ^ 7 := Nat.pow_le_pow_right (by decide) (by omega)
    have hT : toD D t ≤ 4000 := by have := hw.1; rw [caL_len] at this; exact this
    -- behind the set: the door to knock at
    have nx : ∀ s : Int, s = (msk (suF D t x) (r + 1) : Int) → zGs l 5 0 0 F_X12_sure S 112 [(0, .inr (.inl 62)), (1, .inl x), (2, .inl (msk (suF D t x) r : Int)), (3, .inl kn), (4, .inl (le : Int)), (5, .inl (r : Int)), (6, .inl (((caL D t).filter (smL D r)).length : Int))] [.inl s] Q := by
      intro s hs
      subst hs
      have yes : kn = -1 ∨ max (woD D t r) (toD D t - woD D t r) < le → ∀ v : Int, v = ((max (woD D t r) (toD D t - woD D t r) : Nat) : Int) → zGs l 5 0 0 F_X12_sure S 61 [(0, .inr (.inl 62)), (1, .inl x), (2, .inl (msk (suF D t x) (r + 1) : Int)), (3, .inl (r : Int)), (4, .inl v), (5, .inl ((r : Int) + 1))] [] Q := fun c v hv => by
        subst hv
        rw [if_pos c] at hk
        exact ih (r + 1) _ _ (by omega) hk
      have no : ¬ (kn = -1 ∨ max (woD D t r) (toD D t - woD D t r) < le) → zGs l 5 0 0 F_X12_sure S 61 [(0, .inr (.inl 62)), (1, .inl x), (2, .inl (msk (suF D t x) (r + 1) : Int)), (3, .inl kn), (4, .inl (le : Int)), (5, .inl ((r : Int) + 1))] [] Q := fun c => by
        rw [if_neg c] at hk
        exact ih (r + 1) _ _ (by omega) hk
      generalize ((caL D t).filter (smL D r)).length = n at *
      refine zwq_ok (Z_X12_sure l) rfl [61] (fun _ _ _ _ _ _ h => h) 400 (Z_X12_sure l) ?_
      refine ⟨by omega, fun c1 => ⟨fun c2 => ⟨by omega, ?_⟩, fun c2 => ⟨fun c3 => ⟨by omega, ?_⟩, fun c3 => ⟨by omega, ?_⟩⟩⟩, fun c1 => ⟨by omega, fun c2 => ⟨by omega, ?_⟩, fun c2 => ⟨fun c3 => ⟨by omega, ?_⟩, fun c3 => ⟨by omega, ?_⟩⟩⟩⟩
      · exact zGs.sub (lo := [(0, _), (1, _), (2, _), (3, _), (4, _), (5, _), (6, _), (7, _)]) (yes (Or.inl c2) (n : Int) (by omega)) (fun q hq => by simp only [List.mem_cons, List.not_mem_nil, or_false] at hq; rcases hq with rfl | rfl | rfl | rfl | rfl | rfl <;> first | exact .head _ | exact .tail _ (.head _) | exact .tail _ (.tail _ (.head _)) | exact .tail _ (.tail _ (.tail _ (.head _))) | exact .tail _ (.tail _ (.tail _ (.tail _ (.head _)))) | exact .tail _ (.tail _ (.tail _ (.tail _ (.tail _ (.head _))))) | exact .tail _ (.tail _ (.tail _ (.tail _ (.tail _ (.tail _ (.head _)))))) | exact .tail _ (.tail _ (.tail _ (.tail _ (.tail _ (.tail _ (.tail _ (.head _))))))) | exact .tail _ (.tail _ (.tail _ (.tail _ (.tail _ (.tail _ (.tail _ (.tail _ (.head _)))))))) | exact .tail _ (.tail _ (.tail _ (.tail _ (.tail _ (.tail _ (.tail _ (.tail _ (.tail _ (.head _))))))))) | exact .tail _ (.tail _ (.tail _ (.tail _ (.tail _ (.tail _ (.tail _ (.tail _ (.tail _ (.tail _ (.head _)))))))))) | exact .tail _ (.tail _ (.tail _ (.tail _ (.tail _ (.tail _ (.tail _ (.tail _ (.tail _ (.tail _ (.tail _ (.head _))))))))))) | exact .tail _ (.tail _ (.tail _ (.tail _ (.tail _ (.tail _ (.tail _ (.tail _ (.tail _ (.tail _ (.tail _ (.tail _ (.head _)))))))))))) | exact .tail _ (.tail _ (.tail _ (.tail _ (.tail _ (.tail _ (.tail _ (.tail _ (.tail _ (.tail _ (.tail _ (.tail _ (.tail _ (.head _))))))))))))))
      · exact zGs.sub (lo := [(0, _), (1, _), (2, _), (3, _), (4, _), (5, _), (6, _), (7, _)]) (yes (Or.inr (by omega)) (n : Int) (by omega)) (fun q hq => by simp only [List.mem_cons, List.not_mem_nil, or_false] at hq; rcases hq with rfl | rfl | rfl | rfl | rfl | rfl <;> first | exact .head _ | exact .tail _ (.head _) | exact .tail _ (.tail _ (.head _)) | exact .tail _ (.tail _ (.tail _ (.head _))) | exact .tail _ (.tail _ (.tail _ (.tail _ (.head _)))) | exact .tail _ (.tail _ (.tail _ (.tail _ (.tail _ (.head _))))) | exact .tail _ (.tail _ (.tail _ (.tail _ (.tail _ (.tail _ (.head _)))))) | exact .tail _ (.tail _ (.tail _ (.tail _ (.tail _ (.tail _ (.tail _ (.head _))))))) | exact .tail _ (.tail _ (.tail _ (.tail _ (.tail _ (.tail _ (.tail _ (.tail _ (.head _)))))))) | exact .tail _ (.tail _ (.tail _ (.tail _ (.tail _ (.tail _ (.tail _ (.tail _ (.tail _ (.head _))))))))) | exact .tail _ (.tail _ (.tail _ (.tail _ (.tail _ (.tail _ (.tail _ (.tail _ (.tail _ (.tail _ (.head _)))))))))) | exact .tail _ (.tail _ (.tail _ (.tail _ (.tail _ (.tail _ (.tail _ (.tail _ (.tail _ (.tail _ (.tail _ (.head _))))))))))) | exact .tail _ (.tail _ (.tail _ (.tail _ (.tail _ (.tail _ (.tail _ (.tail _ (.tail _ (.tail _ (.tail _ (.tail _ (.head _)))))))))))) | exact .tail _ (.tail _ (.tail _ (.tail _ (.tail _ (.tail _ (.tail _ (.tail _ (.tail _ (.tail _ (.tail _ (.tail _ (.tail _ (.head _))))))))))))))
      · exact zGs.sub (lo := [(0, _), (1, _), (2, _), (3, _), (4, _), (5, _), (6, _), (7, _)]) (no (by omega)) (fun q hq => by simp only [List.mem_cons, List.not_mem_nil, or_false] at hq; rcases hq with rfl | rfl | rfl | rfl | rfl | rfl <;> first | exact .head _ | exact .tail _ (.head _) | exact .tail _ (.tail _ (.head _)) | exact .tail _ (.tail _ (.tail _ (.head _))) | exact .tail _ (.tail _ (.tail _ (.tail _ (.head _)))) | exact .tail _ (.tail _ (.tail _ (.tail _ (.tail _ (.head _))))) | exact .tail _ (.tail _ (.tail _ (.tail _ (.tail _ (.tail _ (.head _)))))) | exact .tail _ (.tail _ (.tail _ (.tail _ (.tail _ (.tail _ (.tail _ (.head _))))))) | exact .tail _ (.tail _ (.tail _ (.tail _ (.tail _ (.tail _ (.tail _ (.tail _ (.head _)))))))) | exact .tail _ (.tail _ (.tail _ (.tail _ (.tail _ (.tail _ (.tail _ (.tail _ (.tail _ (.head _))))))))) | exact .tail _ (.tail _ (.tail _ (.tail _ (.tail _ (.tail _ (.tail _ (.tail _ (.tail _ (.tail _ (.head _)))))))))) | exact .tail _ (.tail _ (.tail _ (.tail _ (.tail _ (.tail _ (.tail _ (.tail _ (.tail _ (.tail _ (.tail _ (.head _))))))))))) | exact .tail _ (.tail _ (.tail _ (.tail _ (.tail _ (.tail _ (.tail _ (.tail _ (.tail _ (.tail _ (.tail _ (.tail _ (.head _)))))))))))) | exact .tail _ (.tail _ (.tail _ (.tail _ (.tail _ (.tail _ (.tail _ (.tail _ (.tail _ (.tail _ (.tail _ (.tail _ (.tail _ (.head _))))))))))))))
      · exact zGs.sub (lo := [(0, _), (1, _), (2, _), (3, _), (4, _), (5, _), (6, _), (7, _)]) (yes (Or.inl c2) (S 62 45 - (n : Int)) (by omega)) (fun q hq => by simp only [List.mem_cons, List.not_mem_nil, or_false] at hq; rcases hq with rfl | rfl | rfl | rfl | rfl | rfl <;> first | exact .head _ | exact .tail _ (.head _) | exact .tail _ (.tail _ (.head _)) | exact .tail _ (.tail _ (.tail _ (.head _))) | exact .tail _ (.tail _ (.tail _ (.tail _ (.head _)))) | exact .tail _ (.tail _ (.tail _ (.tail _ (.tail _ (.head _))))) | exact .tail _ (.tail _ (.tail _ (.tail _ (.tail _ (.tail _ (.head _)))))) | exact .tail _ (.tail _ (.tail _ (.tail _ (.tail _ (.tail _ (.tail _ (.head _))))))) | exact .tail _ (.tail _ (.tail _ (.tail _ (.tail _ (.tail _ (.tail _ (.tail _ (.head _)))))))) | exact .tail _ (.tail _ (.tail _ (.tail _ (.tail _ (.tail _ (.tail _ (.tail _ (.tail _ (.head _))))))))) | exact .tail _ (.tail _ (.tail _ (.tail _ (.tail _ (.tail _ (.tail _ (.tail _ (.tail _ (.tail _ (.head _)))))))))) | exact .tail _ (.tail _ (.tail _ (.tail _ (.tail _ (.tail _ (.tail _ (.tail _ (.tail _ (.tail _ (.tail _ (.head _))))))))))) | exact .tail _ (.tail _ (.tail _ (.tail _ (.tail _ (.tail _ (.tail _ (.tail _ (.tail _ (.tail _ (.tail _ (.tail _ (.head _)))))))))))) | exact .tail _ (.tail _ (.tail _ (.tail _ (.tail _ (.tail _ (.tail _ (.tail _ (.tail _ (.tail _ (.tail _ (.tail _ (.tail _ (.head _))))))))))))))
      · exact zGs.sub (lo := [(0, _), (1, _), (2, _), (3, _), (4, _), (5, _), (6, _), (7, _)]) (yes (Or.inr (by omega)) (S 62 45 - (n : Int)) (by omega)) (fun q hq => by simp only [List.mem_cons, List.not_mem_nil, or_false] at hq; rcases hq with rfl | rfl | rfl | rfl | rfl | rfl <;> first | exact .head _ | exact .tail _ (.head _) | exact .tail _ (.tail _ (.head _)) | exact .tail _ (.tail _ (.tail _ (.head _))) | exact .tail _ (.tail _ (.tail _ (.tail _ (.head _)))) | exact .tail _ (.tail _ (.tail _ (.tail _ (.tail _ (.head _))))) | exact .tail _ (.tail _ (.tail _ (.tail _ (.tail _ (.tail _ (.head _)))))) | exact .tail _ (.tail _ (.tail _ (.tail _ (.tail _ (.tail _ (.tail _ (.head _))))))) | exact .tail _ (.tail _ (.tail _ (.tail _ (.tail _ (.tail _ (.tail _ (.tail _ (.head _)))))))) | exact .tail _ (.tail _ (.tail _ (.tail _ (.tail _ (.tail _ (.tail _ (.tail _ (.tail _ (.head _))))))))) | exact .tail _ (.tail _ (.tail _ (.tail _ (.tail _ (.tail _ (.tail _ (.tail _ (.tail _ (.tail _ (.head _)))))))))) | exact .tail _ (.tail _ (.tail _ (.tail _ (.tail _ (.tail _ (.tail _ (.tail _ (.tail _ (.tail _ (.tail _ (.head _))))))))))) | exact .tail _ (.tail _ (.tail _ (.tail _ (.tail _ (.tail _ (.tail _ (.tail _ (.tail _ (.tail _ (.tail _ (.tail _ (.head _)))))))))))) | exact .tail _ (.tail _ (.tail _ (.tail _ (.tail _ (.tail _ (.tail _ (.tail _ (.tail _ (.tail _ (.tail _ (.tail _ (.tail _ (.head _))))))))))))))
      · exact zGs.sub (lo := [(0, _), (1, _), (2, _), (3, _), (4, _), (5, _), (6, _), (7, _)]) (no (by omega)) (fun q hq => by simp only [List.mem_cons, List.not_mem_nil, or_false] at hq; rcases hq with rfl | rfl | rfl | rfl | rfl | rfl <;> first | exact .head _ | exact .tail _ (.head _) | exact .tail _ (.tail _ (.head _)) | exact .tail _ (.tail _ (.tail _ (.head _))) | exact .tail _ (.tail _ (.tail _ (.tail _ (.head _)))) | exact .tail _ (.tail _ (.tail _ (.tail _ (.tail _ (.head _))))) | exact .tail _ (.tail _ (.tail _ (.tail _ (.tail _ (.tail _ (.head _)))))) | exact .tail _ (.tail _ (.tail _ (.tail _ (.tail _ (.tail _ (.tail _ (.head _))))))) | exact .tail _ (.tail _ (.tail _ (.tail _ (.tail _ (.tail _ (.tail _ (.tail _ (.head _)))))))) | exact .tail _ (.tail _ (.tail _ (.tail _ (.tail _ (.tail _ (.tail _ (.tail _ (.tail _ (.head _))))))))) | exact .tail _ (.tail _ (.tail _ (.tail _ (.tail _ (.tail _ (.tail _ (.tail _ (.tail _ (.tail _ (.head _)))))))))) | exact .tail _ (.tail _ (.tail _ (.tail _ (.tail _ (.tail _ (.tail _ (.tail _ (.tail _ (.tail _ (.tail _ (.head _))))))))))) | exact .tail _ (.tail _ (.tail _ (.tail _ (.tail _ (.tail _ (.tail _ (.tail _ (.tail _ (.tail _ (.tail _ (.tail _ (.head _)))))))))))) | exact .tail _ (.tail _ (.tail _ (.tail _ (.tail _ (.tail _ (.tail _ (.tail _ (.tail _ (.tail _ (.tail _ (.tail _ (.tail _ (.head _))))))))))))))
    have f1 : ∀ b : Bool, suF D t x r = b → (b = true → zor (msk (suF D t x) r : Int) (zshl 1 (r : Int)) = (msk (suF D t x) (r + 1) : Int)) ∧ (b = false → zor (msk (suF D t x) r : Int) 0 = (msk (suF D t x) (r + 1) : Int)) := fun b hb => by
      refine ⟨fun e => zor_msk (by omega) (hb.trans e), fun e => ?_⟩
      rw [show (0 : Int) = ((0 : Nat) : Int) from rfl, zor_n (by omega) (by omega), Nat.or_zero, msk_no _ _ (hb.trans e)]
    have hse : seF D t r = Nat.beq (woD D t r) (toD D t) := by unfold seF; rw [bltT h0]; rfl
    have hst : stF D t r = Nat.beq (woD D t r) 0 := by unfold stF; rw [bltT h0]; rfl
    have fe : x = 0 → suF D t x r = Nat.beq (woD D t r) (toD D t) := fun c => by unfold suF; rw [if_pos c, hse]
    have ft : ¬ x = 0 → suF D t x r = Nat.beq (woD D t r) 0 := fun c => by unfold suF; rw [if_neg c, hst]
    refine zwq_ok (Z_X12_sure l) rfl [61, 112] (fun _ _ _ _ _ _ h => h) 400 (Z_X12_sure l) ?_
    refine ⟨fun c => ⟨fun c2 => ⟨D, caL D t, r, ⟨rfl, hD, hM, hc, hw, rfl⟩, fun c3 => ⟨fun c4 => ?_, fun c4 => ?_⟩, fun c3 => ⟨fun c4 => ?_, fun c4 => ?_⟩⟩, fun c2 => by omega⟩, fun c => by omega⟩
    · exact nx _ ((f1 true (by rw [fe c3, nbeq]; omega)).1 rfl)
    · exact nx _ ((f1 false (by rw [fe c3]; exact beqN (by omega))).2 rfl)
    · exact nx _ ((f1 true (by rw [ft c3, nbeq]; omega)).1 rfl)
    · exact nx _ ((f1 false (by rw [ft c3]; exact beqN (by omega))).2 rfl)
theorem R_X12_sure (l : Launch) (a : List zV) (S : zS) (Q : zR2 → zS → Prop) (h : wp_X12_sure a S Q) : zRs l 5 0 0 yX12_sure (.code yX12_sure cX12_sure 8 (some .int)) a S Q := by
  unfold wp_X12_sure at h
  split at h
  · rename_i c x
    obtain ⟨D, E, T, N, ⟨rfl, hM, hX⟩, h⟩ := h
    have hM0 : mOK (zu S 62 0 0) D := hM.now.u (Or.inl rfl)
    have hP := p_lt hX.now
    have h8 := hX.now.rooms
    have ht := hr_lt hX.now
    have sg : ∀ r, r < dR D → zu S 62 0 0 82 r = (dS D r : Int) := fun r hr => hM.now.seen r (by omega)
    unfold sureA at h
    by_cases hx : 0 ≤ x ∧ x < 3
    · rw [if_pos hx] at h
      obtain ⟨x1, x2⟩ := hx
      refine zRs_of 12 (by decide) rfl rfl ?_; refine zwq_ok (Z_X12_sure l) rfl [61] (fun _ _ _ _ _ _ h => h) 400 (Z_X12_sure l) ?_
      refine ⟨fun _ => ⟨⟨rfl, Or.inr rfl⟩, fun _ c9 => absurd c9 (by decide), fun _ _ => ⟨fun c9 => absurd c9 (by decide), fun _ => ⟨D, ⟨rfl, hM0⟩, D, hrD D, ⟨rfl, hX.now, hM0, rfl, ht⟩, fun c => ⟨fun c9 => absurd c9 (by decide), fun _ => ?_⟩, fun c => ⟨fun _ => ⟨D, ⟨rfl, hM0⟩, D, hrD D, dP D, dS D, ⟨rfl, Or.inl rfl, hX.now, hM0, rfl, ht, hM.now.seenRooms, hP, sg, by omega⟩, fun S' c1 c2 => ?_⟩, fun c9 => absurd rfl c9⟩⟩⟩, rfl, by decide⟩, fun c9 => by omega⟩
      · rw [if_pos c] at h
        exact mGood hM h
      · rw [if_neg c] at h
        have hro := rwO_ca hX.now ht (show rowD D (hrD D) (dL D) ≤ 4000 by omega)
        rw [csL_ca hX.now ht] at c1
        obtain ⟨g1, g2, g3⟩ := mSk hM c2
        have fin : Q (.inl (some (.inl (if x = 2 then knD D (hrD D) else (msk (suF D (hrD D) x) (dR D) : Int))))) S' := by
          by_cases e2 : x = 2
          · rw [if_pos e2] at h ⊢
            exact h S' _ g1 g2 g3 (fun _ => rfl)
          · rw [if_neg e2] at h ⊢
            by_cases e0 : x = 0
            · rw [if_pos e0] at h
              refine h S' _ g1 g2 g3 (fun _ => ?_)
              rw [msk_eq (g := seF D (hrD D)) (fun j _ => by unfold suF; rw [if_pos e0])]
            · rw [if_neg e0] at h
              refine h S' _ g1 g2 g3 (fun _ => ?_)
              rw [msk_eq (g := stF D (hrD D)) (fun j _ => by unfold suF; rw [if_neg e0])]
        by_cases h0 : 0 < toD D (hrD D)
        · unfold knD at fin
          rw [if_pos h0] at fin
          exact L_X12_sure hX.now g1.now ht c1 hro h0 fin (dR D) 0 (-1) 0 (by omega) rfl
        · unfold knD at fin
          rw [if_neg h0] at fin
          have ez : msk (suF D (hrD D) x) (dR D) = 0 := by
            have : msk (suF D (hrD D) x) (dR D) = msk (fun _ => false) (dR D) := msk_eq (fun j _ => by
              unfold suF seF stF
              rw [bltF h0]
              split <;> rfl)
            rw [this]
            have g : ∀ n, msk (fun _ => false) n = 0 := by
              intro n
              induction n with
              | zero => rfl
              | succ n ih => rw [msk_no _ _ rfl, ih]
            exact g _
          rw [ez] at fin
          have eC := c1.1
          rw [caL_len] at eC
          refine zwq_ok (Z_X12_sure l) rfl [61] (fun _ _ _ _ _ _ h => h) 400 (Z_X12_sure l) ?_
          refine ⟨fun c => ⟨fun c2 => by omega, fun c2 => ⟨fun c3 => ?_, fun c3 => ?_⟩⟩, fun c => ⟨fun c3 => ?_, fun c3 => ?_⟩⟩
          · rw [if_pos c3] at fin; exact fin
          · rw [if_neg c3] at fin; exact fin
          · rw [if_pos c3] at fin; exact fin
          · rw [if_neg c3] at fin; exact fin
    · rw [if_neg hx] at h
      have h := mFail1 hM h
      refine zRs_of 12 (by decide) rfl rfl ?_; refine zwq_ok (Z_X12_sure l) rfl [61] (fun _ _ _ _ _ _ h => h) 400 (Z_X12_sure l) ?_
      refine ⟨fun c9 => by omega, fun _ => ⟨⟨rfl, Or.inl rfl⟩, fun _ _ _ => ⟨fun _ => h, fun c9 => absurd rfl c9⟩, fun _ c9 => absurd c9 (by decide), rfl, by decide⟩⟩
  · exact h.elim
theorem m_sure {S : zS} {D E T : zD} {N : Nat} {K : zR2 → zS → Prop} {x : Int} (hM : eM S D E T) (hX : xOK D E T N) (h : mRes S D E T (sureA D x) K) : wp_X12_sure [.inr (.inl 62), .inl x] S K := ⟨D, E, T, N, ⟨rfl, hM, hX⟩, h⟩
def B_X12_where : List (Nat × zC) := [(7, (0, 0, 1, 1, 0, 0, 12)), (17, (0, 1, 0, 0, 0, 0, 12)), (20, (0, 2, 1, 1, 0, 0, 12)), (31, (0, 1, 0, 0, 0, 0, 12)), (42, (0, 3, 3, 4, 0, 0, 12)), (70, (0, 4, 2, 0, 0, 0, 12))]
def O_X12_where : zO := fun j a S K => match j with
  | 0 => wp_X12_isLodger a S K
  | 1 => wp_X12_hour a S K
  | 2 => wp_X12_isSpent a S K
  | 3 => wp_X12_seeks a S K
  | 4 => wp_X12_roomOf a S K
  | _ => False
theorem E_X12_where (l : Launch) : ∀ q ∈ B_X12_where, zcok l O_X12_where F_X12_where q.1 q.2 := List.forall_mem_cons.mpr ⟨⟨302, yX12_isLodger, cX12_isLodger, 2, some .boolean, by decide +kernel, C_12_302, W_X12_isLodger, I_X12_isLodger, S_X12_isLodger, rfl, rfl, R_X12_isLodger l⟩, List.forall_mem_cons.mpr ⟨⟨341, yX12_hour, cX12_hour, 1, some .int, by decide +kernel, C_12_341, W_X12_hour, I_X12_hour, S_X12_hour, rfl, rfl, R_X12_hour l⟩, List.forall_mem_cons.mpr ⟨⟨345, yX12_isSpent, cX12_isSpent, 4, some .boolean, by decide +kernel, C_12_345, W_X12_isSpent, I_X12_isSpent, S_X12_isSpent, rfl, rfl, R_X12_isSpent l⟩, List.forall_mem_cons.mpr ⟨⟨341, yX12_hour, cX12_hour, 1, some .int, by decide +kernel, C_12_341, W_X12_hour, I_X12_hour, S_X12_hour, rfl, rfl, R_X12_hour l⟩, List.forall_mem_cons.mpr ⟨⟨348, yX12_seeks, cX12_seeks, 6, none, by decide +kernel, C_12_348, W_X12_seeks, I_X12_seeks, S_X12_seeks, rfl, rfl, R_X12_seeks l⟩, List.forall_mem_cons.mpr ⟨⟨352, yX12_roomOf, cX12_roomOf, 3, some .int, by decide +kernel, C_12_352, W_X12_roomOf, I_X12_roomOf, S_X12_roomOf, rfl, rfl, R_X12_roomOf l⟩, fun _ h => by cases h⟩⟩⟩⟩⟩⟩
def U_X12_where : List (Nat × zE) := [(0, Sum.inl (4, 0, 0, 0, 1, [])), (1, Sum.inl (0, 0, 0, 0, 2, [])), (2, Sum.inl (19, 12, 0, 0, 5, [])), (5, Sum.inl (4, 0, 0, 0, 6, [])), (6, Sum.inl (2, 1, 0, 0, 7, [])), (7, Sum.inr (0, 0, 1, 1, 0, 0, 12)), (10, Sum.inl (17, 0, 13, 0, 15, [])), (13, Sum.inl (0, 0, 0, 0, 14, [])), (14, Sum.inl (27, 0, 0, 0, 15, [])), (15, Sum.inl (4, 0, 0, 0, 16, [])), (16, Sum.inl (4, 0, 0, 0, 17, [])), (17, Sum.inr (0, 1, 0, 0, 0, 0, 12)), (20, Sum.inr (0, 2, 1, 1, 0, 0, 12)), (23, Sum.inl (17, 0, 29, 0, 26, [])), (26, Sum.inl (0, 0, 0, (-2), 28, [])), (28, Sum.inl (27, 0, 0, 0, 29, [])), (29, Sum.inl (4, 0, 0, 0, 30, [])), (30, Sum.inl (4, 0, 0, 0, 31, [])), (31, Sum.inr (0, 1, 0, 0, 0, 0, 12)), (34, Sum.inl (4, 0, 0, 0, 35, [])), (35, Sum.inl (18, 12, 41, 0, 38, [])), (38, Sum.inl (4, 0, 0, 0, 39, [])), (39, Sum.inl (18, 12, 42, 0, 42, [])), (42, Sum.inr (0, 3, 3, 4, 0, 0, 12)), (45, Sum.inl (0, 0, 0, 0, 46, [])), (46, Sum.inl (5, 2, 0, 0, 47, [])), (47, Sum.inl (0, 0, 0, 0, 48, [])), (48, Sum.inl (5, 3, 0, 0, 49, [])), (49, Sum.inl (2, 3, 0, 0, 50, [])), (50, Sum.inl (4, 0, 0, 0, 51, [])), (51, Sum.inl (18, 12, 45, 0, 54, [])), (54, Sum.inl (16, 1, 57, 0, 98, [])), (57, Sum.inl (4, 0, 0, 0, 58, [])), (58, Sum.inl (2, 1, 0, 0, 59, [])), (59, Sum.inl (4, 0, 0, 0, 60, [])), (60, Sum.inl (18, 12, 44, 0, 63, [])), (63, Sum.inl (0, 0, 0, 6, 65, [])), (65, Sum.inl (2, 3, 0, 0, 66, [])), (66, Sum.inl (9, 2, 0, 0, 67, [])), (67, Sum.inl (2, 1, 0, 0, 68, [])), (68, Sum.inl (9, 0, 0, 0, 69, [])), (69, Sum.inl (20, 0, 0, 0, 70, [])), (70, Sum.inr (0, 4, 2, 0, 0, 0, 12)), (73, Sum.inl (5, 4, 0, 0, 75, [])), (75, Sum.inl (2, 2, 0, 0, 76, [])), (76, Sum.inl (2, 4, 0, 0, 78, [])), (78, Sum.inl (0, 0, 0, (-1), 79, [])), (79, Sum.inl (16, 0, 82, 0, 86, [])), (82, Sum.inl (0, 0, 0, 0, 83, [])), (83, Sum.inl (15, 0, 0, 0, 90, [])), (86, Sum.inl (0, 0, 0, 1, 87, [])), (87, Sum.inl (2, 4, 0, 0, 89, [])), (89, Sum.inl (9, 6, 0, 0, 90, [])), (90, Sum.inl (9, 4, 0, 0, 91, [])), (91, Sum.inl (5, 2, 0, 0, 92, [])), (92, Sum.inl (8, 3, 0, 1, 95, [])), (95, Sum.inl (15, 0, 0, 0, 49, [])), (98, Sum.inl (2, 2, 0, 0, 99, [])), (99, Sum.inl (27, 0, 0, 0, 100, []))]
theorem Z_X12_where (l : Launch) : ∀ q ∈ U_X12_where, zTok l O_X12_where F_X12_where q := zU_ok rfl rfl rfl K_X12_where (E_X12_where l)
def wp_X12_where (a : List zV) (S : zS) (K : zR2 → zS → Prop) : Prop := match a with
  | [.inr (.inl c), .inl x] => ∃ (D E T : zD) (N : Nat), (c = 62 ∧ eM S D E T ∧ xOK D E T N) ∧ mRes S D E T (whereA D x) K
  | _ => False
def wrF (D : zD) (i : Nat) (cs : List (List Nat)) (r : Nat) : Bool := cs.any (fun row => thr D r i (row.getD i 0))
theorem ro_lt {D : zD} (hD : dOK D) {t i : Nat} (ht : t < 24) (hi : i < dL D) {row : List Nat} (hr : row ∈ caL D t) : roI D i (row.getD i 0) < (dR D : Int) := by
  rw [← csL_ca hD ht] at hr
  have hr := (List.mem_filter.mp hr).1
  have h := ((pL_mem _ _ _ _).mp hr).2 i hi
  rw [Nat.zero_add] at h
  have hh := hD.home i hi
  unfold roI
  split
  · omega
  · split
    · omega
    · rename_i c0 c4
      have := hD.mayRoom i t (row.getD i 0 - 4) hi ht (by rw [show 4 + (row.getD i 0 - 4) = row.getD i 0 by omega]; exact (bl_mem.mp h).2)
      omega
theorem wr_step {D : zD} {i : Nat} {cs : List (List Nat)} {row : List Nat} {n : Nat} (hn : n ≤ 8) : (roI D i (row.getD i 0) = -1 → zor (msk (wrF D i cs) n : Int) 0 = (msk (wrF D i (cs ++ [row])) n : Int)) ∧ (∀ q : Nat, q < n → roI D i (row.getD i 0) = (q : Int) → zor (msk (wrF D i cs) n : Int) (zshl 1 (q : Int)) = (msk (wrF D i (cs ++ [row])) n : Int)) := by
  have hlt := msk_lt (wrF D i cs) n
  have hp : 2 ^ n ≤ 2 ^ 8 := Nat.pow_le_pow_right (by decide) hn
  have hd : ∀ r, wrF D i (cs ++ [row]) r = (wrF D i cs r || thr D r i (row.getD i 0)) := fun r => by
    unfold wrF
    rw [List.any_append]
    simp only [List.any_cons, List.any_nil, Bool.or_false]
  refine ⟨fun e => ?_, fun q hq e => ?_⟩
  · rw [show (0 : Int) = ((0 : Nat) : Int) from rfl, zor_n (by omega) (by omega), Nat.or_zero]
    congr 1
    refine msk_eq (fun r _ => ?_)
    rw [hd, show thr D r i (row.getD i 0) = false by
      cases hb : thr D r i (row.getD i 0)
      · rfl
      · have := (thr_ro D r i (row.getD i 0)).mp hb; omega, Bool.or_false]
  · have hq2 : 2 ^ q < 2 ^ n := Nat.pow_lt_pow_right (by decide) hq
    rw [zsh1_n (by omega), zor_n (by omega) (by omega)]
    congr 1
    refine eq_msk (Nat.or_lt_two_pow hlt hq2) (fun r hr => ?_)
    rw [Nat.testBit_or, tb_msk, tb_p2, hd, bltT hr, Bool.true_and]
    congr 1
    rw [Bool.eq_iff_iff, nbeq, thr_ro]
    omega
theorem L_X12_where {l : Launch} {S : zS} {Q : zR2 → zS → Prop} {D : zD} {t i : Nat} (hD : dOK D) (hM : mOK S D) (ht : t < 24) (hi : i < dL D) (hc : csM S D (caL D t)) (hw : rwO D (caL D t)) (h : Q (.inl (some (.inl (msk (wrF D i (caL D t)) (dR D) : Int)))) S) (f : Nat) : ∀ k, k + f = (caL D t).length → zGs l 5 0 0 F_X12_where S 49 [(0, .inr (.inl 62)), (1, .inl (i : Int)), (2, .inl (msk (wrF D i ((caL D t).take k)) (dR D) : Int)), (3, .inl (k : Int))] [] Q := by
  have h8 := hD.rooms
  have h6 := hD.lodgers
  have eC := hc.1
  have w0 := hw.1
  induction f with
  | zero =>
    intro k hk
    rw [List.take_of_length_le (by omega)]
    refine zwq_ok (Z_X12_where l) rfl [49] (fun _ _ _ _ _ _ h => h) 400 (Z_X12_where l) ?_
    exact ⟨fun c => by omega, fun c => h⟩
  | succ f ih =>
    intro k hk
    have hlt : k < (caL D t).length := by omega
    have hg : (caL D t)[k]? = some (caL D t)[k] := List.getElem?_eq_getElem hlt
    have hmem := List.getElem_mem hlt
    have hS := hc.2 k _ hg i hi
    have ha := (hw.2 _ hmem).2 i hi
    have hro := ro_lt hD ht hi hmem
    have this := ih (k + 1) (by omega)
    rw [List.take_succ_eq_append_getElem hlt] at this
    generalize (caL D t)[k] = row at *
    obtain ⟨s1, s2⟩ := wr_step (D := D) (i := i) (cs := (caL D t).take k) (row := row) (n := dR D) h8
    have hge : roI D i (row.getD i 0) = -1 ∨ 0 ≤ roI D i (row.getD i 0) := by
      unfold roI
      split
      · exact Or.inl rfl
      · split <;> omega
    refine zwq_ok (Z_X12_where l) rfl [49] (fun _ _ _ _ _ _ h => h) 400 (Z_X12_where l) ?_
    refine ⟨fun c => ⟨by omega, by omega, 6 * k + i, ⟨by omega, by omega⟩, D, i, row.getD i 0, ⟨rfl, hD, hM, rfl, hS, hi, ha⟩, fun c2 => ⟨by omega, ?_⟩, fun c2 => ⟨by omega, ?_⟩⟩, fun c => by omega⟩
    · rw [s1 c2]
      exact zGs.sub (lo := [(0, _), (1, _), (2, _), (3, _), (4, _)]) this (fun q hq => by simp only [List.mem_cons, List.not_mem_nil, or_false] at hq; rcases hq with rfl | rfl | rfl | rfl <;> first | exact .head _ | exact .tail _ (.head _) | exact .tail _ (.tail _ (.head _)) | exact .tail _ (.tail _ (.tail _ (.head _))) | exact .tail _ (.tail _ (.tail _ (.tail _ (.head _)))) | exact .tail _ (.tail _ (.tail _ (.tail _ (.tail _ (.head _))))) | exact .tail _ (.tail _ (.tail _ (.tail _ (.tail _ (.tail _ (.head _)))))) | exact .tail _ (.tail _ (.tail _ (.tail _ (.tail _ (.tail _ (.tail _ (.head _))))))) | exact .tail _ (.tail _ (.tail _ (.tail _ (.tail _ (.tail _ (.tail _ (.tail _ (.head _)))))))) | exact .tail _ (.tail _ (.tail _ (.tail _ (.tail _ (.tail _ (.tail _ (.tail _ (.tail _ (.head _))))))))) | exact .tail _ (.tail _ (.tail _ (.tail _ (.tail _ (.tail _ (.tail _ (.tail _ (.tail _ (.tail _ (.head _)))))))))) | exact .tail _ (.tail _ (.tail _ (.tail _ (.tail _ (.tail _ (.tail _ (.tail _ (.tail _ (.tail _ (.tail _ (.head _))))))))))) | exact .tail _ (.tail _ (.tail _ (.tail _ (.tail _ (.tail _ (.tail _ (.tail _ (.tail _ (.tail _ (.tail _ (.tail _ (.head _)))))))))))) | exact .tail _ (.tail _ (.tail _ (.tail _ (.tail _ (.tail _ (.tail _ (.tail _ (.tail _ (.tail _ (.tail _ (.tail _ (.tail _ (.head _))))))))))))))
    · have e := s2 (roI D i (row.getD i 0)).toNat (by omega) (by omega)
      rw [show (((roI D i (row.getD i 0)).toNat : Nat) : Int) = roI D i (row.getD i 0) by omega] at e
      rw [e]
      exact zGs.sub (lo := [(0, _), (1, _), (2, _), (3, _), (4, _)]) this (fun q hq => by simp only [List.mem_cons, List.not_mem_nil, or_false] at hq; rcases hq with rfl | rfl | rfl | rfl <;> first | exact .head _ | exact .tail _ (.head _) | exact .tail _ (.tail _ (.head _)) | exact .tail _ (.tail _ (.tail _ (.head _))) | exact .tail _ (.tail _ (.tail _ (.tail _ (.head _)))) | exact .tail _ (.tail _ (.tail _ (.tail _ (.tail _ (.head _))))) | exact .tail _ (.tail _ (.tail _ (.tail _ (.tail _ (.tail _ (.head _)))))) | exact .tail _ (.tail _ (.tail _ (.tail _ (.tail _ (.tail _ (.tail _ (.head _))))))) | exact .tail _ (.tail _ (.tail _ (.tail _ (.tail _ (.tail _ (.tail _ (.tail _ (.head _)))))))) | exact .tail _ (.tail _ (.tail _ (.tail _ (.tail _ (.tail _ (.tail _ (.tail _ (.tail _ (.head _))))))))) | exact .tail _ (.tail _ (.tail _ (.tail _ (.tail _ (.tail _ (.tail _ (.tail _ (.tail _ (.tail _ (.head _)))))))))) | exact .tail _ (.tail _ (.tail _ (.tail _ (.tail _ (.tail _ (.tail _ (.tail _ (.tail _ (.tail _ (.tail _ (.head _))))))))))) | exact .tail _ (.tail _ (.tail _ (.tail _ (.tail _ (.tail _ (.tail _ (.tail _ (.tail _ (.tail _ (.tail _ (.tail _ (.head _)))))))))))) | exact .tail _ (.tail _ (.tail _ (.tail _ (.tail _ (.tail _ (.tail _ (.tail _ (.tail _ (.tail _ (.tail _ (.tail _ (.tail _ (.head _))))))))))))))
theorem getD_set {row : List Nat} {i k a : Nat} (hi : i < row.length) : (row.set i a).getD k 0 = if k = i then a else row.getD k 0 := by
  rw [List.getD_eq_getElem?_getD, List.getD_eq_getElem?_getD, List.getElem?_set]
  by_cases e : k = i
  · subst e
    rw [if_pos rfl, if_pos rfl, if_pos hi]
    rfl
  · rw [if_neg (fun z => e z.symm), if_neg e]
theorem wr_ro {D : zD} {t i : Nat} (hi : i < dL D) (h0 : 0 < toD D t) (r : Nat) : wrF D i (caL D t) r = roF D t i r := by
  have he : erD D = true := by
    unfold toD at h0
    cases h : erD D
    · rw [h] at h0; exact absurd h0 (Nat.not_lt_zero 0)
    · rfl
  have hc : caL D t = pL (heL D t) (dL D) 0 := by unfold caL; rw [he]; rfl
  obtain ⟨row0, hr0, _⟩ := caL_get h0
  rw [hc] at hr0
  obtain ⟨l0, m0⟩ := (pL_mem _ _ _ _).mp (List.mem_of_getElem? hr0)
  unfold wrF roF
  rw [Bool.eq_iff_iff, List.any_eq_true, List.any_eq_true, hc]
  constructor
  · rintro ⟨row, hr, ht⟩
    have := ((pL_mem _ _ _ _).mp hr).2 i hi
    rw [Nat.zero_add] at this
    exact ⟨_, this, ht⟩
  · rintro ⟨a, ha, ht⟩
    refine ⟨row0.set i a, (pL_mem _ _ _ _).mpr ⟨by rw [List.length_set]; exact l0, fun k hk => ?_⟩, ?_⟩
    · rw [getD_set (by omega)]
      by_cases e : k = i
      · rw [if_pos e, Nat.zero_add, e]; exact ha
      · rw [if_neg e]; exact m0 k hk
    · rw [getD_set (by omega), if_pos rfl]
      exact ht
theorem R_X12_where (l : Launch) (a : List zV) (S : zS) (Q : zR2 → zS → Prop) (h : wp_X12_where a S Q) : zRs l 5 0 0 yX12_where (.code yX12_where cX12_where 5 (some .int)) a S Q := by
  unfold wp_X12_where at h
  split at h
  · rename_i c x
    obtain ⟨D, E, T, N, ⟨rfl, hM, hX⟩, h⟩ := h
    have hM0 : mOK (zu S 62 0 0) D := hM.now.u (Or.inl rfl)
    have hP := p_lt hX.now
    have h8 := hX.now.rooms
    have ht := hr_lt hX.now
    have e1 : zu S 62 0 0 62 2 = (dL D : Int) := hM.now.lodgers
    have sg : ∀ r, r < dR D → zu S 62 0 0 82 r = (dS D r : Int) := fun r hr => hM.now.seen r (by omega)
    unfold whereA at h
    by_cases hx : 0 ≤ x ∧ x < dL D
    · rw [if_pos hx] at h
      obtain ⟨x1, x2⟩ := hx
      refine zRs_of 12 (by decide) rfl rfl ?_; refine zwq_ok (Z_X12_where l) rfl [49] (fun _ _ _ _ _ _ h => h) 400 (Z_X12_where l) ?_
      refine ⟨⟨rfl, rfl⟩, fun _ => ⟨fun c9 => absurd c9 (by decide), fun _ => ⟨D, ⟨rfl, hM0⟩, D, hrD D, ⟨rfl, hX.now, hM0, rfl, ht⟩, fun c => ⟨fun c9 => absurd c9 (by decide), fun _ => ?_⟩, fun c => ⟨fun _ => ⟨D, ⟨rfl, hM0⟩, D, hrD D, dP D, dS D, ⟨rfl, Or.inl rfl, hX.now, hM0, rfl, ht, hM.now.seenRooms, hP, sg, by omega⟩, fun S' c1 c2 => ?_⟩, fun c9 => absurd rfl c9⟩⟩⟩, fun c9 => by omega⟩
      · rw [if_pos c] at h
        exact mGood hM h
      · rw [if_neg c] at h
        have hro := rwO_ca hX.now ht (show rowD D (hrD D) (dL D) ≤ 4000 by omega)
        rw [csL_ca hX.now ht] at c1
        obtain ⟨g1, g2, g3⟩ := mSk hM c2
        have fin : Q (.inl (some (.inl (msk (wrF D x.toNat (caL D (hrD D))) (dR D) : Int)))) S' := by
          by_cases h0 : toD D (hrD D) = 0
          · rw [if_pos h0] at h
            refine h S' _ g1 g2 g3 (fun _ => ?_)
            have e0 : caL D (hrD D) = [] := List.eq_nil_of_length_eq_zero (by rw [caL_len]; exact h0)
            rw [e0]
            have g : ∀ n, msk (wrF D x.toNat []) n = 0 := by
              intro n
              induction n with
              | zero => rfl
              | succ n ih => rw [msk_no _ _ rfl, ih]
            rw [g]
            rfl
          · rw [if_neg h0] at h
            refine h S' _ g1 g2 g3 (fun _ => ?_)
            rw [msk_eq (fun r _ => wr_ro (D := D) (t := hrD D) (i := x.toNat) (by omega) (by omega) r)]
        have g0 : ∀ n, msk (wrF D x.toNat []) n = 0 := by
          intro n
          induction n with
          | zero => rfl
          | succ n ih => rw [msk_no _ _ rfl, ih]
        have this := L_X12_where (l := l) (i := x.toNat) hX.now g1.now ht (by omega) c1 hro fin _ 0 (Nat.zero_add _)
        rw [List.take_zero, g0, show ((x.toNat : Nat) : Int) = x by omega] at this
        exact this
    · rw [if_neg hx] at h
      have h := mFail1 hM h
      refine zRs_of 12 (by decide) rfl rfl ?_; refine zwq_ok (Z_X12_where l) rfl [49] (fun _ _ _ _ _ _ h => h) 400 (Z_X12_where l) ?_
      refine ⟨⟨rfl, rfl⟩, fun c9 => by omega, fun _ => ⟨fun _ => h, fun c9 => absurd rfl c9⟩⟩
  · exact h.elim
theorem m_where {S : zS} {D E T : zD} {N : Nat} {K : zR2 → zS → Prop} {x : Int} (hM : eM S D E T) (hX : xOK D E T N) (h : mRes S D E T (whereA D x) K) : wp_X12_where [.inr (.inl 62), .inl x] S K := ⟨D, E, T, N, ⟨rfl, hM, hX⟩, h⟩
