/-! rests: the model -/
def B_X12_rests : List (Nat × zC) := [(7, (0, 0, 1, 1, 0, 0, 12)), (17, (1, 1, 3, 0, 0, 0, 0)), (21, (0, 2, 2, 0, 0, 0, 12)), (44, (0, 2, 2, 0, 0, 0, 12)), (81, (0, 3, 2, 3, 0, 0, 12)), (177, (0, 4, 1, 1, 0, 0, 12)), (200, (0, 5, 2, 0, 0, 0, 12)), (232, (0, 2, 2, 0, 0, 0, 12))]
def O_X12_rests : zO := fun j a S K => match j with
  | 0 => wp_X12_isHour a S K
  | 1 => wp_X12_within a S K
  | 2 => wp_X12_right a S K
  | 3 => wp_X12_chanceOf a S K
  | 4 => wp_X12_isRest a S K
  | 5 => wp_X12_copies a S K
  | _ => False
theorem E_X12_rests (l : Launch) : ∀ q ∈ B_X12_rests, zcok l O_X12_rests F_X12_rests q.1 q.2 := List.forall_mem_cons.mpr ⟨⟨305, yX12_isHour, cX12_isHour, 2, some .boolean, by decide +kernel, C_12_305, W_X12_isHour, I_X12_isHour, S_X12_isHour, rfl, rfl, R_X12_isHour l⟩, List.forall_mem_cons.mpr ⟨⟨283, yX12_within, cX12_within, 3, some .boolean, by decide +kernel, C_12_283, W_X12_within, I_X12_within, rfl, R_X12_within l⟩, List.forall_mem_cons.mpr ⟨⟨241, yX12_right, cX12_right, 3, some .boolean, by decide +kernel, C_12_241, W_X12_right, I_X12_right, S_X12_right, rfl, rfl, R_X12_right l⟩, List.forall_mem_cons.mpr ⟨⟨241, yX12_right, cX12_right, 3, some .boolean, by decide +kernel, C_12_241, W_X12_right, I_X12_right, S_X12_right, rfl, rfl, R_X12_right l⟩, List.forall_mem_cons.mpr ⟨⟨371, yX12_chanceOf, cX12_chanceOf, 6, some .int, by decide +kernel, C_12_371, W_X12_chanceOf, I_X12_chanceOf, S_X12_chanceOf, rfl, rfl, R_X12_chanceOf l⟩, List.forall_mem_cons.mpr ⟨⟨386, yX12_isRest, cX12_isRest, 5, some .boolean, by decide +kernel, C_12_386, W_X12_isRest, I_X12_isRest, S_X12_isRest, rfl, rfl, R_X12_isRest l⟩, List.forall_mem_cons.mpr ⟨⟨260, yX12_copies, cX12_copies, 4, none, by decide +kernel, C_12_260, W_X12_copies, I_X12_copies, S_X12_copies, rfl, rfl, R_X12_copies l⟩, List.forall_mem_cons.mpr ⟨⟨241, yX12_right, cX12_right, 3, some .boolean, by decide +kernel, C_12_241, W_X12_right, I_X12_right, S_X12_right, rfl, rfl, R_X12_right l⟩, fun _ h => by cases h⟩⟩⟩⟩⟩⟩⟩⟩
def U_X12_rests : List (Nat × zE) := [(0, Sum.inl (4, 0, 0, 0, 1, [])), (1, Sum.inl (0, 0, 0, 0, 2, [])), (2, Sum.inl (19, 12, 0, 0, 5, [])), (5, Sum.inl (4, 0, 0, 0, 6, [])), (6, Sum.inl (2, 1, 0, 0, 7, [])), (7, Sum.inr (0, 0, 1, 1, 0, 0, 12)), (10, Sum.inl (17, 0, 50, 0, 13, [])), (13, Sum.inl (4, 0, 0, 0, 14, [])), (14, Sum.inl (2, 2, 0, 0, 15, [])), (15, Sum.inl (0, 0, 0, 1, 16, [])), (16, Sum.inl (0, 0, 0, 3, 17, [])), (17, Sum.inr (1, 1, 3, 0, 0, 0, 0)), (20, Sum.inl (0, 0, 0, 2, 21, [])), (21, Sum.inr (0, 2, 2, 0, 0, 0, 12)), (24, Sum.inl (17, 0, 50, 0, 27, [])), (27, Sum.inl (4, 0, 0, 0, 28, [])), (28, Sum.inl (2, 3, 0, 0, 29, [])), (29, Sum.inl (0, 0, 0, (-1), 30, [])), (30, Sum.inl (16, 1, 42, 0, 33, [])), (33, Sum.inl (2, 3, 0, 0, 34, [])), (34, Sum.inl (2, 2, 0, 0, 35, [])), (35, Sum.inl (16, 1, 38, 0, 42, [])), (38, Sum.inl (0, 0, 0, 1, 39, [])), (39, Sum.inl (15, 0, 0, 0, 43, [])), (42, Sum.inl (0, 0, 0, 0, 43, [])), (43, Sum.inl (0, 0, 0, 1, 44, [])), (44, Sum.inr (0, 2, 2, 0, 0, 0, 12)), (47, Sum.inl (17, 0, 50, 0, 52, [])), (50, Sum.inl (0, 0, 0, 0, 51, [])), (51, Sum.inl (27, 0, 0, 0, 52, [])), (52, Sum.inl (0, 0, 0, 0, 53, [])), (53, Sum.inl (5, 4, 0, 0, 55, [])), (55, Sum.inl (2, 4, 0, 0, 57, [])), (57, Sum.inl (4, 0, 0, 0, 58, [])), (58, Sum.inl (18, 12, 1, 0, 61, [])), (61, Sum.inl (16, 1, 64, 0, 92, [])), (64, Sum.inl (4, 0, 0, 0, 65, [])), (65, Sum.inl (18, 12, 55, 0, 68, [])), (68, Sum.inl (2, 4, 0, 0, 70, [])), (70, Sum.inl (4, 0, 0, 0, 71, [])), (71, Sum.inl (18, 12, 5, 0, 74, [])), (74, Sum.inl (2, 4, 0, 0, 76, [])), (76, Sum.inl (20, 0, 0, 0, 77, [])), (77, Sum.inl (4, 0, 0, 0, 78, [])), (78, Sum.inl (2, 4, 0, 0, 80, [])), (80, Sum.inl (2, 1, 0, 0, 81, [])), (81, Sum.inr (0, 3, 2, 3, 0, 0, 12)), (84, Sum.inl (9, 2, 0, 0, 85, [])), (85, Sum.inl (21, 0, 0, 0, 86, [])), (86, Sum.inl (8, 4, 0, 1, 89, [])), (89, Sum.inl (15, 0, 0, 0, 55, [])), (92, Sum.inl (0, 0, 0, 1, 93, [])), (93, Sum.inl (5, 4, 0, 0, 95, [])), (95, Sum.inl (0, 0, 0, 0, 96, [])), (96, Sum.inl (5, 5, 0, 0, 98, [])), (98, Sum.inl (2, 5, 0, 0, 100, [])), (100, Sum.inl (2, 2, 0, 0, 101, [])), (101, Sum.inl (16, 1, 104, 0, 119, [])), (104, Sum.inl (2, 4, 0, 0, 106, [])), (106, Sum.inl (4, 0, 0, 0, 107, [])), (107, Sum.inl (18, 12, 1, 0, 110, [])), (110, Sum.inl (9, 2, 0, 0, 111, [])), (111, Sum.inl (5, 4, 0, 0, 113, [])), (113, Sum.inl (8, 5, 0, 1, 116, [])), (116, Sum.inl (15, 0, 0, 0, 98, [])), (119, Sum.inl (0, 0, 0, 0, 120, [])), (120, Sum.inl (5, 5, 0, 0, 122, [])), (122, Sum.inl (0, 0, 0, 0, 123, [])), (123, Sum.inl (5, 6, 0, 0, 125, [])), (125, Sum.inl (2, 6, 0, 0, 127, [])), (127, Sum.inl (2, 4, 0, 0, 129, [])), (129, Sum.inl (16, 1, 132, 0, 212, [])), (132, Sum.inl (2, 6, 0, 0, 134, [])), (134, Sum.inl (5, 7, 0, 0, 136, [])), (136, Sum.inl (2, 2, 0, 0, 137, [])), (137, Sum.inl (0, 0, 0, 1, 138, [])), (138, Sum.inl (9, 1, 0, 0, 139, [])), (139, Sum.inl (5, 8, 0, 0, 141, [])), (141, Sum.inl (2, 8, 0, 0, 143, [])), (143, Sum.inl (17, 1, 175, 0, 146, [])), (146, Sum.inl (4, 0, 0, 0, 147, [])), (147, Sum.inl (18, 12, 53, 0, 150, [])), (150, Sum.inl (2, 8, 0, 0, 152, [])), (152, Sum.inl (2, 7, 0, 0, 154, [])), (154, Sum.inl (4, 0, 0, 0, 155, [])), (155, Sum.inl (18, 12, 1, 0, 158, [])), (158, Sum.inl (9, 10, 0, 0, 159, [])), (159, Sum.inl (21, 0, 0, 0, 160, [])), (160, Sum.inl (2, 7, 0, 0, 162, [])), (162, Sum.inl (4, 0, 0, 0, 163, [])), (163, Sum.inl (18, 12, 1, 0, 166, [])), (166, Sum.inl (9, 9, 0, 0, 167, [])), (167, Sum.inl (5, 7, 0, 0, 169, [])), (169, Sum.inl (8, 8, 0, (-1), 172, [])), (172, Sum.inl (15, 0, 0, 0, 141, [])), (175, Sum.inl (4, 0, 0, 0, 176, [])), (176, Sum.inl (2, 2, 0, 0, 177, [])), (177, Sum.inr (0, 4, 1, 1, 0, 0, 12)), (180, Sum.inl (17, 0, 183, 0, 186, [])), (183, Sum.inl (15, 0, 0, 0, 206, [])), (186, Sum.inl (2, 5, 0, 0, 188, [])), (188, Sum.inl (17, 0, 191, 0, 203, [])), (191, Sum.inl (4, 0, 0, 0, 192, [])), (192, Sum.inl (4, 0, 0, 0, 193, [])), (193, Sum.inl (18, 12, 53, 0, 196, [])), (196, Sum.inl (4, 0, 0, 0, 197, [])), (197, Sum.inl (18, 12, 54, 0, 200, [])), (200, Sum.inr (0, 5, 2, 0, 0, 0, 12)), (203, Sum.inl (8, 5, 0, 1, 206, [])), (206, Sum.inl (8, 6, 0, 1, 209, [])), (209, Sum.inl (15, 0, 0, 0, 125, [])), (212, Sum.inl (2, 3, 0, 0, 213, [])), (213, Sum.inl (0, 0, 0, (-1), 214, [])), (214, Sum.inl (16, 0, 217, 0, 220, [])), (217, Sum.inl (2, 5, 0, 0, 219, [])), (219, Sum.inl (27, 0, 0, 0, 220, [])), (220, Sum.inl (4, 0, 0, 0, 221, [])), (221, Sum.inl (2, 5, 0, 0, 223, [])), (223, Sum.inl (17, 2, 226, 0, 230, [])), (226, Sum.inl (0, 0, 0, 1, 227, [])), (227, Sum.inl (15, 0, 0, 0, 231, [])), (230, Sum.inl (0, 0, 0, 0, 231, [])), (231, Sum.inl (0, 0, 0, 1, 232, [])), (232, Sum.inr (0, 2, 2, 0, 0, 0, 12)), (235, Sum.inl (17, 0, 247, 0, 238, [])), (238, Sum.inl (4, 0, 0, 0, 239, [])), (239, Sum.inl (18, 12, 54, 0, 242, [])), (242, Sum.inl (2, 3, 0, 0, 243, [])), (243, Sum.inl (20, 0, 0, 0, 244, [])), (244, Sum.inl (15, 0, 0, 0, 248, [])), (247, Sum.inl (0, 0, 0, 0, 248, [])), (248, Sum.inl (27, 0, 0, 0, 249, []))]
set_option maxRecDepth 20000 in
theorem Z_X12_rests (l : Launch) : ∀ q ∈ U_X12_rests, zTok l O_X12_rests F_X12_rests q := zU_ok rfl rfl rfl K_X12_rests (E_X12_rests l)
def wp_X12_rests (a : List zV) (S : zS) (K : zR2 → zS → Prop) : Prop := match a with
  | [.inr (.inl c), .inl x, .inl y, .inl z] => ∃ (D E T : zD) (N : Nat), (c = 62 ∧ eM S D E T ∧ xOK D E T N) ∧ mRes S D E T (restsA D x y z) K
  | _ => False
def frR (S S0 : zS) : Prop := ∀ c, (c < 91 ∨ 93 < c) → S c = S0 c
theorem mOK.rr {S S0 : zS} {D : zD} (h : mOK S0 D) (hf : frR S S0) : mOK S D := h.fr (fun j _ _ => by rw [hf 62 (by omega)]) (fun c hc => hf c (by omega))
section
variable {l : Launch} {S0 : zS} {Q : zR2 → zS → Prop} {D : zD} {t w k : Nat} {z : Int}
/-- behind the rows -/
theorem L3_X12_rests (hD : dOK D) (hM : mOK S0 D) (hk : k ≤ 3) (hR : 0 < dR D) {W n : Int} (h : ∀ S, gaM S k (dgN (dR D) k w) → (∀ c, c ≠ 91 → S c = S0 c) → zGs l 4 0 0 F_X12_rests S 175 [(0, .inr (.inl 62)), (1, .inl (t : Int)), (2, .inl (k : Int)), (3, .inl z), (4, .inl W), (5, .inl n), (6, .inl (w : Int))] [] Q) : ∀ j S, j ≤ k → (∀ p, j ≤ p → p < k → S 91 p = (dgN (dR D) k w p : Int)) → (∀ c, c ≠ 91 → S c = S0 c) → zGs l 4 0 0 F_X12_rests S 141 [(0, .inr (.inl 62)), (1, .inl (t : Int)), (2, .inl (k : Int)), (3, .inl z), (4, .inl W), (5, .inl n), (6, .inl (w : Int)), (7, .inl ((w / dR D ^ (k - j) : Nat) : Int)), (8, .inl ((j : Int) - 1))] [] Q := by
  have h8 := hD.rooms
  intro j
  induction j with
  | zero =>
    intro S hj a1 a3
    have := h S (fun p hp => a1 p (by omega) hp) a3
    refine zwq_ok (Z_X12_rests l) rfl [141, 175] (fun _ _ _ _ _ _ h => h) 400 (Z_X12_rests l) ?_
    refine ⟨fun c => ?_, fun c => absurd c (by decide)⟩
    exact zGs.sub (lo := [(0, _), (1, _), (2, _), (3, _), (4, _), (5, _), (6, _), (7, _), (8, _)]) this (fun q hq => by simp only [List.mem_cons, List.not_mem_nil, or_false] at hq; rcases hq with rfl | rfl | rfl | rfl | rfl | rfl | rfl <;> first | exact .head _ | exact .tail _ (.head _) | exact .tail _ (.tail _ (.head _)) | exact .tail _ (.tail _ (.tail _ (.head _))) | exact .tail _ (.tail _ (.tail _ (.tail _ (.head _)))) | exact .tail _ (.tail _ (.tail _ (.tail _ (.tail _ (.head _))))) | exact .tail _ (.tail _ (.tail _ (.tail _ (.tail _ (.tail _ (.head _)))))) | exact .tail _ (.tail _ (.tail _ (.tail _ (.tail _ (.tail _ (.tail _ (.head _))))))) | exact .tail _ (.tail _ (.tail _ (.tail _ (.tail _ (.tail _ (.tail _ (.tail _ (.head _)))))))) | exact .tail _ (.tail _ (.tail _ (.tail _ (.tail _ (.tail _ (.tail _ (.tail _ (.tail _ (.head _))))))))) | exact .tail _ (.tail _ (.tail _ (.tail _ (.tail _ (.tail _ (.tail _ (.tail _ (.tail _ (.tail _ (.head _)))))))))) | exact .tail _ (.tail _ (.tail _ (.tail _ (.tail _ (.tail _ (.tail _ (.tail _ (.tail _ (.tail _ (.tail _ (.head _))))))))))) | exact .tail _ (.tail _ (.tail _ (.tail _ (.tail _ (.tail _ (.tail _ (.tail _ (.tail _ (.tail _ (.tail _ (.tail _ (.head _)))))))))))) | exact .tail _ (.tail _ (.tail _ (.tail _ (.tail _ (.tail _ (.tail _ (.tail _ (.tail _ (.tail _ (.tail _ (.tail _ (.tail _ (.head _))))))))))))))
  | succ j ih =>
    intro S hj a1 a3
    have hMS : mOK S D := hM.fr (fun i _ _ => by rw [a3 62 (by omega)]) (fun c hc => a3 c (by omega))
    have eR := hMS.rooms
    have hdg : dgN (dR D) k w j = w / dR D ^ (k - (j + 1)) % dR D := by unfold dgN; rw [show k - 1 - j = k - (j + 1) by omega]
    have hq : (w / dR D ^ (k - (j + 1))) / dR D = w / dR D ^ (k - j) := by
      rw [Nat.div_div_eq_div_mul, ← Nat.pow_succ, Nat.succ_eq_add_one, show k - (j + 1) + 1 = k - j by omega]
    have this := ih (zu S 91 j (dgN (dR D) k w j : Int)) (by omega) (fun p h1 h2 => by
        rw [zu_if]
        by_cases e : p = j
        · rw [if_pos e, e]
        · rw [if_neg e]; exact a1 p (by omega) h2) (fun c h1 => (zu_c h1).trans (a3 c h1))
    have e1 : ((w / dR D ^ (k - (j + 1)) : Nat) : Int) % S 62 1 = (dgN (dR D) k w j : Int) := by rw [eR, nat_mod, hdg]
    have e2 : ((w / dR D ^ (k - (j + 1)) : Nat) : Int) / S 62 1 = ((w / dR D ^ (k - j) : Nat) : Int) := by rw [eR, nat_div, hq]
    rw [show ((j + 1 : Nat) : Int) - 1 = (j : Int) by omega]
    generalize w / dR D ^ (k - (j + 1)) = W at *
    refine zwq_ok (Z_X12_rests l) rfl [141, 175] (fun _ _ _ _ _ _ h => h) 400 (Z_X12_rests l) ?_
    refine ⟨fun c => by omega, fun c => ⟨⟨by omega, by omega⟩, j, ⟨rfl, by omega⟩, ⟨by omega, ?_⟩, by omega, ?_⟩⟩
    · show 0 < S 62 1
      omega
    · have e2' : (W : Int) / zu S 91 j ((W : Int) % S 62 1) 62 1 = ((w / dR D ^ (k - j) : Nat) : Int) := e2
      rw [← e1, ← e2'] at this
      exact this
theorem L2_X12_rests (hD : dOK D) (hM : mOK S0 D) (ht : t < 24) (hk1 : 1 ≤ k) (hk : k ≤ 3) (h : ∀ S' (v6 : Int), (0 < (plD D t k).1 → ∀ p, p < k → S' 92 p = (dgN (dR D) k (plD D t k).2 p : Int)) → frR S' S0 → zGs l 4 0 0 F_X12_rests S' 212 [(0, .inr (.inl 62)), (1, .inl (t : Int)), (2, .inl (k : Int)), (3, .inl z), (5, .inl ((plD D t k).1 : Int))] [] Q) (f : Nat) : ∀ w n fw S, w + f = dR D ^ k → n ≤ w → plS D t k f w n fw = plD D t k → woM S D t → (0 < n → ∀ p, p < k → S 92 p = (dgN (dR D) k fw p : Int)) → frR S S0 → zGs l 4 0 0 F_X12_rests S 125 [(0, .inr (.inl 62)), (1, .inl (t : Int)), (2, .inl (k : Int)), (3, .inl z), (4, .inl ((dR D ^ k : Nat) : Int)), (5, .inl (n : Int)), (6, .inl (w : Int))] [] Q := by
  have h8 := hD.rooms
  have hrk := rk_le h8 hk
  induction f with
  | zero =>
    intro w n fw S hw hnw hp hwo hfi hf
    have hp : (n, fw) = plD D t k := hp
    rw [← hp] at h
    have := h S 0 hfi hf
    refine zwq_ok (Z_X12_rests l) rfl [125, 212] (fun _ _ _ _ _ _ h => h) 400 (Z_X12_rests l) ?_
    refine ⟨fun c => by omega, fun c => ?_⟩
    exact zGs.sub (lo := [(0, _), (1, _), (2, _), (3, _), (4, _), (5, _), (6, _)]) this (fun q hq => by simp only [List.mem_cons, List.not_mem_nil, or_false] at hq; rcases hq with rfl | rfl | rfl | rfl | rfl <;> first | exact .head _ | exact .tail _ (.head _) | exact .tail _ (.tail _ (.head _)) | exact .tail _ (.tail _ (.tail _ (.head _))) | exact .tail _ (.tail _ (.tail _ (.tail _ (.head _)))) | exact .tail _ (.tail _ (.tail _ (.tail _ (.tail _ (.head _))))) | exact .tail _ (.tail _ (.tail _ (.tail _ (.tail _ (.tail _ (.head _)))))) | exact .tail _ (.tail _ (.tail _ (.tail _ (.tail _ (.tail _ (.tail _ (.head _))))))) | exact .tail _ (.tail _ (.tail _ (.tail _ (.tail _ (.tail _ (.tail _ (.tail _ (.head _)))))))) | exact .tail _ (.tail _ (.tail _ (.tail _ (.tail _ (.tail _ (.tail _ (.tail _ (.tail _ (.head _))))))))) | exact .tail _ (.tail _ (.tail _ (.tail _ (.tail _ (.tail _ (.tail _ (.tail _ (.tail _ (.tail _ (.head _)))))))))) | exact .tail _ (.tail _ (.tail _ (.tail _ (.tail _ (.tail _ (.tail _ (.tail _ (.tail _ (.tail _ (.tail _ (.head _))))))))))) | exact .tail _ (.tail _ (.tail _ (.tail _ (.tail _ (.tail _ (.tail _ (.tail _ (.tail _ (.tail _ (.tail _ (.tail _ (.head _)))))))))))) | exact .tail _ (.tail _ (.tail _ (.tail _ (.tail _ (.tail _ (.tail _ (.tail _ (.tail _ (.tail _ (.tail _ (.tail _ (.tail _ (.head _))))))))))))))
  | succ f ih =>
    intro w n fw S hw hnw hp hwo hfi hf
    have hR : 0 < dR D := by
      by_cases c : dR D = 0
      · rw [c, Nat.zero_pow (by omega)] at hw; omega
      · omega
    have hMS : mOK S D := hM.rr hf
    have hp : (bif reB D t k w then plS D t k f (w + 1) (n + 1) (if n = 0 then w else fw) else plS D t k f (w + 1) n fw) = plD D t k := hp
    have go := L3_X12_rests (l := l) (Q := Q) (S0 := S) (D := D) (t := t) (w := w) (k := k) (z := z) (W := ((dR D ^ k : Nat) : Int)) (n := (n : Int)) hD hMS hk hR (fun S1 g1 f1 => by
      have hM1 : mOK S1 D := hMS.fr (fun i _ _ => by rw [f1 62 (by omega)]) (fun c hc => f1 c (by omega))
      have hwo1 : woM S1 D t := fun r hr => by rw [f1 93 (by omega)]; exact hwo r hr
      have hf1 : frR S1 S0 := fun c hc => (f1 c (by omega)).trans (hf c hc)
      refine zwq_ok (Z_X12_rests l) rfl [125] (fun _ _ _ _ _ _ h => h) 400 (Z_X12_rests l) ?_
      refine ⟨D, t, w, k, ⟨rfl, hD, hM1, hwo1, rfl, hk, hR, g1⟩, fun c2 => ⟨by omega, ?_⟩, fun c2 => ⟨fun c3 => ⟨by omega, by omega, ?_⟩, fun c3 => ⟨by omega, by omega, ?_⟩⟩⟩
      · have e : reB D t k w = false := by
          cases hb : reB D t k w
          · rfl
          · rw [hb] at c2; exact absurd c2 (by decide)
        rw [e] at hp
        exact ih (w + 1) n fw S1 (by omega) (by omega) hp hwo1 (fun hn p hpk => by rw [f1 92 (by omega)]; exact hfi hn p hpk) hf1
      · have e : reB D t k w = true := by
          cases hb : reB D t k w
          · rw [hb] at c2; exact absurd rfl c2
          · rfl
        rw [e] at hp
        have hp : plS D t k f (w + 1) (n + 1) (if n = 0 then w else fw) = plD D t k := hp
        rw [if_pos (show n = 0 by omega)] at hp
        exact ih (w + 1) (n + 1) w (zcpI S1 91 92 3) (by omega) (by omega) hp (fun r hr => hwo1 r hr) (fun _ p hpk => (zcp_at (by omega)).trans (g1 p hpk)) (fun c hc => (funext fun j => zcp_n (by omega) : zcpI S1 91 92 3 c = S1 c).trans (hf1 c hc))
      · have e : reB D t k w = true := by
          cases hb : reB D t k w
          · rw [hb] at c2; exact absurd rfl c2
          · rfl
        rw [e] at hp
        have hp : plS D t k f (w + 1) (n + 1) (if n = 0 then w else fw) = plD D t k := hp
        rw [if_neg (show ¬ n = 0 by omega)] at hp
        exact ih (w + 1) (n + 1) fw S1 (by omega) (by omega) hp hwo1 (fun hn p hpk => by rw [f1 92 (by omega)]; exact hfi (by omega) p hpk) hf1) k S (Nat.le_refl k) (fun p a b => by omega) (fun _ _ => rfl)
    rw [Nat.sub_self, Nat.pow_zero, Nat.div_one] at go
    refine zwq_ok (Z_X12_rests l) rfl [125, 141] (fun _ _ _ _ _ _ h => h) 400 (Z_X12_rests l) ?_
    refine ⟨fun c => ⟨by omega, ?_⟩, fun c => by omega⟩
    exact go
theorem L1_X12_rests (hD : dOK D) (hk : k ≤ 3) {S : zS} (hM : mOK S D) (h : zGs l 4 0 0 F_X12_rests S 119 [(0, .inr (.inl 62)), (1, .inl (t : Int)), (2, .inl (k : Int)), (3, .inl z), (4, .inl ((dR D ^ k : Nat) : Int))] [] Q) (f : Nat) : ∀ j, j + f = k → zGs l 4 0 0 F_X12_rests S 98 [(0, .inr (.inl 62)), (1, .inl (t : Int)), (2, .inl (k : Int)), (3, .inl z), (4, .inl ((dR D ^ j : Nat) : Int)), (5, .inl (j : Int))] [] Q := by
  have h8 := hD.rooms
  have eR := hM.rooms
  induction f with
  | zero =>
    intro j hj
    have : j = k := by omega
    subst this
    refine zwq_ok (Z_X12_rests l) rfl [98, 119] (fun _ _ _ _ _ _ h => h) 400 (Z_X12_rests l) ?_
    refine ⟨fun c => by omega, fun c => ?_⟩
    exact zGs.sub (lo := [(0, _), (1, _), (2, _), (3, _), (4, _), (5, _)]) h (fun q hq => by simp only [List.mem_cons, List.not_mem_nil, or_false] at hq; rcases hq with rfl | rfl | rfl | rfl | rfl <;> first | exact .head _ | exact .tail _ (.head _) | exact .tail _ (.tail _ (.head _)) | exact .tail _ (.tail _ (.tail _ (.head _))) | exact .tail _ (.tail _ (.tail _ (.tail _ (.head _)))) | exact .tail _ (.tail _ (.tail _ (.tail _ (.tail _ (.head _))))) | exact .tail _ (.tail _ (.tail _ (.tail _ (.tail _ (.tail _ (.head _)))))) | exact .tail _ (.tail _ (.tail _ (.tail _ (.tail _ (.tail _ (.tail _ (.head _))))))) | exact .tail _ (.tail _ (.tail _ (.tail _ (.tail _ (.tail _ (.tail _ (.tail _ (.head _)))))))) | exact .tail _ (.tail _ (.tail _ (.tail _ (.tail _ (.tail _ (.tail _ (.tail _ (.tail _ (.head _))))))))) | exact .tail _ (.tail _ (.tail _ (.tail _ (.tail _ (.tail _ (.tail _ (.tail _ (.tail _ (.tail _ (.head _)))))))))) | exact .tail _ (.tail _ (.tail _ (.tail _ (.tail _ (.tail _ (.tail _ (.tail _ (.tail _ (.tail _ (.tail _ (.head _))))))))))) | exact .tail _ (.tail _ (.tail _ (.tail _ (.tail _ (.tail _ (.tail _ (.tail _ (.tail _ (.tail _ (.tail _ (.tail _ (.head _)))))))))))) | exact .tail _ (.tail _ (.tail _ (.tail _ (.tail _ (.tail _ (.tail _ (.tail _ (.tail _ (.tail _ (.tail _ (.tail _ (.tail _ (.head _))))))))))))))
  | succ f ih =>
    intro j hj
    have hb := rk_le (R := dR D) (k := j + 1) h8 (by omega)
    have this := ih (j + 1) (by omega)
    have e : ((dR D ^ j : Nat) : Int) * S 62 1 = ((dR D ^ (j + 1) : Nat) : Int) := by
      rw [eR, ← Int.natCast_mul]; rfl
    refine zwq_ok (Z_X12_rests l) rfl [98, 119] (fun _ _ _ _ _ _ h => h) 400 (Z_X12_rests l) ?_
    refine ⟨fun c => ⟨?_, by omega, ?_⟩, fun c => by omega⟩
    · rw [e]; omega
    · rw [e]; exact this
theorem L0_X12_rests (hD : dOK D) (hM : mOK S0 D) (ht : t < 24) (h : ∀ S, woM S D t → (∀ c, c ≠ 93 → S c = S0 c) → zGs l 4 0 0 F_X12_rests S 92 [(0, .inr (.inl 62)), (1, .inl (t : Int)), (2, .inl (k : Int)), (3, .inl z)] [] Q) (f : Nat) : ∀ r S, r + f = dR D → (∀ i, i < r → S 93 i = (worD D i t : Int)) → (∀ c, c ≠ 93 → S c = S0 c) → zGs l 4 0 0 F_X12_rests S 55 [(0, .inr (.inl 62)), (1, .inl (t : Int)), (2, .inl (k : Int)), (3, .inl z), (4, .inl (r : Int))] [] Q := by
  have h8 := hD.rooms
  induction f with
  | zero =>
    intro r S hr hw hf
    have : r = dR D := by omega
    subst this
    have hMS : mOK S D := hM.rr (fun c hc => hf c (by omega))
    have eR := hMS.rooms
    refine zwq_ok (Z_X12_rests l) rfl [55, 92] (fun _ _ _ _ _ _ h => h) 400 (Z_X12_rests l) ?_
    refine ⟨fun c => by omega, fun c => ?_⟩
    exact zGs.sub (lo := [(0, _), (1, _), (2, _), (3, _), (4, _)]) (h S hw hf) (fun q hq => by simp only [List.mem_cons, List.not_mem_nil, or_false] at hq; rcases hq with rfl | rfl | rfl | rfl <;> first | exact .head _ | exact .tail _ (.head _) | exact .tail _ (.tail _ (.head _)) | exact .tail _ (.tail _ (.tail _ (.head _))) | exact .tail _ (.tail _ (.tail _ (.tail _ (.head _)))) | exact .tail _ (.tail _ (.tail _ (.tail _ (.tail _ (.head _))))) | exact .tail _ (.tail _ (.tail _ (.tail _ (.tail _ (.tail _ (.head _)))))) | exact .tail _ (.tail _ (.tail _ (.tail _ (.tail _ (.tail _ (.tail _ (.head _))))))) | exact .tail _ (.tail _ (.tail _ (.tail _ (.tail _ (.tail _ (.tail _ (.tail _ (.head _)))))))) | exact .tail _ (.tail _ (.tail _ (.tail _ (.tail _ (.tail _ (.tail _ (.tail _ (.tail _ (.head _))))))))) | exact .tail _ (.tail _ (.tail _ (.tail _ (.tail _ (.tail _ (.tail _ (.tail _ (.tail _ (.tail _ (.head _)))))))))) | exact .tail _ (.tail _ (.tail _ (.tail _ (.tail _ (.tail _ (.tail _ (.tail _ (.tail _ (.tail _ (.tail _ (.head _))))))))))) | exact .tail _ (.tail _ (.tail _ (.tail _ (.tail _ (.tail _ (.tail _ (.tail _ (.tail _ (.tail _ (.tail _ (.tail _ (.head _)))))))))))) | exact .tail _ (.tail _ (.tail _ (.tail _ (.tail _ (.tail _ (.tail _ (.tail _ (.tail _ (.tail _ (.tail _ (.tail _ (.tail _ (.head _))))))))))))))
  | succ f ih =>
    intro r S hr hw hf
    have hMS : mOK S D := hM.rr (fun c hc => hf c (by omega))
    have eR := hMS.rooms
    have hwl := wor_le hD (r := r) (by omega) ht
    have e : S 63 r * (chaD D r t : Int) = (worD D r t : Int) := by
      rw [hMS.goods r (by omega)]
      unfold worD
      rw [Int.natCast_mul]
    have this := ih (r + 1) (zu S 93 r (worD D r t : Int)) (by omega) (fun i hi => by
      rw [zu_if]
      by_cases e : i = r
      · rw [if_pos e, e]
      · rw [if_neg e]; exact hw i (by omega)) (fun c hc => (zu_c hc).trans (hf c hc))
    refine zwq_ok (Z_X12_rests l) rfl [55, 92] (fun _ _ _ _ _ _ h => h) 400 (Z_X12_rests l) ?_
    refine ⟨fun c => ⟨r, ⟨rfl, by omega⟩, D, r, t, ⟨rfl, hD, hMS, rfl, rfl, by omega, ht⟩, ?_, r, ⟨rfl, by omega⟩, by omega, ?_⟩, fun c => by omega⟩
    · rw [e]; omega
    · rw [e]; exact this
end
theorem R_X12_rests (l : Launch) (a : List zV) (S : zS) (Q : zR2 → zS → Prop) (h : wp_X12_rests a S Q) : zRs l 4 0 0 yX12_rests (.code yX12_rests cX12_rests 9 (some .int)) a S Q := by
  unfold wp_X12_rests at h
  split at h
  · rename_i c x y z
    obtain ⟨D, E, T, N, ⟨rfl, hM, hX⟩, h⟩ := h
    have hM0 : mOK (zu S 62 0 0) D := hM.now.u (Or.inl rfl)
    unfold restsA at h
    by_cases hx : 0 ≤ x ∧ x < 24
    · rw [if_pos hx] at h
      by_cases hy : 1 ≤ y ∧ y ≤ 3
      · rw [if_pos hy] at h
        by_cases hz : -1 ≤ z ∧ z < y
        · rw [if_pos hz] at h
          obtain ⟨x1, x2⟩ := hx
          obtain ⟨y1, y2⟩ := hy
          obtain ⟨z1, z2⟩ := hz
          have h8 := hX.now.rooms
          have hrk := rk_le (k := y.toNat) h8 (by omega)
          have hpl := plS_le D x.toNat y.toNat (dR D ^ y.toNat) 0 0 0
          have fr : ∀ S', frR S' (zu S 62 0 0) → eM S' D E T ∧ frM S S' ∧ S' 62 0 = 0 := fun S' hf => ⟨(hM.u (k := 0) (v := 0) (Or.inl rfl)).fr (fun c j a b => congrFun (hf c (Decidable.byContradiction fun q => b (by unfold mScr; omega))) j), fun c hc => (hf c (by omega)).trans (zu_c (by omega)), by rw [hf 62 (by omega)]; exact zuE⟩
          have main := L0_X12_rests (l := l) (Q := Q) (S0 := zu S 62 0 0) (D := D) (t := x.toNat) (k := y.toNat) (z := z) hX.now hM0 (by omega) (fun S1 w1 f1 => by
            have hM1 : mOK S1 D := hM0.rr (fun c hc => f1 c (by omega))
            have go := L1_X12_rests (l := l) (Q := Q) (D := D) (t := x.toNat) (k := y.toNat) (z := z) hX.now (by omega) hM1 (by
              have go2 := L2_X12_rests (l := l) (Q := Q) (S0 := zu S 62 0 0) (D := D) (t := x.toNat) (k := y.toNat) (z := z) hX.now hM0 (by omega) (by omega) (by omega) (fun S2 _ p2 f2 => by
                obtain ⟨g1, g2, g3⟩ := fr S2 f2
                refine zwq_ok (Z_X12_rests l) rfl [92] (fun _ _ _ _ _ _ h => h) 400 (Z_X12_rests l) ?_
                refine ⟨fun c => ?_, fun c => ⟨fun c2 => ⟨⟨rfl, Or.inr rfl⟩, fun _ c9 => absurd c9 (by decide), fun _ _ => ⟨fun c9 => absurd c9 (by decide), fun _ => ⟨z.toNat, ⟨by omega, by omega⟩, ?_⟩⟩, g3, by decide⟩, fun c2 => ⟨⟨rfl, Or.inl rfl⟩, fun _ _ _ => ⟨fun _ => ?_, fun c9 => absurd rfl c9⟩, fun _ c9 => absurd c9 (by decide), g3, by decide⟩⟩⟩
                · rw [if_pos c] at h
                  exact h S2 _ g1 g2 g3 (fun _ => rfl)
                · rw [if_neg c, if_neg (by omega)] at h
                  exact h S2 _ g1 g2 g3 (fun _ => p2 (by omega) z.toNat (by omega))
                · rw [if_neg c, if_pos (by omega)] at h
                  exact h _ 0 (g1.u (Or.inl rfl)) (g2.u (by omega) (by omega)) zuE (fun q => absurd q (by decide))) (dR D ^ y.toNat) 0 0 0 S1 (by omega) (Nat.le_refl 0) rfl w1 (fun q => absurd q (Nat.not_lt_zero 0)) (fun c hc => f1 c (by omega))
              refine zwq_ok (Z_X12_rests l) rfl [125] (fun _ _ _ _ _ _ h => h) 400 (Z_X12_rests l) ?_
              exact go2) y.toNat 0 (by omega)
            refine zwq_ok (Z_X12_rests l) rfl [98] (fun _ _ _ _ _ _ h => h) 400 (Z_X12_rests l) ?_
            exact go) (dR D) 0 (zu S 62 0 0) (by omega) (fun i hi => absurd hi (Nat.not_lt_zero i)) (fun _ _ => rfl)
          rw [show ((x.toNat : Nat) : Int) = x by omega, show ((y.toNat : Nat) : Int) = y by omega] at main
          refine zRs_of 12 (by decide) rfl rfl ?_; refine zwq_ok (Z_X12_rests l) rfl [55] (fun _ _ _ _ _ _ h => h) 400 (Z_X12_rests l) ?_
          refine ⟨⟨rfl, rfl⟩, fun _ => ⟨fun c9 => absurd c9 (by decide), fun _ => ⟨fun _ => ⟨⟨rfl, Or.inr rfl⟩, fun _ c9 => absurd c9 (by decide), fun _ _ => ⟨fun c9 => absurd c9 (by decide), fun _ => ⟨fun c9 => by omega, fun _ => ⟨fun _ => ⟨⟨rfl, Or.inr rfl⟩, fun _ c9 => absurd c9 (by decide), fun _ _ => ⟨fun c9 => absurd c9 (by decide), fun _ => ?_⟩, rfl, by decide⟩, fun c9 => by omega⟩⟩⟩, rfl, by decide⟩, fun c9 => by omega⟩⟩, fun c9 => by omega⟩
          exact main
        · rw [if_neg hz] at h
          have h := mFail1 hM h
          refine zRs_of 12 (by decide) rfl rfl ?_; refine zwq_ok (Z_X12_rests l) rfl [55] (fun _ _ _ _ _ _ h => h) 400 (Z_X12_rests l) ?_
          repeat' (first | refine And.intro ?_ ?_ | (intro _; try omega) | omega | rfl | refine ⟨_, ⟨rfl, by omega⟩, ?_⟩ | fail)
          all_goals exact h
      · rw [if_neg hy] at h
        have h := mFail2 hM h
        refine zRs_of 12 (by decide) rfl rfl ?_; refine zwq_ok (Z_X12_rests l) rfl [55] (fun _ _ _ _ _ _ h => h) 400 (Z_X12_rests l) ?_
        repeat' (first | refine And.intro ?_ ?_ | (intro _; try omega) | omega | rfl | refine ⟨_, ⟨rfl, by omega⟩, ?_⟩ | fail)
        all_goals exact h
    · rw [if_neg hx] at h
      have h := mFail1 hM h
      refine zRs_of 12 (by decide) rfl rfl ?_; refine zwq_ok (Z_X12_rests l) rfl [55] (fun _ _ _ _ _ _ h => h) 400 (Z_X12_rests l) ?_
      repeat' (first | refine And.intro ?_ ?_ | (intro _; try omega) | omega | rfl | refine ⟨_, ⟨rfl, by omega⟩, ?_⟩ | fail)
      all_goals exact h
  · exact h.elim
theorem m_rests {S : zS} {D E T : zD} {N : Nat} {K : zR2 → zS → Prop} {x y z : Int} (hM : eM S D E T) (hX : xOK D E T N) (h : mRes S D E T (restsA D x y z) K) : wp_X12_rests [.inr (.inl 62), .inl x, .inl y, .inl z] S K := ⟨D, E, T, N, ⟨rfl, hM, hX⟩, h⟩
