/-! the house: the model reads a lodger, and what one may do -/
def B_X12_readsLodger : List (Nat × zC) := [(11, (0, 0, 1, 0, 0, 0, 12)), (15, (0, 1, 0, 0, 0, 0, 12)), (23, (0, 2, 0, 1, 0, 0, 12)), (31, (0, 3, 1, 1, 0, 0, 12)), (52, (0, 0, 1, 0, 0, 0, 12)), (61, (0, 1, 0, 0, 0, 0, 12)), (68, (0, 2, 0, 1, 0, 0, 12)), (72, (0, 1, 0, 0, 0, 0, 12)), (81, (0, 4, 1, 2, 0, 0, 12)), (94, (0, 1, 0, 0, 0, 0, 12)), (103, (0, 4, 1, 2, 0, 0, 12)), (124, (0, 2, 0, 1, 0, 0, 12)), (128, (0, 1, 0, 0, 0, 0, 12))]
def O_X12_readsLodger : zO := fun j a S K => match j with
  | 0 => wp_X12_wrong a S K
  | 1 => wp_X12_isGood a S K
  | 2 => wp_X12_steps a S K
  | 3 => wp_X12_amongHere a S K
  | 4 => wp_X12_is a S K
  | _ => False
theorem E_X12_readsLodger (l : Launch) : ∀ q ∈ B_X12_readsLodger, zcok l O_X12_readsLodger F_X12_readsLodger q.1 q.2 := List.forall_mem_cons.mpr ⟨⟨197, yX12_wrong, cX12_wrong, 2, none, by decide +kernel, C_12_197, W_X12_wrong, I_X12_wrong, S_X12_wrong, rfl, rfl, R_X12_wrong l⟩, List.forall_mem_cons.mpr ⟨⟨190, yX12_isGood, cX12_isGood, 1, some .boolean, by decide +kernel, C_12_190, W_X12_isGood, I_X12_isGood, S_X12_isGood, rfl, rfl, R_X12_isGood l⟩, List.forall_mem_cons.mpr ⟨⟨194, yX12_steps, cX12_steps, 2, none, by decide +kernel, C_12_194, W_X12_steps, I_X12_steps, S_X12_steps, rfl, rfl, R_X12_steps l⟩, List.forall_mem_cons.mpr ⟨⟨200, yX12_amongHere, cX12_amongHere, 2, some .boolean, by decide +kernel, C_12_200, W_X12_amongHere, I_X12_amongHere, S_X12_amongHere, rfl, rfl, R_X12_amongHere l⟩, List.forall_mem_cons.mpr ⟨⟨197, yX12_wrong, cX12_wrong, 2, none, by decide +kernel, C_12_197, W_X12_wrong, I_X12_wrong, S_X12_wrong, rfl, rfl, R_X12_wrong l⟩, List.forall_mem_cons.mpr ⟨⟨190, yX12_isGood, cX12_isGood, 1, some .boolean, by decide +kernel, C_12_190, W_X12_isGood, I_X12_isGood, S_X12_isGood, rfl, rfl, R_X12_isGood l⟩, List.forall_mem_cons.mpr ⟨⟨194, yX12_steps, cX12_steps, 2, none, by decide +kernel, C_12_194, W_X12_steps, I_X12_steps, S_X12_steps, rfl, rfl, R_X12_steps l⟩, List.forall_mem_cons.mpr ⟨⟨190, yX12_isGood, cX12_isGood, 1, some .boolean, by decide +kernel, C_12_190, W_X12_isGood, I_X12_isGood, S_X12_isGood, rfl, rfl, R_X12_isGood l⟩, List.forall_mem_cons.mpr ⟨⟨203, yX12_is, cX12_is, 2, some .boolean, by decide +kernel, C_12_203, W_X12_is, I_X12_is, S_X12_is, rfl, rfl, R_X12_is l⟩, List.forall_mem_cons.mpr ⟨⟨190, yX12_isGood, cX12_isGood, 1, some .boolean, by decide +kernel, C_12_190, W_X12_isGood, I_X12_isGood, S_X12_isGood, rfl, rfl, R_X12_isGood l⟩, List.forall_mem_cons.mpr ⟨⟨203, yX12_is, cX12_is, 2, some .boolean, by decide +kernel, C_12_203, W_X12_is, I_X12_is, S_X12_is, rfl, rfl, R_X12_is l⟩, List.forall_mem_cons.mpr ⟨⟨194, yX12_steps, cX12_steps, 2, none, by decide +kernel, C_12_194, W_X12_steps, I_X12_steps, S_X12_steps, rfl, rfl, R_X12_steps l⟩, List.forall_mem_cons.mpr ⟨⟨190, yX12_isGood, cX12_isGood, 1, some .boolean, by decide +kernel, C_12_190, W_X12_isGood, I_X12_isGood, S_X12_isGood, rfl, rfl, R_X12_isGood l⟩, fun _ h => by cases h⟩⟩⟩⟩⟩⟩⟩⟩⟩⟩⟩⟩⟩
def U_X12_readsLodger : List (Nat × zE) := [(0, Sum.inl (4, 0, 0, 0, 1, [])), (1, Sum.inl (18, 12, 25, 0, 4, [])), (4, Sum.inl (0, 0, 0, 6, 6, [])), (6, Sum.inl (16, 0, 9, 0, 14, [])), (9, Sum.inl (4, 0, 0, 0, 10, [])), (10, Sum.inl (0, 0, 0, 2, 11, [])), (11, Sum.inr (0, 0, 1, 0, 0, 0, 12)), (14, Sum.inl (4, 0, 0, 0, 15, [])), (15, Sum.inr (0, 1, 0, 0, 0, 0, 12)), (18, Sum.inl (17, 0, 21, 0, 22, [])), (21, Sum.inl (29, 0, 0, 0, 22, [])), (22, Sum.inl (4, 0, 0, 0, 23, [])), (23, Sum.inr (0, 2, 0, 1, 0, 0, 12)), (26, Sum.inl (4, 0, 0, 0, 27, [])), (27, Sum.inl (4, 0, 0, 0, 28, [])), (28, Sum.inl (18, 12, 24, 0, 31, [])), (31, Sum.inr (0, 3, 1, 1, 0, 0, 12)), (34, Sum.inl (17, 0, 55, 0, 37, [])), (37, Sum.inl (4, 0, 0, 0, 38, [])), (38, Sum.inl (18, 12, 30, 0, 41, [])), (41, Sum.inl (4, 0, 0, 0, 42, [])), (42, Sum.inl (18, 12, 22, 0, 45, [])), (45, Sum.inl (20, 0, 0, 0, 46, [])), (46, Sum.inl (0, 0, 0, (-1), 47, [])), (47, Sum.inl (16, 0, 55, 0, 50, [])), (50, Sum.inl (4, 0, 0, 0, 51, [])), (51, Sum.inl (0, 0, 0, 4, 52, [])), (52, Sum.inr (0, 0, 1, 0, 0, 0, 12)), (55, Sum.inl (4, 0, 0, 0, 56, [])), (56, Sum.inl (18, 12, 22, 0, 59, [])), (59, Sum.inl (5, 1, 0, 0, 60, [])), (60, Sum.inl (4, 0, 0, 0, 61, [])), (61, Sum.inr (0, 1, 0, 0, 0, 0, 12)), (64, Sum.inl (17, 0, 71, 0, 67, [])), (67, Sum.inl (4, 0, 0, 0, 68, [])), (68, Sum.inr (0, 2, 0, 1, 0, 0, 12)), (71, Sum.inl (4, 0, 0, 0, 72, [])), (72, Sum.inr (0, 1, 0, 0, 0, 0, 12)), (75, Sum.inl (17, 0, 91, 0, 78, [])), (78, Sum.inl (4, 0, 0, 0, 79, [])), (79, Sum.inl (0, 0, 0, 6, 81, [])), (81, Sum.inr (0, 4, 1, 2, 0, 0, 12)), (84, Sum.inl (17, 0, 91, 0, 87, [])), (87, Sum.inl (0, 0, 0, 1, 88, [])), (88, Sum.inl (15, 0, 0, 0, 92, [])), (91, Sum.inl (0, 0, 0, 0, 92, [])), (92, Sum.inl (5, 2, 0, 0, 93, [])), (93, Sum.inl (4, 0, 0, 0, 94, [])), (94, Sum.inr (0, 1, 0, 0, 0, 0, 12)), (97, Sum.inl (17, 0, 113, 0, 100, [])), (100, Sum.inl (4, 0, 0, 0, 101, [])), (101, Sum.inl (0, 0, 0, 7, 103, [])), (103, Sum.inr (0, 4, 1, 2, 0, 0, 12)), (106, Sum.inl (17, 0, 113, 0, 109, [])), (109, Sum.inl (0, 0, 0, 1, 110, [])), (110, Sum.inl (15, 0, 0, 0, 114, [])), (113, Sum.inl (0, 0, 0, 0, 114, [])), (114, Sum.inl (5, 3, 0, 0, 115, [])), (115, Sum.inl (2, 2, 0, 0, 116, [])), (116, Sum.inl (17, 0, 119, 0, 123, [])), (119, Sum.inl (2, 3, 0, 0, 120, [])), (120, Sum.inl (17, 0, 127, 0, 123, [])), (123, Sum.inl (4, 0, 0, 0, 124, [])), (124, Sum.inr (0, 2, 0, 1, 0, 0, 12)), (127, Sum.inl (4, 0, 0, 0, 128, [])), (128, Sum.inr (0, 1, 0, 0, 0, 0, 12)), (131, Sum.inl (17, 0, 134, 0, 135, [])), (134, Sum.inl (29, 0, 0, 0, 135, [])), (135, Sum.inl (4, 0, 0, 0, 136, [])), (136, Sum.inl (18, 12, 31, 0, 139, [])), (139, Sum.inl (4, 0, 0, 0, 140, [])), (140, Sum.inl (18, 12, 25, 0, 143, [])), (143, Sum.inl (2, 1, 0, 0, 144, [])), (144, Sum.inl (21, 0, 0, 0, 145, [])), (145, Sum.inl (4, 0, 0, 0, 146, [])), (146, Sum.inl (18, 12, 30, 0, 149, [])), (149, Sum.inl (2, 1, 0, 0, 150, [])), (150, Sum.inl (4, 0, 0, 0, 151, [])), (151, Sum.inl (18, 12, 25, 0, 154, [])), (154, Sum.inl (21, 0, 0, 0, 155, [])), (155, Sum.inl (4, 0, 0, 0, 156, [])), (156, Sum.inl (18, 12, 32, 0, 159, [])), (159, Sum.inl (0, 0, 0, 2, 160, [])), (160, Sum.inl (4, 0, 0, 0, 161, [])), (161, Sum.inl (18, 12, 25, 0, 164, [])), (164, Sum.inl (9, 2, 0, 0, 165, [])), (165, Sum.inl (2, 3, 0, 0, 166, [])), (166, Sum.inl (17, 0, 173, 0, 169, [])), (169, Sum.inl (0, 0, 0, 0, 170, [])), (170, Sum.inl (15, 0, 0, 0, 174, [])), (173, Sum.inl (0, 0, 0, 1, 174, [])), (174, Sum.inl (21, 0, 0, 0, 175, [])), (175, Sum.inl (4, 0, 0, 0, 176, [])), (176, Sum.inl (18, 12, 32, 0, 179, [])), (179, Sum.inl (0, 0, 0, 2, 180, [])), (180, Sum.inl (4, 0, 0, 0, 181, [])), (181, Sum.inl (18, 12, 25, 0, 184, [])), (184, Sum.inl (9, 2, 0, 0, 185, [])), (185, Sum.inl (0, 0, 0, 1, 186, [])), (186, Sum.inl (9, 0, 0, 0, 187, [])), (187, Sum.inl (2, 2, 0, 0, 188, [])), (188, Sum.inl (17, 0, 195, 0, 191, [])), (191, Sum.inl (0, 0, 0, 0, 192, [])), (192, Sum.inl (15, 0, 0, 0, 196, [])), (195, Sum.inl (0, 0, 0, 1, 196, [])), (196, Sum.inl (21, 0, 0, 0, 197, [])), (197, Sum.inl (4, 0, 0, 0, 198, [])), (198, Sum.inl (12, 0, 0, 0, 199, [])), (199, Sum.inl (18, 12, 25, 0, 202, [])), (202, Sum.inl (0, 0, 0, 1, 203, [])), (203, Sum.inl (9, 0, 0, 0, 204, [])), (204, Sum.inl (19, 12, 25, 0, 207, [])), (207, Sum.inl (29, 0, 0, 0, 208, []))]
set_option maxRecDepth 20000 in
theorem Z_X12_readsLodger (l : Launch) : ∀ q ∈ U_X12_readsLodger, zTok l O_X12_readsLodger F_X12_readsLodger q := zU_ok rfl rfl rfl K_X12_readsLodger (E_X12_readsLodger l)
def wp_X12_readsLodger (a : List zV) (S : zS) (K : zR2 → zS → Prop) : Prop := match a with
  | [.inr (.inl c)] => ∃ (T : zD) (n : Nat) (P : zD) (p : Nat), (c = 62 ∧ rdJ S T n P p) ∧ ∀ S', mR S S' T n (liL T n P p (tkN T n p)) → K (.inl none) S'
  | _ => False
section
variable {l : Launch} {Q : zR2 → zS → Prop} {S S1 : zS} {T : zD} {n : Nat} {P : zD} {q r : Nat}
theorem bad_X12_readsLodger (hb : S1 62 14 ≠ 0) (h : Q (.inl none) S1) : zGs l 3 0 0 F_X12_readsLodger S1 55 [(0, .inr (.inl 62))] [] Q := by
  refine zwq_ok (Z_X12_readsLodger l) rfl [55] (fun _ _ _ _ _ _ h => h) 400 (Z_X12_readsLodger l) ?_
  exact ⟨fun z => absurd z hb, fun _ => ⟨Or.inl rfl, fun _ => ⟨fun z => absurd z hb, fun _ => ⟨Or.inl rfl, fun _ => ⟨fun z => absurd z hb, fun _ => ⟨Or.inl rfl, fun _ => ⟨fun _ => ⟨fun _ => ⟨fun z => absurd z hb, fun _ => ⟨Or.inl rfl, fun _ => h, fun z => absurd rfl z⟩⟩, fun z => absurd rfl z⟩, fun z => absurd rfl z⟩, fun z => absurd rfl z⟩⟩, fun z => absurd rfl z⟩⟩, fun z => absurd rfl z⟩⟩
theorem end_X12_readsLodger {l2 l3 : Int} {e1 e2 : Nat} (he : (l2 = 0 ∧ l3 = 0 ∧ e1 = 1 ∧ e2 = 1) ∨ (l2 = 1 ∧ l3 = 0 ∧ e1 = 1 ∧ e2 = 0) ∨ (l2 = 0 ∧ l3 = 1 ∧ e1 = 0 ∧ e2 = 1)) (I : rdJ S1 T n P q) (fr : frH S1 S) (hr : r < P 0 0) (hw : P 2 r = 0) (hl : P 0 1 < 6) (h : ∀ S', mR S S' T n (.inr (adL P r e1 e2, q)) → Q (.inl none) S') : zGs l 3 0 0 F_X12_readsLodger S1 127 [(0, .inr (.inl 62)), (1, .inl (r : Int)), (2, .inl l2), (3, .inl l3)] [] Q := by
  have e := I.plan.lodgers
  have o := I.ok.rooms
  have k := h _ ⟨((((fr.u (by omega)).u (by omega)).u (by omega)).u (by omega)).u (by omega), I.pl I.plan.aL (I.ok.aL hr hw hl (by omega) (by omega)) (fun c j h1 h2 => by rw [zuN (by omega), zuN (by omega), zuN (by omega), zuN (by omega), zuN (by omega)]) (by rw [zuN (by omega), zuN (by omega), zuN (by omega), zuN (by omega), zuN (by omega)])⟩
  rw [← e] at k
  refine zwq_ok (Z_X12_readsLodger l) rfl [127] (fun _ _ _ _ _ _ h => h) 400 (Z_X12_readsLodger l) ?_
  refine ⟨fun _ => ⟨Or.inr rfl, fun z => absurd z (by decide), fun _ => ⟨P 0 1, ⟨e, by omega⟩, r, ⟨rfl, by omega⟩, by show -2147483648 ≤ 2 * S1 62 25 ∧ 2 * S1 62 25 < 2147483648; omega, fun c => ⟨2 * P 0 1, ⟨by show 2 * S1 62 25 = _; omega, by omega⟩, by show -2147483648 ≤ 2 * S1 62 25 ∧ 2 * S1 62 25 < 2147483648; omega, by show -2147483648 ≤ 2 * S1 62 25 + 1 ∧ 2 * S1 62 25 + 1 < 2147483648; omega, fun c2 => ⟨2 * P 0 1 + 1, ⟨by show 2 * S1 62 25 + 1 = _; omega, by omega⟩, by show -2147483648 ≤ S1 62 25 + 1 ∧ S1 62 25 + 1 < 2147483648; omega, ?_⟩, fun c2 => ⟨2 * P 0 1 + 1, ⟨by show 2 * S1 62 25 + 1 = _; omega, by omega⟩, by show -2147483648 ≤ S1 62 25 + 1 ∧ S1 62 25 + 1 < 2147483648; omega, ?_⟩⟩, fun c => ⟨2 * P 0 1, ⟨by show 2 * S1 62 25 = _; omega, by omega⟩, by show -2147483648 ≤ 2 * S1 62 25 ∧ 2 * S1 62 25 < 2147483648; omega, by show -2147483648 ≤ 2 * S1 62 25 + 1 ∧ 2 * S1 62 25 + 1 < 2147483648; omega, fun c2 => ⟨2 * P 0 1 + 1, ⟨by show 2 * S1 62 25 + 1 = _; omega, by omega⟩, by show -2147483648 ≤ S1 62 25 + 1 ∧ S1 62 25 + 1 < 2147483648; omega, ?_⟩, fun c2 => ?_⟩⟩⟩, fun z => absurd I.good z⟩
  · rcases he with ⟨rfl, rfl, rfl, rfl⟩ | ⟨rfl, rfl, rfl, rfl⟩ | ⟨rfl, rfl, rfl, rfl⟩
    · exact k
    · exact absurd c2 (by decide)
    · exact absurd c (by decide)
  · rcases he with ⟨rfl, rfl, rfl, rfl⟩ | ⟨rfl, rfl, rfl, rfl⟩ | ⟨rfl, rfl, rfl, rfl⟩
    · exact absurd rfl c2
    · exact k
    · exact absurd c (by decide)
  · rcases he with ⟨rfl, rfl, rfl, rfl⟩ | ⟨rfl, rfl, rfl, rfl⟩ | ⟨rfl, rfl, rfl, rfl⟩
    · exact absurd rfl c
    · exact absurd rfl c
    · exact k
  · omega
end
theorem R_X12_readsLodger (l : Launch) (a : List zV) (S : zS) (Q : zR2 → zS → Prop) (h : wp_X12_readsLodger a S Q) : zRs l 3 0 0 yX12_readsLodger (.code yX12_readsLodger cX12_readsLodger 4 (none)) a S Q := by
  unfold wp_X12_readsLodger at h
  split at h
  · obtain ⟨T, n, P, p, ⟨rfl, I⟩, h⟩ := h
    have e1 := I.plan.lodgers
    have o1 := I.ok.rooms
    have o2 := I.ok.lodgers
    unfold liL at h
    refine zRs_of 12 (by decide) rfl rfl ?_; refine zwq_ok (Z_X12_readsLodger l) rfl [55, 127] (fun _ _ _ _ _ _ h => h) 400 (Z_X12_readsLodger l) ?_
    refine ⟨fun c => ⟨fun _ => ?_, fun z => absurd I.good z⟩, fun c => ?_⟩
    · rw [if_neg (by omega)] at h
      have k := h _ (I.rx (k := 2) (frH.r S) (by decide))
      rw [← I.tok.2.2.1] at k
      exact ⟨fun z => absurd (show (2 : Int) = 0 from z) (by decide), fun _ => ⟨Or.inl rfl, fun _ => k, fun z => absurd rfl z⟩⟩
    · rw [if_pos (by omega)] at h
      refine ⟨fun _ => ⟨Or.inr rfl, fun z => absurd z (by decide), fun _ => ?_⟩, fun z => absurd I.good z⟩
      refine ⟨T, n, _, ⟨rfl, I.text, I.tok.1, I.nx⟩, fun S1 I1 f1 => ?_⟩
      replace I1 := I.adv I1 f1
      have fr1 : frH S1 S := (frH.r S).Y f1
      refine ⟨rfl, fun z => absurd I1.good z, fun _ => ⟨T, n, tkN T n p, P 0 0, ⟨I1.plan.rooms, I1.tok, I1.le⟩, fun c2 => ?_, fun c2 => ?_⟩⟩
      · rw [if_pos c2] at h
        have c2 := toF_0.mp c2
        have ev := I1.tok.2.2.2.2.1 c2.1
        have ew := I1.plan.whose (tkV T n (tkN T n p)) c2.2.2
        refine ⟨fun z => absurd z (by decide), fun _ => ⟨tkV T n (tkN T n p), ⟨ev, by omega⟩, fun c3 => ?_, fun c3 => ⟨fun _ => ?_, fun z => absurd I1.good z⟩⟩⟩
        · rw [if_pos (by omega)] at h
          refine zwq_ok (Z_X12_readsLodger l) rfl [55, 127] (fun _ _ _ _ _ _ h => h) 400 (Z_X12_readsLodger l) ?_
          refine ⟨fun _ => ⟨Or.inr rfl, fun z => absurd z (by decide), fun _ => ?_⟩, fun z => absurd I1.good z⟩
          refine ⟨T, n, _, ⟨rfl, I1.text, I1.tok.1, I1.nx⟩, fun S2 I2 f2 => ?_⟩
          replace I2 := I1.adv I2 f2
          have fr2 : frH S2 S := fr1.Y f2
          unfold liL2 at h
          rw [ev]
          refine ⟨fun _ => ⟨Or.inr rfl, fun z => absurd z (by decide), fun _ => ?_⟩, fun z => absurd I2.good z⟩
          refine ⟨T, n, _, 6, ⟨rfl, rfl, by decide, I2.tok, I2.le⟩, fun c4 => ?_, fun c4 => ?_⟩
          · rw [if_neg (bt_f c4)] at h
            refine ⟨fun _ => ⟨Or.inr rfl, fun z => absurd z (by decide), fun _ => ?_⟩, fun z => absurd I2.good z⟩
            refine ⟨T, n, _, 7, ⟨rfl, rfl, by decide, I2.tok, I2.le⟩, fun c5 => ?_, fun c5 => ?_⟩
            · rw [if_neg (bt_f c5)] at h
              exact ⟨fun _ => ⟨fun _ => end_X12_readsLodger (Or.inl ⟨rfl, rfl, rfl, rfl⟩) I2 fr2 c2.2.2 (by omega) (by omega) h, fun z => absurd rfl z⟩, fun z => absurd rfl z⟩
            · rw [if_pos (bt_t c5)] at h
              refine ⟨fun _ => ⟨fun z => absurd z (by decide), fun _ => ?_⟩, fun z => absurd rfl z⟩
              refine ⟨T, n, _, ⟨rfl, I2.text, I2.tok.1, I2.nx⟩, fun S3 I3 f3 => ?_⟩
              replace I3 := I2.adv I3 f3
              exact end_X12_readsLodger (Or.inr (Or.inr ⟨rfl, rfl, rfl, rfl⟩)) I3 (fr2.Y f3) c2.2.2 (by omega) (by omega) h
          · rw [if_pos (bt_t c4)] at h
            refine ⟨fun _ => ⟨Or.inr rfl, fun z => absurd z (by decide), fun _ => ?_⟩, fun z => absurd I2.good z⟩
            refine ⟨T, n, _, 7, ⟨rfl, rfl, by decide, I2.tok, I2.le⟩, fun c5 => ?_, fun c5 => ?_⟩
            · refine ⟨fun z => absurd z (by decide), fun _ => ?_⟩
              refine ⟨T, n, _, ⟨rfl, I2.text, I2.tok.1, I2.nx⟩, fun S3 I3 f3 => ?_⟩
              replace I3 := I2.adv I3 f3
              exact end_X12_readsLodger (Or.inr (Or.inl ⟨rfl, rfl, rfl, rfl⟩)) I3 (fr2.Y f3) c2.2.2 (by omega) (by omega) h
            · exact absurd (isW_inj (bt_t c4) (bt_t c5)) (by decide)
        · rw [if_neg (by omega)] at h
          have k := I1.rx (k := 4) fr1 (by decide)
          have h := h _ k
          rw [← I1.tok.2.2.1] at h
          exact bad_X12_readsLodger (show (4 : Int) ≠ 0 by decide) h
      · rw [if_neg c2] at h
        have k := I1.rx (k := toF T n (tkN T n p) (P 0 0)) fr1 c2
        exact ⟨fun _ => bad_X12_readsLodger k.2.2.2 (h _ k), fun z => absurd rfl z⟩
  · exact h.elim
