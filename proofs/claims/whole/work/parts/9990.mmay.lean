/-! the house: the model reads what one may do -/
def B_X12_readsMay : List (Nat × zC) := [(11, (0, 0, 1, 0, 0, 0, 12)), (15, (0, 1, 0, 0, 0, 0, 12)), (23, (0, 2, 0, 1, 0, 0, 12)), (31, (0, 3, 1, 2, 0, 0, 12)), (38, (0, 4, 2, 3, 0, 0, 12)), (53, (0, 5, 1, 2, 0, 0, 12)), (68, (0, 6, 1, 1, 0, 0, 12)), (89, (0, 0, 1, 0, 0, 0, 12)), (100, (0, 1, 0, 0, 0, 0, 12)), (107, (0, 2, 0, 1, 0, 0, 12)), (114, (0, 7, 2, 2, 0, 0, 12)), (124, (0, 7, 2, 2, 0, 0, 12)), (130, (0, 1, 0, 0, 0, 0, 12))]
def O_X12_readsMay : zO := fun j a S K => match j with
  | 0 => wp_X12_wrong a S K
  | 1 => wp_X12_isGood a S K
  | 2 => wp_X12_steps a S K
  | 3 => wp_X12_among a S K
  | 4 => wp_X12_oneOf a S K
  | 5 => wp_X12_need a S K
  | 6 => wp_X12_amongHere a S K
  | 7 => wp_X12_number a S K
  | _ => False
theorem E_X12_readsMay (l : Launch) : ∀ q ∈ B_X12_readsMay, zcok l O_X12_readsMay F_X12_readsMay q.1 q.2 := List.forall_mem_cons.mpr ⟨⟨197, yX12_wrong, cX12_wrong, 2, none, by decide +kernel, C_12_197, W_X12_wrong, I_X12_wrong, S_X12_wrong, rfl, rfl, R_X12_wrong l⟩, List.forall_mem_cons.mpr ⟨⟨190, yX12_isGood, cX12_isGood, 1, some .boolean, by decide +kernel, C_12_190, W_X12_isGood, I_X12_isGood, S_X12_isGood, rfl, rfl, R_X12_isGood l⟩, List.forall_mem_cons.mpr ⟨⟨194, yX12_steps, cX12_steps, 2, none, by decide +kernel, C_12_194, W_X12_steps, I_X12_steps, S_X12_steps, rfl, rfl, R_X12_steps l⟩, List.forall_mem_cons.mpr ⟨⟨215, yX12_among, cX12_among, 3, some .int, by decide +kernel, C_12_215, W_X12_among, I_X12_among, S_X12_among, rfl, rfl, R_X12_among l⟩, List.forall_mem_cons.mpr ⟨⟨218, yX12_oneOf, cX12_oneOf, 4, some .int, by decide +kernel, C_12_218, W_X12_oneOf, I_X12_oneOf, S_X12_oneOf, rfl, rfl, R_X12_oneOf l⟩, List.forall_mem_cons.mpr ⟨⟨222, yX12_need, cX12_need, 2, none, by decide +kernel, C_12_222, W_X12_need, I_X12_need, S_X12_need, rfl, rfl, R_X12_need l⟩, List.forall_mem_cons.mpr ⟨⟨200, yX12_amongHere, cX12_amongHere, 2, some .boolean, by decide +kernel, C_12_200, W_X12_amongHere, I_X12_amongHere, S_X12_amongHere, rfl, rfl, R_X12_amongHere l⟩, List.forall_mem_cons.mpr ⟨⟨197, yX12_wrong, cX12_wrong, 2, none, by decide +kernel, C_12_197, W_X12_wrong, I_X12_wrong, S_X12_wrong, rfl, rfl, R_X12_wrong l⟩, List.forall_mem_cons.mpr ⟨⟨190, yX12_isGood, cX12_isGood, 1, some .boolean, by decide +kernel, C_12_190, W_X12_isGood, I_X12_isGood, S_X12_isGood, rfl, rfl, R_X12_isGood l⟩, List.forall_mem_cons.mpr ⟨⟨194, yX12_steps, cX12_steps, 2, none, by decide +kernel, C_12_194, W_X12_steps, I_X12_steps, S_X12_steps, rfl, rfl, R_X12_steps l⟩, List.forall_mem_cons.mpr ⟨⟨226, yX12_number, cX12_number, 4, some .int, by decide +kernel, C_12_226, W_X12_number, I_X12_number, S_X12_number, rfl, rfl, R_X12_number l⟩, List.forall_mem_cons.mpr ⟨⟨226, yX12_number, cX12_number, 4, some .int, by decide +kernel, C_12_226, W_X12_number, I_X12_number, S_X12_number, rfl, rfl, R_X12_number l⟩, List.forall_mem_cons.mpr ⟨⟨190, yX12_isGood, cX12_isGood, 1, some .boolean, by decide +kernel, C_12_190, W_X12_isGood, I_X12_isGood, S_X12_isGood, rfl, rfl, R_X12_isGood l⟩, fun _ h => by cases h⟩⟩⟩⟩⟩⟩⟩⟩⟩⟩⟩⟩⟩
def U_X12_readsMay : List (Nat × zE) := [(0, Sum.inl (4, 0, 0, 0, 1, [])), (1, Sum.inl (18, 12, 27, 0, 4, [])), (4, Sum.inl (0, 0, 0, 40, 6, [])), (6, Sum.inl (16, 0, 9, 0, 14, [])), (9, Sum.inl (4, 0, 0, 0, 10, [])), (10, Sum.inl (0, 0, 0, 2, 11, [])), (11, Sum.inr (0, 0, 1, 0, 0, 0, 12)), (14, Sum.inl (4, 0, 0, 0, 15, [])), (15, Sum.inr (0, 1, 0, 0, 0, 0, 12)), (18, Sum.inl (17, 0, 21, 0, 22, [])), (21, Sum.inl (29, 0, 0, 0, 22, [])), (22, Sum.inl (4, 0, 0, 0, 23, [])), (23, Sum.inr (0, 2, 0, 1, 0, 0, 12)), (26, Sum.inl (4, 0, 0, 0, 27, [])), (27, Sum.inl (4, 0, 0, 0, 28, [])), (28, Sum.inl (18, 12, 25, 0, 31, [])), (31, Sum.inr (0, 3, 1, 2, 0, 0, 12)), (34, Sum.inl (5, 1, 0, 0, 35, [])), (35, Sum.inl (4, 0, 0, 0, 36, [])), (36, Sum.inl (0, 0, 0, 0, 37, [])), (37, Sum.inl (0, 0, 0, 4, 38, [])), (38, Sum.inr (0, 4, 2, 3, 0, 0, 12)), (41, Sum.inl (5, 2, 0, 0, 42, [])), (42, Sum.inl (4, 0, 0, 0, 43, [])), (43, Sum.inl (2, 2, 0, 0, 44, [])), (44, Sum.inl (0, 0, 0, (-1), 45, [])), (45, Sum.inl (16, 0, 52, 0, 48, [])), (48, Sum.inl (0, 0, 0, 1, 49, [])), (49, Sum.inl (15, 0, 0, 0, 53, [])), (52, Sum.inl (0, 0, 0, 0, 53, [])), (53, Sum.inr (0, 5, 1, 2, 0, 0, 12)), (56, Sum.inl (2, 2, 0, 0, 57, [])), (57, Sum.inl (5, 3, 0, 0, 58, [])), (58, Sum.inl (2, 2, 0, 0, 59, [])), (59, Sum.inl (0, 0, 0, 4, 60, [])), (60, Sum.inl (16, 0, 63, 0, 110, [])), (63, Sum.inl (4, 0, 0, 0, 64, [])), (64, Sum.inl (4, 0, 0, 0, 65, [])), (65, Sum.inl (18, 12, 24, 0, 68, [])), (68, Sum.inr (0, 6, 1, 1, 0, 0, 12)), (71, Sum.inl (17, 0, 92, 0, 74, [])), (74, Sum.inl (4, 0, 0, 0, 75, [])), (75, Sum.inl (18, 12, 22, 0, 78, [])), (78, Sum.inl (4, 0, 0, 0, 79, [])), (79, Sum.inl (18, 12, 31, 0, 82, [])), (82, Sum.inl (2, 1, 0, 0, 83, [])), (83, Sum.inl (20, 0, 0, 0, 84, [])), (84, Sum.inl (16, 0, 87, 0, 92, [])), (87, Sum.inl (4, 0, 0, 0, 88, [])), (88, Sum.inl (0, 0, 0, 4, 89, [])), (89, Sum.inr (0, 0, 1, 0, 0, 0, 12)), (92, Sum.inl (0, 0, 0, 4, 93, [])), (93, Sum.inl (4, 0, 0, 0, 94, [])), (94, Sum.inl (18, 12, 22, 0, 97, [])), (97, Sum.inl (9, 0, 1, 0, 98, [])), (98, Sum.inl (5, 3, 0, 0, 99, [])), (99, Sum.inl (4, 0, 0, 0, 100, [])), (100, Sum.inr (0, 1, 0, 0, 0, 0, 12)), (103, Sum.inl (17, 0, 110, 0, 106, [])), (106, Sum.inl (4, 0, 0, 0, 107, [])), (107, Sum.inr (0, 2, 0, 1, 0, 0, 12)), (110, Sum.inl (4, 0, 0, 0, 111, [])), (111, Sum.inl (0, 0, 0, 0, 112, [])), (112, Sum.inl (0, 0, 0, 23, 114, [])), (114, Sum.inr (0, 7, 2, 2, 0, 0, 12)), (117, Sum.inl (5, 4, 0, 0, 119, [])), (119, Sum.inl (4, 0, 0, 0, 120, [])), (120, Sum.inl (2, 4, 0, 0, 122, [])), (122, Sum.inl (0, 0, 0, 23, 124, [])), (124, Sum.inr (0, 7, 2, 2, 0, 0, 12)), (127, Sum.inl (5, 5, 0, 0, 129, [])), (129, Sum.inl (4, 0, 0, 0, 130, [])), (130, Sum.inr (0, 1, 0, 0, 0, 0, 12)), (133, Sum.inl (17, 0, 136, 0, 137, [])), (136, Sum.inl (29, 0, 0, 0, 137, [])), (137, Sum.inl (2, 4, 0, 0, 139, [])), (139, Sum.inl (5, 6, 0, 0, 141, [])), (141, Sum.inl (2, 6, 0, 0, 143, [])), (143, Sum.inl (2, 5, 0, 0, 145, [])), (145, Sum.inl (16, 2, 172, 0, 148, [])), (148, Sum.inl (4, 0, 0, 0, 149, [])), (149, Sum.inl (18, 12, 35, 0, 152, [])), (152, Sum.inl (0, 0, 0, 24, 154, [])), (154, Sum.inl (2, 1, 0, 0, 155, [])), (155, Sum.inl (9, 2, 0, 0, 156, [])), (156, Sum.inl (2, 6, 0, 0, 158, [])), (158, Sum.inl (9, 0, 0, 0, 159, [])), (159, Sum.inl (13, 0, 0, 0, 160, [])), (160, Sum.inl (20, 0, 0, 0, 161, [])), (161, Sum.inl (0, 0, 0, 1, 162, [])), (162, Sum.inl (2, 3, 0, 0, 163, [])), (163, Sum.inl (9, 6, 0, 0, 164, [])), (164, Sum.inl (9, 4, 0, 0, 165, [])), (165, Sum.inl (21, 0, 0, 0, 166, [])), (166, Sum.inl (8, 6, 0, 1, 169, [])), (169, Sum.inl (15, 0, 0, 0, 141, [])), (172, Sum.inl (4, 0, 0, 0, 173, [])), (173, Sum.inl (12, 0, 0, 0, 174, [])), (174, Sum.inl (18, 12, 27, 0, 177, [])), (177, Sum.inl (0, 0, 0, 1, 178, [])), (178, Sum.inl (9, 0, 0, 0, 179, [])), (179, Sum.inl (19, 12, 27, 0, 182, [])), (182, Sum.inl (29, 0, 0, 0, 183, []))]
set_option maxRecDepth 20000 in
theorem Z_X12_readsMay (l : Launch) : ∀ q ∈ U_X12_readsMay, zTok l O_X12_readsMay F_X12_readsMay q := zU_ok rfl rfl rfl K_X12_readsMay (E_X12_readsMay l)
def wp_X12_readsMay (a : List zV) (S : zS) (K : zR2 → zS → Prop) : Prop := match a with
  | [.inr (.inl c)] => ∃ (T : zD) (n : Nat) (P : zD) (p : Nat), (c = 62 ∧ rdJ S T n P p) ∧ ∀ S', mR S S' T n (liM T n P p (tkN T n p)) → K (.inl none) S'
  | _ => False
def maM (S S0 : zS) (P : zD) (b k f : Nat) : Prop := (∀ c, c ≠ 78 → S c = S0 c) ∧ ∀ j, j < 144 → S 78 j = (mrk P b k f 7 j : Int)
section
variable {l : Launch} {Q : zR2 → zS → Prop} {S S0 S1 : zS} {T : zD} {n : Nat} {P : zD}
theorem bad1_X12_readsMay {w v a : Int} (hb : S1 62 14 ≠ 0) (h : Q (.inl none) S1) : zGs l 4 0 0 F_X12_readsMay S1 110 [(0, .inr (.inl 62)), (1, .inl w), (2, .inl v), (3, .inl a)] [] Q := by
  refine zwq_ok (Z_X12_readsMay l) rfl [110] (fun _ _ _ _ _ _ h => h) 400 (Z_X12_readsMay l) ?_
  exact ⟨rfl, fun _ => ⟨rfl, fun _ => ⟨fun z => absurd z hb, fun _ => ⟨Or.inl rfl, fun _ => h, fun z => absurd rfl z⟩⟩, fun z => absurd z hb⟩, fun z => absurd z hb⟩
theorem bad2_X12_readsMay {w v : Int} (hb : S1 62 14 ≠ 0) (h : Q (.inl none) S1) : zGs l 4 0 0 F_X12_readsMay S1 56 [(0, .inr (.inl 62)), (1, .inl w), (2, .inl v)] [] Q := by
  refine zwq_ok (Z_X12_readsMay l) rfl [110] (fun _ _ _ _ _ _ h => h) 400 (Z_X12_readsMay l) ?_
  exact ⟨fun c => ⟨rfl, fun _ => ⟨fun _ => ⟨fun z => absurd z hb, fun _ => ⟨Or.inl rfl, fun _ => bad1_X12_readsMay hb h, fun z => absurd rfl z⟩⟩, fun z => absurd rfl z⟩, fun z => absurd z hb⟩, fun c => bad1_X12_readsMay hb h⟩
theorem L_X12_readsMay {i b t f : Nat} {v : Int} (hC : ∀ j, j < 144 → S0 78 j = (P 7 j : Int)) (hm : ∀ k, P 7 k < 4096) (hi : i < 6) (hb : b < 12) (ht : t + f ≤ 24) (k : ∀ S1, maM S1 S0 P b (24 * i + t) f → zGs l 4 0 0 F_X12_readsMay S1 172 [(0, .inr (.inl 62)), (1, .inl (i : Int)), (2, .inl v), (3, .inl (b : Int)), (4, .inl (t : Int)), (5, .inl ((t : Int) + (f : Int) - 1)), (6, .inl ((t : Int) + (f : Int)))] [] Q) (g : Nat) : ∀ (h : Nat) (S1 : zS), h + g = f → maM S1 S0 P b (24 * i + t) h → zGs l 4 0 0 F_X12_readsMay S1 141 [(0, .inr (.inl 62)), (1, .inl (i : Int)), (2, .inl v), (3, .inl (b : Int)), (4, .inl (t : Int)), (5, .inl ((t : Int) + (f : Int) - 1)), (6, .inl ((t : Int) + (h : Int)))] [] Q := by
  induction g with
  | zero =>
    intro h S1 hh hS
    have e : h = f := by omega
    subst e
    have := k S1 hS
    refine zwq_ok (Z_X12_readsMay l) rfl [141, 172] (fun _ _ _ _ _ _ h => h) 400 (Z_X12_readsMay l) ?_
    exact ⟨fun c => this, fun c => by omega⟩
  | succ g ih =>
    intro h S1 hh hS
    obtain ⟨a2, a3⟩ := hS
    have hj : 24 * i + t + h < 144 := by omega
    have e0 := a3 (24 * i + t + h) hj
    rw [mrk_out (by omega)] at e0
    have hs := hm (24 * i + t + h)
    have hp : 2 ^ b < 2147483648 := Nat.lt_of_lt_of_le (Nat.pow_lt_pow_right (by decide) hb) (show 2 ^ 12 ≤ 2147483648 by decide)
    have ez : zor (S1 78 (24 * i + t + h)) (zshl 1 (b : Int)) = (mrk P b (24 * i + t) (h + 1) 7 (24 * i + t + h) : Int) := by
      rw [e0, zsh1_n (by omega), zor_n (by omega) hp, mrk_in (by omega) (by omega)]
    have this := ih (h + 1) (zu S1 78 (24 * i + t + h) (mrk P b (24 * i + t) (h + 1) 7 (24 * i + t + h) : Int)) (by omega) ⟨fun c hc => (zu_c hc).trans (a2 c hc), fun j hj2 => by
      rw [zu_i]
      split
      · rename_i c; rw [c]
      · rename_i c
        rw [a3 j hj2]
        by_cases c2 : 24 * i + t ≤ j ∧ j < 24 * i + t + h
        · rw [mrk_in c2.1 c2.2, mrk_in c2.1 (by omega)]
        · rw [mrk_out c2, mrk_out (by omega)]⟩
    rw [← ez] at this
    refine zwq_ok (Z_X12_readsMay l) rfl [141, 172] (fun _ _ _ _ _ _ h => h) 400 (Z_X12_readsMay l) ?_
    refine ⟨fun c => by omega, fun c => ⟨by omega, by omega, 24 * i + t + h, ⟨by omega, by omega⟩, 24 * i + t + h, ⟨by omega, by omega⟩, by omega, ?_⟩⟩
    exact this
theorem mP.aM {a k f : Nat} (h : mP S0 P) (hS : maM S1 S0 P a k f) : mP (zu S1 62 27 ((P 0 3 : Int) + 1)) (adM P a k f) := by
  obtain ⟨a2, a3⟩ := hS
  have eN : ∀ j, j ≠ 3 → adM P a k f 0 j = P 0 j := fun j hj => (zuD_n (Or.inr hj)).trans (mrk_c (by omega))
  have eC : ∀ c, c ≠ 0 → c ≠ 7 → adM P a k f c = P c := fun c h1 h2 => funext fun j => (zuD_n (Or.inl h1)).trans (mrk_c h2)
  have e7 : ∀ j, adM P a k f 7 j = mrk P a k f 7 j := fun j => zuD_n (Or.inl (by omega))
  have x1 : ∀ j, j ≠ 27 → zu S1 62 27 ((P 0 3 : Int) + 1) 62 j = S0 62 j := fun j hj => by rw [zuN (Or.inr hj), a2 62 (by decide)]
  have xc : ∀ c, c ≠ 62 → c ≠ 78 → zu S1 62 27 ((P 0 3 : Int) + 1) c = S0 c := fun c h1 h2 => (zu_c h1).trans (a2 c h2)
  unfold mP
  rw [eN 0 (by omega), eN 1 (by omega), eN 2 (by omega), eN 4 (by omega), eC 1 (by omega) (by omega), eC 2 (by omega) (by omega), eC 3 (by omega) (by omega), eC 4 (by omega) (by omega), eC 5 (by omega) (by omega), eC 6 (by omega) (by omega), x1 24 (by omega), x1 25 (by omega), x1 26 (by omega), x1 28 (by omega), xc 72 (by omega) (by omega), xc 73 (by omega) (by omega), xc 74 (by omega) (by omega), xc 75 (by omega) (by omega), xc 76 (by omega) (by omega), xc 77 (by omega) (by omega)]
  exact ⟨h.rooms, h.lodgers, h.finders, zuE, h.laws, h.goods, h.whose, h.home, h.shoes, h.begins, h.law, (fun j hj => by rw [zuN (by omega), e7]; exact a3 j hj)⟩
theorem good_X12_readsMay {q i a : Nat} {v : Int} (I : rdJ S1 T n P q) (fr : frH S1 S) (hi : i < P 0 1) (ha : a < 12) (hr : ∀ b, a = 4 + b → b < P 0 0 ∧ b ≠ P 3 i) (hm : P 0 3 < 40) (h : ∀ S', mR S S' T n (liM2 T n P i a q) → Q (.inl none) S') : zGs l 4 0 0 F_X12_readsMay S1 110 [(0, .inr (.inl 62)), (1, .inl (i : Int)), (2, .inl v), (3, .inl (a : Int))] [] Q := by
  have o := I.ok.lodgers
  unfold liM2 at h
  refine zwq_ok (Z_X12_readsMay l) rfl [110, 141] (fun _ _ _ _ _ _ h => h) 400 (Z_X12_readsMay l) ?_
  refine ⟨rfl, fun z => absurd I.good z, fun _ => ⟨T, n, q, 0, 23, ⟨rfl, rfl, I.text, I.tok, I.le⟩, fun c S2 I2 f2 => ?_, fun c => ?_⟩⟩
  · rw [if_pos c] at h
    have c := nuF_0.mp c
    replace I2 := I.adv I2 f2
    unfold liM3 at h
    refine ⟨rfl, fun z => absurd I2.good z, fun _ => ⟨T, n, tkN T n q, tkV T n q, 23, ⟨rfl, rfl, I2.text, I2.tok, I2.le⟩, fun c2 S3 I3 f3 => ?_, fun c2 => ?_⟩⟩
    · rw [if_pos c2] at h
      have c2 := nuF_0.mp c2
      replace I3 := I2.adv I3 f3
      have fr3 : frH S3 S := (fr.Y f2).Y f3
      refine ⟨fun _ => ⟨Or.inr rfl, fun z => absurd z (by decide), fun _ => ?_⟩, fun z => absurd I3.good z⟩
      have go := L_X12_readsMay (l := l) (Q := Q) (v := v) (i := i) (b := a) (t := tkV T n q) (f := tkV T n (tkN T n q) + 1 - tkV T n q) I3.plan.may I.ok.may (by omega) ha (by omega) (fun S4 hS => by
        have e1 : S4 62 27 = (P 0 3 : Int) := by rw [hS.1 62 (by decide)]; exact I3.plan.mays
        have k := h _ ⟨(show frH S4 S from fun c j h1 h2 h3 => (congrFun (hS.1 c (by omega)) j).trans (fr3 c j h1 h2 h3)).u (by omega), I3.pl (I3.plan.aM hS) (I.ok.aM hi ha (by omega) hm hr) (fun c j h1 h2 => by rw [zuN (by omega), hS.1 c (by omega)]) (by rw [zuN (by omega), hS.1 1062 (by omega)])⟩
        rw [← e1] at k
        refine zwq_ok (Z_X12_readsMay l) rfl [141] (fun _ _ _ _ _ _ h => h) 400 (Z_X12_readsMay l) ?_
        exact ⟨by omega, k⟩) (tkV T n (tkN T n q) + 1 - tkV T n q) 0 S3 (by omega) ⟨fun _ _ => rfl, fun j hj => by rw [mrk_out (by omega)]; exact I3.plan.may j hj⟩
      rw [show (tkV T n q : Int) + ((0 : Nat) : Int) = (tkV T n q : Int) by omega, show (tkV T n q : Int) + ((tkV T n (tkN T n q) + 1 - tkV T n q : Nat) : Int) - 1 = (tkV T n (tkN T n q) : Int) by omega] at go
      exact go
    · rw [if_neg c2] at h
      have k := I2.rx (fr.Y f2) c2
      have hb := k.2.2.2
      exact ⟨fun z => absurd z hb, fun _ => ⟨Or.inl rfl, fun _ => h _ k, fun z => absurd rfl z⟩⟩
  · rw [if_neg c] at h
    have k := I.rx fr c
    have hb := k.2.2.2
    exact ⟨rfl, fun _ => ⟨fun z => absurd z hb, fun _ => ⟨Or.inl rfl, fun _ => h _ k, fun z => absurd rfl z⟩⟩, fun z => absurd z hb⟩
theorem zwr_s {x : Int} (h1 : -2147483648 ≤ x) (h2 : x < 2147483648) : zwr x = x := zto ⟨h1, h2⟩
/-- from the doing on -/
theorem mid_X12_readsMay {q i : Nat} (I : rdJ S1 T n P q) (fr : frH S1 S) (hi : i < P 0 1) (hm : P 0 3 < 40) (h : ∀ S', mR S S' T n (liM1 T n P i (liD T n P i q)) → Q (.inl none) S') : zGs l 4 0 0 F_X12_readsMay S1 42 [(0, .inr (.inl 62)), (1, .inl (i : Int)), (2, .inl (ooF T n q 5 0))] [] Q := by
  have o1 := I.ok.rooms
  have o2 := I.ok.lodgers
  have hd := liD_ok (T := T) (l := i) I.ok I.le
  rw [oo_5]
  unfold liD at h hd
  by_cases c : isW T n q (wdL 4) = true
  · rw [if_pos c]
    rw [if_pos c] at h hd
    refine zwq_ok (Z_X12_readsMay l) rfl [110] (fun _ _ _ _ _ _ h => h) 400 (Z_X12_readsMay l) ?_
    refine ⟨fun z => absurd z (by decide), fun _ => ⟨rfl, fun z => absurd I.good z, fun _ z => absurd z (by decide), fun _ _ => ⟨T, n, _, ⟨I.text, I.tok.1, I.nx⟩, fun S2 I2 f2 => ?_⟩⟩⟩
    replace I2 := I.adv I2 f2
    have fr2 : frH S2 S := fr.Y f2
    unfold liD2 at h hd
    refine ⟨fun _ => ⟨rfl, fun z => absurd I2.good z, fun _ => ⟨T, n, _, P 0 0, ⟨I2.plan.rooms, I2.tok, I2.le⟩, fun c2 => ?_, fun c2 => ?_⟩⟩, fun z => absurd rfl z⟩
    · rw [if_pos c2] at h hd
      have c2 := toF_0.mp c2
      have ev := I2.tok.2.2.2.2.1 c2.1
      have eh := I2.plan.home i hi
      refine ⟨fun z => absurd z (by decide), fun _ => ⟨i, ⟨rfl, by omega⟩, fun c3 => ⟨fun _ => ?_, fun z => absurd I2.good z⟩, fun c3 => ?_⟩⟩
      · rw [if_pos (by omega)] at h
        have k := I2.rx (k := 4) fr2 (by decide)
        have h := h _ k
        rw [← I2.tok.2.2.1] at h
        exact ⟨fun z => absurd (show (4 : Int) = 0 from z) (by decide), fun _ => ⟨Or.inl rfl, fun _ => bad1_X12_readsMay (show (4 : Int) ≠ 0 by decide) h, fun z => absurd rfl z⟩⟩
      · rw [if_neg (by omega)] at h hd
        have hd : 4 + tkV T n (tkN T n q) < 12 ∧ (∀ b, 4 + tkV T n (tkN T n q) = 4 + b → b < P 0 0 ∧ b ≠ P 3 i) ∧ tkN T n q ≤ tkN T n q ∧ tkN T n q ≤ n ∨ True := Or.inr trivial
        have ez : zwr (4 + S2 62 22) = ((4 + tkV T n (tkN T n q) : Nat) : Int) := by rw [zwr_s (by omega) (by omega)]; omega
        refine ⟨fun _ => ⟨Or.inr rfl, fun z => absurd z (by decide), fun _ => ?_⟩, fun z => absurd I2.good z⟩
        refine ⟨T, n, _, ⟨rfl, I2.text, I2.tok.1, I2.nx⟩, fun S3 I3 f3 => ?_⟩
        replace I3 := I2.adv I3 f3
        have go := good_X12_readsMay (l := l) (Q := Q) (v := 4) (i := i) (a := 4 + tkV T n (tkN T n q)) I3 (fr2.Y f3) hi (by omega) (fun b hb => ⟨by omega, fun z => by omega⟩) hm h
        rw [← ez] at go
        exact go
    · rw [if_neg c2] at h
      have k := I2.rx fr2 c2
      have hb := k.2.2.2
      exact ⟨fun _ => ⟨fun z => absurd z hb, fun _ => ⟨Or.inl rfl, fun _ => bad1_X12_readsMay hb (h _ k), fun z => absurd rfl z⟩⟩, fun z => absurd rfl z⟩
  · rw [if_neg c]
    rw [if_neg c] at h hd
    by_cases c2 : own T n q 0 < 4
    · rw [if_pos c2]
      rw [if_pos c2] at h hd
      refine zwq_ok (Z_X12_readsMay l) rfl [110] (fun _ _ _ _ _ _ h => h) 400 (Z_X12_readsMay l) ?_
      refine ⟨fun z => by omega, fun _ => ⟨rfl, fun z => absurd I.good z, fun _ z => absurd z (by decide), fun _ _ => ⟨T, n, _, ⟨I.text, I.tok.1, I.nx⟩, fun S2 I2 f2 => ?_⟩⟩⟩
      replace I2 := I.adv I2 f2
      refine ⟨fun z => by omega, fun _ => ?_⟩
      exact good_X12_readsMay (l := l) (Q := Q) (i := i) (a := own T n q 0) I2 (fr.Y f2) hi (by omega) (fun b hb => by omega) hm h
    · rw [if_neg c2]
      rw [if_neg c2] at h
      have k := I.rx (k := 1) fr (by decide)
      have h := h _ k
      rw [← I.tok.2.2.1] at h
      refine zwq_ok (Z_X12_readsMay l) rfl [110] (fun _ _ _ _ _ _ h => h) 400 (Z_X12_readsMay l) ?_
      exact ⟨fun _ => ⟨rfl, fun z => absurd I.good z, fun _ _ => ⟨fun z => absurd z (by decide), fun _ => bad1_X12_readsMay (show (1 : Int) ≠ 0 by decide) h⟩, fun _ z => absurd rfl z⟩, fun z => absurd rfl z⟩
end
theorem R_X12_readsMay (l : Launch) (a : List zV) (S : zS) (Q : zR2 → zS → Prop) (h : wp_X12_readsMay a S Q) : zRs l 4 0 0 yX12_readsMay (.code yX12_readsMay cX12_readsMay 7 (none)) a S Q := by
  unfold wp_X12_readsMay at h
  split at h
  · obtain ⟨T, n, P, p, ⟨rfl, I⟩, h⟩ := h
    have e1 := I.plan.mays
    have o1 := I.ok.mays
    unfold liM at h
    refine zRs_of 12 (by decide) rfl rfl ?_; refine zwq_ok (Z_X12_readsMay l) rfl [42, 56] (fun _ _ _ _ _ _ h => h) 400 (Z_X12_readsMay l) ?_
    refine ⟨fun c => ⟨fun _ => ?_, fun z => absurd I.good z⟩, fun c => ?_⟩
    · rw [if_neg (by omega)] at h
      have k := h _ (I.rx (k := 2) (frH.r S) (by decide))
      rw [← I.tok.2.2.1] at k
      exact ⟨fun z => absurd (show (2 : Int) = 0 from z) (by decide), fun _ => ⟨Or.inl rfl, fun _ => k, fun z => absurd rfl z⟩⟩
    · rw [if_pos (by omega)] at h
      refine ⟨fun _ => ⟨Or.inr rfl, fun z => absurd z (by decide), fun _ => ?_⟩, fun z => absurd I.good z⟩
      refine ⟨T, n, _, ⟨rfl, I.text, I.tok.1, I.nx⟩, fun S1 I1 f1 => ?_⟩
      replace I1 := I.adv I1 f1
      have fr1 : frH S1 S := (frH.r S).Y f1
      refine ⟨T, n, _, P 0 1, ⟨rfl, I1.good, I1.plan.lodgers, I1.text, I1.tok, I1.le⟩, fun c2 S2 I2 f2 => ?_, fun c2 => ?_⟩
      · rw [if_pos c2] at h
        have c2 := toF_0.mp c2
        replace I2 := I1.adv I2 f2
        refine ⟨T, n, _, 0, 5, ⟨rfl, rfl, rfl, by decide, I2.tok, I2.le⟩, ?_⟩
        exact mid_X12_readsMay (l := l) I2 (fr1.Y f2) c2.2.2 (by omega) h
      · rw [if_neg c2] at h
        have k := I1.rx fr1 c2
        have hb := k.2.2.2
        have hV : rdV (zu (zu S1 62 14 (toF T n (tkN T n p) (P 0 1) : Int)) 62 15 (tkP T n (tkN T n p) : Int)) T n (tkN T n p) := I1.tok.fr (fun j _ _ => by rw [zuN (by omega), zuN (by omega)]) (by rw [zuN (by omega), zuN (by omega)])
        refine ⟨T, n, _, 0, 5, ⟨rfl, rfl, rfl, by decide, hV, I1.le⟩, ?_⟩
        refine zwq_ok (Z_X12_readsMay l) rfl [56] (fun _ _ _ _ _ _ h => h) 400 (Z_X12_readsMay l) ?_
        exact ⟨fun c3 => ⟨rfl, fun _ => bad2_X12_readsMay hb (h _ k), fun z => absurd z hb, fun z => absurd z hb⟩, fun c3 => ⟨rfl, fun _ => bad2_X12_readsMay hb (h _ k), fun z => absurd z hb, fun z => absurd z hb⟩⟩
  · exact h.elim
