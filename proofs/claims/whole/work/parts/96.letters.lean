/-! the house: the words -/
def wdL : Nat → List Nat
  | 0 => [111, 117, 116]
  | 1 => [97, 115, 108, 101, 101, 112]
  | 2 => [99, 114, 111, 115, 115]
  | 3 => [99, 97, 108, 109]
  | 4 => [97, 116]
  | 5 => [110, 111, 110, 101]
  | 6 => [108, 101, 102, 116]
  | 7 => [114, 105, 103, 104, 116]
  | 8 => [98, 111, 116, 104]
  | 9 => [114, 111, 111, 109]
  | 10 => [108, 111, 100, 103, 101, 114]
  | 11 => [102, 105, 110, 100, 101, 114]
  | 12 => [109, 97, 121]
  | _ => [108, 97, 119]
def pkL (w : List Nat) : Nat := w.foldl (fun a c => a * 32 + (c - 96)) 0
def B_X12_letters : List (Nat × zC) := [(77, (1, 0, 6, 0, 0, 0, 0)), (93, (1, 0, 6, 0, 0, 0, 0)), (108, (1, 0, 6, 0, 0, 0, 0)), (122, (1, 0, 6, 0, 0, 0, 0)), (134, (1, 0, 6, 0, 0, 0, 0)), (148, (1, 0, 6, 0, 0, 0, 0)), (162, (1, 0, 6, 0, 0, 0, 0)), (177, (1, 0, 6, 0, 0, 0, 0)), (191, (1, 0, 6, 0, 0, 0, 0)), (205, (1, 0, 6, 0, 0, 0, 0)), (221, (1, 0, 6, 0, 0, 0, 0)), (237, (1, 0, 6, 0, 0, 0, 0)), (250, (1, 0, 6, 0, 0, 0, 0)), (263, (1, 0, 6, 0, 0, 0, 0))]
def O_X12_letters : zO := fun j a S K => match j with
  | 0 => wp_X12_spelled a S K
  | _ => False
theorem E_X12_letters (l : Launch) : ∀ q ∈ B_X12_letters, zcok l O_X12_letters F_X12_letters q.1 q.2 := List.forall_mem_cons.mpr ⟨⟨179, yX12_spelled, cX12_spelled, 8, some .long, by decide +kernel, C_12_179, W_X12_spelled, I_X12_spelled, rfl, R_X12_spelled l⟩, List.forall_mem_cons.mpr ⟨⟨179, yX12_spelled, cX12_spelled, 8, some .long, by decide +kernel, C_12_179, W_X12_spelled, I_X12_spelled, rfl, R_X12_spelled l⟩, List.forall_mem_cons.mpr ⟨⟨179, yX12_spelled, cX12_spelled, 8, some .long, by decide +kernel, C_12_179, W_X12_spelled, I_X12_spelled, rfl, R_X12_spelled l⟩, List.forall_mem_cons.mpr ⟨⟨179, yX12_spelled, cX12_spelled, 8, some .long, by decide +kernel, C_12_179, W_X12_spelled, I_X12_spelled, rfl, R_X12_spelled l⟩, List.forall_mem_cons.mpr ⟨⟨179, yX12_spelled, cX12_spelled, 8, some .long, by decide +kernel, C_12_179, W_X12_spelled, I_X12_spelled, rfl, R_X12_spelled l⟩, List.forall_mem_cons.mpr ⟨⟨179, yX12_spelled, cX12_spelled, 8, some .long, by decide +kernel, C_12_179, W_X12_spelled, I_X12_spelled, rfl, R_X12_spelled l⟩, List.forall_mem_cons.mpr ⟨⟨179, yX12_spelled, cX12_spelled, 8, some .long, by decide +kernel, C_12_179, W_X12_spelled, I_X12_spelled, rfl, R_X12_spelled l⟩, List.forall_mem_cons.mpr ⟨⟨179, yX12_spelled, cX12_spelled, 8, some .long, by decide +kernel, C_12_179, W_X12_spelled, I_X12_spelled, rfl, R_X12_spelled l⟩, List.forall_mem_cons.mpr ⟨⟨179, yX12_spelled, cX12_spelled, 8, some .long, by decide +kernel, C_12_179, W_X12_spelled, I_X12_spelled, rfl, R_X12_spelled l⟩, List.forall_mem_cons.mpr ⟨⟨179, yX12_spelled, cX12_spelled, 8, some .long, by decide +kernel, C_12_179, W_X12_spelled, I_X12_spelled, rfl, R_X12_spelled l⟩, List.forall_mem_cons.mpr ⟨⟨179, yX12_spelled, cX12_spelled, 8, some .long, by decide +kernel, C_12_179, W_X12_spelled, I_X12_spelled, rfl, R_X12_spelled l⟩, List.forall_mem_cons.mpr ⟨⟨179, yX12_spelled, cX12_spelled, 8, some .long, by decide +kernel, C_12_179, W_X12_spelled, I_X12_spelled, rfl, R_X12_spelled l⟩, List.forall_mem_cons.mpr ⟨⟨179, yX12_spelled, cX12_spelled, 8, some .long, by decide +kernel, C_12_179, W_X12_spelled, I_X12_spelled, rfl, R_X12_spelled l⟩, List.forall_mem_cons.mpr ⟨⟨179, yX12_spelled, cX12_spelled, 8, some .long, by decide +kernel, C_12_179, W_X12_spelled, I_X12_spelled, rfl, R_X12_spelled l⟩, fun _ h => by cases h⟩⟩⟩⟩⟩⟩⟩⟩⟩⟩⟩⟩⟩⟩
def U_X12_letters : List (Nat × zE) := [(0, Sum.inl (2, 0, 0, 0, 1, [])), (1, Sum.inl (32, 0, 254, 0, 0, [68, 81, 97, 112, 126, 138, 152, 166, 181, 195, 209, 225, 241])), (68, Sum.inl (0, 0, 0, 111, 70, [])), (70, Sum.inl (0, 0, 0, 117, 72, [])), (72, Sum.inl (0, 0, 0, 116, 74, [])), (74, Sum.inl (0, 0, 0, 0, 75, [])), (75, Sum.inl (0, 0, 0, 0, 76, [])), (76, Sum.inl (0, 0, 0, 0, 77, [])), (77, Sum.inr (1, 0, 6, 0, 0, 0, 0)), (80, Sum.inl (28, 0, 0, 0, 81, [])), (81, Sum.inl (0, 0, 0, 97, 83, [])), (83, Sum.inl (0, 0, 0, 115, 85, [])), (85, Sum.inl (0, 0, 0, 108, 87, [])), (87, Sum.inl (0, 0, 0, 101, 89, [])), (89, Sum.inl (0, 0, 0, 101, 91, [])), (91, Sum.inl (0, 0, 0, 112, 93, [])), (93, Sum.inr (1, 0, 6, 0, 0, 0, 0)), (96, Sum.inl (28, 0, 0, 0, 97, [])), (97, Sum.inl (0, 0, 0, 99, 99, [])), (99, Sum.inl (0, 0, 0, 114, 101, [])), (101, Sum.inl (0, 0, 0, 111, 103, [])), (103, Sum.inl (0, 0, 0, 115, 105, [])), (105, Sum.inl (0, 0, 0, 115, 107, [])), (107, Sum.inl (0, 0, 0, 0, 108, [])), (108, Sum.inr (1, 0, 6, 0, 0, 0, 0)), (111, Sum.inl (28, 0, 0, 0, 112, [])), (112, Sum.inl (0, 0, 0, 99, 114, [])), (114, Sum.inl (0, 0, 0, 97, 116, [])), (116, Sum.inl (0, 0, 0, 108, 118, [])), (118, Sum.inl (0, 0, 0, 109, 120, [])), (120, Sum.inl (0, 0, 0, 0, 121, [])), (121, Sum.inl (0, 0, 0, 0, 122, [])), (122, Sum.inr (1, 0, 6, 0, 0, 0, 0)), (125, Sum.inl (28, 0, 0, 0, 126, [])), (126, Sum.inl (0, 0, 0, 97, 128, [])), (128, Sum.inl (0, 0, 0, 116, 130, [])), (130, Sum.inl (0, 0, 0, 0, 131, [])), (131, Sum.inl (0, 0, 0, 0, 132, [])), (132, Sum.inl (0, 0, 0, 0, 133, [])), (133, Sum.inl (0, 0, 0, 0, 134, [])), (134, Sum.inr (1, 0, 6, 0, 0, 0, 0)), (137, Sum.inl (28, 0, 0, 0, 138, [])), (138, Sum.inl (0, 0, 0, 110, 140, [])), (140, Sum.inl (0, 0, 0, 111, 142, [])), (142, Sum.inl (0, 0, 0, 110, 144, [])), (144, Sum.inl (0, 0, 0, 101, 146, [])), (146, Sum.inl (0, 0, 0, 0, 147, [])), (147, Sum.inl (0, 0, 0, 0, 148, [])), (148, Sum.inr (1, 0, 6, 0, 0, 0, 0)), (151, Sum.inl (28, 0, 0, 0, 152, [])), (152, Sum.inl (0, 0, 0, 108, 154, [])), (154, Sum.inl (0, 0, 0, 101, 156, [])), (156, Sum.inl (0, 0, 0, 102, 158, [])), (158, Sum.inl (0, 0, 0, 116, 160, [])), (160, Sum.inl (0, 0, 0, 0, 161, [])), (161, Sum.inl (0, 0, 0, 0, 162, [])), (162, Sum.inr (1, 0, 6, 0, 0, 0, 0)), (165, Sum.inl (28, 0, 0, 0, 166, [])), (166, Sum.inl (0, 0, 0, 114, 168, [])), (168, Sum.inl (0, 0, 0, 105, 170, [])), (170, Sum.inl (0, 0, 0, 103, 172, [])), (172, Sum.inl (0, 0, 0, 104, 174, [])), (174, Sum.inl (0, 0, 0, 116, 176, [])), (176, Sum.inl (0, 0, 0, 0, 177, [])), (177, Sum.inr (1, 0, 6, 0, 0, 0, 0)), (180, Sum.inl (28, 0, 0, 0, 181, [])), (181, Sum.inl (0, 0, 0, 98, 183, [])), (183, Sum.inl (0, 0, 0, 111, 185, [])), (185, Sum.inl (0, 0, 0, 116, 187, [])), (187, Sum.inl (0, 0, 0, 104, 189, [])), (189, Sum.inl (0, 0, 0, 0, 190, [])), (190, Sum.inl (0, 0, 0, 0, 191, [])), (191, Sum.inr (1, 0, 6, 0, 0, 0, 0)), (194, Sum.inl (28, 0, 0, 0, 195, [])), (195, Sum.inl (0, 0, 0, 114, 197, [])), (197, Sum.inl (0, 0, 0, 111, 199, [])), (199, Sum.inl (0, 0, 0, 111, 201, [])), (201, Sum.inl (0, 0, 0, 109, 203, [])), (203, Sum.inl (0, 0, 0, 0, 204, [])), (204, Sum.inl (0, 0, 0, 0, 205, [])), (205, Sum.inr (1, 0, 6, 0, 0, 0, 0)), (208, Sum.inl (28, 0, 0, 0, 209, [])), (209, Sum.inl (0, 0, 0, 108, 211, [])), (211, Sum.inl (0, 0, 0, 111, 213, [])), (213, Sum.inl (0, 0, 0, 100, 215, [])), (215, Sum.inl (0, 0, 0, 103, 217, [])), (217, Sum.inl (0, 0, 0, 101, 219, [])), (219, Sum.inl (0, 0, 0, 114, 221, [])), (221, Sum.inr (1, 0, 6, 0, 0, 0, 0)), (224, Sum.inl (28, 0, 0, 0, 225, [])), (225, Sum.inl (0, 0, 0, 102, 227, [])), (227, Sum.inl (0, 0, 0, 105, 229, [])), (229, Sum.inl (0, 0, 0, 110, 231, [])), (231, Sum.inl (0, 0, 0, 100, 233, [])), (233, Sum.inl (0, 0, 0, 101, 235, [])), (235, Sum.inl (0, 0, 0, 114, 237, [])), (237, Sum.inr (1, 0, 6, 0, 0, 0, 0)), (240, Sum.inl (28, 0, 0, 0, 241, [])), (241, Sum.inl (0, 0, 0, 109, 243, [])), (243, Sum.inl (0, 0, 0, 97, 245, [])), (245, Sum.inl (0, 0, 0, 121, 247, [])), (247, Sum.inl (0, 0, 0, 0, 248, [])), (248, Sum.inl (0, 0, 0, 0, 249, [])), (249, Sum.inl (0, 0, 0, 0, 250, [])), (250, Sum.inr (1, 0, 6, 0, 0, 0, 0)), (253, Sum.inl (28, 0, 0, 0, 254, [])), (254, Sum.inl (0, 0, 0, 108, 256, [])), (256, Sum.inl (0, 0, 0, 97, 258, [])), (258, Sum.inl (0, 0, 0, 119, 260, [])), (260, Sum.inl (0, 0, 0, 0, 261, [])), (261, Sum.inl (0, 0, 0, 0, 262, [])), (262, Sum.inl (0, 0, 0, 0, 263, [])), (263, Sum.inr (1, 0, 6, 0, 0, 0, 0)), (266, Sum.inl (28, 0, 0, 0, 267, []))]
set_option maxRecDepth 20000 in
theorem Z_X12_letters (l : Launch) : ∀ q ∈ U_X12_letters, zTok l O_X12_letters F_X12_letters q := zU_ok rfl rfl rfl K_X12_letters (E_X12_letters l)
def wp_X12_letters (a : List zV) (S : zS) (K : zR2 → zS → Prop) : Prop := match a with
  | [.inl x] => ∃ i : Nat, (x = (i : Int) ∧ i < 14) ∧ K (.inl (some (.inr (.inr (pkL (wdL i) : Int))))) S
  | _ => False
theorem R_X12_letters (l : Launch) (a : List zV) (S : zS) (Q : zR2 → zS → Prop) (h : wp_X12_letters a S Q) : zRs l 1 0 0 yX12_letters (.code yX12_letters cX12_letters 1 (some .long)) a S Q := by
  unfold wp_X12_letters at h
  split at h
  · obtain ⟨i, ⟨rfl, hi⟩, h⟩ := h
    refine zRs_of 12 (by decide) rfl rfl ?_; refine zwq_ok (Z_X12_letters l) rfl [] (fun _ _ _ _ _ _ h => h) 400 (Z_X12_letters l) ?_
    refine ⟨fun c => ?_, fun c => ?_, fun c => ?_, fun c => ?_, fun c => ?_, fun c => ?_, fun c => ?_, fun c => ?_, fun c => ?_, fun c => ?_, fun c => ?_, fun c => ?_, fun c => ?_, fun c => ?_⟩
    · have e : i = 0 := by omega
      subst e
      exact ⟨111, 117, 116, 0, 0, 0, ⟨rfl, rfl, rfl, rfl, rfl, rfl, ⟨by decide, by decide⟩, ⟨by decide, by decide⟩, Or.inr ⟨by decide, by decide⟩, Or.inl rfl, Or.inl rfl, Or.inl rfl⟩, h⟩
    · have e : i = 1 := by omega
      subst e
      exact ⟨97, 115, 108, 101, 101, 112, ⟨rfl, rfl, rfl, rfl, rfl, rfl, ⟨by decide, by decide⟩, ⟨by decide, by decide⟩, Or.inr ⟨by decide, by decide⟩, Or.inr ⟨by decide, by decide⟩, Or.inr ⟨by decide, by decide⟩, Or.inr ⟨by decide, by decide⟩⟩, h⟩
    · have e : i = 2 := by omega
      subst e
      exact ⟨99, 114, 111, 115, 115, 0, ⟨rfl, rfl, rfl, rfl, rfl, rfl, ⟨by decide, by decide⟩, ⟨by decide, by decide⟩, Or.inr ⟨by decide, by decide⟩, Or.inr ⟨by decide, by decide⟩, Or.inr ⟨by decide, by decide⟩, Or.inl rfl⟩, h⟩
    · have e : i = 3 := by omega
      subst e
      exact ⟨99, 97, 108, 109, 0, 0, ⟨rfl, rfl, rfl, rfl, rfl, rfl, ⟨by decide, by decide⟩, ⟨by decide, by decide⟩, Or.inr ⟨by decide, by decide⟩, Or.inr ⟨by decide, by decide⟩, Or.inl rfl, Or.inl rfl⟩, h⟩
    · have e : i = 4 := by omega
      subst e
      exact ⟨97, 116, 0, 0, 0, 0, ⟨rfl, rfl, rfl, rfl, rfl, rfl, ⟨by decide, by decide⟩, ⟨by decide, by decide⟩, Or.inl rfl, Or.inl rfl, Or.inl rfl, Or.inl rfl⟩, h⟩
    · have e : i = 5 := by omega
      subst e
      exact ⟨110, 111, 110, 101, 0, 0, ⟨rfl, rfl, rfl, rfl, rfl, rfl, ⟨by decide, by decide⟩, ⟨by decide, by decide⟩, Or.inr ⟨by decide, by decide⟩, Or.inr ⟨by decide, by decide⟩, Or.inl rfl, Or.inl rfl⟩, h⟩
    · have e : i = 6 := by omega
      subst e
      exact ⟨108, 101, 102, 116, 0, 0, ⟨rfl, rfl, rfl, rfl, rfl, rfl, ⟨by decide, by decide⟩, ⟨by decide, by decide⟩, Or.inr ⟨by decide, by decide⟩, Or.inr ⟨by decide, by decide⟩, Or.inl rfl, Or.inl rfl⟩, h⟩
    · have e : i = 7 := by omega
      subst e
      exact ⟨114, 105, 103, 104, 116, 0, ⟨rfl, rfl, rfl, rfl, rfl, rfl, ⟨by decide, by decide⟩, ⟨by decide, by decide⟩, Or.inr ⟨by decide, by decide⟩, Or.inr ⟨by decide, by decide⟩, Or.inr ⟨by decide, by decide⟩, Or.inl rfl⟩, h⟩
    · have e : i = 8 := by omega
      subst e
      exact ⟨98, 111, 116, 104, 0, 0, ⟨rfl, rfl, rfl, rfl, rfl, rfl, ⟨by decide, by decide⟩, ⟨by decide, by decide⟩, Or.inr ⟨by decide, by decide⟩, Or.inr ⟨by decide, by decide⟩, Or.inl rfl, Or.inl rfl⟩, h⟩
    · have e : i = 9 := by omega
      subst e
      exact ⟨114, 111, 111, 109, 0, 0, ⟨rfl, rfl, rfl, rfl, rfl, rfl, ⟨by decide, by decide⟩, ⟨by decide, by decide⟩, Or.inr ⟨by decide, by decide⟩, Or.inr ⟨by decide, by decide⟩, Or.inl rfl, Or.inl rfl⟩, h⟩
    · have e : i = 10 := by omega
      subst e
      exact ⟨108, 111, 100, 103, 101, 114, ⟨rfl, rfl, rfl, rfl, rfl, rfl, ⟨by decide, by decide⟩, ⟨by decide, by decide⟩, Or.inr ⟨by decide, by decide⟩, Or.inr ⟨by decide, by decide⟩, Or.inr ⟨by decide, by decide⟩, Or.inr ⟨by decide, by decide⟩⟩, h⟩
    · have e : i = 11 := by omega
      subst e
      exact ⟨102, 105, 110, 100, 101, 114, ⟨rfl, rfl, rfl, rfl, rfl, rfl, ⟨by decide, by decide⟩, ⟨by decide, by decide⟩, Or.inr ⟨by decide, by decide⟩, Or.inr ⟨by decide, by decide⟩, Or.inr ⟨by decide, by decide⟩, Or.inr ⟨by decide, by decide⟩⟩, h⟩
    · have e : i = 12 := by omega
      subst e
      exact ⟨109, 97, 121, 0, 0, 0, ⟨rfl, rfl, rfl, rfl, rfl, rfl, ⟨by decide, by decide⟩, ⟨by decide, by decide⟩, Or.inr ⟨by decide, by decide⟩, Or.inl rfl, Or.inl rfl, Or.inl rfl⟩, h⟩
    · have e : i = 13 := by omega
      subst e
      exact ⟨108, 97, 119, 0, 0, 0, ⟨rfl, rfl, rfl, rfl, rfl, rfl, ⟨by decide, by decide⟩, ⟨by decide, by decide⟩, Or.inr ⟨by decide, by decide⟩, Or.inl rfl, Or.inl rfl, Or.inl rfl⟩, h⟩
  · exact h.elim
