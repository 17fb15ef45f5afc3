/-! the house: the class reads what one may do; a line; the whole text -/
def B_X7_readDoing : List (Nat × zC) := [(3, (0, 0, 1, 4, 0, 0, 7)), (10, (0, 1, 0, 5, 0, 0, 7)), (15, (0, 2, 0, 1, 0, 0, 7)), (26, (0, 3, 1, 1, 0, 0, 7)), (52, (0, 4, 1, 0, 0, 0, 7))]
def O_X7_readDoing : zO := fun j a S K => match j with
  | 0 => wp_X7_isWord a S K
  | 1 => wp_X7_ownDoing a S K
  | 2 => wp_X7_advance a S K
  | 3 => wp_X7_toldNumber a S K
  | 4 => wp_X7_refuse a S K
  | _ => False
theorem E_X7_readDoing (l : Launch) : ∀ q ∈ B_X7_readDoing, zcok l O_X7_readDoing F_X7_readDoing q.1 q.2 := List.forall_mem_cons.mpr ⟨⟨54, yX7_isWord, cX7_isWord, 3, some .boolean, by decide +kernel, C_7_54, W_X7_isWord, I_X7_isWord, S_X7_isWord, rfl, rfl, R_X7_isWord l⟩, List.forall_mem_cons.mpr ⟨⟨137, yX7_ownDoing, cX7_ownDoing, 1, some .int, by decide +kernel, C_7_137, W_X7_ownDoing, I_X7_ownDoing, S_X7_ownDoing, rfl, rfl, R_X7_ownDoing l⟩, List.forall_mem_cons.mpr ⟨⟨43, yX7_advance, cX7_advance, 2, none, by decide +kernel, C_7_43, W_X7_advance, I_X7_advance, S_X7_advance, rfl, rfl, R_X7_advance l⟩, List.forall_mem_cons.mpr ⟨⟨102, yX7_toldNumber, cX7_toldNumber, 3, some .int, by decide +kernel, C_7_102, W_X7_toldNumber, I_X7_toldNumber, S_X7_toldNumber, rfl, rfl, R_X7_toldNumber l⟩, List.forall_mem_cons.mpr ⟨⟨81, yX7_refuse, cX7_refuse, 2, some .int, by decide +kernel, C_7_81, W_X7_refuse, I_X7_refuse, S_X7_refuse, rfl, rfl, R_X7_refuse l⟩, fun _ h => by cases h⟩⟩⟩⟩⟩
def U_X7_readDoing : List (Nat × zE) := [(0, Sum.inl (4, 0, 0, 0, 1, [])), (3, Sum.inr (0, 0, 1, 4, 0, 0, 7)), (6, Sum.inl (17, 0, 9, 0, 14, [])), (9, Sum.inl (4, 0, 0, 0, 10, [])), (10, Sum.inr (0, 1, 0, 5, 0, 0, 7)), (13, Sum.inl (27, 0, 0, 0, 14, [])), (14, Sum.inl (4, 0, 0, 0, 15, [])), (15, Sum.inr (0, 2, 0, 1, 0, 0, 7)), (18, Sum.inl (4, 0, 0, 0, 19, [])), (19, Sum.inl (4, 0, 0, 0, 20, [])), (20, Sum.inl (18, 7, 1, 0, 23, [])), (23, Sum.inl (18, 6, 7, 0, 26, [])), (26, Sum.inr (0, 3, 1, 1, 0, 0, 7)), (29, Sum.inl (5, 2, 0, 0, 30, [])), (30, Sum.inl (2, 2, 0, 0, 31, [])), (31, Sum.inl (0, 0, 0, (-1), 32, [])), (32, Sum.inl (16, 0, 35, 0, 37, [])), (35, Sum.inl (0, 0, 0, (-1), 36, [])), (36, Sum.inl (27, 0, 0, 0, 37, [])), (37, Sum.inl (2, 2, 0, 0, 38, [])), (38, Sum.inl (4, 0, 0, 0, 39, [])), (39, Sum.inl (18, 7, 1, 0, 42, [])), (42, Sum.inl (18, 6, 2, 0, 45, [])), (45, Sum.inl (2, 1, 0, 0, 46, [])), (46, Sum.inl (20, 0, 0, 0, 47, [])), (47, Sum.inl (16, 0, 50, 0, 56, [])), (50, Sum.inl (4, 0, 0, 0, 51, [])), (51, Sum.inl (0, 0, 0, 4, 52, [])), (52, Sum.inr (0, 4, 1, 0, 0, 0, 7)), (55, Sum.inl (27, 0, 0, 0, 56, [])), (56, Sum.inl (0, 0, 0, 10, 58, [])), (58, Sum.inl (2, 2, 0, 0, 59, [])), (59, Sum.inl (9, 0, 0, 0, 60, [])), (60, Sum.inl (27, 0, 0, 0, 61, []))]
theorem Z_X7_readDoing (l : Launch) : ∀ q ∈ U_X7_readDoing, zTok l O_X7_readDoing F_X7_readDoing q := zU_ok rfl rfl rfl K_X7_readDoing (E_X7_readDoing l)
def rRd (S0 S : zS) (v : Int) (T : zD) (n : Nat) (P : zD) (r : (Nat × Nat) ⊕ (Nat × Nat)) : Prop := frg S S0 ∧ match r with
  | .inl (k, q) => v = -1 ∧ rR S0 S T n (.inl (k, q))
  | .inr (a, q) => v = (tol a : Int) ∧ rdI S T n P q
def wp_X7_readDoing (a : List zV) (S : zS) (K : zR2 → zS → Prop) : Prop := match a with
  | [.inr (.inl c), .inl x] => ∃ (T : zD) (n : Nat) (P : zD) (p i : Nat), (c = 19 ∧ x = (i : Int) ∧ i < P 0 1 ∧ rdI S T n P p) ∧ ∀ S' v, rRd S S' v T n P (liD T n P i p) → K (.inl (some (.inl v))) S'
  | _ => False
theorem R_X7_readDoing (l : Launch) (a : List zV) (S : zS) (Q : zR2 → zS → Prop) (h : wp_X7_readDoing a S Q) : zRs l 6 0 0 yX7_readDoing (.code yX7_readDoing cX7_readDoing 3 (some .int)) a S Q := by
  unfold wp_X7_readDoing at h
  split at h
  · obtain ⟨T, n, P, p, i, ⟨rfl, rfl, hi, I⟩, h⟩ := h
    have o1 := I.ok.rooms
    have o2 := I.ok.lodgers
    unfold liD at h
    refine zRs_of 7 (by decide) rfl rfl ?_; refine zwq_ok (Z_X7_readDoing l) rfl [] (fun _ _ _ _ _ _ h => h) 400 (Z_X7_readDoing l) ?_
    refine zGs.ldc 6 _ rfl rfl (by decide +kernel) ?_
    refine zwq_ok (Z_X7_readDoing l) rfl [] (fun _ _ _ _ _ _ h => h) 400 (Z_X7_readDoing l) ?_
    refine ⟨T, n, p, 6, ⟨rfl, rfl, by decide, I.text, I.tok, I.le⟩, fun c => ?_, fun c => ?_⟩
    · have w : ¬ isW T n p (wdL 4) = true := bt_f c
      rw [if_neg w] at h
      refine ⟨T, n, P, p, ⟨rfl, I⟩, fun c2 => ?_, fun c2 => ?_⟩
      · rw [if_pos c2] at h
        exact h S _ ⟨frg.r S, by unfold tol; rw [if_pos c2], I⟩
      · rw [if_neg c2] at h
        have k := I.rx (k := 1) (frg.r S)
        exact h _ _ ⟨k.1, rfl, k⟩
    · have w : isW T n p (wdL 4) = true := bt_t c
      rw [if_pos w] at h
      unfold liD2 at h
      refine ⟨T, n, _, ⟨rfl, I.text, I.tok.1, I.nx⟩, fun S1 I1 f1 => ?_⟩
      replace I1 := I.adv I1 f1
      refine ⟨T, n, tkN T n p, P 0 0, ⟨rfl, I1.plan.rooms, I1.good, I1.tok, I1.le, I1.n7⟩, fun c2 => ?_, fun c2 => ?_⟩
      · rw [if_pos c2] at h
        have c2 := toF_0.mp c2
        have eh := I1.plan.home i hi
        refine ⟨fun z => by omega, fun _ => ⟨i, ⟨rfl, by omega⟩, fun c3 => ?_, fun c3 => ⟨by omega, ?_⟩⟩⟩
        · rw [if_pos (by omega)] at h
          have k := I1.rx (k := 4) ((frg.r S).T f1)
          have h := h _ (-1) ⟨k.1, rfl, k⟩
          rw [← I1.tok.2.2.1] at h
          exact ⟨fun _ => h, fun z => absurd I1.good z⟩
        · rw [if_neg (by omega)] at h
          refine h S1 _ ⟨(frg.r S).T f1, ?_, I1⟩
          unfold tol
          rw [if_neg (by omega)]
          omega
      · rw [if_neg c2] at h
        have k := I1.rx (k := toF T n (tkN T n p) (P 0 0)) ((frg.r S).T f1)
        exact ⟨fun _ => h _ (-1) ⟨k.1, rfl, k⟩, fun z => absurd rfl z⟩
  · exact h.elim
def B_X7_readMay : List (Nat × zC) := [(10, (0, 0, 2, 1, 0, 0, 7)), (18, (0, 1, 0, 1, 0, 0, 7)), (29, (0, 2, 1, 1, 0, 0, 7)), (40, (0, 1, 0, 1, 0, 0, 7)), (45, (0, 3, 1, 6, 0, 0, 7)), (56, (0, 1, 0, 1, 0, 0, 7)), (63, (0, 4, 2, 1, 0, 0, 7)), (74, (0, 1, 0, 1, 0, 0, 7)), (81, (0, 4, 2, 1, 0, 0, 7)), (102, (0, 5, 4, 0, 0, 0, 6)), (106, (0, 1, 0, 1, 0, 0, 7))]
def O_X7_readMay : zO := fun j a S K => match j with
  | 0 => wp_X7_isFull a S K
  | 1 => wp_X7_advance a S K
  | 2 => wp_X7_toldNumber a S K
  | 3 => wp_X7_readDoing a S K
  | 4 => wp_X7_numberWithin a S K
  | 5 => wp_X6_addMay a S K
  | _ => False
theorem E_X7_readMay (l : Launch) : ∀ q ∈ B_X7_readMay, zcok l O_X7_readMay F_X7_readMay q.1 q.2 := List.forall_mem_cons.mpr ⟨⟨88, yX7_isFull, cX7_isFull, 3, some .boolean, by decide +kernel, C_7_88, W_X7_isFull, I_X7_isFull, S_X7_isFull, rfl, rfl, R_X7_isFull l⟩, List.forall_mem_cons.mpr ⟨⟨43, yX7_advance, cX7_advance, 2, none, by decide +kernel, C_7_43, W_X7_advance, I_X7_advance, S_X7_advance, rfl, rfl, R_X7_advance l⟩, List.forall_mem_cons.mpr ⟨⟨102, yX7_toldNumber, cX7_toldNumber, 3, some .int, by decide +kernel, C_7_102, W_X7_toldNumber, I_X7_toldNumber, S_X7_toldNumber, rfl, rfl, R_X7_toldNumber l⟩, List.forall_mem_cons.mpr ⟨⟨43, yX7_advance, cX7_advance, 2, none, by decide +kernel, C_7_43, W_X7_advance, I_X7_advance, S_X7_advance, rfl, rfl, R_X7_advance l⟩, List.forall_mem_cons.mpr ⟨⟨128, yX7_readDoing, cX7_readDoing, 3, some .int, by decide +kernel, C_7_128, W_X7_readDoing, I_X7_readDoing, S_X7_readDoing, rfl, rfl, R_X7_readDoing l⟩, List.forall_mem_cons.mpr ⟨⟨43, yX7_advance, cX7_advance, 2, none, by decide +kernel, C_7_43, W_X7_advance, I_X7_advance, S_X7_advance, rfl, rfl, R_X7_advance l⟩, List.forall_mem_cons.mpr ⟨⟨92, yX7_numberWithin, cX7_numberWithin, 4, some .int, by decide +kernel, C_7_92, W_X7_numberWithin, I_X7_numberWithin, S_X7_numberWithin, rfl, rfl, R_X7_numberWithin l⟩, List.forall_mem_cons.mpr ⟨⟨43, yX7_advance, cX7_advance, 2, none, by decide +kernel, C_7_43, W_X7_advance, I_X7_advance, S_X7_advance, rfl, rfl, R_X7_advance l⟩, List.forall_mem_cons.mpr ⟨⟨92, yX7_numberWithin, cX7_numberWithin, 4, some .int, by decide +kernel, C_7_92, W_X7_numberWithin, I_X7_numberWithin, S_X7_numberWithin, rfl, rfl, R_X7_numberWithin l⟩, List.forall_mem_cons.mpr ⟨⟨131, yX6_addMay, cX6_addMay, 6, none, by decide +kernel, C_7_131, W_X6_addMay, I_X6_addMay, S_X6_addMay, rfl, rfl, R_X6_addMay l⟩, List.forall_mem_cons.mpr ⟨⟨43, yX7_advance, cX7_advance, 2, none, by decide +kernel, C_7_43, W_X7_advance, I_X7_advance, S_X7_advance, rfl, rfl, R_X7_advance l⟩, fun _ h => by cases h⟩⟩⟩⟩⟩⟩⟩⟩⟩⟩⟩
def U_X7_readMay : List (Nat × zE) := [(0, Sum.inl (4, 0, 0, 0, 1, [])), (1, Sum.inl (4, 0, 0, 0, 2, [])), (2, Sum.inl (18, 7, 1, 0, 5, [])), (5, Sum.inl (18, 6, 10, 0, 8, [])), (8, Sum.inl (0, 0, 0, 40, 10, [])), (10, Sum.inr (0, 0, 2, 1, 0, 0, 7)), (13, Sum.inl (17, 0, 17, 0, 16, [])), (16, Sum.inl (29, 0, 0, 0, 17, [])), (17, Sum.inl (4, 0, 0, 0, 18, [])), (18, Sum.inr (0, 1, 0, 1, 0, 0, 7)), (21, Sum.inl (4, 0, 0, 0, 22, [])), (22, Sum.inl (4, 0, 0, 0, 23, [])), (23, Sum.inl (18, 7, 1, 0, 26, [])), (26, Sum.inl (18, 6, 8, 0, 29, [])), (29, Sum.inr (0, 2, 1, 1, 0, 0, 7)), (32, Sum.inl (5, 1, 0, 0, 33, [])), (33, Sum.inl (2, 1, 0, 0, 34, [])), (34, Sum.inl (0, 0, 0, (-1), 35, [])), (35, Sum.inl (16, 0, 38, 0, 39, [])), (38, Sum.inl (29, 0, 0, 0, 39, [])), (39, Sum.inl (4, 0, 0, 0, 40, [])), (40, Sum.inr (0, 1, 0, 1, 0, 0, 7)), (43, Sum.inl (4, 0, 0, 0, 44, [])), (44, Sum.inl (2, 1, 0, 0, 45, [])), (45, Sum.inr (0, 3, 1, 6, 0, 0, 7)), (48, Sum.inl (5, 2, 0, 0, 49, [])), (49, Sum.inl (2, 2, 0, 0, 50, [])), (50, Sum.inl (0, 0, 0, (-1), 51, [])), (51, Sum.inl (16, 0, 54, 0, 55, [])), (54, Sum.inl (29, 0, 0, 0, 55, [])), (55, Sum.inl (4, 0, 0, 0, 56, [])), (56, Sum.inr (0, 1, 0, 1, 0, 0, 7)), (59, Sum.inl (4, 0, 0, 0, 60, [])), (60, Sum.inl (0, 0, 0, 0, 61, [])), (61, Sum.inl (0, 0, 0, 23, 63, [])), (63, Sum.inr (0, 4, 2, 1, 0, 0, 7)), (66, Sum.inl (5, 3, 0, 0, 67, [])), (67, Sum.inl (2, 3, 0, 0, 68, [])), (68, Sum.inl (0, 0, 0, (-1), 69, [])), (69, Sum.inl (16, 0, 72, 0, 73, [])), (72, Sum.inl (29, 0, 0, 0, 73, [])), (73, Sum.inl (4, 0, 0, 0, 74, [])), (74, Sum.inr (0, 1, 0, 1, 0, 0, 7)), (77, Sum.inl (4, 0, 0, 0, 78, [])), (78, Sum.inl (2, 3, 0, 0, 79, [])), (79, Sum.inl (0, 0, 0, 23, 81, [])), (81, Sum.inr (0, 4, 2, 1, 0, 0, 7)), (84, Sum.inl (5, 4, 0, 0, 86, [])), (86, Sum.inl (2, 4, 0, 0, 88, [])), (88, Sum.inl (0, 0, 0, (-1), 89, [])), (89, Sum.inl (16, 0, 92, 0, 93, [])), (92, Sum.inl (29, 0, 0, 0, 93, [])), (93, Sum.inl (4, 0, 0, 0, 94, [])), (94, Sum.inl (18, 7, 1, 0, 97, [])), (97, Sum.inl (2, 1, 0, 0, 98, [])), (98, Sum.inl (2, 2, 0, 0, 99, [])), (99, Sum.inl (2, 3, 0, 0, 100, [])), (100, Sum.inl (2, 4, 0, 0, 102, [])), (102, Sum.inr (0, 5, 4, 0, 0, 0, 6)), (105, Sum.inl (4, 0, 0, 0, 106, [])), (106, Sum.inr (0, 1, 0, 1, 0, 0, 7)), (109, Sum.inl (29, 0, 0, 0, 110, []))]
theorem Z_X7_readMay (l : Launch) : ∀ q ∈ U_X7_readMay, zTok l O_X7_readMay F_X7_readMay q := zU_ok rfl rfl rfl K_X7_readMay (E_X7_readMay l)
def wp_X7_readMay (a : List zV) (S : zS) (K : zR2 → zS → Prop) : Prop := match a with
  | [.inr (.inl c)] => ∃ (T : zD) (n : Nat) (P : zD) (p : Nat), (c = 19 ∧ rdI S T n P p) ∧ ∀ S', rR S S' T n (liM T n P p (tkN T n p)) → K (.inl none) S'
  | _ => False
theorem R_X7_readMay (l : Launch) (a : List zV) (S : zS) (Q : zR2 → zS → Prop) (h : wp_X7_readMay a S Q) : zRs l 7 0 0 yX7_readMay (.code yX7_readMay cX7_readMay 5 (none)) a S Q := by
  unfold wp_X7_readMay at h
  split at h
  · obtain ⟨T, n, P, p, ⟨rfl, I⟩, h⟩ := h
    have e1 := I.plan.mays
    have o1 := I.ok.lodgers
    unfold liM at h
    refine zRs_of 7 (by decide) rfl rfl ?_; refine zwq_ok (Z_X7_readMay l) rfl [] (fun _ _ _ _ _ _ h => h) 400 (Z_X7_readMay l) ?_
    refine ⟨⟨rfl, I.good⟩, fun c => ⟨fun _ => ?_, fun z => absurd rfl z⟩, fun c => ⟨fun z => absurd z (by decide), fun _ => ?_⟩⟩
    · rw [if_pos (by omega)] at h
      refine ⟨T, n, _, ⟨rfl, I.text, I.tok.1, I.nx⟩, fun S1 I1 f1 => ?_⟩
      replace I1 := I.adv I1 f1
      refine ⟨T, n, tkN T n p, P 0 1, ⟨rfl, I1.plan.lodgers, I1.good, I1.tok, I1.le, I1.n7⟩, fun c2 => ?_, fun c2 => ?_⟩
      · rw [if_pos c2] at h
        have c2 := toF_0.mp c2
        refine ⟨fun z => by omega, fun _ => ?_⟩
        refine ⟨T, n, _, ⟨rfl, I1.text, I1.tok.1, I1.nx⟩, fun S2 I2 f2 => ?_⟩
        replace I2 := I1.adv I2 f2
        have hd := liD_ok (T := T) (l := tkV T n (tkN T n p)) I.ok I2.le
        refine ⟨T, n, P, _, tkV T n (tkN T n p), ⟨rfl, rfl, c2.2.2, I2⟩, fun S3 v h3 => ?_⟩
        have f3 : frg S3 S := (((frg.r S).T f1).T f2).t h3.1
        cases hD : liD T n P (tkV T n (tkN T n p)) (tkN T n (tkN T n p)) with
        | inl e =>
          obtain ⟨k, q⟩ := e
          rw [hD] at h h3
          obtain ⟨-, rfl, -, h4, h5⟩ := h3
          exact ⟨fun _ => h S3 ⟨f3, h4, h5⟩, fun z => absurd rfl z⟩
        | inr e =>
          obtain ⟨a, q⟩ := e
          rw [hD] at h h3 hd
          obtain ⟨-, rfl, I3⟩ := h3
          have hd : a < 12 ∧ (∀ b, a = 4 + b → b < P 0 0 ∧ b ≠ P 3 (tkV T n (tkN T n p))) ∧ tkN T n (tkN T n p) ≤ q ∧ q ≤ n := hd
          have h : ∀ S', rR S S' T n (liM2 T n P (tkV T n (tkN T n p)) a (tkN T n q)) → Q (.inl none) S' := h
          unfold liM2 at h
          refine ⟨fun z => by omega, fun _ => ?_⟩
          refine ⟨T, n, _, ⟨rfl, I3.text, I3.tok.1, I3.nx⟩, fun S4 I4 f4 => ?_⟩
          replace I4 := I3.adv I4 f4
          refine ⟨T, n, _, 0, 23, ⟨rfl, rfl, rfl, I4.good, I4.tok, I4.le, I4.n7⟩, fun c5 => ?_, fun c5 => ?_⟩
          · rw [if_pos c5] at h
            have c5 := nuF_0.mp c5
            unfold liM3 at h
            refine ⟨fun z => by omega, fun _ => ?_⟩
            refine ⟨T, n, _, ⟨rfl, I4.text, I4.tok.1, I4.nx⟩, fun S5 I5 f5 => ?_⟩
            replace I5 := I4.adv I5 f5
            refine ⟨T, n, _, tkV T n (tkN T n q), 23, ⟨rfl, rfl, rfl, I5.good, I5.tok, I5.le, I5.n7⟩, fun c6 => ?_, fun c6 => ?_⟩
            · rw [if_pos c6] at h
              have c6 := nuF_0.mp c6
              refine ⟨fun z => by omega, fun _ => ?_⟩
              refine ⟨P, tkV T n (tkN T n p), a, tkV T n (tkN T n q), tkV T n (tkN T n (tkN T n q)) + 1 - tkV T n (tkN T n q), ⟨rfl, rfl, rfl, rfl, by omega, I5.plan, I.ok.may, by omega, hd.1, by omega, by omega⟩, fun S6 hC f6 => ?_⟩
              have I6 := I5.pl hC (I.ok.aM c2.2.2 hd.1 (by omega) (by omega) hd.2.1) f6
              refine ⟨T, n, _, ⟨rfl, I6.text, I6.tok.1, I6.nx⟩, fun S7 I7 f7 => ?_⟩
              replace I7 := I6.adv I7 f7
              exact h S7 ⟨(((f3.T f4).T f5).D f6).T f7, I7.text, I7⟩
            · rw [if_neg c6] at h
              exact ⟨fun _ => h _ (I5.rx ((f3.T f4).T f5)), fun z => absurd rfl z⟩
          · rw [if_neg c5] at h
            exact ⟨fun _ => h _ (I4.rx (f3.T f4)), fun z => absurd rfl z⟩
      · rw [if_neg c2] at h
        exact ⟨fun _ => h _ (I1.rx ((frg.r S).T f1)), fun z => absurd rfl z⟩
    · rw [if_neg (by omega)] at h
      have k := I.rx (k := 2) (frg.r S)
      rw [← I.tok.2.2.1] at k
      exact h _ k
  · exact h.elim
def B_X7_readLine : List (Nat × zC) := [(3, (0, 0, 1, 4, 0, 0, 7)), (10, (0, 1, 0, 2, 0, 0, 7)), (19, (0, 0, 1, 4, 0, 0, 7)), (26, (0, 2, 0, 5, 0, 0, 7)), (35, (0, 0, 1, 4, 0, 0, 7)), (42, (0, 3, 0, 2, 0, 0, 7)), (51, (0, 0, 1, 4, 0, 0, 7)), (58, (0, 4, 0, 7, 0, 0, 7)), (67, (0, 0, 1, 4, 0, 0, 7)), (74, (0, 5, 0, 6, 0, 0, 7)), (82, (0, 6, 1, 0, 0, 0, 7)), (103, (0, 6, 1, 0, 0, 0, 7)), (108, (0, 7, 0, 1, 0, 0, 7))]
def O_X7_readLine : zO := fun j a S K => match j with
  | 0 => wp_X7_isWord a S K
  | 1 => wp_X7_readRoom a S K
  | 2 => wp_X7_readLodger a S K
  | 3 => wp_X7_readFinder a S K
  | 4 => wp_X7_readMay a S K
  | 5 => wp_X7_readLaw a S K
  | 6 => wp_X7_refuse a S K
  | 7 => wp_X7_advance a S K
  | _ => False
theorem E_X7_readLine (l : Launch) : ∀ q ∈ B_X7_readLine, zcok l O_X7_readLine F_X7_readLine q.1 q.2 := List.forall_mem_cons.mpr ⟨⟨54, yX7_isWord, cX7_isWord, 3, some .boolean, by decide +kernel, C_7_54, W_X7_isWord, I_X7_isWord, S_X7_isWord, rfl, rfl, R_X7_isWord l⟩, List.forall_mem_cons.mpr ⟨⟨58, yX7_readRoom, cX7_readRoom, 2, none, by decide +kernel, C_7_58, W_X7_readRoom, I_X7_readRoom, S_X7_readRoom, rfl, rfl, R_X7_readRoom l⟩, List.forall_mem_cons.mpr ⟨⟨54, yX7_isWord, cX7_isWord, 3, some .boolean, by decide +kernel, C_7_54, W_X7_isWord, I_X7_isWord, S_X7_isWord, rfl, rfl, R_X7_isWord l⟩, List.forall_mem_cons.mpr ⟨⟨63, yX7_readLodger, cX7_readLodger, 2, none, by decide +kernel, C_7_63, W_X7_readLodger, I_X7_readLodger, S_X7_readLodger, rfl, rfl, R_X7_readLodger l⟩, List.forall_mem_cons.mpr ⟨⟨54, yX7_isWord, cX7_isWord, 3, some .boolean, by decide +kernel, C_7_54, W_X7_isWord, I_X7_isWord, S_X7_isWord, rfl, rfl, R_X7_isWord l⟩, List.forall_mem_cons.mpr ⟨⟨68, yX7_readFinder, cX7_readFinder, 2, none, by decide +kernel, C_7_68, W_X7_readFinder, I_X7_readFinder, S_X7_readFinder, rfl, rfl, R_X7_readFinder l⟩, List.forall_mem_cons.mpr ⟨⟨54, yX7_isWord, cX7_isWord, 3, some .boolean, by decide +kernel, C_7_54, W_X7_isWord, I_X7_isWord, S_X7_isWord, rfl, rfl, R_X7_isWord l⟩, List.forall_mem_cons.mpr ⟨⟨73, yX7_readMay, cX7_readMay, 5, none, by decide +kernel, C_7_73, W_X7_readMay, I_X7_readMay, S_X7_readMay, rfl, rfl, R_X7_readMay l⟩, List.forall_mem_cons.mpr ⟨⟨54, yX7_isWord, cX7_isWord, 3, some .boolean, by decide +kernel, C_7_54, W_X7_isWord, I_X7_isWord, S_X7_isWord, rfl, rfl, R_X7_isWord l⟩, List.forall_mem_cons.mpr ⟨⟨78, yX7_readLaw, cX7_readLaw, 3, none, by decide +kernel, C_7_78, W_X7_readLaw, I_X7_readLaw, S_X7_readLaw, rfl, rfl, R_X7_readLaw l⟩, List.forall_mem_cons.mpr ⟨⟨81, yX7_refuse, cX7_refuse, 2, some .int, by decide +kernel, C_7_81, W_X7_refuse, I_X7_refuse, S_X7_refuse, rfl, rfl, R_X7_refuse l⟩, List.forall_mem_cons.mpr ⟨⟨81, yX7_refuse, cX7_refuse, 2, some .int, by decide +kernel, C_7_81, W_X7_refuse, I_X7_refuse, S_X7_refuse, rfl, rfl, R_X7_refuse l⟩, List.forall_mem_cons.mpr ⟨⟨43, yX7_advance, cX7_advance, 2, none, by decide +kernel, C_7_43, W_X7_advance, I_X7_advance, S_X7_advance, rfl, rfl, R_X7_advance l⟩, fun _ h => by cases h⟩⟩⟩⟩⟩⟩⟩⟩⟩⟩⟩⟩⟩
def U_X7_readLine : List (Nat × zE) := [(0, Sum.inl (4, 0, 0, 0, 1, [])), (3, Sum.inr (0, 0, 1, 4, 0, 0, 7)), (6, Sum.inl (17, 0, 16, 0, 9, [])), (9, Sum.inl (4, 0, 0, 0, 10, [])), (10, Sum.inr (0, 1, 0, 2, 0, 0, 7)), (13, Sum.inl (15, 0, 0, 0, 86, [])), (16, Sum.inl (4, 0, 0, 0, 17, [])), (19, Sum.inr (0, 0, 1, 4, 0, 0, 7)), (22, Sum.inl (17, 0, 32, 0, 25, [])), (25, Sum.inl (4, 0, 0, 0, 26, [])), (26, Sum.inr (0, 2, 0, 5, 0, 0, 7)), (29, Sum.inl (15, 0, 0, 0, 86, [])), (32, Sum.inl (4, 0, 0, 0, 33, [])), (35, Sum.inr (0, 0, 1, 4, 0, 0, 7)), (38, Sum.inl (17, 0, 48, 0, 41, [])), (41, Sum.inl (4, 0, 0, 0, 42, [])), (42, Sum.inr (0, 3, 0, 2, 0, 0, 7)), (45, Sum.inl (15, 0, 0, 0, 86, [])), (48, Sum.inl (4, 0, 0, 0, 49, [])), (51, Sum.inr (0, 0, 1, 4, 0, 0, 7)), (54, Sum.inl (17, 0, 64, 0, 57, [])), (57, Sum.inl (4, 0, 0, 0, 58, [])), (58, Sum.inr (0, 4, 0, 7, 0, 0, 7)), (61, Sum.inl (15, 0, 0, 0, 86, [])), (64, Sum.inl (4, 0, 0, 0, 65, [])), (67, Sum.inr (0, 0, 1, 4, 0, 0, 7)), (70, Sum.inl (17, 0, 80, 0, 73, [])), (73, Sum.inl (4, 0, 0, 0, 74, [])), (74, Sum.inr (0, 5, 0, 6, 0, 0, 7)), (77, Sum.inl (15, 0, 0, 0, 86, [])), (80, Sum.inl (4, 0, 0, 0, 81, [])), (81, Sum.inl (0, 0, 0, 1, 82, [])), (82, Sum.inr (0, 6, 1, 0, 0, 0, 7)), (85, Sum.inl (14, 0, 0, 0, 86, [])), (86, Sum.inl (4, 0, 0, 0, 87, [])), (87, Sum.inl (18, 7, 7, 0, 90, [])), (90, Sum.inl (17, 0, 93, 0, 107, [])), (93, Sum.inl (4, 0, 0, 0, 94, [])), (94, Sum.inl (18, 7, 4, 0, 97, [])), (97, Sum.inl (0, 0, 0, 3, 98, [])), (98, Sum.inl (16, 0, 107, 0, 101, [])), (101, Sum.inl (4, 0, 0, 0, 102, [])), (102, Sum.inl (0, 0, 0, 1, 103, [])), (103, Sum.inr (0, 6, 1, 0, 0, 0, 7)), (106, Sum.inl (14, 0, 0, 0, 107, [])), (107, Sum.inl (4, 0, 0, 0, 108, [])), (108, Sum.inr (0, 7, 0, 1, 0, 0, 7)), (111, Sum.inl (29, 0, 0, 0, 112, []))]
theorem Z_X7_readLine (l : Launch) : ∀ q ∈ U_X7_readLine, zTok l O_X7_readLine F_X7_readLine q := zU_ok rfl rfl rfl K_X7_readLine (E_X7_readLine l)
def wp_X7_readLine (a : List zV) (S : zS) (K : zR2 → zS → Prop) : Prop := match a with
  | [.inr (.inl c)] => ∃ (T : zD) (n : Nat) (P : zD) (p : Nat), (c = 19 ∧ rdI S T n P p) ∧ ∀ S', rR S S' T n (li0 T n P p) → K (.inl none) S'
  | _ => False
section
variable {l : Launch} {Q : zR2 → zS → Prop} {S : zS} {T : zD} {n : Nat} {P : zD} {p : Nat}
theorem L_X7_readLine {S1 : zS} {r : zLn} (hg : match r with | .inl (k, _) => 1 ≤ k | .inr _ => True) (h : ∀ S', rR S S' T n (liS T n r) → Q (.inl none) S') (h1 : rR S S1 T n r) : zGs l 8 0 0 F_X7_readLine S1 86 [(0, .inr (.inl 19))] [] Q := by
  obtain ⟨fr, tx, hr⟩ := h1
  rcases r with ⟨k, q⟩ | ⟨P1, q⟩
  · obtain ⟨a1, a2, e, a3, a4⟩ := hr
    have hg : 1 ≤ k := hg
    refine zwq_ok (Z_X7_readLine l) rfl [86] (fun _ _ _ _ _ _ h => h) 400 (Z_X7_readLine l) ?_
    refine ⟨fun c => by omega, fun c => ?_⟩
    refine ⟨T, n, e, ⟨rfl, tx, a4, a3⟩, fun S2 hS f2 => ?_⟩
    refine h S2 ⟨fr.T f2, tx.ft f2, (f2 19 7 (by omega)).trans a1, (f2 19 8 (by omega)).trans a2, tkN T n e, (tk_le (T := T) a3).2.2.1, hS.1⟩
  · have I1 : rdI S1 T n P1 q := hr
    have e4 := I1.tok.2.1
    have h : ∀ S', rR S S' T n (if tkS T n q = 3 then .inr (P1, tkN T n q) else liE T n 1 q) → Q (.inl none) S' := h
    refine zwq_ok (Z_X7_readLine l) rfl [86] (fun _ _ _ _ _ _ h => h) 400 (Z_X7_readLine l) ?_
    refine ⟨fun _ => ⟨fun c => ?_, fun c => ?_⟩, fun z => absurd I1.good z⟩
    · rw [if_pos (by omega)] at h
      refine ⟨T, n, _, ⟨rfl, I1.text, I1.tok.1, I1.nx⟩, fun S2 I2 f2 => ?_⟩
      replace I2 := I1.adv I2 f2
      exact h S2 ⟨fr.T f2, I2.text, I2⟩
    · rw [if_neg (by omega)] at h
      have k := I1.rx (k := 1) fr
      obtain ⟨k1, k2, k3, k4, e, k5, k6⟩ := id k
      rw [← I1.tok.2.2.1] at k1 k2 k3 k4 k6
      refine ⟨fun _ => ?_, fun z => absurd I1.good z⟩
      refine ⟨T, n, e, ⟨rfl, k2, k6, k5⟩, fun S2 hS f2 => ?_⟩
      refine h S2 ⟨k1.T f2, k2.ft f2, (f2 19 7 (by omega)).trans k3, (f2 19 8 (by omega)).trans (k4.trans I1.tok.2.2.1), tkN T n e, (tk_le (T := T) k5).2.2.1, hS.1⟩
end
theorem R_X7_readLine (l : Launch) (a : List zV) (S : zS) (Q : zR2 → zS → Prop) (h : wp_X7_readLine a S Q) : zRs l 8 0 0 yX7_readLine (.code yX7_readLine cX7_readLine 1 (none)) a S Q := by
  unfold wp_X7_readLine at h
  split at h
  · obtain ⟨T, n, P, p, ⟨rfl, I⟩, h⟩ := h
    have hg := li1_ok (T := T) I.ok I.le
    have L : ∀ S1, rR S S1 T n (li1 T n P p) → zGs l 8 0 0 F_X7_readLine S1 86 [(0, .inr (.inl 19))] [] Q := fun S1 h1 => L_X7_readLine (l := l) (by
      unfold liG at hg
      cases hr : li1 T n P p with
      | inl e => rw [hr] at hg; exact hg.1
      | inr e => trivial) h h1
    unfold li1 at L
    refine zRs_of 7 (by decide) rfl rfl ?_; refine zwq_ok (Z_X7_readLine l) rfl [86] (fun _ _ _ _ _ _ h => h) 400 (Z_X7_readLine l) ?_
    refine zGs.ldc 0 _ rfl rfl (by decide +kernel) ?_
    refine zwq_ok (Z_X7_readLine l) rfl [86] (fun _ _ _ _ _ _ h => h) 400 (Z_X7_readLine l) ?_
    refine ⟨T, n, p, 0, ⟨rfl, rfl, by decide, I.text, I.tok, I.le⟩, fun c => ?_, fun c => ?_⟩
    · rw [if_neg (show ¬ isW T n p (wdL 9) = true from bt_f c)] at L
      refine zGs.ldc 1 _ rfl rfl (by decide +kernel) ?_
      refine zwq_ok (Z_X7_readLine l) rfl [86] (fun _ _ _ _ _ _ h => h) 400 (Z_X7_readLine l) ?_
      refine ⟨T, n, p, 1, ⟨rfl, rfl, by decide, I.text, I.tok, I.le⟩, fun c => ?_, fun c => ?_⟩
      · rw [if_neg (show ¬ isW T n p (wdL 10) = true from bt_f c)] at L
        refine zGs.ldc 4 _ rfl rfl (by decide +kernel) ?_
        refine zwq_ok (Z_X7_readLine l) rfl [86] (fun _ _ _ _ _ _ h => h) 400 (Z_X7_readLine l) ?_
        refine ⟨T, n, p, 4, ⟨rfl, rfl, by decide, I.text, I.tok, I.le⟩, fun c => ?_, fun c => ?_⟩
        · rw [if_neg (show ¬ isW T n p (wdL 11) = true from bt_f c)] at L
          refine zGs.ldc 5 _ rfl rfl (by decide +kernel) ?_
          refine zwq_ok (Z_X7_readLine l) rfl [86] (fun _ _ _ _ _ _ h => h) 400 (Z_X7_readLine l) ?_
          refine ⟨T, n, p, 5, ⟨rfl, rfl, by decide, I.text, I.tok, I.le⟩, fun c => ?_, fun c => ?_⟩
          · rw [if_neg (show ¬ isW T n p (wdL 12) = true from bt_f c)] at L
            refine zGs.ldc 11 _ rfl rfl (by decide +kernel) ?_
            refine zwq_ok (Z_X7_readLine l) rfl [86] (fun _ _ _ _ _ _ h => h) 400 (Z_X7_readLine l) ?_
            refine ⟨T, n, p, 11, ⟨rfl, rfl, by decide, I.text, I.tok, I.le⟩, fun c => ?_, fun c => ?_⟩
            · rw [if_neg (show ¬ isW T n p (wdL 13) = true from bt_f c)] at L
              have k := I.rx (k := 1) (frg.r S)
              have L := L _ k
              rw [← I.tok.2.2.1] at L
              exact ⟨fun _ => L, fun z => absurd I.good z⟩
            · rw [if_pos (show isW T n p (wdL 13) = true from bt_t c)] at L
              exact ⟨T, n, P, p, ⟨rfl, I⟩, fun S1 h1 => L S1 h1⟩
          · rw [if_pos (show isW T n p (wdL 12) = true from bt_t c)] at L
            exact ⟨T, n, P, p, ⟨rfl, I⟩, fun S1 h1 => L S1 h1⟩
        · rw [if_pos (show isW T n p (wdL 11) = true from bt_t c)] at L
          exact ⟨T, n, P, p, ⟨rfl, I⟩, fun S1 h1 => L S1 h1⟩
      · rw [if_pos (show isW T n p (wdL 10) = true from bt_t c)] at L
        exact ⟨T, n, P, p, ⟨rfl, I⟩, fun S1 h1 => L S1 h1⟩
    · rw [if_pos (show isW T n p (wdL 9) = true from bt_t c)] at L
      exact ⟨T, n, P, p, ⟨rfl, I⟩, fun S1 h1 => L S1 h1⟩
  · exact h.elim
