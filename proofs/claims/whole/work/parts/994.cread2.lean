/-! the house: the class reads words, lodgers, laws -/
theorem cP.ft {S : zS} {P : zD} {r e1 e2 : Nat} {v : Int} (h : cP S (adL P r 1 1)) (hv : v = (e1 : Int) + 2 * (e2 : Int)) : cP (zu S 15 (P 0 1) v) (adL P r e1 e2) := by
  have e4 : ∀ x y k, adL P r x y 4 k = if k = 2 * P 0 1 + 1 then y else if k = 2 * P 0 1 then x else P 4 k := fun x y k => (zuD_n (Or.inl (by omega))).trans (zu_if.trans (by rw [zu_if]; split; rfl; split; rfl; exact (zuD_n (Or.inl (by omega))).trans (zuD_n (Or.inl (by omega)))))
  have eC : ∀ c, c ≠ 4 → adL P r e1 e2 c = adL P r 1 1 c := fun c hc => funext fun j => by
    by_cases c0 : c = 0
    · subst c0
      by_cases j1 : j = 1
      · subst j1; rfl
      · exact ((zuD_n (Or.inr j1)).trans ((zuD_n (Or.inl (by omega))).trans (zuD_n (Or.inl (by omega))))).trans ((zuD_n (Or.inr j1)).trans ((zuD_n (Or.inl (by omega))).trans (zuD_n (Or.inl (by omega))))).symm
    · exact ((zuD_n (Or.inl c0)).trans ((zuD_n (Or.inl hc)).trans (zuD_n (Or.inl hc)))).trans ((zuD_n (Or.inl c0)).trans ((zuD_n (Or.inl hc)).trans (zuD_n (Or.inl hc)))).symm
  have eL : adL P r 1 1 0 1 = P 0 1 + 1 := rfl
  unfold cP
  rw [eC 0 (by omega), eC 1 (by omega), eC 2 (by omega), eC 3 (by omega), eC 5 (by omega), eC 6 (by omega), eC 7 (by omega)]
  refine ⟨h.rooms, h.lodgers, h.finders, h.mays, h.laws, h.goods, h.tenant, h.home, ?_, h.begins, h.told, h.law⟩
  intro l hl
  have hl2 : l < P 0 1 + 1 := hl
  rw [zu_i, e4, e4]
  by_cases c : l = P 0 1
  · rw [if_pos c, if_neg (by omega), if_pos (by omega), if_pos (by omega)]; exact hv
  · rw [if_neg c, if_neg (by omega), if_neg (by omega), if_neg (by omega), if_neg (by omega)]
    have := h.feet l hl
    rw [e4, e4, if_neg (by omega), if_neg (by omega), if_neg (by omega), if_neg (by omega)] at this
    exact this
def B_X7_ownDoing : List (Nat × zC) := [(3, (0, 0, 1, 4, 0, 0, 7)), (14, (0, 0, 1, 4, 0, 0, 7)), (25, (0, 0, 1, 4, 0, 0, 7)), (36, (0, 0, 1, 4, 0, 0, 7)), (46, (0, 1, 1, 0, 0, 0, 7))]
def O_X7_ownDoing : zO := fun j a S K => match j with
  | 0 => wp_X7_isWord a S K
  | 1 => wp_X7_refuse a S K
  | _ => False
theorem E_X7_ownDoing (l : Launch) : ∀ q ∈ B_X7_ownDoing, zcok l O_X7_ownDoing F_X7_ownDoing q.1 q.2 := List.forall_mem_cons.mpr ⟨⟨54, yX7_isWord, cX7_isWord, 3, some .boolean, by decide +kernel, C_7_54, W_X7_isWord, I_X7_isWord, S_X7_isWord, rfl, rfl, R_X7_isWord l⟩, List.forall_mem_cons.mpr ⟨⟨54, yX7_isWord, cX7_isWord, 3, some .boolean, by decide +kernel, C_7_54, W_X7_isWord, I_X7_isWord, S_X7_isWord, rfl, rfl, R_X7_isWord l⟩, List.forall_mem_cons.mpr ⟨⟨54, yX7_isWord, cX7_isWord, 3, some .boolean, by decide +kernel, C_7_54, W_X7_isWord, I_X7_isWord, S_X7_isWord, rfl, rfl, R_X7_isWord l⟩, List.forall_mem_cons.mpr ⟨⟨54, yX7_isWord, cX7_isWord, 3, some .boolean, by decide +kernel, C_7_54, W_X7_isWord, I_X7_isWord, S_X7_isWord, rfl, rfl, R_X7_isWord l⟩, List.forall_mem_cons.mpr ⟨⟨81, yX7_refuse, cX7_refuse, 2, some .int, by decide +kernel, C_7_81, W_X7_refuse, I_X7_refuse, S_X7_refuse, rfl, rfl, R_X7_refuse l⟩, fun _ h => by cases h⟩⟩⟩⟩⟩
def U_X7_ownDoing : List (Nat × zE) := [(0, Sum.inl (4, 0, 0, 0, 1, [])), (3, Sum.inr (0, 0, 1, 4, 0, 0, 7)), (6, Sum.inl (17, 0, 11, 0, 9, [])), (9, Sum.inl (0, 0, 0, 0, 10, [])), (10, Sum.inl (27, 0, 0, 0, 11, [])), (11, Sum.inl (4, 0, 0, 0, 12, [])), (14, Sum.inr (0, 0, 1, 4, 0, 0, 7)), (17, Sum.inl (17, 0, 22, 0, 20, [])), (20, Sum.inl (0, 0, 0, 1, 21, [])), (21, Sum.inl (27, 0, 0, 0, 22, [])), (22, Sum.inl (4, 0, 0, 0, 23, [])), (25, Sum.inr (0, 0, 1, 4, 0, 0, 7)), (28, Sum.inl (17, 0, 33, 0, 31, [])), (31, Sum.inl (0, 0, 0, 2, 32, [])), (32, Sum.inl (27, 0, 0, 0, 33, [])), (33, Sum.inl (4, 0, 0, 0, 34, [])), (36, Sum.inr (0, 0, 1, 4, 0, 0, 7)), (39, Sum.inl (17, 0, 44, 0, 42, [])), (42, Sum.inl (0, 0, 0, 3, 43, [])), (43, Sum.inl (27, 0, 0, 0, 44, [])), (44, Sum.inl (4, 0, 0, 0, 45, [])), (45, Sum.inl (0, 0, 0, 1, 46, [])), (46, Sum.inr (0, 1, 1, 0, 0, 0, 7)), (49, Sum.inl (27, 0, 0, 0, 50, []))]
theorem Z_X7_ownDoing (l : Launch) : ∀ q ∈ U_X7_ownDoing, zTok l O_X7_ownDoing F_X7_ownDoing q := zU_ok rfl rfl rfl K_X7_ownDoing (E_X7_ownDoing l)
def B_X7_signTold : List (Nat × zC) := [(3, (0, 0, 1, 4, 0, 0, 7)), (14, (0, 0, 1, 4, 0, 0, 7)), (25, (0, 0, 1, 4, 0, 0, 7)), (36, (0, 0, 1, 4, 0, 0, 7)), (46, (0, 1, 1, 0, 0, 0, 7))]
def O_X7_signTold : zO := fun j a S K => match j with
  | 0 => wp_X7_isWord a S K
  | 1 => wp_X7_refuse a S K
  | _ => False
theorem E_X7_signTold (l : Launch) : ∀ q ∈ B_X7_signTold, zcok l O_X7_signTold F_X7_signTold q.1 q.2 := List.forall_mem_cons.mpr ⟨⟨54, yX7_isWord, cX7_isWord, 3, some .boolean, by decide +kernel, C_7_54, W_X7_isWord, I_X7_isWord, S_X7_isWord, rfl, rfl, R_X7_isWord l⟩, List.forall_mem_cons.mpr ⟨⟨54, yX7_isWord, cX7_isWord, 3, some .boolean, by decide +kernel, C_7_54, W_X7_isWord, I_X7_isWord, S_X7_isWord, rfl, rfl, R_X7_isWord l⟩, List.forall_mem_cons.mpr ⟨⟨54, yX7_isWord, cX7_isWord, 3, some .boolean, by decide +kernel, C_7_54, W_X7_isWord, I_X7_isWord, S_X7_isWord, rfl, rfl, R_X7_isWord l⟩, List.forall_mem_cons.mpr ⟨⟨54, yX7_isWord, cX7_isWord, 3, some .boolean, by decide +kernel, C_7_54, W_X7_isWord, I_X7_isWord, S_X7_isWord, rfl, rfl, R_X7_isWord l⟩, List.forall_mem_cons.mpr ⟨⟨81, yX7_refuse, cX7_refuse, 2, some .int, by decide +kernel, C_7_81, W_X7_refuse, I_X7_refuse, S_X7_refuse, rfl, rfl, R_X7_refuse l⟩, fun _ h => by cases h⟩⟩⟩⟩⟩
def U_X7_signTold : List (Nat × zE) := [(0, Sum.inl (4, 0, 0, 0, 1, [])), (3, Sum.inr (0, 0, 1, 4, 0, 0, 7)), (6, Sum.inl (17, 0, 11, 0, 9, [])), (9, Sum.inl (0, 0, 0, 0, 10, [])), (10, Sum.inl (27, 0, 0, 0, 11, [])), (11, Sum.inl (4, 0, 0, 0, 12, [])), (14, Sum.inr (0, 0, 1, 4, 0, 0, 7)), (17, Sum.inl (17, 0, 22, 0, 20, [])), (20, Sum.inl (0, 0, 0, 1, 21, [])), (21, Sum.inl (27, 0, 0, 0, 22, [])), (22, Sum.inl (4, 0, 0, 0, 23, [])), (25, Sum.inr (0, 0, 1, 4, 0, 0, 7)), (28, Sum.inl (17, 0, 33, 0, 31, [])), (31, Sum.inl (0, 0, 0, 2, 32, [])), (32, Sum.inl (27, 0, 0, 0, 33, [])), (33, Sum.inl (4, 0, 0, 0, 34, [])), (36, Sum.inr (0, 0, 1, 4, 0, 0, 7)), (39, Sum.inl (17, 0, 44, 0, 42, [])), (42, Sum.inl (0, 0, 0, 3, 43, [])), (43, Sum.inl (27, 0, 0, 0, 44, [])), (44, Sum.inl (4, 0, 0, 0, 45, [])), (45, Sum.inl (0, 0, 0, 1, 46, [])), (46, Sum.inr (0, 1, 1, 0, 0, 0, 7)), (49, Sum.inl (27, 0, 0, 0, 50, []))]
theorem Z_X7_signTold (l : Launch) : ∀ q ∈ U_X7_signTold, zTok l O_X7_signTold F_X7_signTold q := zU_ok rfl rfl rfl K_X7_signTold (E_X7_signTold l)
def wp_X7_ownDoing (a : List zV) (S : zS) (K : zR2 → zS → Prop) : Prop := match a with
  | [.inr (.inl c)] => ∃ (T : zD) (n : Nat) (P : zD) (p : Nat), (c = 19 ∧ rdI S T n P p) ∧ (own T n p 0 < 4 → K (.inl (some (.inl (own T n p 0 : Int)))) S) ∧ (¬ own T n p 0 < 4 → K (.inl (some (.inl (-1)))) (zu (zu S 19 7 1) 19 8 (tkP T n p : Int)))
  | _ => False
theorem R_X7_ownDoing (l : Launch) (a : List zV) (S : zS) (Q : zR2 → zS → Prop) (h : wp_X7_ownDoing a S Q) : zRs l 5 0 0 yX7_ownDoing (.code yX7_ownDoing cX7_ownDoing 1 (some .int)) a S Q := by
  unfold wp_X7_ownDoing at h
  split at h
  · obtain ⟨T, n, P, p, ⟨rfl, I⟩, h1, h2⟩ := h
    unfold own at h1 h2
    rw [← I.tok.2.2.1] at h2
    refine zRs_of 7 (by decide) rfl rfl ?_; refine zwq_ok (Z_X7_ownDoing l) rfl [] (fun _ _ _ _ _ _ h => h) 400 (Z_X7_ownDoing l) ?_
    refine zGs.ldc 7 _ rfl rfl (by decide +kernel) ?_
    refine zwq_ok (Z_X7_ownDoing l) rfl [] (fun _ _ _ _ _ _ h => h) 400 (Z_X7_ownDoing l) ?_
    refine ⟨T, n, p, 7, ⟨rfl, rfl, by decide, I.text, I.tok, I.le⟩, fun c => ?_, fun c => ?_⟩
    · have w0 : ¬ isW T n p (wdL 0) = true := bt_f c
      rw [if_neg w0] at h1 h2
      refine zGs.ldc 8 _ rfl rfl (by decide +kernel) ?_
      refine zwq_ok (Z_X7_ownDoing l) rfl [] (fun _ _ _ _ _ _ h => h) 400 (Z_X7_ownDoing l) ?_
      refine ⟨T, n, p, 8, ⟨rfl, rfl, by decide, I.text, I.tok, I.le⟩, fun c => ?_, fun c => ?_⟩
      · have w1 : ¬ isW T n p (wdL 1) = true := bt_f c
        rw [if_neg w1] at h1 h2
        refine zGs.ldc 9 _ rfl rfl (by decide +kernel) ?_
        refine zwq_ok (Z_X7_ownDoing l) rfl [] (fun _ _ _ _ _ _ h => h) 400 (Z_X7_ownDoing l) ?_
        refine ⟨T, n, p, 9, ⟨rfl, rfl, by decide, I.text, I.tok, I.le⟩, fun c => ?_, fun c => ?_⟩
        · have w2 : ¬ isW T n p (wdL 2) = true := bt_f c
          rw [if_neg w2] at h1 h2
          refine zGs.ldc 10 _ rfl rfl (by decide +kernel) ?_
          refine zwq_ok (Z_X7_ownDoing l) rfl [] (fun _ _ _ _ _ _ h => h) 400 (Z_X7_ownDoing l) ?_
          refine ⟨T, n, p, 10, ⟨rfl, rfl, by decide, I.text, I.tok, I.le⟩, fun c => ?_, fun c => ?_⟩
          · have w3 : ¬ isW T n p (wdL 3) = true := bt_f c
            rw [if_neg w3] at h1 h2
            exact ⟨fun _ => h2 (by decide), fun z => absurd I.good z⟩
          · have w3 : isW T n p (wdL 3) = true := bt_t c
            rw [if_pos w3] at h1
            exact h1 (by decide)
        · have w2 : isW T n p (wdL 2) = true := bt_t c
          rw [if_pos w2] at h1
          exact h1 (by decide)
      · have w1 : isW T n p (wdL 1) = true := bt_t c
        rw [if_pos w1] at h1
        exact h1 (by decide)
    · have w0 : isW T n p (wdL 0) = true := bt_t c
      rw [if_pos w0] at h1
      exact h1 (by decide)
  · exact h.elim
def wp_X7_signTold (a : List zV) (S : zS) (K : zR2 → zS → Prop) : Prop := match a with
  | [.inr (.inl c)] => ∃ (T : zD) (n : Nat) (P : zD) (p : Nat), (c = 19 ∧ rdI S T n P p) ∧ (own T n p 5 < 4 → K (.inl (some (.inl (own T n p 5 : Int)))) S) ∧ (¬ own T n p 5 < 4 → K (.inl (some (.inl (-1)))) (zu (zu S 19 7 1) 19 8 (tkP T n p : Int)))
  | _ => False
theorem R_X7_signTold (l : Launch) (a : List zV) (S : zS) (Q : zR2 → zS → Prop) (h : wp_X7_signTold a S Q) : zRs l 5 0 0 yX7_signTold (.code yX7_signTold cX7_signTold 1 (some .int)) a S Q := by
  unfold wp_X7_signTold at h
  split at h
  · obtain ⟨T, n, P, p, ⟨rfl, I⟩, h1, h2⟩ := h
    unfold own at h1 h2
    rw [← I.tok.2.2.1] at h2
    refine zRs_of 7 (by decide) rfl rfl ?_; refine zwq_ok (Z_X7_signTold l) rfl [] (fun _ _ _ _ _ _ h => h) 400 (Z_X7_signTold l) ?_
    refine zGs.ldc 12 _ rfl rfl (by decide +kernel) ?_
    refine zwq_ok (Z_X7_signTold l) rfl [] (fun _ _ _ _ _ _ h => h) 400 (Z_X7_signTold l) ?_
    refine ⟨T, n, p, 12, ⟨rfl, rfl, by decide, I.text, I.tok, I.le⟩, fun c => ?_, fun c => ?_⟩
    · have w0 : ¬ isW T n p (wdL 5) = true := bt_f c
      rw [if_neg w0] at h1 h2
      refine zGs.ldc 2 _ rfl rfl (by decide +kernel) ?_
      refine zwq_ok (Z_X7_signTold l) rfl [] (fun _ _ _ _ _ _ h => h) 400 (Z_X7_signTold l) ?_
      refine ⟨T, n, p, 2, ⟨rfl, rfl, by decide, I.text, I.tok, I.le⟩, fun c => ?_, fun c => ?_⟩
      · have w1 : ¬ isW T n p (wdL 6) = true := bt_f c
        rw [if_neg w1] at h1 h2
        refine zGs.ldc 3 _ rfl rfl (by decide +kernel) ?_
        refine zwq_ok (Z_X7_signTold l) rfl [] (fun _ _ _ _ _ _ h => h) 400 (Z_X7_signTold l) ?_
        refine ⟨T, n, p, 3, ⟨rfl, rfl, by decide, I.text, I.tok, I.le⟩, fun c => ?_, fun c => ?_⟩
        · have w2 : ¬ isW T n p (wdL 7) = true := bt_f c
          rw [if_neg w2] at h1 h2
          refine zGs.ldc 13 _ rfl rfl (by decide +kernel) ?_
          refine zwq_ok (Z_X7_signTold l) rfl [] (fun _ _ _ _ _ _ h => h) 400 (Z_X7_signTold l) ?_
          refine ⟨T, n, p, 13, ⟨rfl, rfl, by decide, I.text, I.tok, I.le⟩, fun c => ?_, fun c => ?_⟩
          · have w3 : ¬ isW T n p (wdL 8) = true := bt_f c
            rw [if_neg w3] at h1 h2
            exact ⟨fun _ => h2 (by decide), fun z => absurd I.good z⟩
          · have w3 : isW T n p (wdL 8) = true := bt_t c
            rw [if_pos w3] at h1
            exact h1 (by decide)
        · have w2 : isW T n p (wdL 7) = true := bt_t c
          rw [if_pos w2] at h1
          exact h1 (by decide)
      · have w1 : isW T n p (wdL 6) = true := bt_t c
        rw [if_pos w1] at h1
        exact h1 (by decide)
    · have w0 : isW T n p (wdL 5) = true := bt_t c
      rw [if_pos w0] at h1
      exact h1 (by decide)
  · exact h.elim
def B_X7_readLodger : List (Nat × zC) := [(10, (0, 0, 2, 1, 0, 0, 7)), (18, (0, 1, 0, 1, 0, 0, 7)), (29, (0, 2, 1, 1, 0, 0, 7)), (54, (0, 3, 1, 0, 0, 0, 7)), (64, (0, 4, 1, 0, 0, 0, 6)), (68, (0, 1, 0, 1, 0, 0, 7)), (74, (0, 5, 1, 4, 0, 0, 7)), (99, (0, 1, 0, 1, 0, 0, 7)), (108, (0, 5, 1, 4, 0, 0, 7)), (133, (0, 1, 0, 1, 0, 0, 7))]
def O_X7_readLodger : zO := fun j a S K => match j with
  | 0 => wp_X7_isFull a S K
  | 1 => wp_X7_advance a S K
  | 2 => wp_X7_toldNumber a S K
  | 3 => wp_X7_refuse a S K
  | 4 => wp_X6_addLodger a S K
  | 5 => wp_X7_isWord a S K
  | _ => False
theorem E_X7_readLodger (l : Launch) : ∀ q ∈ B_X7_readLodger, zcok l O_X7_readLodger F_X7_readLodger q.1 q.2 := List.forall_mem_cons.mpr ⟨⟨88, yX7_isFull, cX7_isFull, 3, some .boolean, by decide +kernel, C_7_88, W_X7_isFull, I_X7_isFull, S_X7_isFull, rfl, rfl, R_X7_isFull l⟩, List.forall_mem_cons.mpr ⟨⟨43, yX7_advance, cX7_advance, 2, none, by decide +kernel, C_7_43, W_X7_advance, I_X7_advance, S_X7_advance, rfl, rfl, R_X7_advance l⟩, List.forall_mem_cons.mpr ⟨⟨102, yX7_toldNumber, cX7_toldNumber, 3, some .int, by decide +kernel, C_7_102, W_X7_toldNumber, I_X7_toldNumber, S_X7_toldNumber, rfl, rfl, R_X7_toldNumber l⟩, List.forall_mem_cons.mpr ⟨⟨81, yX7_refuse, cX7_refuse, 2, some .int, by decide +kernel, C_7_81, W_X7_refuse, I_X7_refuse, S_X7_refuse, rfl, rfl, R_X7_refuse l⟩, List.forall_mem_cons.mpr ⟨⟨109, yX6_addLodger, cX6_addLodger, 2, none, by decide +kernel, C_7_109, W_X6_addLodger, I_X6_addLodger, S_X6_addLodger, rfl, rfl, R_X6_addLodger l⟩, List.forall_mem_cons.mpr ⟨⟨43, yX7_advance, cX7_advance, 2, none, by decide +kernel, C_7_43, W_X7_advance, I_X7_advance, S_X7_advance, rfl, rfl, R_X7_advance l⟩, List.forall_mem_cons.mpr ⟨⟨54, yX7_isWord, cX7_isWord, 3, some .boolean, by decide +kernel, C_7_54, W_X7_isWord, I_X7_isWord, S_X7_isWord, rfl, rfl, R_X7_isWord l⟩, List.forall_mem_cons.mpr ⟨⟨43, yX7_advance, cX7_advance, 2, none, by decide +kernel, C_7_43, W_X7_advance, I_X7_advance, S_X7_advance, rfl, rfl, R_X7_advance l⟩, List.forall_mem_cons.mpr ⟨⟨54, yX7_isWord, cX7_isWord, 3, some .boolean, by decide +kernel, C_7_54, W_X7_isWord, I_X7_isWord, S_X7_isWord, rfl, rfl, R_X7_isWord l⟩, List.forall_mem_cons.mpr ⟨⟨43, yX7_advance, cX7_advance, 2, none, by decide +kernel, C_7_43, W_X7_advance, I_X7_advance, S_X7_advance, rfl, rfl, R_X7_advance l⟩, fun _ h => by cases h⟩⟩⟩⟩⟩⟩⟩⟩⟩⟩
def U_X7_readLodger : List (Nat × zE) := [(0, Sum.inl (4, 0, 0, 0, 1, [])), (1, Sum.inl (4, 0, 0, 0, 2, [])), (2, Sum.inl (18, 7, 1, 0, 5, [])), (5, Sum.inl (18, 6, 8, 0, 8, [])), (8, Sum.inl (0, 0, 0, 6, 10, [])), (10, Sum.inr (0, 0, 2, 1, 0, 0, 7)), (13, Sum.inl (17, 0, 17, 0, 16, [])), (16, Sum.inl (29, 0, 0, 0, 17, [])), (17, Sum.inl (4, 0, 0, 0, 18, [])), (18, Sum.inr (0, 1, 0, 1, 0, 0, 7)), (21, Sum.inl (4, 0, 0, 0, 22, [])), (22, Sum.inl (4, 0, 0, 0, 23, [])), (23, Sum.inl (18, 7, 1, 0, 26, [])), (26, Sum.inl (18, 6, 7, 0, 29, [])), (29, Sum.inr (0, 2, 1, 1, 0, 0, 7)), (32, Sum.inl (5, 1, 0, 0, 33, [])), (33, Sum.inl (2, 1, 0, 0, 34, [])), (34, Sum.inl (0, 0, 0, (-1), 35, [])), (35, Sum.inl (16, 0, 38, 0, 39, [])), (38, Sum.inl (29, 0, 0, 0, 39, [])), (39, Sum.inl (4, 0, 0, 0, 40, [])), (40, Sum.inl (18, 7, 1, 0, 43, [])), (43, Sum.inl (18, 6, 1, 0, 46, [])), (46, Sum.inl (2, 1, 0, 0, 47, [])), (47, Sum.inl (20, 0, 0, 0, 48, [])), (48, Sum.inl (0, 0, 0, (-1), 49, [])), (49, Sum.inl (16, 0, 59, 0, 52, [])), (52, Sum.inl (4, 0, 0, 0, 53, [])), (53, Sum.inl (0, 0, 0, 4, 54, [])), (54, Sum.inr (0, 3, 1, 0, 0, 0, 7)), (57, Sum.inl (14, 0, 0, 0, 58, [])), (58, Sum.inl (29, 0, 0, 0, 59, [])), (59, Sum.inl (4, 0, 0, 0, 60, [])), (60, Sum.inl (18, 7, 1, 0, 63, [])), (63, Sum.inl (2, 1, 0, 0, 64, [])), (64, Sum.inr (0, 4, 1, 0, 0, 0, 6)), (67, Sum.inl (4, 0, 0, 0, 68, [])), (68, Sum.inr (0, 1, 0, 1, 0, 0, 7)), (71, Sum.inl (4, 0, 0, 0, 72, [])), (74, Sum.inr (0, 5, 1, 4, 0, 0, 7)), (77, Sum.inl (17, 0, 105, 0, 80, [])), (80, Sum.inl (4, 0, 0, 0, 81, [])), (81, Sum.inl (18, 7, 1, 0, 84, [])), (84, Sum.inl (18, 6, 3, 0, 87, [])), (87, Sum.inl (4, 0, 0, 0, 88, [])), (88, Sum.inl (18, 7, 1, 0, 91, [])), (91, Sum.inl (18, 6, 8, 0, 94, [])), (94, Sum.inl (0, 0, 0, 1, 95, [])), (95, Sum.inl (9, 1, 0, 0, 96, [])), (96, Sum.inl (0, 0, 0, 1, 97, [])), (97, Sum.inl (21, 0, 0, 0, 98, [])), (98, Sum.inl (4, 0, 0, 0, 99, [])), (99, Sum.inr (0, 1, 0, 1, 0, 0, 7)), (102, Sum.inl (15, 0, 0, 0, 136, [])), (105, Sum.inl (4, 0, 0, 0, 106, [])), (108, Sum.inr (0, 5, 1, 4, 0, 0, 7)), (111, Sum.inl (17, 0, 136, 0, 114, [])), (114, Sum.inl (4, 0, 0, 0, 115, [])), (115, Sum.inl (18, 7, 1, 0, 118, [])), (118, Sum.inl (18, 6, 3, 0, 121, [])), (121, Sum.inl (4, 0, 0, 0, 122, [])), (122, Sum.inl (18, 7, 1, 0, 125, [])), (125, Sum.inl (18, 6, 8, 0, 128, [])), (128, Sum.inl (0, 0, 0, 1, 129, [])), (129, Sum.inl (9, 1, 0, 0, 130, [])), (130, Sum.inl (0, 0, 0, 2, 131, [])), (131, Sum.inl (21, 0, 0, 0, 132, [])), (132, Sum.inl (4, 0, 0, 0, 133, [])), (133, Sum.inr (0, 1, 0, 1, 0, 0, 7)), (136, Sum.inl (29, 0, 0, 0, 137, []))]
theorem Z_X7_readLodger (l : Launch) : ∀ q ∈ U_X7_readLodger, zTok l O_X7_readLodger F_X7_readLodger q := zU_ok rfl rfl rfl K_X7_readLodger (E_X7_readLodger l)
def wp_X7_readLodger (a : List zV) (S : zS) (K : zR2 → zS → Prop) : Prop := match a with
  | [.inr (.inl c)] => ∃ (T : zD) (n : Nat) (P : zD) (p : Nat), (c = 19 ∧ rdI S T n P p) ∧ ∀ S', rR S S' T n (liL T n P p (tkN T n p)) → K (.inl none) S'
  | _ => False
theorem R_X7_readLodger (l : Launch) (a : List zV) (S : zS) (Q : zR2 → zS → Prop) (h : wp_X7_readLodger a S Q) : zRs l 5 0 0 yX7_readLodger (.code yX7_readLodger cX7_readLodger 2 (none)) a S Q := by
  unfold wp_X7_readLodger at h
  split at h
  · obtain ⟨T, n, P, p, ⟨rfl, I⟩, h⟩ := h
    have e1 := I.plan.lodgers
    have o1 := I.ok.rooms
    unfold liL at h
    refine zRs_of 7 (by decide) rfl rfl ?_; refine zwq_ok (Z_X7_readLodger l) rfl [] (fun _ _ _ _ _ _ h => h) 400 (Z_X7_readLodger l) ?_
    refine ⟨⟨rfl, I.good⟩, fun c => ⟨fun _ => ?_, fun z => absurd rfl z⟩, fun c => ⟨fun z => absurd z (by decide), fun _ => ?_⟩⟩
    · rw [if_pos (by omega)] at h
      refine ⟨T, n, _, ⟨rfl, I.text, I.tok.1, I.nx⟩, fun S1 I1 f1 => ?_⟩
      replace I1 := I.adv I1 f1
      refine ⟨T, n, tkN T n p, P 0 0, ⟨rfl, I1.plan.rooms, I1.good, I1.tok, I1.le, I1.n7⟩, fun c2 => ?_, fun c2 => ?_⟩
      · rw [if_pos c2] at h
        have c2 := toF_0.mp c2
        have et := I1.plan.tenant (tkV T n (tkN T n p)) (by omega)
        refine ⟨fun z => by omega, fun _ => ⟨tkV T n (tkN T n p), ⟨rfl, by omega⟩, fun c3 => ?_, fun c3 => ?_⟩⟩
        · rw [if_pos (by omega)] at h
          refine ⟨P, _, ⟨rfl, rfl, I1.plan, by omega, by omega⟩, fun S2 hC f2 => ?_⟩
          have oL : ∀ a b, a ≤ 1 → b ≤ 1 → pOK (adL P (tkV T n (tkN T n p)) a b) := fun a b ha hb => I.ok.aL (by omega) (by omega) (by omega) ha hb
          have I2 := I1.pl hC (oL 1 1 (by decide) (by decide)) f2
          refine ⟨T, n, _, ⟨rfl, I2.text, I2.tok.1, I2.nx⟩, fun S3 I3 f3 => ?_⟩
          replace I3 := I2.adv I3 f3
          have e3 : S3 11 8 = (P 0 1 : Int) + 1 := I3.plan.lodgers
          have fr3 : frg S3 S := (((frg.r S).T f1).D f2).T f3
          unfold liL2 at h
          refine zGs.ldc 2 _ rfl rfl (by decide +kernel) ?_
          refine zwq_ok (Z_X7_readLodger l) rfl [] (fun _ _ _ _ _ _ h => h) 400 (Z_X7_readLodger l) ?_
          refine ⟨T, n, _, 2, ⟨rfl, rfl, by decide, I3.text, I3.tok, I3.le⟩, fun c4 => ?_, fun c4 => ?_⟩
          · have w0 : ¬ isW T n (tkN T n (tkN T n p)) (wdL 6) = true := bt_f c4
            rw [if_neg w0] at h
            refine zGs.ldc 3 _ rfl rfl (by decide +kernel) ?_
            refine zwq_ok (Z_X7_readLodger l) rfl [] (fun _ _ _ _ _ _ h => h) 400 (Z_X7_readLodger l) ?_
            refine ⟨T, n, _, 3, ⟨rfl, rfl, by decide, I3.text, I3.tok, I3.le⟩, fun c4 => ?_, fun c4 => ?_⟩
            · have w1 : ¬ isW T n (tkN T n (tkN T n p)) (wdL 7) = true := bt_f c4
              rw [if_neg w1] at h
              exact h S3 ⟨fr3, I3.text, I3⟩
            · have w1 : isW T n (tkN T n (tkN T n p)) (wdL 7) = true := bt_t c4
              rw [if_pos w1] at h
              refine ⟨by omega, P 0 1, ⟨by omega, by omega⟩, ?_⟩
              have I4 := I3.pl (I3.plan.ft (e1 := 0) (e2 := 1) (v := 2) rfl) (oL 0 1 (by decide) (by decide)) ((frD.r S3).u (by omega) (by omega))
              refine ⟨T, n, _, ⟨rfl, I4.text, I4.tok.1, I4.nx⟩, fun S5 I5 f5 => ?_⟩
              replace I5 := I4.adv I5 f5
              exact h S5 ⟨(fr3.D ((frD.r S3).u (by omega) (by omega))).T f5, I5.text, I5⟩
          · have w0 : isW T n (tkN T n (tkN T n p)) (wdL 6) = true := bt_t c4
            rw [if_pos w0] at h
            refine ⟨by omega, P 0 1, ⟨by omega, by omega⟩, ?_⟩
            have I4 := I3.pl (I3.plan.ft (e1 := 1) (e2 := 0) (v := 1) rfl) (oL 1 0 (by decide) (by decide)) ((frD.r S3).u (by omega) (by omega))
            refine ⟨T, n, _, ⟨rfl, I4.text, I4.tok.1, I4.nx⟩, fun S5 I5 f5 => ?_⟩
            replace I5 := I4.adv I5 f5
            exact h S5 ⟨(fr3.D ((frD.r S3).u (by omega) (by omega))).T f5, I5.text, I5⟩
        · rw [if_neg (by omega)] at h
          have k := I1.rx (k := 4) ((frg.r S).T f1)
          rw [← I1.tok.2.2.1] at k
          exact ⟨fun _ => h _ k, fun z => absurd I1.good z⟩
      · rw [if_neg c2] at h
        exact ⟨fun _ => h _ (I1.rx ((frg.r S).T f1)), fun z => absurd rfl z⟩
    · rw [if_neg (by omega)] at h
      have k := I.rx (k := 2) (frg.r S)
      rw [← I.tok.2.2.1] at k
      exact h _ k
  · exact h.elim
def B_X7_readLaw : List (Nat × zC) := [(1, (0, 0, 0, 1, 0, 0, 7)), (5, (0, 1, 0, 5, 0, 0, 7)), (32, (0, 2, 1, 0, 0, 0, 7)), (38, (0, 0, 0, 1, 0, 0, 7)), (42, (0, 3, 0, 5, 0, 0, 7)), (58, (0, 4, 2, 0, 0, 0, 6)), (62, (0, 0, 0, 1, 0, 0, 7))]
def O_X7_readLaw : zO := fun j a S K => match j with
  | 0 => wp_X7_advance a S K
  | 1 => wp_X7_ownDoing a S K
  | 2 => wp_X7_refuse a S K
  | 3 => wp_X7_signTold a S K
  | 4 => wp_X6_addLaw a S K
  | _ => False
theorem E_X7_readLaw (l : Launch) : ∀ q ∈ B_X7_readLaw, zcok l O_X7_readLaw F_X7_readLaw q.1 q.2 := List.forall_mem_cons.mpr ⟨⟨43, yX7_advance, cX7_advance, 2, none, by decide +kernel, C_7_43, W_X7_advance, I_X7_advance, S_X7_advance, rfl, rfl, R_X7_advance l⟩, List.forall_mem_cons.mpr ⟨⟨137, yX7_ownDoing, cX7_ownDoing, 1, some .int, by decide +kernel, C_7_137, W_X7_ownDoing, I_X7_ownDoing, S_X7_ownDoing, rfl, rfl, R_X7_ownDoing l⟩, List.forall_mem_cons.mpr ⟨⟨81, yX7_refuse, cX7_refuse, 2, some .int, by decide +kernel, C_7_81, W_X7_refuse, I_X7_refuse, S_X7_refuse, rfl, rfl, R_X7_refuse l⟩, List.forall_mem_cons.mpr ⟨⟨43, yX7_advance, cX7_advance, 2, none, by decide +kernel, C_7_43, W_X7_advance, I_X7_advance, S_X7_advance, rfl, rfl, R_X7_advance l⟩, List.forall_mem_cons.mpr ⟨⟨147, yX7_signTold, cX7_signTold, 1, some .int, by decide +kernel, C_7_147, W_X7_signTold, I_X7_signTold, S_X7_signTold, rfl, rfl, R_X7_signTold l⟩, List.forall_mem_cons.mpr ⟨⟨150, yX6_addLaw, cX6_addLaw, 3, none, by decide +kernel, C_7_150, W_X6_addLaw, I_X6_addLaw, S_X6_addLaw, rfl, rfl, R_X6_addLaw l⟩, List.forall_mem_cons.mpr ⟨⟨43, yX7_advance, cX7_advance, 2, none, by decide +kernel, C_7_43, W_X7_advance, I_X7_advance, S_X7_advance, rfl, rfl, R_X7_advance l⟩, fun _ h => by cases h⟩⟩⟩⟩⟩⟩⟩
def U_X7_readLaw : List (Nat × zE) := [(0, Sum.inl (4, 0, 0, 0, 1, [])), (1, Sum.inr (0, 0, 0, 1, 0, 0, 7)), (4, Sum.inl (4, 0, 0, 0, 5, [])), (5, Sum.inr (0, 1, 0, 5, 0, 0, 7)), (8, Sum.inl (5, 1, 0, 0, 9, [])), (9, Sum.inl (2, 1, 0, 0, 10, [])), (10, Sum.inl (0, 0, 0, (-1), 11, [])), (11, Sum.inl (16, 0, 14, 0, 15, [])), (14, Sum.inl (29, 0, 0, 0, 15, [])), (15, Sum.inl (4, 0, 0, 0, 16, [])), (16, Sum.inl (18, 7, 1, 0, 19, [])), (19, Sum.inl (18, 6, 11, 0, 22, [])), (22, Sum.inl (2, 1, 0, 0, 23, [])), (23, Sum.inl (9, 7, 0, 0, 24, [])), (24, Sum.inl (0, 0, 0, 1, 25, [])), (25, Sum.inl (9, 3, 0, 0, 26, [])), (26, Sum.inl (0, 0, 0, 1, 27, [])), (27, Sum.inl (16, 0, 30, 0, 37, [])), (30, Sum.inl (4, 0, 0, 0, 31, [])), (31, Sum.inl (0, 0, 0, 5, 32, [])), (32, Sum.inr (0, 2, 1, 0, 0, 0, 7)), (35, Sum.inl (14, 0, 0, 0, 36, [])), (36, Sum.inl (29, 0, 0, 0, 37, [])), (37, Sum.inl (4, 0, 0, 0, 38, [])), (38, Sum.inr (0, 0, 0, 1, 0, 0, 7)), (41, Sum.inl (4, 0, 0, 0, 42, [])), (42, Sum.inr (0, 3, 0, 5, 0, 0, 7)), (45, Sum.inl (5, 2, 0, 0, 46, [])), (46, Sum.inl (2, 2, 0, 0, 47, [])), (47, Sum.inl (0, 0, 0, (-1), 48, [])), (48, Sum.inl (16, 0, 51, 0, 52, [])), (51, Sum.inl (29, 0, 0, 0, 52, [])), (52, Sum.inl (4, 0, 0, 0, 53, [])), (53, Sum.inl (18, 7, 1, 0, 56, [])), (56, Sum.inl (2, 1, 0, 0, 57, [])), (57, Sum.inl (2, 2, 0, 0, 58, [])), (58, Sum.inr (0, 4, 2, 0, 0, 0, 6)), (61, Sum.inl (4, 0, 0, 0, 62, [])), (62, Sum.inr (0, 0, 0, 1, 0, 0, 7)), (65, Sum.inl (29, 0, 0, 0, 66, []))]
theorem Z_X7_readLaw (l : Launch) : ∀ q ∈ U_X7_readLaw, zTok l O_X7_readLaw F_X7_readLaw q := zU_ok rfl rfl rfl K_X7_readLaw (E_X7_readLaw l)
def wp_X7_readLaw (a : List zV) (S : zS) (K : zR2 → zS → Prop) : Prop := match a with
  | [.inr (.inl c)] => ∃ (T : zD) (n : Nat) (P : zD) (p : Nat), (c = 19 ∧ rdI S T n P p) ∧ ∀ S', rR S S' T n (liA T n P (tkN T n p)) → K (.inl none) S'
  | _ => False
theorem R_X7_readLaw (l : Launch) (a : List zV) (S : zS) (Q : zR2 → zS → Prop) (h : wp_X7_readLaw a S Q) : zRs l 6 0 0 yX7_readLaw (.code yX7_readLaw cX7_readLaw 3 (none)) a S Q := by
  unfold wp_X7_readLaw at h
  split at h
  · obtain ⟨T, n, P, p, ⟨rfl, I⟩, h⟩ := h
    have o1 := I.ok.laws
    unfold liA at h
    refine zRs_of 7 (by decide) rfl rfl ?_; refine zwq_ok (Z_X7_readLaw l) rfl [] (fun _ _ _ _ _ _ h => h) 400 (Z_X7_readLaw l) ?_
    refine ⟨T, n, _, ⟨rfl, I.text, I.tok.1, I.nx⟩, fun S1 I1 f1 => ?_⟩
    replace I1 := I.adv I1 f1
    refine ⟨T, n, P, _, ⟨rfl, I1⟩, fun c => ⟨fun z => by omega, fun _ => ?_⟩, fun c => ⟨fun _ => ?_, fun z => absurd rfl z⟩⟩
    · rw [if_pos c] at h
      have eb : zand (zshr (S1 11 11) (own T n (tkN T n p) 0 : Int)) 1 = ((bt1 (P 0 4) (own T n (tkN T n p) 0) : Nat) : Int) := by
        rw [I1.plan.laws]; exact zbit_n (by omega) (by omega)
      refine ⟨fun c2 => ?_, fun c2 => ?_⟩
      · have c2 : zand (zshr (S1 11 11) (own T n (tkN T n p) 0 : Int)) 1 = 1 := c2
        rw [if_pos (by omega)] at h
        have k := I1.rx (k := 5) ((frg.r S).T f1)
        rw [← I1.tok.2.2.1] at k
        exact ⟨fun _ => h _ k, fun z => absurd I1.good z⟩
      · have c2 : ¬ zand (zshr (S1 11 11) (own T n (tkN T n p) 0 : Int)) 1 = 1 := c2
        rw [if_neg (by omega)] at h
        unfold liA2 at h
        refine ⟨T, n, _, ⟨rfl, I1.text, I1.tok.1, I1.nx⟩, fun S2 I2 f2 => ?_⟩
        replace I2 := I1.adv I2 f2
        refine ⟨T, n, P, _, ⟨rfl, I2⟩, fun c3 => ⟨fun z => by omega, fun _ => ?_⟩, fun c3 => ⟨fun _ => ?_, fun z => absurd rfl z⟩⟩
        · rw [if_pos c3] at h
          refine ⟨P, _, _, ⟨rfl, rfl, rfl, I2.plan, c, o1⟩, fun S3 hC f3 => ?_⟩
          have I3 := I2.pl hC (I.ok.aA c c3) f3
          refine ⟨T, n, _, ⟨rfl, I3.text, I3.tok.1, I3.nx⟩, fun S4 I4 f4 => ?_⟩
          replace I4 := I3.adv I4 f4
          exact h S4 ⟨((((frg.r S).T f1).T f2).D f3).T f4, I4.text, I4⟩
        · rw [if_neg c3] at h
          exact h _ (I2.rx (k := 1) (((frg.r S).T f1).T f2))
    · rw [if_neg c] at h
      exact h _ (I1.rx (k := 1) ((frg.r S).T f1))
  · exact h.elim
