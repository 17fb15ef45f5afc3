/-! the helpers -/
def U_L_house : List (Nat × zE) := [(0, Sum.inl (4, 2, 0, 0, 1, [])), (1, Sum.inl (0, 0, 0, 0, 2, [])), (2, Sum.inl (4, 0, 0, 0, 3, [])), (3, Sum.inl (2, 1, 0, 0, 4, [])), (7, Sum.inl (10, 0, 0, 0, 8, [])), (8, Sum.inl (25, 0, 0, 0, 9, [])), (9, Sum.inl (15, 0, 0, 0, 15, [])), (12, Sum.inl (7, 3, 0, 0, 13, [])), (13, Sum.inl (0, 0, 0, 1, 14, [])), (14, Sum.inl (27, 0, 0, 0, 15, [])), (15, Sum.inl (0, 0, 0, 0, 16, [])), (16, Sum.inl (27, 0, 0, 0, 17, []))]
theorem Z_L_house (l : Launch) : ∀ q ∈ U_L_house, zTok l orcN F_L_house q ∧ ∃ e, q.2 = .inl e := fun q hq => ⟨zU_ok (T := T_L_house) (B := []) rfl rfl rfl K_L_house (fun _ h => by cases h) q hq, by
  have h : ∀ q ∈ U_L_house, q.2.isLeft = true := by decide +kernel
  have h := h q hq
  cases hq2 : q.2 with
  | inl e => exact ⟨e, rfl⟩
  | inr e => rw [hq2] at h; cases h⟩
def wp_L_house (a : List zV) (S : zS) (K : zR2 → zS → Prop) : Prop := match a with
  | [.inr (.inl c), .inl x0, .inr (.inl o)] => (c = 0 ∧ o = 102) ∧ wp_X11_house [.inr (.inl 0), .inl x0] S (hpA K)
  | _ => False
theorem R_L_house (l : Launch) (a : List zV) (S : zS) (Q : zR2 → zS → Prop) (h : wp_L_house a S Q) : zRs l 11 1 6 yL_house (.codeWith yL_house cL_house 4 (some .int) [(0, 9, 12, 13)]) a S Q := by
  unfold wp_L_house at h
  split at h
  · obtain ⟨⟨rfl, rfl⟩, h⟩ := h
    refine zRs_ofH 13 (by decide) rfl rfl ?_
    refine zwq_okN (Z_L_house l) [] (fun _ _ _ _ _ _ h => h) 60 (Z_L_house l) ?_
    refine zGs_callC (f := F_L_house) (a := [.inl _]) (rest := [.inl 0, .inr (.inl 102)]) (ci := 11) 10 1 6 (by decide +kernel) C_13_7 W_X11_house I_X11_house S_X11_house rfl rfl rfl rfl rfl (R_X11_house l _ _ _ h) ?_ ?_
    · rintro E S1 ⟨rfl, hq⟩
      exact ⟨1, zok1, ⟨12, 13, 0, 9, Or.inl ⟨_, rfl⟩, ⟨by decide, by decide⟩, by decide, cI, caI, ⟨rfl, 1, rfl, Or.inl ⟨3, by decide, by decide +kernel, by decide +kernel, by decide +kernel⟩⟩⟩, hq⟩
    · intro v S1 hv
      rcases v with _ | w | c | w
      · exact hv.elim
      · refine zwq_okN (Z_L_house l) [] (fun _ _ _ _ _ _ h => h) 60 (Z_L_house l) ?_
        exact ⟨0, ⟨rfl, by decide⟩, hv⟩
      · exact hv.elim
      · exact hv.elim
  · exact h.elim
def U_L_count : List (Nat × zE) := [(0, Sum.inl (4, 2, 0, 0, 1, [])), (1, Sum.inl (0, 0, 0, 0, 2, [])), (2, Sum.inl (4, 0, 0, 0, 3, [])), (3, Sum.inl (2, 1, 0, 0, 4, [])), (7, Sum.inl (10, 0, 0, 0, 8, [])), (8, Sum.inl (25, 0, 0, 0, 9, [])), (9, Sum.inl (15, 0, 0, 0, 15, [])), (12, Sum.inl (7, 3, 0, 0, 13, [])), (13, Sum.inl (0, 0, 0, 1, 14, [])), (14, Sum.inl (27, 0, 0, 0, 15, [])), (15, Sum.inl (0, 0, 0, 0, 16, [])), (16, Sum.inl (27, 0, 0, 0, 17, []))]
theorem Z_L_count (l : Launch) : ∀ q ∈ U_L_count, zTok l orcN F_L_count q ∧ ∃ e, q.2 = .inl e := fun q hq => ⟨zU_ok (T := T_L_count) (B := []) rfl rfl rfl K_L_count (fun _ h => by cases h) q hq, by
  have h : ∀ q ∈ U_L_count, q.2.isLeft = true := by decide +kernel
  have h := h q hq
  cases hq2 : q.2 with
  | inl e => exact ⟨e, rfl⟩
  | inr e => rw [hq2] at h; cases h⟩
def wp_L_count (a : List zV) (S : zS) (K : zR2 → zS → Prop) : Prop := match a with
  | [.inr (.inl c), .inl x0, .inr (.inl o)] => (c = 0 ∧ o = 102) ∧ wp_X11_count [.inr (.inl 0), .inl x0] S (hpN K)
  | _ => False
theorem R_L_count (l : Launch) (a : List zV) (S : zS) (Q : zR2 → zS → Prop) (h : wp_L_count a S Q) : zRs l 7 1 6 yL_count (.codeWith yL_count cL_count 4 (some .int) [(0, 9, 12, 18)]) a S Q := by
  unfold wp_L_count at h
  split at h
  · obtain ⟨⟨rfl, rfl⟩, h⟩ := h
    refine zRs_ofH 13 (by decide) rfl rfl ?_
    refine zwq_okN (Z_L_count l) [] (fun _ _ _ _ _ _ h => h) 60 (Z_L_count l) ?_
    refine zGs_callC (f := F_L_count) (a := [.inl _]) (rest := [.inl 0, .inr (.inl 102)]) (ci := 11) 6 1 6 (by decide +kernel) C_13_15 W_X11_count I_X11_count S_X11_count rfl rfl rfl rfl rfl (R_X11_count l _ _ _ h) ?_ ?_
    · rintro E S1 ⟨rfl, hq⟩
      exact ⟨1, zok1, ⟨12, 18, 0, 9, Or.inl ⟨_, rfl⟩, ⟨by decide, by decide⟩, by decide, cN, caN, ⟨rfl, 1, rfl, Or.inl ⟨3, by decide, by decide +kernel, by decide +kernel, by decide +kernel⟩⟩⟩, hq⟩
    · intro v S1 hv
      rcases v with _ | w | c | w
      · exact hv.elim
      · refine zwq_okN (Z_L_count l) [] (fun _ _ _ _ _ _ h => h) 60 (Z_L_count l) ?_
        exact ⟨0, ⟨rfl, by decide⟩, hv⟩
      · exact hv.elim
      · exact hv.elim
  · exact h.elim
def U_L_room : List (Nat × zE) := [(0, Sum.inl (4, 3, 0, 0, 1, [])), (1, Sum.inl (0, 0, 0, 0, 2, [])), (2, Sum.inl (4, 0, 0, 0, 3, [])), (3, Sum.inl (2, 1, 0, 0, 4, [])), (4, Sum.inl (2, 2, 0, 0, 5, [])), (8, Sum.inl (10, 0, 0, 0, 9, [])), (9, Sum.inl (25, 0, 0, 0, 10, [])), (10, Sum.inl (15, 0, 0, 0, 17, [])), (13, Sum.inl (7, 4, 0, 0, 15, [])), (15, Sum.inl (0, 0, 0, 1, 16, [])), (16, Sum.inl (27, 0, 0, 0, 17, [])), (17, Sum.inl (0, 0, 0, 0, 18, [])), (18, Sum.inl (27, 0, 0, 0, 19, []))]
theorem Z_L_room (l : Launch) : ∀ q ∈ U_L_room, zTok l orcN F_L_room q ∧ ∃ e, q.2 = .inl e := fun q hq => ⟨zU_ok (T := T_L_room) (B := []) rfl rfl rfl K_L_room (fun _ h => by cases h) q hq, by
  have h : ∀ q ∈ U_L_room, q.2.isLeft = true := by decide +kernel
  have h := h q hq
  cases hq2 : q.2 with
  | inl e => exact ⟨e, rfl⟩
  | inr e => rw [hq2] at h; cases h⟩
def wp_L_room (a : List zV) (S : zS) (K : zR2 → zS → Prop) : Prop := match a with
  | [.inr (.inl c), .inl x0, .inl x1, .inr (.inl o)] => (c = 0 ∧ o = 102) ∧ wp_X11_room [.inr (.inl 0), .inl x0, .inl x1] S (hpN K)
  | _ => False
theorem R_L_room (l : Launch) (a : List zV) (S : zS) (Q : zR2 → zS → Prop) (h : wp_L_room a S Q) : zRs l 8 1 6 yL_room (.codeWith yL_room cL_room 5 (some .int) [(0, 10, 13, 18)]) a S Q := by
  unfold wp_L_room at h
  split at h
  · obtain ⟨⟨rfl, rfl⟩, h⟩ := h
    refine zRs_ofH 13 (by decide) rfl rfl ?_
    refine zwq_okN (Z_L_room l) [] (fun _ _ _ _ _ _ h => h) 60 (Z_L_room l) ?_
    refine zGs_callC (f := F_L_room) (a := [.inl _, .inl _]) (rest := [.inl 0, .inr (.inl 102)]) (ci := 11) 7 1 6 (by decide +kernel) C_13_20 W_X11_room I_X11_room S_X11_room rfl rfl rfl rfl rfl (R_X11_room l _ _ _ h) ?_ ?_
    · rintro E S1 ⟨rfl, hq⟩
      exact ⟨1, zok1, ⟨13, 18, 0, 10, Or.inl ⟨_, rfl⟩, ⟨by decide, by decide⟩, by decide, cN, caN, ⟨rfl, 1, rfl, Or.inr ⟨4, by decide, by decide +kernel, by decide +kernel, by decide +kernel⟩⟩⟩, hq⟩
    · intro v S1 hv
      rcases v with _ | w | c | w
      · exact hv.elim
      · refine zwq_okN (Z_L_room l) [] (fun _ _ _ _ _ _ h => h) 60 (Z_L_room l) ?_
        exact ⟨0, ⟨rfl, by decide⟩, hv⟩
      · exact hv.elim
      · exact hv.elim
  · exact h.elim
def U_L_lodger : List (Nat × zE) := [(0, Sum.inl (4, 3, 0, 0, 1, [])), (1, Sum.inl (0, 0, 0, 0, 2, [])), (2, Sum.inl (4, 0, 0, 0, 3, [])), (3, Sum.inl (2, 1, 0, 0, 4, [])), (4, Sum.inl (2, 2, 0, 0, 5, [])), (8, Sum.inl (10, 0, 0, 0, 9, [])), (9, Sum.inl (25, 0, 0, 0, 10, [])), (10, Sum.inl (15, 0, 0, 0, 17, [])), (13, Sum.inl (7, 4, 0, 0, 15, [])), (15, Sum.inl (0, 0, 0, 1, 16, [])), (16, Sum.inl (27, 0, 0, 0, 17, [])), (17, Sum.inl (0, 0, 0, 0, 18, [])), (18, Sum.inl (27, 0, 0, 0, 19, []))]
theorem Z_L_lodger (l : Launch) : ∀ q ∈ U_L_lodger, zTok l orcN F_L_lodger q ∧ ∃ e, q.2 = .inl e := fun q hq => ⟨zU_ok (T := T_L_lodger) (B := []) rfl rfl rfl K_L_lodger (fun _ h => by cases h) q hq, by
  have h : ∀ q ∈ U_L_lodger, q.2.isLeft = true := by decide +kernel
  have h := h q hq
  cases hq2 : q.2 with
  | inl e => exact ⟨e, rfl⟩
  | inr e => rw [hq2] at h; cases h⟩
def wp_L_lodger (a : List zV) (S : zS) (K : zR2 → zS → Prop) : Prop := match a with
  | [.inr (.inl c), .inl x0, .inl x1, .inr (.inl o)] => (c = 0 ∧ o = 102) ∧ wp_X11_lodger [.inr (.inl 0), .inl x0, .inl x1] S (hpN K)
  | _ => False
theorem R_L_lodger (l : Launch) (a : List zV) (S : zS) (Q : zR2 → zS → Prop) (h : wp_L_lodger a S Q) : zRs l 8 1 6 yL_lodger (.codeWith yL_lodger cL_lodger 5 (some .int) [(0, 10, 13, 18)]) a S Q := by
  unfold wp_L_lodger at h
  split at h
  · obtain ⟨⟨rfl, rfl⟩, h⟩ := h
    refine zRs_ofH 13 (by decide) rfl rfl ?_
    refine zwq_okN (Z_L_lodger l) [] (fun _ _ _ _ _ _ h => h) 60 (Z_L_lodger l) ?_
    refine zGs_callC (f := F_L_lodger) (a := [.inl _, .inl _]) (rest := [.inl 0, .inr (.inl 102)]) (ci := 11) 7 1 6 (by decide +kernel) C_13_24 W_X11_lodger I_X11_lodger S_X11_lodger rfl rfl rfl rfl rfl (R_X11_lodger l _ _ _ h) ?_ ?_
    · rintro E S1 ⟨rfl, hq⟩
      exact ⟨1, zok1, ⟨13, 18, 0, 10, Or.inl ⟨_, rfl⟩, ⟨by decide, by decide⟩, by decide, cN, caN, ⟨rfl, 1, rfl, Or.inr ⟨4, by decide, by decide +kernel, by decide +kernel, by decide +kernel⟩⟩⟩, hq⟩
    · intro v S1 hv
      rcases v with _ | w | c | w
      · exact hv.elim
      · refine zwq_okN (Z_L_lodger l) [] (fun _ _ _ _ _ _ h => h) 60 (Z_L_lodger l) ?_
        exact ⟨0, ⟨rfl, by decide⟩, hv⟩
      · exact hv.elim
      · exact hv.elim
  · exact h.elim
def U_L_may : List (Nat × zE) := [(0, Sum.inl (4, 4, 0, 0, 2, [])), (2, Sum.inl (0, 0, 0, 0, 3, [])), (3, Sum.inl (4, 0, 0, 0, 4, [])), (4, Sum.inl (2, 1, 0, 0, 5, [])), (5, Sum.inl (2, 2, 0, 0, 6, [])), (6, Sum.inl (2, 3, 0, 0, 7, [])), (10, Sum.inl (10, 0, 0, 0, 11, [])), (11, Sum.inl (25, 0, 0, 0, 12, [])), (12, Sum.inl (15, 0, 0, 0, 19, [])), (15, Sum.inl (7, 5, 0, 0, 17, [])), (17, Sum.inl (0, 0, 0, 1, 18, [])), (18, Sum.inl (27, 0, 0, 0, 19, [])), (19, Sum.inl (0, 0, 0, 0, 20, [])), (20, Sum.inl (27, 0, 0, 0, 21, []))]
theorem Z_L_may (l : Launch) : ∀ q ∈ U_L_may, zTok l orcN F_L_may q ∧ ∃ e, q.2 = .inl e := fun q hq => ⟨zU_ok (T := T_L_may) (B := []) rfl rfl rfl K_L_may (fun _ h => by cases h) q hq, by
  have h : ∀ q ∈ U_L_may, q.2.isLeft = true := by decide +kernel
  have h := h q hq
  cases hq2 : q.2 with
  | inl e => exact ⟨e, rfl⟩
  | inr e => rw [hq2] at h; cases h⟩
def wp_L_may (a : List zV) (S : zS) (K : zR2 → zS → Prop) : Prop := match a with
  | [.inr (.inl c), .inl x0, .inl x1, .inl x2, .inr (.inl o)] => (c = 0 ∧ o = 102) ∧ wp_X11_may [.inr (.inl 0), .inl x0, .inl x1, .inl x2] S (hpN K)
  | _ => False
theorem R_L_may (l : Launch) (a : List zV) (S : zS) (Q : zR2 → zS → Prop) (h : wp_L_may a S Q) : zRs l 8 1 6 yL_may (.codeWith yL_may cL_may 6 (some .int) [(0, 12, 15, 18)]) a S Q := by
  unfold wp_L_may at h
  split at h
  · obtain ⟨⟨rfl, rfl⟩, h⟩ := h
    refine zRs_ofH 13 (by decide) rfl rfl ?_
    refine zwq_okN (Z_L_may l) [] (fun _ _ _ _ _ _ h => h) 60 (Z_L_may l) ?_
    refine zGs_callC (f := F_L_may) (a := [.inl _, .inl _, .inl _]) (rest := [.inl 0, .inr (.inl 102)]) (ci := 11) 7 1 6 (by decide +kernel) C_13_27 W_X11_may I_X11_may S_X11_may rfl rfl rfl rfl rfl (R_X11_may l _ _ _ h) ?_ ?_
    · rintro E S1 ⟨rfl, hq⟩
      exact ⟨1, zok1, ⟨15, 18, 0, 12, Or.inl ⟨_, rfl⟩, ⟨by decide, by decide⟩, by decide, cN, caN, ⟨rfl, 1, rfl, Or.inr ⟨5, by decide, by decide +kernel, by decide +kernel, by decide +kernel⟩⟩⟩, hq⟩
    · intro v S1 hv
      rcases v with _ | w | c | w
      · exact hv.elim
      · refine zwq_okN (Z_L_may l) [] (fun _ _ _ _ _ _ h => h) 60 (Z_L_may l) ?_
        exact ⟨0, ⟨rfl, by decide⟩, hv⟩
      · exact hv.elim
      · exact hv.elim
  · exact h.elim
def U_L_says : List (Nat × zE) := [(0, Sum.inl (4, 3, 0, 0, 1, [])), (1, Sum.inl (0, 0, 0, 0, 2, [])), (2, Sum.inl (4, 0, 0, 0, 3, [])), (3, Sum.inl (2, 1, 0, 0, 4, [])), (4, Sum.inl (2, 2, 0, 0, 5, [])), (8, Sum.inl (10, 0, 0, 0, 9, [])), (9, Sum.inl (25, 0, 0, 0, 10, [])), (10, Sum.inl (15, 0, 0, 0, 17, [])), (13, Sum.inl (7, 4, 0, 0, 15, [])), (15, Sum.inl (0, 0, 0, 1, 16, [])), (16, Sum.inl (27, 0, 0, 0, 17, [])), (17, Sum.inl (0, 0, 0, 0, 18, [])), (18, Sum.inl (27, 0, 0, 0, 19, []))]
theorem Z_L_says (l : Launch) : ∀ q ∈ U_L_says, zTok l orcN F_L_says q ∧ ∃ e, q.2 = .inl e := fun q hq => ⟨zU_ok (T := T_L_says) (B := []) rfl rfl rfl K_L_says (fun _ h => by cases h) q hq, by
  have h : ∀ q ∈ U_L_says, q.2.isLeft = true := by decide +kernel
  have h := h q hq
  cases hq2 : q.2 with
  | inl e => exact ⟨e, rfl⟩
  | inr e => rw [hq2] at h; cases h⟩
def wp_L_says (a : List zV) (S : zS) (K : zR2 → zS → Prop) : Prop := match a with
  | [.inr (.inl c), .inl x0, .inl x1, .inr (.inl o)] => (c = 0 ∧ o = 102) ∧ wp_X11_says [.inr (.inl 0), .inl x0, .inl x1] S (hpN K)
  | _ => False
theorem R_L_says (l : Launch) (a : List zV) (S : zS) (Q : zR2 → zS → Prop) (h : wp_L_says a S Q) : zRs l 8 1 6 yL_says (.codeWith yL_says cL_says 5 (some .int) [(0, 10, 13, 18)]) a S Q := by
  unfold wp_L_says at h
  split at h
  · obtain ⟨⟨rfl, rfl⟩, h⟩ := h
    refine zRs_ofH 13 (by decide) rfl rfl ?_
    refine zwq_okN (Z_L_says l) [] (fun _ _ _ _ _ _ h => h) 60 (Z_L_says l) ?_
    refine zGs_callC (f := F_L_says) (a := [.inl _, .inl _]) (rest := [.inl 0, .inr (.inl 102)]) (ci := 11) 7 1 6 (by decide +kernel) C_13_31 W_X11_says I_X11_says S_X11_says rfl rfl rfl rfl rfl (R_X11_says l _ _ _ h) ?_ ?_
    · rintro E S1 ⟨rfl, hq⟩
      exact ⟨1, zok1, ⟨13, 18, 0, 10, Or.inl ⟨_, rfl⟩, ⟨by decide, by decide⟩, by decide, cN, caN, ⟨rfl, 1, rfl, Or.inr ⟨4, by decide, by decide +kernel, by decide +kernel, by decide +kernel⟩⟩⟩, hq⟩
    · intro v S1 hv
      rcases v with _ | w | c | w
      · exact hv.elim
      · refine zwq_okN (Z_L_says l) [] (fun _ _ _ _ _ _ h => h) 60 (Z_L_says l) ?_
        exact ⟨0, ⟨rfl, by decide⟩, hv⟩
      · exact hv.elim
      · exact hv.elim
  · exact h.elim
def U_L_lend : List (Nat × zE) := [(0, Sum.inl (4, 4, 0, 0, 2, [])), (2, Sum.inl (0, 0, 0, 0, 3, [])), (3, Sum.inl (4, 0, 0, 0, 4, [])), (4, Sum.inl (2, 1, 0, 0, 5, [])), (5, Sum.inl (2, 2, 0, 0, 6, [])), (6, Sum.inl (2, 3, 0, 0, 7, [])), (10, Sum.inl (10, 0, 0, 0, 11, [])), (11, Sum.inl (25, 0, 0, 0, 12, [])), (12, Sum.inl (15, 0, 0, 0, 19, [])), (15, Sum.inl (7, 5, 0, 0, 17, [])), (17, Sum.inl (0, 0, 0, 1, 18, [])), (18, Sum.inl (27, 0, 0, 0, 19, [])), (19, Sum.inl (0, 0, 0, 0, 20, [])), (20, Sum.inl (27, 0, 0, 0, 21, []))]
theorem Z_L_lend (l : Launch) : ∀ q ∈ U_L_lend, zTok l orcN F_L_lend q ∧ ∃ e, q.2 = .inl e := fun q hq => ⟨zU_ok (T := T_L_lend) (B := []) rfl rfl rfl K_L_lend (fun _ h => by cases h) q hq, by
  have h : ∀ q ∈ U_L_lend, q.2.isLeft = true := by decide +kernel
  have h := h q hq
  cases hq2 : q.2 with
  | inl e => exact ⟨e, rfl⟩
  | inr e => rw [hq2] at h; cases h⟩
def wp_L_lend (a : List zV) (S : zS) (K : zR2 → zS → Prop) : Prop := match a with
  | [.inr (.inl c), .inl x0, .inl x1, .inl x2, .inr (.inl o)] => (c = 0 ∧ o = 102) ∧ wp_X11_lend [.inr (.inl 0), .inl x0, .inl x1, .inl x2] S (hpN K)
  | _ => False
theorem R_L_lend (l : Launch) (a : List zV) (S : zS) (Q : zR2 → zS → Prop) (h : wp_L_lend a S Q) : zRs l 8 1 6 yL_lend (.codeWith yL_lend cL_lend 6 (some .int) [(0, 12, 15, 18)]) a S Q := by
  unfold wp_L_lend at h
  split at h
  · obtain ⟨⟨rfl, rfl⟩, h⟩ := h
    refine zRs_ofH 13 (by decide) rfl rfl ?_
    refine zwq_okN (Z_L_lend l) [] (fun _ _ _ _ _ _ h => h) 60 (Z_L_lend l) ?_
    refine zGs_callC (f := F_L_lend) (a := [.inl _, .inl _, .inl _]) (rest := [.inl 0, .inr (.inl 102)]) (ci := 11) 7 1 6 (by decide +kernel) C_13_34 W_X11_lend I_X11_lend S_X11_lend rfl rfl rfl rfl rfl (R_X11_lend l _ _ _ h) ?_ ?_
    · rintro E S1 ⟨rfl, hq⟩
      exact ⟨1, zok1, ⟨15, 18, 0, 12, Or.inl ⟨_, rfl⟩, ⟨by decide, by decide⟩, by decide, cN, caN, ⟨rfl, 1, rfl, Or.inr ⟨5, by decide, by decide +kernel, by decide +kernel, by decide +kernel⟩⟩⟩, hq⟩
    · intro v S1 hv
      rcases v with _ | w | c | w
      · exact hv.elim
      · refine zwq_okN (Z_L_lend l) [] (fun _ _ _ _ _ _ h => h) 60 (Z_L_lend l) ?_
        exact ⟨0, ⟨rfl, by decide⟩, hv⟩
      · exact hv.elim
      · exact hv.elim
  · exact h.elim
def U_L_does : List (Nat × zE) := [(0, Sum.inl (4, 3, 0, 0, 1, [])), (1, Sum.inl (0, 0, 0, 0, 2, [])), (2, Sum.inl (4, 0, 0, 0, 3, [])), (3, Sum.inl (2, 1, 0, 0, 4, [])), (4, Sum.inl (2, 2, 0, 0, 5, [])), (8, Sum.inl (10, 0, 0, 0, 9, [])), (9, Sum.inl (25, 0, 0, 0, 10, [])), (10, Sum.inl (15, 0, 0, 0, 17, [])), (13, Sum.inl (7, 4, 0, 0, 15, [])), (15, Sum.inl (0, 0, 0, 1, 16, [])), (16, Sum.inl (27, 0, 0, 0, 17, [])), (17, Sum.inl (0, 0, 0, 0, 18, [])), (18, Sum.inl (27, 0, 0, 0, 19, []))]
theorem Z_L_does (l : Launch) : ∀ q ∈ U_L_does, zTok l orcN F_L_does q ∧ ∃ e, q.2 = .inl e := fun q hq => ⟨zU_ok (T := T_L_does) (B := []) rfl rfl rfl K_L_does (fun _ h => by cases h) q hq, by
  have h : ∀ q ∈ U_L_does, q.2.isLeft = true := by decide +kernel
  have h := h q hq
  cases hq2 : q.2 with
  | inl e => exact ⟨e, rfl⟩
  | inr e => rw [hq2] at h; cases h⟩
def wp_L_does (a : List zV) (S : zS) (K : zR2 → zS → Prop) : Prop := match a with
  | [.inr (.inl c), .inl x0, .inl x1, .inr (.inl o)] => (c = 0 ∧ o = 102) ∧ wp_X11_does [.inr (.inl 0), .inl x0, .inl x1] S (hpN K)
  | _ => False
theorem R_L_does (l : Launch) (a : List zV) (S : zS) (Q : zR2 → zS → Prop) (h : wp_L_does a S Q) : zRs l 8 1 6 yL_does (.codeWith yL_does cL_does 5 (some .int) [(0, 10, 13, 18)]) a S Q := by
  unfold wp_L_does at h
  split at h
  · obtain ⟨⟨rfl, rfl⟩, h⟩ := h
    refine zRs_ofH 13 (by decide) rfl rfl ?_
    refine zwq_okN (Z_L_does l) [] (fun _ _ _ _ _ _ h => h) 60 (Z_L_does l) ?_
    refine zGs_callC (f := F_L_does) (a := [.inl _, .inl _]) (rest := [.inl 0, .inr (.inl 102)]) (ci := 11) 7 1 6 (by decide +kernel) C_13_37 W_X11_does I_X11_does S_X11_does rfl rfl rfl rfl rfl (R_X11_does l _ _ _ h) ?_ ?_
    · rintro E S1 ⟨rfl, hq⟩
      exact ⟨1, zok1, ⟨13, 18, 0, 10, Or.inl ⟨_, rfl⟩, ⟨by decide, by decide⟩, by decide, cN, caN, ⟨rfl, 1, rfl, Or.inr ⟨4, by decide, by decide +kernel, by decide +kernel, by decide +kernel⟩⟩⟩, hq⟩
    · intro v S1 hv
      rcases v with _ | w | c | w
      · exact hv.elim
      · refine zwq_okN (Z_L_does l) [] (fun _ _ _ _ _ _ h => h) 60 (Z_L_does l) ?_
        exact ⟨0, ⟨rfl, by decide⟩, hv⟩
      · exact hv.elim
      · exact hv.elim
  · exact h.elim
def U_L_sign : List (Nat × zE) := [(0, Sum.inl (4, 3, 0, 0, 1, [])), (1, Sum.inl (0, 0, 0, 0, 2, [])), (2, Sum.inl (4, 0, 0, 0, 3, [])), (3, Sum.inl (2, 1, 0, 0, 4, [])), (4, Sum.inl (2, 2, 0, 0, 5, [])), (8, Sum.inl (10, 0, 0, 0, 9, [])), (9, Sum.inl (25, 0, 0, 0, 10, [])), (10, Sum.inl (15, 0, 0, 0, 17, [])), (13, Sum.inl (7, 4, 0, 0, 15, [])), (15, Sum.inl (0, 0, 0, 1, 16, [])), (16, Sum.inl (27, 0, 0, 0, 17, [])), (17, Sum.inl (0, 0, 0, 0, 18, [])), (18, Sum.inl (27, 0, 0, 0, 19, []))]
theorem Z_L_sign (l : Launch) : ∀ q ∈ U_L_sign, zTok l orcN F_L_sign q ∧ ∃ e, q.2 = .inl e := fun q hq => ⟨zU_ok (T := T_L_sign) (B := []) rfl rfl rfl K_L_sign (fun _ h => by cases h) q hq, by
  have h : ∀ q ∈ U_L_sign, q.2.isLeft = true := by decide +kernel
  have h := h q hq
  cases hq2 : q.2 with
  | inl e => exact ⟨e, rfl⟩
  | inr e => rw [hq2] at h; cases h⟩
def wp_L_sign (a : List zV) (S : zS) (K : zR2 → zS → Prop) : Prop := match a with
  | [.inr (.inl c), .inl x0, .inl x1, .inr (.inl o)] => (c = 0 ∧ o = 102) ∧ wp_X11_sign [.inr (.inl 0), .inl x0, .inl x1] S (hpN K)
  | _ => False
theorem R_L_sign (l : Launch) (a : List zV) (S : zS) (Q : zR2 → zS → Prop) (h : wp_L_sign a S Q) : zRs l 8 1 6 yL_sign (.codeWith yL_sign cL_sign 5 (some .int) [(0, 10, 13, 18)]) a S Q := by
  unfold wp_L_sign at h
  split at h
  · obtain ⟨⟨rfl, rfl⟩, h⟩ := h
    refine zRs_ofH 13 (by decide) rfl rfl ?_
    refine zwq_okN (Z_L_sign l) [] (fun _ _ _ _ _ _ h => h) 60 (Z_L_sign l) ?_
    refine zGs_callC (f := F_L_sign) (a := [.inl _, .inl _]) (rest := [.inl 0, .inr (.inl 102)]) (ci := 11) 7 1 6 (by decide +kernel) C_13_40 W_X11_sign I_X11_sign S_X11_sign rfl rfl rfl rfl rfl (R_X11_sign l _ _ _ h) ?_ ?_
    · rintro E S1 ⟨rfl, hq⟩
      exact ⟨1, zok1, ⟨13, 18, 0, 10, Or.inl ⟨_, rfl⟩, ⟨by decide, by decide⟩, by decide, cN, caN, ⟨rfl, 1, rfl, Or.inr ⟨4, by decide, by decide +kernel, by decide +kernel, by decide +kernel⟩⟩⟩, hq⟩
    · intro v S1 hv
      rcases v with _ | w | c | w
      · exact hv.elim
      · refine zwq_okN (Z_L_sign l) [] (fun _ _ _ _ _ _ h => h) 60 (Z_L_sign l) ?_
        exact ⟨0, ⟨rfl, by decide⟩, hv⟩
      · exact hv.elim
      · exact hv.elim
  · exact h.elim
def U_L_look : List (Nat × zE) := [(0, Sum.inl (4, 4, 0, 0, 2, [])), (2, Sum.inl (0, 0, 0, 0, 3, [])), (3, Sum.inl (4, 0, 0, 0, 4, [])), (4, Sum.inl (2, 1, 0, 0, 5, [])), (5, Sum.inl (2, 2, 0, 0, 6, [])), (6, Sum.inl (2, 3, 0, 0, 7, [])), (10, Sum.inl (10, 0, 0, 0, 11, [])), (11, Sum.inl (25, 0, 0, 0, 12, [])), (12, Sum.inl (15, 0, 0, 0, 19, [])), (15, Sum.inl (7, 5, 0, 0, 17, [])), (17, Sum.inl (0, 0, 0, 1, 18, [])), (18, Sum.inl (27, 0, 0, 0, 19, [])), (19, Sum.inl (0, 0, 0, 0, 20, [])), (20, Sum.inl (27, 0, 0, 0, 21, []))]
theorem Z_L_look (l : Launch) : ∀ q ∈ U_L_look, zTok l orcN F_L_look q ∧ ∃ e, q.2 = .inl e := fun q hq => ⟨zU_ok (T := T_L_look) (B := []) rfl rfl rfl K_L_look (fun _ h => by cases h) q hq, by
  have h : ∀ q ∈ U_L_look, q.2.isLeft = true := by decide +kernel
  have h := h q hq
  cases hq2 : q.2 with
  | inl e => exact ⟨e, rfl⟩
  | inr e => rw [hq2] at h; cases h⟩
def wp_L_look (a : List zV) (S : zS) (K : zR2 → zS → Prop) : Prop := match a with
  | [.inr (.inl c), .inl x0, .inl x1, .inl x2, .inr (.inl o)] => (c = 0 ∧ o = 102) ∧ wp_X11_look [.inr (.inl 0), .inl x0, .inl x1, .inl x2] S (hpN K)
  | _ => False
theorem R_L_look (l : Launch) (a : List zV) (S : zS) (Q : zR2 → zS → Prop) (h : wp_L_look a S Q) : zRs l 8 1 6 yL_look (.codeWith yL_look cL_look 6 (some .int) [(0, 12, 15, 18)]) a S Q := by
  unfold wp_L_look at h
  split at h
  · obtain ⟨⟨rfl, rfl⟩, h⟩ := h
    refine zRs_ofH 13 (by decide) rfl rfl ?_
    refine zwq_okN (Z_L_look l) [] (fun _ _ _ _ _ _ h => h) 60 (Z_L_look l) ?_
    refine zGs_callC (f := F_L_look) (a := [.inl _, .inl _, .inl _]) (rest := [.inl 0, .inr (.inl 102)]) (ci := 11) 7 1 6 (by decide +kernel) C_13_43 W_X11_look I_X11_look S_X11_look rfl rfl rfl rfl rfl (R_X11_look l _ _ _ h) ?_ ?_
    · rintro E S1 ⟨rfl, hq⟩
      exact ⟨1, zok1, ⟨15, 18, 0, 12, Or.inl ⟨_, rfl⟩, ⟨by decide, by decide⟩, by decide, cN, caN, ⟨rfl, 1, rfl, Or.inr ⟨5, by decide, by decide +kernel, by decide +kernel, by decide +kernel⟩⟩⟩, hq⟩
    · intro v S1 hv
      rcases v with _ | w | c | w
      · exact hv.elim
      · refine zwq_okN (Z_L_look l) [] (fun _ _ _ _ _ _ h => h) 60 (Z_L_look l) ?_
        exact ⟨0, ⟨rfl, by decide⟩, hv⟩
      · exact hv.elim
      · exact hv.elim
  · exact h.elim
def U_L_theft : List (Nat × zE) := [(0, Sum.inl (4, 3, 0, 0, 1, [])), (1, Sum.inl (0, 0, 0, 0, 2, [])), (2, Sum.inl (4, 0, 0, 0, 3, [])), (3, Sum.inl (2, 1, 0, 0, 4, [])), (4, Sum.inl (2, 2, 0, 0, 5, [])), (8, Sum.inl (10, 0, 0, 0, 9, [])), (9, Sum.inl (25, 0, 0, 0, 10, [])), (10, Sum.inl (15, 0, 0, 0, 17, [])), (13, Sum.inl (7, 4, 0, 0, 15, [])), (15, Sum.inl (0, 0, 0, 1, 16, [])), (16, Sum.inl (27, 0, 0, 0, 17, [])), (17, Sum.inl (0, 0, 0, 0, 18, [])), (18, Sum.inl (27, 0, 0, 0, 19, []))]
theorem Z_L_theft (l : Launch) : ∀ q ∈ U_L_theft, zTok l orcN F_L_theft q ∧ ∃ e, q.2 = .inl e := fun q hq => ⟨zU_ok (T := T_L_theft) (B := []) rfl rfl rfl K_L_theft (fun _ h => by cases h) q hq, by
  have h : ∀ q ∈ U_L_theft, q.2.isLeft = true := by decide +kernel
  have h := h q hq
  cases hq2 : q.2 with
  | inl e => exact ⟨e, rfl⟩
  | inr e => rw [hq2] at h; cases h⟩
def wp_L_theft (a : List zV) (S : zS) (K : zR2 → zS → Prop) : Prop := match a with
  | [.inr (.inl c), .inl x0, .inl x1, .inr (.inl o)] => (c = 0 ∧ o = 102) ∧ wp_X11_theft [.inr (.inl 0), .inl x0, .inl x1] S (hpN K)
  | _ => False
theorem R_L_theft (l : Launch) (a : List zV) (S : zS) (Q : zR2 → zS → Prop) (h : wp_L_theft a S Q) : zRs l 8 1 6 yL_theft (.codeWith yL_theft cL_theft 5 (some .int) [(0, 10, 13, 18)]) a S Q := by
  unfold wp_L_theft at h
  split at h
  · obtain ⟨⟨rfl, rfl⟩, h⟩ := h
    refine zRs_ofH 13 (by decide) rfl rfl ?_
    refine zwq_okN (Z_L_theft l) [] (fun _ _ _ _ _ _ h => h) 60 (Z_L_theft l) ?_
    refine zGs_callC (f := F_L_theft) (a := [.inl _, .inl _]) (rest := [.inl 0, .inr (.inl 102)]) (ci := 11) 7 1 6 (by decide +kernel) C_13_46 W_X11_theft I_X11_theft S_X11_theft rfl rfl rfl rfl rfl (R_X11_theft l _ _ _ h) ?_ ?_
    · rintro E S1 ⟨rfl, hq⟩
      exact ⟨1, zok1, ⟨13, 18, 0, 10, Or.inl ⟨_, rfl⟩, ⟨by decide, by decide⟩, by decide, cN, caN, ⟨rfl, 1, rfl, Or.inr ⟨4, by decide, by decide +kernel, by decide +kernel, by decide +kernel⟩⟩⟩, hq⟩
    · intro v S1 hv
      rcases v with _ | w | c | w
      · exact hv.elim
      · refine zwq_okN (Z_L_theft l) [] (fun _ _ _ _ _ _ h => h) 60 (Z_L_theft l) ?_
        exact ⟨0, ⟨rfl, by decide⟩, hv⟩
      · exact hv.elim
      · exact hv.elim
  · exact h.elim
def U_L_see : List (Nat × zE) := [(0, Sum.inl (4, 4, 0, 0, 2, [])), (2, Sum.inl (0, 0, 0, 0, 3, [])), (3, Sum.inl (4, 0, 0, 0, 4, [])), (4, Sum.inl (2, 1, 0, 0, 5, [])), (5, Sum.inl (2, 2, 0, 0, 6, [])), (6, Sum.inl (2, 3, 0, 0, 7, [])), (10, Sum.inl (10, 0, 0, 0, 11, [])), (11, Sum.inl (25, 0, 0, 0, 12, [])), (12, Sum.inl (15, 0, 0, 0, 19, [])), (15, Sum.inl (7, 5, 0, 0, 17, [])), (17, Sum.inl (0, 0, 0, 1, 18, [])), (18, Sum.inl (27, 0, 0, 0, 19, [])), (19, Sum.inl (0, 0, 0, 0, 20, [])), (20, Sum.inl (27, 0, 0, 0, 21, []))]
theorem Z_L_see (l : Launch) : ∀ q ∈ U_L_see, zTok l orcN F_L_see q ∧ ∃ e, q.2 = .inl e := fun q hq => ⟨zU_ok (T := T_L_see) (B := []) rfl rfl rfl K_L_see (fun _ h => by cases h) q hq, by
  have h : ∀ q ∈ U_L_see, q.2.isLeft = true := by decide +kernel
  have h := h q hq
  cases hq2 : q.2 with
  | inl e => exact ⟨e, rfl⟩
  | inr e => rw [hq2] at h; cases h⟩
def wp_L_see (a : List zV) (S : zS) (K : zR2 → zS → Prop) : Prop := match a with
  | [.inr (.inl c), .inl x0, .inl x1, .inl x2, .inr (.inl o)] => (c = 0 ∧ o = 102) ∧ wp_X11_see [.inr (.inl 0), .inl x0, .inl x1, .inl x2] S (hpN K)
  | _ => False
theorem R_L_see (l : Launch) (a : List zV) (S : zS) (Q : zR2 → zS → Prop) (h : wp_L_see a S Q) : zRs l 8 1 6 yL_see (.codeWith yL_see cL_see 6 (some .int) [(0, 12, 15, 18)]) a S Q := by
  unfold wp_L_see at h
  split at h
  · obtain ⟨⟨rfl, rfl⟩, h⟩ := h
    refine zRs_ofH 13 (by decide) rfl rfl ?_
    refine zwq_okN (Z_L_see l) [] (fun _ _ _ _ _ _ h => h) 60 (Z_L_see l) ?_
    refine zGs_callC (f := F_L_see) (a := [.inl _, .inl _, .inl _]) (rest := [.inl 0, .inr (.inl 102)]) (ci := 11) 7 1 6 (by decide +kernel) C_13_49 W_X11_see I_X11_see S_X11_see rfl rfl rfl rfl rfl (R_X11_see l _ _ _ h) ?_ ?_
    · rintro E S1 ⟨rfl, hq⟩
      exact ⟨1, zok1, ⟨15, 18, 0, 12, Or.inl ⟨_, rfl⟩, ⟨by decide, by decide⟩, by decide, cN, caN, ⟨rfl, 1, rfl, Or.inr ⟨5, by decide, by decide +kernel, by decide +kernel, by decide +kernel⟩⟩⟩, hq⟩
    · intro v S1 hv
      rcases v with _ | w | c | w
      · exact hv.elim
      · refine zwq_okN (Z_L_see l) [] (fun _ _ _ _ _ _ h => h) 60 (Z_L_see l) ?_
        exact ⟨0, ⟨rfl, by decide⟩, hv⟩
      · exact hv.elim
      · exact hv.elim
  · exact h.elim
def U_L_inCase : List (Nat × zE) := [(0, Sum.inl (4, 3, 0, 0, 1, [])), (1, Sum.inl (0, 0, 0, 0, 2, [])), (2, Sum.inl (4, 0, 0, 0, 3, [])), (3, Sum.inl (2, 1, 0, 0, 4, [])), (4, Sum.inl (2, 2, 0, 0, 5, [])), (8, Sum.inl (10, 0, 0, 0, 9, [])), (9, Sum.inl (25, 0, 0, 0, 10, [])), (10, Sum.inl (15, 0, 0, 0, 17, [])), (13, Sum.inl (7, 4, 0, 0, 15, [])), (15, Sum.inl (0, 0, 0, 1, 16, [])), (16, Sum.inl (27, 0, 0, 0, 17, [])), (17, Sum.inl (0, 0, 0, 0, 18, [])), (18, Sum.inl (27, 0, 0, 0, 19, []))]
theorem Z_L_inCase (l : Launch) : ∀ q ∈ U_L_inCase, zTok l orcN F_L_inCase q ∧ ∃ e, q.2 = .inl e := fun q hq => ⟨zU_ok (T := T_L_inCase) (B := []) rfl rfl rfl K_L_inCase (fun _ h => by cases h) q hq, by
  have h : ∀ q ∈ U_L_inCase, q.2.isLeft = true := by decide +kernel
  have h := h q hq
  cases hq2 : q.2 with
  | inl e => exact ⟨e, rfl⟩
  | inr e => rw [hq2] at h; cases h⟩
def wp_L_inCase (a : List zV) (S : zS) (K : zR2 → zS → Prop) : Prop := match a with
  | [.inr (.inl c), .inl x0, .inl x1, .inr (.inl o)] => (c = 0 ∧ o = 102) ∧ wp_X11_inCase [.inr (.inl 0), .inl x0, .inl x1] S (hpN K)
  | _ => False
theorem R_L_inCase (l : Launch) (a : List zV) (S : zS) (Q : zR2 → zS → Prop) (h : wp_L_inCase a S Q) : zRs l 8 1 6 yL_inCase (.codeWith yL_inCase cL_inCase 5 (some .int) [(0, 10, 13, 18)]) a S Q := by
  unfold wp_L_inCase at h
  split at h
  · obtain ⟨⟨rfl, rfl⟩, h⟩ := h
    refine zRs_ofH 13 (by decide) rfl rfl ?_
    refine zwq_okN (Z_L_inCase l) [] (fun _ _ _ _ _ _ h => h) 60 (Z_L_inCase l) ?_
    refine zGs_callC (f := F_L_inCase) (a := [.inl _, .inl _]) (rest := [.inl 0, .inr (.inl 102)]) (ci := 11) 7 1 6 (by decide +kernel) C_13_52 W_X11_inCase I_X11_inCase S_X11_inCase rfl rfl rfl rfl rfl (R_X11_inCase l _ _ _ h) ?_ ?_
    · rintro E S1 ⟨rfl, hq⟩
      exact ⟨1, zok1, ⟨13, 18, 0, 10, Or.inl ⟨_, rfl⟩, ⟨by decide, by decide⟩, by decide, cN, caN, ⟨rfl, 1, rfl, Or.inr ⟨4, by decide, by decide +kernel, by decide +kernel, by decide +kernel⟩⟩⟩, hq⟩
    · intro v S1 hv
      rcases v with _ | w | c | w
      · exact hv.elim
      · refine zwq_okN (Z_L_inCase l) [] (fun _ _ _ _ _ _ h => h) 60 (Z_L_inCase l) ?_
        exact ⟨0, ⟨rfl, by decide⟩, hv⟩
      · exact hv.elim
      · exact hv.elim
  · exact h.elim
def U_L_sure : List (Nat × zE) := [(0, Sum.inl (4, 2, 0, 0, 1, [])), (1, Sum.inl (0, 0, 0, 0, 2, [])), (2, Sum.inl (4, 0, 0, 0, 3, [])), (3, Sum.inl (2, 1, 0, 0, 4, [])), (7, Sum.inl (10, 0, 0, 0, 8, [])), (8, Sum.inl (25, 0, 0, 0, 9, [])), (9, Sum.inl (15, 0, 0, 0, 15, [])), (12, Sum.inl (7, 3, 0, 0, 13, [])), (13, Sum.inl (0, 0, 0, 1, 14, [])), (14, Sum.inl (27, 0, 0, 0, 15, [])), (15, Sum.inl (0, 0, 0, 0, 16, [])), (16, Sum.inl (27, 0, 0, 0, 17, []))]
theorem Z_L_sure (l : Launch) : ∀ q ∈ U_L_sure, zTok l orcN F_L_sure q ∧ ∃ e, q.2 = .inl e := fun q hq => ⟨zU_ok (T := T_L_sure) (B := []) rfl rfl rfl K_L_sure (fun _ h => by cases h) q hq, by
  have h : ∀ q ∈ U_L_sure, q.2.isLeft = true := by decide +kernel
  have h := h q hq
  cases hq2 : q.2 with
  | inl e => exact ⟨e, rfl⟩
  | inr e => rw [hq2] at h; cases h⟩
def wp_L_sure (a : List zV) (S : zS) (K : zR2 → zS → Prop) : Prop := match a with
  | [.inr (.inl c), .inl x0, .inr (.inl o)] => (c = 0 ∧ o = 102) ∧ wp_X11_sure [.inr (.inl 0), .inl x0] S (hpN K)
  | _ => False
theorem R_L_sure (l : Launch) (a : List zV) (S : zS) (Q : zR2 → zS → Prop) (h : wp_L_sure a S Q) : zRs l 8 1 6 yL_sure (.codeWith yL_sure cL_sure 4 (some .int) [(0, 9, 12, 18)]) a S Q := by
  unfold wp_L_sure at h
  split at h
  · obtain ⟨⟨rfl, rfl⟩, h⟩ := h
    refine zRs_ofH 13 (by decide) rfl rfl ?_
    refine zwq_okN (Z_L_sure l) [] (fun _ _ _ _ _ _ h => h) 60 (Z_L_sure l) ?_
    refine zGs_callC (f := F_L_sure) (a := [.inl _]) (rest := [.inl 0, .inr (.inl 102)]) (ci := 11) 7 1 6 (by decide +kernel) C_13_55 W_X11_sure I_X11_sure S_X11_sure rfl rfl rfl rfl rfl (R_X11_sure l _ _ _ h) ?_ ?_
    · rintro E S1 ⟨rfl, hq⟩
      exact ⟨1, zok1, ⟨12, 18, 0, 9, Or.inl ⟨_, rfl⟩, ⟨by decide, by decide⟩, by decide, cN, caN, ⟨rfl, 1, rfl, Or.inl ⟨3, by decide, by decide +kernel, by decide +kernel, by decide +kernel⟩⟩⟩, hq⟩
    · intro v S1 hv
      rcases v with _ | w | c | w
      · exact hv.elim
      · refine zwq_okN (Z_L_sure l) [] (fun _ _ _ _ _ _ h => h) 60 (Z_L_sure l) ?_
        exact ⟨0, ⟨rfl, by decide⟩, hv⟩
      · exact hv.elim
      · exact hv.elim
  · exact h.elim
def U_L_where : List (Nat × zE) := [(0, Sum.inl (4, 2, 0, 0, 1, [])), (1, Sum.inl (0, 0, 0, 0, 2, [])), (2, Sum.inl (4, 0, 0, 0, 3, [])), (3, Sum.inl (2, 1, 0, 0, 4, [])), (7, Sum.inl (10, 0, 0, 0, 8, [])), (8, Sum.inl (25, 0, 0, 0, 9, [])), (9, Sum.inl (15, 0, 0, 0, 15, [])), (12, Sum.inl (7, 3, 0, 0, 13, [])), (13, Sum.inl (0, 0, 0, 1, 14, [])), (14, Sum.inl (27, 0, 0, 0, 15, [])), (15, Sum.inl (0, 0, 0, 0, 16, [])), (16, Sum.inl (27, 0, 0, 0, 17, []))]
theorem Z_L_where (l : Launch) : ∀ q ∈ U_L_where, zTok l orcN F_L_where q ∧ ∃ e, q.2 = .inl e := fun q hq => ⟨zU_ok (T := T_L_where) (B := []) rfl rfl rfl K_L_where (fun _ h => by cases h) q hq, by
  have h : ∀ q ∈ U_L_where, q.2.isLeft = true := by decide +kernel
  have h := h q hq
  cases hq2 : q.2 with
  | inl e => exact ⟨e, rfl⟩
  | inr e => rw [hq2] at h; cases h⟩
def wp_L_where (a : List zV) (S : zS) (K : zR2 → zS → Prop) : Prop := match a with
  | [.inr (.inl c), .inl x0, .inr (.inl o)] => (c = 0 ∧ o = 102) ∧ wp_X11_where [.inr (.inl 0), .inl x0] S (hpN K)
  | _ => False
theorem R_L_where (l : Launch) (a : List zV) (S : zS) (Q : zR2 → zS → Prop) (h : wp_L_where a S Q) : zRs l 8 1 6 yL_where (.codeWith yL_where cL_where 4 (some .int) [(0, 9, 12, 18)]) a S Q := by
  unfold wp_L_where at h
  split at h
  · obtain ⟨⟨rfl, rfl⟩, h⟩ := h
    refine zRs_ofH 13 (by decide) rfl rfl ?_
    refine zwq_okN (Z_L_where l) [] (fun _ _ _ _ _ _ h => h) 60 (Z_L_where l) ?_
    refine zGs_callC (f := F_L_where) (a := [.inl _]) (rest := [.inl 0, .inr (.inl 102)]) (ci := 11) 7 1 6 (by decide +kernel) C_13_58 W_X11_where I_X11_where S_X11_where rfl rfl rfl rfl rfl (R_X11_where l _ _ _ h) ?_ ?_
    · rintro E S1 ⟨rfl, hq⟩
      exact ⟨1, zok1, ⟨12, 18, 0, 9, Or.inl ⟨_, rfl⟩, ⟨by decide, by decide⟩, by decide, cN, caN, ⟨rfl, 1, rfl, Or.inl ⟨3, by decide, by decide +kernel, by decide +kernel, by decide +kernel⟩⟩⟩, hq⟩
    · intro v S1 hv
      rcases v with _ | w | c | w
      · exact hv.elim
      · refine zwq_okN (Z_L_where l) [] (fun _ _ _ _ _ _ h => h) 60 (Z_L_where l) ?_
        exact ⟨0, ⟨rfl, by decide⟩, hv⟩
      · exact hv.elim
      · exact hv.elim
  · exact h.elim
def U_L_misled : List (Nat × zE) := [(0, Sum.inl (4, 4, 0, 0, 2, [])), (2, Sum.inl (0, 0, 0, 0, 3, [])), (3, Sum.inl (4, 0, 0, 0, 4, [])), (4, Sum.inl (2, 1, 0, 0, 5, [])), (5, Sum.inl (2, 2, 0, 0, 6, [])), (6, Sum.inl (2, 3, 0, 0, 7, [])), (10, Sum.inl (10, 0, 0, 0, 11, [])), (11, Sum.inl (25, 0, 0, 0, 12, [])), (12, Sum.inl (15, 0, 0, 0, 19, [])), (15, Sum.inl (7, 5, 0, 0, 17, [])), (17, Sum.inl (0, 0, 0, 1, 18, [])), (18, Sum.inl (27, 0, 0, 0, 19, [])), (19, Sum.inl (0, 0, 0, 0, 20, [])), (20, Sum.inl (27, 0, 0, 0, 21, []))]
theorem Z_L_misled (l : Launch) : ∀ q ∈ U_L_misled, zTok l orcN F_L_misled q ∧ ∃ e, q.2 = .inl e := fun q hq => ⟨zU_ok (T := T_L_misled) (B := []) rfl rfl rfl K_L_misled (fun _ h => by cases h) q hq, by
  have h : ∀ q ∈ U_L_misled, q.2.isLeft = true := by decide +kernel
  have h := h q hq
  cases hq2 : q.2 with
  | inl e => exact ⟨e, rfl⟩
  | inr e => rw [hq2] at h; cases h⟩
def wp_L_misled (a : List zV) (S : zS) (K : zR2 → zS → Prop) : Prop := match a with
  | [.inr (.inl c), .inl x0, .inl x1, .inl x2, .inr (.inl o)] => (c = 0 ∧ o = 102) ∧ wp_X11_misled [.inr (.inl 0), .inl x0, .inl x1, .inl x2] S (hpN K)
  | _ => False
theorem R_L_misled (l : Launch) (a : List zV) (S : zS) (Q : zR2 → zS → Prop) (h : wp_L_misled a S Q) : zRs l 8 1 6 yL_misled (.codeWith yL_misled cL_misled 6 (some .int) [(0, 12, 15, 18)]) a S Q := by
  unfold wp_L_misled at h
  split at h
  · obtain ⟨⟨rfl, rfl⟩, h⟩ := h
    refine zRs_ofH 13 (by decide) rfl rfl ?_
    refine zwq_okN (Z_L_misled l) [] (fun _ _ _ _ _ _ h => h) 60 (Z_L_misled l) ?_
    refine zGs_callC (f := F_L_misled) (a := [.inl _, .inl _, .inl _]) (rest := [.inl 0, .inr (.inl 102)]) (ci := 11) 7 1 6 (by decide +kernel) C_13_61 W_X11_misled I_X11_misled S_X11_misled rfl rfl rfl rfl rfl (R_X11_misled l _ _ _ h) ?_ ?_
    · rintro E S1 ⟨rfl, hq⟩
      exact ⟨1, zok1, ⟨15, 18, 0, 12, Or.inl ⟨_, rfl⟩, ⟨by decide, by decide⟩, by decide, cN, caN, ⟨rfl, 1, rfl, Or.inr ⟨5, by decide, by decide +kernel, by decide +kernel, by decide +kernel⟩⟩⟩, hq⟩
    · intro v S1 hv
      rcases v with _ | w | c | w
      · exact hv.elim
      · refine zwq_okN (Z_L_misled l) [] (fun _ _ _ _ _ _ h => h) 60 (Z_L_misled l) ?_
        exact ⟨0, ⟨rfl, by decide⟩, hv⟩
      · exact hv.elim
      · exact hv.elim
  · exact h.elim
def U_L_chance : List (Nat × zE) := [(0, Sum.inl (4, 3, 0, 0, 1, [])), (1, Sum.inl (0, 0, 0, 0, 2, [])), (2, Sum.inl (4, 0, 0, 0, 3, [])), (3, Sum.inl (2, 1, 0, 0, 4, [])), (4, Sum.inl (2, 2, 0, 0, 5, [])), (8, Sum.inl (10, 0, 0, 0, 9, [])), (9, Sum.inl (25, 0, 0, 0, 10, [])), (10, Sum.inl (15, 0, 0, 0, 17, [])), (13, Sum.inl (7, 4, 0, 0, 15, [])), (15, Sum.inl (0, 0, 0, 1, 16, [])), (16, Sum.inl (27, 0, 0, 0, 17, [])), (17, Sum.inl (0, 0, 0, 0, 18, [])), (18, Sum.inl (27, 0, 0, 0, 19, []))]
theorem Z_L_chance (l : Launch) : ∀ q ∈ U_L_chance, zTok l orcN F_L_chance q ∧ ∃ e, q.2 = .inl e := fun q hq => ⟨zU_ok (T := T_L_chance) (B := []) rfl rfl rfl K_L_chance (fun _ h => by cases h) q hq, by
  have h : ∀ q ∈ U_L_chance, q.2.isLeft = true := by decide +kernel
  have h := h q hq
  cases hq2 : q.2 with
  | inl e => exact ⟨e, rfl⟩
  | inr e => rw [hq2] at h; cases h⟩
def wp_L_chance (a : List zV) (S : zS) (K : zR2 → zS → Prop) : Prop := match a with
  | [.inr (.inl c), .inl x0, .inl x1, .inr (.inl o)] => (c = 0 ∧ o = 102) ∧ wp_X11_chance [.inr (.inl 0), .inl x0, .inl x1] S (hpN K)
  | _ => False
theorem R_L_chance (l : Launch) (a : List zV) (S : zS) (Q : zR2 → zS → Prop) (h : wp_L_chance a S Q) : zRs l 8 1 6 yL_chance (.codeWith yL_chance cL_chance 5 (some .int) [(0, 10, 13, 18)]) a S Q := by
  unfold wp_L_chance at h
  split at h
  · obtain ⟨⟨rfl, rfl⟩, h⟩ := h
    refine zRs_ofH 13 (by decide) rfl rfl ?_
    refine zwq_okN (Z_L_chance l) [] (fun _ _ _ _ _ _ h => h) 60 (Z_L_chance l) ?_
    refine zGs_callC (f := F_L_chance) (a := [.inl _, .inl _]) (rest := [.inl 0, .inr (.inl 102)]) (ci := 11) 7 1 6 (by decide +kernel) C_13_64 W_X11_chance I_X11_chance S_X11_chance rfl rfl rfl rfl rfl (R_X11_chance l _ _ _ h) ?_ ?_
    · rintro E S1 ⟨rfl, hq⟩
      exact ⟨1, zok1, ⟨13, 18, 0, 10, Or.inl ⟨_, rfl⟩, ⟨by decide, by decide⟩, by decide, cN, caN, ⟨rfl, 1, rfl, Or.inr ⟨4, by decide, by decide +kernel, by decide +kernel, by decide +kernel⟩⟩⟩, hq⟩
    · intro v S1 hv
      rcases v with _ | w | c | w
      · exact hv.elim
      · refine zwq_okN (Z_L_chance l) [] (fun _ _ _ _ _ _ h => h) 60 (Z_L_chance l) ?_
        exact ⟨0, ⟨rfl, by decide⟩, hv⟩
      · exact hv.elim
      · exact hv.elim
  · exact h.elim
def U_L_round : List (Nat × zE) := [(0, Sum.inl (4, 4, 0, 0, 2, [])), (2, Sum.inl (0, 0, 0, 0, 3, [])), (3, Sum.inl (4, 0, 0, 0, 4, [])), (4, Sum.inl (2, 1, 0, 0, 5, [])), (5, Sum.inl (2, 2, 0, 0, 6, [])), (6, Sum.inl (2, 3, 0, 0, 7, [])), (10, Sum.inl (10, 0, 0, 0, 11, [])), (11, Sum.inl (25, 0, 0, 0, 12, [])), (12, Sum.inl (15, 0, 0, 0, 23, [])), (15, Sum.inl (7, 5, 0, 0, 17, [])), (17, Sum.inl (0, 0, 0, 1, 18, [])), (18, Sum.inl (27, 0, 0, 0, 19, [])), (19, Sum.inl (7, 5, 0, 0, 21, [])), (21, Sum.inl (0, 0, 0, 2, 22, [])), (22, Sum.inl (27, 0, 0, 0, 23, [])), (23, Sum.inl (0, 0, 0, 0, 24, [])), (24, Sum.inl (27, 0, 0, 0, 25, []))]
theorem Z_L_round (l : Launch) : ∀ q ∈ U_L_round, zTok l orcN F_L_round q ∧ ∃ e, q.2 = .inl e := fun q hq => ⟨zU_ok (T := T_L_round) (B := []) rfl rfl rfl K_L_round (fun _ h => by cases h) q hq, by
  have h : ∀ q ∈ U_L_round, q.2.isLeft = true := by decide +kernel
  have h := h q hq
  cases hq2 : q.2 with
  | inl e => exact ⟨e, rfl⟩
  | inr e => rw [hq2] at h; cases h⟩
def wp_L_round (a : List zV) (S : zS) (K : zR2 → zS → Prop) : Prop := match a with
  | [.inr (.inl c), .inl x0, .inl x1, .inl x2, .inr (.inl o)] => (c = 0 ∧ o = 102) ∧ wp_X11_round [.inr (.inl 0), .inl x0, .inl x1, .inl x2] S (hpB K)
  | _ => False
theorem R_L_round (l : Launch) (a : List zV) (S : zS) (Q : zR2 → zS → Prop) (h : wp_L_round a S Q) : zRs l 8 1 6 yL_round (.codeWith yL_round cL_round 6 (some .int) [(0, 12, 15, 18), (0, 12, 19, 13)]) a S Q := by
  unfold wp_L_round at h
  split at h
  · obtain ⟨⟨rfl, rfl⟩, h⟩ := h
    refine zRs_ofH 13 (by decide) rfl rfl ?_
    refine zwq_okN (Z_L_round l) [] (fun _ _ _ _ _ _ h => h) 60 (Z_L_round l) ?_
    refine zGs_callC (f := F_L_round) (a := [.inl _, .inl _, .inl _]) (rest := [.inl 0, .inr (.inl 102)]) (ci := 11) 7 1 6 (by decide +kernel) C_13_67 W_X11_round I_X11_round S_X11_round rfl rfl rfl rfl rfl (R_X11_round l _ _ _ h) ?_ ?_
    · rintro E S1 (⟨rfl, hq⟩ | ⟨rfl, hq⟩)
      · exact ⟨1, zok1, ⟨15, 18, 0, 12, Or.inl ⟨_, rfl⟩, ⟨by decide, by decide⟩, by decide, cN, caN, ⟨rfl, 1, rfl, Or.inr ⟨5, by decide, by decide +kernel, by decide +kernel, by decide +kernel⟩⟩⟩, hq⟩
      · exact ⟨2, zok2, ⟨19, 13, 0, 12, Or.inr ⟨0, 12, 15, 18, _, rfl, ⟨by decide, by decide⟩, by decide, cN, rfl⟩, ⟨by decide, by decide⟩, by decide, cI, caI, ⟨rfl, 2, rfl, Or.inr ⟨5, by decide, by decide +kernel, by decide +kernel, by decide +kernel⟩⟩⟩, hq⟩
    · intro v S1 hv
      rcases v with _ | w | c | w
      · exact hv.elim
      · refine zwq_okN (Z_L_round l) [] (fun _ _ _ _ _ _ h => h) 60 (Z_L_round l) ?_
        exact ⟨0, ⟨rfl, by decide⟩, hv⟩
      · exact hv.elim
      · exact hv.elim
  · exact h.elim
def U_L_path : List (Nat × zE) := [(0, Sum.inl (4, 3, 0, 0, 1, [])), (1, Sum.inl (0, 0, 0, 0, 2, [])), (2, Sum.inl (4, 0, 0, 0, 3, [])), (3, Sum.inl (2, 1, 0, 0, 4, [])), (4, Sum.inl (2, 2, 0, 0, 5, [])), (8, Sum.inl (10, 0, 0, 0, 9, [])), (9, Sum.inl (25, 0, 0, 0, 10, [])), (10, Sum.inl (15, 0, 0, 0, 17, [])), (13, Sum.inl (7, 4, 0, 0, 15, [])), (15, Sum.inl (0, 0, 0, 1, 16, [])), (16, Sum.inl (27, 0, 0, 0, 17, [])), (17, Sum.inl (0, 0, 0, 0, 18, [])), (18, Sum.inl (27, 0, 0, 0, 19, []))]
theorem Z_L_path (l : Launch) : ∀ q ∈ U_L_path, zTok l orcN F_L_path q ∧ ∃ e, q.2 = .inl e := fun q hq => ⟨zU_ok (T := T_L_path) (B := []) rfl rfl rfl K_L_path (fun _ h => by cases h) q hq, by
  have h : ∀ q ∈ U_L_path, q.2.isLeft = true := by decide +kernel
  have h := h q hq
  cases hq2 : q.2 with
  | inl e => exact ⟨e, rfl⟩
  | inr e => rw [hq2] at h; cases h⟩
def wp_L_path (a : List zV) (S : zS) (K : zR2 → zS → Prop) : Prop := match a with
  | [.inr (.inl c), .inl x0, .inl x1, .inr (.inl o)] => (c = 0 ∧ o = 102) ∧ wp_X11_path [.inr (.inl 0), .inl x0, .inl x1] S (hpN K)
  | _ => False
theorem R_L_path (l : Launch) (a : List zV) (S : zS) (Q : zR2 → zS → Prop) (h : wp_L_path a S Q) : zRs l 8 1 6 yL_path (.codeWith yL_path cL_path 5 (some .int) [(0, 10, 13, 18)]) a S Q := by
  unfold wp_L_path at h
  split at h
  · obtain ⟨⟨rfl, rfl⟩, h⟩ := h
    refine zRs_ofH 13 (by decide) rfl rfl ?_
    refine zwq_okN (Z_L_path l) [] (fun _ _ _ _ _ _ h => h) 60 (Z_L_path l) ?_
    refine zGs_callC (f := F_L_path) (a := [.inl _, .inl _]) (rest := [.inl 0, .inr (.inl 102)]) (ci := 11) 7 1 6 (by decide +kernel) C_13_70 W_X11_path I_X11_path S_X11_path rfl rfl rfl rfl rfl (R_X11_path l _ _ _ h) ?_ ?_
    · rintro E S1 ⟨rfl, hq⟩
      exact ⟨1, zok1, ⟨13, 18, 0, 10, Or.inl ⟨_, rfl⟩, ⟨by decide, by decide⟩, by decide, cN, caN, ⟨rfl, 1, rfl, Or.inr ⟨4, by decide, by decide +kernel, by decide +kernel, by decide +kernel⟩⟩⟩, hq⟩
    · intro v S1 hv
      rcases v with _ | w | c | w
      · exact hv.elim
      · refine zwq_okN (Z_L_path l) [] (fun _ _ _ _ _ _ h => h) 60 (Z_L_path l) ?_
        exact ⟨0, ⟨rfl, by decide⟩, hv⟩
      · exact hv.elim
      · exact hv.elim
  · exact h.elim
def U_L_rests : List (Nat × zE) := [(0, Sum.inl (4, 4, 0, 0, 2, [])), (2, Sum.inl (0, 0, 0, 0, 3, [])), (3, Sum.inl (4, 0, 0, 0, 4, [])), (4, Sum.inl (2, 1, 0, 0, 5, [])), (5, Sum.inl (2, 2, 0, 0, 6, [])), (6, Sum.inl (2, 3, 0, 0, 7, [])), (10, Sum.inl (10, 0, 0, 0, 11, [])), (11, Sum.inl (25, 0, 0, 0, 12, [])), (12, Sum.inl (15, 0, 0, 0, 23, [])), (15, Sum.inl (7, 5, 0, 0, 17, [])), (17, Sum.inl (0, 0, 0, 1, 18, [])), (18, Sum.inl (27, 0, 0, 0, 19, [])), (19, Sum.inl (7, 5, 0, 0, 21, [])), (21, Sum.inl (0, 0, 0, 2, 22, [])), (22, Sum.inl (27, 0, 0, 0, 23, [])), (23, Sum.inl (0, 0, 0, 0, 24, [])), (24, Sum.inl (27, 0, 0, 0, 25, []))]
theorem Z_L_rests (l : Launch) : ∀ q ∈ U_L_rests, zTok l orcN F_L_rests q ∧ ∃ e, q.2 = .inl e := fun q hq => ⟨zU_ok (T := T_L_rests) (B := []) rfl rfl rfl K_L_rests (fun _ h => by cases h) q hq, by
  have h : ∀ q ∈ U_L_rests, q.2.isLeft = true := by decide +kernel
  have h := h q hq
  cases hq2 : q.2 with
  | inl e => exact ⟨e, rfl⟩
  | inr e => rw [hq2] at h; cases h⟩
def wp_L_rests (a : List zV) (S : zS) (K : zR2 → zS → Prop) : Prop := match a with
  | [.inr (.inl c), .inl x0, .inl x1, .inl x2, .inr (.inl o)] => (c = 0 ∧ o = 102) ∧ wp_X11_rests [.inr (.inl 0), .inl x0, .inl x1, .inl x2] S (hpB K)
  | _ => False
theorem R_L_rests (l : Launch) (a : List zV) (S : zS) (Q : zR2 → zS → Prop) (h : wp_L_rests a S Q) : zRs l 8 1 6 yL_rests (.codeWith yL_rests cL_rests 6 (some .int) [(0, 12, 15, 18), (0, 12, 19, 13)]) a S Q := by
  unfold wp_L_rests at h
  split at h
  · obtain ⟨⟨rfl, rfl⟩, h⟩ := h
    refine zRs_ofH 13 (by decide) rfl rfl ?_
    refine zwq_okN (Z_L_rests l) [] (fun _ _ _ _ _ _ h => h) 60 (Z_L_rests l) ?_
    refine zGs_callC (f := F_L_rests) (a := [.inl _, .inl _, .inl _]) (rest := [.inl 0, .inr (.inl 102)]) (ci := 11) 7 1 6 (by decide +kernel) C_13_73 W_X11_rests I_X11_rests S_X11_rests rfl rfl rfl rfl rfl (R_X11_rests l _ _ _ h) ?_ ?_
    · rintro E S1 (⟨rfl, hq⟩ | ⟨rfl, hq⟩)
      · exact ⟨1, zok1, ⟨15, 18, 0, 12, Or.inl ⟨_, rfl⟩, ⟨by decide, by decide⟩, by decide, cN, caN, ⟨rfl, 1, rfl, Or.inr ⟨5, by decide, by decide +kernel, by decide +kernel, by decide +kernel⟩⟩⟩, hq⟩
      · exact ⟨2, zok2, ⟨19, 13, 0, 12, Or.inr ⟨0, 12, 15, 18, _, rfl, ⟨by decide, by decide⟩, by decide, cN, rfl⟩, ⟨by decide, by decide⟩, by decide, cI, caI, ⟨rfl, 2, rfl, Or.inr ⟨5, by decide, by decide +kernel, by decide +kernel, by decide +kernel⟩⟩⟩, hq⟩
    · intro v S1 hv
      rcases v with _ | w | c | w
      · exact hv.elim
      · refine zwq_okN (Z_L_rests l) [] (fun _ _ _ _ _ _ h => h) 60 (Z_L_rests l) ?_
        exact ⟨0, ⟨rfl, by decide⟩, hv⟩
      · exact hv.elim
      · exact hv.elim
  · exact h.elim
def U_L_fewest : List (Nat × zE) := [(0, Sum.inl (4, 3, 0, 0, 1, [])), (1, Sum.inl (0, 0, 0, 0, 2, [])), (2, Sum.inl (4, 0, 0, 0, 3, [])), (3, Sum.inl (2, 1, 0, 0, 4, [])), (4, Sum.inl (2, 2, 0, 0, 5, [])), (8, Sum.inl (10, 0, 0, 0, 9, [])), (9, Sum.inl (25, 0, 0, 0, 10, [])), (10, Sum.inl (15, 0, 0, 0, 17, [])), (13, Sum.inl (7, 4, 0, 0, 15, [])), (15, Sum.inl (0, 0, 0, 1, 16, [])), (16, Sum.inl (27, 0, 0, 0, 17, [])), (17, Sum.inl (0, 0, 0, 0, 18, [])), (18, Sum.inl (27, 0, 0, 0, 19, []))]
theorem Z_L_fewest (l : Launch) : ∀ q ∈ U_L_fewest, zTok l orcN F_L_fewest q ∧ ∃ e, q.2 = .inl e := fun q hq => ⟨zU_ok (T := T_L_fewest) (B := []) rfl rfl rfl K_L_fewest (fun _ h => by cases h) q hq, by
  have h : ∀ q ∈ U_L_fewest, q.2.isLeft = true := by decide +kernel
  have h := h q hq
  cases hq2 : q.2 with
  | inl e => exact ⟨e, rfl⟩
  | inr e => rw [hq2] at h; cases h⟩
def wp_L_fewest (a : List zV) (S : zS) (K : zR2 → zS → Prop) : Prop := match a with
  | [.inr (.inl c), .inl x0, .inl x1, .inr (.inl o)] => (c = 0 ∧ o = 102) ∧ wp_X11_fewest [.inr (.inl 0), .inl x0, .inl x1] S (hpA K)
  | _ => False
theorem R_L_fewest (l : Launch) (a : List zV) (S : zS) (Q : zR2 → zS → Prop) (h : wp_L_fewest a S Q) : zRs l 7 1 6 yL_fewest (.codeWith yL_fewest cL_fewest 5 (some .int) [(0, 10, 13, 13)]) a S Q := by
  unfold wp_L_fewest at h
  split at h
  · obtain ⟨⟨rfl, rfl⟩, h⟩ := h
    refine zRs_ofH 13 (by decide) rfl rfl ?_
    refine zwq_okN (Z_L_fewest l) [] (fun _ _ _ _ _ _ h => h) 60 (Z_L_fewest l) ?_
    refine zGs_callC (f := F_L_fewest) (a := [.inl _, .inl _]) (rest := [.inl 0, .inr (.inl 102)]) (ci := 11) 6 1 6 (by decide +kernel) C_13_76 W_X11_fewest I_X11_fewest S_X11_fewest rfl rfl rfl rfl rfl (R_X11_fewest l _ _ _ h) ?_ ?_
    · rintro E S1 ⟨rfl, hq⟩
      exact ⟨1, zok1, ⟨13, 13, 0, 10, Or.inl ⟨_, rfl⟩, ⟨by decide, by decide⟩, by decide, cI, caI, ⟨rfl, 1, rfl, Or.inr ⟨4, by decide, by decide +kernel, by decide +kernel, by decide +kernel⟩⟩⟩, hq⟩
    · intro v S1 hv
      rcases v with _ | w | c | w
      · exact hv.elim
      · refine zwq_okN (Z_L_fewest l) [] (fun _ _ _ _ _ _ h => h) 60 (Z_L_fewest l) ?_
        exact ⟨0, ⟨rfl, by decide⟩, hv⟩
      · exact hv.elim
      · exact hv.elim
  · exact h.elim
def U_L_lender : List (Nat × zE) := [(0, Sum.inl (4, 2, 0, 0, 1, [])), (1, Sum.inl (0, 0, 0, 0, 2, [])), (2, Sum.inl (4, 0, 0, 0, 3, [])), (3, Sum.inl (2, 1, 0, 0, 4, [])), (7, Sum.inl (10, 0, 0, 0, 8, [])), (8, Sum.inl (25, 0, 0, 0, 9, [])), (9, Sum.inl (15, 0, 0, 0, 15, [])), (12, Sum.inl (7, 3, 0, 0, 13, [])), (13, Sum.inl (0, 0, 0, 1, 14, [])), (14, Sum.inl (27, 0, 0, 0, 15, [])), (15, Sum.inl (0, 0, 0, 0, 16, [])), (16, Sum.inl (27, 0, 0, 0, 17, []))]
theorem Z_L_lender (l : Launch) : ∀ q ∈ U_L_lender, zTok l orcN F_L_lender q ∧ ∃ e, q.2 = .inl e := fun q hq => ⟨zU_ok (T := T_L_lender) (B := []) rfl rfl rfl K_L_lender (fun _ h => by cases h) q hq, by
  have h : ∀ q ∈ U_L_lender, q.2.isLeft = true := by decide +kernel
  have h := h q hq
  cases hq2 : q.2 with
  | inl e => exact ⟨e, rfl⟩
  | inr e => rw [hq2] at h; cases h⟩
def wp_L_lender (a : List zV) (S : zS) (K : zR2 → zS → Prop) : Prop := match a with
  | [.inr (.inl c), .inl x0, .inr (.inl o)] => (c = 0 ∧ o = 102) ∧ wp_X11_lender [.inr (.inl 0), .inl x0] S (hpN K)
  | _ => False
theorem R_L_lender (l : Launch) (a : List zV) (S : zS) (Q : zR2 → zS → Prop) (h : wp_L_lender a S Q) : zRs l 8 1 6 yL_lender (.codeWith yL_lender cL_lender 4 (some .int) [(0, 9, 12, 18)]) a S Q := by
  unfold wp_L_lender at h
  split at h
  · obtain ⟨⟨rfl, rfl⟩, h⟩ := h
    refine zRs_ofH 13 (by decide) rfl rfl ?_
    refine zwq_okN (Z_L_lender l) [] (fun _ _ _ _ _ _ h => h) 60 (Z_L_lender l) ?_
    refine zGs_callC (f := F_L_lender) (a := [.inl _]) (rest := [.inl 0, .inr (.inl 102)]) (ci := 11) 7 1 6 (by decide +kernel) C_13_79 W_X11_lender I_X11_lender S_X11_lender rfl rfl rfl rfl rfl (R_X11_lender l _ _ _ h) ?_ ?_
    · rintro E S1 ⟨rfl, hq⟩
      exact ⟨1, zok1, ⟨12, 18, 0, 9, Or.inl ⟨_, rfl⟩, ⟨by decide, by decide⟩, by decide, cN, caN, ⟨rfl, 1, rfl, Or.inl ⟨3, by decide, by decide +kernel, by decide +kernel, by decide +kernel⟩⟩⟩, hq⟩
    · intro v S1 hv
      rcases v with _ | w | c | w
      · exact hv.elim
      · refine zwq_okN (Z_L_lender l) [] (fun _ _ _ _ _ _ h => h) 60 (Z_L_lender l) ?_
        exact ⟨0, ⟨rfl, by decide⟩, hv⟩
      · exact hv.elim
      · exact hv.elim
  · exact h.elim
def U_L_kinds : List (Nat × zE) := [(0, Sum.inl (4, 3, 0, 0, 1, [])), (1, Sum.inl (0, 0, 0, 0, 2, [])), (2, Sum.inl (4, 0, 0, 0, 3, [])), (3, Sum.inl (2, 1, 0, 0, 4, [])), (4, Sum.inl (2, 2, 0, 0, 5, [])), (8, Sum.inl (10, 0, 0, 0, 9, [])), (9, Sum.inl (25, 0, 0, 0, 10, [])), (10, Sum.inl (15, 0, 0, 0, 17, [])), (13, Sum.inl (7, 4, 0, 0, 15, [])), (15, Sum.inl (0, 0, 0, 1, 16, [])), (16, Sum.inl (27, 0, 0, 0, 17, [])), (17, Sum.inl (0, 0, 0, 0, 18, [])), (18, Sum.inl (27, 0, 0, 0, 19, []))]
theorem Z_L_kinds (l : Launch) : ∀ q ∈ U_L_kinds, zTok l orcN F_L_kinds q ∧ ∃ e, q.2 = .inl e := fun q hq => ⟨zU_ok (T := T_L_kinds) (B := []) rfl rfl rfl K_L_kinds (fun _ h => by cases h) q hq, by
  have h : ∀ q ∈ U_L_kinds, q.2.isLeft = true := by decide +kernel
  have h := h q hq
  cases hq2 : q.2 with
  | inl e => exact ⟨e, rfl⟩
  | inr e => rw [hq2] at h; cases h⟩
def wp_L_kinds (a : List zV) (S : zS) (K : zR2 → zS → Prop) : Prop := match a with
  | [.inr (.inl c), .inl x0, .inl x1, .inr (.inl o)] => (c = 0 ∧ o = 102) ∧ wp_X11_kinds [.inr (.inl 0), .inl x0, .inl x1] S (hpA K)
  | _ => False
theorem R_L_kinds (l : Launch) (a : List zV) (S : zS) (Q : zR2 → zS → Prop) (h : wp_L_kinds a S Q) : zRs l 8 1 6 yL_kinds (.codeWith yL_kinds cL_kinds 5 (some .int) [(0, 10, 13, 13)]) a S Q := by
  unfold wp_L_kinds at h
  split at h
  · obtain ⟨⟨rfl, rfl⟩, h⟩ := h
    refine zRs_ofH 13 (by decide) rfl rfl ?_
    refine zwq_okN (Z_L_kinds l) [] (fun _ _ _ _ _ _ h => h) 60 (Z_L_kinds l) ?_
    refine zGs_callC (f := F_L_kinds) (a := [.inl _, .inl _]) (rest := [.inl 0, .inr (.inl 102)]) (ci := 11) 7 1 6 (by decide +kernel) C_13_82 W_X11_kinds I_X11_kinds S_X11_kinds rfl rfl rfl rfl rfl (R_X11_kinds l _ _ _ h) ?_ ?_
    · rintro E S1 ⟨rfl, hq⟩
      exact ⟨1, zok1, ⟨13, 13, 0, 10, Or.inl ⟨_, rfl⟩, ⟨by decide, by decide⟩, by decide, cI, caI, ⟨rfl, 1, rfl, Or.inr ⟨4, by decide, by decide +kernel, by decide +kernel, by decide +kernel⟩⟩⟩, hq⟩
    · intro v S1 hv
      rcases v with _ | w | c | w
      · exact hv.elim
      · refine zwq_okN (Z_L_kinds l) [] (fun _ _ _ _ _ _ h => h) 60 (Z_L_kinds l) ?_
        exact ⟨0, ⟨rfl, by decide⟩, hv⟩
      · exact hv.elim
      · exact hv.elim
  · exact h.elim
def U_L_word : List (Nat × zE) := [(0, Sum.inl (4, 3, 0, 0, 1, [])), (1, Sum.inl (0, 0, 0, 0, 2, [])), (2, Sum.inl (4, 0, 0, 0, 3, [])), (3, Sum.inl (2, 1, 0, 0, 4, [])), (4, Sum.inl (2, 2, 0, 0, 5, [])), (8, Sum.inl (10, 0, 0, 0, 9, [])), (9, Sum.inl (25, 0, 0, 0, 10, [])), (10, Sum.inl (15, 0, 0, 0, 21, [])), (13, Sum.inl (7, 4, 0, 0, 15, [])), (15, Sum.inl (0, 0, 0, 1, 16, [])), (16, Sum.inl (27, 0, 0, 0, 17, [])), (17, Sum.inl (7, 4, 0, 0, 19, [])), (19, Sum.inl (0, 0, 0, 2, 20, [])), (20, Sum.inl (27, 0, 0, 0, 21, [])), (21, Sum.inl (0, 0, 0, 0, 22, [])), (22, Sum.inl (27, 0, 0, 0, 23, []))]
theorem Z_L_word (l : Launch) : ∀ q ∈ U_L_word, zTok l orcN F_L_word q ∧ ∃ e, q.2 = .inl e := fun q hq => ⟨zU_ok (T := T_L_word) (B := []) rfl rfl rfl K_L_word (fun _ h => by cases h) q hq, by
  have h : ∀ q ∈ U_L_word, q.2.isLeft = true := by decide +kernel
  have h := h q hq
  cases hq2 : q.2 with
  | inl e => exact ⟨e, rfl⟩
  | inr e => rw [hq2] at h; cases h⟩
def wp_L_word (a : List zV) (S : zS) (K : zR2 → zS → Prop) : Prop := match a with
  | [.inr (.inl c), .inl x0, .inl x1, .inr (.inl o)] => (c = 0 ∧ o = 102) ∧ wp_X11_word [.inr (.inl 0), .inl x0, .inl x1] S (hpB K)
  | _ => False
theorem R_L_word (l : Launch) (a : List zV) (S : zS) (Q : zR2 → zS → Prop) (h : wp_L_word a S Q) : zRs l 8 1 6 yL_word (.codeWith yL_word cL_word 5 (some .int) [(0, 10, 13, 18), (0, 10, 17, 13)]) a S Q := by
  unfold wp_L_word at h
  split at h
  · obtain ⟨⟨rfl, rfl⟩, h⟩ := h
    refine zRs_ofH 13 (by decide) rfl rfl ?_
    refine zwq_okN (Z_L_word l) [] (fun _ _ _ _ _ _ h => h) 60 (Z_L_word l) ?_
    refine zGs_callC (f := F_L_word) (a := [.inl _, .inl _]) (rest := [.inl 0, .inr (.inl 102)]) (ci := 11) 7 1 6 (by decide +kernel) C_13_85 W_X11_word I_X11_word S_X11_word rfl rfl rfl rfl rfl (R_X11_word l _ _ _ h) ?_ ?_
    · rintro E S1 (⟨rfl, hq⟩ | ⟨rfl, hq⟩)
      · exact ⟨1, zok1, ⟨13, 18, 0, 10, Or.inl ⟨_, rfl⟩, ⟨by decide, by decide⟩, by decide, cN, caN, ⟨rfl, 1, rfl, Or.inr ⟨4, by decide, by decide +kernel, by decide +kernel, by decide +kernel⟩⟩⟩, hq⟩
      · exact ⟨2, zok2, ⟨17, 13, 0, 10, Or.inr ⟨0, 10, 13, 18, _, rfl, ⟨by decide, by decide⟩, by decide, cN, rfl⟩, ⟨by decide, by decide⟩, by decide, cI, caI, ⟨rfl, 2, rfl, Or.inr ⟨4, by decide, by decide +kernel, by decide +kernel, by decide +kernel⟩⟩⟩, hq⟩
    · intro v S1 hv
      rcases v with _ | w | c | w
      · exact hv.elim
      · refine zwq_okN (Z_L_word l) [] (fun _ _ _ _ _ _ h => h) 60 (Z_L_word l) ?_
        exact ⟨0, ⟨rfl, by decide⟩, hv⟩
      · exact hv.elim
      · exact hv.elim
  · exact h.elim
def U_L_mend : List (Nat × zE) := [(0, Sum.inl (4, 4, 0, 0, 2, [])), (2, Sum.inl (0, 0, 0, 0, 3, [])), (3, Sum.inl (4, 0, 0, 0, 4, [])), (4, Sum.inl (2, 1, 0, 0, 5, [])), (5, Sum.inl (2, 2, 0, 0, 6, [])), (6, Sum.inl (2, 3, 0, 0, 7, [])), (10, Sum.inl (10, 0, 0, 0, 11, [])), (11, Sum.inl (25, 0, 0, 0, 12, [])), (12, Sum.inl (15, 0, 0, 0, 19, [])), (15, Sum.inl (7, 5, 0, 0, 17, [])), (17, Sum.inl (0, 0, 0, 1, 18, [])), (18, Sum.inl (27, 0, 0, 0, 19, [])), (19, Sum.inl (0, 0, 0, 0, 20, [])), (20, Sum.inl (27, 0, 0, 0, 21, []))]
theorem Z_L_mend (l : Launch) : ∀ q ∈ U_L_mend, zTok l orcN F_L_mend q ∧ ∃ e, q.2 = .inl e := fun q hq => ⟨zU_ok (T := T_L_mend) (B := []) rfl rfl rfl K_L_mend (fun _ h => by cases h) q hq, by
  have h : ∀ q ∈ U_L_mend, q.2.isLeft = true := by decide +kernel
  have h := h q hq
  cases hq2 : q.2 with
  | inl e => exact ⟨e, rfl⟩
  | inr e => rw [hq2] at h; cases h⟩
def wp_L_mend (a : List zV) (S : zS) (K : zR2 → zS → Prop) : Prop := match a with
  | [.inr (.inl c), .inl x0, .inl x1, .inl x2, .inr (.inl o)] => (c = 0 ∧ o = 102) ∧ wp_X11_mend [.inr (.inl 0), .inl x0, .inl x1, .inl x2] S (hpA K)
  | _ => False
theorem R_L_mend (l : Launch) (a : List zV) (S : zS) (Q : zR2 → zS → Prop) (h : wp_L_mend a S Q) : zRs l 8 1 6 yL_mend (.codeWith yL_mend cL_mend 6 (some .int) [(0, 12, 15, 13)]) a S Q := by
  unfold wp_L_mend at h
  split at h
  · obtain ⟨⟨rfl, rfl⟩, h⟩ := h
    refine zRs_ofH 13 (by decide) rfl rfl ?_
    refine zwq_okN (Z_L_mend l) [] (fun _ _ _ _ _ _ h => h) 60 (Z_L_mend l) ?_
    refine zGs_callC (f := F_L_mend) (a := [.inl _, .inl _, .inl _]) (rest := [.inl 0, .inr (.inl 102)]) (ci := 11) 7 1 6 (by decide +kernel) C_13_88 W_X11_mend I_X11_mend S_X11_mend rfl rfl rfl rfl rfl (R_X11_mend l _ _ _ h) ?_ ?_
    · rintro E S1 ⟨rfl, hq⟩
      exact ⟨1, zok1, ⟨15, 13, 0, 12, Or.inl ⟨_, rfl⟩, ⟨by decide, by decide⟩, by decide, cI, caI, ⟨rfl, 1, rfl, Or.inr ⟨5, by decide, by decide +kernel, by decide +kernel, by decide +kernel⟩⟩⟩, hq⟩
    · intro v S1 hv
      rcases v with _ | w | c | w
      · exact hv.elim
      · refine zwq_okN (Z_L_mend l) [] (fun _ _ _ _ _ _ h => h) 60 (Z_L_mend l) ?_
        exact ⟨0, ⟨rfl, by decide⟩, hv⟩
      · exact hv.elim
      · exact hv.elim
  · exact h.elim
def U_L_fire : List (Nat × zE) := [(0, Sum.inl (4, 6, 0, 0, 2, [])), (2, Sum.inl (0, 0, 0, 0, 3, [])), (3, Sum.inl (4, 0, 0, 0, 4, [])), (4, Sum.inl (2, 1, 0, 0, 5, [])), (5, Sum.inl (2, 2, 0, 0, 6, [])), (6, Sum.inl (2, 3, 0, 0, 7, [])), (7, Sum.inl (2, 4, 0, 0, 9, [])), (9, Sum.inl (2, 5, 0, 0, 11, [])), (14, Sum.inl (25, 0, 0, 0, 15, [])), (15, Sum.inl (15, 0, 0, 0, 26, [])), (18, Sum.inl (7, 7, 0, 0, 20, [])), (20, Sum.inl (0, 0, 0, 1, 21, [])), (21, Sum.inl (27, 0, 0, 0, 22, [])), (22, Sum.inl (7, 7, 0, 0, 24, [])), (24, Sum.inl (0, 0, 0, 2, 25, [])), (25, Sum.inl (27, 0, 0, 0, 26, [])), (26, Sum.inl (0, 0, 0, 0, 27, [])), (27, Sum.inl (27, 0, 0, 0, 28, []))]
theorem Z_L_fire (l : Launch) : ∀ q ∈ U_L_fire, zTok l orcN F_L_fire q ∧ ∃ e, q.2 = .inl e := fun q hq => ⟨zU_ok (T := T_L_fire) (B := []) rfl rfl rfl K_L_fire (fun _ h => by cases h) q hq, by
  have h : ∀ q ∈ U_L_fire, q.2.isLeft = true := by decide +kernel
  have h := h q hq
  cases hq2 : q.2 with
  | inl e => exact ⟨e, rfl⟩
  | inr e => rw [hq2] at h; cases h⟩
def wp_L_fire (a : List zV) (S : zS) (K : zR2 → zS → Prop) : Prop := match a with
  | [.inr (.inl c), .inl x0, .inl x1, .inl x2, .inl x3, .inl x4, .inr (.inl o)] => (c = 0 ∧ o = 102) ∧ wp_X11_fire [.inr (.inl 0), .inl x0, .inl x1, .inl x2, .inl x3, .inl x4] S (hpF K)
  | _ => False
theorem R_L_fire (l : Launch) (a : List zV) (S : zS) (Q : zR2 → zS → Prop) (h : wp_L_fire a S Q) : zRs l 8 1 6 yL_fire (.codeWith yL_fire cL_fire 8 (some .int) [(0, 15, 18, 18), (0, 15, 22, 13)]) a S Q := by
  unfold wp_L_fire at h
  split at h
  · obtain ⟨⟨rfl, rfl⟩, h⟩ := h
    refine zRs_ofH 13 (by decide) rfl rfl ?_
    refine zwq_okN (Z_L_fire l) [] (fun _ _ _ _ _ _ h => h) 60 (Z_L_fire l) ?_
    refine zGs_callC (f := F_L_fire) (a := [.inl _, .inl _, .inl _, .inl _, .inl _]) (rest := [.inl 0, .inr (.inl 102)]) (ci := 11) 7 1 6 (by decide +kernel) C_13_91 W_X11_fire I_X11_fire S_X11_fire rfl rfl rfl rfl rfl (R_X11_fire l _ _ _ h) ?_ ?_
    · rintro E S1 (⟨rfl, hq⟩ | ⟨rfl, hq⟩)
      · exact ⟨1, zok1, ⟨18, 18, 0, 15, Or.inl ⟨_, rfl⟩, ⟨by decide, by decide⟩, by decide, cN, caN, ⟨rfl, 1, rfl, Or.inr ⟨7, by decide, by decide +kernel, by decide +kernel, by decide +kernel⟩⟩⟩, hq⟩
      · exact ⟨2, zok2, ⟨22, 13, 0, 15, Or.inr ⟨0, 15, 18, 18, _, rfl, ⟨by decide, by decide⟩, by decide, cN, rfl⟩, ⟨by decide, by decide⟩, by decide, cI, caI, ⟨rfl, 2, rfl, Or.inr ⟨7, by decide, by decide +kernel, by decide +kernel, by decide +kernel⟩⟩⟩, hq⟩
    · intro v S1 hv
      rcases v with _ | w | c | w
      · exact hv.elim
      · exact hv.elim
      · exact hv.elim
      · refine zwq_okN (Z_L_fire l) [] (fun _ _ _ _ _ _ h => h) 60 (Z_L_fire l) ?_
        exact ⟨0, ⟨rfl, by decide⟩, hv⟩
  · exact h.elim
