/-! misled: the class's answer; the same as all doors' turns -/
def flS (ml : Nat → Bool) : Nat → Nat → Int → Int
  | 0, _, b => b
  | f + 1, s, b => if (b = -1 ∨ (bl s).length < (bl b.toNat).length) ∧ ml s = true then flS ml f (s + 1) (s : Int) else flS ml f (s + 1) b
def flD (D : zD) (t r : Nat) : Int := flS (mlC D t r) (2 ^ dL D) 0 (-1)
theorem flS_ge {ml : Nat → Bool} {n : Nat} : ∀ (f s : Nat) (b : Int), s + f = n → (b = -1 ∨ (0 ≤ b ∧ b < n)) → flS ml f s b = -1 ∨ (0 ≤ flS ml f s b ∧ flS ml f s b < n) := by
  intro f
  induction f with
  | zero => intro s b _ h; exact h
  | succ f ih =>
    intro s b hs h
    show (if (b = -1 ∨ (bl s).length < (bl b.toNat).length) ∧ ml s = true then flS ml f (s + 1) (s : Int) else flS ml f (s + 1) b) = -1 ∨ (0 ≤ (if (b = -1 ∨ (bl s).length < (bl b.toNat).length) ∧ ml s = true then flS ml f (s + 1) (s : Int) else flS ml f (s + 1) b) ∧ (if (b = -1 ∨ (bl s).length < (bl b.toNat).length) ∧ ml s = true then flS ml f (s + 1) (s : Int) else flS ml f (s + 1) b) < n)
    split
    · exact ih (s + 1) s (by omega) (by omega)
    · exact ih (s + 1) b (by omega) h
theorem two_L {D : zD} (hD : dOK D) : 2 ^ dL D ≤ 64 := by
  have : 2 ^ dL D ≤ 2 ^ 6 := Nat.pow_le_pow_right (by decide) hD.lodgers
  omega
def B_X2_fewestLiars : List (Nat × zC) := [(2, (0, 0, 1, 2, 0, 0, 2)), (31, (1, 1, 1, 0, 0, 0, 0)), (35, (1, 1, 1, 0, 0, 0, 0)), (57, (0, 2, 2, 1, 0, 0, 2))]
def O_X2_fewestLiars : zO := fun j a S K => match j with
  | 0 => wp_X2_sortDoings a S K
  | 1 => wp_J6_bitCount_0f7a4 a S K
  | 2 => wp_X2_misleads a S K
  | _ => False
theorem E_X2_fewestLiars (l : Launch) : ∀ q ∈ B_X2_fewestLiars, zcok l O_X2_fewestLiars F_X2_fewestLiars q.1 q.2 := List.forall_mem_cons.mpr ⟨⟨30, yX2_sortDoings, cX2_sortDoings, 4, none, by decide +kernel, C_2_30, W_X2_sortDoings, I_X2_sortDoings, S_X2_sortDoings, rfl, rfl, R_X2_sortDoings l⟩, List.forall_mem_cons.mpr ⟨⟨40, yJ6_bitCount_0f7a4, cJ6_bitCount_0f7a4, 1, some .int, by decide +kernel, C_2_40, W_J6_bitCount_0f7a4, I_J6_bitCount_0f7a4, rfl, R_J6_bitCount_0f7a4 l⟩, List.forall_mem_cons.mpr ⟨⟨40, yJ6_bitCount_0f7a4, cJ6_bitCount_0f7a4, 1, some .int, by decide +kernel, C_2_40, W_J6_bitCount_0f7a4, I_J6_bitCount_0f7a4, rfl, R_J6_bitCount_0f7a4 l⟩, List.forall_mem_cons.mpr ⟨⟨46, yX2_misleads, cX2_misleads, 10, some .boolean, by decide +kernel, C_2_46, W_X2_misleads, I_X2_misleads, S_X2_misleads, rfl, rfl, R_X2_misleads l⟩, fun _ h => by cases h⟩⟩⟩⟩
def U_X2_fewestLiars : List (Nat × zE) := [(0, Sum.inl (4, 0, 0, 0, 1, [])), (1, Sum.inl (2, 2, 0, 0, 2, [])), (2, Sum.inr (0, 0, 1, 2, 0, 0, 2)), (5, Sum.inl (0, 0, 0, (-1), 6, [])), (6, Sum.inl (5, 3, 0, 0, 7, [])), (7, Sum.inl (0, 0, 0, 0, 8, [])), (8, Sum.inl (5, 4, 0, 0, 10, [])), (10, Sum.inl (2, 4, 0, 0, 12, [])), (12, Sum.inl (0, 0, 0, 1, 13, [])), (13, Sum.inl (4, 0, 0, 0, 14, [])), (14, Sum.inl (18, 2, 0, 0, 17, [])), (17, Sum.inl (18, 6, 8, 0, 20, [])), (20, Sum.inl (9, 6, 0, 0, 21, [])), (21, Sum.inl (16, 1, 24, 0, 72, [])), (24, Sum.inl (2, 3, 0, 0, 25, [])), (25, Sum.inl (0, 0, 0, (-1), 26, [])), (26, Sum.inl (16, 0, 41, 0, 29, [])), (29, Sum.inl (2, 4, 0, 0, 31, [])), (31, Sum.inr (1, 1, 1, 0, 0, 0, 0)), (34, Sum.inl (2, 3, 0, 0, 35, [])), (35, Sum.inr (1, 1, 1, 0, 0, 0, 0)), (38, Sum.inl (16, 1, 41, 0, 45, [])), (41, Sum.inl (0, 0, 0, 1, 42, [])), (42, Sum.inl (15, 0, 0, 0, 46, [])), (45, Sum.inl (0, 0, 0, 0, 46, [])), (46, Sum.inl (5, 5, 0, 0, 48, [])), (48, Sum.inl (2, 5, 0, 0, 50, [])), (50, Sum.inl (17, 0, 66, 0, 53, [])), (53, Sum.inl (4, 0, 0, 0, 54, [])), (54, Sum.inl (2, 4, 0, 0, 56, [])), (56, Sum.inl (2, 1, 0, 0, 57, [])), (57, Sum.inr (0, 2, 2, 1, 0, 0, 2)), (60, Sum.inl (17, 0, 66, 0, 63, [])), (63, Sum.inl (2, 4, 0, 0, 65, [])), (65, Sum.inl (5, 3, 0, 0, 66, [])), (66, Sum.inl (8, 4, 0, 1, 69, [])), (69, Sum.inl (15, 0, 0, 0, 10, [])), (72, Sum.inl (2, 3, 0, 0, 73, [])), (73, Sum.inl (27, 0, 0, 0, 74, []))]
theorem Z_X2_fewestLiars (l : Launch) : ∀ q ∈ U_X2_fewestLiars, zTok l O_X2_fewestLiars F_X2_fewestLiars q := zU_ok rfl rfl rfl K_X2_fewestLiars (E_X2_fewestLiars l)
def wp_X2_fewestLiars (a : List zV) (S : zS) (K : zR2 → zS → Prop) : Prop := match a with
  | [.inr (.inl c), .inl x, .inl y] => ∃ (D : zD) (t r : Nat), (c = 39 ∧ dOK D ∧ cOK S D ∧ x = (r : Int) ∧ r < dR D ∧ y = (t : Int) ∧ t < 24) ∧ ∀ S', (∀ c, c ≠ 40 → c ≠ 41 → S' c = S c) → K (.inl (some (.inl (flD D t r)))) S'
  | _ => False
theorem L_X2_fewestLiars {l : Launch} {S : zS} {Q : zR2 → zS → Prop} {D : zD} {t r : Nat} (hD : dOK D) (hC : cOK S D) (ht : t < 24) (hr : r < dR D) (hg : gdC S D t (dL D)) (f : Nat) : ∀ s b, s + f = 2 ^ dL D → (b = -1 ∨ (0 ≤ b ∧ b < 64)) → Q (.inl (some (.inl (flS (mlC D t r) f s b)))) S → zGs l 3 0 0 F_X2_fewestLiars S 10 [(0, .inr (.inl 39)), (1, .inl (r : Int)), (2, .inl (t : Int)), (3, .inl b), (4, .inl (s : Int))] [] Q := by
  have h6 := hD.lodgers
  have eL := hC.lodgers
  have h64 := two_L hD
  have e1 : zshl 1 (S 3 8) = ((2 ^ dL D : Nat) : Int) := by rw [eL]; exact zsh1_n (by omega)
  induction f with
  | zero =>
    intro s b hs hb h
    refine zwq_ok (Z_X2_fewestLiars l) rfl [10] (fun _ _ _ _ _ _ h => h) 400 (Z_X2_fewestLiars l) ?_
    refine ⟨fun c => ?_, fun c => h⟩
    rw [e1] at c
    omega
  | succ f ih =>
    intro s b hs hb h
    have h : Q (.inl (some (.inl (if (b = -1 ∨ (bl s).length < (bl b.toNat).length) ∧ mlC D t r s = true then flS (mlC D t r) f (s + 1) (s : Int) else flS (mlC D t r) f (s + 1) b)))) S := h
    have no : ¬ ((b = -1 ∨ (bl s).length < (bl b.toNat).length) ∧ mlC D t r s = true) → zGs l 3 0 0 F_X2_fewestLiars S 66 [(0, .inr (.inl 39)), (1, .inl (r : Int)), (2, .inl (t : Int)), (3, .inl b), (4, .inl (s : Int))] [] Q := fun c => by
      rw [if_neg c] at h
      have := ih (s + 1) b (by omega) hb h
      refine zwq_ok (Z_X2_fewestLiars l) rfl [10] (fun _ _ _ _ _ _ h => h) 400 (Z_X2_fewestLiars l) ?_
      exact ⟨by omega, this⟩
    have try1 : (b = -1 ∨ (bl s).length < (bl b.toNat).length) → zGs l 3 0 0 F_X2_fewestLiars S 41 [(0, .inr (.inl 39)), (1, .inl (r : Int)), (2, .inl (t : Int)), (3, .inl b), (4, .inl (s : Int))] [] Q := fun c => by
      refine zwq_ok (Z_X2_fewestLiars l) rfl [10, 66] (fun _ _ _ _ _ _ h => h) 400 (Z_X2_fewestLiars l) ?_
      refine ⟨fun c9 => absurd c9 (by decide), fun _ => ⟨D, t, r, s, ⟨rfl, hD, hC, ht, hg, rfl, by omega, rfl, hr⟩, fun c2 => ?_, fun c2 => ?_⟩⟩
      · refine zGs.sub (lo := [(0, _), (1, _), (2, _), (3, _), (4, _), (5, _)]) (no (fun z => ?_)) (fun q hq => by simp only [List.mem_cons, List.not_mem_nil, or_false] at hq; rcases hq with rfl | rfl | rfl | rfl | rfl <;> first | exact .head _ | exact .tail _ (.head _) | exact .tail _ (.tail _ (.head _)) | exact .tail _ (.tail _ (.tail _ (.head _))) | exact .tail _ (.tail _ (.tail _ (.tail _ (.head _)))) | exact .tail _ (.tail _ (.tail _ (.tail _ (.tail _ (.head _))))) | exact .tail _ (.tail _ (.tail _ (.tail _ (.tail _ (.tail _ (.head _)))))) | exact .tail _ (.tail _ (.tail _ (.tail _ (.tail _ (.tail _ (.tail _ (.head _))))))) | exact .tail _ (.tail _ (.tail _ (.tail _ (.tail _ (.tail _ (.tail _ (.tail _ (.head _)))))))) | exact .tail _ (.tail _ (.tail _ (.tail _ (.tail _ (.tail _ (.tail _ (.tail _ (.tail _ (.head _))))))))) | exact .tail _ (.tail _ (.tail _ (.tail _ (.tail _ (.tail _ (.tail _ (.tail _ (.tail _ (.tail _ (.head _)))))))))) | exact .tail _ (.tail _ (.tail _ (.tail _ (.tail _ (.tail _ (.tail _ (.tail _ (.tail _ (.tail _ (.tail _ (.head _))))))))))) | exact .tail _ (.tail _ (.tail _ (.tail _ (.tail _ (.tail _ (.tail _ (.tail _ (.tail _ (.tail _ (.tail _ (.tail _ (.head _)))))))))))) | exact .tail _ (.tail _ (.tail _ (.tail _ (.tail _ (.tail _ (.tail _ (.tail _ (.tail _ (.tail _ (.tail _ (.tail _ (.tail _ (.head _))))))))))))))
        rw [z.2] at c2
        exact absurd c2 (by decide)
      · have hm : mlC D t r s = true := by
          cases hq : mlC D t r s
          · rw [hq] at c2; exact absurd rfl c2
          · rfl
        rw [if_pos ⟨c, hm⟩] at h
        have := ih (s + 1) (s : Int) (by omega) (by omega) h
        refine zwq_ok (Z_X2_fewestLiars l) rfl [10] (fun _ _ _ _ _ _ h => h) 400 (Z_X2_fewestLiars l) ?_
        refine ⟨by omega, ?_⟩
        exact zGs.sub (lo := [(0, _), (1, _), (2, _), (3, _), (4, _), (5, _)]) this (fun q hq => by simp only [List.mem_cons, List.not_mem_nil, or_false] at hq; rcases hq with rfl | rfl | rfl | rfl | rfl <;> first | exact .head _ | exact .tail _ (.head _) | exact .tail _ (.tail _ (.head _)) | exact .tail _ (.tail _ (.tail _ (.head _))) | exact .tail _ (.tail _ (.tail _ (.tail _ (.head _)))) | exact .tail _ (.tail _ (.tail _ (.tail _ (.tail _ (.head _))))) | exact .tail _ (.tail _ (.tail _ (.tail _ (.tail _ (.tail _ (.head _)))))) | exact .tail _ (.tail _ (.tail _ (.tail _ (.tail _ (.tail _ (.tail _ (.head _))))))) | exact .tail _ (.tail _ (.tail _ (.tail _ (.tail _ (.tail _ (.tail _ (.tail _ (.head _)))))))) | exact .tail _ (.tail _ (.tail _ (.tail _ (.tail _ (.tail _ (.tail _ (.tail _ (.tail _ (.head _))))))))) | exact .tail _ (.tail _ (.tail _ (.tail _ (.tail _ (.tail _ (.tail _ (.tail _ (.tail _ (.tail _ (.head _)))))))))) | exact .tail _ (.tail _ (.tail _ (.tail _ (.tail _ (.tail _ (.tail _ (.tail _ (.tail _ (.tail _ (.tail _ (.head _))))))))))) | exact .tail _ (.tail _ (.tail _ (.tail _ (.tail _ (.tail _ (.tail _ (.tail _ (.tail _ (.tail _ (.tail _ (.tail _ (.head _)))))))))))) | exact .tail _ (.tail _ (.tail _ (.tail _ (.tail _ (.tail _ (.tail _ (.tail _ (.tail _ (.tail _ (.tail _ (.tail _ (.tail _ (.head _))))))))))))))
    refine zwq_ok (Z_X2_fewestLiars l) rfl [10, 41, 66] (fun _ _ _ _ _ _ h => h) 400 (Z_X2_fewestLiars l) ?_
    refine ⟨fun c => ⟨fun c2 => try1 (Or.inl c2), fun c2 => ⟨s, s, ⟨rfl, Or.inl ⟨rfl, by omega⟩⟩, b.toNat, b.toNat, ⟨by omega, Or.inl ⟨rfl, by omega⟩⟩, fun c3 => try1 (Or.inr (by omega)), fun c3 => ⟨fun _ => ?_, fun c9 => absurd rfl c9⟩⟩⟩, fun c => ?_⟩
    · exact zGs.sub (lo := [(0, _), (1, _), (2, _), (3, _), (4, _), (5, _)]) (no (fun z => z.1.elim c2 (fun q => by omega))) (fun q hq => by simp only [List.mem_cons, List.not_mem_nil, or_false] at hq; rcases hq with rfl | rfl | rfl | rfl | rfl <;> first | exact .head _ | exact .tail _ (.head _) | exact .tail _ (.tail _ (.head _)) | exact .tail _ (.tail _ (.tail _ (.head _))) | exact .tail _ (.tail _ (.tail _ (.tail _ (.head _)))) | exact .tail _ (.tail _ (.tail _ (.tail _ (.tail _ (.head _))))) | exact .tail _ (.tail _ (.tail _ (.tail _ (.tail _ (.tail _ (.head _)))))) | exact .tail _ (.tail _ (.tail _ (.tail _ (.tail _ (.tail _ (.tail _ (.head _))))))) | exact .tail _ (.tail _ (.tail _ (.tail _ (.tail _ (.tail _ (.tail _ (.tail _ (.head _)))))))) | exact .tail _ (.tail _ (.tail _ (.tail _ (.tail _ (.tail _ (.tail _ (.tail _ (.tail _ (.head _))))))))) | exact .tail _ (.tail _ (.tail _ (.tail _ (.tail _ (.tail _ (.tail _ (.tail _ (.tail _ (.tail _ (.head _)))))))))) | exact .tail _ (.tail _ (.tail _ (.tail _ (.tail _ (.tail _ (.tail _ (.tail _ (.tail _ (.tail _ (.tail _ (.head _))))))))))) | exact .tail _ (.tail _ (.tail _ (.tail _ (.tail _ (.tail _ (.tail _ (.tail _ (.tail _ (.tail _ (.tail _ (.tail _ (.head _)))))))))))) | exact .tail _ (.tail _ (.tail _ (.tail _ (.tail _ (.tail _ (.tail _ (.tail _ (.tail _ (.tail _ (.tail _ (.tail _ (.tail _ (.head _))))))))))))))
    · rw [e1] at c
      omega
theorem R_X2_fewestLiars (l : Launch) (a : List zV) (S : zS) (Q : zR2 → zS → Prop) (h : wp_X2_fewestLiars a S Q) : zRs l 3 0 0 yX2_fewestLiars (.code yX2_fewestLiars cX2_fewestLiars 6 (some .int)) a S Q := by
  unfold wp_X2_fewestLiars at h
  split at h
  · obtain ⟨D, t, r, ⟨rfl, hD, hC, rfl, hr, rfl, ht⟩, h⟩ := h
    refine zRs_of 2 (by decide) rfl rfl ?_; refine zwq_ok (Z_X2_fewestLiars l) rfl [10] (fun _ _ _ _ _ _ h => h) 400 (Z_X2_fewestLiars l) ?_
    refine ⟨D, t, ⟨rfl, hD, hC, rfl, ht⟩, fun S' hg hf => ?_⟩
    have hCS : cOK S' D := hC.fr (fun c a b => hf c (by omega) (by omega)) (fun c a b => hf c (by omega) (by omega))
    exact L_X2_fewestLiars hD hCS ht hr hg (2 ^ dL D) 0 (-1) (by omega) (Or.inl rfl) (h S' hf)
  · exact h.elim
def B_X11_misled : List (Nat × zC) := [(2, (2, 0, 1, 6, 0, 0, 11)), (6, (4, 1, 1, 6, 0, 0, 0)), (11, (4, 2, 2, 6, 0, 0, 0)), (19, (0, 3, 1, 1, 0, 0, 6)), (36, (0, 4, 2, 3, 0, 0, 2)), (57, (1, 5, 1, 0, 0, 0, 0))]
def O_X11_misled : zO := fun j a S K => match j with
  | 0 => wp_X11_needRoom a S K
  | 1 => wp_X11_needHour a S K
  | 2 => wp_X11_needOneOf a S K
  | 3 => wp_X6_rowsOf a S K
  | 4 => wp_X2_fewestLiars a S K
  | 5 => wp_J6_bitCount_0f7a4 a S K
  | _ => False
theorem E_X11_misled (l : Launch) : ∀ q ∈ B_X11_misled, zcok l O_X11_misled F_X11_misled q.1 q.2 := List.forall_mem_cons.mpr ⟨⟨179, yX11_needRoom, cX11_needRoom, 2, none, by decide +kernel, C_11_179, W_X11_needRoom, I_X11_needRoom, S_X11_needRoom, rfl, rfl, R_X11_needRoom l⟩, List.forall_mem_cons.mpr ⟨⟨202, yX11_needHour, cX11_needHour, 1, none, by decide +kernel, C_11_202, W_X11_needHour, I_X11_needHour, rfl, R_X11_needHour l⟩, List.forall_mem_cons.mpr ⟨⟨182, yX11_needOneOf, cX11_needOneOf, 2, none, by decide +kernel, C_11_182, W_X11_needOneOf, I_X11_needOneOf, rfl, R_X11_needOneOf l⟩, List.forall_mem_cons.mpr ⟨⟨282, yX6_rowsOf, cX6_rowsOf, 4, some .int, by decide +kernel, C_11_282, W_X6_rowsOf, I_X6_rowsOf, S_X6_rowsOf, rfl, rfl, R_X6_rowsOf l⟩, List.forall_mem_cons.mpr ⟨⟨285, yX2_fewestLiars, cX2_fewestLiars, 6, some .int, by decide +kernel, C_11_285, W_X2_fewestLiars, I_X2_fewestLiars, S_X2_fewestLiars, rfl, rfl, R_X2_fewestLiars l⟩, List.forall_mem_cons.mpr ⟨⟨208, yJ6_bitCount_0f7a4, cJ6_bitCount_0f7a4, 1, some .int, by decide +kernel, C_11_208, W_J6_bitCount_0f7a4, I_J6_bitCount_0f7a4, rfl, R_J6_bitCount_0f7a4 l⟩, fun _ h => by cases h⟩⟩⟩⟩⟩⟩
def U_X11_misled : List (Nat × zE) := [(0, Sum.inl (4, 0, 0, 0, 1, [])), (1, Sum.inl (2, 1, 0, 0, 2, [])), (2, Sum.inr (2, 0, 1, 6, 0, 0, 11)), (5, Sum.inl (2, 2, 0, 0, 6, [])), (6, Sum.inr (4, 1, 1, 6, 0, 0, 0)), (9, Sum.inl (2, 3, 0, 0, 10, [])), (10, Sum.inl (0, 0, 0, 2, 11, [])), (11, Sum.inr (4, 2, 2, 6, 0, 0, 0)), (14, Sum.inl (4, 0, 0, 0, 15, [])), (15, Sum.inl (18, 11, 1, 0, 18, [])), (18, Sum.inl (2, 2, 0, 0, 19, [])), (19, Sum.inr (0, 3, 1, 1, 0, 0, 6)), (22, Sum.inl (0, 0, 0, (-2), 24, [])), (24, Sum.inl (16, 0, 27, 0, 30, [])), (27, Sum.inl (0, 0, 0, (-2), 29, [])), (29, Sum.inl (27, 0, 0, 0, 30, [])), (30, Sum.inl (4, 0, 0, 0, 31, [])), (31, Sum.inl (18, 11, 8, 0, 34, [])), (34, Sum.inl (2, 1, 0, 0, 35, [])), (35, Sum.inl (2, 2, 0, 0, 36, [])), (36, Sum.inr (0, 4, 2, 3, 0, 0, 2)), (39, Sum.inl (5, 4, 0, 0, 41, [])), (41, Sum.inl (2, 4, 0, 0, 43, [])), (43, Sum.inl (0, 0, 0, (-1), 44, [])), (44, Sum.inl (16, 0, 52, 0, 47, [])), (47, Sum.inl (2, 3, 0, 0, 48, [])), (48, Sum.inl (0, 0, 0, 1, 49, [])), (49, Sum.inl (16, 0, 52, 0, 55, [])), (52, Sum.inl (2, 4, 0, 0, 54, [])), (54, Sum.inl (27, 0, 0, 0, 55, [])), (55, Sum.inl (2, 4, 0, 0, 57, [])), (57, Sum.inr (1, 5, 1, 0, 0, 0, 0)), (60, Sum.inl (27, 0, 0, 0, 61, []))]
theorem Z_X11_misled (l : Launch) : ∀ q ∈ U_X11_misled, zTok l O_X11_misled F_X11_misled q := zU_ok rfl rfl rfl K_X11_misled (E_X11_misled l)
def wp_X11_misled (a : List zV) (S : zS) (K : zR2 → zS → Prop) : Prop := zif (Nat.ble (zsum a) 5) (zwq 7 F_X11_misled U_X11_misled O_X11_misled [] (fun _ _ _ _ _ _ => False) K 34 U_X11_misled 1 6 S 0 (zar 0 a) [])
theorem R_X11_misled (l : Launch) (a : List zV) (S : zS) (Q : zR2 → zS → Prop) (h : wp_X11_misled a S Q) : zRs l 7 1 6 yX11_misled (.code yX11_misled cX11_misled 5 (some .int)) a S Q := by
  obtain ⟨h1, h⟩ := zif_ok h
  exact zRs_of 11 (by decide) rfl h1 (zwq_ok (Z_X11_misled l) rfl [] (fun _ _ _ _ _ _ h => h.elim) 34 (Z_X11_misled l) h)
abbrev misP (D : zD) (x y z : Int) : Prop := (0 ≤ x ∧ x < dR D) ∧ (0 ≤ y ∧ y < 24) ∧ (0 ≤ z ∧ z < 2)
def misledA (D : zD) (x y z : Int) : Nat × Int := if misP D x y z then (if 4000 < rowD D y.toNat (dL D) then (0, -2) else if flD D y.toNat x.toNat = -1 ∨ z = 1 then (0, flD D y.toNat x.toNat) else (0, ((bl (flD D y.toNat x.toNat).toNat).length : Int))) else (1, 0)
theorem fl_ge {D : zD} (hD : dOK D) (t r : Nat) : flD D t r = -1 ∨ (0 ≤ flD D t r ∧ flD D t r < 64) := by
  have h := flS_ge (ml := mlC D t r) (n := 2 ^ dL D) (2 ^ dL D) 0 (-1) (by omega) (Or.inl rfl)
  have h2 := two_L hD
  unfold flD
  omega
theorem c_misled {S : zS} {D E T : zD} {N : Nat} {K : zR2 → zS → Prop} {x y z : Int} (hC : eC S D E T) (hX : xOK D E T N) (h : cRes S D E T (cr1 (misledA D x y z)) K) : wp_X11_misled [.inr (.inl 0), .inl x, .inl y, .inl z] S K := by
  have e1 := hC.now.rooms
  unfold misledA at h
  by_cases hp : misP D x y z
  · rw [if_pos hp] at h
    obtain ⟨⟨x1, x2⟩, ⟨y1, y2⟩, z1, z2⟩ := hp
    have hg := fl_ge hX.now y.toNat x.toNat
    have hro := (row_le hX.now (t := y.toNat) (by omega) (dL D) (Nat.le_refl _)).1
    have fr : ∀ S', (∀ c, c ≠ 40 → c ≠ 41 → S' c = S c) → eC S' D E T ∧ frC S S' := fun S' hf => ⟨hC.fr (fun c _ b => hf c (fun q => b (by unfold cScr; omega)) (fun q => b (by unfold cScr; omega))), fun c hc => hf c (by omega) (by omega)⟩
    refine ⟨rfl, fun c9 => by omega, fun _ => ⟨fun c9 => by omega, fun _ => ⟨fun c9 => by omega, fun _ => ⟨D, y.toNat, ⟨rfl, hX.now, hC.now, by omega, by omega⟩, fun c => ?_, fun c => ?_⟩⟩⟩⟩
    · unfold spnD at c
      by_cases c4 : 4000 < rowD D y.toNat (dL D)
      · rw [if_pos c4] at h
        exact cGood hC h
      · rw [if_neg c4] at c; omega
    · unfold spnD at c
      have c4 : ¬ 4000 < rowD D y.toNat (dL D) := fun c4 => c (by rw [if_pos c4])
      rw [if_neg c4] at h
      refine ⟨D, y.toNat, x.toNat, ⟨rfl, hX.now, hC.now, by omega, by omega, by omega, by omega⟩, fun S' hf => ⟨fun c2 => ?_, fun c2 => ⟨fun c3 => ?_, fun c3 => ⟨(flD D y.toNat x.toNat).toNat, (flD D y.toNat x.toNat).toNat, ⟨by omega, Or.inl ⟨rfl, by omega⟩⟩, ?_⟩⟩⟩⟩
      · rw [if_pos (Or.inl c2)] at h
        exact h S' (fr S' hf).1 (fr S' hf).2
      · rw [if_pos (Or.inr c3)] at h
        exact h S' (fr S' hf).1 (fr S' hf).2
      · rw [if_neg (fun q => q.elim c2 c3)] at h
        exact h S' (fr S' hf).1 (fr S' hf).2
  · rw [if_neg hp] at h
    unfold misP at hp
    have h := cGood hC h
    repeat' (first | refine And.intro ?_ ?_ | (intro _; try omega) | omega | rfl | refine ⟨_, ⟨rfl, by omega⟩, ?_⟩ | fail)
    all_goals exact h
/-! all turns of the liars' doors -/
def alM (D : zD) (t l : Nat) : Nat := msk (fun v => Nat.beq (v &&& kinD D l) v && !(Nat.beq v (sgL D t l))) 4
def amD (D : zD) (t set l : Nat) : Nat := bif Nat.beq (bt1 set l) 1 then alM D t l else 2 ^ sgL D t l
def Cb (D : zD) (t r : Nat) (row : List Nat) : Bool := aP (fun l s => awB D t r l s) 0 row && !(aP (fun l s => !(thB D t r l s)) 0 row)
def mlM (D : zD) (t r set : Nat) : Bool := (pL (fun l => bl (amD D t set l)) (dL D) 0).any (Cb D t r)
theorem sgL_lt (D : zD) (t l : Nat) : sgL D t l < 4 := sg_lt l _
theorem bt1_p2 (k j : Nat) : bt1 (2 ^ k) j = 1 ↔ j = k := by
  have := tb_p2 k j
  rw [tbt] at this
  rw [← nbeq, this, nbeq]
theorem am_mem {D : zD} {t set l s : Nat} : s ∈ bl (amD D t set l) ↔ s < 4 ∧ okB D t set l s = true ∧ (bt1 set l = 1 → s &&& kinD D l = s) := by
  have hs := sgL_lt D t l
  have hb := bt1_lt set l
  unfold amD okB
  cases hq : Nat.beq (bt1 set l) 1 with
  | true =>
    have h1 := nbeq.mp hq
    show s ∈ bl (alM D t l) ↔ s < 4 ∧ (!(Nat.beq s (sgL D t l))) = true ∧ _
    rw [bl_mem]
    unfold alM
    rw [bt1_msk]
    constructor
    · rintro ⟨_, h⟩
      split at h
      · rename_i c
        have c2 := Bool.and_eq_true_iff.mp c.2
        exact ⟨c.1, c2.2, fun _ => nbeq.mp c2.1⟩
      · cases h
    · rintro ⟨a, b, c⟩
      refine ⟨by omega, ?_⟩
      rw [if_pos ⟨a, Bool.and_eq_true_iff.mpr ⟨nbeq.mpr (c h1), b⟩⟩]
  | false =>
    have h1 : bt1 set l ≠ 1 := fun z => by rw [z] at hq; cases hq
    show s ∈ bl (2 ^ sgL D t l) ↔ s < 4 ∧ Nat.beq s (sgL D t l) = true ∧ _
    rw [bl_mem, bt1_p2, nbeq]
    constructor
    · rintro ⟨_, rfl⟩; exact ⟨hs, rfl, fun z => absurd z h1⟩
    · rintro ⟨_, h, _⟩; exact ⟨by omega, h⟩
theorem aw_sub {D : zD} (hD : dOK D) {t r l s : Nat} (ht : t < 24) (hl : l < dL D) (h : awB D t r l s = true) : s &&& kinD D l = s := by
  obtain ⟨a, ha, _⟩ := List.any_eq_true.mp h
  unfold grM at ha
  rw [bl_gm (hD.may (24 * l + t) (by omega)).2] at ha
  have := nbeq.mp (List.mem_filter.mp ha).2
  rw [← this]
  unfold sigD
  rw [Nat.and_assoc, Nat.and_self]
theorem inS_1 (D : zD) (t r set l : Nat) : ∀ f s a b, (inS D t r set l f s a b).1 = true ↔ a = true ∨ ∃ k, s ≤ k ∧ k < s + f ∧ okB D t set l k = true ∧ awB D t r l k = true := by
  intro f
  induction f with
  | zero => intro s a b; exact ⟨fun h => Or.inl h, fun h => h.elim id (fun ⟨k, h1, h2, _⟩ => by omega)⟩
  | succ f ih =>
    intro s a b
    show (bif okB D t set l s && awB D t r l s then inS D t r set l f (s + 1) true (b || thB D t r l s) else inS D t r set l f (s + 1) a b).1 = true ↔ _
    cases hq : (okB D t set l s && awB D t r l s) with
    | true =>
      rw [Bool.and_eq_true] at hq
      show (inS D t r set l f (s + 1) true (b || thB D t r l s)).1 = true ↔ _
      rw [ih]
      exact ⟨fun _ => Or.inr ⟨s, by omega, by omega, hq.1, hq.2⟩, fun _ => Or.inl rfl⟩
    | false =>
      show (inS D t r set l f (s + 1) a b).1 = true ↔ _
      rw [ih]
      constructor
      · rintro (h | ⟨k, h1, h2, h3⟩)
        · exact Or.inl h
        · exact Or.inr ⟨k, by omega, by omega, h3⟩
      · rintro (h | ⟨k, h1, h2, h3, h4⟩)
        · exact Or.inl h
        · by_cases e : k = s
          · subst e; rw [h3, h4] at hq; cases hq
          · exact Or.inr ⟨k, by omega, by omega, h3, h4⟩
theorem inS_2 (D : zD) (t r set l : Nat) : ∀ f s a b, (inS D t r set l f s a b).2 = true ↔ b = true ∨ ∃ k, s ≤ k ∧ k < s + f ∧ okB D t set l k = true ∧ awB D t r l k = true ∧ thB D t r l k = true := by
  intro f
  induction f with
  | zero => intro s a b; exact ⟨fun h => Or.inl h, fun h => h.elim id (fun ⟨k, h1, h2, _⟩ => by omega)⟩
  | succ f ih =>
    intro s a b
    show (bif okB D t set l s && awB D t r l s then inS D t r set l f (s + 1) true (b || thB D t r l s) else inS D t r set l f (s + 1) a b).2 = true ↔ _
    cases hq : (okB D t set l s && awB D t r l s) with
    | true =>
      rw [Bool.and_eq_true] at hq
      show (inS D t r set l f (s + 1) true (b || thB D t r l s)).2 = true ↔ _
      rw [ih, Bool.or_eq_true]
      constructor
      · rintro ((h | h) | ⟨k, h1, h2, h3⟩)
        · exact Or.inl h
        · exact Or.inr ⟨s, by omega, by omega, hq.1, hq.2, h⟩
        · exact Or.inr ⟨k, by omega, by omega, h3⟩
      · rintro (h | ⟨k, h1, h2, h3, h4, h5⟩)
        · exact Or.inl (Or.inl h)
        · by_cases e : k = s
          · subst e; exact Or.inl (Or.inr h5)
          · exact Or.inr ⟨k, by omega, by omega, h3, h4, h5⟩
    | false =>
      show (inS D t r set l f (s + 1) a b).2 = true ↔ _
      rw [ih]
      constructor
      · rintro (h | ⟨k, h1, h2, h3⟩)
        · exact Or.inl h
        · exact Or.inr ⟨k, by omega, by omega, h3⟩
      · rintro (h | ⟨k, h1, h2, h3, h4, h5⟩)
        · exact Or.inl h
        · by_cases e : k = s
          · subst e; rw [h3, h4] at hq; cases hq
          · exact Or.inr ⟨k, by omega, by omega, h3, h4, h5⟩
theorem ouS_iff (D : zD) (t r set : Nat) : ∀ f l b, ouS D t r set f l b = true ↔ (∀ i, l ≤ i → i < l + f → ∃ k, k < 4 ∧ okB D t set i k = true ∧ awB D t r i k = true) ∧ (b = true ∨ ∃ i, l ≤ i ∧ i < l + f ∧ ∃ k, k < 4 ∧ okB D t set i k = true ∧ awB D t r i k = true ∧ thB D t r i k = true) := by
  intro f
  induction f with
  | zero => intro l b; exact ⟨fun h => ⟨fun i _ _ => by omega, Or.inl h⟩, fun h => h.2.elim id (fun ⟨i, h1, h2, _⟩ => by omega)⟩
  | succ f ih =>
    intro l b
    show (bif (inS D t r set l 4 0 false b).1 then ouS D t r set f (l + 1) (inS D t r set l 4 0 false b).2 else false) = true ↔ _
    have i1 := inS_1 D t r set l 4 0 false b
    have i2 := inS_2 D t r set l 4 0 false b
    cases hq : (inS D t r set l 4 0 false b).1 with
    | false =>
      refine ⟨fun h => absurd (show false = true from h) (by decide), fun h => ?_⟩
      obtain ⟨k, k1, k2, k3⟩ := h.1 l (by omega) (by omega)
      have := i1.mpr (Or.inr ⟨k, by omega, by omega, k2, k3⟩)
      rw [hq] at this
      cases this
    | true =>
      have h0 := i1.mp hq
      show ouS D t r set f (l + 1) (inS D t r set l 4 0 false b).2 = true ↔ _
      rw [ih, i2]
      constructor
      · rintro ⟨h1, h2⟩
        refine ⟨fun i a c => ?_, ?_⟩
        · by_cases e : i = l
          · subst e
            rcases h0 with h0 | ⟨k, _, k1, k2, k3⟩
            · cases h0
            · exact ⟨k, by omega, k2, k3⟩
          · exact h1 i (by omega) (by omega)
        · rcases h2 with (h2 | ⟨k, _, k1, k2, k3, k4⟩) | ⟨i, a, c, h2⟩
          · exact Or.inl h2
          · exact Or.inr ⟨l, by omega, by omega, k, by omega, k2, k3, k4⟩
          · exact Or.inr ⟨i, by omega, by omega, h2⟩
      · rintro ⟨h1, h2⟩
        refine ⟨fun i a c => h1 i (by omega) (by omega), ?_⟩
        rcases h2 with h2 | ⟨i, a, c, k, k1, k2, k3, k4⟩
        · exact Or.inl (Or.inl h2)
        · by_cases e : i = l
          · subst e; exact Or.inl (Or.inr ⟨k, by omega, by omega, k2, k3, k4⟩)
          · exact Or.inr ⟨i, by omega, by omega, k, k1, k2, k3, k4⟩
theorem Cb_iff {D : zD} {t r : Nat} {row : List Nat} : Cb D t r row = true ↔ (∀ k, k < row.length → awB D t r k (row.getD k 0) = true) ∧ ∃ k, k < row.length ∧ thB D t r k (row.getD k 0) = true := by
  unfold Cb
  rw [Bool.and_eq_true, aP_iff]
  have h2 := aP_iff (fun l s => !(thB D t r l s)) 0 row
  simp only [Nat.zero_add] at h2 ⊢
  refine and_congr Iff.rfl ?_
  constructor
  · intro h
    have h : aP (fun l s => !(thB D t r l s)) 0 row = false := by
      cases hq : aP (fun l s => !(thB D t r l s)) 0 row
      · rfl
      · rw [hq] at h; cases h
    refine Classical.byContradiction fun hn => ?_
    have := h2.mpr (fun k hk => by
      cases hq : thB D t r k (row.getD k 0)
      · rfl
      · exact absurd ⟨k, hk, hq⟩ hn)
    rw [h] at this
    cases this
  · rintro ⟨k, hk, h⟩
    cases hq : aP (fun l s => !(thB D t r l s)) 0 row
    · rfl
    · have := h2.mp hq k hk
      rw [h] at this
      cases this
theorem mlC_mlM {D : zD} (hD : dOK D) {t r set : Nat} (ht : t < 24) : mlC D t r set = mlM D t r set := by
  unfold mlC mlM
  rw [Bool.eq_iff_iff, ouS_iff, List.any_eq_true]
  constructor
  · rintro ⟨h1, h2⟩
    obtain ⟨j, j1, j2, s, s1, s2, s3, s4⟩ := h2.elim (fun z => by cases z) id
    have ex : ∀ i, ∃ k, i < dL D → k < 4 ∧ okB D t set i k = true ∧ awB D t r i k = true := fun i => by
      by_cases hi : i < dL D
      · obtain ⟨k, hk⟩ := h1 i (by omega) (by omega)
        exact ⟨k, fun _ => hk⟩
      · exact ⟨0, fun z => absurd z hi⟩
    obtain ⟨g, hg⟩ := Classical.axiomOfChoice ex
    have gi : ∀ i, i < dL D → (if i = j then s else g i) < 4 ∧ okB D t set i (if i = j then s else g i) = true ∧ awB D t r i (if i = j then s else g i) = true := fun i hi => by
      by_cases e : i = j
      · rw [if_pos e, e]; exact ⟨s1, s2, s3⟩
      · rw [if_neg e]; exact hg i hi
    refine ⟨rowN (fun i => if i = j then s else g i) (dL D) 0, (pL_mem _ _ _ _).mpr ⟨rowN_len _ _ _, fun k hk => ?_⟩, Cb_iff.mpr ⟨fun k hk => ?_, j, by rw [rowN_len]; omega, ?_⟩⟩
    · rw [rowN_get _ _ _ _ hk, Nat.zero_add]
      obtain ⟨a, b, c⟩ := gi k hk
      exact am_mem.mpr ⟨a, b, fun _ => aw_sub hD ht hk c⟩
    · rw [rowN_len] at hk
      rw [rowN_get _ _ _ _ hk, Nat.zero_add]
      exact (gi k hk).2.2
    · rw [rowN_get _ _ _ _ (by omega), Nat.zero_add]
      show thB D t r j (if j = j then s else g j) = true
      rw [if_pos rfl]
      exact s4
  · rintro ⟨row, hr, hc⟩
    obtain ⟨l1, l2⟩ := (pL_mem _ _ _ _).mp hr
    obtain ⟨c1, k, k1, k2⟩ := Cb_iff.mp hc
    have ok : ∀ i, i < dL D → row.getD i 0 < 4 ∧ okB D t set i (row.getD i 0) = true := fun i hi => by
      have := l2 i hi
      rw [Nat.zero_add] at this
      have := am_mem.mp this
      exact ⟨this.1, this.2.1⟩
    refine ⟨fun i _ hi => ⟨row.getD i 0, (ok i (by omega)).1, (ok i (by omega)).2, c1 i (by omega)⟩, Or.inr ⟨k, by omega, by omega, row.getD k 0, (ok k (by omega)).1, (ok k (by omega)).2, c1 k k1, k2⟩⟩
