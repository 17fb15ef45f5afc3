/-! misled: the class -/
def sgL (D : zD) (t l : Nat) : Nat := sigD D l (dD D (24 * l + t))
def grM (D : zD) (t l s : Nat) : Nat := gmD D l (24 * l + t) s
def awB (D : zD) (t r l s : Nat) : Bool := (bl (grM D t l s)).any (fun a => !thr D r l a)
def thB (D : zD) (t r l s : Nat) : Bool := (bl (grM D t l s)).any (thr D r l)
def okB (D : zD) (t set l s : Nat) : Bool := bif Nat.beq (bt1 set l) 1 then !(Nat.beq s (sgL D t l)) else Nat.beq s (sgL D t l)
def inS (D : zD) (t r set l : Nat) : Nat → Nat → Bool → Bool → Bool × Bool
  | 0, _, a, h => (a, h)
  | f + 1, s, a, h => bif okB D t set l s && awB D t r l s then inS D t r set l f (s + 1) true (h || thB D t r l s) else inS D t r set l f (s + 1) a h
def ouS (D : zD) (t r set : Nat) : Nat → Nat → Bool → Bool
  | 0, _, h => h
  | f + 1, l, h => bif (inS D t r set l 4 0 false h).1 then ouS D t r set f (l + 1) (inS D t r set l 4 0 false h).2 else false
def mlC (D : zD) (t r set : Nat) : Bool := ouS D t r set (dL D) 0 false
def gdC (S : zS) (D : zD) (t n : Nat) : Prop := ∀ l, l < n → S 40 l = (sgL D t l : Int) ∧ ∀ s, s < 4 → S 41 (4 * l + s) = (spr (grM D t l s) : Int)
theorem gr_rm {D : zD} (hD : dOK D) {t l s : Nat} (ht : t < 24) (hl : l < dL D) : mRm D l (grM D t l s) := by
  intro a h
  refine hD.mayRoom l t a hl ht ?_
  unfold grM gmD at h
  rw [bt1_msk] at h
  split at h
  · rename_i c
    have := c.2
    unfold gmF at this
    rw [Bool.and_eq_true] at this
    exact Nat.eq_of_beq_eq_true this.1
  · cases h
theorem sg_lt {D : zD} (l a : Nat) : sigD D l a < 4 := Nat.lt_of_le_of_lt Nat.and_le_right (kin_lt D l)
def B_X2_sortDoings : List (Nat × zC) := [(29, (0, 0, 2, 0, 0, 0, 0)), (32, (0, 1, 2, 1, 0, 0, 3)), (59, (0, 2, 3, 1, 0, 0, 3))]
def O_X2_sortDoings : zO := fun j a S K => match j with
  | 0 => wp_X0_doing a S K
  | 1 => wp_X3_signOf a S K
  | 2 => wp_X3_doingsBySign a S K
  | _ => False
theorem E_X2_sortDoings (l : Launch) : ∀ q ∈ B_X2_sortDoings, zcok l O_X2_sortDoings F_X2_sortDoings q.1 q.2 := List.forall_mem_cons.mpr ⟨⟨50, yX0_doing, cX0_doing, 3, some .int, by decide +kernel, C_2_50, W_X0_doing, I_X0_doing, S_X0_doing, rfl, rfl, R_X0_doing l⟩, List.forall_mem_cons.mpr ⟨⟨56, yX3_signOf, cX3_signOf, 3, some .int, by decide +kernel, C_2_56, W_X3_signOf, I_X3_signOf, S_X3_signOf, rfl, rfl, R_X3_signOf l⟩, List.forall_mem_cons.mpr ⟨⟨61, yX3_doingsBySign, cX3_doingsBySign, 8, some .int, by decide +kernel, C_2_61, W_X3_doingsBySign, I_X3_doingsBySign, S_X3_doingsBySign, rfl, rfl, R_X3_doingsBySign l⟩, fun _ h => by cases h⟩⟩⟩
def U_X2_sortDoings : List (Nat × zE) := [(0, Sum.inl (0, 0, 0, 0, 1, [])), (1, Sum.inl (5, 2, 0, 0, 2, [])), (2, Sum.inl (2, 2, 0, 0, 3, [])), (3, Sum.inl (4, 0, 0, 0, 4, [])), (4, Sum.inl (18, 2, 0, 0, 7, [])), (7, Sum.inl (18, 6, 8, 0, 10, [])), (10, Sum.inl (16, 1, 13, 0, 75, [])), (13, Sum.inl (4, 0, 0, 0, 14, [])), (14, Sum.inl (18, 2, 3, 0, 17, [])), (17, Sum.inl (2, 2, 0, 0, 18, [])), (18, Sum.inl (4, 0, 0, 0, 19, [])), (19, Sum.inl (18, 2, 2, 0, 22, [])), (22, Sum.inl (2, 2, 0, 0, 23, [])), (23, Sum.inl (4, 0, 0, 0, 24, [])), (24, Sum.inl (18, 2, 1, 0, 27, [])), (27, Sum.inl (2, 2, 0, 0, 28, [])), (28, Sum.inl (2, 1, 0, 0, 29, [])), (29, Sum.inr (0, 0, 2, 0, 0, 0, 0)), (32, Sum.inr (0, 1, 2, 1, 0, 0, 3)), (35, Sum.inl (21, 0, 0, 0, 36, [])), (36, Sum.inl (0, 0, 0, 0, 37, [])), (37, Sum.inl (5, 3, 0, 0, 38, [])), (38, Sum.inl (2, 3, 0, 0, 39, [])), (39, Sum.inl (0, 0, 0, 4, 40, [])), (40, Sum.inl (16, 1, 43, 0, 69, [])), (43, Sum.inl (4, 0, 0, 0, 44, [])), (44, Sum.inl (18, 2, 4, 0, 47, [])), (47, Sum.inl (2, 2, 0, 0, 48, [])), (48, Sum.inl (0, 0, 0, 4, 49, [])), (49, Sum.inl (9, 2, 0, 0, 50, [])), (50, Sum.inl (2, 3, 0, 0, 51, [])), (51, Sum.inl (9, 0, 0, 0, 52, [])), (52, Sum.inl (4, 0, 0, 0, 53, [])), (53, Sum.inl (18, 2, 2, 0, 56, [])), (56, Sum.inl (2, 2, 0, 0, 57, [])), (57, Sum.inl (2, 1, 0, 0, 58, [])), (58, Sum.inl (2, 3, 0, 0, 59, [])), (59, Sum.inr (0, 2, 3, 1, 0, 0, 3)), (62, Sum.inl (21, 0, 0, 0, 63, [])), (63, Sum.inl (8, 3, 0, 1, 66, [])), (66, Sum.inl (15, 0, 0, 0, 38, [])), (69, Sum.inl (8, 2, 0, 1, 72, [])), (72, Sum.inl (15, 0, 0, 0, 2, [])), (75, Sum.inl (29, 0, 0, 0, 76, []))]
theorem Z_X2_sortDoings (l : Launch) : ∀ q ∈ U_X2_sortDoings, zTok l O_X2_sortDoings F_X2_sortDoings q := zU_ok rfl rfl rfl K_X2_sortDoings (E_X2_sortDoings l)
def wp_X2_sortDoings (a : List zV) (S : zS) (K : zR2 → zS → Prop) : Prop := match a with
  | [.inr (.inl c), .inl y] => ∃ (D : zD) (t : Nat), (c = 39 ∧ dOK D ∧ cOK S D ∧ y = (t : Int) ∧ t < 24) ∧ ∀ S', gdC S' D t (dL D) → (∀ c, c ≠ 40 → c ≠ 41 → S' c = S c) → K (.inl none) S'
  | _ => False
section
variable {l : Launch} {S0 : zS} {Q : zR2 → zS → Prop} {D : zD} {t : Nat}
theorem L0_X2_sortDoings {S1 : zS} {i : Nat} (hD : dOK D) (hC : cOK S1 D) (ht : t < 24) (hi : i < dL D) (h : ∀ S, (∀ s, s < 4 → S 41 (4 * i + s) = (spr (grM D t i s) : Int)) → (∀ j, j < 4 * i → S 41 j = S1 41 j) → (∀ c, c ≠ 41 → S c = S1 c) → zGs l 2 0 0 F_X2_sortDoings S 69 [(0, .inr (.inl 39)), (1, .inl (t : Int)), (2, .inl (i : Int))] [] Q) (f : Nat) : ∀ s S, s + f = 4 → (∀ j, j < s → S 41 (4 * i + j) = (spr (grM D t i j) : Int)) → (∀ j, j < 4 * i → S 41 j = S1 41 j) → (∀ c, c ≠ 41 → S c = S1 c) → zGs l 2 0 0 F_X2_sortDoings S 38 [(0, .inr (.inl 39)), (1, .inl (t : Int)), (2, .inl (i : Int)), (3, .inl (s : Int))] [] Q := by
  have h6 := hD.lodgers
  induction f with
  | zero =>
    intro s S hs a1 a2 a3
    have : s = 4 := by omega
    subst this
    refine zwq_ok (Z_X2_sortDoings l) rfl [38, 69] (fun _ _ _ _ _ _ h => h) 400 (Z_X2_sortDoings l) ?_
    refine ⟨fun c => by omega, fun c => ?_⟩
    exact zGs.sub (lo := [(0, _), (1, _), (2, _), (3, _)]) (h S a1 a2 a3) (fun q hq => by simp only [List.mem_cons, List.not_mem_nil, or_false] at hq; rcases hq with rfl | rfl | rfl <;> first | exact .head _ | exact .tail _ (.head _) | exact .tail _ (.tail _ (.head _)) | exact .tail _ (.tail _ (.tail _ (.head _))) | exact .tail _ (.tail _ (.tail _ (.tail _ (.head _)))) | exact .tail _ (.tail _ (.tail _ (.tail _ (.tail _ (.head _))))) | exact .tail _ (.tail _ (.tail _ (.tail _ (.tail _ (.tail _ (.head _)))))) | exact .tail _ (.tail _ (.tail _ (.tail _ (.tail _ (.tail _ (.tail _ (.head _))))))) | exact .tail _ (.tail _ (.tail _ (.tail _ (.tail _ (.tail _ (.tail _ (.tail _ (.head _)))))))) | exact .tail _ (.tail _ (.tail _ (.tail _ (.tail _ (.tail _ (.tail _ (.tail _ (.tail _ (.head _))))))))) | exact .tail _ (.tail _ (.tail _ (.tail _ (.tail _ (.tail _ (.tail _ (.tail _ (.tail _ (.tail _ (.head _)))))))))) | exact .tail _ (.tail _ (.tail _ (.tail _ (.tail _ (.tail _ (.tail _ (.tail _ (.tail _ (.tail _ (.tail _ (.head _))))))))))) | exact .tail _ (.tail _ (.tail _ (.tail _ (.tail _ (.tail _ (.tail _ (.tail _ (.tail _ (.tail _ (.tail _ (.tail _ (.head _)))))))))))) | exact .tail _ (.tail _ (.tail _ (.tail _ (.tail _ (.tail _ (.tail _ (.tail _ (.tail _ (.tail _ (.tail _ (.tail _ (.tail _ (.head _))))))))))))))
  | succ f ih =>
    intro s S hs a1 a2 a3
    have hCS : cOK S D := hC.fr (fun c a b => a3 c (by omega)) (fun c a b => a3 c (by omega))
    have this := ih (s + 1) (zu S 41 (4 * i + s) (spr (grM D t i s) : Int)) (by omega) (fun j hj => by
      rw [zu_if]
      by_cases e : j = s
      · rw [if_pos (by omega), e]
      · rw [if_neg (by omega)]; exact a1 j (by omega)) (fun j hj => by rw [zuN (Or.inr (by omega))]; exact a2 j hj) (fun c hc => (zu_c hc).trans (a3 c hc))
    refine zwq_ok (Z_X2_sortDoings l) rfl [38, 69] (fun _ _ _ _ _ _ h => h) 400 (Z_X2_sortDoings l) ?_
    refine ⟨fun c => ⟨by omega, by omega, D, i, t, s, ⟨rfl, hD, hCS, rfl, rfl, rfl, hi, ht⟩, 4 * i + s, ⟨by omega, by omega⟩, by omega, ?_⟩, fun c => by omega⟩
    exact this
theorem L_X2_sortDoings (hD : dOK D) (hC : cOK S0 D) (ht : t < 24) (h : ∀ S', gdC S' D t (dL D) → (∀ c, c ≠ 40 → c ≠ 41 → S' c = S0 c) → Q (.inl none) S') (f : Nat) : ∀ i S, i + f = dL D → gdC S D t i → (∀ c, c ≠ 40 → c ≠ 41 → S c = S0 c) → zGs l 2 0 0 F_X2_sortDoings S 2 [(0, .inr (.inl 39)), (1, .inl (t : Int)), (2, .inl (i : Int))] [] Q := by
  have h6 := hD.lodgers
  induction f with
  | zero =>
    intro i S hi hg hf
    have : i = dL D := by omega
    subst this
    have hCS : cOK S D := hC.fr (fun c a b => hf c (by omega) (by omega)) (fun c a b => hf c (by omega) (by omega))
    have eL := hCS.lodgers
    refine zwq_ok (Z_X2_sortDoings l) rfl [2, 38] (fun _ _ _ _ _ _ h => h) 400 (Z_X2_sortDoings l) ?_
    exact ⟨fun c => by omega, fun c => h S hg hf⟩
  | succ f ih =>
    intro i S hi hg hf
    have hCS : cOK S D := hC.fr (fun c a b => hf c (by omega) (by omega)) (fun c a b => hf c (by omega) (by omega))
    have eL := hCS.lodgers
    have hd := hD.day (24 * i + t) (by omega)
    have esg : sigD D i (tol (dD D (24 * i + t))) = sgL D t i := by
      unfold sgL
      by_cases c4 : dD D (24 * i + t) < 4
      · rw [tol_1 c4]
      · rw [tol_2 c4]
        have := sig_6 D i (k := dD D (24 * i + t) + 6) (by omega)
        rw [Nat.add_sub_cancel] at this
        exact this.symm
    have go := L0_X2_sortDoings (l := l) (Q := Q) (t := t) (S1 := zu S 40 i (sgL D t i : Int)) (i := i) hD (hCS.fr (fun c a b => zu_c (by omega)) (fun c a b => zu_c (by omega))) ht (by omega) (fun S2 b1 b2 b3 => by
      have this := ih (i + 1) S2 (by omega) (fun j hj => by
        by_cases e : j = i
        · subst e
          exact ⟨by rw [b3 40 (by omega)]; exact zuE, b1⟩
        · obtain ⟨g1, g2⟩ := hg j (by omega)
          refine ⟨by rw [b3 40 (by omega), zuN (Or.inr e)]; exact g1, fun s hs => ?_⟩
          rw [b2 (4 * j + s) (by omega)]
          exact g2 s hs) (fun c h1 h2 => (b3 c h2).trans ((zu_c h1).trans (hf c h1 h2)))
      refine zwq_ok (Z_X2_sortDoings l) rfl [2] (fun _ _ _ _ _ _ h => h) 400 (Z_X2_sortDoings l) ?_
      exact ⟨by omega, this⟩) 4 0 _ (by omega) (fun j hj => absurd hj (Nat.not_lt_zero j)) (fun _ _ => rfl) (fun _ _ => rfl)
    rw [← esg] at go
    refine zwq_ok (Z_X2_sortDoings l) rfl [2, 38] (fun _ _ _ _ _ _ h => h) 400 (Z_X2_sortDoings l) ?_
    refine ⟨fun c => ⟨D, i, t, ⟨rfl, hCS, rfl, rfl, by omega, ht⟩, D, i, tol (dD D (24 * i + t)), ⟨rfl, hD, hCS, rfl, rfl, by omega⟩, i, ⟨rfl, by omega⟩, ?_⟩, fun c => by omega⟩
    exact go
end
theorem R_X2_sortDoings (l : Launch) (a : List zV) (S : zS) (Q : zR2 → zS → Prop) (h : wp_X2_sortDoings a S Q) : zRs l 2 0 0 yX2_sortDoings (.code yX2_sortDoings cX2_sortDoings 4 (none)) a S Q := by
  unfold wp_X2_sortDoings at h
  split at h
  · obtain ⟨D, t, ⟨rfl, hD, hC, rfl, ht⟩, h⟩ := h
    refine zRs_of 2 (by decide) rfl rfl ?_; refine zwq_ok (Z_X2_sortDoings l) rfl [2] (fun _ _ _ _ _ _ h => h) 400 (Z_X2_sortDoings l) ?_
    exact L_X2_sortDoings (S0 := S) hD hC ht h (dL D) 0 S (by omega) (fun i hi => absurd hi (Nat.not_lt_zero i)) (fun _ _ _ => rfl)
  · exact h.elim
def B_X2_misleads : List (Nat × zC) := [(41, (0, 0, 2, 0, 0, 0, 6))]
def O_X2_misleads : zO := fun j a S K => match j with
  | 0 => wp_X6_doingsIn a S K
  | _ => False
theorem E_X2_misleads (l : Launch) : ∀ q ∈ B_X2_misleads, zcok l O_X2_misleads F_X2_misleads q.1 q.2 := List.forall_mem_cons.mpr ⟨⟨65, yX6_doingsIn, cX6_doingsIn, 3, some .int, by decide +kernel, C_2_65, W_X6_doingsIn, I_X6_doingsIn, S_X6_doingsIn, rfl, rfl, R_X6_doingsIn l⟩, fun _ h => by cases h⟩
def U_X2_misleads : List (Nat × zE) := [(0, Sum.inl (0, 0, 0, 0, 1, [])), (1, Sum.inl (5, 3, 0, 0, 2, [])), (2, Sum.inl (0, 0, 0, 0, 3, [])), (3, Sum.inl (5, 4, 0, 0, 5, [])), (5, Sum.inl (2, 4, 0, 0, 7, [])), (7, Sum.inl (4, 0, 0, 0, 8, [])), (8, Sum.inl (18, 2, 0, 0, 11, [])), (11, Sum.inl (18, 6, 8, 0, 14, [])), (14, Sum.inl (16, 1, 17, 0, 144, [])), (17, Sum.inl (2, 1, 0, 0, 18, [])), (18, Sum.inl (2, 4, 0, 0, 20, [])), (20, Sum.inl (9, 7, 0, 0, 21, [])), (21, Sum.inl (0, 0, 0, 1, 22, [])), (22, Sum.inl (9, 3, 0, 0, 23, [])), (23, Sum.inl (0, 0, 0, 1, 24, [])), (24, Sum.inl (16, 0, 27, 0, 31, [])), (27, Sum.inl (0, 0, 0, 1, 28, [])), (28, Sum.inl (15, 0, 0, 0, 32, [])), (31, Sum.inl (0, 0, 0, 0, 32, [])), (32, Sum.inl (5, 5, 0, 0, 34, [])), (34, Sum.inl (4, 0, 0, 0, 35, [])), (35, Sum.inl (18, 2, 0, 0, 38, [])), (38, Sum.inl (2, 2, 0, 0, 39, [])), (39, Sum.inl (2, 4, 0, 0, 41, [])), (41, Sum.inr (0, 0, 2, 0, 0, 0, 6)), (44, Sum.inl (5, 6, 0, 0, 46, [])), (46, Sum.inl (0, 0, 0, 0, 47, [])), (47, Sum.inl (5, 7, 0, 0, 49, [])), (49, Sum.inl (0, 0, 0, 0, 50, [])), (50, Sum.inl (5, 8, 0, 0, 52, [])), (52, Sum.inl (2, 8, 0, 0, 54, [])), (54, Sum.inl (0, 0, 0, 4, 55, [])), (55, Sum.inl (16, 1, 58, 0, 131, [])), (58, Sum.inl (4, 0, 0, 0, 59, [])), (59, Sum.inl (18, 2, 4, 0, 62, [])), (62, Sum.inl (2, 4, 0, 0, 64, [])), (64, Sum.inl (0, 0, 0, 4, 65, [])), (65, Sum.inl (9, 2, 0, 0, 66, [])), (66, Sum.inl (2, 8, 0, 0, 68, [])), (68, Sum.inl (9, 0, 0, 0, 69, [])), (69, Sum.inl (20, 0, 0, 0, 70, [])), (70, Sum.inl (5, 9, 0, 0, 72, [])), (72, Sum.inl (2, 5, 0, 0, 74, [])), (74, Sum.inl (2, 8, 0, 0, 76, [])), (76, Sum.inl (4, 0, 0, 0, 77, [])), (77, Sum.inl (18, 2, 3, 0, 80, [])), (80, Sum.inl (2, 4, 0, 0, 82, [])), (82, Sum.inl (20, 0, 0, 0, 83, [])), (83, Sum.inl (16, 0, 90, 0, 86, [])), (86, Sum.inl (0, 0, 0, 1, 87, [])), (87, Sum.inl (15, 0, 0, 0, 91, [])), (90, Sum.inl (0, 0, 0, 0, 91, [])), (91, Sum.inl (16, 0, 94, 0, 125, [])), (94, Sum.inl (2, 9, 0, 0, 96, [])), (96, Sum.inl (2, 6, 0, 0, 98, [])), (98, Sum.inl (0, 0, 0, (-1), 99, [])), (99, Sum.inl (9, 5, 0, 0, 100, [])), (100, Sum.inl (9, 3, 0, 0, 101, [])), (101, Sum.inl (17, 0, 125, 0, 104, [])), (104, Sum.inl (0, 0, 0, 1, 105, [])), (105, Sum.inl (5, 7, 0, 0, 107, [])), (107, Sum.inl (2, 3, 0, 0, 108, [])), (108, Sum.inl (17, 0, 111, 0, 119, [])), (111, Sum.inl (2, 9, 0, 0, 113, [])), (113, Sum.inl (2, 6, 0, 0, 115, [])), (115, Sum.inl (9, 3, 0, 0, 116, [])), (116, Sum.inl (17, 0, 123, 0, 119, [])), (119, Sum.inl (0, 0, 0, 1, 120, [])), (120, Sum.inl (15, 0, 0, 0, 124, [])), (123, Sum.inl (0, 0, 0, 0, 124, [])), (124, Sum.inl (5, 3, 0, 0, 125, [])), (125, Sum.inl (8, 8, 0, 1, 128, [])), (128, Sum.inl (15, 0, 0, 0, 52, [])), (131, Sum.inl (2, 7, 0, 0, 133, [])), (133, Sum.inl (17, 0, 136, 0, 138, [])), (136, Sum.inl (0, 0, 0, 0, 137, [])), (137, Sum.inl (27, 0, 0, 0, 138, [])), (138, Sum.inl (8, 4, 0, 1, 141, [])), (141, Sum.inl (15, 0, 0, 0, 5, [])), (144, Sum.inl (2, 3, 0, 0, 145, [])), (145, Sum.inl (27, 0, 0, 0, 146, []))]
theorem Z_X2_misleads (l : Launch) : ∀ q ∈ U_X2_misleads, zTok l O_X2_misleads F_X2_misleads q := zU_ok rfl rfl rfl K_X2_misleads (E_X2_misleads l)
def wp_X2_misleads (a : List zV) (S : zS) (K : zR2 → zS → Prop) : Prop := match a with
  | [.inr (.inl c), .inl x, .inl y] => ∃ (D : zD) (t r set : Nat), (c = 39 ∧ dOK D ∧ cOK S D ∧ t < 24 ∧ gdC S D t (dL D) ∧ x = (set : Int) ∧ set < 256 ∧ y = (r : Int) ∧ r < dR D) ∧ K (.inl (some (.inl (bti (mlC D t r set) : Int)))) S
  | _ => False
theorem any_fmk {m : Nat} (hm : m < 4096) (p : Nat → Bool) : spr (fmk m p) = 0 ↔ (bl m).any p = false := by
  rw [spr_0 (fmk_lt _ _), bl_fmk hm, any_fil]
section
variable {l : Launch} {S : zS} {Q : zR2 → zS → Prop} {D : zD} {t r set : Nat}
theorem L0_X2_misleads {i : Nat} {v5 : Int} (hD : dOK D) (hC : cOK S D) (ht : t < 24) (hg : gdC S D t (dL D)) (hr : r < dR D) (hi : i < dL D) (h5 : (v5 = 1 ∧ bt1 set i = 1) ∨ (v5 = 0 ∧ bt1 set i = 0)) {fin : Bool × Bool} (h : zGs l 1 0 0 F_X2_misleads S 131 [(0, .inr (.inl 39)), (1, .inl (set : Int)), (2, .inl (r : Int)), (3, .inl (bti fin.2 : Int)), (4, .inl (i : Int)), (7, .inl (bti fin.1 : Int))] [] Q) (f : Nat) : ∀ s a b, s + f = 4 → inS D t r set i f s a b = fin → zGs l 1 0 0 F_X2_misleads S 52 [(0, .inr (.inl 39)), (1, .inl (set : Int)), (2, .inl (r : Int)), (3, .inl (bti b : Int)), (4, .inl (i : Int)), (5, .inl v5), (6, .inl (thx D r i : Int)), (7, .inl (bti a : Int)), (8, .inl (s : Int))] [] Q := by
  have h6 := hD.lodgers
  have h8 := hD.rooms
  obtain ⟨g1, g2⟩ := hg i hi
  induction f with
  | zero =>
    intro s a b hs he
    have he : (a, b) = fin := he
    subst he
    refine zwq_ok (Z_X2_misleads l) rfl [52, 131] (fun _ _ _ _ _ _ h => h) 400 (Z_X2_misleads l) ?_
    refine ⟨fun c => by omega, fun c => ?_⟩
    exact zGs.sub (lo := [(0, _), (1, _), (2, _), (3, _), (4, _), (5, _), (6, _), (7, _), (8, _)]) h (fun q hq => by simp only [List.mem_cons, List.not_mem_nil, or_false] at hq; rcases hq with rfl | rfl | rfl | rfl | rfl | rfl <;> first | exact .head _ | exact .tail _ (.head _) | exact .tail _ (.tail _ (.head _)) | exact .tail _ (.tail _ (.tail _ (.head _))) | exact .tail _ (.tail _ (.tail _ (.tail _ (.head _)))) | exact .tail _ (.tail _ (.tail _ (.tail _ (.tail _ (.head _))))) | exact .tail _ (.tail _ (.tail _ (.tail _ (.tail _ (.tail _ (.head _)))))) | exact .tail _ (.tail _ (.tail _ (.tail _ (.tail _ (.tail _ (.tail _ (.head _))))))) | exact .tail _ (.tail _ (.tail _ (.tail _ (.tail _ (.tail _ (.tail _ (.tail _ (.head _)))))))) | exact .tail _ (.tail _ (.tail _ (.tail _ (.tail _ (.tail _ (.tail _ (.tail _ (.tail _ (.head _))))))))) | exact .tail _ (.tail _ (.tail _ (.tail _ (.tail _ (.tail _ (.tail _ (.tail _ (.tail _ (.tail _ (.head _)))))))))) | exact .tail _ (.tail _ (.tail _ (.tail _ (.tail _ (.tail _ (.tail _ (.tail _ (.tail _ (.tail _ (.tail _ (.head _))))))))))) | exact .tail _ (.tail _ (.tail _ (.tail _ (.tail _ (.tail _ (.tail _ (.tail _ (.tail _ (.tail _ (.tail _ (.tail _ (.head _)))))))))))) | exact .tail _ (.tail _ (.tail _ (.tail _ (.tail _ (.tail _ (.tail _ (.tail _ (.tail _ (.tail _ (.tail _ (.tail _ (.tail _ (.head _))))))))))))))
  | succ f ih =>
    intro s a b hs he
    have hm := gm_lt D i (24 * i + t) s
    have hR := gr_rm hD (s := s) ht hi
    have eg := g2 s (by omega)
    have e1 := sub_thx (D := D) (l := i) (r := r) (by omega) hm hR
    have e2 := and_thx (D := D) (l := i) (r := r) (by omega) hm hR
    have q1 := any_fmk hm (fun a => !thr D r i a)
    have q2 := any_fmk hm (thr D r i)
    have he : (bif okB D t set i s && awB D t r i s then inS D t r set i f (s + 1) true (b || thB D t r i s) else inS D t r set i f (s + 1) a b) = fin := he
    have no : (okB D t set i s && awB D t r i s) = false → zGs l 1 0 0 F_X2_misleads S 125 [(0, .inr (.inl 39)), (1, .inl (set : Int)), (2, .inl (r : Int)), (3, .inl (bti b : Int)), (4, .inl (i : Int)), (5, .inl v5), (6, .inl (thx D r i : Int)), (7, .inl (bti a : Int)), (8, .inl (s : Int))] [] Q := fun c => by
      rw [c] at he
      have := ih (s + 1) a b (by omega) he
      refine zwq_ok (Z_X2_misleads l) rfl [52] (fun _ _ _ _ _ _ h => h) 400 (Z_X2_misleads l) ?_
      exact ⟨by omega, this⟩
    have yes : okB D t set i s = true → awB D t r i s = true → ∀ v : Int, v = (bti (b || thB D t r i s) : Int) → zGs l 1 0 0 F_X2_misleads S 125 [(0, .inr (.inl 39)), (1, .inl (set : Int)), (2, .inl (r : Int)), (3, .inl v), (4, .inl (i : Int)), (5, .inl v5), (6, .inl (thx D r i : Int)), (7, .inl 1), (8, .inl (s : Int))] [] Q := fun c1 c2 v hv => by
      subst hv
      rw [c1, c2] at he
      have := ih (s + 1) true (b || thB D t r i s) (by omega) he
      refine zwq_ok (Z_X2_misleads l) rfl [52] (fun _ _ _ _ _ _ h => h) 400 (Z_X2_misleads l) ?_
      exact ⟨by omega, this⟩
    -- behind the test of the sign
    have two : okB D t set i s = true → zGs l 1 0 0 F_X2_misleads S 94 [(0, .inr (.inl 39)), (1, .inl (set : Int)), (2, .inl (r : Int)), (3, .inl (bti b : Int)), (4, .inl (i : Int)), (5, .inl v5), (6, .inl (thx D r i : Int)), (7, .inl (bti a : Int)), (8, .inl (s : Int)), (9, .inl (S 41 (4 * i + s)))] [] Q := fun hok => by
      refine zwq_ok (Z_X2_misleads l) rfl [125] (fun _ _ _ _ _ _ h => h) 400 (Z_X2_misleads l) ?_
      refine ⟨fun c => ?_, fun c => ⟨fun c2 => ⟨fun c3 => ?_, fun c3 => ?_⟩, fun c2 => ?_⟩⟩
      · rw [eg] at c
        have c : zand (spr (gmD D i (24 * i + t) s) : Int) (zxor (thx D r i : Int) (-1)) = 0 := c
        rw [e1] at c
        have : awB D t r i s = false := q1.mp (by omega)
        exact zGs.sub (lo := [(0, _), (1, _), (2, _), (3, _), (4, _), (5, _), (6, _), (7, _), (8, _), (9, _)]) (no (by rw [this, Bool.and_false])) (fun q hq => by simp only [List.mem_cons, List.not_mem_nil, or_false] at hq; rcases hq with rfl | rfl | rfl | rfl | rfl | rfl | rfl | rfl | rfl <;> first | exact .head _ | exact .tail _ (.head _) | exact .tail _ (.tail _ (.head _)) | exact .tail _ (.tail _ (.tail _ (.head _))) | exact .tail _ (.tail _ (.tail _ (.tail _ (.head _)))) | exact .tail _ (.tail _ (.tail _ (.tail _ (.tail _ (.head _))))) | exact .tail _ (.tail _ (.tail _ (.tail _ (.tail _ (.tail _ (.head _)))))) | exact .tail _ (.tail _ (.tail _ (.tail _ (.tail _ (.tail _ (.tail _ (.head _))))))) | exact .tail _ (.tail _ (.tail _ (.tail _ (.tail _ (.tail _ (.tail _ (.tail _ (.head _)))))))) | exact .tail _ (.tail _ (.tail _ (.tail _ (.tail _ (.tail _ (.tail _ (.tail _ (.tail _ (.head _))))))))) | exact .tail _ (.tail _ (.tail _ (.tail _ (.tail _ (.tail _ (.tail _ (.tail _ (.tail _ (.tail _ (.head _)))))))))) | exact .tail _ (.tail _ (.tail _ (.tail _ (.tail _ (.tail _ (.tail _ (.tail _ (.tail _ (.tail _ (.tail _ (.head _))))))))))) | exact .tail _ (.tail _ (.tail _ (.tail _ (.tail _ (.tail _ (.tail _ (.tail _ (.tail _ (.tail _ (.tail _ (.tail _ (.head _)))))))))))) | exact .tail _ (.tail _ (.tail _ (.tail _ (.tail _ (.tail _ (.tail _ (.tail _ (.tail _ (.tail _ (.tail _ (.tail _ (.tail _ (.head _))))))))))))))
      · rw [eg] at c c3
        have c : ¬ zand (spr (gmD D i (24 * i + t) s) : Int) (zxor (thx D r i : Int) (-1)) = 0 := c
        have c3 : zand (spr (gmD D i (24 * i + t) s) : Int) (thx D r i : Int) = 0 := c3
        rw [e1] at c
        rw [e2] at c3
        have ha : awB D t r i s = true := by
          cases hb : awB D t r i s
          · have := q1.mpr hb; omega
          · rfl
        have ht : thB D t r i s = false := q2.mp (by omega)
        have hb : b = false := by
          cases b
          · rfl
          · exact absurd c2 (by decide)
        exact zGs.sub (lo := [(0, _), (1, _), (2, _), (3, _), (4, _), (5, _), (6, _), (7, _), (8, _), (9, _)]) (yes hok ha 0 (by rw [ht, hb]; rfl)) (fun q hq => by simp only [List.mem_cons, List.not_mem_nil, or_false] at hq; rcases hq with rfl | rfl | rfl | rfl | rfl | rfl | rfl | rfl | rfl <;> first | exact .head _ | exact .tail _ (.head _) | exact .tail _ (.tail _ (.head _)) | exact .tail _ (.tail _ (.tail _ (.head _))) | exact .tail _ (.tail _ (.tail _ (.tail _ (.head _)))) | exact .tail _ (.tail _ (.tail _ (.tail _ (.tail _ (.head _))))) | exact .tail _ (.tail _ (.tail _ (.tail _ (.tail _ (.tail _ (.head _)))))) | exact .tail _ (.tail _ (.tail _ (.tail _ (.tail _ (.tail _ (.tail _ (.head _))))))) | exact .tail _ (.tail _ (.tail _ (.tail _ (.tail _ (.tail _ (.tail _ (.tail _ (.head _)))))))) | exact .tail _ (.tail _ (.tail _ (.tail _ (.tail _ (.tail _ (.tail _ (.tail _ (.tail _ (.head _))))))))) | exact .tail _ (.tail _ (.tail _ (.tail _ (.tail _ (.tail _ (.tail _ (.tail _ (.tail _ (.tail _ (.head _)))))))))) | exact .tail _ (.tail _ (.tail _ (.tail _ (.tail _ (.tail _ (.tail _ (.tail _ (.tail _ (.tail _ (.tail _ (.head _))))))))))) | exact .tail _ (.tail _ (.tail _ (.tail _ (.tail _ (.tail _ (.tail _ (.tail _ (.tail _ (.tail _ (.tail _ (.tail _ (.head _)))))))))))) | exact .tail _ (.tail _ (.tail _ (.tail _ (.tail _ (.tail _ (.tail _ (.tail _ (.tail _ (.tail _ (.tail _ (.tail _ (.tail _ (.head _))))))))))))))
      · rw [eg] at c c3
        have c : ¬ zand (spr (gmD D i (24 * i + t) s) : Int) (zxor (thx D r i : Int) (-1)) = 0 := c
        have c3 : ¬ zand (spr (gmD D i (24 * i + t) s) : Int) (thx D r i : Int) = 0 := c3
        rw [e1] at c
        rw [e2] at c3
        have ha : awB D t r i s = true := by
          cases hb : awB D t r i s
          · have := q1.mpr hb; omega
          · rfl
        have ht : thB D t r i s = true := by
          cases hb : thB D t r i s
          · have := q2.mpr hb; omega
          · rfl
        exact zGs.sub (lo := [(0, _), (1, _), (2, _), (3, _), (4, _), (5, _), (6, _), (7, _), (8, _), (9, _)]) (yes hok ha 1 (by rw [ht, Bool.or_true]; rfl)) (fun q hq => by simp only [List.mem_cons, List.not_mem_nil, or_false] at hq; rcases hq with rfl | rfl | rfl | rfl | rfl | rfl | rfl | rfl | rfl <;> first | exact .head _ | exact .tail _ (.head _) | exact .tail _ (.tail _ (.head _)) | exact .tail _ (.tail _ (.tail _ (.head _))) | exact .tail _ (.tail _ (.tail _ (.tail _ (.head _)))) | exact .tail _ (.tail _ (.tail _ (.tail _ (.tail _ (.head _))))) | exact .tail _ (.tail _ (.tail _ (.tail _ (.tail _ (.tail _ (.head _)))))) | exact .tail _ (.tail _ (.tail _ (.tail _ (.tail _ (.tail _ (.tail _ (.head _))))))) | exact .tail _ (.tail _ (.tail _ (.tail _ (.tail _ (.tail _ (.tail _ (.tail _ (.head _)))))))) | exact .tail _ (.tail _ (.tail _ (.tail _ (.tail _ (.tail _ (.tail _ (.tail _ (.tail _ (.head _))))))))) | exact .tail _ (.tail _ (.tail _ (.tail _ (.tail _ (.tail _ (.tail _ (.tail _ (.tail _ (.tail _ (.head _)))))))))) | exact .tail _ (.tail _ (.tail _ (.tail _ (.tail _ (.tail _ (.tail _ (.tail _ (.tail _ (.tail _ (.tail _ (.head _))))))))))) | exact .tail _ (.tail _ (.tail _ (.tail _ (.tail _ (.tail _ (.tail _ (.tail _ (.tail _ (.tail _ (.tail _ (.tail _ (.head _)))))))))))) | exact .tail _ (.tail _ (.tail _ (.tail _ (.tail _ (.tail _ (.tail _ (.tail _ (.tail _ (.tail _ (.tail _ (.tail _ (.tail _ (.head _))))))))))))))
      · rw [eg] at c
        have c : ¬ zand (spr (gmD D i (24 * i + t) s) : Int) (zxor (thx D r i : Int) (-1)) = 0 := c
        rw [e1] at c
        have ha : awB D t r i s = true := by
          cases hb : awB D t r i s
          · have := q1.mpr hb; omega
          · rfl
        have hb : b = true := by
          cases b
          · exact absurd rfl c2
          · rfl
        exact zGs.sub (lo := [(0, _), (1, _), (2, _), (3, _), (4, _), (5, _), (6, _), (7, _), (8, _), (9, _)]) (yes hok ha 1 (by rw [hb]; rfl)) (fun q hq => by simp only [List.mem_cons, List.not_mem_nil, or_false] at hq; rcases hq with rfl | rfl | rfl | rfl | rfl | rfl | rfl | rfl | rfl <;> first | exact .head _ | exact .tail _ (.head _) | exact .tail _ (.tail _ (.head _)) | exact .tail _ (.tail _ (.tail _ (.head _))) | exact .tail _ (.tail _ (.tail _ (.tail _ (.head _)))) | exact .tail _ (.tail _ (.tail _ (.tail _ (.tail _ (.head _))))) | exact .tail _ (.tail _ (.tail _ (.tail _ (.tail _ (.tail _ (.head _)))))) | exact .tail _ (.tail _ (.tail _ (.tail _ (.tail _ (.tail _ (.tail _ (.head _))))))) | exact .tail _ (.tail _ (.tail _ (.tail _ (.tail _ (.tail _ (.tail _ (.tail _ (.head _)))))))) | exact .tail _ (.tail _ (.tail _ (.tail _ (.tail _ (.tail _ (.tail _ (.tail _ (.tail _ (.head _))))))))) | exact .tail _ (.tail _ (.tail _ (.tail _ (.tail _ (.tail _ (.tail _ (.tail _ (.tail _ (.tail _ (.head _)))))))))) | exact .tail _ (.tail _ (.tail _ (.tail _ (.tail _ (.tail _ (.tail _ (.tail _ (.tail _ (.tail _ (.tail _ (.head _))))))))))) | exact .tail _ (.tail _ (.tail _ (.tail _ (.tail _ (.tail _ (.tail _ (.tail _ (.tail _ (.tail _ (.tail _ (.tail _ (.head _)))))))))))) | exact .tail _ (.tail _ (.tail _ (.tail _ (.tail _ (.tail _ (.tail _ (.tail _ (.tail _ (.tail _ (.tail _ (.tail _ (.tail _ (.head _))))))))))))))
    have none : okB D t set i s = false → zGs l 1 0 0 F_X2_misleads S 125 [(0, .inr (.inl 39)), (1, .inl (set : Int)), (2, .inl (r : Int)), (3, .inl (bti b : Int)), (4, .inl (i : Int)), (5, .inl v5), (6, .inl (thx D r i : Int)), (7, .inl (bti a : Int)), (8, .inl (s : Int)), (9, .inl (S 41 (4 * i + s)))] [] Q := fun hok =>
      zGs.sub (no (by rw [hok, Bool.false_and])) (fun q hq => by simp only [List.mem_cons, List.not_mem_nil, or_false] at hq; rcases hq with rfl | rfl | rfl | rfl | rfl | rfl | rfl | rfl | rfl <;> first | exact .head _ | exact .tail _ (.head _) | exact .tail _ (.tail _ (.head _)) | exact .tail _ (.tail _ (.tail _ (.head _))) | exact .tail _ (.tail _ (.tail _ (.tail _ (.head _)))) | exact .tail _ (.tail _ (.tail _ (.tail _ (.tail _ (.head _))))) | exact .tail _ (.tail _ (.tail _ (.tail _ (.tail _ (.tail _ (.head _)))))) | exact .tail _ (.tail _ (.tail _ (.tail _ (.tail _ (.tail _ (.tail _ (.head _))))))) | exact .tail _ (.tail _ (.tail _ (.tail _ (.tail _ (.tail _ (.tail _ (.tail _ (.head _)))))))) | exact .tail _ (.tail _ (.tail _ (.tail _ (.tail _ (.tail _ (.tail _ (.tail _ (.tail _ (.head _))))))))) | exact .tail _ (.tail _ (.tail _ (.tail _ (.tail _ (.tail _ (.tail _ (.tail _ (.tail _ (.tail _ (.head _)))))))))) | exact .tail _ (.tail _ (.tail _ (.tail _ (.tail _ (.tail _ (.tail _ (.tail _ (.tail _ (.tail _ (.tail _ (.head _))))))))))) | exact .tail _ (.tail _ (.tail _ (.tail _ (.tail _ (.tail _ (.tail _ (.tail _ (.tail _ (.tail _ (.tail _ (.tail _ (.head _)))))))))))) | exact .tail _ (.tail _ (.tail _ (.tail _ (.tail _ (.tail _ (.tail _ (.tail _ (.tail _ (.tail _ (.tail _ (.tail _ (.tail _ (.head _))))))))))))))
    have ok1 : bt1 set i = 1 → okB D t set i s = !(Nat.beq s (sgL D t i)) := fun c => by unfold okB; rw [c]; rfl
    have ok0 : bt1 set i = 0 → okB D t set i s = Nat.beq s (sgL D t i) := fun c => by unfold okB; rw [c]; rfl
    refine zwq_ok (Z_X2_misleads l) rfl [52, 94, 125] (fun _ _ _ _ _ _ h => h) 400 (Z_X2_misleads l) ?_
    refine ⟨fun c => ⟨by omega, by omega, 4 * i + s, ⟨by omega, by omega⟩, i, ⟨rfl, by omega⟩, fun c2 => ⟨fun c3 => ?_, fun c3 => ?_⟩, fun c2 => ⟨fun c3 => ?_, fun c3 => ?_⟩⟩, fun c => by omega⟩
    · exact two (by rw [ok0 (by omega), nbeq]; omega)
    · exact none (by rw [ok1 (by omega), show s = sgL D t i by omega, Nat.beq_refl]; rfl)
    · exact two (by rw [ok1 (by omega), beqN (by omega)]; rfl)
    · exact none (by rw [ok0 (by omega)]; exact beqN (by omega))
theorem L_X2_misleads (hD : dOK D) (hC : cOK S D) (ht : t < 24) (hg : gdC S D t (dL D)) (hs : set < 256) (hr : r < dR D) (f : Nat) : ∀ i b, i + f = dL D → Q (.inl (some (.inl (bti (ouS D t r set f i b) : Int)))) S → zGs l 1 0 0 F_X2_misleads S 5 [(0, .inr (.inl 39)), (1, .inl (set : Int)), (2, .inl (r : Int)), (3, .inl (bti b : Int)), (4, .inl (i : Int))] [] Q := by
  have h6 := hD.lodgers
  have h8 := hD.rooms
  have eL := hC.lodgers
  induction f with
  | zero =>
    intro i b hi h
    have hb := bti_le b
    refine zwq_ok (Z_X2_misleads l) rfl [5, 52] (fun _ _ _ _ _ _ h => h) 400 (Z_X2_misleads l) ?_
    refine ⟨fun c => by omega, fun c => ⟨by omega, h⟩⟩
  | succ f ih =>
    intro i b hi h
    have e := zbit_n (a := set) (j := i) (by omega) (by omega)
    have hb := bt1_lt set i
    have h : Q (.inl (some (.inl (bti (bif (inS D t r set i 4 0 false b).1 then ouS D t r set f (i + 1) (inS D t r set i 4 0 false b).2 else false) : Int)))) S := h
    have nx : zGs l 1 0 0 F_X2_misleads S 131 [(0, .inr (.inl 39)), (1, .inl (set : Int)), (2, .inl (r : Int)), (3, .inl (bti (inS D t r set i 4 0 false b).2 : Int)), (4, .inl (i : Int)), (7, .inl (bti (inS D t r set i 4 0 false b).1 : Int))] [] Q := by
      refine zwq_ok (Z_X2_misleads l) rfl [5] (fun _ _ _ _ _ _ h => h) 400 (Z_X2_misleads l) ?_
      refine ⟨fun c => ⟨Or.inl rfl, ?_⟩, fun c => ⟨by omega, ?_⟩⟩
      · have e9 : (inS D t r set i 4 0 false b).1 = false := by
          cases hq : (inS D t r set i 4 0 false b).1
          · rfl
          · rw [hq] at c; exact absurd c (by decide)
        rw [e9] at h
        exact h
      · have e9 : (inS D t r set i 4 0 false b).1 = true := by
          cases hq : (inS D t r set i 4 0 false b).1
          · rw [hq] at c; exact absurd rfl c
          · rfl
        rw [e9] at h
        exact zGs.sub (lo := [(0, _), (1, _), (2, _), (3, _), (4, _), (7, _)]) (ih (i + 1) _ (by omega) h) (fun q hq => by simp only [List.mem_cons, List.not_mem_nil, or_false] at hq; rcases hq with rfl | rfl | rfl | rfl | rfl <;> first | exact .head _ | exact .tail _ (.head _) | exact .tail _ (.tail _ (.head _)) | exact .tail _ (.tail _ (.tail _ (.head _))) | exact .tail _ (.tail _ (.tail _ (.tail _ (.head _)))) | exact .tail _ (.tail _ (.tail _ (.tail _ (.tail _ (.head _))))) | exact .tail _ (.tail _ (.tail _ (.tail _ (.tail _ (.tail _ (.head _)))))) | exact .tail _ (.tail _ (.tail _ (.tail _ (.tail _ (.tail _ (.tail _ (.head _))))))) | exact .tail _ (.tail _ (.tail _ (.tail _ (.tail _ (.tail _ (.tail _ (.tail _ (.head _)))))))) | exact .tail _ (.tail _ (.tail _ (.tail _ (.tail _ (.tail _ (.tail _ (.tail _ (.tail _ (.head _))))))))) | exact .tail _ (.tail _ (.tail _ (.tail _ (.tail _ (.tail _ (.tail _ (.tail _ (.tail _ (.tail _ (.head _)))))))))) | exact .tail _ (.tail _ (.tail _ (.tail _ (.tail _ (.tail _ (.tail _ (.tail _ (.tail _ (.tail _ (.tail _ (.head _))))))))))) | exact .tail _ (.tail _ (.tail _ (.tail _ (.tail _ (.tail _ (.tail _ (.tail _ (.tail _ (.tail _ (.tail _ (.tail _ (.head _)))))))))))) | exact .tail _ (.tail _ (.tail _ (.tail _ (.tail _ (.tail _ (.tail _ (.tail _ (.tail _ (.tail _ (.tail _ (.tail _ (.tail _ (.head _))))))))))))))
    refine zwq_ok (Z_X2_misleads l) rfl [5, 52] (fun _ _ _ _ _ _ h => h) 400 (Z_X2_misleads l) ?_
    refine ⟨fun c => ⟨fun c2 => ⟨D, r, i, ⟨rfl, hD, hC, rfl, rfl, by omega, by omega⟩, ?_⟩, fun c2 => ⟨D, r, i, ⟨rfl, hD, hC, rfl, rfl, by omega, by omega⟩, ?_⟩⟩, fun c => by omega⟩
    · rw [e] at c2
      exact L0_X2_misleads hD hC ht hg hr (by omega) (Or.inl ⟨rfl, by omega⟩) nx 4 0 false b (by omega) rfl
    · rw [e] at c2
      exact L0_X2_misleads hD hC ht hg hr (by omega) (Or.inr ⟨rfl, by omega⟩) nx 4 0 false b (by omega) rfl
end
theorem R_X2_misleads (l : Launch) (a : List zV) (S : zS) (Q : zR2 → zS → Prop) (h : wp_X2_misleads a S Q) : zRs l 1 0 0 yX2_misleads (.code yX2_misleads cX2_misleads 10 (some .boolean)) a S Q := by
  unfold wp_X2_misleads at h
  split at h
  · obtain ⟨D, t, r, set, ⟨rfl, hD, hC, ht, hg, rfl, hs, rfl, hr⟩, h⟩ := h
    refine zRs_of 2 (by decide) rfl rfl ?_; refine zwq_ok (Z_X2_misleads l) rfl [5] (fun _ _ _ _ _ _ h => h) 400 (Z_X2_misleads l) ?_
    exact L_X2_misleads hD hC ht hg hs hr (dL D) 0 false (by omega) h
  · exact h.elim
