/-! the house: the class takes the draft -/
def wp_X6_doings_b (a : List zV) (S : zS) (K : zR2 → zS → Prop) : Prop := match a with
  | [.inr (.inl c), .inl x, .inl y] => ∃ (P : zD) (i t : Nat), (c = 3 ∧ x = (i : Int) ∧ y = (t : Int) ∧ i < 6 ∧ t < 24 ∧ P 7 (24 * i + t) < 4096 ∧ S 9 (24 * i + t) = (spr (P 7 (24 * i + t)) : Int)) ∧ K (.inl (some (.inl (spr (myP P (24 * i + t)) : Int)))) S
  | _ => False
theorem R_X6_doings_b (l : Launch) (a : List zV) (S : zS) (Q : zR2 → zS → Prop) (h : wp_X6_doings_b a S Q) : zRs l 0 0 0 yX6_doings (.code yX6_doings cX6_doings 4 (some .int)) a S Q := by
  unfold wp_X6_doings_b at h
  split at h
  · obtain ⟨P, i, t, ⟨rfl, rfl, rfl, hi, ht, hm, e⟩, h⟩ := h
    unfold myP at h
    refine zRs_of 6 (by decide) rfl rfl ?_; refine zwq_ok (Z_X6_doings l) rfl [] (fun _ _ _ _ _ _ h => h) 400 (Z_X6_doings l) ?_
    have z := (spr_0 hm)
    refine ⟨by omega, by omega, 24 * i + t, ⟨by omega, by omega⟩, fun c => ?_, fun c => ?_⟩
    · have : P 7 (24 * i + t) = 0 := by
        have h0 : spr (P 7 (24 * i + t)) = 0 := by omega
        unfold spr at h0
        omega
      rw [if_pos this] at h
      exact h
    · have : ¬ P 7 (24 * i + t) = 0 := fun z0 => by
        rw [z0] at e
        exact c e
      rw [if_neg this, ← e] at h
      exact h
  · exact h.elim
def B_X0_begin : List (Nat × zC) := [(6, (0, 0, 0, 0, 0, 0, 0)), (74, (0, 1, 2, 0, 0, 0, 6)), (78, (3, 2, 2, 0, 0, 0, 0))]
def O_X0_begin : zO := fun j a S K => match j with
  | 0 => wp_X0_seeNothing a S K
  | 1 => wp_X6_doings_b a S K
  | 2 => wp_X11_nthBit a S K
  | _ => False
theorem E_X0_begin (l : Launch) : ∀ q ∈ B_X0_begin, zcok l O_X0_begin F_X0_begin q.1 q.2 := List.forall_mem_cons.mpr ⟨⟨40, yX0_seeNothing, cX0_seeNothing, 1, none, by decide +kernel, C_0_40, W_X0_seeNothing, I_X0_seeNothing, S_X0_seeNothing, rfl, rfl, R_X0_seeNothing l⟩, List.forall_mem_cons.mpr ⟨⟨51, yX6_doings, cX6_doings, 4, some .int, by decide +kernel, C_0_51, W_X6_doings, I_X6_doings, S_X6_doings, rfl, rfl, R_X6_doings_b l⟩, List.forall_mem_cons.mpr ⟨⟨55, yX11_nthBit, cX11_nthBit, 4, some .int, RX11, by decide +kernel, by decide +kernel, W_X11_nthBit, I_X11_nthBit, rfl, R_X11_nthBit l⟩, fun _ h => by cases h⟩⟩⟩
def U_X0_begin : List (Nat × zE) := [(0, Sum.inl (4, 0, 0, 0, 1, [])), (1, Sum.inl (0, 0, 0, 0, 2, [])), (2, Sum.inl (19, 0, 7, 0, 5, [])), (5, Sum.inl (4, 0, 0, 0, 6, [])), (6, Sum.inr (0, 0, 0, 0, 0, 0, 0)), (9, Sum.inl (0, 0, 0, 0, 10, [])), (10, Sum.inl (5, 2, 0, 0, 11, [])), (11, Sum.inl (2, 2, 0, 0, 12, [])), (12, Sum.inl (4, 1, 0, 0, 13, [])), (13, Sum.inl (18, 6, 8, 0, 16, [])), (16, Sum.inl (16, 1, 19, 0, 94, [])), (19, Sum.inl (4, 0, 0, 0, 20, [])), (20, Sum.inl (18, 0, 3, 0, 23, [])), (23, Sum.inl (2, 2, 0, 0, 24, [])), (24, Sum.inl (0, 0, 0, 2, 25, [])), (25, Sum.inl (9, 2, 0, 0, 26, [])), (26, Sum.inl (4, 1, 0, 0, 27, [])), (27, Sum.inl (18, 6, 3, 0, 30, [])), (30, Sum.inl (2, 2, 0, 0, 31, [])), (31, Sum.inl (20, 0, 0, 0, 32, [])), (32, Sum.inl (0, 0, 0, 1, 33, [])), (33, Sum.inl (9, 3, 0, 0, 34, [])), (34, Sum.inl (21, 0, 0, 0, 35, [])), (35, Sum.inl (4, 0, 0, 0, 36, [])), (36, Sum.inl (18, 0, 3, 0, 39, [])), (39, Sum.inl (2, 2, 0, 0, 40, [])), (40, Sum.inl (0, 0, 0, 2, 41, [])), (41, Sum.inl (9, 2, 0, 0, 42, [])), (42, Sum.inl (0, 0, 0, 1, 43, [])), (43, Sum.inl (9, 0, 0, 0, 44, [])), (44, Sum.inl (4, 1, 0, 0, 45, [])), (45, Sum.inl (18, 6, 3, 0, 48, [])), (48, Sum.inl (2, 2, 0, 0, 49, [])), (49, Sum.inl (20, 0, 0, 0, 50, [])), (50, Sum.inl (0, 0, 0, 1, 51, [])), (51, Sum.inl (9, 7, 0, 0, 52, [])), (52, Sum.inl (21, 0, 0, 0, 53, [])), (53, Sum.inl (0, 0, 0, 0, 54, [])), (54, Sum.inl (5, 3, 0, 0, 55, [])), (55, Sum.inl (2, 3, 0, 0, 56, [])), (56, Sum.inl (0, 0, 0, 24, 58, [])), (58, Sum.inl (16, 1, 61, 0, 88, [])), (61, Sum.inl (4, 0, 0, 0, 62, [])), (62, Sum.inl (18, 0, 4, 0, 65, [])), (65, Sum.inl (2, 2, 0, 0, 66, [])), (66, Sum.inl (0, 0, 0, 24, 68, [])), (68, Sum.inl (9, 2, 0, 0, 69, [])), (69, Sum.inl (2, 3, 0, 0, 70, [])), (70, Sum.inl (9, 0, 0, 0, 71, [])), (71, Sum.inl (4, 1, 0, 0, 72, [])), (72, Sum.inl (2, 2, 0, 0, 73, [])), (73, Sum.inl (2, 3, 0, 0, 74, [])), (74, Sum.inr (0, 1, 2, 0, 0, 0, 6)), (77, Sum.inl (0, 0, 0, 0, 78, [])), (78, Sum.inr (3, 2, 2, 0, 0, 0, 0)), (81, Sum.inl (21, 0, 0, 0, 82, [])), (82, Sum.inl (8, 3, 0, 1, 85, [])), (85, Sum.inl (15, 0, 0, 0, 55, [])), (88, Sum.inl (8, 2, 0, 1, 91, [])), (91, Sum.inl (15, 0, 0, 0, 11, [])), (94, Sum.inl (0, 0, 0, 0, 95, [])), (95, Sum.inl (5, 2, 0, 0, 96, [])), (96, Sum.inl (2, 2, 0, 0, 97, [])), (97, Sum.inl (4, 1, 0, 0, 98, [])), (98, Sum.inl (18, 6, 9, 0, 101, [])), (101, Sum.inl (16, 1, 104, 0, 141, [])), (104, Sum.inl (0, 0, 0, 0, 105, [])), (105, Sum.inl (5, 3, 0, 0, 106, [])), (106, Sum.inl (2, 3, 0, 0, 107, [])), (107, Sum.inl (0, 0, 0, 24, 109, [])), (109, Sum.inl (16, 1, 112, 0, 135, [])), (112, Sum.inl (4, 0, 0, 0, 113, [])), (113, Sum.inl (18, 0, 5, 0, 116, [])), (116, Sum.inl (2, 2, 0, 0, 117, [])), (117, Sum.inl (0, 0, 0, 24, 119, [])), (119, Sum.inl (9, 2, 0, 0, 120, [])), (120, Sum.inl (2, 3, 0, 0, 121, [])), (121, Sum.inl (9, 0, 0, 0, 122, [])), (122, Sum.inl (4, 1, 0, 0, 123, [])), (123, Sum.inl (18, 6, 4, 0, 126, [])), (126, Sum.inl (2, 2, 0, 0, 127, [])), (127, Sum.inl (20, 0, 0, 0, 128, [])), (128, Sum.inl (21, 0, 0, 0, 129, [])), (129, Sum.inl (8, 3, 0, 1, 132, [])), (132, Sum.inl (15, 0, 0, 0, 106, [])), (135, Sum.inl (8, 2, 0, 1, 138, [])), (138, Sum.inl (15, 0, 0, 0, 96, [])), (141, Sum.inl (29, 0, 0, 0, 142, []))]
theorem Z_X0_begin (l : Launch) : ∀ q ∈ U_X0_begin, zTok l O_X0_begin F_X0_begin q := zU_ok rfl rfl rfl K_X0_begin (E_X0_begin l)
/-- how far the beginning has come -/
def bgC (S : zS) (S0 : zS) (P : zD) (a : Nat) (b : Nat) (d : Nat) : Prop := (∀ c, c ≠ 24 → c ≠ 25 → c ≠ 26 → S c = S0 c) ∧ (∀ k, k < b → S 24 k = (P 4 k : Int)) ∧ (∀ k, k < 144 → S 25 k = if k < a then (tol (lwD (myP P k)) : Int) else S0 25 k) ∧ (∀ k, k < 72 → S 26 k = if k < d then (P 5 (k / 24) : Int) else S0 26 k)
theorem bgC.fr {S : zS} {S0 : zS} {P : zD} {a : Nat} {b : Nat} {d : Nat} (h : bgC S S0 P a b d) : ∀ c, c ≠ 24 → c ≠ 25 → c ≠ 26 → S c = S0 c := h.1
theorem bgC.shoes {S : zS} {S0 : zS} {P : zD} {a : Nat} {b : Nat} {d : Nat} (h : bgC S S0 P a b d) : ∀ k, k < b → S 24 k = (P 4 k : Int) := h.2.1
theorem bgC.day {S : zS} {S0 : zS} {P : zD} {a : Nat} {b : Nat} {d : Nat} (h : bgC S S0 P a b d) : ∀ k, k < 144 → S 25 k = if k < a then (tol (lwD (myP P k)) : Int) else S0 25 k := h.2.2.1
theorem bgC.rounds {S : zS} {S0 : zS} {P : zD} {a : Nat} {b : Nat} {d : Nat} (h : bgC S S0 P a b d) : ∀ k, k < 72 → S 26 k = if k < d then (P 5 (k / 24) : Int) else S0 26 k := h.2.2.2
def plC (S : zS) (P : zD) : Prop := (S 3 8 = (P 0 1 : Int)) ∧ (S 3 9 = (P 0 2 : Int)) ∧ (∀ l, l < P 0 1 → S 7 l = (P 4 (2 * l) : Int) + 2 * (P 4 (2 * l + 1) : Int)) ∧ (∀ f, f < P 0 2 → S 8 f = (P 5 f : Int)) ∧ (∀ k, k < 144 → S 9 k = (spr (P 7 k) : Int))
theorem plC.lodgers {S : zS} {P : zD} (h : plC S P) : S 3 8 = (P 0 1 : Int) := h.1
theorem plC.finders {S : zS} {P : zD} (h : plC S P) : S 3 9 = (P 0 2 : Int) := h.2.1
theorem plC.feet {S : zS} {P : zD} (h : plC S P) : ∀ l, l < P 0 1 → S 7 l = (P 4 (2 * l) : Int) + 2 * (P 4 (2 * l + 1) : Int) := h.2.2.1
theorem plC.begins {S : zS} {P : zD} (h : plC S P) : ∀ f, f < P 0 2 → S 8 f = (P 5 f : Int) := h.2.2.2.1
theorem plC.told {S : zS} {P : zD} (h : plC S P) : ∀ k, k < 144 → S 9 k = (spr (P 7 k) : Int) := h.2.2.2.2
section
variable {l : Launch} {Q : zR2 → zS → Prop} {S0 : zS} {P : zD}
theorem plC.fr {S : zS} (h : plC S0 P) (hf : ∀ c, c ≠ 24 → c ≠ 25 → c ≠ 26 → S c = S0 c) : plC S P := by
  unfold plC at h ⊢
  rw [hf 3 (by omega) (by omega) (by omega), hf 7 (by omega) (by omega) (by omega), hf 8 (by omega) (by omega) (by omega), hf 9 (by omega) (by omega) (by omega)]
  exact h
theorem L1_X0_begin (hP : pOK P) (h0 : plC S0 P) {i : Nat} (hi : i < P 0 1) (k : ∀ S, bgC S S0 P (24 * (i + 1)) (2 * (i + 1)) 0 → zGs l 1 0 0 F_X0_begin S 11 [(0, .inr (.inl 20)), (1, .inr (.inl 3)), (2, .inl ((i : Int) + 1))] [] Q) (f : Nat) : ∀ (t : Nat) (S : zS), t + f = 24 → bgC S S0 P (24 * i + t) (2 * (i + 1)) 0 → zGs l 1 0 0 F_X0_begin S 55 [(0, .inr (.inl 20)), (1, .inr (.inl 3)), (2, .inl (i : Int)), (3, .inl (t : Int))] [] Q := by
  have o := hP.lodgers
  induction f with
  | zero =>
    intro t S ht hS
    have e : t = 24 := by omega
    subst e
    have go := k S (by rw [show 24 * (i + 1) = 24 * i + 24 by omega]; exact hS)
    refine zwq_ok (Z_X0_begin l) rfl [11, 55] (fun _ _ _ _ _ _ h => h) 400 (Z_X0_begin l) ?_
    refine ⟨fun c => by omega, fun c => ⟨by omega, ?_⟩⟩
    exact zGs.sub (lo := [(0, _), (1, _), (2, _), (3, _)]) go (fun q hq => by simp only [List.mem_cons, List.not_mem_nil, or_false] at hq; rcases hq with rfl | rfl | rfl <;> first | exact .head _ | exact .tail _ (.head _) | exact .tail _ (.tail _ (.head _)) | exact .tail _ (.tail _ (.tail _ (.head _))) | exact .tail _ (.tail _ (.tail _ (.tail _ (.head _)))) | exact .tail _ (.tail _ (.tail _ (.tail _ (.tail _ (.head _))))) | exact .tail _ (.tail _ (.tail _ (.tail _ (.tail _ (.tail _ (.head _)))))) | exact .tail _ (.tail _ (.tail _ (.tail _ (.tail _ (.tail _ (.tail _ (.head _))))))) | exact .tail _ (.tail _ (.tail _ (.tail _ (.tail _ (.tail _ (.tail _ (.tail _ (.head _)))))))) | exact .tail _ (.tail _ (.tail _ (.tail _ (.tail _ (.tail _ (.tail _ (.tail _ (.tail _ (.head _))))))))) | exact .tail _ (.tail _ (.tail _ (.tail _ (.tail _ (.tail _ (.tail _ (.tail _ (.tail _ (.tail _ (.head _)))))))))) | exact .tail _ (.tail _ (.tail _ (.tail _ (.tail _ (.tail _ (.tail _ (.tail _ (.tail _ (.tail _ (.tail _ (.head _))))))))))) | exact .tail _ (.tail _ (.tail _ (.tail _ (.tail _ (.tail _ (.tail _ (.tail _ (.tail _ (.tail _ (.tail _ (.tail _ (.head _)))))))))))) | exact .tail _ (.tail _ (.tail _ (.tail _ (.tail _ (.tail _ (.tail _ (.tail _ (.tail _ (.tail _ (.tail _ (.tail _ (.tail _ (.head _))))))))))))))
  | succ f ih =>
    intro t S ht hS
    have hp := h0.fr hS.fr
    have m1 := myP_1 hP (24 * i + t)
    have hs := chkA_ok m1.2
    have hget : (bl (spr (myP P (24 * i + t))))[0]? = some (tol (lwD (myP P (24 * i + t)))) := by
      rw [hs.2.1, List.getElem?_map, lw_get m1.1 m1.2]
      rfl
    have this := ih (t + 1) (zu S 25 (24 * i + t) (tol (lwD (myP P (24 * i + t))) : Int)) (by omega) ⟨fun c h1 h2 h3 => (zu_c h2).trans (hS.fr c h1 h2 h3), fun k hk => by rw [zuN (by omega)]; exact hS.shoes k hk, fun k hk => by
      rw [zu_i]
      split
      · rename_i c; rw [c, if_pos (by omega)]
      · rw [hS.day k hk]
        by_cases c : k < 24 * i + t
        · rw [if_pos c, if_pos (by omega)]
        · rw [if_neg c, if_neg (by omega)], fun k hk => by rw [zuN (by omega)]; exact hS.rounds k hk⟩
    refine zwq_ok (Z_X0_begin l) rfl [11, 55] (fun _ _ _ _ _ _ h => h) 400 (Z_X0_begin l) ?_
    refine ⟨fun c => ⟨by omega, by omega, P, i, t, ⟨rfl, rfl, rfl, by omega, by omega, hP.may _, hp.told _ (by omega)⟩, _, 0, _, ⟨rfl, hs.2.2.2, rfl, hget⟩, 24 * i + t, ⟨by omega, by omega⟩, by omega, ?_⟩, fun c => by omega⟩
    exact this
theorem L2_X0_begin (hP : pOK P) (h0 : plC S0 P) (k : ∀ S, bgC S S0 P (24 * P 0 1) (2 * P 0 1) 0 → zGs l 1 0 0 F_X0_begin S 94 [(0, .inr (.inl 20)), (1, .inr (.inl 3)), (2, .inl (P 0 1 : Int))] [] Q) (f : Nat) : ∀ (i : Nat) (S : zS), i + f = P 0 1 → bgC S S0 P (24 * i) (2 * i) 0 → zGs l 1 0 0 F_X0_begin S 11 [(0, .inr (.inl 20)), (1, .inr (.inl 3)), (2, .inl (i : Int))] [] Q := by
  have o := hP.lodgers
  induction f with
  | zero =>
    intro i S hi hS
    have e : i = P 0 1 := by omega
    subst e
    have hp := h0.fr hS.fr
    have e8 := hp.lodgers
    have go := k S hS
    refine zwq_ok (Z_X0_begin l) rfl [11, 55, 94] (fun _ _ _ _ _ _ h => h) 400 (Z_X0_begin l) ?_
    exact ⟨fun c => by omega, fun c => go⟩
  | succ f ih =>
    intro i S hi hS
    have hp := h0.fr hS.fr
    have e8 := hp.lodgers
    have ef := hp.feet i (by omega)
    have b1 := hP.feet (2 * i)
    have b2 := hP.feet (2 * i + 1)
    have s1 : zand (S 7 i) 1 = (P 4 (2 * i) : Int) := by
      rw [ef, show (P 4 (2 * i) : Int) + 2 * (P 4 (2 * i + 1) : Int) = ((P 4 (2 * i) + 2 * P 4 (2 * i + 1) : Nat) : Int) by omega]
      have := zand_n (a := P 4 (2 * i) + 2 * P 4 (2 * i + 1)) (b := 1) (by omega)
      rw [Nat.and_one_is_mod] at this
      rw [show (P 4 (2 * i) + 2 * P 4 (2 * i + 1)) % 2 = P 4 (2 * i) by omega] at this
      exact this
    have s2 : zshr (S 7 i) 1 = (P 4 (2 * i + 1) : Int) := by
      rw [ef, show (P 4 (2 * i) : Int) + 2 * (P 4 (2 * i + 1) : Int) = ((P 4 (2 * i) + 2 * P 4 (2 * i + 1) : Nat) : Int) by omega]
      have := zshr_n (a := P 4 (2 * i) + 2 * P 4 (2 * i + 1)) (k := 1) (by omega) (by decide)
      rw [show (P 4 (2 * i) + 2 * P 4 (2 * i + 1)) / 2 ^ 1 = P 4 (2 * i + 1) by omega] at this
      exact this
    have go := L1_X0_begin (l := l) (Q := Q) hP h0 (i := i) (by omega) (fun S' hS' => ih (i + 1) S' (by omega) hS') 24 0 (zu (zu S 24 (2 * i) (P 4 (2 * i) : Int)) 24 (2 * i + 1) (P 4 (2 * i + 1) : Int)) (by omega) ⟨fun c h1 h2 h3 => (zu_c h1).trans ((zu_c h1).trans (hS.fr c h1 h2 h3)), fun k hk => by
      rw [zu_i]
      split
      · rename_i c; rw [c]
      · rw [zu_i]
        split
        · rename_i c; rw [c]
        · exact hS.shoes k (by omega), fun k hk => by rw [zuN (by omega), zuN (by omega)]; exact hS.day k hk, fun k hk => by rw [zuN (by omega), zuN (by omega)]; exact hS.rounds k hk⟩
    rw [← s1, ← s2] at go
    refine zwq_ok (Z_X0_begin l) rfl [11, 55, 94] (fun _ _ _ _ _ _ h => h) 400 (Z_X0_begin l) ?_
    refine ⟨fun c => ⟨by omega, i, ⟨rfl, by omega⟩, 2 * i, ⟨by omega, by omega⟩, by omega, by omega, i, ⟨rfl, by omega⟩, 2 * i + 1, ⟨by omega, by omega⟩, ?_⟩, fun c => by omega⟩
    exact go
theorem L3_X0_begin {a b : Nat} (hP : pOK P) (h0 : plC S0 P) {i : Nat} (hi : i < P 0 2) (k : ∀ S, bgC S S0 P a b (24 * (i + 1)) → zGs l 1 0 0 F_X0_begin S 96 [(0, .inr (.inl 20)), (1, .inr (.inl 3)), (2, .inl ((i : Int) + 1))] [] Q) (f : Nat) : ∀ (t : Nat) (S : zS), t + f = 24 → bgC S S0 P a b (24 * i + t) → zGs l 1 0 0 F_X0_begin S 106 [(0, .inr (.inl 20)), (1, .inr (.inl 3)), (2, .inl (i : Int)), (3, .inl (t : Int))] [] Q := by
  have o := hP.finders
  induction f with
  | zero =>
    intro t S ht hS
    have e : t = 24 := by omega
    subst e
    have go := k S (by rw [show 24 * (i + 1) = 24 * i + 24 by omega]; exact hS)
    refine zwq_ok (Z_X0_begin l) rfl [96, 106] (fun _ _ _ _ _ _ h => h) 400 (Z_X0_begin l) ?_
    refine ⟨fun c => by omega, fun c => ⟨by omega, ?_⟩⟩
    exact zGs.sub (lo := [(0, _), (1, _), (2, _), (3, _)]) go (fun q hq => by simp only [List.mem_cons, List.not_mem_nil, or_false] at hq; rcases hq with rfl | rfl | rfl <;> first | exact .head _ | exact .tail _ (.head _) | exact .tail _ (.tail _ (.head _)) | exact .tail _ (.tail _ (.tail _ (.head _))) | exact .tail _ (.tail _ (.tail _ (.tail _ (.head _)))) | exact .tail _ (.tail _ (.tail _ (.tail _ (.tail _ (.head _))))) | exact .tail _ (.tail _ (.tail _ (.tail _ (.tail _ (.tail _ (.head _)))))) | exact .tail _ (.tail _ (.tail _ (.tail _ (.tail _ (.tail _ (.tail _ (.head _))))))) | exact .tail _ (.tail _ (.tail _ (.tail _ (.tail _ (.tail _ (.tail _ (.tail _ (.head _)))))))) | exact .tail _ (.tail _ (.tail _ (.tail _ (.tail _ (.tail _ (.tail _ (.tail _ (.tail _ (.head _))))))))) | exact .tail _ (.tail _ (.tail _ (.tail _ (.tail _ (.tail _ (.tail _ (.tail _ (.tail _ (.tail _ (.head _)))))))))) | exact .tail _ (.tail _ (.tail _ (.tail _ (.tail _ (.tail _ (.tail _ (.tail _ (.tail _ (.tail _ (.tail _ (.head _))))))))))) | exact .tail _ (.tail _ (.tail _ (.tail _ (.tail _ (.tail _ (.tail _ (.tail _ (.tail _ (.tail _ (.tail _ (.tail _ (.head _)))))))))))) | exact .tail _ (.tail _ (.tail _ (.tail _ (.tail _ (.tail _ (.tail _ (.tail _ (.tail _ (.tail _ (.tail _ (.tail _ (.tail _ (.head _))))))))))))))
  | succ f ih =>
    intro t S ht hS
    have hp := h0.fr hS.fr
    have eb := hp.begins i hi
    have this := ih (t + 1) (zu S 26 (24 * i + t) (P 5 i : Int)) (by omega) ⟨fun c h1 h2 h3 => (zu_c h3).trans (hS.fr c h1 h2 h3), fun k hk => by rw [zuN (by omega)]; exact hS.shoes k hk, fun k hk => by rw [zuN (by omega)]; exact hS.day k hk, fun k hk => by
      rw [zu_i]
      split
      · rename_i c; rw [c, if_pos (by omega), show (24 * i + t) / 24 = i by omega]
      · rw [hS.rounds k hk]
        by_cases c : k < 24 * i + t
        · rw [if_pos c, if_pos (by omega)]
        · rw [if_neg c, if_neg (by omega)]⟩
    rw [← eb] at this
    refine zwq_ok (Z_X0_begin l) rfl [96, 106] (fun _ _ _ _ _ _ h => h) 400 (Z_X0_begin l) ?_
    refine ⟨fun c => ⟨by omega, by omega, i, ⟨rfl, by omega⟩, 24 * i + t, ⟨by omega, by omega⟩, by omega, ?_⟩, fun c => by omega⟩
    exact this
theorem L4_X0_begin {a b : Nat} (hP : pOK P) (h0 : plC S0 P) (k : ∀ S, bgC S S0 P a b (24 * P 0 2) → Q (.inl none) S) (f : Nat) : ∀ (i : Nat) (S : zS), i + f = P 0 2 → bgC S S0 P a b (24 * i) → zGs l 1 0 0 F_X0_begin S 96 [(0, .inr (.inl 20)), (1, .inr (.inl 3)), (2, .inl (i : Int))] [] Q := by
  have o := hP.finders
  induction f with
  | zero =>
    intro i S hi hS
    have e : i = P 0 2 := by omega
    subst e
    have hp := h0.fr hS.fr
    have e9 := hp.finders
    have go := k S hS
    refine zwq_ok (Z_X0_begin l) rfl [96, 106] (fun _ _ _ _ _ _ h => h) 400 (Z_X0_begin l) ?_
    exact ⟨fun c => by omega, fun c => go⟩
  | succ f ih =>
    intro i S hi hS
    have hp := h0.fr hS.fr
    have e9 := hp.finders
    have go := L3_X0_begin (l := l) (Q := Q) hP h0 (i := i) (by omega) (fun S' hS' => ih (i + 1) S' (by omega) hS') 24 0 S (by omega) hS
    refine zwq_ok (Z_X0_begin l) rfl [96, 106] (fun _ _ _ _ _ _ h => h) 400 (Z_X0_begin l) ?_
    exact ⟨fun c => go, fun c => by omega⟩
end
def wp_X0_begin (a : List zV) (S : zS) (K : zR2 → zS → Prop) : Prop := match a with
  | [.inr (.inl c), .inr (.inl p)] => ∃ P : zD, (c = 20 ∧ p = 3 ∧ pOK P ∧ plC S P) ∧ ∀ S', bgC S' (zu (zu (zu S 20 7 0) 20 8 (-1)) 20 9 0) P (24 * P 0 1) (2 * P 0 1) (24 * P 0 2) → K (.inl none) S'
  | _ => False
theorem R_X0_begin (l : Launch) (a : List zV) (S : zS) (Q : zR2 → zS → Prop) (h : wp_X0_begin a S Q) : zRs l 1 0 0 yX0_begin (.code yX0_begin cX0_begin 4 (none)) a S Q := by
  unfold wp_X0_begin at h
  split at h
  · obtain ⟨P, ⟨rfl, rfl, hP, hp⟩, h⟩ := h
    have h0 : plC (zu (zu (zu S 20 7 0) 20 8 (-1)) 20 9 0) P := by
      unfold plC
      rw [zu_c (by decide), zu_c (by decide), zu_c (by decide), zu_c (by decide), zu_c (by decide), zu_c (by decide), zu_c (by decide), zu_c (by decide), zu_c (by decide), zu_c (by decide), zu_c (by decide), zu_c (by decide)]
      exact hp
    have go := L2_X0_begin (l := l) (Q := Q) hP h0 (fun S1 h1 => by
      have go := L4_X0_begin (l := l) (Q := Q) hP h0 h (P 0 2) 0 S1 (by omega) h1
      refine zwq_ok (Z_X0_begin l) rfl [96] (fun _ _ _ _ _ _ h => h) 400 (Z_X0_begin l) ?_
      exact go) (P 0 1) 0 _ (by omega) ⟨fun _ _ _ _ => rfl, fun k hk => absurd hk (Nat.not_lt_zero k), fun k hk => by rw [if_neg (by omega)], fun k hk => by rw [if_neg (by omega)]⟩
    refine zRs_of 0 (by decide) rfl rfl ?_; refine zwq_ok (Z_X0_begin l) rfl [11] (fun _ _ _ _ _ _ h => h) 400 (Z_X0_begin l) ?_
    exact go
  · exact h.elim
