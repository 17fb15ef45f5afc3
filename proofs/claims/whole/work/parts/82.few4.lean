/-! the fewest shoes: what may be lent -/
theorem bt_0 {b : Bool} (h : (bti b : Int) = 0) : b = false := by
  cases b
  · rfl
  · exact absurd h (by decide)
theorem bt_n {b : Bool} (h : ¬ (bti b : Int) = 0) : b = true := by
  cases b
  · exact absurd rfl h
  · rfl
def vcQ (D : zD) (a b : Nat) (g : Nat → Int) (l w s : Nat) : Prop := (s = 1 ∨ s = 2) ∧ w ≠ l ∧ dU D (2 * l + s - 1) = 0 ∧ fbB D a b w s = true ∧ gvN g ((10 * w + s : Nat) : Int) (dL D) < dU D (2 * w + s - 1) ∧ niB D a b l s = false
def lnR (D : zD) (a b : Nat) (g : Nat → Int) (l v0 : Nat) (r : Int) : Prop := (r = -1 ∧ ∀ v, v0 ≤ v → v < 10 * dL D → ¬ vcQ D a b g l (v / 10) (v % 10)) ∨ (∃ v, v0 ≤ v ∧ v < 10 * dL D ∧ r = (v : Int) ∧ vcQ D a b g l (v / 10) (v % 10) ∧ ∀ u, v0 ≤ u → u < v → ¬ vcQ D a b g l (u / 10) (u % 10))
def B_X12_lendable : List (Nat × zC) := [(49, (0, 0, 2, 0, 0, 0, 12)), (60, (0, 1, 2, 1, 0, 0, 12)), (71, (0, 0, 2, 0, 0, 0, 12)), (79, (0, 2, 2, 0, 0, 0, 12)), (92, (0, 3, 2, 2, 0, 0, 12))]
def O_X12_lendable : zO := fun j a S K => match j with
  | 0 => wp_X12_has a S K
  | 1 => wp_X12_isFree a S K
  | 2 => wp_X12_given a S K
  | 3 => wp_X12_isNeedy a S K
  | _ => False
theorem E_X12_lendable (l : Launch) : ∀ q ∈ B_X12_lendable, zcok l O_X12_lendable F_X12_lendable q.1 q.2 := List.forall_mem_cons.mpr ⟨⟨293, yX12_has, cX12_has, 5, some .int, by decide +kernel, C_12_293, W_X12_has, I_X12_has, S_X12_has, rfl, rfl, R_X12_has l⟩, List.forall_mem_cons.mpr ⟨⟨395, yX12_isFree, cX12_isFree, 4, some .boolean, by decide +kernel, C_12_395, W_X12_isFree, I_X12_isFree, S_X12_isFree, rfl, rfl, R_X12_isFree l⟩, List.forall_mem_cons.mpr ⟨⟨293, yX12_has, cX12_has, 5, some .int, by decide +kernel, C_12_293, W_X12_has, I_X12_has, S_X12_has, rfl, rfl, R_X12_has l⟩, List.forall_mem_cons.mpr ⟨⟨398, yX12_given, cX12_given, 5, some .int, by decide +kernel, C_12_398, W_X12_given, I_X12_given, S_X12_given, rfl, rfl, R_X12_given l⟩, List.forall_mem_cons.mpr ⟨⟨401, yX12_isNeedy, cX12_isNeedy, 5, some .boolean, by decide +kernel, C_12_401, W_X12_isNeedy, I_X12_isNeedy, S_X12_isNeedy, rfl, rfl, R_X12_isNeedy l⟩, fun _ h => by cases h⟩⟩⟩⟩⟩
def U_X12_lendable : List (Nat × zE) := [(0, Sum.inl (2, 2, 0, 0, 1, [])), (1, Sum.inl (0, 0, 0, 1, 2, [])), (2, Sum.inl (9, 0, 0, 0, 3, [])), (3, Sum.inl (5, 3, 0, 0, 4, [])), (4, Sum.inl (2, 3, 0, 0, 5, [])), (5, Sum.inl (0, 0, 0, 10, 7, [])), (7, Sum.inl (4, 0, 0, 0, 8, [])), (8, Sum.inl (18, 12, 2, 0, 11, [])), (11, Sum.inl (9, 2, 0, 0, 12, [])), (12, Sum.inl (16, 1, 15, 0, 106, [])), (15, Sum.inl (2, 3, 0, 0, 16, [])), (16, Sum.inl (0, 0, 0, 10, 18, [])), (18, Sum.inl (9, 9, 0, 0, 19, [])), (19, Sum.inl (5, 4, 0, 0, 21, [])), (21, Sum.inl (2, 3, 0, 0, 22, [])), (22, Sum.inl (0, 0, 0, 10, 24, [])), (24, Sum.inl (9, 10, 0, 0, 25, [])), (25, Sum.inl (5, 5, 0, 0, 27, [])), (27, Sum.inl (2, 5, 0, 0, 29, [])), (29, Sum.inl (0, 0, 0, 1, 30, [])), (30, Sum.inl (16, 0, 39, 0, 33, [])), (33, Sum.inl (2, 5, 0, 0, 35, [])), (35, Sum.inl (0, 0, 0, 2, 36, [])), (36, Sum.inl (16, 0, 39, 0, 100, [])), (39, Sum.inl (2, 4, 0, 0, 41, [])), (41, Sum.inl (2, 1, 0, 0, 42, [])), (42, Sum.inl (16, 0, 100, 0, 45, [])), (45, Sum.inl (4, 0, 0, 0, 46, [])), (46, Sum.inl (2, 1, 0, 0, 47, [])), (47, Sum.inl (2, 5, 0, 0, 49, [])), (49, Sum.inr (0, 0, 2, 0, 0, 0, 12)), (52, Sum.inl (17, 2, 100, 0, 55, [])), (55, Sum.inl (4, 0, 0, 0, 56, [])), (56, Sum.inl (2, 4, 0, 0, 58, [])), (58, Sum.inl (2, 5, 0, 0, 60, [])), (60, Sum.inr (0, 1, 2, 1, 0, 0, 12)), (63, Sum.inl (17, 0, 100, 0, 66, [])), (66, Sum.inl (4, 0, 0, 0, 67, [])), (67, Sum.inl (2, 4, 0, 0, 69, [])), (69, Sum.inl (2, 5, 0, 0, 71, [])), (71, Sum.inr (0, 0, 2, 0, 0, 0, 12)), (74, Sum.inl (4, 0, 0, 0, 75, [])), (75, Sum.inl (2, 4, 0, 0, 77, [])), (77, Sum.inl (2, 5, 0, 0, 79, [])), (79, Sum.inr (0, 2, 2, 0, 0, 0, 12)), (82, Sum.inl (16, 2, 88, 0, 85, [])), (85, Sum.inl (15, 0, 0, 0, 100, [])), (88, Sum.inl (4, 0, 0, 0, 89, [])), (89, Sum.inl (2, 1, 0, 0, 90, [])), (90, Sum.inl (2, 5, 0, 0, 92, [])), (92, Sum.inr (0, 3, 2, 2, 0, 0, 12)), (95, Sum.inl (17, 0, 98, 0, 100, [])), (98, Sum.inl (2, 3, 0, 0, 99, [])), (99, Sum.inl (27, 0, 0, 0, 100, [])), (100, Sum.inl (8, 3, 0, 1, 103, [])), (103, Sum.inl (15, 0, 0, 0, 4, [])), (106, Sum.inl (0, 0, 0, (-1), 107, [])), (107, Sum.inl (27, 0, 0, 0, 108, []))]
theorem Z_X12_lendable (l : Launch) : ∀ q ∈ U_X12_lendable, zTok l O_X12_lendable F_X12_lendable q := zU_ok rfl rfl rfl K_X12_lendable (E_X12_lendable l)
def wp_X12_lendable (a : List zV) (S : zS) (K : zR2 → zS → Prop) : Prop := match a with
  | [.inr (.inl c), .inl x, .inl y] => ∃ (D : zD) (a b l v : Nat) (g : Nat → Int), (c = 62 ∧ dOK D ∧ mOK S D ∧ abM S a b ∧ (∀ i, i < dL D → S 94 i = g i) ∧ x = (l : Int) ∧ l < dL D ∧ y = (v : Int) - 1 ∧ v ≤ 10 * dL D) ∧ ∀ r, lnR D a b g l v r → K (.inl (some (.inl r))) S
  | _ => False
theorem st_X12_lendable {lc : Launch} {S : zS} {Q : zR2 → zS → Prop} {D : zD} {a b l w s : Nat} {g : Nat → Int} {y z : Int} (hD : dOK D) (hM : mOK S D) (hab : abM S a b) (hg : ∀ i, i < dL D → S 94 i = g i) (hl : l < dL D) (hw : w < dL D) (hs : s = 1 ∨ s = 2) (yes : vcQ D a b g l w s → Q (.inl (some (.inl z))) S) (no : ¬ vcQ D a b g l w s → zGs lc 3 0 0 F_X12_lendable S 100 [(0, .inr (.inl 62)), (1, .inl (l : Int)), (2, .inl y), (3, .inl z)] [] Q) : zGs lc 3 0 0 F_X12_lendable S 39 [(0, .inr (.inl 62)), (1, .inl (l : Int)), (2, .inl y), (3, .inl z), (4, .inl (w : Int)), (5, .inl (s : Int))] [] Q := by
  have h6 := hD.lodgers
  have eL := hM.lodgers
  have no : ¬ vcQ D a b g l w s → zGs lc 3 0 0 F_X12_lendable S 100 [(0, .inr (.inl 62)), (1, .inl (l : Int)), (2, .inl y), (3, .inl z), (4, .inl (w : Int)), (5, .inl (s : Int))] [] Q := fun h => zGs.sub (lo := [(0, _), (1, _), (2, _), (3, _), (4, _), (5, _)]) (no h) (fun q hq => by simp only [List.mem_cons, List.not_mem_nil, or_false] at hq; rcases hq with rfl | rfl | rfl | rfl <;> first | exact .head _ | exact .tail _ (.head _) | exact .tail _ (.tail _ (.head _)) | exact .tail _ (.tail _ (.tail _ (.head _))) | exact .tail _ (.tail _ (.tail _ (.tail _ (.head _)))) | exact .tail _ (.tail _ (.tail _ (.tail _ (.tail _ (.head _))))) | exact .tail _ (.tail _ (.tail _ (.tail _ (.tail _ (.tail _ (.head _)))))) | exact .tail _ (.tail _ (.tail _ (.tail _ (.tail _ (.tail _ (.tail _ (.head _))))))) | exact .tail _ (.tail _ (.tail _ (.tail _ (.tail _ (.tail _ (.tail _ (.tail _ (.head _)))))))) | exact .tail _ (.tail _ (.tail _ (.tail _ (.tail _ (.tail _ (.tail _ (.tail _ (.tail _ (.head _))))))))) | exact .tail _ (.tail _ (.tail _ (.tail _ (.tail _ (.tail _ (.tail _ (.tail _ (.tail _ (.tail _ (.head _)))))))))) | exact .tail _ (.tail _ (.tail _ (.tail _ (.tail _ (.tail _ (.tail _ (.tail _ (.tail _ (.tail _ (.tail _ (.head _))))))))))) | exact .tail _ (.tail _ (.tail _ (.tail _ (.tail _ (.tail _ (.tail _ (.tail _ (.tail _ (.tail _ (.tail _ (.tail _ (.head _)))))))))))) | exact .tail _ (.tail _ (.tail _ (.tail _ (.tail _ (.tail _ (.tail _ (.tail _ (.tail _ (.tail _ (.tail _ (.tail _ (.tail _ (.head _))))))))))))))
  refine zwq_ok (Z_X12_lendable lc) rfl [100] (fun _ _ _ _ _ _ h => h) 400 (Z_X12_lendable lc) ?_
  refine ⟨fun c1 => no (fun q => q.2.1 (by omega)), fun c1 => ⟨D, l, s, ⟨rfl, hD, hM, rfl, rfl, hl, hs⟩, fun c2 => no (fun q => by have := q.2.2.1; omega), fun c2 => ⟨D, a, b, w, s, ⟨rfl, hD, hM, hab, rfl, hw, rfl, by omega⟩, fun c3 => no (fun q => by have := q.2.2.2.1; rw [bt_0 c3] at this; cases this), fun c3 => ⟨D, w, s, ⟨rfl, hD, hM, rfl, rfl, hw, hs⟩, dL D, w, s, g, ⟨rfl, h6, eL, hg, rfl, by omega, rfl, by omega⟩, fun c4 => ⟨D, a, b, l, s, ⟨rfl, hD, hM, hab, rfl, hl, rfl, by omega⟩, fun c5 => yes ⟨hs, by omega, by omega, bt_n c3, by omega, bt_0 c5⟩, fun c5 => no (fun q => by have := q.2.2.2.2.2; rw [bt_n c5] at this; cases this)⟩, fun c4 => no (fun q => by have := q.2.2.2.2.1; omega)⟩⟩⟩⟩
theorem L_X12_lendable {lc : Launch} {S : zS} {Q : zR2 → zS → Prop} {D : zD} {a b l v0 : Nat} {g : Nat → Int} {y : Int} (hD : dOK D) (hM : mOK S D) (hab : abM S a b) (hg : ∀ i, i < dL D → S 94 i = g i) (hl : l < dL D) (k : ∀ r, lnR D a b g l v0 r → Q (.inl (some (.inl r))) S) (f : Nat) : ∀ v, v + f = 10 * dL D → v0 ≤ v → (∀ u, v0 ≤ u → u < v → ¬ vcQ D a b g l (u / 10) (u % 10)) → zGs lc 3 0 0 F_X12_lendable S 4 [(0, .inr (.inl 62)), (1, .inl (l : Int)), (2, .inl y), (3, .inl (v : Int))] [] Q := by
  have h6 := hD.lodgers
  have eL := hM.lodgers
  induction f with
  | zero =>
    intro v hv h0 hn
    refine zwq_ok (Z_X12_lendable lc) rfl [4] (fun _ _ _ _ _ _ h => h) 400 (Z_X12_lendable lc) ?_
    exact ⟨by omega, fun c => by omega, fun c => k _ (Or.inl ⟨rfl, fun u h1 h2 => hn u h1 (by omega)⟩)⟩
  | succ f ih =>
    intro v hv h0 hn
    have nx : ¬ vcQ D a b g l (v / 10) (v % 10) → zGs lc 3 0 0 F_X12_lendable S 100 [(0, .inr (.inl 62)), (1, .inl (l : Int)), (2, .inl y), (3, .inl (v : Int))] [] Q := fun q => by
      have := ih (v + 1) (by omega) (by omega) (fun u h1 h2 => by
        by_cases e : u = v
        · rw [e]; exact q
        · exact hn u h1 (by omega))
      refine zwq_ok (Z_X12_lendable lc) rfl [4] (fun _ _ _ _ _ _ h => h) 400 (Z_X12_lendable lc) ?_
      exact ⟨by omega, this⟩
    have d1 : (v : Int) / 10 = ((v / 10 : Nat) : Int) := by omega
    have d2 : (v : Int) % 10 = ((v % 10 : Nat) : Int) := by omega
    have go : (v % 10 = 1 ∨ v % 10 = 2) → zGs lc 3 0 0 F_X12_lendable S 39 [(0, .inr (.inl 62)), (1, .inl (l : Int)), (2, .inl y), (3, .inl (v : Int)), (4, .inl ((v / 10 : Nat) : Int)), (5, .inl ((v % 10 : Nat) : Int))] [] Q := fun hs => st_X12_lendable hD hM hab hg hl (by omega) hs (fun q => k _ (Or.inr ⟨v, h0, by omega, rfl, q, hn⟩)) nx
    rw [← d1, ← d2] at go
    refine zwq_ok (Z_X12_lendable lc) rfl [4, 39, 100] (fun _ _ _ _ _ _ h => h) 400 (Z_X12_lendable lc) ?_
    refine ⟨by omega, fun c => ⟨by omega, by omega, fun c1 => go (by omega), fun c1 => ⟨fun c2 => go (by omega), fun c2 => ?_⟩⟩, fun c => by omega⟩
    exact zGs.sub (lo := [(0, _), (1, _), (2, _), (3, _), (4, _), (5, _)]) (nx (fun q => by have := q.1; omega)) (fun q hq => by simp only [List.mem_cons, List.not_mem_nil, or_false] at hq; rcases hq with rfl | rfl | rfl | rfl <;> first | exact .head _ | exact .tail _ (.head _) | exact .tail _ (.tail _ (.head _)) | exact .tail _ (.tail _ (.tail _ (.head _))) | exact .tail _ (.tail _ (.tail _ (.tail _ (.head _)))) | exact .tail _ (.tail _ (.tail _ (.tail _ (.tail _ (.head _))))) | exact .tail _ (.tail _ (.tail _ (.tail _ (.tail _ (.tail _ (.head _)))))) | exact .tail _ (.tail _ (.tail _ (.tail _ (.tail _ (.tail _ (.tail _ (.head _))))))) | exact .tail _ (.tail _ (.tail _ (.tail _ (.tail _ (.tail _ (.tail _ (.tail _ (.head _)))))))) | exact .tail _ (.tail _ (.tail _ (.tail _ (.tail _ (.tail _ (.tail _ (.tail _ (.tail _ (.head _))))))))) | exact .tail _ (.tail _ (.tail _ (.tail _ (.tail _ (.tail _ (.tail _ (.tail _ (.tail _ (.tail _ (.head _)))))))))) | exact .tail _ (.tail _ (.tail _ (.tail _ (.tail _ (.tail _ (.tail _ (.tail _ (.tail _ (.tail _ (.tail _ (.head _))))))))))) | exact .tail _ (.tail _ (.tail _ (.tail _ (.tail _ (.tail _ (.tail _ (.tail _ (.tail _ (.tail _ (.tail _ (.tail _ (.head _)))))))))))) | exact .tail _ (.tail _ (.tail _ (.tail _ (.tail _ (.tail _ (.tail _ (.tail _ (.tail _ (.tail _ (.tail _ (.tail _ (.tail _ (.head _))))))))))))))
theorem R_X12_lendable (l : Launch) (a : List zV) (S : zS) (Q : zR2 → zS → Prop) (h : wp_X12_lendable a S Q) : zRs l 3 0 0 yX12_lendable (.code yX12_lendable cX12_lendable 6 (some .int)) a S Q := by
  unfold wp_X12_lendable at h
  split at h
  · obtain ⟨D, a, b, i, v, g, ⟨rfl, hD, hM, hab, hg, rfl, hi, rfl, hv⟩, h⟩ := h
    have go := L_X12_lendable (lc := l) (y := (v : Int) - 1) hD hM hab hg hi h (10 * dL D - v) v (by omega) (Nat.le_refl v) (fun u h1 h2 => by omega)
    have h6 := hD.lodgers
    refine zRs_of 12 (by decide) rfl rfl ?_; refine zwq_ok (Z_X12_lendable l) rfl [4] (fun _ _ _ _ _ _ h => h) 400 (Z_X12_lendable l) ?_
    refine ⟨by omega, ?_⟩
    rw [show (v : Int) - 1 + 1 = (v : Int) by omega]
    exact go
  · exact h.elim
