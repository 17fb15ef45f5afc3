/-! the fewest shoes: who is shoeless, what helps, what is spare -/
def duD (D : zD) (l h : Nat) : Nat := lawD D (dD D (24 * l + h))
theorem law_tol (D : zD) (a : Nat) : lawD D (tol a) = lawD D a := by
  unfold lawD
  by_cases c : a < 4
  · rw [tol_1 c]
  · rw [tol_2 c, if_neg (by omega), if_neg c]
theorem du_lt {D : zD} (hD : dOK D) (l h : Nat) : duD D l h < 4 := lawD_lt hD _
def orS (D : zD) (l : Nat) : Nat → Nat → Nat → Nat
  | 0, _, acc => acc
  | f + 1, h, acc => orS D l f (h + 1) (acc ||| duD D l h)
def spN (D : zD) (a b l s : Nat) : Nat := if orS D l (b + 1 - a) a 0 &&& s = 0 then dU D (2 * l + s - 1) else 0
theorem orS_lt {D : zD} (hD : dOK D) (l : Nat) : ∀ f h acc, acc < 4 → orS D l f h acc < 4 := by
  intro f
  induction f with
  | zero => intro h acc ha; exact ha
  | succ f ih => intro h acc ha; exact ih (h + 1) _ (Nat.or_lt_two_pow (n := 2) ha (du_lt hD l h))
theorem sp_le {D : zD} (hD : dOK D) {a b l s : Nat} (hl : l < dL D) (hs : s = 1 ∨ s = 2) : spN D a b l s ≤ 13 := by
  unfold spN
  split
  · exact dU_le hD hl hs
  · exact Nat.zero_le _
def B_X5_countSpare : List (Nat × zC) := [(25, (0, 0, 2, 0, 0, 0, 0)), (28, (0, 1, 1, 0, 0, 0, 6)), (64, (0, 2, 2, 0, 0, 0, 0))]
def O_X5_countSpare : zO := fun j a S K => match j with
  | 0 => wp_X0_doing a S K
  | 1 => wp_X6_lawFor a S K
  | 2 => wp_X0_shoesOf a S K
  | _ => False
theorem E_X5_countSpare (l : Launch) : ∀ q ∈ B_X5_countSpare, zcok l O_X5_countSpare F_X5_countSpare q.1 q.2 := List.forall_mem_cons.mpr ⟨⟨83, yX0_doing, cX0_doing, 3, some .int, by decide +kernel, C_5_83, W_X0_doing, I_X0_doing, S_X0_doing, rfl, rfl, R_X0_doing l⟩, List.forall_mem_cons.mpr ⟨⟨89, yX6_lawFor, cX6_lawFor, 2, some .int, by decide +kernel, C_5_89, W_X6_lawFor, I_X6_lawFor, S_X6_lawFor, rfl, rfl, R_X6_lawFor l⟩, List.forall_mem_cons.mpr ⟨⟨101, yX0_shoesOf, cX0_shoesOf, 3, some .int, by decide +kernel, C_5_101, W_X0_shoesOf, I_X0_shoesOf, S_X0_shoesOf, rfl, rfl, R_X0_shoesOf l⟩, fun _ h => by cases h⟩⟩⟩
def U_X5_countSpare : List (Nat × zE) := [(0, Sum.inl (0, 0, 0, 0, 1, [])), (1, Sum.inl (5, 4, 0, 0, 3, [])), (3, Sum.inl (2, 2, 0, 0, 4, [])), (4, Sum.inl (5, 5, 0, 0, 6, [])), (6, Sum.inl (2, 5, 0, 0, 8, [])), (8, Sum.inl (2, 3, 0, 0, 9, [])), (9, Sum.inl (16, 2, 40, 0, 12, [])), (12, Sum.inl (2, 4, 0, 0, 14, [])), (14, Sum.inl (4, 0, 0, 0, 15, [])), (15, Sum.inl (18, 5, 0, 0, 18, [])), (18, Sum.inl (4, 0, 0, 0, 19, [])), (19, Sum.inl (18, 5, 1, 0, 22, [])), (22, Sum.inl (2, 1, 0, 0, 23, [])), (23, Sum.inl (2, 5, 0, 0, 25, [])), (25, Sum.inr (0, 0, 2, 0, 0, 0, 0)), (28, Sum.inr (0, 1, 1, 0, 0, 0, 6)), (31, Sum.inl (9, 4, 0, 0, 32, [])), (32, Sum.inl (5, 4, 0, 0, 34, [])), (34, Sum.inl (8, 5, 0, 1, 37, [])), (37, Sum.inl (15, 0, 0, 0, 6, [])), (40, Sum.inl (0, 0, 0, 1, 41, [])), (41, Sum.inl (5, 5, 0, 0, 43, [])), (43, Sum.inl (2, 5, 0, 0, 45, [])), (45, Sum.inl (0, 0, 0, 2, 46, [])), (46, Sum.inl (16, 2, 106, 0, 49, [])), (49, Sum.inl (2, 4, 0, 0, 51, [])), (51, Sum.inl (2, 5, 0, 0, 53, [])), (53, Sum.inl (9, 3, 0, 0, 54, [])), (54, Sum.inl (17, 0, 57, 0, 70, [])), (57, Sum.inl (4, 0, 0, 0, 58, [])), (58, Sum.inl (18, 5, 1, 0, 61, [])), (61, Sum.inl (2, 1, 0, 0, 62, [])), (62, Sum.inl (2, 5, 0, 0, 64, [])), (64, Sum.inr (0, 2, 2, 0, 0, 0, 0)), (67, Sum.inl (15, 0, 0, 0, 71, [])), (70, Sum.inl (0, 0, 0, 0, 71, [])), (71, Sum.inl (5, 6, 0, 0, 73, [])), (73, Sum.inl (4, 0, 0, 0, 74, [])), (74, Sum.inl (18, 5, 4, 0, 77, [])), (77, Sum.inl (2, 1, 0, 0, 78, [])), (78, Sum.inl (0, 0, 0, 2, 79, [])), (79, Sum.inl (9, 2, 0, 0, 80, [])), (80, Sum.inl (2, 5, 0, 0, 82, [])), (82, Sum.inl (9, 0, 0, 0, 83, [])), (83, Sum.inl (0, 0, 0, 1, 84, [])), (84, Sum.inl (9, 1, 0, 0, 85, [])), (85, Sum.inl (2, 6, 0, 0, 87, [])), (87, Sum.inl (21, 0, 0, 0, 88, [])), (88, Sum.inl (4, 0, 0, 0, 89, [])), (89, Sum.inl (18, 5, 6, 0, 92, [])), (92, Sum.inl (2, 5, 0, 0, 94, [])), (94, Sum.inl (13, 0, 0, 0, 95, [])), (95, Sum.inl (20, 0, 0, 0, 96, [])), (96, Sum.inl (2, 6, 0, 0, 98, [])), (98, Sum.inl (9, 0, 0, 0, 99, [])), (99, Sum.inl (21, 0, 0, 0, 100, [])), (100, Sum.inl (8, 5, 0, 1, 103, [])), (103, Sum.inl (15, 0, 0, 0, 43, [])), (106, Sum.inl (29, 0, 0, 0, 107, []))]
theorem Z_X5_countSpare (l : Launch) : ∀ q ∈ U_X5_countSpare, zTok l O_X5_countSpare F_X5_countSpare q := zU_ok rfl rfl rfl K_X5_countSpare (E_X5_countSpare l)
def wp_X5_countSpare (a : List zV) (S : zS) (K : zR2 → zS → Prop) : Prop := match a with
  | [.inr (.inl c), .inl x, .inl y, .inl z] => ∃ (D : zD) (l a b s1 s2 : Nat), (c = 52 ∧ dOK D ∧ cOK S D ∧ x = (l : Int) ∧ l < dL D ∧ y = (a : Int) ∧ z = (b : Int) ∧ a ≤ b ∧ b < 24 ∧ S 56 1 = (s1 : Int) ∧ S 56 2 = (s2 : Int) ∧ s1 ≤ 1000 ∧ s2 ≤ 1000) ∧ K (.inl none) (zu (zu (zu (zu S 54 (2 * l) (spN D a b l 1 : Int)) 56 1 ((s1 + spN D a b l 1 : Nat) : Int)) 54 (2 * l + 1) (spN D a b l 2 : Int)) 56 2 ((s2 + spN D a b l 2 : Nat) : Int))
  | _ => False
theorem L_X5_countSpare {lc : Launch} {S : zS} {Q : zR2 → zS → Prop} {D : zD} {l a b : Nat} (hD : dOK D) (hC : cOK S D) (hl : l < dL D) (hab : a ≤ b) (hb : b < 24) (k : zGs lc 1 0 0 F_X5_countSpare S 40 [(0, .inr (.inl 52)), (1, .inl (l : Int)), (2, .inl (a : Int)), (3, .inl (b : Int)), (4, .inl (orS D l (b + 1 - a) a 0 : Int))] [] Q) (f : Nat) : ∀ h acc, h + f = b + 1 → acc < 4 → orS D l f h acc = orS D l (b + 1 - a) a 0 → zGs lc 1 0 0 F_X5_countSpare S 6 [(0, .inr (.inl 52)), (1, .inl (l : Int)), (2, .inl (a : Int)), (3, .inl (b : Int)), (4, .inl (acc : Int)), (5, .inl (h : Int))] [] Q := by
  induction f with
  | zero =>
    intro h acc hh ha he
    have he : acc = _ := he
    rw [← he] at k
    refine zwq_ok (Z_X5_countSpare lc) rfl [6, 40] (fun _ _ _ _ _ _ h => h) 400 (Z_X5_countSpare lc) ?_
    refine ⟨fun c => ?_, fun c => by omega⟩
    exact zGs.sub (lo := [(0, _), (1, _), (2, _), (3, _), (4, _), (5, _)]) k (fun q hq => by simp only [List.mem_cons, List.not_mem_nil, or_false] at hq; rcases hq with rfl | rfl | rfl | rfl | rfl <;> first | exact .head _ | exact .tail _ (.head _) | exact .tail _ (.tail _ (.head _)) | exact .tail _ (.tail _ (.tail _ (.head _))) | exact .tail _ (.tail _ (.tail _ (.tail _ (.head _)))) | exact .tail _ (.tail _ (.tail _ (.tail _ (.tail _ (.head _))))) | exact .tail _ (.tail _ (.tail _ (.tail _ (.tail _ (.tail _ (.head _)))))) | exact .tail _ (.tail _ (.tail _ (.tail _ (.tail _ (.tail _ (.tail _ (.head _))))))) | exact .tail _ (.tail _ (.tail _ (.tail _ (.tail _ (.tail _ (.tail _ (.tail _ (.head _)))))))) | exact .tail _ (.tail _ (.tail _ (.tail _ (.tail _ (.tail _ (.tail _ (.tail _ (.tail _ (.head _))))))))) | exact .tail _ (.tail _ (.tail _ (.tail _ (.tail _ (.tail _ (.tail _ (.tail _ (.tail _ (.tail _ (.head _)))))))))) | exact .tail _ (.tail _ (.tail _ (.tail _ (.tail _ (.tail _ (.tail _ (.tail _ (.tail _ (.tail _ (.tail _ (.head _))))))))))) | exact .tail _ (.tail _ (.tail _ (.tail _ (.tail _ (.tail _ (.tail _ (.tail _ (.tail _ (.tail _ (.tail _ (.tail _ (.head _)))))))))))) | exact .tail _ (.tail _ (.tail _ (.tail _ (.tail _ (.tail _ (.tail _ (.tail _ (.tail _ (.tail _ (.tail _ (.tail _ (.tail _ (.head _))))))))))))))
  | succ f ih =>
    intro h acc hh ha he
    have hd := du_lt hD l h
    have e : zor (acc : Int) (lawD D (tol (dD D (24 * l + h))) : Int) = ((acc ||| duD D l h : Nat) : Int) := by
      rw [law_tol]
      exact zor_n (by omega) (by show duD D l h < _; omega)
    have this := ih (h + 1) (acc ||| duD D l h) (by omega) (Nat.or_lt_two_pow (n := 2) ha hd) he
    rw [← e] at this
    refine zwq_ok (Z_X5_countSpare lc) rfl [6, 40] (fun _ _ _ _ _ _ h => h) 400 (Z_X5_countSpare lc) ?_
    refine ⟨fun c => by omega, fun c => ⟨D, l, h, ⟨rfl, hC, rfl, rfl, by have := hD.lodgers; omega, by omega⟩, D, tol (dD D (24 * l + h)), ⟨rfl, hC, rfl⟩, by omega, ?_⟩⟩
    exact this
theorem R_X5_countSpare (l : Launch) (a : List zV) (S : zS) (Q : zR2 → zS → Prop) (h : wp_X5_countSpare a S Q) : zRs l 1 0 0 yX5_countSpare (.code yX5_countSpare cX5_countSpare 7 (none)) a S Q := by
  unfold wp_X5_countSpare at h
  split at h
  · obtain ⟨D, i, a, b, s1, s2, ⟨rfl, hD, hC, rfl, hi, rfl, rfl, hab, hb, e1, e2, h1, h2⟩, h⟩ := h
    have h6 := hD.lodgers
    have ho := orS_lt hD i (b + 1 - a) a 0 (by omega)
    have u1 := hC.shoes (2 * i) (by omega)
    have u2 := hC.shoes (2 * i + 1) (by omega)
    have z1 : zand (orS D i (b + 1 - a) a 0 : Int) 1 = ((orS D i (b + 1 - a) a 0 &&& 1 : Nat) : Int) := zand_n (b := 1) (by omega)
    have z2 : zand (orS D i (b + 1 - a) a 0 : Int) 2 = ((orS D i (b + 1 - a) a 0 &&& 2 : Nat) : Int) := zand_n (b := 2) (by omega)
    have w1 := dU_le hD (l := i) (s := 1) hi (Or.inl rfl)
    have w2 := dU_le hD (l := i) (s := 2) hi (Or.inr rfl)
    rw [show 2 * i + 1 - 1 = 2 * i by omega] at w1
    rw [show 2 * i + 2 - 1 = 2 * i + 1 by omega] at w2
    have l1 := sp_le hD (a := a) (b := b) hi (Or.inl rfl)
    have l2 := sp_le hD (a := a) (b := b) hi (Or.inr rfl)
    have d1 : spN D a b i 1 = if orS D i (b + 1 - a) a 0 &&& 1 = 0 then dU D (2 * i) else 0 := rfl
    have d2 : spN D a b i 2 = if orS D i (b + 1 - a) a 0 &&& 2 = 0 then dU D (2 * i + 1) else 0 := rfl
    have two : ∀ S1 : zS, S1 56 2 = (s2 : Int) → S1 24 (2 * i + 1) = (dU D (2 * i + 1) : Int) → Q (.inl none) (zu (zu S1 54 (2 * i + 1) (spN D a b i 2 : Int)) 56 2 ((s2 + spN D a b i 2 : Nat) : Int)) → zGs l 1 0 0 F_X5_countSpare S1 43 [(0, .inr (.inl 52)), (1, .inl (i : Int)), (2, .inl (a : Int)), (3, .inl (b : Int)), (4, .inl (orS D i (b + 1 - a) a 0 : Int)), (5, .inl 2)] [] Q := by
      intro S1 g1 g2 hq
      have fin : ∀ v : Int, v = (spN D a b i 2 : Int) → Q (.inl none) (zu (zu S1 54 (2 * i + 1) v) 56 2 (S1 56 2 + v)) := fun v hv => by
        subst hv
        rw [g1]
        exact hq
      refine zwq_ok (Z_X5_countSpare l) rfl [] (fun _ _ _ _ _ _ h => h) 400 (Z_X5_countSpare l) ?_
      refine ⟨fun c => absurd c (by decide), fun _ => ⟨fun c => ⟨by omega, by omega, by omega, 2 * i + 1, ⟨by omega, by omega⟩, by omega, by omega, by omega, 2 * i + 1, ⟨by omega, by omega⟩, 2, ⟨rfl, by omega⟩, ?_, 2, ⟨rfl, by omega⟩, by omega, fun _ => ?_, fun c9 => absurd (by decide) c9⟩, fun c => ⟨by omega, by omega, by omega, 2 * i + 1, ⟨by omega, by omega⟩, 2, ⟨rfl, by omega⟩, ?_, 2, ⟨rfl, by omega⟩, by omega, fun _ => ?_, fun c9 => absurd (by decide) c9⟩⟩⟩
      · show -2147483648 ≤ S1 56 2 + S1 24 (2 * i + 1) ∧ S1 56 2 + S1 24 (2 * i + 1) < 2147483648
        omega
      · exact fin (S1 24 (2 * i + 1)) (by rw [d2, if_pos (by rw [z2] at c; omega), g2])
      · show -2147483648 ≤ S1 56 2 + 0 ∧ S1 56 2 + 0 < 2147483648
        omega
      · exact fin 0 (by rw [d2, if_neg (by rw [z2] at c; omega)]; rfl)
    have one : zGs l 1 0 0 F_X5_countSpare S 43 [(0, .inr (.inl 52)), (1, .inl (i : Int)), (2, .inl (a : Int)), (3, .inl (b : Int)), (4, .inl (orS D i (b + 1 - a) a 0 : Int)), (5, .inl 1)] [] Q := by
      have fin : ∀ v : Int, v = (spN D a b i 1 : Int) → zGs l 1 0 0 F_X5_countSpare (zu (zu S 54 (2 * i) v) 56 1 (S 56 1 + v)) 43 [(0, .inr (.inl 52)), (1, .inl (i : Int)), (2, .inl (a : Int)), (3, .inl (b : Int)), (4, .inl (orS D i (b + 1 - a) a 0 : Int)), (5, .inl 2)] [] Q := fun v hv => by
        subst hv
        rw [e1]
        exact two _ e2 u2 h
      refine zwq_ok (Z_X5_countSpare l) rfl [43] (fun _ _ _ _ _ _ h => h) 400 (Z_X5_countSpare l) ?_
      refine ⟨fun c => absurd c (by decide), fun _ => ⟨fun c => ⟨by omega, by omega, by omega, 2 * i, ⟨by omega, by omega⟩, by omega, by omega, by omega, 2 * i, ⟨by omega, by omega⟩, 1, ⟨rfl, by omega⟩, ?_, 1, ⟨rfl, by omega⟩, by omega, ?_⟩, fun c => ⟨by omega, by omega, by omega, 2 * i, ⟨by omega, by omega⟩, 1, ⟨rfl, by omega⟩, ?_, 1, ⟨rfl, by omega⟩, by omega, ?_⟩⟩⟩
      · show -2147483648 ≤ S 56 1 + S 24 (2 * i) ∧ S 56 1 + S 24 (2 * i) < 2147483648
        omega
      · exact zGs.sub (lo := [(0, _), (1, _), (2, _), (3, _), (4, _), (5, _), (6, _)]) (fin (S 24 (2 * i)) (by rw [d1, if_pos (by rw [z1] at c; omega), u1])) (fun q hq => by simp only [List.mem_cons, List.not_mem_nil, or_false] at hq; rcases hq with rfl | rfl | rfl | rfl | rfl | rfl <;> first | exact .head _ | exact .tail _ (.head _) | exact .tail _ (.tail _ (.head _)) | exact .tail _ (.tail _ (.tail _ (.head _))) | exact .tail _ (.tail _ (.tail _ (.tail _ (.head _)))) | exact .tail _ (.tail _ (.tail _ (.tail _ (.tail _ (.head _))))) | exact .tail _ (.tail _ (.tail _ (.tail _ (.tail _ (.tail _ (.head _)))))) | exact .tail _ (.tail _ (.tail _ (.tail _ (.tail _ (.tail _ (.tail _ (.head _))))))) | exact .tail _ (.tail _ (.tail _ (.tail _ (.tail _ (.tail _ (.tail _ (.tail _ (.head _)))))))) | exact .tail _ (.tail _ (.tail _ (.tail _ (.tail _ (.tail _ (.tail _ (.tail _ (.tail _ (.head _))))))))) | exact .tail _ (.tail _ (.tail _ (.tail _ (.tail _ (.tail _ (.tail _ (.tail _ (.tail _ (.tail _ (.head _)))))))))) | exact .tail _ (.tail _ (.tail _ (.tail _ (.tail _ (.tail _ (.tail _ (.tail _ (.tail _ (.tail _ (.tail _ (.head _))))))))))) | exact .tail _ (.tail _ (.tail _ (.tail _ (.tail _ (.tail _ (.tail _ (.tail _ (.tail _ (.tail _ (.tail _ (.tail _ (.head _)))))))))))) | exact .tail _ (.tail _ (.tail _ (.tail _ (.tail _ (.tail _ (.tail _ (.tail _ (.tail _ (.tail _ (.tail _ (.tail _ (.tail _ (.head _))))))))))))))
      · show -2147483648 ≤ S 56 1 + 0 ∧ S 56 1 + 0 < 2147483648
        omega
      · exact zGs.sub (lo := [(0, _), (1, _), (2, _), (3, _), (4, _), (5, _), (6, _)]) (fin 0 (by rw [d1, if_neg (by rw [z1] at c; omega)]; rfl)) (fun q hq => by simp only [List.mem_cons, List.not_mem_nil, or_false] at hq; rcases hq with rfl | rfl | rfl | rfl | rfl | rfl <;> first | exact .head _ | exact .tail _ (.head _) | exact .tail _ (.tail _ (.head _)) | exact .tail _ (.tail _ (.tail _ (.head _))) | exact .tail _ (.tail _ (.tail _ (.tail _ (.head _)))) | exact .tail _ (.tail _ (.tail _ (.tail _ (.tail _ (.head _))))) | exact .tail _ (.tail _ (.tail _ (.tail _ (.tail _ (.tail _ (.head _)))))) | exact .tail _ (.tail _ (.tail _ (.tail _ (.tail _ (.tail _ (.tail _ (.head _))))))) | exact .tail _ (.tail _ (.tail _ (.tail _ (.tail _ (.tail _ (.tail _ (.tail _ (.head _)))))))) | exact .tail _ (.tail _ (.tail _ (.tail _ (.tail _ (.tail _ (.tail _ (.tail _ (.tail _ (.head _))))))))) | exact .tail _ (.tail _ (.tail _ (.tail _ (.tail _ (.tail _ (.tail _ (.tail _ (.tail _ (.tail _ (.head _)))))))))) | exact .tail _ (.tail _ (.tail _ (.tail _ (.tail _ (.tail _ (.tail _ (.tail _ (.tail _ (.tail _ (.tail _ (.head _))))))))))) | exact .tail _ (.tail _ (.tail _ (.tail _ (.tail _ (.tail _ (.tail _ (.tail _ (.tail _ (.tail _ (.tail _ (.tail _ (.head _)))))))))))) | exact .tail _ (.tail _ (.tail _ (.tail _ (.tail _ (.tail _ (.tail _ (.tail _ (.tail _ (.tail _ (.tail _ (.tail _ (.tail _ (.head _))))))))))))))
    refine zRs_of 5 (by decide) rfl rfl ?_; refine zwq_ok (Z_X5_countSpare l) rfl [6] (fun _ _ _ _ _ _ h => h) 400 (Z_X5_countSpare l) ?_
    refine L_X5_countSpare hD hC hi hab hb ?_ (b + 1 - a) a 0 (by omega) (by omega) rfl
    refine zwq_ok (Z_X5_countSpare l) rfl [43] (fun _ _ _ _ _ _ h => h) 400 (Z_X5_countSpare l) ?_
    exact one
  · exact h.elim
/-- is he shoeless in one of the hours; which shoes each by itself would help -/
def nyS (D : zD) (l : Nat) : Nat → Nat → Bool
  | 0, _ => false
  | f + 1, h => bif !(Nat.beq (duD D l h) 0) && Nat.beq (duD D l h &&& kinD D l) 0 then true else nyS D l f (h + 1)
def nyB (D : zD) (a b l : Nat) : Bool := nyS D l (b + 1 - a) a
def hpS (D : zD) (l : Nat) : Nat → Nat → Nat → Nat
  | 0, _, acc => acc
  | f + 1, h, acc => hpS D l f (h + 1) (bif !(Nat.beq (duD D l h) 0) && Nat.beq (duD D l h &&& kinD D l) 0 then acc &&& duD D l h else acc)
def hpD (D : zD) (a b l : Nat) : Nat := hpS D l (b + 1 - a) a (3 - kinD D l)
theorem hpS_lt (D : zD) (l : Nat) : ∀ f h acc, acc < 4 → hpS D l f h acc < 4 := by
  intro f
  induction f with
  | zero => intro h acc ha; exact ha
  | succ f ih =>
    intro h acc ha
    refine ih (h + 1) _ ?_
    cases (!(Nat.beq (duD D l h) 0) && Nat.beq (duD D l h &&& kinD D l) 0)
    · exact ha
    · exact Nat.lt_of_le_of_lt Nat.and_le_left ha
theorem hp_lt (D : zD) (a b l : Nat) : hpD D a b l < 4 := hpS_lt D l _ _ _ (by omega)
def B_X5_isShoeless : List (Nat × zC) := [(16, (0, 0, 2, 0, 0, 0, 0)), (27, (0, 1, 1, 0, 0, 0, 6)), (40, (0, 2, 2, 1, 0, 0, 3))]
def O_X5_isShoeless : zO := fun j a S K => match j with
  | 0 => wp_X0_doing a S K
  | 1 => wp_X6_lawFor a S K
  | 2 => wp_X3_signOf a S K
  | _ => False
theorem E_X5_isShoeless (l : Launch) : ∀ q ∈ B_X5_isShoeless, zcok l O_X5_isShoeless F_X5_isShoeless q.1 q.2 := List.forall_mem_cons.mpr ⟨⟨83, yX0_doing, cX0_doing, 3, some .int, by decide +kernel, C_5_83, W_X0_doing, I_X0_doing, S_X0_doing, rfl, rfl, R_X0_doing l⟩, List.forall_mem_cons.mpr ⟨⟨89, yX6_lawFor, cX6_lawFor, 2, some .int, by decide +kernel, C_5_89, W_X6_lawFor, I_X6_lawFor, S_X6_lawFor, rfl, rfl, R_X6_lawFor l⟩, List.forall_mem_cons.mpr ⟨⟨93, yX3_signOf, cX3_signOf, 3, some .int, by decide +kernel, C_5_93, W_X3_signOf, I_X3_signOf, S_X3_signOf, rfl, rfl, R_X3_signOf l⟩, fun _ h => by cases h⟩⟩⟩
def U_X5_isShoeless : List (Nat × zE) := [(0, Sum.inl (2, 2, 0, 0, 1, [])), (1, Sum.inl (5, 4, 0, 0, 3, [])), (3, Sum.inl (2, 4, 0, 0, 5, [])), (5, Sum.inl (2, 3, 0, 0, 6, [])), (6, Sum.inl (16, 2, 54, 0, 9, [])), (9, Sum.inl (4, 0, 0, 0, 10, [])), (10, Sum.inl (18, 5, 1, 0, 13, [])), (13, Sum.inl (2, 1, 0, 0, 14, [])), (14, Sum.inl (2, 4, 0, 0, 16, [])), (16, Sum.inr (0, 0, 2, 0, 0, 0, 0)), (19, Sum.inl (5, 5, 0, 0, 21, [])), (21, Sum.inl (4, 0, 0, 0, 22, [])), (22, Sum.inl (18, 5, 0, 0, 25, [])), (25, Sum.inl (2, 5, 0, 0, 27, [])), (27, Sum.inr (0, 1, 1, 0, 0, 0, 6)), (30, Sum.inl (17, 0, 48, 0, 33, [])), (33, Sum.inl (4, 0, 0, 0, 34, [])), (34, Sum.inl (18, 5, 2, 0, 37, [])), (37, Sum.inl (2, 1, 0, 0, 38, [])), (38, Sum.inl (2, 5, 0, 0, 40, [])), (40, Sum.inr (0, 2, 2, 1, 0, 0, 3)), (43, Sum.inl (17, 0, 46, 0, 48, [])), (46, Sum.inl (0, 0, 0, 1, 47, [])), (47, Sum.inl (27, 0, 0, 0, 48, [])), (48, Sum.inl (8, 4, 0, 1, 51, [])), (51, Sum.inl (15, 0, 0, 0, 3, [])), (54, Sum.inl (0, 0, 0, 0, 55, [])), (55, Sum.inl (27, 0, 0, 0, 56, []))]
theorem Z_X5_isShoeless (l : Launch) : ∀ q ∈ U_X5_isShoeless, zTok l O_X5_isShoeless F_X5_isShoeless q := zU_ok rfl rfl rfl K_X5_isShoeless (E_X5_isShoeless l)
def wp_X5_isShoeless (a : List zV) (S : zS) (K : zR2 → zS → Prop) : Prop := match a with
  | [.inr (.inl c), .inl x, .inl y, .inl z] => ∃ (D : zD) (l a b : Nat), (c = 52 ∧ dOK D ∧ cOK S D ∧ x = (l : Int) ∧ l < dL D ∧ y = (a : Int) ∧ z = (b : Int) ∧ a ≤ b ∧ b < 24) ∧ K (.inl (some (.inl (bti (nyB D a b l) : Int)))) S
  | _ => False
theorem L_X5_isShoeless {lc : Launch} {S : zS} {Q : zR2 → zS → Prop} {D : zD} {l a b : Nat} (hD : dOK D) (hC : cOK S D) (hl : l < dL D) (hab : a ≤ b) (hb : b < 24) (f : Nat) : ∀ h, h + f = b + 1 → Q (.inl (some (.inl (bti (nyS D l f h) : Int)))) S → zGs lc 2 0 0 F_X5_isShoeless S 3 [(0, .inr (.inl 52)), (1, .inl (l : Int)), (2, .inl (a : Int)), (3, .inl (b : Int)), (4, .inl (h : Int))] [] Q := by
  have h6 := hD.lodgers
  induction f with
  | zero =>
    intro h hh k
    refine zwq_ok (Z_X5_isShoeless lc) rfl [3] (fun _ _ _ _ _ _ h => h) 400 (Z_X5_isShoeless lc) ?_
    exact ⟨fun c => ⟨Or.inl rfl, k⟩, fun c => by omega⟩
  | succ f ih =>
    intro h hh k
    have k : Q (.inl (some (.inl (bti (bif !(Nat.beq (duD D l h) 0) && Nat.beq (duD D l h &&& kinD D l) 0 then true else nyS D l f (h + 1)) : Int)))) S := k
    have e1 : lawD D (tol (dD D (24 * l + h))) = duD D l h := law_tol D _
    have e2 : sigD D l (tol (dD D (24 * l + h))) = duD D l h &&& kinD D l := by unfold sigD; rw [e1]
    have nx : (!(Nat.beq (duD D l h) 0) && Nat.beq (duD D l h &&& kinD D l) 0) = false → zGs lc 2 0 0 F_X5_isShoeless S 48 [(0, .inr (.inl 52)), (1, .inl (l : Int)), (2, .inl (a : Int)), (3, .inl (b : Int)), (4, .inl (h : Int))] [] Q := fun c => by
      rw [c] at k
      have := ih (h + 1) (by omega) k
      refine zwq_ok (Z_X5_isShoeless lc) rfl [3] (fun _ _ _ _ _ _ h => h) 400 (Z_X5_isShoeless lc) ?_
      exact ⟨by omega, this⟩
    refine zwq_ok (Z_X5_isShoeless lc) rfl [3, 48] (fun _ _ _ _ _ _ h => h) 400 (Z_X5_isShoeless lc) ?_
    refine ⟨fun c => by omega, fun c => ⟨D, l, h, ⟨rfl, hC, rfl, rfl, by omega, by omega⟩, D, tol (dD D (24 * l + h)), ⟨rfl, hC, rfl⟩, fun c2 => ?_, fun c2 => ⟨D, l, tol (dD D (24 * l + h)), ⟨rfl, hD, hC, rfl, rfl, hl⟩, fun c3 => ⟨Or.inr rfl, ?_⟩, fun c3 => ?_⟩⟩⟩
    · rw [e1] at c2
      exact zGs.sub (lo := [(0, _), (1, _), (2, _), (3, _), (4, _), (5, _)]) (nx (by rw [show duD D l h = 0 by omega]; rfl)) (fun q hq => by simp only [List.mem_cons, List.not_mem_nil, or_false] at hq; rcases hq with rfl | rfl | rfl | rfl | rfl <;> first | exact .head _ | exact .tail _ (.head _) | exact .tail _ (.tail _ (.head _)) | exact .tail _ (.tail _ (.tail _ (.head _))) | exact .tail _ (.tail _ (.tail _ (.tail _ (.head _)))) | exact .tail _ (.tail _ (.tail _ (.tail _ (.tail _ (.head _))))) | exact .tail _ (.tail _ (.tail _ (.tail _ (.tail _ (.tail _ (.head _)))))) | exact .tail _ (.tail _ (.tail _ (.tail _ (.tail _ (.tail _ (.tail _ (.head _))))))) | exact .tail _ (.tail _ (.tail _ (.tail _ (.tail _ (.tail _ (.tail _ (.tail _ (.head _)))))))) | exact .tail _ (.tail _ (.tail _ (.tail _ (.tail _ (.tail _ (.tail _ (.tail _ (.tail _ (.head _))))))))) | exact .tail _ (.tail _ (.tail _ (.tail _ (.tail _ (.tail _ (.tail _ (.tail _ (.tail _ (.tail _ (.head _)))))))))) | exact .tail _ (.tail _ (.tail _ (.tail _ (.tail _ (.tail _ (.tail _ (.tail _ (.tail _ (.tail _ (.tail _ (.head _))))))))))) | exact .tail _ (.tail _ (.tail _ (.tail _ (.tail _ (.tail _ (.tail _ (.tail _ (.tail _ (.tail _ (.tail _ (.tail _ (.head _)))))))))))) | exact .tail _ (.tail _ (.tail _ (.tail _ (.tail _ (.tail _ (.tail _ (.tail _ (.tail _ (.tail _ (.tail _ (.tail _ (.tail _ (.head _))))))))))))))
    · rw [e1] at c2
      rw [e2] at c3
      rw [beqN (show duD D l h ≠ 0 by omega), show duD D l h &&& kinD D l = 0 by omega] at k
      exact k
    · rw [e2] at c3
      exact zGs.sub (lo := [(0, _), (1, _), (2, _), (3, _), (4, _), (5, _)]) (nx (by rw [beqN (show duD D l h &&& kinD D l ≠ 0 by omega), Bool.and_false])) (fun q hq => by simp only [List.mem_cons, List.not_mem_nil, or_false] at hq; rcases hq with rfl | rfl | rfl | rfl | rfl <;> first | exact .head _ | exact .tail _ (.head _) | exact .tail _ (.tail _ (.head _)) | exact .tail _ (.tail _ (.tail _ (.head _))) | exact .tail _ (.tail _ (.tail _ (.tail _ (.head _)))) | exact .tail _ (.tail _ (.tail _ (.tail _ (.tail _ (.head _))))) | exact .tail _ (.tail _ (.tail _ (.tail _ (.tail _ (.tail _ (.head _)))))) | exact .tail _ (.tail _ (.tail _ (.tail _ (.tail _ (.tail _ (.tail _ (.head _))))))) | exact .tail _ (.tail _ (.tail _ (.tail _ (.tail _ (.tail _ (.tail _ (.tail _ (.head _)))))))) | exact .tail _ (.tail _ (.tail _ (.tail _ (.tail _ (.tail _ (.tail _ (.tail _ (.tail _ (.head _))))))))) | exact .tail _ (.tail _ (.tail _ (.tail _ (.tail _ (.tail _ (.tail _ (.tail _ (.tail _ (.tail _ (.head _)))))))))) | exact .tail _ (.tail _ (.tail _ (.tail _ (.tail _ (.tail _ (.tail _ (.tail _ (.tail _ (.tail _ (.tail _ (.head _))))))))))) | exact .tail _ (.tail _ (.tail _ (.tail _ (.tail _ (.tail _ (.tail _ (.tail _ (.tail _ (.tail _ (.tail _ (.tail _ (.head _)))))))))))) | exact .tail _ (.tail _ (.tail _ (.tail _ (.tail _ (.tail _ (.tail _ (.tail _ (.tail _ (.tail _ (.tail _ (.tail _ (.tail _ (.head _))))))))))))))
theorem R_X5_isShoeless (l : Launch) (a : List zV) (S : zS) (Q : zR2 → zS → Prop) (h : wp_X5_isShoeless a S Q) : zRs l 2 0 0 yX5_isShoeless (.code yX5_isShoeless cX5_isShoeless 6 (some .boolean)) a S Q := by
  unfold wp_X5_isShoeless at h
  split at h
  · obtain ⟨D, i, a, b, ⟨rfl, hD, hC, rfl, hi, rfl, rfl, hab, hb⟩, h⟩ := h
    refine zRs_of 5 (by decide) rfl rfl ?_; refine zwq_ok (Z_X5_isShoeless l) rfl [3] (fun _ _ _ _ _ _ h => h) 400 (Z_X5_isShoeless l) ?_
    exact L_X5_isShoeless hD hC hi hab hb (b + 1 - a) a (by omega) h
  · exact h.elim
def B_X5_helpfulShoes : List (Nat × zC) := [(5, (0, 0, 1, 0, 0, 0, 0)), (38, (0, 1, 2, 0, 0, 0, 0)), (41, (0, 2, 1, 0, 0, 0, 6))]
def O_X5_helpfulShoes : zO := fun j a S K => match j with
  | 0 => wp_X0_shoeKinds a S K
  | 1 => wp_X0_doing a S K
  | 2 => wp_X6_lawFor a S K
  | _ => False
theorem E_X5_helpfulShoes (l : Launch) : ∀ q ∈ B_X5_helpfulShoes, zcok l O_X5_helpfulShoes F_X5_helpfulShoes q.1 q.2 := List.forall_mem_cons.mpr ⟨⟨98, yX0_shoeKinds, cX0_shoeKinds, 4, some .int, by decide +kernel, C_5_98, W_X0_shoeKinds, I_X0_shoeKinds, S_X0_shoeKinds, rfl, rfl, R_X0_shoeKinds l⟩, List.forall_mem_cons.mpr ⟨⟨83, yX0_doing, cX0_doing, 3, some .int, by decide +kernel, C_5_83, W_X0_doing, I_X0_doing, S_X0_doing, rfl, rfl, R_X0_doing l⟩, List.forall_mem_cons.mpr ⟨⟨89, yX6_lawFor, cX6_lawFor, 2, some .int, by decide +kernel, C_5_89, W_X6_lawFor, I_X6_lawFor, S_X6_lawFor, rfl, rfl, R_X6_lawFor l⟩, fun _ h => by cases h⟩⟩⟩
def U_X5_helpfulShoes : List (Nat × zE) := [(0, Sum.inl (4, 0, 0, 0, 1, [])), (1, Sum.inl (18, 5, 1, 0, 4, [])), (4, Sum.inl (2, 1, 0, 0, 5, [])), (5, Sum.inr (0, 0, 1, 0, 0, 0, 0)), (8, Sum.inl (5, 4, 0, 0, 10, [])), (10, Sum.inl (0, 0, 0, 3, 11, [])), (11, Sum.inl (2, 4, 0, 0, 13, [])), (13, Sum.inl (0, 0, 0, (-1), 14, [])), (14, Sum.inl (9, 5, 0, 0, 15, [])), (15, Sum.inl (9, 3, 0, 0, 16, [])), (16, Sum.inl (5, 5, 0, 0, 18, [])), (18, Sum.inl (2, 2, 0, 0, 19, [])), (19, Sum.inl (5, 6, 0, 0, 21, [])), (21, Sum.inl (2, 6, 0, 0, 23, [])), (23, Sum.inl (2, 3, 0, 0, 24, [])), (24, Sum.inl (16, 2, 72, 0, 27, [])), (27, Sum.inl (4, 0, 0, 0, 28, [])), (28, Sum.inl (18, 5, 0, 0, 31, [])), (31, Sum.inl (4, 0, 0, 0, 32, [])), (32, Sum.inl (18, 5, 1, 0, 35, [])), (35, Sum.inl (2, 1, 0, 0, 36, [])), (36, Sum.inl (2, 6, 0, 0, 38, [])), (38, Sum.inr (0, 1, 2, 0, 0, 0, 0)), (41, Sum.inr (0, 2, 1, 0, 0, 0, 6)), (44, Sum.inl (5, 7, 0, 0, 46, [])), (46, Sum.inl (2, 7, 0, 0, 48, [])), (48, Sum.inl (17, 0, 66, 0, 51, [])), (51, Sum.inl (2, 7, 0, 0, 53, [])), (53, Sum.inl (2, 4, 0, 0, 55, [])), (55, Sum.inl (9, 3, 0, 0, 56, [])), (56, Sum.inl (17, 0, 59, 0, 66, [])), (59, Sum.inl (2, 5, 0, 0, 61, [])), (61, Sum.inl (2, 7, 0, 0, 63, [])), (63, Sum.inl (9, 3, 0, 0, 64, [])), (64, Sum.inl (5, 5, 0, 0, 66, [])), (66, Sum.inl (8, 6, 0, 1, 69, [])), (69, Sum.inl (15, 0, 0, 0, 21, [])), (72, Sum.inl (2, 5, 0, 0, 74, [])), (74, Sum.inl (27, 0, 0, 0, 75, []))]
theorem Z_X5_helpfulShoes (l : Launch) : ∀ q ∈ U_X5_helpfulShoes, zTok l O_X5_helpfulShoes F_X5_helpfulShoes q := zU_ok rfl rfl rfl K_X5_helpfulShoes (E_X5_helpfulShoes l)
def wp_X5_helpfulShoes (a : List zV) (S : zS) (K : zR2 → zS → Prop) : Prop := match a with
  | [.inr (.inl c), .inl x, .inl y, .inl z] => ∃ (D : zD) (l a b : Nat), (c = 52 ∧ dOK D ∧ cOK S D ∧ x = (l : Int) ∧ l < dL D ∧ y = (a : Int) ∧ z = (b : Int) ∧ a ≤ b ∧ b < 24) ∧ K (.inl (some (.inl (hpD D a b l : Int)))) S
  | _ => False
theorem L_X5_helpfulShoes {lc : Launch} {S : zS} {Q : zR2 → zS → Prop} {D : zD} {l a b : Nat} (hD : dOK D) (hC : cOK S D) (hl : l < dL D) (hab : a ≤ b) (hb : b < 24) (f : Nat) : ∀ h acc, h + f = b + 1 → acc < 4 → Q (.inl (some (.inl (hpS D l f h acc : Int)))) S → zGs lc 1 0 0 F_X5_helpfulShoes S 21 [(0, .inr (.inl 52)), (1, .inl (l : Int)), (2, .inl (a : Int)), (3, .inl (b : Int)), (4, .inl (kinD D l : Int)), (5, .inl (acc : Int)), (6, .inl (h : Int))] [] Q := by
  have h6 := hD.lodgers
  have hkin := kin_lt D l
  induction f with
  | zero =>
    intro h acc hh ha k
    refine zwq_ok (Z_X5_helpfulShoes lc) rfl [21] (fun _ _ _ _ _ _ h => h) 400 (Z_X5_helpfulShoes lc) ?_
    exact ⟨fun c => k, fun c => by omega⟩
  | succ f ih =>
    intro h acc hh ha k
    have k : Q (.inl (some (.inl (hpS D l f (h + 1) (bif !(Nat.beq (duD D l h) 0) && Nat.beq (duD D l h &&& kinD D l) 0 then acc &&& duD D l h else acc) : Int)))) S := k
    have hd := du_lt hD l h
    have e1 : lawD D (tol (dD D (24 * l + h))) = duD D l h := law_tol D _
    have z1 : zand (duD D l h : Int) (kinD D l : Int) = ((duD D l h &&& kinD D l : Nat) : Int) := zand_n (by omega)
    have z2 : zand (acc : Int) (duD D l h : Int) = ((acc &&& duD D l h : Nat) : Int) := zand_n (by omega)
    have nx : ∀ acc2 : Nat, acc2 < 4 → Q (.inl (some (.inl (hpS D l f (h + 1) acc2 : Int)))) S → zGs lc 1 0 0 F_X5_helpfulShoes S 66 [(0, .inr (.inl 52)), (1, .inl (l : Int)), (2, .inl (a : Int)), (3, .inl (b : Int)), (4, .inl (kinD D l : Int)), (5, .inl (acc2 : Int)), (6, .inl (h : Int))] [] Q := fun acc2 h2 k2 => by
      have := ih (h + 1) acc2 (by omega) h2 k2
      refine zwq_ok (Z_X5_helpfulShoes lc) rfl [21] (fun _ _ _ _ _ _ h => h) 400 (Z_X5_helpfulShoes lc) ?_
      exact ⟨by omega, this⟩
    refine zwq_ok (Z_X5_helpfulShoes lc) rfl [21, 66] (fun _ _ _ _ _ _ h => h) 400 (Z_X5_helpfulShoes lc) ?_
    refine ⟨fun c => by omega, fun c => ⟨D, l, h, ⟨rfl, hC, rfl, rfl, by omega, by omega⟩, D, tol (dD D (24 * l + h)), ⟨rfl, hC, rfl⟩, ?_⟩⟩
    rw [e1]
    refine ⟨fun c2 => ?_, fun c2 => ⟨fun c3 => ?_, fun c3 => ?_⟩⟩
    · rw [show duD D l h = 0 by omega] at k
      exact zGs.sub (lo := [(0, _), (1, _), (2, _), (3, _), (4, _), (5, _), (6, _), (7, _)]) (nx acc ha k) (fun q hq => by simp only [List.mem_cons, List.not_mem_nil, or_false] at hq; rcases hq with rfl | rfl | rfl | rfl | rfl | rfl | rfl <;> first | exact .head _ | exact .tail _ (.head _) | exact .tail _ (.tail _ (.head _)) | exact .tail _ (.tail _ (.tail _ (.head _))) | exact .tail _ (.tail _ (.tail _ (.tail _ (.head _)))) | exact .tail _ (.tail _ (.tail _ (.tail _ (.tail _ (.head _))))) | exact .tail _ (.tail _ (.tail _ (.tail _ (.tail _ (.tail _ (.head _)))))) | exact .tail _ (.tail _ (.tail _ (.tail _ (.tail _ (.tail _ (.tail _ (.head _))))))) | exact .tail _ (.tail _ (.tail _ (.tail _ (.tail _ (.tail _ (.tail _ (.tail _ (.head _)))))))) | exact .tail _ (.tail _ (.tail _ (.tail _ (.tail _ (.tail _ (.tail _ (.tail _ (.tail _ (.head _))))))))) | exact .tail _ (.tail _ (.tail _ (.tail _ (.tail _ (.tail _ (.tail _ (.tail _ (.tail _ (.tail _ (.head _)))))))))) | exact .tail _ (.tail _ (.tail _ (.tail _ (.tail _ (.tail _ (.tail _ (.tail _ (.tail _ (.tail _ (.tail _ (.head _))))))))))) | exact .tail _ (.tail _ (.tail _ (.tail _ (.tail _ (.tail _ (.tail _ (.tail _ (.tail _ (.tail _ (.tail _ (.tail _ (.head _)))))))))))) | exact .tail _ (.tail _ (.tail _ (.tail _ (.tail _ (.tail _ (.tail _ (.tail _ (.tail _ (.tail _ (.tail _ (.tail _ (.tail _ (.head _))))))))))))))
    · rw [z1] at c3
      rw [beqN (show duD D l h ≠ 0 by omega), show duD D l h &&& kinD D l = 0 by omega] at k
      have := nx (acc &&& duD D l h) (Nat.lt_of_le_of_lt Nat.and_le_left ha) k
      rw [← z2] at this
      exact zGs.sub (lo := [(0, _), (1, _), (2, _), (3, _), (4, _), (5, _), (6, _), (7, _)]) this (fun q hq => by simp only [List.mem_cons, List.not_mem_nil, or_false] at hq; rcases hq with rfl | rfl | rfl | rfl | rfl | rfl | rfl <;> first | exact .head _ | exact .tail _ (.head _) | exact .tail _ (.tail _ (.head _)) | exact .tail _ (.tail _ (.tail _ (.head _))) | exact .tail _ (.tail _ (.tail _ (.tail _ (.head _)))) | exact .tail _ (.tail _ (.tail _ (.tail _ (.tail _ (.head _))))) | exact .tail _ (.tail _ (.tail _ (.tail _ (.tail _ (.tail _ (.head _)))))) | exact .tail _ (.tail _ (.tail _ (.tail _ (.tail _ (.tail _ (.tail _ (.head _))))))) | exact .tail _ (.tail _ (.tail _ (.tail _ (.tail _ (.tail _ (.tail _ (.tail _ (.head _)))))))) | exact .tail _ (.tail _ (.tail _ (.tail _ (.tail _ (.tail _ (.tail _ (.tail _ (.tail _ (.head _))))))))) | exact .tail _ (.tail _ (.tail _ (.tail _ (.tail _ (.tail _ (.tail _ (.tail _ (.tail _ (.tail _ (.head _)))))))))) | exact .tail _ (.tail _ (.tail _ (.tail _ (.tail _ (.tail _ (.tail _ (.tail _ (.tail _ (.tail _ (.tail _ (.head _))))))))))) | exact .tail _ (.tail _ (.tail _ (.tail _ (.tail _ (.tail _ (.tail _ (.tail _ (.tail _ (.tail _ (.tail _ (.tail _ (.head _)))))))))))) | exact .tail _ (.tail _ (.tail _ (.tail _ (.tail _ (.tail _ (.tail _ (.tail _ (.tail _ (.tail _ (.tail _ (.tail _ (.tail _ (.head _))))))))))))))
    · rw [z1] at c3
      rw [beqN (show duD D l h &&& kinD D l ≠ 0 by omega), Bool.and_false] at k
      exact zGs.sub (lo := [(0, _), (1, _), (2, _), (3, _), (4, _), (5, _), (6, _), (7, _)]) (nx acc ha k) (fun q hq => by simp only [List.mem_cons, List.not_mem_nil, or_false] at hq; rcases hq with rfl | rfl | rfl | rfl | rfl | rfl | rfl <;> first | exact .head _ | exact .tail _ (.head _) | exact .tail _ (.tail _ (.head _)) | exact .tail _ (.tail _ (.tail _ (.head _))) | exact .tail _ (.tail _ (.tail _ (.tail _ (.head _)))) | exact .tail _ (.tail _ (.tail _ (.tail _ (.tail _ (.head _))))) | exact .tail _ (.tail _ (.tail _ (.tail _ (.tail _ (.tail _ (.head _)))))) | exact .tail _ (.tail _ (.tail _ (.tail _ (.tail _ (.tail _ (.tail _ (.head _))))))) | exact .tail _ (.tail _ (.tail _ (.tail _ (.tail _ (.tail _ (.tail _ (.tail _ (.head _)))))))) | exact .tail _ (.tail _ (.tail _ (.tail _ (.tail _ (.tail _ (.tail _ (.tail _ (.tail _ (.head _))))))))) | exact .tail _ (.tail _ (.tail _ (.tail _ (.tail _ (.tail _ (.tail _ (.tail _ (.tail _ (.tail _ (.head _)))))))))) | exact .tail _ (.tail _ (.tail _ (.tail _ (.tail _ (.tail _ (.tail _ (.tail _ (.tail _ (.tail _ (.tail _ (.head _))))))))))) | exact .tail _ (.tail _ (.tail _ (.tail _ (.tail _ (.tail _ (.tail _ (.tail _ (.tail _ (.tail _ (.tail _ (.tail _ (.head _)))))))))))) | exact .tail _ (.tail _ (.tail _ (.tail _ (.tail _ (.tail _ (.tail _ (.tail _ (.tail _ (.tail _ (.tail _ (.tail _ (.tail _ (.head _))))))))))))))
theorem not4 : ∀ k, k < 4 → msk (fun j => (3 : Nat).testBit j && !k.testBit j) 18 = 3 - k := by decide +kernel
theorem R_X5_helpfulShoes (l : Launch) (a : List zV) (S : zS) (Q : zR2 → zS → Prop) (h : wp_X5_helpfulShoes a S Q) : zRs l 1 0 0 yX5_helpfulShoes (.code yX5_helpfulShoes cX5_helpfulShoes 8 (some .int)) a S Q := by
  unfold wp_X5_helpfulShoes at h
  split at h
  · obtain ⟨D, i, a, b, ⟨rfl, hD, hC, rfl, hi, rfl, rfl, hab, hb⟩, h⟩ := h
    have hkin := kin_lt D i
    have e : zand 3 (zxor (kinD D i : Int) (-1)) = ((3 - kinD D i : Nat) : Int) := by
      have := zandn (a := 3) (b := kinD D i) (by decide)
      rw [not4 _ hkin] at this
      exact this
    have go := L_X5_helpfulShoes (lc := l) hD hC hi hab hb (b + 1 - a) a (3 - kinD D i) (by omega) (by omega) h
    rw [← e] at go
    refine zRs_of 5 (by decide) rfl rfl ?_; refine zwq_ok (Z_X5_helpfulShoes l) rfl [21] (fun _ _ _ _ _ _ h => h) 400 (Z_X5_helpfulShoes l) ?_
    refine ⟨D, i, ⟨rfl, hD, hC, rfl, hi⟩, ?_⟩
    exact go
  · exact h.elim
