/-! the fewest shoes: the class's answer -/
def wnD (D : zD) (a b i : Nat) : Int := bif nyB D a b i then (hpD D a b i : Int) else -1
def s2D (D : zD) (a b k : Nat) : Nat := spN D a b (k / 2) (k % 2 + 1)
def maD (D : zD) (a b : Nat) : Nat → Nat := suN (fun i => if wnD D a b i = -1 then 0 else 1)
theorem wn_ok (D : zD) (a b i : Nat) : wnD D a b i = -1 ∨ (0 ≤ wnD D a b i ∧ wnD D a b i < 4) := by
  have := hp_lt D a b i
  unfold wnD
  cases nyB D a b i
  · exact Or.inl rfl
  · right; show 0 ≤ (hpD D a b i : Int) ∧ (hpD D a b i : Int) < 4; omega
def kfC (S : zS) (D : zD) (a b j : Nat) : Prop := (∀ i, i < j → S 53 i = wnD D a b i) ∧ (∀ k, k < 2 * j → S 54 k = (s2D D a b k : Int)) ∧ (∀ m, m < 4 → S 55 m = (suN (fun i => if wnD D a b i = (m : Int) then 1 else 0) j : Int)) ∧ S 56 1 = (suN (fun i => s2D D a b (2 * i + 1 - 1)) j : Int) ∧ S 56 2 = (suN (fun i => s2D D a b (2 * i + 2 - 1)) j : Int)
theorem s2_e (D : zD) (a b j : Nat) : s2D D a b (2 * j) = spN D a b j 1 ∧ s2D D a b (2 * j + 1) = spN D a b j 2 := by
  unfold s2D
  refine ⟨?_, ?_⟩
  · rw [show 2 * j / 2 = j by omega, show 2 * j % 2 + 1 = 1 by omega]
  · rw [show (2 * j + 1) / 2 = j by omega, show (2 * j + 1) % 2 + 1 = 2 by omega]
theorem s2_le {D : zD} (hD : dOK D) {a b k : Nat} (hk : k < 2 * dL D) : s2D D a b k ≤ 13 := sp_le hD (by omega) (by omega)
def frX (S S0 : zS) : Prop := ∀ c, c ≠ 53 → c ≠ 54 → c ≠ 55 → c ≠ 56 → S c = S0 c
theorem cOK.fx {S S0 : zS} {D : zD} (h : cOK S0 D) (hf : frX S S0) : cOK S D := h.fr (fun c a b => hf c (by omega) (by omega) (by omega) (by omega)) (fun c a b => hf c (by omega) (by omega) (by omega) (by omega))
def B_X5_keepFewest : List (Nat × zC) := [(5, (1, 0, 2, 0, 0, 0, 0)), (13, (1, 0, 2, 0, 0, 0, 0)), (38, (0, 1, 3, 1, 0, 0, 5)), (54, (0, 2, 3, 2, 0, 0, 5)), (71, (0, 3, 3, 1, 0, 0, 5)), (101, (0, 4, 0, 0, 0, 0, 5)), (110, (0, 5, 0, 3, 0, 0, 5)), (130, (8, 0, 0, 0, 0, 0, 0))]
def O_X5_keepFewest : zO := fun j a S K => match j with
  | 0 => wp_J7_fill_53178 a S K
  | 1 => wp_X5_countSpare a S K
  | 2 => wp_X5_isShoeless a S K
  | 3 => wp_X5_helpfulShoes a S K
  | 4 => wp_X5_canServe a S K
  | 5 => wp_X5_serveAll a S K
  | _ => False
theorem E_X5_keepFewest (l : Launch) : ∀ q ∈ B_X5_keepFewest, zcok l O_X5_keepFewest F_X5_keepFewest q.1 q.2 := List.forall_mem_cons.mpr ⟨⟨42, yJ7_fill_53178, cJ7_fill_53178, 4, none, by decide +kernel, C_5_42, W_J7_fill_53178, I_J7_fill_53178, rfl, R_J7_fill_53178 l⟩, List.forall_mem_cons.mpr ⟨⟨42, yJ7_fill_53178, cJ7_fill_53178, 4, none, by decide +kernel, C_5_42, W_J7_fill_53178, I_J7_fill_53178, rfl, R_J7_fill_53178 l⟩, List.forall_mem_cons.mpr ⟨⟨54, yX5_countSpare, cX5_countSpare, 7, none, by decide +kernel, C_5_54, W_X5_countSpare, I_X5_countSpare, S_X5_countSpare, rfl, rfl, R_X5_countSpare l⟩, List.forall_mem_cons.mpr ⟨⟨58, yX5_isShoeless, cX5_isShoeless, 6, some .boolean, by decide +kernel, C_5_58, W_X5_isShoeless, I_X5_isShoeless, S_X5_isShoeless, rfl, rfl, R_X5_isShoeless l⟩, List.forall_mem_cons.mpr ⟨⟨62, yX5_helpfulShoes, cX5_helpfulShoes, 8, some .int, by decide +kernel, C_5_62, W_X5_helpfulShoes, I_X5_helpfulShoes, S_X5_helpfulShoes, rfl, rfl, R_X5_helpfulShoes l⟩, List.forall_mem_cons.mpr ⟨⟨66, yX5_canServe, cX5_canServe, 2, some .boolean, by decide +kernel, C_5_66, W_X5_canServe, I_X5_canServe, S_X5_canServe, rfl, rfl, R_X5_canServe l⟩, List.forall_mem_cons.mpr ⟨⟨70, yX5_serveAll, cX5_serveAll, 2, none, by decide +kernel, C_5_70, W_X5_serveAll, I_X5_serveAll, S_X5_serveAll, rfl, rfl, R_X5_serveAll l⟩, List.forall_mem_cons.mpr ⟨⟨73, by decide +kernel, z_at 1166 (by decide +kernel) (by decide +kernel)⟩, fun _ h => by cases h⟩⟩⟩⟩⟩⟩⟩⟩
def U_X5_keepFewest : List (Nat × zE) := [(0, Sum.inl (4, 0, 0, 0, 1, [])), (1, Sum.inl (18, 5, 5, 0, 4, [])), (4, Sum.inl (0, 0, 0, 0, 5, [])), (5, Sum.inr (1, 0, 2, 0, 0, 0, 0)), (8, Sum.inl (4, 0, 0, 0, 9, [])), (9, Sum.inl (18, 5, 6, 0, 12, [])), (12, Sum.inl (0, 0, 0, 0, 13, [])), (13, Sum.inr (1, 0, 2, 0, 0, 0, 0)), (16, Sum.inl (0, 0, 0, 0, 17, [])), (17, Sum.inl (5, 3, 0, 0, 18, [])), (18, Sum.inl (0, 0, 0, 0, 19, [])), (19, Sum.inl (5, 4, 0, 0, 21, [])), (21, Sum.inl (2, 4, 0, 0, 23, [])), (23, Sum.inl (4, 0, 0, 0, 24, [])), (24, Sum.inl (18, 5, 0, 0, 27, [])), (27, Sum.inl (18, 6, 8, 0, 30, [])), (30, Sum.inl (16, 1, 33, 0, 100, [])), (33, Sum.inl (4, 0, 0, 0, 34, [])), (34, Sum.inl (2, 4, 0, 0, 36, [])), (36, Sum.inl (2, 1, 0, 0, 37, [])), (37, Sum.inl (2, 2, 0, 0, 38, [])), (38, Sum.inr (0, 1, 3, 1, 0, 0, 5)), (41, Sum.inl (4, 0, 0, 0, 42, [])), (42, Sum.inl (18, 5, 3, 0, 45, [])), (45, Sum.inl (2, 4, 0, 0, 47, [])), (47, Sum.inl (0, 0, 0, (-1), 48, [])), (48, Sum.inl (21, 0, 0, 0, 49, [])), (49, Sum.inl (4, 0, 0, 0, 50, [])), (50, Sum.inl (2, 4, 0, 0, 52, [])), (52, Sum.inl (2, 1, 0, 0, 53, [])), (53, Sum.inl (2, 2, 0, 0, 54, [])), (54, Sum.inr (0, 2, 3, 2, 0, 0, 5)), (57, Sum.inl (17, 0, 94, 0, 60, [])), (60, Sum.inl (4, 0, 0, 0, 61, [])), (61, Sum.inl (18, 5, 3, 0, 64, [])), (64, Sum.inl (2, 4, 0, 0, 66, [])), (66, Sum.inl (4, 0, 0, 0, 67, [])), (67, Sum.inl (2, 4, 0, 0, 69, [])), (69, Sum.inl (2, 1, 0, 0, 70, [])), (70, Sum.inl (2, 2, 0, 0, 71, [])), (71, Sum.inr (0, 3, 3, 1, 0, 0, 5)), (74, Sum.inl (21, 0, 0, 0, 75, [])), (75, Sum.inl (4, 0, 0, 0, 76, [])), (76, Sum.inl (18, 5, 5, 0, 79, [])), (79, Sum.inl (4, 0, 0, 0, 80, [])), (80, Sum.inl (18, 5, 3, 0, 83, [])), (83, Sum.inl (2, 4, 0, 0, 85, [])), (85, Sum.inl (20, 0, 0, 0, 86, [])), (86, Sum.inl (13, 0, 0, 0, 87, [])), (87, Sum.inl (20, 0, 0, 0, 88, [])), (88, Sum.inl (0, 0, 0, 1, 89, [])), (89, Sum.inl (9, 0, 0, 0, 90, [])), (90, Sum.inl (21, 0, 0, 0, 91, [])), (91, Sum.inl (8, 3, 0, 1, 94, [])), (94, Sum.inl (8, 4, 0, 1, 97, [])), (97, Sum.inl (15, 0, 0, 0, 21, [])), (100, Sum.inl (4, 0, 0, 0, 101, [])), (101, Sum.inr (0, 4, 0, 0, 0, 0, 5)), (104, Sum.inl (17, 0, 107, 0, 109, [])), (107, Sum.inl (0, 0, 0, (-1), 108, [])), (108, Sum.inl (27, 0, 0, 0, 109, [])), (109, Sum.inl (4, 0, 0, 0, 110, [])), (110, Sum.inr (0, 5, 0, 3, 0, 0, 5)), (113, Sum.inl (4, 0, 0, 0, 114, [])), (114, Sum.inl (18, 5, 7, 0, 117, [])), (117, Sum.inl (0, 0, 0, 0, 118, [])), (118, Sum.inl (4, 0, 0, 0, 119, [])), (119, Sum.inl (18, 5, 8, 0, 122, [])), (122, Sum.inl (0, 0, 0, 0, 123, [])), (123, Sum.inl (4, 0, 0, 0, 124, [])), (124, Sum.inl (18, 5, 0, 0, 127, [])), (127, Sum.inl (18, 6, 8, 0, 130, [])), (130, Sum.inr (8, 0, 0, 0, 0, 0, 0)), (133, Sum.inl (4, 0, 0, 0, 134, [])), (134, Sum.inl (0, 0, 0, 1, 135, [])), (135, Sum.inl (19, 5, 9, 0, 138, [])), (138, Sum.inl (2, 3, 0, 0, 139, [])), (139, Sum.inl (27, 0, 0, 0, 140, []))]
theorem Z_X5_keepFewest (l : Launch) : ∀ q ∈ U_X5_keepFewest, zTok l O_X5_keepFewest F_X5_keepFewest q := zU_ok rfl rfl rfl K_X5_keepFewest (E_X5_keepFewest l)
def geL (D : zD) (a b : Nat) : List Nat := grS (wnD D a b) (dL D) (dL D) 0 (s2D D a b)
def hsD (D : zD) (a b : Nat) : Bool := HSB (wnD D a b) (dL D) (s2D D a b) 0
def wp_X5_keepFewest (a : List zV) (S : zS) (K : zR2 → zS → Prop) : Prop := match a with
  | [.inr (.inl c), .inl y, .inl z] => ∃ (D : zD) (a b : Nat), (c = 52 ∧ dOK D ∧ cOK S D ∧ y = (a : Int) ∧ z = (b : Int) ∧ a ≤ b ∧ b < 24) ∧ (hsD D a b = true → ∀ S', (∀ i, i < dL D → S' 58 i = ((geL D a b).getD i 0 : Int) - 1) → S' 52 9 = 1 → (∀ c j, (c < 53 ∨ 58 < c) → (c ≠ 52 ∨ j ≠ 9) → S' c j = S c j) → K (.inl (some (.inl (maD D a b (dL D) : Int)))) S') ∧ (hsD D a b = false → ∀ S', (∀ c, (c < 53 ∨ 57 < c) → S' c = S c) → K (.inl (some (.inl (-1)))) S')
  | _ => False
section
variable {l : Launch} {S0 : zS} {Q : zR2 → zS → Prop} {D : zD} {a b : Nat}
theorem L_X5_keepFewest (hD : dOK D) (hC : cOK S0 D) (hab : a ≤ b) (hb : b < 24) (k : ∀ S, kfC S D a b (dL D) → frX S S0 → zGs l 4 0 0 F_X5_keepFewest S 100 [(0, .inr (.inl 52)), (1, .inl (a : Int)), (2, .inl (b : Int)), (3, .inl (maD D a b (dL D) : Int))] [] Q) (f : Nat) : ∀ j S, j + f = dL D → kfC S D a b j → frX S S0 → zGs l 4 0 0 F_X5_keepFewest S 21 [(0, .inr (.inl 52)), (1, .inl (a : Int)), (2, .inl (b : Int)), (3, .inl (maD D a b j : Int)), (4, .inl (j : Int))] [] Q := by
  have h6 := hD.lodgers
  induction f with
  | zero =>
    intro j S hj hk hf
    have : j = dL D := by omega
    subst this
    have eL := (hC.fx hf).lodgers
    refine zwq_ok (Z_X5_keepFewest l) rfl [21, 100] (fun _ _ _ _ _ _ h => h) 400 (Z_X5_keepFewest l) ?_
    refine ⟨fun c => by omega, fun c => ?_⟩
    exact zGs.sub (lo := [(0, _), (1, _), (2, _), (3, _), (4, _)]) (k S hk hf) (fun q hq => by simp only [List.mem_cons, List.not_mem_nil, or_false] at hq; rcases hq with rfl | rfl | rfl | rfl <;> first | exact .head _ | exact .tail _ (.head _) | exact .tail _ (.tail _ (.head _)) | exact .tail _ (.tail _ (.tail _ (.head _))) | exact .tail _ (.tail _ (.tail _ (.tail _ (.head _)))) | exact .tail _ (.tail _ (.tail _ (.tail _ (.tail _ (.head _))))) | exact .tail _ (.tail _ (.tail _ (.tail _ (.tail _ (.tail _ (.head _)))))) | exact .tail _ (.tail _ (.tail _ (.tail _ (.tail _ (.tail _ (.tail _ (.head _))))))) | exact .tail _ (.tail _ (.tail _ (.tail _ (.tail _ (.tail _ (.tail _ (.tail _ (.head _)))))))) | exact .tail _ (.tail _ (.tail _ (.tail _ (.tail _ (.tail _ (.tail _ (.tail _ (.tail _ (.head _))))))))) | exact .tail _ (.tail _ (.tail _ (.tail _ (.tail _ (.tail _ (.tail _ (.tail _ (.tail _ (.tail _ (.head _)))))))))) | exact .tail _ (.tail _ (.tail _ (.tail _ (.tail _ (.tail _ (.tail _ (.tail _ (.tail _ (.tail _ (.tail _ (.head _))))))))))) | exact .tail _ (.tail _ (.tail _ (.tail _ (.tail _ (.tail _ (.tail _ (.tail _ (.tail _ (.tail _ (.tail _ (.tail _ (.head _)))))))))))) | exact .tail _ (.tail _ (.tail _ (.tail _ (.tail _ (.tail _ (.tail _ (.tail _ (.tail _ (.tail _ (.tail _ (.tail _ (.tail _ (.head _))))))))))))))
  | succ f ih =>
    intro j S hj hk hf
    have hCS := hC.fx hf
    have eL := hCS.lodgers
    obtain ⟨k1, k2, k3, k4, k5⟩ := hk
    obtain ⟨q1, q2⟩ := s2_e D a b j
    have b1 := suN_le (f := fun i => s2D D a b (2 * i + 1 - 1)) (b := 13) j (fun i hi => s2_le hD (by omega))
    have b2 := suN_le (f := fun i => s2D D a b (2 * i + 2 - 1)) (b := 13) j (fun i hi => s2_le hD (by omega))
    have n1 : suN (fun i => s2D D a b (2 * i + 1 - 1)) (j + 1) = suN (fun i => s2D D a b (2 * i + 1 - 1)) j + s2D D a b (2 * j + 1 - 1) := rfl
    have n2 : suN (fun i => s2D D a b (2 * i + 2 - 1)) (j + 1) = suN (fun i => s2D D a b (2 * i + 2 - 1)) j + s2D D a b (2 * j + 2 - 1) := rfl
    rw [show 2 * j + 1 - 1 = 2 * j by omega, q1] at n1
    rw [show 2 * j + 2 - 1 = 2 * j + 1 by omega, q2] at n2
    obtain ⟨S1, hS1⟩ : ∃ S1, S1 = zu (zu (zu (zu S 54 (2 * j) (spN D a b j 1 : Int)) 56 1 ((suN (fun i => s2D D a b (2 * i + 1 - 1)) j + spN D a b j 1 : Nat) : Int)) 54 (2 * j + 1) (spN D a b j 2 : Int)) 56 2 ((suN (fun i => s2D D a b (2 * i + 2 - 1)) j + spN D a b j 2 : Nat) : Int) := ⟨_, rfl⟩
    have c53 : S1 53 = S 53 := by rw [hS1]; rfl
    have c55 : S1 55 = S 55 := by rw [hS1]; rfl
    have c561 : S1 56 1 = (suN (fun i => s2D D a b (2 * i + 1 - 1)) (j + 1) : Int) := by rw [hS1, n1]; rfl
    have c562 : S1 56 2 = (suN (fun i => s2D D a b (2 * i + 2 - 1)) (j + 1) : Int) := by rw [hS1, n2]; rfl
    have c54 : ∀ i, i < 2 * (j + 1) → S1 54 i = (s2D D a b i : Int) := fun i hi => by
      rw [hS1]
      show zu (zu S 54 (2 * j) (spN D a b j 1 : Int)) 54 (2 * j + 1) (spN D a b j 2 : Int) 54 i = _
      rw [zu_if, zu_if]
      by_cases e1 : i = 2 * j + 1
      · rw [if_pos e1, e1, q2]
      · rw [if_neg e1]
        by_cases e2 : i = 2 * j
        · rw [if_pos e2, e2, q1]
        · rw [if_neg e2]; exact k2 i (by omega)
    have f1 : ∀ c, c ≠ 54 → c ≠ 56 → S1 c = S c := fun c a1 a2 => by rw [hS1, zu_c a2, zu_c a1, zu_c a2, zu_c a1]
    have hC2 : ∀ v, cOK (zu S1 53 j v) D := fun v => hC.fx (fun c a1 a2 a3 a4 => (zu_c a1).trans ((f1 c a2 a4).trans (hf c a1 a2 a3 a4)))
    have ema : maD D a b (j + 1) = maD D a b j + if wnD D a b j = -1 then 0 else 1 := rfl
    have hma : maD D a b j ≤ j := by
      have := suN_le (f := fun i => if wnD D a b i = -1 then 0 else 1) (b := 1) j (fun i _ => by show (if wnD D a b i = -1 then 0 else 1) ≤ 1; split <;> omega)
      rw [Nat.mul_one] at this
      exact this
    have k53 : ∀ v, v = wnD D a b j → ∀ i, i < j + 1 → zu S1 53 j v 53 i = wnD D a b i := fun v hv i hi => by
      rw [zu_if]
      by_cases e : i = j
      · rw [if_pos e, e, hv]
      · rw [if_neg e, c53]; exact k1 i (by omega)
    have hn : ∀ m : Nat, suN (fun i => if wnD D a b i = (m : Int) then 1 else 0) (j + 1) = suN (fun i => if wnD D a b i = (m : Int) then 1 else 0) j + if wnD D a b j = (m : Int) then 1 else 0 := fun m => rfl
    refine zwq_ok (Z_X5_keepFewest l) rfl [21] (fun _ _ _ _ _ _ h => h) 400 (Z_X5_keepFewest l) ?_
    refine ⟨fun c => ⟨D, j, a, b, suN (fun i => s2D D a b (2 * i + 1 - 1)) j, suN (fun i => s2D D a b (2 * i + 2 - 1)) j, ⟨rfl, hD, hCS, rfl, by omega, rfl, rfl, hab, hb, k4, k5, by omega, by omega⟩, ?_⟩, fun c => by omega⟩
    rw [← hS1]
    refine ⟨j, ⟨rfl, by omega⟩, D, j, a, b, ⟨rfl, hD, hC2 _, rfl, by omega, rfl, rfl, hab, hb⟩, fun c2 => ⟨by omega, ?_⟩, fun c2 => ?_⟩
    · have hny : nyB D a b j = false := by
        cases hq : nyB D a b j
        · rfl
        · rw [hq] at c2; exact absurd c2 (by decide)
      have hw : wnD D a b j = -1 := by unfold wnD; rw [hny]; rfl
      rw [if_pos hw] at ema
      have this := ih (j + 1) (zu S1 53 j (-1)) (by omega) ⟨k53 (-1) hw.symm, c54, fun m hm => by
        show S1 55 m = _
        rw [hn, if_neg (by omega), c55, k3 m hm]; rfl, c561, c562⟩ (fun c a1 a2 a3 a4 => (zu_c a1).trans ((f1 c a2 a4).trans (hf c a1 a2 a3 a4)))
      rw [ema] at this
      exact this
    · have hny : nyB D a b j = true := by
        cases hq : nyB D a b j
        · rw [hq] at c2; exact absurd rfl c2
        · rfl
      have hw : wnD D a b j = (hpD D a b j : Int) := by unfold wnD; rw [hny]; rfl
      have hlt := hp_lt D a b j
      rw [if_neg (by omega)] at ema
      have h55 := k3 (hpD D a b j) hlt
      have hle := suN_le (f := fun i => if wnD D a b i = ((hpD D a b j : Nat) : Int) then 1 else 0) (b := 1) j (fun i _ => by show (if wnD D a b i = ((hpD D a b j : Nat) : Int) then 1 else 0) ≤ 1; split <;> omega)
      rw [Nat.mul_one] at hle
      refine ⟨D, j, a, b, ⟨rfl, hD, hC2 _, rfl, by omega, rfl, rfl, hab, hb⟩, j, ⟨rfl, by omega⟩, j, ⟨rfl, by omega⟩, hpD D a b j, ⟨zuE, by omega⟩, ?_, hpD D a b j, ⟨zuE, by omega⟩, by omega, by omega, ?_⟩
      · show -2147483648 ≤ S1 55 (hpD D a b j) + 1 ∧ S1 55 (hpD D a b j) + 1 < 2147483648
        rw [c55]
        omega
      · have this := ih (j + 1) (zu (zu (zu S1 53 j (-1)) 53 j (hpD D a b j : Int)) 55 (hpD D a b j) (S1 55 (hpD D a b j) + 1)) (by omega) ⟨fun i hi => by
          show zu (zu S1 53 j (-1)) 53 j (hpD D a b j : Int) 53 i = _
          rw [zu_if]
          by_cases e : i = j
          · rw [if_pos e, e, hw]
          · rw [if_neg e, zuN (Or.inr e), c53]; exact k1 i (by omega), c54, fun m hm => by
          show zu S1 55 (hpD D a b j) (S1 55 (hpD D a b j) + 1) 55 m = _
          rw [zu_if, hn]
          by_cases e : m = hpD D a b j
          · rw [if_pos e, if_pos (by omega), ← e, c55, k3 m hm]; rfl
          · rw [if_neg e, if_neg (by omega), c55, k3 m hm]; rfl, c561, c562⟩ (fun c a1 a2 a3 a4 => (zu_c a3).trans ((zu_c a1).trans ((zu_c a1).trans ((f1 c a2 a4).trans (hf c a1 a2 a3 a4)))))
        rw [ema] at this
        exact this
end
theorem R_X5_keepFewest (l : Launch) (a : List zV) (S : zS) (Q : zR2 → zS → Prop) (h : wp_X5_keepFewest a S Q) : zRs l 4 0 0 yX5_keepFewest (.code yX5_keepFewest cX5_keepFewest 5 (some .int)) a S Q := by
  unfold wp_X5_keepFewest at h
  split at h
  · obtain ⟨D, a, b, ⟨rfl, hD, hC, rfl, rfl, hab, hb⟩, q1, q0⟩ := h
    have h6 := hD.lodgers
    refine zRs_of 5 (by decide) rfl rfl ?_; refine zwq_ok (Z_X5_keepFewest l) rfl [21] (fun _ _ _ _ _ _ h => h) 400 (Z_X5_keepFewest l) ?_
    refine L_X5_keepFewest (S0 := S) hD hC hab hb (fun S1 hk hf => ?_) (dL D) 0 (zfil (zfil S 55 4 0) 56 3 0) (by omega) ⟨fun i hi => absurd hi (Nat.not_lt_zero i), fun i hi => absurd hi (Nat.not_lt_zero i), fun m hm => ?_, ?_, ?_⟩ (fun c a1 a2 a3 a4 => (zfil_c a4).trans (zfil_c a3))
    · obtain ⟨k1, k2, k3, k4, k5⟩ := hk
      have hCS := hC.fx hf
      have eL := hCS.lodgers
      have ewt : ∀ m : Nat, wtN (wnD D a b) (dL D) m 0 = suN (fun i => if wnD D a b i = (m : Int) then 1 else 0) (dL D) := fun m => suN_congr _ (fun i _ => by
        by_cases e : wnD D a b i = (m : Int)
        · rw [if_pos e, if_pos ⟨Nat.zero_le i, e⟩]
        · rw [if_neg e, if_neg (fun z => e z.2)])
      have b1 : lfN (s2D D a b) (dL D) 1 ≤ dL D * 13 := suN_le (dL D) (fun i hi => s2_le hD (by omega))
      have b2 : lfN (s2D D a b) (dL D) 2 ≤ dL D * 13 := suN_le (dL D) (fun i hi => s2_le hD (by omega))
      have hsr : srC S1 (dL D) (wnD D a b) (s2D D a b) 0 := ⟨k1, k2, fun m hm => by rw [ewt]; exact k3 m hm, ⟨k4, k5⟩, by omega, by omega⟩
      have w1 := wt_le (wnD D a b) (dL D) 1 0
      have w2 := wt_le (wnD D a b) (dL D) 2 0
      have w3 := wt_le (wnD D a b) (dL D) 3 0
      refine zwq_ok (Z_X5_keepFewest l) rfl [] (fun _ _ _ _ _ _ h => h) 400 (Z_X5_keepFewest l) ?_
      refine ⟨wtN (wnD D a b) (dL D) 0 0, wtN (wnD D a b) (dL D) 1 0, wtN (wnD D a b) (dL D) 2 0, wtN (wnD D a b) (dL D) 3 0, lfN (s2D D a b) (dL D) 1, lfN (s2D D a b) (dL D) 2, ⟨rfl, ⟨hsr.2.2.1 0 (by omega), hsr.2.2.1 1 (by omega), hsr.2.2.1 2 (by omega), hsr.2.2.1 3 (by omega)⟩, ⟨k4, k5⟩, by omega, by omega, by omega, by omega, by omega⟩, fun c => ?_, fun c => ?_⟩
      · have e : hsD D a b = false := by
          cases hq : hsD D a b
          · rfl
          · have hq : hlB _ _ _ _ _ _ = true := hq
            rw [hq] at c; exact absurd c (by decide)
        exact q0 e S1 (fun c hc => hf c (by omega) (by omega) (by omega) (by omega))
      · have e : hsD D a b = true := by
          cases hq : hsD D a b
          · have hq : hlB _ _ _ _ _ _ = false := hq
            rw [hq] at c; exact absurd rfl c
          · rfl
        refine ⟨dL D, wnD D a b, s2D D a b, ⟨rfl, h6, eL, hsr, HSB_iff.mp e, fun i _ => wn_ok D a b i⟩, fun S2 g1 g2 => ?_⟩
        have eL2 : S2 3 8 = (dL D : Int) := by rw [g2 3 (by omega) (by omega) (by omega) (by omega)]; exact eL
        refine ⟨⟨rfl, rfl⟩, dL D, ⟨eL2, by omega, by omega⟩, Or.inr rfl, ?_⟩
        refine q1 e _ (fun i hi => ?_) rfl (fun c j hc hj => ?_)
        · show zcpI S2 57 58 (dL D) 58 i = _
          rw [zcp_at hi]
          exact g1 i hi
        · rw [zuN hj, zcp_n (by omega)]
          exact congrFun ((g2 c (by omega) (by omega) (by omega) (by omega)).trans (hf c (by omega) (by omega) (by omega) (by omega))) j
    · rw [zfil_n (by omega), zfil_at hm]; rfl
    · exact zfil_at (by omega)
    · exact zfil_at (by omega)
  · exact h.elim
def B_X11_fewest : List (Nat × zC) := [(15, (9, 0, 1, 127, 312, 131, 0)), (32, (0, 0, 2, 4, 0, 0, 5))]
def O_X11_fewest : zO := fun j a S K => match j with
  | 0 => wp_X5_keepFewest a S K
  | _ => False
theorem E_X11_fewest (l : Launch) : ∀ q ∈ B_X11_fewest, zcok l O_X11_fewest F_X11_fewest q.1 q.2 := List.forall_mem_cons.mpr ⟨⟨rfl, rfl, z_at 547 (by decide +kernel) (by decide +kernel), ⟨24, _, rfl, rfl, rfl⟩, by decide +kernel, by decide +kernel, Or.inr ⟨rfl, by decide +kernel, by decide +kernel, by decide +kernel⟩, Or.inl ⟨rfl, rfl⟩⟩, List.forall_mem_cons.mpr ⟨⟨314, yX5_keepFewest, cX5_keepFewest, 5, some .int, by decide +kernel, C_11_314, W_X5_keepFewest, I_X5_keepFewest, S_X5_keepFewest, rfl, rfl, R_X5_keepFewest l⟩, fun _ h => by cases h⟩⟩
def U_X11_fewest : List (Nat × zE) := [(0, Sum.inl (2, 1, 0, 0, 1, [])), (1, Sum.inl (17, 1, 15, 0, 4, [])), (4, Sum.inl (2, 2, 0, 0, 5, [])), (5, Sum.inl (2, 1, 0, 0, 6, [])), (6, Sum.inl (16, 1, 15, 0, 9, [])), (9, Sum.inl (2, 2, 0, 0, 10, [])), (10, Sum.inl (0, 0, 0, 24, 12, [])), (12, Sum.inl (16, 1, 26, 0, 15, [])), (15, Sum.inr (9, 0, 1, 127, 312, 131, 0)), (18, Sum.inl (12, 0, 0, 0, 19, [])), (26, Sum.inl (4, 0, 0, 0, 27, [])), (27, Sum.inl (18, 11, 11, 0, 30, [])), (30, Sum.inl (2, 1, 0, 0, 31, [])), (31, Sum.inl (2, 2, 0, 0, 32, [])), (32, Sum.inr (0, 0, 2, 4, 0, 0, 5)), (35, Sum.inl (27, 0, 0, 0, 36, []))]
theorem Z_X11_fewest (l : Launch) : ∀ q ∈ U_X11_fewest, zTok l O_X11_fewest F_X11_fewest q := zU_ok rfl rfl rfl K_X11_fewest (E_X11_fewest l)
def wp_X11_fewest (a : List zV) (S : zS) (K : zR2 → zS → Prop) : Prop := zif (Nat.ble (zsum a) 3) (zwq 6 F_X11_fewest U_X11_fewest O_X11_fewest [] (fun _ _ _ _ _ _ => False) K 20 U_X11_fewest 1 6 S 0 (zar 0 a) [])
theorem R_X11_fewest (l : Launch) (a : List zV) (S : zS) (Q : zR2 → zS → Prop) (h : wp_X11_fewest a S Q) : zRs l 6 1 6 yX11_fewest (.code yX11_fewest cX11_fewest 3 (some .int)) a S Q := by
  obtain ⟨h1, h⟩ := zif_ok h
  exact zRs_of 11 (by decide) rfl h1 (zwq_ok (Z_X11_fewest l) rfl [] (fun _ _ _ _ _ _ h => h.elim) 20 (Z_X11_fewest l) h)
def setL (T : zD) (g : Nat → Nat) : zD := fun c j => if c = 8 then 1 else if c = 9 then g j else T c j
abbrev fewP (x y : Int) : Prop := 0 ≤ x ∧ x ≤ y ∧ y ≤ 23
def fewestA (D : zD) (x y : Int) : Nat × Int := if fewP x y then (if hsD D x.toNat y.toNat = true then (0, (maD D x.toNat y.toNat (dL D) : Int)) else (0, -1)) else (1, 0)
def fewestT (D T : zD) (x y : Int) : zD := if fewP x y ∧ hsD D x.toNat y.toNat = true then setL T (fun i => (geL D x.toNat y.toNat).getD i 0) else T
section
variable {S S' : zS} {D E T : zD} {N : Nat} {K : zR2 → zS → Prop} {x y : Int}
theorem setL_c {g : Nat → Nat} {c : Nat} (h : c ≠ 8 ∧ c ≠ 9) : setL T g c = T c := by
  funext j
  show (if c = 8 then 1 else if c = 9 then g j else T c j) = T c j
  rw [if_neg h.1, if_neg h.2]
theorem x_fewest (hX : xOK D E T N) (hN : N < 99999) : xOK D E (fewestT D T x y) (N + 1) := by
  unfold fewestT
  by_cases c : fewP x y ∧ hsD D x.toNat y.toNat = true
  · rw [if_pos c]
    unfold xOK
    rw [setL_c (c := 0) (by omega), setL_c (c := 1) (by omega), setL_c (c := 2) (by omega), setL_c (c := 3) (by omega), setL_c (c := 4) (by omega), setL_c (c := 5) (by omega)]
    exact ⟨hX.now, hX.tape, hX.bytes, hX.fault, (fun i => Nat.le_succ_of_le (hX.refused i)), hX.isKept, hX.kept, hX.path, (Nat.le_refl 1), (by omega)⟩
  · rw [if_neg c]; exact hX.up hN
theorem eC.ld {g : Nat → Nat} (h : eC S D E T) (hf : ∀ c j, (c < 53 ∨ 58 < c) → (c ≠ 52 ∨ j ≠ 9) → S' c j = S c j) (h1 : S' 52 9 = 1) (h2 : ∀ i, i < dL D → S' 58 i = (g i : Int) - 1) : eC S' D E (setL T g) := by
  have q : ∀ c, (c < 53 ∨ 58 < c) → c ≠ 52 → S' c = S c := fun c a b => funext fun i => hf c i a (Or.inl b)
  have hn : cOK S' D := h.now.fr (fun c a b => q c (by omega) (by omega)) (fun c a b => q c (by omega) (by omega))
  have hk := h.kept
  unfold kOK at hk
  have hk2 : T 4 0 = 1 → kOK S' E := by
    unfold kOK
    rw [q 28 (by omega) (by omega), q 29 (by omega) (by omega), q 30 (by omega) (by omega), q 31 (by omega) (by omega), q 32 (by omega) (by omega), q 33 (by omega) (by omega), q 34 (by omega) (by omega), q 35 (by omega) (by omega)]
    exact hk
  unfold eC at h ⊢
  rw [setL_c (c := 0) (by omega), setL_c (c := 1) (by omega), setL_c (c := 2) (by omega), setL_c (c := 3) (by omega), setL_c (c := 4) (by omega), setL_c (c := 5) (by omega), setL_c (c := 6) (by omega), setL_c (c := 7) (by omega), q 0 (by omega) (by omega), q 1 (by omega) (by omega), q 2 (by omega) (by omega), q 61 (by omega) (by omega), q 42 (by omega) (by omega), q 45 (by omega) (by omega), q 46 (by omega) (by omega), q 59 (by omega) (by omega), q 60 (by omega) (by omega)]
  exact ⟨hn, h.2.1, h.2.2.1, h.2.2.2.1, h.2.2.2.2.1, h.2.2.2.2.2.1, hk2, h.2.2.2.2.2.2.2.1, h.2.2.2.2.2.2.2.2.1, h.2.2.2.2.2.2.2.2.2.1, h1, fun _ => h2, h.2.2.2.2.2.2.2.2.2.2.2.2⟩
theorem c_fewest (hC : eC S D E T) (hX : xOK D E T N) (h : cRes S D E (fewestT D T x y) (cr2 (fewestA D x y)) K) : wp_X11_fewest [.inr (.inl 0), .inl x, .inl y] S K := by
  unfold fewestA fewestT at h
  by_cases hp : fewP x y
  · obtain ⟨p1, p2, p3⟩ := id hp
    refine ⟨fun c9 => by omega, fun _ => ⟨fun c9 => by omega, fun _ => ⟨fun _ => ?_, fun c9 => by omega⟩⟩⟩
    refine ⟨D, x.toNat, y.toNat, ⟨rfl, hX.now, hC.now, by omega, by omega, by omega, by omega⟩, fun e S' a1 a2 a3 => ?_, fun e S' a1 => ?_⟩
    · rw [if_pos ⟨hp, e⟩, if_pos hp, if_pos e] at h
      exact h S' (hC.ld a3 a2 a1) (fun c hc => funext fun j => a3 c j (by omega) (Or.inl (by omega)))
    · rw [if_neg (fun z => by rw [e] at z; exact absurd z.2 (by decide)), if_pos hp, if_neg (by rw [e]; decide)] at h
      exact h S' (hC.fr (fun c _ d => a1 c (Decidable.byContradiction fun z => d (by unfold cScr; omega)))) (fun c hc => a1 c (by omega))
  · rw [if_neg (fun z => hp z.1), if_neg hp] at h
    unfold fewP at hp
    have h := cGood hC h
    repeat' (first | refine And.intro ?_ ?_ | (intro _; try omega) | omega | rfl | refine ⟨_, ⟨rfl, by omega⟩, ?_⟩ | fail)
    all_goals exact h
end
