/-! the fewest shoes: the model's tests -/
def abM (S : zS) (a b : Nat) : Prop := S 62 59 = (a : Int) ∧ S 62 60 = (b : Int) ∧ a ≤ b ∧ b < 24
def niS (D : zD) (l m : Nat) : Nat → Nat → Bool
  | 0, _ => false
  | f + 1, h => bif !(Nat.beq (duD D l h) 0) && Nat.beq (duD D l h &&& (kinD D l ||| m)) 0 then true else niS D l m f (h + 1)
def niB (D : zD) (a b l m : Nat) : Bool := niS D l m (b + 1 - a) a
def B_X12_isNeedy : List (Nat × zC) := [(25, (0, 0, 1, 0, 0, 0, 12)), (39, (0, 1, 1, 1, 0, 0, 12))]
def O_X12_isNeedy : zO := fun j a S K => match j with
  | 0 => wp_X12_lawOf a S K
  | 1 => wp_X12_both a S K
  | _ => False
theorem E_X12_isNeedy (l : Launch) : ∀ q ∈ B_X12_isNeedy, zcok l O_X12_isNeedy F_X12_isNeedy q.1 q.2 := List.forall_mem_cons.mpr ⟨⟨296, yX12_lawOf, cX12_lawOf, 2, some .int, by decide +kernel, C_12_296, W_X12_lawOf, I_X12_lawOf, S_X12_lawOf, rfl, rfl, R_X12_lawOf l⟩, List.forall_mem_cons.mpr ⟨⟨299, yX12_both, cX12_both, 2, some .int, by decide +kernel, C_12_299, W_X12_both, I_X12_both, S_X12_both, rfl, rfl, R_X12_both l⟩, fun _ h => by cases h⟩⟩
def U_X12_isNeedy : List (Nat × zE) := [(0, Sum.inl (4, 0, 0, 0, 1, [])), (1, Sum.inl (18, 12, 59, 0, 4, [])), (4, Sum.inl (5, 3, 0, 0, 5, [])), (5, Sum.inl (2, 3, 0, 0, 6, [])), (6, Sum.inl (4, 0, 0, 0, 7, [])), (7, Sum.inl (18, 12, 60, 0, 10, [])), (10, Sum.inl (16, 2, 56, 0, 13, [])), (13, Sum.inl (4, 0, 0, 0, 14, [])), (14, Sum.inl (4, 0, 0, 0, 15, [])), (15, Sum.inl (18, 12, 38, 0, 18, [])), (18, Sum.inl (0, 0, 0, 24, 20, [])), (20, Sum.inl (2, 1, 0, 0, 21, [])), (21, Sum.inl (9, 2, 0, 0, 22, [])), (22, Sum.inl (2, 3, 0, 0, 23, [])), (23, Sum.inl (9, 0, 0, 0, 24, [])), (24, Sum.inl (20, 0, 0, 0, 25, [])), (25, Sum.inr (0, 0, 1, 0, 0, 0, 12)), (28, Sum.inl (5, 4, 0, 0, 30, [])), (30, Sum.inl (2, 4, 0, 0, 32, [])), (32, Sum.inl (17, 0, 50, 0, 35, [])), (35, Sum.inl (2, 4, 0, 0, 37, [])), (37, Sum.inl (4, 0, 0, 0, 38, [])), (38, Sum.inl (2, 1, 0, 0, 39, [])), (39, Sum.inr (0, 1, 1, 1, 0, 0, 12)), (42, Sum.inl (2, 2, 0, 0, 43, [])), (43, Sum.inl (9, 4, 0, 0, 44, [])), (44, Sum.inl (9, 3, 0, 0, 45, [])), (45, Sum.inl (17, 0, 48, 0, 50, [])), (48, Sum.inl (0, 0, 0, 1, 49, [])), (49, Sum.inl (27, 0, 0, 0, 50, [])), (50, Sum.inl (8, 3, 0, 1, 53, [])), (53, Sum.inl (15, 0, 0, 0, 5, [])), (56, Sum.inl (0, 0, 0, 0, 57, [])), (57, Sum.inl (27, 0, 0, 0, 58, []))]
theorem Z_X12_isNeedy (l : Launch) : ∀ q ∈ U_X12_isNeedy, zTok l O_X12_isNeedy F_X12_isNeedy q := zU_ok rfl rfl rfl K_X12_isNeedy (E_X12_isNeedy l)
def wp_X12_isNeedy (a : List zV) (S : zS) (K : zR2 → zS → Prop) : Prop := match a with
  | [.inr (.inl c), .inl x, .inl y] => ∃ (D : zD) (a b l m : Nat), (c = 62 ∧ dOK D ∧ mOK S D ∧ abM S a b ∧ x = (l : Int) ∧ l < dL D ∧ y = (m : Int) ∧ m < 4) ∧ K (.inl (some (.inl (bti (niB D a b l m) : Int)))) S
  | _ => False
theorem L_X12_isNeedy {lc : Launch} {S : zS} {Q : zR2 → zS → Prop} {D : zD} {a b l m : Nat} (hD : dOK D) (hM : mOK S D) (hab : abM S a b) (hl : l < dL D) (hm : m < 4) (f : Nat) : ∀ h, h + f = b + 1 → Q (.inl (some (.inl (bti (niS D l m f h) : Int)))) S → zGs lc 2 0 0 F_X12_isNeedy S 5 [(0, .inr (.inl 62)), (1, .inl (l : Int)), (2, .inl (m : Int)), (3, .inl (h : Int))] [] Q := by
  have h6 := hD.lodgers
  have hkin := kin_lt D l
  obtain ⟨ea, eb, hab1, hb⟩ := hab
  induction f with
  | zero =>
    intro h hh k
    refine zwq_ok (Z_X12_isNeedy lc) rfl [5] (fun _ _ _ _ _ _ h => h) 400 (Z_X12_isNeedy lc) ?_
    exact ⟨fun c => ⟨Or.inl rfl, k⟩, fun c => by omega⟩
  | succ f ih =>
    intro h hh k
    have k : Q (.inl (some (.inl (bti (bif !(Nat.beq (duD D l h) 0) && Nat.beq (duD D l h &&& (kinD D l ||| m)) 0 then true else niS D l m f (h + 1)) : Int)))) S := k
    have hd := du_lt hD l h
    have ed := hM.day (24 * l + h) (by omega)
    have e1 : lawD D (dD D (24 * l + h)) = duD D l h := rfl
    have z1 : zor (kinD D l : Int) (m : Int) = ((kinD D l ||| m : Nat) : Int) := zor_n (by omega) (by omega)
    have z2 : zand (duD D l h : Int) ((kinD D l ||| m : Nat) : Int) = ((duD D l h &&& (kinD D l ||| m) : Nat) : Int) := zand_n (by omega)
    have nx : (!(Nat.beq (duD D l h) 0) && Nat.beq (duD D l h &&& (kinD D l ||| m)) 0) = false → zGs lc 2 0 0 F_X12_isNeedy S 50 [(0, .inr (.inl 62)), (1, .inl (l : Int)), (2, .inl (m : Int)), (3, .inl (h : Int))] [] Q := fun c => by
      rw [c] at k
      have := ih (h + 1) (by omega) k
      refine zwq_ok (Z_X12_isNeedy lc) rfl [5] (fun _ _ _ _ _ _ h => h) 400 (Z_X12_isNeedy lc) ?_
      exact ⟨by omega, this⟩
    refine zwq_ok (Z_X12_isNeedy lc) rfl [5, 50] (fun _ _ _ _ _ _ h => h) 400 (Z_X12_isNeedy lc) ?_
    refine ⟨fun c => by omega, fun c => ⟨by omega, by omega, 24 * l + h, ⟨by omega, by omega⟩, D, dD D (24 * l + h), ⟨rfl, hM, ed⟩, ?_⟩⟩
    rw [e1]
    refine ⟨fun c2 => ?_, fun c2 => ⟨D, l, ⟨rfl, hD, hM, rfl, hl⟩, fun c3 => ⟨Or.inr rfl, ?_⟩, fun c3 => ?_⟩⟩
    · exact zGs.sub (lo := [(0, _), (1, _), (2, _), (3, _), (4, _)]) (nx (by rw [show duD D l h = 0 by omega]; rfl)) (fun q hq => by simp only [List.mem_cons, List.not_mem_nil, or_false] at hq; rcases hq with rfl | rfl | rfl | rfl <;> first | exact .head _ | exact .tail _ (.head _) | exact .tail _ (.tail _ (.head _)) | exact .tail _ (.tail _ (.tail _ (.head _))) | exact .tail _ (.tail _ (.tail _ (.tail _ (.head _)))) | exact .tail _ (.tail _ (.tail _ (.tail _ (.tail _ (.head _))))) | exact .tail _ (.tail _ (.tail _ (.tail _ (.tail _ (.tail _ (.head _)))))) | exact .tail _ (.tail _ (.tail _ (.tail _ (.tail _ (.tail _ (.tail _ (.head _))))))) | exact .tail _ (.tail _ (.tail _ (.tail _ (.tail _ (.tail _ (.tail _ (.tail _ (.head _)))))))) | exact .tail _ (.tail _ (.tail _ (.tail _ (.tail _ (.tail _ (.tail _ (.tail _ (.tail _ (.head _))))))))) | exact .tail _ (.tail _ (.tail _ (.tail _ (.tail _ (.tail _ (.tail _ (.tail _ (.tail _ (.tail _ (.head _)))))))))) | exact .tail _ (.tail _ (.tail _ (.tail _ (.tail _ (.tail _ (.tail _ (.tail _ (.tail _ (.tail _ (.tail _ (.head _))))))))))) | exact .tail _ (.tail _ (.tail _ (.tail _ (.tail _ (.tail _ (.tail _ (.tail _ (.tail _ (.tail _ (.tail _ (.tail _ (.head _)))))))))))) | exact .tail _ (.tail _ (.tail _ (.tail _ (.tail _ (.tail _ (.tail _ (.tail _ (.tail _ (.tail _ (.tail _ (.tail _ (.tail _ (.head _))))))))))))))
    · rw [z1, z2] at c3
      rw [beqN (show duD D l h ≠ 0 by omega), show duD D l h &&& (kinD D l ||| m) = 0 by omega] at k
      exact k
    · rw [z1, z2] at c3
      exact zGs.sub (lo := [(0, _), (1, _), (2, _), (3, _), (4, _)]) (nx (by rw [beqN (show duD D l h &&& (kinD D l ||| m) ≠ 0 by omega), Bool.and_false])) (fun q hq => by simp only [List.mem_cons, List.not_mem_nil, or_false] at hq; rcases hq with rfl | rfl | rfl | rfl <;> first | exact .head _ | exact .tail _ (.head _) | exact .tail _ (.tail _ (.head _)) | exact .tail _ (.tail _ (.tail _ (.head _))) | exact .tail _ (.tail _ (.tail _ (.tail _ (.head _)))) | exact .tail _ (.tail _ (.tail _ (.tail _ (.tail _ (.head _))))) | exact .tail _ (.tail _ (.tail _ (.tail _ (.tail _ (.tail _ (.head _)))))) | exact .tail _ (.tail _ (.tail _ (.tail _ (.tail _ (.tail _ (.tail _ (.head _))))))) | exact .tail _ (.tail _ (.tail _ (.tail _ (.tail _ (.tail _ (.tail _ (.tail _ (.head _)))))))) | exact .tail _ (.tail _ (.tail _ (.tail _ (.tail _ (.tail _ (.tail _ (.tail _ (.tail _ (.head _))))))))) | exact .tail _ (.tail _ (.tail _ (.tail _ (.tail _ (.tail _ (.tail _ (.tail _ (.tail _ (.tail _ (.head _)))))))))) | exact .tail _ (.tail _ (.tail _ (.tail _ (.tail _ (.tail _ (.tail _ (.tail _ (.tail _ (.tail _ (.tail _ (.head _))))))))))) | exact .tail _ (.tail _ (.tail _ (.tail _ (.tail _ (.tail _ (.tail _ (.tail _ (.tail _ (.tail _ (.tail _ (.tail _ (.head _)))))))))))) | exact .tail _ (.tail _ (.tail _ (.tail _ (.tail _ (.tail _ (.tail _ (.tail _ (.tail _ (.tail _ (.tail _ (.tail _ (.tail _ (.head _))))))))))))))
theorem R_X12_isNeedy (l : Launch) (a : List zV) (S : zS) (Q : zR2 → zS → Prop) (h : wp_X12_isNeedy a S Q) : zRs l 2 0 0 yX12_isNeedy (.code yX12_isNeedy cX12_isNeedy 5 (some .boolean)) a S Q := by
  unfold wp_X12_isNeedy at h
  split at h
  · obtain ⟨D, a, b, i, m, ⟨rfl, hD, hM, hab, rfl, hi, rfl, hm⟩, h⟩ := h
    have go := L_X12_isNeedy (lc := l) hD hM hab hi hm (b + 1 - a) a (by have := hab.2.2.1; omega) h
    rw [← hab.1] at go
    refine zRs_of 12 (by decide) rfl rfl ?_; refine zwq_ok (Z_X12_isNeedy l) rfl [5] (fun _ _ _ _ _ _ h => h) 400 (Z_X12_isNeedy l) ?_
    exact go
  · exact h.elim
def fbS (D : zD) (l s : Nat) : Nat → Nat → Bool
  | 0, _ => true
  | f + 1, h => bif Nat.beq (duD D l h &&& s) 0 then fbS D l s f (h + 1) else false
def fbB (D : zD) (a b l s : Nat) : Bool := fbS D l s (b + 1 - a) a
def B_X12_isFree : List (Nat × zC) := [(25, (0, 0, 1, 0, 0, 0, 12))]
def O_X12_isFree : zO := fun j a S K => match j with
  | 0 => wp_X12_lawOf a S K
  | _ => False
theorem E_X12_isFree (l : Launch) : ∀ q ∈ B_X12_isFree, zcok l O_X12_isFree F_X12_isFree q.1 q.2 := List.forall_mem_cons.mpr ⟨⟨296, yX12_lawOf, cX12_lawOf, 2, some .int, by decide +kernel, C_12_296, W_X12_lawOf, I_X12_lawOf, S_X12_lawOf, rfl, rfl, R_X12_lawOf l⟩, fun _ h => by cases h⟩
def U_X12_isFree : List (Nat × zE) := [(0, Sum.inl (4, 0, 0, 0, 1, [])), (1, Sum.inl (18, 12, 59, 0, 4, [])), (4, Sum.inl (5, 3, 0, 0, 5, [])), (5, Sum.inl (2, 3, 0, 0, 6, [])), (6, Sum.inl (4, 0, 0, 0, 7, [])), (7, Sum.inl (18, 12, 60, 0, 10, [])), (10, Sum.inl (16, 2, 41, 0, 13, [])), (13, Sum.inl (4, 0, 0, 0, 14, [])), (14, Sum.inl (4, 0, 0, 0, 15, [])), (15, Sum.inl (18, 12, 38, 0, 18, [])), (18, Sum.inl (0, 0, 0, 24, 20, [])), (20, Sum.inl (2, 1, 0, 0, 21, [])), (21, Sum.inl (9, 2, 0, 0, 22, [])), (22, Sum.inl (2, 3, 0, 0, 23, [])), (23, Sum.inl (9, 0, 0, 0, 24, [])), (24, Sum.inl (20, 0, 0, 0, 25, [])), (25, Sum.inr (0, 0, 1, 0, 0, 0, 12)), (28, Sum.inl (2, 2, 0, 0, 29, [])), (29, Sum.inl (9, 3, 0, 0, 30, [])), (30, Sum.inl (17, 0, 35, 0, 33, [])), (33, Sum.inl (0, 0, 0, 0, 34, [])), (34, Sum.inl (27, 0, 0, 0, 35, [])), (35, Sum.inl (8, 3, 0, 1, 38, [])), (38, Sum.inl (15, 0, 0, 0, 5, [])), (41, Sum.inl (0, 0, 0, 1, 42, [])), (42, Sum.inl (27, 0, 0, 0, 43, []))]
theorem Z_X12_isFree (l : Launch) : ∀ q ∈ U_X12_isFree, zTok l O_X12_isFree F_X12_isFree q := zU_ok rfl rfl rfl K_X12_isFree (E_X12_isFree l)
def wp_X12_isFree (a : List zV) (S : zS) (K : zR2 → zS → Prop) : Prop := match a with
  | [.inr (.inl c), .inl x, .inl y] => ∃ (D : zD) (a b l s : Nat), (c = 62 ∧ dOK D ∧ mOK S D ∧ abM S a b ∧ x = (l : Int) ∧ l < dL D ∧ y = (s : Int) ∧ s < 4) ∧ K (.inl (some (.inl (bti (fbB D a b l s) : Int)))) S
  | _ => False
theorem L_X12_isFree {lc : Launch} {S : zS} {Q : zR2 → zS → Prop} {D : zD} {a b l s : Nat} (hD : dOK D) (hM : mOK S D) (hab : abM S a b) (hl : l < dL D) (hs : s < 4) (f : Nat) : ∀ h, h + f = b + 1 → Q (.inl (some (.inl (bti (fbS D l s f h) : Int)))) S → zGs lc 1 0 0 F_X12_isFree S 5 [(0, .inr (.inl 62)), (1, .inl (l : Int)), (2, .inl (s : Int)), (3, .inl (h : Int))] [] Q := by
  have h6 := hD.lodgers
  obtain ⟨ea, eb, hab1, hb⟩ := hab
  induction f with
  | zero =>
    intro h hh k
    refine zwq_ok (Z_X12_isFree lc) rfl [5] (fun _ _ _ _ _ _ h => h) 400 (Z_X12_isFree lc) ?_
    exact ⟨fun c => ⟨Or.inr rfl, k⟩, fun c => by omega⟩
  | succ f ih =>
    intro h hh k
    have k : Q (.inl (some (.inl (bti (bif Nat.beq (duD D l h &&& s) 0 then fbS D l s f (h + 1) else false) : Int)))) S := k
    have hd := du_lt hD l h
    have ed := hM.day (24 * l + h) (by omega)
    have z2 : zand (lawD D (dD D (24 * l + h)) : Int) (s : Int) = ((duD D l h &&& s : Nat) : Int) := zand_n (show duD D l h < _ by omega)
    refine zwq_ok (Z_X12_isFree lc) rfl [5] (fun _ _ _ _ _ _ h => h) 400 (Z_X12_isFree lc) ?_
    refine ⟨fun c => by omega, fun c => ⟨by omega, by omega, 24 * l + h, ⟨by omega, by omega⟩, D, dD D (24 * l + h), ⟨rfl, hM, ed⟩, fun c2 => ⟨by omega, ?_⟩, fun c2 => ⟨Or.inl rfl, ?_⟩⟩⟩
    · rw [z2] at c2
      rw [show duD D l h &&& s = 0 by omega] at k
      exact ih (h + 1) (by omega) k
    · rw [z2] at c2
      rw [beqN (show duD D l h &&& s ≠ 0 by omega)] at k
      exact k
theorem R_X12_isFree (l : Launch) (a : List zV) (S : zS) (Q : zR2 → zS → Prop) (h : wp_X12_isFree a S Q) : zRs l 1 0 0 yX12_isFree (.code yX12_isFree cX12_isFree 4 (some .boolean)) a S Q := by
  unfold wp_X12_isFree at h
  split at h
  · obtain ⟨D, a, b, i, s, ⟨rfl, hD, hM, hab, rfl, hi, rfl, hs⟩, h⟩ := h
    have go := L_X12_isFree (lc := l) hD hM hab hi hs (b + 1 - a) a (by have := hab.2.2.1; omega) h
    rw [← hab.1] at go
    refine zRs_of 12 (by decide) rfl rfl ?_; refine zwq_ok (Z_X12_isFree l) rfl [5] (fun _ _ _ _ _ _ h => h) 400 (Z_X12_isFree l) ?_
    exact go
  · exact h.elim
/-- how often v is given -/
def gvN (g : Nat → Int) (v : Int) : Nat → Nat := suN (fun i => if g i = v then 1 else 0)
def B_X12_given : List (Nat × zC) := []
def O_X12_given : zO := fun j a S K => match j with
  | _ => False
theorem E_X12_given (l : Launch) : ∀ q ∈ B_X12_given, zcok l O_X12_given F_X12_given q.1 q.2 := fun _ h => by cases h
def U_X12_given : List (Nat × zE) := [(0, Sum.inl (0, 0, 0, 0, 1, [])), (1, Sum.inl (5, 3, 0, 0, 2, [])), (2, Sum.inl (0, 0, 0, 0, 3, [])), (3, Sum.inl (5, 4, 0, 0, 5, [])), (5, Sum.inl (2, 4, 0, 0, 7, [])), (7, Sum.inl (4, 0, 0, 0, 8, [])), (8, Sum.inl (18, 12, 2, 0, 11, [])), (11, Sum.inl (16, 1, 14, 0, 44, [])), (14, Sum.inl (2, 3, 0, 0, 15, [])), (15, Sum.inl (4, 0, 0, 0, 16, [])), (16, Sum.inl (18, 12, 57, 0, 19, [])), (19, Sum.inl (2, 4, 0, 0, 21, [])), (21, Sum.inl (20, 0, 0, 0, 22, [])), (22, Sum.inl (0, 0, 0, 10, 24, [])), (24, Sum.inl (2, 1, 0, 0, 25, [])), (25, Sum.inl (9, 2, 0, 0, 26, [])), (26, Sum.inl (2, 2, 0, 0, 27, [])), (27, Sum.inl (9, 0, 0, 0, 28, [])), (28, Sum.inl (16, 0, 31, 0, 35, [])), (31, Sum.inl (0, 0, 0, 1, 32, [])), (32, Sum.inl (15, 0, 0, 0, 36, [])), (35, Sum.inl (0, 0, 0, 0, 36, [])), (36, Sum.inl (9, 0, 0, 0, 37, [])), (37, Sum.inl (5, 3, 0, 0, 38, [])), (38, Sum.inl (8, 4, 0, 1, 41, [])), (41, Sum.inl (15, 0, 0, 0, 5, [])), (44, Sum.inl (2, 3, 0, 0, 45, [])), (45, Sum.inl (27, 0, 0, 0, 46, []))]
theorem Z_X12_given (l : Launch) : ∀ q ∈ U_X12_given, zTok l O_X12_given F_X12_given q := zU_ok rfl rfl rfl K_X12_given (E_X12_given l)
def wp_X12_given (a : List zV) (S : zS) (K : zR2 → zS → Prop) : Prop := match a with
  | [.inr (.inl c), .inl x, .inl y] => ∃ (L w s : Nat) (g : Nat → Int), (c = 62 ∧ L ≤ 6 ∧ S 62 2 = (L : Int) ∧ (∀ i, i < L → S 94 i = g i) ∧ x = (w : Int) ∧ w < 100 ∧ y = (s : Int) ∧ s < 100) ∧ K (.inl (some (.inl (gvN g ((10 * w + s : Nat) : Int) L : Int)))) S
  | _ => False
theorem L_X12_given {lc : Launch} {S : zS} {Q : zR2 → zS → Prop} {L w s : Nat} {g : Nat → Int} (h6 : L ≤ 6) (eL : S 62 2 = (L : Int)) (hg : ∀ i, i < L → S 94 i = g i) (hw : w < 100) (hs : s < 100) (k : Q (.inl (some (.inl (gvN g ((10 * w + s : Nat) : Int) L : Int)))) S) (f : Nat) : ∀ j, j + f = L → zGs lc 0 0 0 F_X12_given S 5 [(0, .inr (.inl 62)), (1, .inl (w : Int)), (2, .inl (s : Int)), (3, .inl (gvN g ((10 * w + s : Nat) : Int) j : Int)), (4, .inl (j : Int))] [] Q := by
  induction f with
  | zero =>
    intro j hj
    have : j = L := by omega
    subst this
    refine zwq_ok (Z_X12_given lc) rfl [5] (fun _ _ _ _ _ _ h => h) 400 (Z_X12_given lc) ?_
    exact ⟨fun c => by omega, fun c => k⟩
  | succ f ih =>
    intro j hj
    have e := hg j (by omega)
    have hle := suN_le (f := fun i => if g i = ((10 * w + s : Nat) : Int) then 1 else 0) (b := 1) j (fun i _ => by show (if g i = ((10 * w + s : Nat) : Int) then 1 else 0) ≤ 1; split <;> omega)
    have hle : gvN g ((10 * w + s : Nat) : Int) j ≤ j := by rw [Nat.mul_one] at hle; exact hle
    have en : gvN g ((10 * w + s : Nat) : Int) (j + 1) = gvN g ((10 * w + s : Nat) : Int) j + if g j = ((10 * w + s : Nat) : Int) then 1 else 0 := rfl
    have this := ih (j + 1) (by omega)
    rw [en] at this
    refine zwq_ok (Z_X12_given lc) rfl [5] (fun _ _ _ _ _ _ h => h) 400 (Z_X12_given lc) ?_
    refine ⟨fun c => ⟨j, ⟨rfl, by omega⟩, by omega, by omega, fun c2 => ⟨by omega, by omega, ?_⟩, fun c2 => ⟨by omega, by omega, ?_⟩⟩, fun c => by omega⟩
    · rw [if_pos (by omega)] at this
      exact this
    · rw [if_neg (by omega)] at this
      exact this
theorem R_X12_given (l : Launch) (a : List zV) (S : zS) (Q : zR2 → zS → Prop) (h : wp_X12_given a S Q) : zRs l 0 0 0 yX12_given (.code yX12_given cX12_given 5 (some .int)) a S Q := by
  unfold wp_X12_given at h
  split at h
  · obtain ⟨L, w, s, g, ⟨rfl, h6, eL, hg, rfl, hw, rfl, hs⟩, h⟩ := h
    refine zRs_of 12 (by decide) rfl rfl ?_; refine zwq_ok (Z_X12_given l) rfl [5] (fun _ _ _ _ _ _ h => h) 400 (Z_X12_given l) ?_
    exact L_X12_given h6 eL hg hw hs h L 0 (by omega)
  · exact h.elim
/-! the tests in the class's words -/
theorem ni_0 (D : zD) (a b l : Nat) : niB D a b l 0 = nyB D a b l := by
  unfold niB nyB
  have g : ∀ f h, niS D l 0 f h = nyS D l f h := by
    intro f
    induction f with
    | zero => intro h; rfl
    | succ f ih =>
      intro h
      show (bif !(Nat.beq (duD D l h) 0) && Nat.beq (duD D l h &&& (kinD D l ||| 0)) 0 then true else niS D l 0 f (h + 1)) = (bif !(Nat.beq (duD D l h) 0) && Nat.beq (duD D l h &&& kinD D l) 0 then true else nyS D l f (h + 1))
      rw [Nat.or_zero, ih]
  exact g _ _
theorem or4 : ∀ x, x < 4 → ∀ y, y < 4 → ((x ||| y) &&& 1 = 0 ↔ x &&& 1 = 0 ∧ y &&& 1 = 0) ∧ ((x ||| y) &&& 2 = 0 ↔ x &&& 2 = 0 ∧ y &&& 2 = 0) := by decide
theorem fb_or {D : zD} (hD : dOK D) {a b l s : Nat} (hs : s = 1 ∨ s = 2) : fbB D a b l s = true ↔ orS D l (b + 1 - a) a 0 &&& s = 0 := by
  unfold fbB
  have g : ∀ f h acc, acc < 4 → (orS D l f h acc &&& s = 0 ↔ acc &&& s = 0 ∧ fbS D l s f h = true) := by
    intro f
    induction f with
    | zero => intro h acc _; exact ⟨fun z => ⟨z, rfl⟩, fun z => z.1⟩
    | succ f ih =>
      intro h acc ha
      have hd := du_lt hD l h
      have ho := or4 acc ha (duD D l h) hd
      show orS D l f (h + 1) (acc ||| duD D l h) &&& s = 0 ↔ acc &&& s = 0 ∧ (bif Nat.beq (duD D l h &&& s) 0 then fbS D l s f (h + 1) else false) = true
      rw [ih (h + 1) _ (Nat.or_lt_two_pow (n := 2) ha hd)]
      have e : (acc ||| duD D l h) &&& s = 0 ↔ acc &&& s = 0 ∧ duD D l h &&& s = 0 := by
        rcases hs with rfl | rfl
        · exact ho.1
        · exact ho.2
      rw [e]
      by_cases c : duD D l h &&& s = 0
      · rw [c]
        exact ⟨fun z => ⟨z.1.1, z.2⟩, fun z => ⟨⟨z.1, rfl⟩, z.2⟩⟩
      · rw [beqN c]
        exact ⟨fun z => absurd z.1.2 c, fun z => absurd (show false = true from z.2) (by decide)⟩
  rw [g _ _ _ (by omega)]
  exact ⟨fun z => ⟨Nat.zero_and s, z⟩, fun z => z.2⟩
theorem sp_free {D : zD} (hD : dOK D) {a b w s : Nat} (hs : s = 1 ∨ s = 2) (n : Nat) : (fbB D a b w s = true ∧ n < dU D (2 * w + s - 1)) ↔ n < spN D a b w s := by
  unfold spN
  rw [fb_or hD hs]
  by_cases c : orS D w (b + 1 - a) a 0 &&& s = 0
  · rw [if_pos c]; exact ⟨fun z => z.2, fun z => ⟨c, z⟩⟩
  · rw [if_neg c]; exact ⟨fun z => absurd z.1 c, fun z => by omega⟩
theorem hlpA : ∀ d, d < 4 → ∀ c, c < 4 → ((c &&& d) &&& 1 ≠ 0 ↔ c &&& 1 ≠ 0 ∧ d &&& 1 ≠ 0) ∧ ((c &&& d) &&& 2 ≠ 0 ↔ c &&& 2 ≠ 0 ∧ d &&& 2 ≠ 0) := by decide
theorem hlpB : ∀ d, d < 4 → ∀ k, k < 4 → d &&& k = 0 → (d &&& (k ||| 1) = 0 ↔ d &&& 1 = 0) ∧ (d &&& (k ||| 2) = 0 ↔ d &&& 2 = 0) := by decide
theorem hlpC : ∀ d, d < 4 → ∀ k, k < 4 → d &&& k ≠ 0 → d &&& (k ||| 1) ≠ 0 ∧ d &&& (k ||| 2) ≠ 0 := by decide
theorem hlpD : ∀ k, k < 4 → ((3 - k) &&& 1 ≠ 0 ↔ k &&& 1 = 0) ∧ ((3 - k) &&& 2 ≠ 0 ↔ k &&& 2 = 0) := by decide
theorem kin_s (D : zD) (l : Nat) : (kinD D l &&& 1 = 0 ↔ dU D (2 * l) = 0) ∧ (kinD D l &&& 2 = 0 ↔ dU D (2 * l + 1) = 0) := by
  unfold kinD
  by_cases c1 : 0 < dU D (2 * l) <;> by_cases c2 : 0 < dU D (2 * l + 1)
  · rw [if_pos c1, if_pos c2]; exact ⟨⟨fun z => absurd z (by decide), fun z => by omega⟩, ⟨fun z => absurd z (by decide), fun z => by omega⟩⟩
  · rw [if_pos c1, if_neg c2]; exact ⟨⟨fun z => absurd z (by decide), fun z => by omega⟩, ⟨fun _ => by omega, fun _ => by decide⟩⟩
  · rw [if_neg c1, if_pos c2]; exact ⟨⟨fun _ => by omega, fun _ => by decide⟩, ⟨fun z => absurd z (by decide), fun z => by omega⟩⟩
  · rw [if_neg c1, if_neg c2]; exact ⟨⟨fun _ => by omega, fun _ => by decide⟩, ⟨fun _ => by omega, fun _ => by decide⟩⟩
/-- which shoe helps -/
theorem hp_iff {D : zD} (hD : dOK D) {a b l s : Nat} (hs : s = 1 ∨ s = 2) : hpD D a b l &&& s ≠ 0 ↔ dU D (2 * l + s - 1) = 0 ∧ niB D a b l s = false := by
  have hk := kin_lt D l
  have ks := kin_s D l
  have g : ∀ f h acc, acc < 4 → (hpS D l f h acc &&& s ≠ 0 ↔ acc &&& s ≠ 0 ∧ niS D l s f h = false) := by
    intro f
    induction f with
    | zero => intro h acc _; exact ⟨fun z => ⟨z, rfl⟩, fun z => z.1⟩
    | succ f ih =>
      intro h acc ha
      have hd := du_lt hD l h
      obtain ⟨p1, p2⟩ := hlpA (duD D l h) hd acc ha
      have p3 := hlpB (duD D l h) hd (kinD D l) hk
      have p4 := hlpC (duD D l h) hd (kinD D l) hk
      show hpS D l f (h + 1) (bif !(Nat.beq (duD D l h) 0) && Nat.beq (duD D l h &&& kinD D l) 0 then acc &&& duD D l h else acc) &&& s ≠ 0 ↔ acc &&& s ≠ 0 ∧ (bif !(Nat.beq (duD D l h) 0) && Nat.beq (duD D l h &&& (kinD D l ||| s)) 0 then true else niS D l s f (h + 1)) = false
      by_cases c0 : duD D l h = 0
      · rw [c0]
        exact ih (h + 1) acc ha
      · rw [beqN c0]
        by_cases c1 : duD D l h &&& kinD D l = 0
        · rw [c1]
          show hpS D l f (h + 1) (acc &&& duD D l h) &&& s ≠ 0 ↔ _
          rw [ih (h + 1) _ (Nat.lt_of_le_of_lt Nat.and_le_left ha)]
          have e : (acc &&& duD D l h) &&& s ≠ 0 ↔ acc &&& s ≠ 0 ∧ duD D l h &&& s ≠ 0 := by
            rcases hs with rfl | rfl
            · exact p1
            · exact p2
          have e2 : duD D l h &&& (kinD D l ||| s) = 0 ↔ duD D l h &&& s = 0 := by
            rcases hs with rfl | rfl
            · exact (p3 c1).1
            · exact (p3 c1).2
          rw [e]
          by_cases c2 : duD D l h &&& s = 0
          · rw [e2.mpr c2]
            exact ⟨fun z => absurd c2 z.1.2, fun z => absurd (show true = false from z.2) (by decide)⟩
          · rw [beqN (fun z => c2 (e2.mp z))]
            exact ⟨fun z => ⟨z.1.1, z.2⟩, fun z => ⟨⟨z.1, c2⟩, z.2⟩⟩
        · rw [beqN c1]
          have e2 : duD D l h &&& (kinD D l ||| s) ≠ 0 := by
            rcases hs with rfl | rfl
            · exact (p4 c1).1
            · exact (p4 c1).2
          rw [beqN e2]
          exact ih (h + 1) acc ha
  unfold hpD niB
  rw [g _ _ _ (by omega)]
  obtain ⟨p5, p6⟩ := hlpD (kinD D l) hk
  refine and_congr ?_ Iff.rfl
  rcases hs with rfl | rfl
  · rw [p5, ks.1]; exact Iff.rfl
  · rw [p6, ks.2]; exact Iff.rfl
