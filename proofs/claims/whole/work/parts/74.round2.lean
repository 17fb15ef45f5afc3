/-! round: the model -/
def gnM (S : zS) (D : zD) (h n : Nat) : Prop := ∀ q, q < dR D → ∀ k, k < n → S 87 (6 * q + k) = (worD D q (h + k) : Int)
def paM (S : zS) (D : zD) (n : Nat) (path : Nat → Nat) : Prop := ∀ k, k < n → S 88 k = (path k : Int) ∧ path k < dR D
def B_X12_bestOf : List (Nat × zC) := []
def O_X12_bestOf : zO := fun j a S K => match j with
  | _ => False
theorem E_X12_bestOf (l : Launch) : ∀ q ∈ B_X12_bestOf, zcok l O_X12_bestOf F_X12_bestOf q.1 q.2 := fun _ h => by cases h
def U_X12_bestOf : List (Nat × zE) := [(0, Sum.inl (0, 0, 0, (-1), 1, [])), (1, Sum.inl (5, 3, 0, 0, 2, [])), (2, Sum.inl (0, 0, 0, 0, 3, [])), (3, Sum.inl (5, 4, 0, 0, 5, [])), (5, Sum.inl (2, 4, 0, 0, 7, [])), (7, Sum.inl (2, 2, 0, 0, 8, [])), (8, Sum.inl (16, 1, 11, 0, 80, [])), (11, Sum.inl (4, 0, 0, 0, 12, [])), (12, Sum.inl (18, 12, 49, 0, 15, [])), (15, Sum.inl (2, 4, 0, 0, 17, [])), (17, Sum.inl (20, 0, 0, 0, 18, [])), (18, Sum.inl (2, 1, 0, 0, 19, [])), (19, Sum.inl (16, 0, 22, 0, 74, [])), (22, Sum.inl (4, 0, 0, 0, 23, [])), (23, Sum.inl (18, 12, 48, 0, 26, [])), (26, Sum.inl (0, 0, 0, 6, 28, [])), (28, Sum.inl (2, 1, 0, 0, 29, [])), (29, Sum.inl (9, 2, 0, 0, 30, [])), (30, Sum.inl (2, 4, 0, 0, 32, [])), (32, Sum.inl (9, 0, 0, 0, 33, [])), (33, Sum.inl (20, 0, 0, 0, 34, [])), (34, Sum.inl (17, 0, 37, 0, 40, [])), (37, Sum.inl (15, 0, 0, 0, 74, [])), (40, Sum.inl (2, 3, 0, 0, 41, [])), (41, Sum.inl (0, 0, 0, (-1), 42, [])), (42, Sum.inl (16, 0, 71, 0, 45, [])), (45, Sum.inl (4, 0, 0, 0, 46, [])), (46, Sum.inl (18, 12, 48, 0, 49, [])), (49, Sum.inl (0, 0, 0, 6, 51, [])), (51, Sum.inl (2, 1, 0, 0, 52, [])), (52, Sum.inl (9, 2, 0, 0, 53, [])), (53, Sum.inl (2, 4, 0, 0, 55, [])), (55, Sum.inl (9, 0, 0, 0, 56, [])), (56, Sum.inl (20, 0, 0, 0, 57, [])), (57, Sum.inl (4, 0, 0, 0, 58, [])), (58, Sum.inl (18, 12, 48, 0, 61, [])), (61, Sum.inl (0, 0, 0, 6, 63, [])), (63, Sum.inl (2, 1, 0, 0, 64, [])), (64, Sum.inl (9, 2, 0, 0, 65, [])), (65, Sum.inl (2, 3, 0, 0, 66, [])), (66, Sum.inl (9, 0, 0, 0, 67, [])), (67, Sum.inl (20, 0, 0, 0, 68, [])), (68, Sum.inl (16, 2, 71, 0, 74, [])), (71, Sum.inl (2, 4, 0, 0, 73, [])), (73, Sum.inl (5, 3, 0, 0, 74, [])), (74, Sum.inl (8, 4, 0, 1, 77, [])), (77, Sum.inl (15, 0, 0, 0, 5, [])), (80, Sum.inl (2, 3, 0, 0, 81, [])), (81, Sum.inl (27, 0, 0, 0, 82, []))]
theorem Z_X12_bestOf (l : Launch) : ∀ q ∈ U_X12_bestOf, zTok l O_X12_bestOf F_X12_bestOf q := zU_ok rfl rfl rfl K_X12_bestOf (E_X12_bestOf l)
def wp_X12_bestOf (a : List zV) (S : zS) (K : zR2 → zS → Prop) : Prop := match a with
  | [.inr (.inl c), .inl x, .inl y] => ∃ (D : zD) (h n q : Nat) (path : Nat → Nat), (c = 62 ∧ dR D ≤ 8 ∧ gnM S D h n ∧ paM S D n path ∧ n ≤ 6 ∧ x = (q : Int) ∧ q < dR D ∧ y = (n : Int)) ∧ K (.inl (some (.inl (boD D h n path q)))) S
  | _ => False
theorem L_X12_bestOf {l : Launch} {S : zS} {Q : zR2 → zS → Prop} {D : zD} {h n q : Nat} {path : Nat → Nat} (h8 : dR D ≤ 8) (hg : gnM S D h n) (hp : paM S D n path) (hn : n ≤ 6) (hq : q < dR D) (f : Nat) : ∀ (k : Nat) (b : Int), k + f = n → (b = -1 ∨ (0 ≤ b ∧ b < k)) → Q (.inl (some (.inl (boS (fun k => worD D q (h + k)) path q f k b)))) S → zGs l 0 0 0 F_X12_bestOf S 5 [(0, .inr (.inl 62)), (1, .inl (q : Int)), (2, .inl (n : Int)), (3, .inl b), (4, .inl (k : Int))] [] Q := by
  induction f with
  | zero =>
    intro k b hk hb hQ
    refine zwq_ok (Z_X12_bestOf l) rfl [5] (fun _ _ _ _ _ _ h => h) 400 (Z_X12_bestOf l) ?_
    exact ⟨fun c => by omega, fun c => hQ⟩
  | succ f ih =>
    intro k b hk hb hQ
    obtain ⟨p1, p2⟩ := hp k (by omega)
    have g1 := hg q hq k (by omega)
    have hQ : Q (.inl (some (.inl (if path k = q ∧ worD D q (h + k) ≠ 0 ∧ (b = -1 ∨ worD D q (h + b.toNat) < worD D q (h + k)) then boS (fun k => worD D q (h + k)) path q f (k + 1) (k : Int) else boS (fun k => worD D q (h + k)) path q f (k + 1) b)))) S := hQ
    have no : ¬ (path k = q ∧ worD D q (h + k) ≠ 0 ∧ (b = -1 ∨ worD D q (h + b.toNat) < worD D q (h + k))) → zGs l 0 0 0 F_X12_bestOf S 5 [(0, .inr (.inl 62)), (1, .inl (q : Int)), (2, .inl (n : Int)), (3, .inl b), (4, .inl ((k : Int) + 1))] [] Q := fun c => by
      rw [if_neg c] at hQ
      exact ih (k + 1) b (by omega) (by omega) hQ
    have yes : (path k = q ∧ worD D q (h + k) ≠ 0 ∧ (b = -1 ∨ worD D q (h + b.toNat) < worD D q (h + k))) → zGs l 0 0 0 F_X12_bestOf S 5 [(0, .inr (.inl 62)), (1, .inl (q : Int)), (2, .inl (n : Int)), (3, .inl (k : Int)), (4, .inl ((k : Int) + 1))] [] Q := fun c => by
      rw [if_pos c] at hQ
      exact ih (k + 1) (k : Int) (by omega) (by omega) hQ
    have gb : ¬ b = -1 → S 87 (6 * q + b.toNat) = (worD D q (h + b.toNat) : Int) := fun c => hg q hq b.toNat (by omega)
    refine zwq_ok (Z_X12_bestOf l) rfl [5] (fun _ _ _ _ _ _ h => h) 400 (Z_X12_bestOf l) ?_
    refine ⟨fun c => ⟨k, ⟨rfl, by omega⟩, fun c2 => ⟨by omega, by omega, 6 * q + k, ⟨by omega, by omega⟩, fun c3 => ⟨by omega, no (fun z => by omega)⟩, fun c3 => ⟨fun c4 => ⟨by omega, yes ⟨by omega, by omega, Or.inl c4⟩⟩, fun c4 => ⟨by omega, by omega, 6 * q + k, ⟨by omega, by omega⟩, by omega, by omega, 6 * q + b.toNat, ⟨by omega, by omega⟩, fun c5 => ⟨by omega, ?_⟩, fun c5 => ⟨by omega, ?_⟩⟩⟩⟩, fun c2 => ⟨by omega, no (fun z => by omega)⟩⟩, fun c => by omega⟩
    · have := gb c4
      exact yes ⟨by omega, by omega, Or.inr (by omega)⟩
    · have := gb c4
      exact no (fun z => by omega)
theorem R_X12_bestOf (l : Launch) (a : List zV) (S : zS) (Q : zR2 → zS → Prop) (h : wp_X12_bestOf a S Q) : zRs l 0 0 0 yX12_bestOf (.code yX12_bestOf cX12_bestOf 5 (some .int)) a S Q := by
  unfold wp_X12_bestOf at h
  split at h
  · obtain ⟨D, h, n, q, path, ⟨rfl, h8, hg, hp, hn, rfl, hq, rfl⟩, k⟩ := h
    refine zRs_of 12 (by decide) rfl rfl ?_; refine zwq_ok (Z_X12_bestOf l) rfl [5] (fun _ _ _ _ _ _ h => h) 400 (Z_X12_bestOf l) ?_
    exact L_X12_bestOf h8 hg hp hn hq n 0 (-1) (by omega) (Or.inl rfl) k
  · exact h.elim
theorem bo_ge {D : zD} {h n q : Nat} {path : Nat → Nat} : boD D h n path q = -1 ∨ (0 ≤ boD D h n path q ∧ boD D h n path q < n) := by
  rcases boD_ok D h n path q with ⟨h1, _⟩ | ⟨j, h1, h2, _⟩
  · exact Or.inl h1
  · right; omega
def B_X12_all : List (Nat × zC) := [(15, (0, 0, 2, 0, 0, 0, 12))]
def O_X12_all : zO := fun j a S K => match j with
  | 0 => wp_X12_bestOf a S K
  | _ => False
theorem E_X12_all (l : Launch) : ∀ q ∈ B_X12_all, zcok l O_X12_all F_X12_all q.1 q.2 := List.forall_mem_cons.mpr ⟨⟨374, yX12_bestOf, cX12_bestOf, 5, some .int, by decide +kernel, C_12_374, W_X12_bestOf, I_X12_bestOf, S_X12_bestOf, rfl, rfl, R_X12_bestOf l⟩, fun _ h => by cases h⟩
def U_X12_all : List (Nat × zE) := [(0, Sum.inl (0, 0, 0, 0, 1, [])), (1, Sum.inl (5, 2, 0, 0, 2, [])), (2, Sum.inl (0, 0, 0, 0, 3, [])), (3, Sum.inl (5, 3, 0, 0, 4, [])), (4, Sum.inl (2, 3, 0, 0, 5, [])), (5, Sum.inl (4, 0, 0, 0, 6, [])), (6, Sum.inl (18, 12, 1, 0, 9, [])), (9, Sum.inl (16, 1, 12, 0, 51, [])), (12, Sum.inl (4, 0, 0, 0, 13, [])), (13, Sum.inl (2, 3, 0, 0, 14, [])), (14, Sum.inl (2, 1, 0, 0, 15, [])), (15, Sum.inr (0, 0, 2, 0, 0, 0, 12)), (18, Sum.inl (5, 4, 0, 0, 20, [])), (20, Sum.inl (2, 2, 0, 0, 21, [])), (21, Sum.inl (2, 4, 0, 0, 23, [])), (23, Sum.inl (0, 0, 0, (-1), 24, [])), (24, Sum.inl (16, 0, 27, 0, 31, [])), (27, Sum.inl (0, 0, 0, 0, 28, [])), (28, Sum.inl (15, 0, 0, 0, 43, [])), (31, Sum.inl (4, 0, 0, 0, 32, [])), (32, Sum.inl (18, 12, 48, 0, 35, [])), (35, Sum.inl (0, 0, 0, 6, 37, [])), (37, Sum.inl (2, 3, 0, 0, 38, [])), (38, Sum.inl (9, 2, 0, 0, 39, [])), (39, Sum.inl (2, 4, 0, 0, 41, [])), (41, Sum.inl (9, 0, 0, 0, 42, [])), (42, Sum.inl (20, 0, 0, 0, 43, [])), (43, Sum.inl (9, 0, 0, 0, 44, [])), (44, Sum.inl (5, 2, 0, 0, 45, [])), (45, Sum.inl (8, 3, 0, 1, 48, [])), (48, Sum.inl (15, 0, 0, 0, 4, [])), (51, Sum.inl (2, 2, 0, 0, 52, [])), (52, Sum.inl (27, 0, 0, 0, 53, []))]
theorem Z_X12_all (l : Launch) : ∀ q ∈ U_X12_all, zTok l O_X12_all F_X12_all q := zU_ok rfl rfl rfl K_X12_all (E_X12_all l)
def wp_X12_all (a : List zV) (S : zS) (K : zR2 → zS → Prop) : Prop := match a with
  | [.inr (.inl c), .inl y] => ∃ (D : zD) (h n : Nat) (path : Nat → Nat), (c = 62 ∧ dOK D ∧ mOK S D ∧ gnM S D h n ∧ paM S D n path ∧ n ≤ 6 ∧ h + n ≤ 24 ∧ y = (n : Int)) ∧ K (.inl (some (.inl (vaC D h n path : Int)))) S
  | _ => False
theorem vq_le {D : zD} (hD : dOK D) {h n : Nat} {path : Nat → Nat} (hh : h + n ≤ 24) {q : Nat} (hq : q < dR D) : vaQ D h n path q ≤ 49397040 := by
  unfold vaQ
  split
  · exact Nat.zero_le _
  · rename_i c
    have := bo_ge (D := D) (h := h) (n := n) (path := path) (q := q)
    exact wor_le hD hq (by omega)
theorem L_X12_all {l : Launch} {S : zS} {Q : zR2 → zS → Prop} {D : zD} {h n : Nat} {path : Nat → Nat} (hD : dOK D) (hM : mOK S D) (hg : gnM S D h n) (hp : paM S D n path) (hn : n ≤ 6) (hh : h + n ≤ 24) (k : Q (.inl (some (.inl (suN (vaQ D h n path) (dR D) : Int)))) S) (f : Nat) : ∀ q, q + f = dR D → zGs l 1 0 0 F_X12_all S 4 [(0, .inr (.inl 62)), (1, .inl (n : Int)), (2, .inl (suN (vaQ D h n path) q : Int)), (3, .inl (q : Int))] [] Q := by
  have h8 := hD.rooms
  have eR := hM.rooms
  induction f with
  | zero =>
    intro q hq
    have : q = dR D := by omega
    subst this
    refine zwq_ok (Z_X12_all l) rfl [4] (fun _ _ _ _ _ _ h => h) 400 (Z_X12_all l) ?_
    exact ⟨fun c => by omega, fun c => k⟩
  | succ f ih =>
    intro q hq
    have hle := suN_le (f := vaQ D h n path) (b := 49397040) q (fun i hi => vq_le hD hh (by omega))
    have hv := vq_le hD (path := path) hh (show q < dR D by omega)
    have hb := bo_ge (D := D) (h := h) (n := n) (path := path) (q := q)
    have hgq := hg q (by omega)
    have ev : vaQ D h n path q = if boD D h n path q = -1 then 0 else worD D q (h + (boD D h n path q).toNat) := rfl
    have this := ih (q + 1) (by omega)
    have es : suN (vaQ D h n path) (q + 1) = suN (vaQ D h n path) q + vaQ D h n path q := rfl
    rw [es] at this
    refine zwq_ok (Z_X12_all l) rfl [4] (fun _ _ _ _ _ _ h => h) 400 (Z_X12_all l) ?_
    refine ⟨fun c => ⟨D, h, n, q, path, ⟨rfl, h8, hg, hp, hn, rfl, by omega, rfl⟩, fun c2 => ⟨by omega, by omega, ?_⟩, fun c2 => ⟨by omega, by omega, 6 * q + (boD D h n path q).toNat, ⟨by omega, by omega⟩, ?_, by omega, ?_⟩⟩, fun c => by omega⟩
    · rw [if_pos c2] at ev
      rw [ev] at this
      exact zGs.sub (lo := [(0, _), (1, _), (2, _), (3, _), (4, _)]) this (fun q hq => by simp only [List.mem_cons, List.not_mem_nil, or_false] at hq; rcases hq with rfl | rfl | rfl | rfl <;> first | exact .head _ | exact .tail _ (.head _) | exact .tail _ (.tail _ (.head _)) | exact .tail _ (.tail _ (.tail _ (.head _))) | exact .tail _ (.tail _ (.tail _ (.tail _ (.head _)))) | exact .tail _ (.tail _ (.tail _ (.tail _ (.tail _ (.head _))))) | exact .tail _ (.tail _ (.tail _ (.tail _ (.tail _ (.tail _ (.head _)))))) | exact .tail _ (.tail _ (.tail _ (.tail _ (.tail _ (.tail _ (.tail _ (.head _))))))) | exact .tail _ (.tail _ (.tail _ (.tail _ (.tail _ (.tail _ (.tail _ (.tail _ (.head _)))))))) | exact .tail _ (.tail _ (.tail _ (.tail _ (.tail _ (.tail _ (.tail _ (.tail _ (.tail _ (.head _))))))))) | exact .tail _ (.tail _ (.tail _ (.tail _ (.tail _ (.tail _ (.tail _ (.tail _ (.tail _ (.tail _ (.head _)))))))))) | exact .tail _ (.tail _ (.tail _ (.tail _ (.tail _ (.tail _ (.tail _ (.tail _ (.tail _ (.tail _ (.tail _ (.head _))))))))))) | exact .tail _ (.tail _ (.tail _ (.tail _ (.tail _ (.tail _ (.tail _ (.tail _ (.tail _ (.tail _ (.tail _ (.tail _ (.head _)))))))))))) | exact .tail _ (.tail _ (.tail _ (.tail _ (.tail _ (.tail _ (.tail _ (.tail _ (.tail _ (.tail _ (.tail _ (.tail _ (.tail _ (.head _))))))))))))))
    · rw [if_neg c2] at ev
      rw [hgq (boD D h n path q).toNat (by omega)]
      omega
    · rw [if_neg c2] at ev
      rw [ev] at this
      rw [hgq (boD D h n path q).toNat (by omega)]
      exact zGs.sub (lo := [(0, _), (1, _), (2, _), (3, _), (4, _)]) this (fun q hq => by simp only [List.mem_cons, List.not_mem_nil, or_false] at hq; rcases hq with rfl | rfl | rfl | rfl <;> first | exact .head _ | exact .tail _ (.head _) | exact .tail _ (.tail _ (.head _)) | exact .tail _ (.tail _ (.tail _ (.head _))) | exact .tail _ (.tail _ (.tail _ (.tail _ (.head _)))) | exact .tail _ (.tail _ (.tail _ (.tail _ (.tail _ (.head _))))) | exact .tail _ (.tail _ (.tail _ (.tail _ (.tail _ (.tail _ (.head _)))))) | exact .tail _ (.tail _ (.tail _ (.tail _ (.tail _ (.tail _ (.tail _ (.head _))))))) | exact .tail _ (.tail _ (.tail _ (.tail _ (.tail _ (.tail _ (.tail _ (.tail _ (.head _)))))))) | exact .tail _ (.tail _ (.tail _ (.tail _ (.tail _ (.tail _ (.tail _ (.tail _ (.tail _ (.head _))))))))) | exact .tail _ (.tail _ (.tail _ (.tail _ (.tail _ (.tail _ (.tail _ (.tail _ (.tail _ (.tail _ (.head _)))))))))) | exact .tail _ (.tail _ (.tail _ (.tail _ (.tail _ (.tail _ (.tail _ (.tail _ (.tail _ (.tail _ (.tail _ (.head _))))))))))) | exact .tail _ (.tail _ (.tail _ (.tail _ (.tail _ (.tail _ (.tail _ (.tail _ (.tail _ (.tail _ (.tail _ (.tail _ (.head _)))))))))))) | exact .tail _ (.tail _ (.tail _ (.tail _ (.tail _ (.tail _ (.tail _ (.tail _ (.tail _ (.tail _ (.tail _ (.tail _ (.tail _ (.head _))))))))))))))
theorem R_X12_all (l : Launch) (a : List zV) (S : zS) (Q : zR2 → zS → Prop) (h : wp_X12_all a S Q) : zRs l 1 0 0 yX12_all (.code yX12_all cX12_all 5 (some .int)) a S Q := by
  unfold wp_X12_all at h
  split at h
  · obtain ⟨D, h, n, path, ⟨rfl, hD, hM, hg, hp, hn, hh, rfl⟩, k⟩ := h
    rw [vaC_vaM (fun s hs => (hp s hs).2)] at k
    refine zRs_of 12 (by decide) rfl rfl ?_; refine zwq_ok (Z_X12_all l) rfl [4] (fun _ _ _ _ _ _ h => h) 400 (Z_X12_all l) ?_
    exact L_X12_all hD hM hg hp hn hh k (dR D) 0 (by omega)
  · exact h.elim
/-- each step goes to a room beside -/
def stP (n : Nat) (path : Nat → Nat) : Prop := ∀ k, 1 ≤ k → k < n → path (k - 1) ≤ path k + 1 ∧ path k ≤ path (k - 1) + 1
def B_X12_turnsPath : List (Nat × zC) := []
def O_X12_turnsPath : zO := fun j a S K => match j with
  | _ => False
theorem E_X12_turnsPath (l : Launch) : ∀ q ∈ B_X12_turnsPath, zcok l O_X12_turnsPath F_X12_turnsPath q.1 q.2 := fun _ h => by cases h
def U_X12_turnsPath : List (Nat × zE) := [(0, Sum.inl (2, 1, 0, 0, 1, [])), (1, Sum.inl (0, 0, 0, 1, 2, [])), (2, Sum.inl (9, 1, 0, 0, 3, [])), (3, Sum.inl (5, 2, 0, 0, 4, [])), (4, Sum.inl (2, 2, 0, 0, 5, [])), (5, Sum.inl (17, 2, 8, 0, 127, [])), (8, Sum.inl (4, 0, 0, 0, 9, [])), (9, Sum.inl (18, 12, 49, 0, 12, [])), (12, Sum.inl (2, 2, 0, 0, 13, [])), (13, Sum.inl (0, 0, 0, 1, 14, [])), (14, Sum.inl (9, 1, 0, 0, 15, [])), (15, Sum.inl (20, 0, 0, 0, 16, [])), (16, Sum.inl (0, 0, 0, 1, 17, [])), (17, Sum.inl (9, 0, 0, 0, 18, [])), (18, Sum.inl (4, 0, 0, 0, 19, [])), (19, Sum.inl (18, 12, 1, 0, 22, [])), (22, Sum.inl (16, 1, 25, 0, 38, [])), (25, Sum.inl (4, 0, 0, 0, 26, [])), (26, Sum.inl (18, 12, 49, 0, 29, [])), (29, Sum.inl (2, 2, 0, 0, 30, [])), (30, Sum.inl (0, 0, 0, 1, 31, [])), (31, Sum.inl (9, 1, 0, 0, 32, [])), (32, Sum.inl (20, 0, 0, 0, 33, [])), (33, Sum.inl (0, 0, 0, 1, 34, [])), (34, Sum.inl (9, 0, 0, 0, 35, [])), (35, Sum.inl (15, 0, 0, 0, 44, [])), (38, Sum.inl (4, 0, 0, 0, 39, [])), (39, Sum.inl (18, 12, 1, 0, 42, [])), (42, Sum.inl (0, 0, 0, 1, 43, [])), (43, Sum.inl (9, 1, 0, 0, 44, [])), (44, Sum.inl (5, 3, 0, 0, 45, [])), (45, Sum.inl (4, 0, 0, 0, 46, [])), (46, Sum.inl (18, 12, 49, 0, 49, [])), (49, Sum.inl (2, 2, 0, 0, 50, [])), (50, Sum.inl (20, 0, 0, 0, 51, [])), (51, Sum.inl (2, 3, 0, 0, 52, [])), (52, Sum.inl (16, 0, 55, 0, 58, [])), (55, Sum.inl (15, 0, 0, 0, 121, [])), (58, Sum.inl (4, 0, 0, 0, 59, [])), (59, Sum.inl (18, 12, 49, 0, 62, [])), (62, Sum.inl (2, 2, 0, 0, 63, [])), (63, Sum.inl (13, 0, 0, 0, 64, [])), (64, Sum.inl (20, 0, 0, 0, 65, [])), (65, Sum.inl (0, 0, 0, 1, 66, [])), (66, Sum.inl (9, 0, 0, 0, 67, [])), (67, Sum.inl (21, 0, 0, 0, 68, [])), (68, Sum.inl (2, 2, 0, 0, 69, [])), (69, Sum.inl (0, 0, 0, 1, 70, [])), (70, Sum.inl (9, 0, 0, 0, 71, [])), (71, Sum.inl (5, 4, 0, 0, 73, [])), (73, Sum.inl (2, 4, 0, 0, 75, [])), (75, Sum.inl (2, 1, 0, 0, 76, [])), (76, Sum.inl (16, 1, 79, 0, 119, [])), (79, Sum.inl (4, 0, 0, 0, 80, [])), (80, Sum.inl (18, 12, 49, 0, 83, [])), (83, Sum.inl (2, 4, 0, 0, 85, [])), (85, Sum.inl (4, 0, 0, 0, 86, [])), (86, Sum.inl (18, 12, 49, 0, 89, [])), (89, Sum.inl (2, 4, 0, 0, 91, [])), (91, Sum.inl (0, 0, 0, 1, 92, [])), (92, Sum.inl (9, 1, 0, 0, 93, [])), (93, Sum.inl (20, 0, 0, 0, 94, [])), (94, Sum.inl (17, 2, 97, 0, 111, [])), (97, Sum.inl (4, 0, 0, 0, 98, [])), (98, Sum.inl (18, 12, 49, 0, 101, [])), (101, Sum.inl (2, 4, 0, 0, 103, [])), (103, Sum.inl (0, 0, 0, 1, 104, [])), (104, Sum.inl (9, 1, 0, 0, 105, [])), (105, Sum.inl (20, 0, 0, 0, 106, [])), (106, Sum.inl (0, 0, 0, 1, 107, [])), (107, Sum.inl (9, 1, 0, 0, 108, [])), (108, Sum.inl (15, 0, 0, 0, 112, [])), (111, Sum.inl (0, 0, 0, 0, 112, [])), (112, Sum.inl (21, 0, 0, 0, 113, [])), (113, Sum.inl (8, 4, 0, 1, 116, [])), (116, Sum.inl (15, 0, 0, 0, 73, [])), (119, Sum.inl (0, 0, 0, 1, 120, [])), (120, Sum.inl (27, 0, 0, 0, 121, [])), (121, Sum.inl (8, 2, 0, (-1), 124, [])), (124, Sum.inl (15, 0, 0, 0, 4, [])), (127, Sum.inl (0, 0, 0, 0, 128, [])), (128, Sum.inl (27, 0, 0, 0, 129, []))]
theorem Z_X12_turnsPath (l : Launch) : ∀ q ∈ U_X12_turnsPath, zTok l O_X12_turnsPath F_X12_turnsPath q := zU_ok rfl rfl rfl K_X12_turnsPath (E_X12_turnsPath l)
def wp_X12_turnsPath (a : List zV) (S : zS) (K : zR2 → zS → Prop) : Prop := match a with
  | [.inr (.inl c), .inl y] => ∃ (D : zD) (n : Nat) (path : Nat → Nat), (c = 62 ∧ dOK D ∧ mOK S D ∧ paM S D n path ∧ stP n path ∧ 1 ≤ n ∧ n ≤ 6 ∧ y = (n : Int)) ∧ (∀ S' path', paM S' D n path' → stP n path' → path' 0 = path 0 → (∀ c, c ≠ 88 → S' c = S c) → sW (dR D) path' (n - 1) 1 = (sW (dR D) path (n - 1) 1).tail → K (.inl (some (.inl 1))) S') ∧ ((sW (dR D) path (n - 1) 1).tail = [] → K (.inl (some (.inl 0))) S)
  | _ => False
section
variable {l : Launch} {S0 : zS} {Q : zR2 → zS → Prop} {D : zD} {n : Nat} {path : Nat → Nat}
theorem low_lt {R p : Nat} (h : p < R) : lowR p < R ∧ p ≤ lowR p + 1 ∧ lowR p ≤ p + 1 := by
  unfold lowR
  split <;> omega
theorem L1_X12_turnsPath {k : Nat} {x3 : Int} (hD : dOK D) (hn : n ≤ 6) (hk : 1 ≤ k) (hkn : k < n) (h : ∀ S' path', paM S' D n path' → (∀ i, i ≤ k → path' i = if i = k then path k + 1 else path i) → (∀ i, k + 1 ≤ i → i < n → path' i = lowR (path' (i - 1))) → (∀ c, c ≠ 88 → S' c = S0 c) → Q (.inl (some (.inl 1))) S') (f : Nat) : ∀ (j : Nat) (S : zS) (pa : Nat → Nat), k + 1 ≤ j → j + f = n → (∀ i, i < j → S 88 i = (pa i : Int) ∧ pa i < dR D) → (∀ i, i ≤ k → pa i = if i = k then path k + 1 else path i) → (∀ i, k + 1 ≤ i → i < j → pa i = lowR (pa (i - 1))) → (∀ c, c ≠ 88 → S c = S0 c) → zGs l 0 0 0 F_X12_turnsPath S 73 [(0, .inr (.inl 62)), (1, .inl (n : Int)), (2, .inl (k : Int)), (3, .inl x3), (4, .inl (j : Int))] [] Q := by
  have h8 := hD.rooms
  induction f with
  | zero =>
    intro j S pa hj1 hj a1 a2 a3 hf
    have : j = n := by omega
    subst this
    have := h S pa a1 a2 a3 hf
    refine zwq_ok (Z_X12_turnsPath l) rfl [73] (fun _ _ _ _ _ _ h => h) 400 (Z_X12_turnsPath l) ?_
    exact ⟨fun c => by omega, fun c => ⟨Or.inr rfl, this⟩⟩
  | succ f ih =>
    intro j S pa hj1 hj a1 a2 a3 hf
    obtain ⟨q1, q2⟩ := a1 (j - 1) (by omega)
    obtain ⟨l1, l2, l3⟩ := low_lt q2
    have nx : ∀ v : Int, v = (lowR (pa (j - 1)) : Int) → zGs l 0 0 0 F_X12_turnsPath (zu S 88 j v) 73 [(0, .inr (.inl 62)), (1, .inl (n : Int)), (2, .inl (k : Int)), (3, .inl x3), (4, .inl ((j : Int) + 1))] [] Q := fun v hv => by
      subst hv
      refine ih (j + 1) _ (fun i => if i = j then lowR (pa (j - 1)) else pa i) (by omega) (by omega) (fun i hi => ?_) (fun i hi => ?_) (fun i h1 h2 => ?_) (fun c hc => (zu_c hc).trans (hf c hc))
      · rw [zu_if]
        show _ = (((if i = j then lowR (pa (j - 1)) else pa i) : Nat) : Int) ∧ (if i = j then lowR (pa (j - 1)) else pa i) < dR D
        by_cases e : i = j
        · rw [if_pos e, if_pos e]; exact ⟨rfl, l1⟩
        · rw [if_neg e, if_neg e]; exact a1 i (by omega)
      · show (if i = j then lowR (pa (j - 1)) else pa i) = _
        rw [if_neg (by omega)]; exact a2 i hi
      · show (if i = j then lowR (pa (j - 1)) else pa i) = lowR (if i - 1 = j then lowR (pa (j - 1)) else pa (i - 1))
        rw [if_neg (show ¬ i - 1 = j by omega)]
        by_cases e : i = j
        · rw [if_pos e, e]
        · rw [if_neg e]; exact a3 i h1 (by omega)
    have el : lowR (pa (j - 1)) = if 0 < pa (j - 1) then pa (j - 1) - 1 else 0 := rfl
    refine zwq_ok (Z_X12_turnsPath l) rfl [73] (fun _ _ _ _ _ _ h => h) 400 (Z_X12_turnsPath l) ?_
    refine ⟨fun c => ⟨by omega, j - 1, ⟨by omega, by omega⟩, fun c2 => ⟨by omega, j - 1, ⟨by omega, by omega⟩, by omega, j, ⟨rfl, by omega⟩, by omega, ?_⟩, fun c2 => ⟨j, ⟨rfl, by omega⟩, by omega, ?_⟩⟩, fun c => by omega⟩
    · exact nx _ (by rw [el, if_pos (by omega)]; omega)
    · exact nx _ (by rw [el, if_neg (by omega)]; rfl)
theorem L_X12_turnsPath (hD : dOK D) (hM : mOK S0 D) (hp : paM S0 D n path) (hst : stP n path) (hn1 : 1 ≤ n) (hn : n ≤ 6) (h1 : ∀ S' path', paM S' D n path' → stP n path' → path' 0 = path 0 → (∀ c, c ≠ 88 → S' c = S0 c) → sW (dR D) path' (n - 1) 1 = (sW (dR D) path (n - 1) 1).tail → Q (.inl (some (.inl 1))) S') (h0 : (sW (dR D) path (n - 1) 1).tail = [] → Q (.inl (some (.inl 0))) S0) : ∀ k f, k + 1 + f = n → (sW (dR D) path f (k + 1)).tail = [] → zGs l 0 0 0 F_X12_turnsPath S0 4 [(0, .inr (.inl 62)), (1, .inl (n : Int)), (2, .inl (k : Int))] [] Q := by
  have h8 := hD.rooms
  have eR := hM.rooms
  intro k
  induction k with
  | zero =>
    intro f hk htl
    rw [show f = n - 1 by omega] at htl
    have := h0 htl
    refine zwq_ok (Z_X12_turnsPath l) rfl [4] (fun _ _ _ _ _ _ h => h) 400 (Z_X12_turnsPath l) ?_
    exact ⟨fun c => absurd c (by decide), fun c => ⟨Or.inl rfl, this⟩⟩
  | succ k ih =>
    intro f hk htl
    obtain ⟨p1, p2⟩ := hp (k + 1) (by omega)
    obtain ⟨q1, q2⟩ := hp k (by omega)
    obtain ⟨s1, s2⟩ := hst (k + 1) (by omega) (by omega)
    rw [Nat.add_sub_cancel] at s1 s2
    have no : ¬ (path (k + 1) + 1 ≤ path k + 1 ∧ path (k + 1) + 1 < dR D) → ∀ x3 : Int, zGs l 0 0 0 F_X12_turnsPath S0 121 [(0, .inr (.inl 62)), (1, .inl (n : Int)), (2, .inl ((k + 1 : Nat) : Int)), (3, .inl x3)] [] Q := fun c x3 => by
      have := ih (f + 1) (by omega) (sW_last htl (by rw [Nat.add_sub_cancel]; exact c))
      refine zwq_ok (Z_X12_turnsPath l) rfl [4] (fun _ _ _ _ _ _ h => h) 400 (Z_X12_turnsPath l) ?_
      refine ⟨by omega, ?_⟩
      rw [show ((k + 1 : Nat) : Int) + -1 = (k : Int) by omega]
      exact zGs.sub (lo := [(0, _), (1, _), (2, _), (3, _)]) this (fun q hq => by simp only [List.mem_cons, List.not_mem_nil, or_false] at hq; rcases hq with rfl | rfl | rfl <;> first | exact .head _ | exact .tail _ (.head _) | exact .tail _ (.tail _ (.head _)) | exact .tail _ (.tail _ (.tail _ (.head _))) | exact .tail _ (.tail _ (.tail _ (.tail _ (.head _)))) | exact .tail _ (.tail _ (.tail _ (.tail _ (.tail _ (.head _))))) | exact .tail _ (.tail _ (.tail _ (.tail _ (.tail _ (.tail _ (.head _)))))) | exact .tail _ (.tail _ (.tail _ (.tail _ (.tail _ (.tail _ (.tail _ (.head _))))))) | exact .tail _ (.tail _ (.tail _ (.tail _ (.tail _ (.tail _ (.tail _ (.tail _ (.head _)))))))) | exact .tail _ (.tail _ (.tail _ (.tail _ (.tail _ (.tail _ (.tail _ (.tail _ (.tail _ (.head _))))))))) | exact .tail _ (.tail _ (.tail _ (.tail _ (.tail _ (.tail _ (.tail _ (.tail _ (.tail _ (.tail _ (.head _)))))))))) | exact .tail _ (.tail _ (.tail _ (.tail _ (.tail _ (.tail _ (.tail _ (.tail _ (.tail _ (.tail _ (.tail _ (.head _))))))))))) | exact .tail _ (.tail _ (.tail _ (.tail _ (.tail _ (.tail _ (.tail _ (.tail _ (.tail _ (.tail _ (.tail _ (.tail _ (.head _)))))))))))) | exact .tail _ (.tail _ (.tail _ (.tail _ (.tail _ (.tail _ (.tail _ (.tail _ (.tail _ (.tail _ (.tail _ (.tail _ (.tail _ (.head _))))))))))))))
    have yes : (path (k + 1) + 1 ≤ path k + 1 ∧ path (k + 1) + 1 < dR D) → ∀ x3 : Int, zGs l 0 0 0 F_X12_turnsPath (zu S0 88 (k + 1) (S0 88 (k + 1) + 1)) 73 [(0, .inr (.inl 62)), (1, .inl (n : Int)), (2, .inl ((k + 1 : Nat) : Int)), (3, .inl x3), (4, .inl (((k + 1 : Nat) : Int) + 1))] [] Q := fun c x3 => by
      refine L1_X12_turnsPath (S0 := S0) (path := path) hD hn (by omega) (by omega) (fun S' path' b1 b2 b3 b4 => ?_) f (k + 1 + 1) _ (fun i => if i = k + 1 then path (k + 1) + 1 else path i) (by omega) (by omega) (fun i hi => ?_) (fun i hi => rfl) (fun i a b => by omega) (fun c hc => zu_c hc)
      · have e0 : ∀ i, i < k + 1 → path' i = path i := fun i hi => by rw [b2 i (by omega), if_neg (by omega)]
        have e1 : path' (k + 1) = path (k + 1) + 1 := by rw [b2 (k + 1) (by omega), if_pos rfl]
        refine h1 S' path' b1 (fun i h1 h2 => ?_) (e0 0 (by omega)) b4 ?_
        · by_cases ei : i < k + 1
          · rw [e0 i ei, e0 (i - 1) (by omega)]; exact hst i h1 h2
          · by_cases ej : i = k + 1
            · subst ej
              rw [Nat.add_sub_cancel, e1, e0 k (by omega)]
              omega
            · rw [b3 i (by omega) h2]
              obtain ⟨l1, l2, l3⟩ := low_lt (b1 (i - 1) (by omega)).2
              exact ⟨l2, l3⟩
        · have hnx := sW_next (R := dR D) (path := path) (path' := path') (f := f) (k := k + 1) (by omega) (by rw [Nat.add_sub_cancel]; exact s1) htl (by rw [Nat.add_sub_cancel]; exact c) e1 (by rw [Nat.add_sub_cancel]; exact e0 k (by omega)) (fun i a b => b3 i (by omega) (by omega))
          have hup := sW_up (R := dR D) (path := path) (path' := path') k (f + 1) 1 (by omega) (fun i a b => e0 i (by omega)) (by rw [show 1 + k = k + 1 by omega]; exact hnx)
          rw [show k + (f + 1) = n - 1 by omega] at hup
          exact hup
      · rw [zu_if]
        show _ = (((if i = k + 1 then path (k + 1) + 1 else path i) : Nat) : Int) ∧ (if i = k + 1 then path (k + 1) + 1 else path i) < dR D
        by_cases e : i = k + 1
        · rw [if_pos e, if_pos e]; omega
        · rw [if_neg e, if_neg e]; exact hp i (by omega)
    refine zwq_ok (Z_X12_turnsPath l) rfl [4, 73, 121] (fun _ _ _ _ _ _ h => h) 400 (Z_X12_turnsPath l) ?_
    refine ⟨fun c => ⟨by omega, k, ⟨by omega, by omega⟩, by omega, fun c2 => ⟨by omega, k, ⟨by omega, by omega⟩, by omega, k + 1, ⟨rfl, by omega⟩, fun c3 => no (by omega) _, fun c3 => ⟨k + 1, ⟨rfl, by omega⟩, by omega, k + 1, ⟨rfl, by omega⟩, by omega, yes (by omega) _⟩⟩, fun c2 => ⟨by omega, k + 1, ⟨rfl, by omega⟩, fun c3 => no (by omega) _, fun c3 => ⟨k + 1, ⟨rfl, by omega⟩, by omega, k + 1, ⟨rfl, by omega⟩, by omega, yes (by omega) _⟩⟩⟩, fun c => absurd (by omega) c⟩
end
theorem R_X12_turnsPath (l : Launch) (a : List zV) (S : zS) (Q : zR2 → zS → Prop) (h : wp_X12_turnsPath a S Q) : zRs l 0 0 0 yX12_turnsPath (.code yX12_turnsPath cX12_turnsPath 5 (some .boolean)) a S Q := by
  unfold wp_X12_turnsPath at h
  split at h
  · obtain ⟨D, n, path, ⟨rfl, hD, hM, hp, hst, hn1, hn, rfl⟩, h1, h0⟩ := h
    refine zRs_of 12 (by decide) rfl rfl ?_; refine zwq_ok (Z_X12_turnsPath l) rfl [4] (fun _ _ _ _ _ _ h => h) 400 (Z_X12_turnsPath l) ?_
    refine ⟨by omega, ?_⟩
    rw [show (n : Int) - 1 = ((n - 1 : Nat) : Int) by omega]
    exact L_X12_turnsPath hD hM hp hst hn1 hn h1 h0 (n - 1) 0 (by omega) rfl
  · exact h.elim
