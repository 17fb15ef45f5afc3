/-! the model: who is where; cases, inCase, sure, where -/
def B_X12_hour : List (Nat × zC) := []
def O_X12_hour : zO := fun j a S K => match j with
  | _ => False
theorem E_X12_hour (l : Launch) : ∀ q ∈ B_X12_hour, zcok l O_X12_hour F_X12_hour q.1 q.2 := fun _ h => by cases h
def U_X12_hour : List (Nat × zE) := [(0, Sum.inl (4, 0, 0, 0, 1, [])), (1, Sum.inl (18, 12, 40, 0, 4, [])), (4, Sum.inl (0, 0, 0, (-1), 5, [])), (5, Sum.inl (16, 0, 8, 0, 12, [])), (8, Sum.inl (0, 0, 0, 0, 9, [])), (9, Sum.inl (15, 0, 0, 0, 16, [])), (12, Sum.inl (4, 0, 0, 0, 13, [])), (13, Sum.inl (18, 12, 40, 0, 16, [])), (16, Sum.inl (27, 0, 0, 0, 17, []))]
theorem Z_X12_hour (l : Launch) : ∀ q ∈ U_X12_hour, zTok l O_X12_hour F_X12_hour q := zU_ok rfl rfl rfl K_X12_hour (E_X12_hour l)
def wp_X12_hour (a : List zV) (S : zS) (K : zR2 → zS → Prop) : Prop := match a with
  | [.inr (.inl c)] => ∃ D : zD, (c = 62 ∧ mOK S D) ∧ K (.inl (some (.inl (hrD D : Int)))) S
  | _ => False
theorem R_X12_hour (l : Launch) (a : List zV) (S : zS) (Q : zR2 → zS → Prop) (h : wp_X12_hour a S Q) : zRs l 0 0 0 yX12_hour (.code yX12_hour cX12_hour 1 (some .int)) a S Q := by
  unfold wp_X12_hour at h
  split at h
  · obtain ⟨D, ⟨rfl, hM⟩, h⟩ := h
    have e := hM.seenHour
    have eh : hrD D = if dQ D = 0 then 0 else dQ D - 1 := rfl
    refine zRs_of 12 (by decide) rfl rfl ?_; refine zwq_ok (Z_X12_hour l) rfl [] (fun _ _ _ _ _ _ h => h) 400 (Z_X12_hour l) ?_
    refine ⟨fun c => ?_, fun c => ?_⟩
    · rw [eh, if_pos (by omega)] at h
      exact h
    · rw [eh, if_neg (by omega), show ((dQ D - 1 : Nat) : Int) = S 62 40 by omega] at h
      exact h
  · exact h.elim
def roI (D : zD) (l a : Nat) : Int := if a = 0 then -1 else if a < 4 then (dH D l : Int) else (a : Int) - 4
theorem thr_ro (D : zD) (r l a : Nat) : thr D r l a = true ↔ roI D l a = (r : Int) := by
  unfold thr roI
  by_cases c : a = 0
  · subst c
    rw [if_pos rfl]
    exact ⟨fun h => absurd (show false = true from h) (by decide), fun h => by omega⟩
  · rw [if_neg c, beqN c]
    by_cases c4 : a < 4
    · rw [if_pos c4, bltT c4]
      show Nat.beq (dH D l) r = true ↔ _
      rw [nbeq]
      omega
    · rw [if_neg c4, bltF c4]
      show Nat.beq a (4 + r) = true ↔ _
      rw [nbeq]
      omega
def B_X12_roomOf : List (Nat × zC) := []
def O_X12_roomOf : zO := fun j a S K => match j with
  | _ => False
theorem E_X12_roomOf (l : Launch) : ∀ q ∈ B_X12_roomOf, zcok l O_X12_roomOf F_X12_roomOf q.1 q.2 := fun _ h => by cases h
def U_X12_roomOf : List (Nat × zE) := [(0, Sum.inl (2, 2, 0, 0, 1, [])), (1, Sum.inl (17, 0, 4, 0, 8, [])), (4, Sum.inl (0, 0, 0, (-1), 5, [])), (5, Sum.inl (15, 0, 0, 0, 25, [])), (8, Sum.inl (2, 2, 0, 0, 9, [])), (9, Sum.inl (0, 0, 0, 4, 10, [])), (10, Sum.inl (16, 1, 13, 0, 22, [])), (13, Sum.inl (4, 0, 0, 0, 14, [])), (14, Sum.inl (18, 12, 7, 0, 17, [])), (17, Sum.inl (2, 1, 0, 0, 18, [])), (18, Sum.inl (20, 0, 0, 0, 19, [])), (19, Sum.inl (15, 0, 0, 0, 25, [])), (22, Sum.inl (2, 2, 0, 0, 23, [])), (23, Sum.inl (0, 0, 0, 4, 24, [])), (24, Sum.inl (9, 1, 0, 0, 25, [])), (25, Sum.inl (27, 0, 0, 0, 26, []))]
theorem Z_X12_roomOf (l : Launch) : ∀ q ∈ U_X12_roomOf, zTok l O_X12_roomOf F_X12_roomOf q := zU_ok rfl rfl rfl K_X12_roomOf (E_X12_roomOf l)
def wp_X12_roomOf (a : List zV) (S : zS) (K : zR2 → zS → Prop) : Prop := match a with
  | [.inr (.inl c), .inl x, .inl y] => ∃ (D : zD) (i a : Nat), (c = 62 ∧ dOK D ∧ mOK S D ∧ x = (i : Int) ∧ y = (a : Int) ∧ i < dL D ∧ a < 18) ∧ K (.inl (some (.inl (roI D i a)))) S
  | _ => False
theorem R_X12_roomOf (l : Launch) (a : List zV) (S : zS) (Q : zR2 → zS → Prop) (h : wp_X12_roomOf a S Q) : zRs l 0 0 0 yX12_roomOf (.code yX12_roomOf cX12_roomOf 3 (some .int)) a S Q := by
  unfold wp_X12_roomOf at h
  split at h
  · obtain ⟨D, i, a, ⟨rfl, hD, hM, rfl, rfl, hi, ha⟩, h⟩ := h
    have h6 := hD.lodgers
    have e := hM.home i hi
    unfold roI at h
    refine zRs_of 12 (by decide) rfl rfl ?_; refine zwq_ok (Z_X12_roomOf l) rfl [] (fun _ _ _ _ _ _ h => h) 400 (Z_X12_roomOf l) ?_
    refine ⟨fun c => ?_, fun c => ⟨fun c2 => ⟨i, ⟨rfl, by omega⟩, ?_⟩, fun c2 => ⟨by omega, ?_⟩⟩⟩
    · rw [if_pos (by omega)] at h; exact h
    · rw [if_neg (by omega), if_pos (by omega), ← e] at h; exact h
    · rw [if_neg (by omega), if_neg (by omega)] at h; exact h
  · exact h.elim
/-- rows of doings of all lodgers -/
def rwO (D : zD) (cs : List (List Nat)) : Prop := cs.length ≤ 4000 ∧ ∀ row ∈ cs, row.length = dL D ∧ ∀ l, l < dL D → row.getD l 0 < 18
def B_X12_isSomebody : List (Nat × zC) := [(23, (0, 0, 2, 0, 0, 0, 12))]
def O_X12_isSomebody : zO := fun j a S K => match j with
  | 0 => wp_X12_roomOf a S K
  | _ => False
theorem E_X12_isSomebody (l : Launch) : ∀ q ∈ B_X12_isSomebody, zcok l O_X12_isSomebody F_X12_isSomebody q.1 q.2 := List.forall_mem_cons.mpr ⟨⟨352, yX12_roomOf, cX12_roomOf, 3, some .int, by decide +kernel, C_12_352, W_X12_roomOf, I_X12_roomOf, S_X12_roomOf, rfl, rfl, R_X12_roomOf l⟩, fun _ h => by cases h⟩
def U_X12_isSomebody : List (Nat × zE) := [(0, Sum.inl (0, 0, 0, 0, 1, [])), (1, Sum.inl (5, 3, 0, 0, 2, [])), (2, Sum.inl (2, 3, 0, 0, 3, [])), (3, Sum.inl (4, 0, 0, 0, 4, [])), (4, Sum.inl (18, 12, 2, 0, 7, [])), (7, Sum.inl (16, 1, 10, 0, 38, [])), (10, Sum.inl (4, 0, 0, 0, 11, [])), (11, Sum.inl (2, 3, 0, 0, 12, [])), (12, Sum.inl (4, 0, 0, 0, 13, [])), (13, Sum.inl (18, 12, 44, 0, 16, [])), (16, Sum.inl (0, 0, 0, 6, 18, [])), (18, Sum.inl (2, 1, 0, 0, 19, [])), (19, Sum.inl (9, 2, 0, 0, 20, [])), (20, Sum.inl (2, 3, 0, 0, 21, [])), (21, Sum.inl (9, 0, 0, 0, 22, [])), (22, Sum.inl (20, 0, 0, 0, 23, [])), (23, Sum.inr (0, 0, 2, 0, 0, 0, 12)), (26, Sum.inl (2, 2, 0, 0, 27, [])), (27, Sum.inl (16, 0, 30, 0, 32, [])), (30, Sum.inl (0, 0, 0, 1, 31, [])), (31, Sum.inl (27, 0, 0, 0, 32, [])), (32, Sum.inl (8, 3, 0, 1, 35, [])), (35, Sum.inl (15, 0, 0, 0, 2, [])), (38, Sum.inl (0, 0, 0, 0, 39, [])), (39, Sum.inl (27, 0, 0, 0, 40, []))]
theorem Z_X12_isSomebody (l : Launch) : ∀ q ∈ U_X12_isSomebody, zTok l O_X12_isSomebody F_X12_isSomebody q := zU_ok rfl rfl rfl K_X12_isSomebody (E_X12_isSomebody l)
def wp_X12_isSomebody (a : List zV) (S : zS) (K : zR2 → zS → Prop) : Prop := match a with
  | [.inr (.inl c), .inl x, .inl y] => ∃ (D : zD) (cs : List (List Nat)) (i r : Nat) (row : List Nat), (c = 62 ∧ dOK D ∧ mOK S D ∧ csM S D cs ∧ rwO D cs ∧ x = (i : Int) ∧ cs[i]? = some row ∧ y = (r : Int)) ∧ K (.inl (some (.inl (bti (smL D r row) : Int)))) S
  | _ => False
theorem aP_drop {s : Nat → Nat → Bool} : ∀ (row : List Nat) (l k : Nat), k < row.length → aP s (l + k) (row.drop k) = (s (l + k) (row.getD k 0) && aP s (l + k + 1) (row.drop (k + 1))) := by
  intro row l k hk
  have hw : row[k] = row.getD k 0 := by
    rw [List.getD_eq_getElem?_getD, List.getElem?_eq_getElem hk]
    rfl
  rw [List.drop_eq_getElem_cons hk, hw]
  rfl
theorem L_X12_isSomebody {l : Launch} {S : zS} {Q : zR2 → zS → Prop} {D : zD} {cs : List (List Nat)} {i r : Nat} {row : List Nat} (hD : dOK D) (hM : mOK S D) (hc : csM S D cs) (hw : rwO D cs) (hi : cs[i]? = some row) (f : Nat) : ∀ j, j + f = dL D → Q (.inl (some (.inl (bti (!(aP (fun l a => !thr D r l a) j (row.drop j))) : Int)))) S → zGs l 1 0 0 F_X12_isSomebody S 2 [(0, .inr (.inl 62)), (1, .inl (i : Int)), (2, .inl (r : Int)), (3, .inl (j : Int))] [] Q := by
  have h6 := hD.lodgers
  have eL := hM.lodgers
  have hlt := (List.getElem?_eq_some_iff.mp hi).1
  obtain ⟨w1, w2⟩ := hw.2 row (List.mem_of_getElem? hi)
  have w0 := hw.1
  induction f with
  | zero =>
    intro j hj h
    have : row.drop j = [] := List.drop_eq_nil_of_le (by omega)
    rw [this] at h
    refine zwq_ok (Z_X12_isSomebody l) rfl [2] (fun _ _ _ _ _ _ h => h) 400 (Z_X12_isSomebody l) ?_
    exact ⟨fun c => by omega, fun c => ⟨Or.inl rfl, h⟩⟩
  | succ f ih =>
    intro j hj h
    have hS := hc.2 i row hi j (by omega)
    have ha := w2 j (by omega)
    have hr := thr_ro D r j (row.getD j 0)
    have hd := aP_drop (s := fun l a => !thr D r l a) row 0 j (by omega)
    rw [Nat.zero_add] at hd
    rw [hd] at h
    refine zwq_ok (Z_X12_isSomebody l) rfl [2] (fun _ _ _ _ _ _ h => h) 400 (Z_X12_isSomebody l) ?_
    refine ⟨fun c => ⟨by omega, by omega, 6 * i + j, ⟨by omega, by omega⟩, D, j, row.getD j 0, ⟨rfl, hD, hM, rfl, hS, by omega, ha⟩, fun c2 => ⟨Or.inr rfl, ?_⟩, fun c2 => ⟨by omega, ?_⟩⟩, fun c => by omega⟩
    · rw [hr.mpr c2] at h
      exact h
    · have : thr D r j (row.getD j 0) = false := by
        cases hb : thr D r j (row.getD j 0)
        · rfl
        · exact absurd (hr.mp hb) c2
      rw [this] at h
      exact ih (j + 1) (by omega) h
theorem R_X12_isSomebody (l : Launch) (a : List zV) (S : zS) (Q : zR2 → zS → Prop) (h : wp_X12_isSomebody a S Q) : zRs l 1 0 0 yX12_isSomebody (.code yX12_isSomebody cX12_isSomebody 4 (some .boolean)) a S Q := by
  unfold wp_X12_isSomebody at h
  split at h
  · obtain ⟨D, cs, i, r, row, ⟨rfl, hD, hM, hc, hw, rfl, hi, rfl⟩, h⟩ := h
    refine zRs_of 12 (by decide) rfl rfl ?_; refine zwq_ok (Z_X12_isSomebody l) rfl [2] (fun _ _ _ _ _ _ h => h) 400 (Z_X12_isSomebody l) ?_
    exact L_X12_isSomebody hD hM hc hw hi (dL D) 0 (by omega) h
  · exact h.elim
def B_X12_with : List (Nat × zC) := [(16, (0, 0, 2, 1, 0, 0, 12))]
def O_X12_with : zO := fun j a S K => match j with
  | 0 => wp_X12_isSomebody a S K
  | _ => False
theorem E_X12_with (l : Launch) : ∀ q ∈ B_X12_with, zcok l O_X12_with F_X12_with q.1 q.2 := List.forall_mem_cons.mpr ⟨⟨355, yX12_isSomebody, cX12_isSomebody, 4, some .boolean, by decide +kernel, C_12_355, W_X12_isSomebody, I_X12_isSomebody, S_X12_isSomebody, rfl, rfl, R_X12_isSomebody l⟩, fun _ h => by cases h⟩
def U_X12_with : List (Nat × zE) := [(0, Sum.inl (0, 0, 0, 0, 1, [])), (1, Sum.inl (5, 2, 0, 0, 2, [])), (2, Sum.inl (0, 0, 0, 0, 3, [])), (3, Sum.inl (5, 3, 0, 0, 4, [])), (4, Sum.inl (2, 3, 0, 0, 5, [])), (5, Sum.inl (4, 0, 0, 0, 6, [])), (6, Sum.inl (18, 12, 45, 0, 9, [])), (9, Sum.inl (16, 1, 12, 0, 35, [])), (12, Sum.inl (2, 2, 0, 0, 13, [])), (13, Sum.inl (4, 0, 0, 0, 14, [])), (14, Sum.inl (2, 3, 0, 0, 15, [])), (15, Sum.inl (2, 1, 0, 0, 16, [])), (16, Sum.inr (0, 0, 2, 1, 0, 0, 12)), (19, Sum.inl (17, 0, 26, 0, 22, [])), (22, Sum.inl (0, 0, 0, 1, 23, [])), (23, Sum.inl (15, 0, 0, 0, 27, [])), (26, Sum.inl (0, 0, 0, 0, 27, [])), (27, Sum.inl (9, 0, 0, 0, 28, [])), (28, Sum.inl (5, 2, 0, 0, 29, [])), (29, Sum.inl (8, 3, 0, 1, 32, [])), (32, Sum.inl (15, 0, 0, 0, 4, [])), (35, Sum.inl (2, 2, 0, 0, 36, [])), (36, Sum.inl (27, 0, 0, 0, 37, []))]
theorem Z_X12_with (l : Launch) : ∀ q ∈ U_X12_with, zTok l O_X12_with F_X12_with q := zU_ok rfl rfl rfl K_X12_with (E_X12_with l)
def wp_X12_with (a : List zV) (S : zS) (K : zR2 → zS → Prop) : Prop := match a with
  | [.inr (.inl c), .inl x] => ∃ (D : zD) (cs : List (List Nat)) (r : Nat), (c = 62 ∧ dOK D ∧ mOK S D ∧ csM S D cs ∧ rwO D cs ∧ x = (r : Int)) ∧ K (.inl (some (.inl ((cs.filter (smL D r)).length : Int)))) S
  | _ => False
theorem L_X12_with {l : Launch} {S : zS} {Q : zR2 → zS → Prop} {D : zD} {cs : List (List Nat)} {r : Nat} (hD : dOK D) (hM : mOK S D) (hc : csM S D cs) (hw : rwO D cs) (h : Q (.inl (some (.inl ((cs.filter (smL D r)).length : Int)))) S) (f : Nat) : ∀ i n, i + f = cs.length → n + ((cs.drop i).filter (smL D r)).length = (cs.filter (smL D r)).length → zGs l 2 0 0 F_X12_with S 4 [(0, .inr (.inl 62)), (1, .inl (r : Int)), (2, .inl (n : Int)), (3, .inl (i : Int))] [] Q := by
  have eC := hc.1
  have w0 := hw.1
  have hle := List.length_filter_le (smL D r) cs
  induction f with
  | zero =>
    intro i n hi hn
    have : cs.drop i = [] := List.drop_eq_nil_of_le (by omega)
    rw [this] at hn
    have hn : n = (cs.filter (smL D r)).length := hn
    rw [← hn] at h
    refine zwq_ok (Z_X12_with l) rfl [4] (fun _ _ _ _ _ _ h => h) 400 (Z_X12_with l) ?_
    exact ⟨fun c => by omega, fun c => h⟩
  | succ f ih =>
    intro i n hi hn
    have hlt : i < cs.length := by omega
    have hg : cs[i]? = some cs[i] := List.getElem?_eq_getElem hlt
    rw [List.drop_eq_getElem_cons hlt] at hn
    refine zwq_ok (Z_X12_with l) rfl [4] (fun _ _ _ _ _ _ h => h) 400 (Z_X12_with l) ?_
    refine ⟨fun c => ⟨D, cs, i, r, cs[i], ⟨rfl, hD, hM, hc, hw, rfl, hg, rfl⟩, fun c2 => ⟨by omega, by omega, ?_⟩, fun c2 => ⟨by omega, by omega, ?_⟩⟩, fun c => by omega⟩
    · have : smL D r cs[i] = false := by
        cases hb : smL D r cs[i]
        · rfl
        · rw [hb] at c2; exact absurd c2 (by decide)
      rw [List.filter_cons_of_neg (by rw [this]; decide)] at hn
      exact ih (i + 1) (n + 0) (by omega) (by omega)
    · have : smL D r cs[i] = true := by
        cases hb : smL D r cs[i]
        · rw [hb] at c2; exact absurd rfl c2
        · rfl
      rw [List.filter_cons_of_pos this, List.length_cons] at hn
      exact ih (i + 1) (n + 1) (by omega) (by omega)
theorem R_X12_with (l : Launch) (a : List zV) (S : zS) (Q : zR2 → zS → Prop) (h : wp_X12_with a S Q) : zRs l 2 0 0 yX12_with (.code yX12_with cX12_with 4 (some .int)) a S Q := by
  unfold wp_X12_with at h
  split at h
  · obtain ⟨D, cs, r, ⟨rfl, hD, hM, hc, hw, rfl⟩, h⟩ := h
    refine zRs_of 12 (by decide) rfl rfl ?_; refine zwq_ok (Z_X12_with l) rfl [4] (fun _ _ _ _ _ _ h => h) 400 (Z_X12_with l) ?_
    exact L_X12_with hD hM hc hw h cs.length 0 0 (by omega) (Nat.zero_add _)
  · exact h.elim
theorem rwO_cs {D : zD} {t set : Nat} {sg : Nat → Nat} (h : rowD D t (dL D) ≤ 4000) : rwO D (csL D t set sg) := by
  have hlen : (pL (fun j => bl (mxD D t j)) (dL D) 0).length = rowD D t (dL D) := by rw [pL_len, lP_pP, row_pP]
  refine ⟨Nat.le_trans (List.length_filter_le _ _) (by omega), fun row hr => ?_⟩
  have hr := (List.mem_filter.mp hr).1
  obtain ⟨h1, h2⟩ := (pL_mem _ _ _ _).mp hr
  refine ⟨h1, fun l hl => ?_⟩
  have := h2 l hl
  exact (bl_mem.mp this).1
theorem rwO_ca {D : zD} (hD : dOK D) {t : Nat} (ht : t < 24) (h : rowD D t (dL D) ≤ 4000) : rwO D (caL D t) := by
  rw [← csL_ca hD ht]
  exact rwO_cs h
/-- behind seeks -/
theorem mSk {S S' : zS} {D E T : zD} (hM : eM S D E T) (hf : ∀ c j, c ≠ 83 → c ≠ 84 → (c ≠ 62 ∨ j ≠ 45) → S' c j = zu S 62 0 0 c j) : eM S' D E T ∧ frM S S' ∧ S' 62 0 = 0 := by
  have hM0 : eM (zu S 62 0 0) D E T := hM.u (Or.inl rfl)
  refine ⟨hM0.fr (fun c j h1 h2 => hf c j ?_ ?_ ?_), fun c hc => funext fun j => (hf c j (by omega) (by omega) (Or.inl (by omega))).trans (zuN (Or.inl (by omega))), (hf 62 0 (by omega) (by omega) (Or.inr (by omega))).trans zuE⟩
  · unfold mScr at h2; omega
  · unfold mScr at h2; omega
  · unfold mScr at h2; omega
def B_X12_cases : List (Nat × zC) := [(7, (0, 0, 0, 0, 0, 0, 12)), (10, (0, 1, 1, 1, 0, 0, 12)), (21, (0, 0, 0, 0, 0, 0, 12)), (32, (0, 2, 3, 4, 0, 0, 12))]
def O_X12_cases : zO := fun j a S K => match j with
  | 0 => wp_X12_hour a S K
  | 1 => wp_X12_isSpent a S K
  | 2 => wp_X12_seeks a S K
  | _ => False
theorem E_X12_cases (l : Launch) : ∀ q ∈ B_X12_cases, zcok l O_X12_cases F_X12_cases q.1 q.2 := List.forall_mem_cons.mpr ⟨⟨341, yX12_hour, cX12_hour, 1, some .int, by decide +kernel, C_12_341, W_X12_hour, I_X12_hour, S_X12_hour, rfl, rfl, R_X12_hour l⟩, List.forall_mem_cons.mpr ⟨⟨345, yX12_isSpent, cX12_isSpent, 4, some .boolean, by decide +kernel, C_12_345, W_X12_isSpent, I_X12_isSpent, S_X12_isSpent, rfl, rfl, R_X12_isSpent l⟩, List.forall_mem_cons.mpr ⟨⟨341, yX12_hour, cX12_hour, 1, some .int, by decide +kernel, C_12_341, W_X12_hour, I_X12_hour, S_X12_hour, rfl, rfl, R_X12_hour l⟩, List.forall_mem_cons.mpr ⟨⟨348, yX12_seeks, cX12_seeks, 6, none, by decide +kernel, C_12_348, W_X12_seeks, I_X12_seeks, S_X12_seeks, rfl, rfl, R_X12_seeks l⟩, fun _ h => by cases h⟩⟩⟩⟩
def U_X12_cases : List (Nat × zE) := [(0, Sum.inl (4, 0, 0, 0, 1, [])), (1, Sum.inl (0, 0, 0, 0, 2, [])), (2, Sum.inl (19, 12, 0, 0, 5, [])), (5, Sum.inl (4, 0, 0, 0, 6, [])), (6, Sum.inl (4, 0, 0, 0, 7, [])), (7, Sum.inr (0, 0, 0, 0, 0, 0, 12)), (10, Sum.inr (0, 1, 1, 1, 0, 0, 12)), (13, Sum.inl (17, 0, 19, 0, 16, [])), (16, Sum.inl (0, 0, 0, (-2), 18, [])), (18, Sum.inl (27, 0, 0, 0, 19, [])), (19, Sum.inl (4, 0, 0, 0, 20, [])), (20, Sum.inl (4, 0, 0, 0, 21, [])), (21, Sum.inr (0, 0, 0, 0, 0, 0, 12)), (24, Sum.inl (4, 0, 0, 0, 25, [])), (25, Sum.inl (18, 12, 41, 0, 28, [])), (28, Sum.inl (4, 0, 0, 0, 29, [])), (29, Sum.inl (18, 12, 42, 0, 32, [])), (32, Sum.inr (0, 2, 3, 4, 0, 0, 12)), (35, Sum.inl (4, 0, 0, 0, 36, [])), (36, Sum.inl (18, 12, 45, 0, 39, [])), (39, Sum.inl (27, 0, 0, 0, 40, []))]
theorem Z_X12_cases (l : Launch) : ∀ q ∈ U_X12_cases, zTok l O_X12_cases F_X12_cases q := zU_ok rfl rfl rfl K_X12_cases (E_X12_cases l)
def wp_X12_cases (a : List zV) (S : zS) (K : zR2 → zS → Prop) : Prop := zif (Nat.ble (zsum a) 1) (zwq 5 F_X12_cases U_X12_cases O_X12_cases [] (fun _ _ _ _ _ _ => False) K 22 U_X12_cases 0 0 S 0 (zar 0 a) [])
theorem R_X12_cases (l : Launch) (a : List zV) (S : zS) (Q : zR2 → zS → Prop) (h : wp_X12_cases a S Q) : zRs l 5 0 0 yX12_cases (.code yX12_cases cX12_cases 1 (some .int)) a S Q := by
  obtain ⟨h1, h⟩ := zif_ok h
  exact zRs_of 12 (by decide) rfl h1 (zwq_ok (Z_X12_cases l) rfl [] (fun _ _ _ _ _ _ h => h.elim) 22 (Z_X12_cases l) h)
def B_X12_inCase : List (Nat × zC) := [(7, (0, 0, 1, 1, 0, 0, 12)), (16, (0, 1, 0, 0, 0, 0, 12)), (19, (0, 2, 1, 1, 0, 0, 12)), (31, (0, 3, 2, 0, 0, 0, 12)), (41, (0, 1, 0, 0, 0, 0, 12)), (52, (0, 4, 3, 4, 0, 0, 12)), (74, (0, 3, 2, 0, 0, 0, 12)), (91, (1, 5, 1, 0, 0, 0, 0))]
def O_X12_inCase : zO := fun j a S K => match j with
  | 0 => wp_X12_isLodger a S K
  | 1 => wp_X12_hour a S K
  | 2 => wp_X12_isSpent a S K
  | 3 => wp_X12_right a S K
  | 4 => wp_X12_seeks a S K
  | 5 => wp_X12_toldOf a S K
  | _ => False
theorem E_X12_inCase (l : Launch) : ∀ q ∈ B_X12_inCase, zcok l O_X12_inCase F_X12_inCase q.1 q.2 := List.forall_mem_cons.mpr ⟨⟨302, yX12_isLodger, cX12_isLodger, 2, some .boolean, by decide +kernel, C_12_302, W_X12_isLodger, I_X12_isLodger, S_X12_isLodger, rfl, rfl, R_X12_isLodger l⟩, List.forall_mem_cons.mpr ⟨⟨341, yX12_hour, cX12_hour, 1, some .int, by decide +kernel, C_12_341, W_X12_hour, I_X12_hour, S_X12_hour, rfl, rfl, R_X12_hour l⟩, List.forall_mem_cons.mpr ⟨⟨345, yX12_isSpent, cX12_isSpent, 4, some .boolean, by decide +kernel, C_12_345, W_X12_isSpent, I_X12_isSpent, S_X12_isSpent, rfl, rfl, R_X12_isSpent l⟩, List.forall_mem_cons.mpr ⟨⟨241, yX12_right, cX12_right, 3, some .boolean, by decide +kernel, C_12_241, W_X12_right, I_X12_right, S_X12_right, rfl, rfl, R_X12_right l⟩, List.forall_mem_cons.mpr ⟨⟨341, yX12_hour, cX12_hour, 1, some .int, by decide +kernel, C_12_341, W_X12_hour, I_X12_hour, S_X12_hour, rfl, rfl, R_X12_hour l⟩, List.forall_mem_cons.mpr ⟨⟨348, yX12_seeks, cX12_seeks, 6, none, by decide +kernel, C_12_348, W_X12_seeks, I_X12_seeks, S_X12_seeks, rfl, rfl, R_X12_seeks l⟩, List.forall_mem_cons.mpr ⟨⟨241, yX12_right, cX12_right, 3, some .boolean, by decide +kernel, C_12_241, W_X12_right, I_X12_right, S_X12_right, rfl, rfl, R_X12_right l⟩, List.forall_mem_cons.mpr ⟨⟨311, yX12_toldOf, cX12_toldOf, 1, some .int, by decide +kernel, C_12_311, W_X12_toldOf, I_X12_toldOf, rfl, R_X12_toldOf l⟩, fun _ h => by cases h⟩⟩⟩⟩⟩⟩⟩⟩
def U_X12_inCase : List (Nat × zE) := [(0, Sum.inl (4, 0, 0, 0, 1, [])), (1, Sum.inl (0, 0, 0, 0, 2, [])), (2, Sum.inl (19, 12, 0, 0, 5, [])), (5, Sum.inl (4, 0, 0, 0, 6, [])), (6, Sum.inl (2, 2, 0, 0, 7, [])), (7, Sum.inr (0, 0, 1, 1, 0, 0, 12)), (10, Sum.inl (17, 0, 37, 0, 13, [])), (13, Sum.inl (4, 0, 0, 0, 14, [])), (14, Sum.inl (4, 0, 0, 0, 15, [])), (15, Sum.inl (4, 0, 0, 0, 16, [])), (16, Sum.inr (0, 1, 0, 0, 0, 0, 12)), (19, Sum.inr (0, 2, 1, 1, 0, 0, 12)), (22, Sum.inl (17, 0, 25, 0, 29, [])), (25, Sum.inl (0, 0, 0, 1, 26, [])), (26, Sum.inl (15, 0, 0, 0, 30, [])), (29, Sum.inl (0, 0, 0, 0, 30, [])), (30, Sum.inl (0, 0, 0, 1, 31, [])), (31, Sum.inr (0, 3, 2, 0, 0, 0, 12)), (34, Sum.inl (17, 0, 37, 0, 39, [])), (37, Sum.inl (0, 0, 0, 0, 38, [])), (38, Sum.inl (27, 0, 0, 0, 39, [])), (39, Sum.inl (4, 0, 0, 0, 40, [])), (40, Sum.inl (4, 0, 0, 0, 41, [])), (41, Sum.inr (0, 1, 0, 0, 0, 0, 12)), (44, Sum.inl (4, 0, 0, 0, 45, [])), (45, Sum.inl (18, 12, 41, 0, 48, [])), (48, Sum.inl (4, 0, 0, 0, 49, [])), (49, Sum.inl (18, 12, 42, 0, 52, [])), (52, Sum.inr (0, 4, 3, 4, 0, 0, 12)), (55, Sum.inl (4, 0, 0, 0, 56, [])), (56, Sum.inl (2, 1, 0, 0, 57, [])), (57, Sum.inl (17, 1, 72, 0, 60, [])), (60, Sum.inl (2, 1, 0, 0, 61, [])), (61, Sum.inl (4, 0, 0, 0, 62, [])), (62, Sum.inl (18, 12, 45, 0, 65, [])), (65, Sum.inl (16, 1, 68, 0, 72, [])), (68, Sum.inl (0, 0, 0, 1, 69, [])), (69, Sum.inl (15, 0, 0, 0, 73, [])), (72, Sum.inl (0, 0, 0, 0, 73, [])), (73, Sum.inl (0, 0, 0, 1, 74, [])), (74, Sum.inr (0, 3, 2, 0, 0, 0, 12)), (77, Sum.inl (17, 0, 97, 0, 80, [])), (80, Sum.inl (4, 0, 0, 0, 81, [])), (81, Sum.inl (18, 12, 44, 0, 84, [])), (84, Sum.inl (0, 0, 0, 6, 86, [])), (86, Sum.inl (2, 1, 0, 0, 87, [])), (87, Sum.inl (9, 2, 0, 0, 88, [])), (88, Sum.inl (2, 2, 0, 0, 89, [])), (89, Sum.inl (9, 0, 0, 0, 90, [])), (90, Sum.inl (20, 0, 0, 0, 91, [])), (91, Sum.inr (1, 5, 1, 0, 0, 0, 0)), (94, Sum.inl (15, 0, 0, 0, 98, [])), (97, Sum.inl (0, 0, 0, 0, 98, [])), (98, Sum.inl (27, 0, 0, 0, 99, []))]
theorem Z_X12_inCase (l : Launch) : ∀ q ∈ U_X12_inCase, zTok l O_X12_inCase F_X12_inCase q := zU_ok rfl rfl rfl K_X12_inCase (E_X12_inCase l)
def wp_X12_inCase (a : List zV) (S : zS) (K : zR2 → zS → Prop) : Prop := zif (Nat.ble (zsum a) 3) (zwq 5 F_X12_inCase U_X12_inCase O_X12_inCase [] (fun _ _ _ _ _ _ => False) K 55 U_X12_inCase 0 0 S 0 (zar 0 a) [])
theorem R_X12_inCase (l : Launch) (a : List zV) (S : zS) (Q : zR2 → zS → Prop) (h : wp_X12_inCase a S Q) : zRs l 5 0 0 yX12_inCase (.code yX12_inCase cX12_inCase 3 (some .int)) a S Q := by
  obtain ⟨h1, h⟩ := zif_ok h
  exact zRs_of 12 (by decide) rfl h1 (zwq_ok (Z_X12_inCase l) rfl [] (fun _ _ _ _ _ _ h => h.elim) 55 (Z_X12_inCase l) h)
section
variable {S S' : zS} {D D' E T : zD} {N : Nat} {K : zR2 → zS → Prop} {x y z u w : Int}
theorem m_cases (hM : eM S D E T) (hX : xOK D E T N) (h : mRes S D E T (casesA D) K) : wp_X12_cases [.inr (.inl 62)] S K := by
  have hM0 : mOK (zu S 62 0 0) D := hM.now.u (Or.inl rfl)
  have hP := p_lt hX.now
  have h8 := hX.now.rooms
  have ht := hr_lt hX.now
  unfold casesA at h
  have sg : ∀ r, r < dR D → zu S 62 0 0 82 r = (dS D r : Int) := fun r hr => hM.now.seen r (by omega)
  refine ⟨D, ⟨rfl, hM0⟩, D, hrD D, ⟨rfl, hX.now, hM0, rfl, ht⟩, fun c => ⟨fun c9 => absurd c9 (by decide), fun _ => ?_⟩, fun c => ⟨fun _ => ⟨D, ⟨rfl, hM0⟩, D, hrD D, dP D, dS D, ⟨rfl, Or.inl rfl, hX.now, hM0, rfl, ht, hM.now.seenRooms, hP, sg, by omega⟩, fun S' c1 c2 => ?_⟩, fun c9 => absurd rfl c9⟩⟩
  · rw [if_pos c] at h
    exact mGood hM h
  · rw [if_neg c] at h
    rw [csL_ca hX.now ht] at c1
    obtain ⟨g1, g2, g3⟩ := mSk hM c2
    exact h S' _ g1 g2 g3 (fun _ => by rw [c1.1, caL_len])
theorem m_inCase (hM : eM S D E T) (hX : xOK D E T N) (h : mRes S D E T (inCaseA D x y) K) : wp_X12_inCase [.inr (.inl 62), .inl x, .inl y] S K := by
  have hM0 : mOK (zu S 62 0 0) D := hM.now.u (Or.inl rfl)
  have hP := p_lt hX.now
  have h8 := hX.now.rooms
  have h6 := hX.now.lodgers
  have ht := hr_lt hX.now
  have e1 : zu S 62 0 0 62 2 = (dL D : Int) := hM.now.lodgers
  have sg : ∀ r, r < dR D → zu S 62 0 0 82 r = (dS D r : Int) := fun r hr => hM.now.seen r (by omega)
  unfold inCaseA at h
  by_cases hy : 0 ≤ y ∧ y < dL D
  · rw [if_pos hy] at h
    obtain ⟨y1, y2⟩ := hy
    refine ⟨⟨rfl, rfl⟩, fun _ => ⟨fun c9 => absurd c9 (by decide), fun _ => ⟨D, ⟨rfl, hM0⟩, D, hrD D, ⟨rfl, hX.now, hM0, rfl, ht⟩, fun c => ⟨fun c9 => absurd c9 (by decide), fun _ => ⟨⟨rfl, Or.inl rfl⟩, fun _ _ _ => ⟨fun _ => ?_, fun c9 => absurd rfl c9⟩, fun _ c9 => absurd c9 (by decide), rfl, by decide⟩⟩, fun c => ⟨fun _ => ⟨⟨rfl, Or.inr rfl⟩, fun _ c9 => absurd c9 (by decide), fun _ _ => ⟨fun c9 => absurd c9 (by decide), fun _ => ⟨D, ⟨rfl, hM0⟩, D, hrD D, dP D, dS D, ⟨rfl, Or.inl rfl, hX.now, hM0, rfl, ht, hM.now.seenRooms, hP, sg, by omega⟩, fun S' c1 c2 => ?_⟩⟩, rfl, by decide⟩, fun c9 => absurd rfl c9⟩⟩⟩, fun c9 => by omega⟩
    · rw [if_pos c] at h
      exact mFail1 hM h
    · rw [if_neg c] at h
      have hro := rwO_ca hX.now ht (show rowD D (hrD D) (dL D) ≤ 4000 by omega)
      rw [csL_ca hX.now ht] at c1
      have el := caL_len D (hrD D)
      have ec := c1.1
      have hro1 := hro.1
      obtain ⟨g1, g2, g3⟩ := mSk hM c2
      have bad : ¬ (0 ≤ x ∧ x < (toD D (hrD D) : Int)) → K (.inl (some (.inl 0))) (zu S' 62 0 1) := fun cx => by
        rw [if_neg cx] at h
        exact h _ 0 (g1.u (Or.inl rfl)) (g2.u (by omega) (by omega)) zuE (fun z => absurd z (by decide))
      refine ⟨fun d1 => ⟨⟨rfl, Or.inl rfl⟩, fun _ _ _ => ⟨fun _ => bad (by omega), fun c9 => absurd rfl c9⟩, fun _ c9 => absurd c9 (by decide), g3, by decide⟩, fun d1 => ⟨fun d2 => ⟨⟨rfl, Or.inr rfl⟩, fun _ c9 => absurd c9 (by decide), fun _ _ => ⟨fun c9 => absurd c9 (by decide), fun _ => ?_⟩, g3, by decide⟩, fun d2 => ⟨⟨rfl, Or.inl rfl⟩, fun _ _ _ => ⟨fun _ => bad (by omega), fun c9 => absurd rfl c9⟩, fun _ c9 => absurd c9 (by decide), g3, by decide⟩⟩⟩
      rw [if_pos (by omega)] at h
      obtain ⟨row, hr, hg⟩ := caL_get (D := D) (t := hrD D) (i := x.toNat) (by omega)
      have hS := c1.2 x.toNat row hr y.toNat (by omega)
      have hv := (hro.2 row (List.mem_of_getElem? hr)).2 y.toNat (by omega)
      rw [hg y.toNat (by omega)] at hS hv
      exact ⟨by omega, by omega, 6 * x.toNat + y.toNat, ⟨by omega, by omega⟩, _, ⟨hS, by omega⟩, h S' _ g1 g2 g3 (fun _ => rfl)⟩
  · rw [if_neg hy] at h
    have h := mFail1 hM h
    refine ⟨⟨rfl, rfl⟩, fun c9 => by omega, fun _ => ⟨fun _ => h, fun c9 => absurd rfl c9⟩⟩
end
