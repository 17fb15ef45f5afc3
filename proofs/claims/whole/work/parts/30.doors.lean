/-! Integer.bitCount, nthBit; Plan, Affairs, Doors: what they answer -/
def B_J6_bitCount_0f7a4 : List (Nat × zC) := []
def O_J6_bitCount_0f7a4 : zO := fun j a S K => match j with
  | _ => False
theorem E_J6_bitCount_0f7a4 (l : Launch) : ∀ q ∈ B_J6_bitCount_0f7a4, zcok l O_J6_bitCount_0f7a4 F_J6_bitCount_0f7a4 q.1 q.2 := fun _ h => by cases h
def U_J6_bitCount_0f7a4 : List (Nat × zE) := [(0, Sum.inl (2, 0, 0, 0, 1, [])), (1, Sum.inl (2, 0, 0, 0, 2, [])), (2, Sum.inl (0, 0, 0, 1, 3, [])), (3, Sum.inl (9, 8, 0, 0, 4, [])), (4, Sum.inl (0, 0, 0, 1431655765, 7, [])), (7, Sum.inl (9, 3, 0, 0, 8, [])), (8, Sum.inl (9, 1, 0, 0, 9, [])), (9, Sum.inl (5, 0, 0, 0, 10, [])), (10, Sum.inl (2, 0, 0, 0, 11, [])), (11, Sum.inl (0, 0, 0, 858993459, 14, [])), (14, Sum.inl (9, 3, 0, 0, 15, [])), (15, Sum.inl (2, 0, 0, 0, 16, [])), (16, Sum.inl (0, 0, 0, 2, 17, [])), (17, Sum.inl (9, 8, 0, 0, 18, [])), (18, Sum.inl (0, 0, 0, 858993459, 21, [])), (21, Sum.inl (9, 3, 0, 0, 22, [])), (22, Sum.inl (9, 0, 0, 0, 23, [])), (23, Sum.inl (5, 0, 0, 0, 24, [])), (24, Sum.inl (2, 0, 0, 0, 25, [])), (25, Sum.inl (2, 0, 0, 0, 26, [])), (26, Sum.inl (0, 0, 0, 4, 27, [])), (27, Sum.inl (9, 8, 0, 0, 28, [])), (28, Sum.inl (9, 0, 0, 0, 29, [])), (29, Sum.inl (0, 0, 0, 252645135, 32, [])), (32, Sum.inl (9, 3, 0, 0, 33, [])), (33, Sum.inl (5, 0, 0, 0, 34, [])), (34, Sum.inl (2, 0, 0, 0, 35, [])), (35, Sum.inl (2, 0, 0, 0, 36, [])), (36, Sum.inl (0, 0, 0, 8, 38, [])), (38, Sum.inl (9, 8, 0, 0, 39, [])), (39, Sum.inl (9, 0, 0, 0, 40, [])), (40, Sum.inl (5, 0, 0, 0, 41, [])), (41, Sum.inl (2, 0, 0, 0, 42, [])), (42, Sum.inl (2, 0, 0, 0, 43, [])), (43, Sum.inl (0, 0, 0, 16, 45, [])), (45, Sum.inl (9, 8, 0, 0, 46, [])), (46, Sum.inl (9, 0, 0, 0, 47, [])), (47, Sum.inl (5, 0, 0, 0, 48, [])), (48, Sum.inl (2, 0, 0, 0, 49, [])), (49, Sum.inl (0, 0, 0, 63, 51, [])), (51, Sum.inl (9, 3, 0, 0, 52, [])), (52, Sum.inl (27, 0, 0, 0, 53, []))]
theorem Z_J6_bitCount_0f7a4 (l : Launch) : ∀ q ∈ U_J6_bitCount_0f7a4, zTok l O_J6_bitCount_0f7a4 F_J6_bitCount_0f7a4 q := zU_ok rfl rfl rfl K_J6_bitCount_0f7a4 (E_J6_bitCount_0f7a4 l)
def wp_J6_bitCount_0f7a4 (a : List zV) (S : zS) (K : zR2 → zS → Prop) : Prop := match a with
  | [.inl x] => ∃ (n m : Nat), (x = (n : Int) ∧ ((n = m ∧ m < 256) ∨ (n = spr m ∧ m < 4096))) ∧ K (.inl (some (.inl ((bl m).length : Int)))) S
  | _ => False
theorem R_J6_bitCount_0f7a4 (l : Launch) (a : List zV) (S : zS) (Q : zR2 → zS → Prop) (h : wp_J6_bitCount_0f7a4 a S Q) : zRs l 0 0 0 yJ6_bitCount_0f7a4 (.code yJ6_bitCount_0f7a4 cJ6_bitCount_0f7a4 1 (some .int)) a S Q := by
  unfold wp_J6_bitCount_0f7a4 at h
  split at h
  · obtain ⟨n, m, ⟨rfl, hm⟩, h⟩ := h
    have hn : n < 262144 := by
      rcases hm with ⟨rfl, hm⟩ | ⟨rfl, hm⟩
      · omega
      · exact (chkA_ok hm).2.2.2
    have hb : bcN n = (bl m).length := by
      rcases hm with ⟨rfl, hm⟩ | ⟨rfl, hm⟩
      · exact chkB_ok hm
      · exact (chkA_ok hm).1
    have k1 : (n / 2 &&& 1431655765) ≤ n / 2 := Nat.and_le_left
    have e1 : zand (zush (n : Int) 1) 1431655765 = ((n / 2 &&& 1431655765 : Nat) : Int) := by
      rw [show (1 : Int) = ((1 : Nat) : Int) from rfl, zush_n (by omega) (by omega)]
      exact zand_n (by omega)
    have e1' : (n : Int) - ((n / 2 &&& 1431655765 : Nat) : Int) = ((n - (n / 2 &&& 1431655765) : Nat) : Int) := by omega
    generalize ha : n - (n / 2 &&& 1431655765) = a at e1'
    have la : a < 262144 := by omega
    have e2 : zand (a : Int) 858993459 = ((a &&& 858993459 : Nat) : Int) := zand_n (b := 858993459) (by omega)
    have e3 : zand (zush (a : Int) 2) 858993459 = ((a / 4 &&& 858993459 : Nat) : Int) := by
      rw [show (2 : Int) = ((2 : Nat) : Int) from rfl, zush_n (by omega) (by omega)]
      exact zand_n (b := 858993459) (by omega)
    have k2 : (a &&& 858993459) ≤ a := Nat.and_le_left
    have k3 : (a / 4 &&& 858993459) ≤ a / 4 := Nat.and_le_left
    have e3' : ((a &&& 858993459 : Nat) : Int) + ((a / 4 &&& 858993459 : Nat) : Int) = (((a &&& 858993459) + (a / 4 &&& 858993459) : Nat) : Int) := by omega
    generalize hb2 : (a &&& 858993459) + (a / 4 &&& 858993459) = b at e3'
    have lb : b < 524288 := by omega
    have e4 : zush (b : Int) 4 = ((b / 16 : Nat) : Int) := zush_n (k := 4) (by omega) (by omega)
    have e4' : (b : Int) + ((b / 16 : Nat) : Int) = ((b + b / 16 : Nat) : Int) := by omega
    have e5 : zand ((b + b / 16 : Nat) : Int) 252645135 = (((b + b / 16) &&& 252645135 : Nat) : Int) := zand_n (b := 252645135) (by omega)
    have k5 : ((b + b / 16) &&& 252645135) ≤ b + b / 16 := Nat.and_le_left
    generalize hc : (b + b / 16) &&& 252645135 = c at e5 k5
    have e6 : zush (c : Int) 8 = ((c / 256 : Nat) : Int) := zush_n (k := 8) (by omega) (by omega)
    have e6' : (c : Int) + ((c / 256 : Nat) : Int) = ((c + c / 256 : Nat) : Int) := by omega
    generalize hd : c + c / 256 = d at e6'
    have e7 : zush (d : Int) 16 = ((d / 65536 : Nat) : Int) := zush_n (k := 16) (by omega) (by omega)
    have e7' : (d : Int) + ((d / 65536 : Nat) : Int) = ((d + d / 65536 : Nat) : Int) := by omega
    have e8 : zand ((d + d / 65536 : Nat) : Int) 63 = (((d + d / 65536) &&& 63 : Nat) : Int) := zand_n (b := 63) (by omega)
    have ef : ((d + d / 65536) &&& 63) = (bl m).length := by rw [← hb, ← hd, ← hc, ← hb2, ← ha]; rfl
    rw [ef] at e8
    refine zRs_of 14 (by decide) rfl rfl ?_; refine zwq_ok (Z_J6_bitCount_0f7a4 l) rfl [] (fun _ _ _ _ _ _ h => h) 400 (Z_J6_bitCount_0f7a4 l) ?_
    refine ⟨?_, ?_⟩
    · rw [e1]; omega
    rw [e1, e1']
    refine ⟨?_, ?_⟩
    · rw [e2, e3]; omega
    rw [e2, e3, e3']
    refine ⟨?_, ?_⟩
    · rw [e4]; omega
    rw [e4, e4']
    refine ⟨?_, ?_⟩
    · rw [e5, e6]; omega
    rw [e5, e6, e6']
    refine ⟨?_, ?_⟩
    · rw [e7]; omega
    rw [e7, e7']
    rw [← e8] at h
    exact h
  · exact h.elim
def B_X11_nthBit : List (Nat × zC) := []
def O_X11_nthBit : zO := fun j a S K => match j with
  | _ => False
theorem E_X11_nthBit (l : Launch) : ∀ q ∈ B_X11_nthBit, zcok l O_X11_nthBit F_X11_nthBit q.1 q.2 := fun _ h => by cases h
def U_X11_nthBit : List (Nat × zE) := [(0, Sum.inl (0, 0, 0, 0, 1, [])), (1, Sum.inl (5, 2, 0, 0, 2, [])), (2, Sum.inl (0, 0, 0, 0, 3, [])), (3, Sum.inl (5, 3, 0, 0, 4, [])), (4, Sum.inl (2, 3, 0, 0, 5, [])), (5, Sum.inl (0, 0, 0, 32, 7, [])), (7, Sum.inl (16, 1, 10, 0, 35, [])), (10, Sum.inl (2, 0, 0, 0, 11, [])), (11, Sum.inl (2, 3, 0, 0, 12, [])), (12, Sum.inl (9, 8, 0, 0, 13, [])), (13, Sum.inl (0, 0, 0, 1, 14, [])), (14, Sum.inl (9, 3, 0, 0, 15, [])), (15, Sum.inl (0, 0, 0, 1, 16, [])), (16, Sum.inl (16, 0, 19, 0, 29, [])), (19, Sum.inl (2, 2, 0, 0, 20, [])), (20, Sum.inl (2, 1, 0, 0, 21, [])), (21, Sum.inl (16, 0, 24, 0, 26, [])), (24, Sum.inl (2, 3, 0, 0, 25, [])), (25, Sum.inl (27, 0, 0, 0, 26, [])), (26, Sum.inl (8, 2, 0, 1, 29, [])), (29, Sum.inl (8, 3, 0, 1, 32, [])), (32, Sum.inl (15, 0, 0, 0, 4, [])), (35, Sum.inl (0, 0, 0, (-1), 36, [])), (36, Sum.inl (27, 0, 0, 0, 37, []))]
theorem Z_X11_nthBit (l : Launch) : ∀ q ∈ U_X11_nthBit, zTok l O_X11_nthBit F_X11_nthBit q := zU_ok rfl rfl rfl K_X11_nthBit (E_X11_nthBit l)
def wp_X11_nthBit (a : List zV) (S : zS) (K : zR2 → zS → Prop) : Prop := match a with
  | [.inl x, .inl i] => ∃ (n k p : Nat), (x = (n : Int) ∧ n < 262144 ∧ i = (k : Int) ∧ (bl n)[k]? = some p) ∧ K (.inl (some (.inl (p : Int)))) S
  | _ => False
theorem L_X11_nthBit {l : Launch} {S : zS} {Q : zR2 → zS → Prop} {n k p : Nat} (hn : n < 262144) (hk : k < 18) (h : Q (.inl (some (.inl (p : Int)))) S) (f : Nat) : ∀ j a, j + f ≤ 32 → a ≤ k → (blS n f j)[k - a]? = some p → zGs l 0 0 0 F_X11_nthBit S 4 [(0, .inl (n : Int)), (1, .inl (k : Int)), (2, .inl (a : Int)), (3, .inl (j : Int))] [] Q := by
  induction f with
  | zero => intro j a _ _ h0; cases h0
  | succ f ih =>
    intro j a h1 h2 h3
    have e := zubit_n (a := n) (j := j) (by omega) (by omega)
    refine zwq_ok (Z_X11_nthBit l) rfl [4] (fun _ _ _ _ _ _ h => h) 400 (Z_X11_nthBit l) ?_
    refine ⟨fun c => ⟨fun c2 => ⟨fun c3 => ?_, fun c3 => ⟨by omega, by omega, ?_⟩⟩, fun c2 => ⟨by omega, ?_⟩⟩, fun c => by omega⟩
    · have hb : bt1 n j = 1 := by rw [e] at c2; omega
      have : k - a = 0 := by omega
      rw [this, blS_1 hb] at h3
      cases h3
      exact h
    · have hb : bt1 n j = 1 := by rw [e] at c2; omega
      have e2 : k - a = (k - (a + 1)) + 1 := by omega
      rw [e2, blS_1 hb] at h3
      exact ih (j + 1) (a + 1) (by omega) (by omega) h3
    · have hb : ¬ bt1 n j = 1 := by rw [e] at c2; omega
      rw [blS_0 hb] at h3
      exact ih (j + 1) a (by omega) h2 h3
theorem R_X11_nthBit (l : Launch) (a : List zV) (S : zS) (Q : zR2 → zS → Prop) (h : wp_X11_nthBit a S Q) : zRs l 0 0 0 yX11_nthBit (.code yX11_nthBit cX11_nthBit 4 (some .int)) a S Q := by
  unfold wp_X11_nthBit at h
  split at h
  · obtain ⟨n, k, p, ⟨rfl, hn, rfl, h2⟩, h⟩ := h
    refine zRs_of 11 (by decide) rfl rfl ?_; refine zwq_ok (Z_X11_nthBit l) rfl [4] (fun _ _ _ _ _ _ h => h) 400 (Z_X11_nthBit l) ?_
    have hk : k < 18 := Nat.lt_of_lt_of_le (List.getElem?_eq_some_iff.mp h2).1 (bl_le n)
    exact L_X11_nthBit hn hk h 18 0 0 (by omega) (by omega) h2
  · exact h.elim
theorem tol_1 {k : Nat} (h : k < 4) : tol k = k := if_pos h
theorem tol_2 {k : Nat} (h : ¬ k < 4) : tol k = k + 6 := if_neg h
theorem lawD_tol (D : zD) (a : Nat) : lawD D (tol a) = lawD D a := by
  unfold lawD
  by_cases c : a < 4
  · rw [tol_1 c]
  · rw [tol_2 c, if_neg (by omega), if_neg c]
def B_X6_lawFor : List (Nat × zC) := []
def O_X6_lawFor : zO := fun j a S K => match j with
  | _ => False
theorem E_X6_lawFor (l : Launch) : ∀ q ∈ B_X6_lawFor, zcok l O_X6_lawFor F_X6_lawFor q.1 q.2 := fun _ h => by cases h
def U_X6_lawFor : List (Nat × zE) := [(0, Sum.inl (2, 1, 0, 0, 1, [])), (1, Sum.inl (17, 1, 18, 0, 4, [])), (4, Sum.inl (2, 1, 0, 0, 5, [])), (5, Sum.inl (0, 0, 0, 3, 6, [])), (6, Sum.inl (16, 2, 18, 0, 9, [])), (9, Sum.inl (4, 0, 0, 0, 10, [])), (10, Sum.inl (18, 6, 6, 0, 13, [])), (13, Sum.inl (2, 1, 0, 0, 14, [])), (14, Sum.inl (20, 0, 0, 0, 15, [])), (15, Sum.inl (15, 0, 0, 0, 24, [])), (18, Sum.inl (4, 0, 0, 0, 19, [])), (19, Sum.inl (18, 6, 6, 0, 22, [])), (22, Sum.inl (0, 0, 0, 0, 23, [])), (23, Sum.inl (20, 0, 0, 0, 24, [])), (24, Sum.inl (27, 0, 0, 0, 25, []))]
theorem Z_X6_lawFor (l : Launch) : ∀ q ∈ U_X6_lawFor, zTok l O_X6_lawFor F_X6_lawFor q := zU_ok rfl rfl rfl K_X6_lawFor (E_X6_lawFor l)
/-- which the law asks for -/
def wp_X6_lawFor (a : List zV) (S : zS) (K : zR2 → zS → Prop) : Prop := match a with
  | [.inr (.inl c), .inl x] => ∃ (D : zD) (k : Nat), (c = 3 ∧ cOK S D ∧ x = (k : Int)) ∧ K (.inl (some (.inl (lawD D k : Int)))) S
  | _ => False
theorem R_X6_lawFor (l : Launch) (a : List zV) (S : zS) (Q : zR2 → zS → Prop) (h : wp_X6_lawFor a S Q) : zRs l 0 0 0 yX6_lawFor (.code yX6_lawFor cX6_lawFor 2 (some .int)) a S Q := by
  unfold wp_X6_lawFor at h
  split at h
  · obtain ⟨D, k, ⟨rfl, hC, rfl⟩, h⟩ := h
    refine zRs_of 6 (by decide) rfl rfl ?_; refine zwq_ok (Z_X6_lawFor l) rfl [] (fun _ _ _ _ _ _ h => h) 400 (Z_X6_lawFor l) ?_
    unfold lawD at h
    refine ⟨fun c => by omega, fun c2 => ⟨fun c3 => ⟨0, ⟨rfl, by omega⟩, ?_⟩, fun c3 => ⟨k, ⟨by omega, by omega⟩, ?_⟩⟩⟩
    · rw [if_neg (by omega), ← hC.law 0 (by omega)] at h
      exact h
    · rw [if_pos (by omega), ← hC.law k (by omega)] at h
      exact h
  · exact h.elim
def B_X6_doings : List (Nat × zC) := []
def O_X6_doings : zO := fun j a S K => match j with
  | _ => False
theorem E_X6_doings (l : Launch) : ∀ q ∈ B_X6_doings, zcok l O_X6_doings F_X6_doings q.1 q.2 := fun _ h => by cases h
def U_X6_doings : List (Nat × zE) := [(0, Sum.inl (4, 0, 0, 0, 1, [])), (1, Sum.inl (18, 6, 5, 0, 4, [])), (4, Sum.inl (2, 1, 0, 0, 5, [])), (5, Sum.inl (0, 0, 0, 24, 7, [])), (7, Sum.inl (9, 2, 0, 0, 8, [])), (8, Sum.inl (2, 2, 0, 0, 9, [])), (9, Sum.inl (9, 0, 0, 0, 10, [])), (10, Sum.inl (20, 0, 0, 0, 11, [])), (11, Sum.inl (5, 3, 0, 0, 12, [])), (12, Sum.inl (2, 3, 0, 0, 13, [])), (13, Sum.inl (17, 0, 16, 0, 20, [])), (16, Sum.inl (0, 0, 0, 1, 17, [])), (17, Sum.inl (15, 0, 0, 0, 21, [])), (20, Sum.inl (2, 3, 0, 0, 21, [])), (21, Sum.inl (27, 0, 0, 0, 22, []))]
theorem Z_X6_doings (l : Launch) : ∀ q ∈ U_X6_doings, zTok l O_X6_doings F_X6_doings q := zU_ok rfl rfl rfl K_X6_doings (E_X6_doings l)
def wp_X6_doings (a : List zV) (S : zS) (K : zR2 → zS → Prop) : Prop := match a with
  | [.inr (.inl c), .inl x, .inl y] => ∃ (D : zD) (i t : Nat), (c = 3 ∧ dOK D ∧ cOK S D ∧ x = (i : Int) ∧ y = (t : Int) ∧ i < dL D ∧ t < 24) ∧ K (.inl (some (.inl (spr (dM D (24 * i + t)) : Int)))) S
  | _ => False
theorem R_X6_doings (l : Launch) (a : List zV) (S : zS) (Q : zR2 → zS → Prop) (h : wp_X6_doings a S Q) : zRs l 0 0 0 yX6_doings (.code yX6_doings cX6_doings 4 (some .int)) a S Q := by
  unfold wp_X6_doings at h
  split at h
  · obtain ⟨D, i, t, ⟨rfl, hD, hC, rfl, rfl, hi, ht⟩, h⟩ := h
    have h6 := hD.lodgers
    refine zRs_of 6 (by decide) rfl rfl ?_; refine zwq_ok (Z_X6_doings l) rfl [] (fun _ _ _ _ _ _ h => h) 400 (Z_X6_doings l) ?_
    refine ⟨by omega, by omega, 24 * i + t, ⟨by omega, by omega⟩, fun c => ?_, fun c => ?_⟩
    · rcases hC.told (24 * i + t) (by omega) with ⟨-, e⟩ | e
      · rw [e] at h
        exact h
      · rw [e] at c
        have : spr (dM D (24 * i + t)) = 0 := by omega
        have hm := hD.may (24 * i + t) (by omega)
        unfold spr at this
        omega
    · rcases hC.told (24 * i + t) (by omega) with ⟨e, -⟩ | e
      · exact absurd e c
      · rw [← e] at h
        exact h
  · exact h.elim
def B_X0_doing : List (Nat × zC) := []
def O_X0_doing : zO := fun j a S K => match j with
  | _ => False
theorem E_X0_doing (l : Launch) : ∀ q ∈ B_X0_doing, zcok l O_X0_doing F_X0_doing q.1 q.2 := fun _ h => by cases h
def U_X0_doing : List (Nat × zE) := [(0, Sum.inl (4, 0, 0, 0, 1, [])), (1, Sum.inl (18, 0, 4, 0, 4, [])), (4, Sum.inl (2, 1, 0, 0, 5, [])), (5, Sum.inl (0, 0, 0, 24, 7, [])), (7, Sum.inl (9, 2, 0, 0, 8, [])), (8, Sum.inl (2, 2, 0, 0, 9, [])), (9, Sum.inl (9, 0, 0, 0, 10, [])), (10, Sum.inl (20, 0, 0, 0, 11, [])), (11, Sum.inl (27, 0, 0, 0, 12, []))]
theorem Z_X0_doing (l : Launch) : ∀ q ∈ U_X0_doing, zTok l O_X0_doing F_X0_doing q := zU_ok rfl rfl rfl K_X0_doing (E_X0_doing l)
def B_X0_shoeKinds : List (Nat × zC) := []
def O_X0_shoeKinds : zO := fun j a S K => match j with
  | _ => False
theorem E_X0_shoeKinds (l : Launch) : ∀ q ∈ B_X0_shoeKinds, zcok l O_X0_shoeKinds F_X0_shoeKinds q.1 q.2 := fun _ h => by cases h
def U_X0_shoeKinds : List (Nat × zE) := [(0, Sum.inl (4, 0, 0, 0, 1, [])), (1, Sum.inl (18, 0, 3, 0, 4, [])), (4, Sum.inl (2, 1, 0, 0, 5, [])), (5, Sum.inl (0, 0, 0, 2, 6, [])), (6, Sum.inl (9, 2, 0, 0, 7, [])), (7, Sum.inl (20, 0, 0, 0, 8, [])), (8, Sum.inl (17, 2, 11, 0, 15, [])), (11, Sum.inl (0, 0, 0, 1, 12, [])), (12, Sum.inl (15, 0, 0, 0, 16, [])), (15, Sum.inl (0, 0, 0, 0, 16, [])), (16, Sum.inl (5, 2, 0, 0, 17, [])), (17, Sum.inl (4, 0, 0, 0, 18, [])), (18, Sum.inl (18, 0, 3, 0, 21, [])), (21, Sum.inl (2, 1, 0, 0, 22, [])), (22, Sum.inl (0, 0, 0, 2, 23, [])), (23, Sum.inl (9, 2, 0, 0, 24, [])), (24, Sum.inl (0, 0, 0, 1, 25, [])), (25, Sum.inl (9, 0, 0, 0, 26, [])), (26, Sum.inl (20, 0, 0, 0, 27, [])), (27, Sum.inl (17, 2, 30, 0, 34, [])), (30, Sum.inl (0, 0, 0, 2, 31, [])), (31, Sum.inl (15, 0, 0, 0, 35, [])), (34, Sum.inl (0, 0, 0, 0, 35, [])), (35, Sum.inl (5, 3, 0, 0, 36, [])), (36, Sum.inl (2, 2, 0, 0, 37, [])), (37, Sum.inl (2, 3, 0, 0, 38, [])), (38, Sum.inl (9, 4, 0, 0, 39, [])), (39, Sum.inl (27, 0, 0, 0, 40, []))]
theorem Z_X0_shoeKinds (l : Launch) : ∀ q ∈ U_X0_shoeKinds, zTok l O_X0_shoeKinds F_X0_shoeKinds q := zU_ok rfl rfl rfl K_X0_shoeKinds (E_X0_shoeKinds l)
def wp_X0_doing (a : List zV) (S : zS) (K : zR2 → zS → Prop) : Prop := match a with
  | [.inr (.inl c), .inl x, .inl y] => ∃ (D : zD) (i t : Nat), (c = 20 ∧ cOK S D ∧ x = (i : Int) ∧ y = (t : Int) ∧ i < 6 ∧ t < 24) ∧ K (.inl (some (.inl (tol (dD D (24 * i + t)) : Int)))) S
  | _ => False
theorem R_X0_doing (l : Launch) (a : List zV) (S : zS) (Q : zR2 → zS → Prop) (h : wp_X0_doing a S Q) : zRs l 0 0 0 yX0_doing (.code yX0_doing cX0_doing 3 (some .int)) a S Q := by
  unfold wp_X0_doing at h
  split at h
  · obtain ⟨D, i, t, ⟨rfl, hC, rfl, rfl, hi, ht⟩, h⟩ := h
    refine zRs_of 0 (by decide) rfl rfl ?_; refine zwq_ok (Z_X0_doing l) rfl [] (fun _ _ _ _ _ _ h => h) 400 (Z_X0_doing l) ?_
    rw [← hC.day (24 * i + t) (by omega)] at h
    exact ⟨by omega, by omega, 24 * i + t, ⟨by omega, by omega⟩, h⟩
  · exact h.elim
def wp_X0_shoeKinds (a : List zV) (S : zS) (K : zR2 → zS → Prop) : Prop := match a with
  | [.inr (.inl c), .inl x] => ∃ (D : zD) (i : Nat), (c = 20 ∧ dOK D ∧ cOK S D ∧ x = (i : Int) ∧ i < dL D) ∧ K (.inl (some (.inl (kinD D i : Int)))) S
  | _ => False
theorem R_X0_shoeKinds (l : Launch) (a : List zV) (S : zS) (Q : zR2 → zS → Prop) (h : wp_X0_shoeKinds a S Q) : zRs l 0 0 0 yX0_shoeKinds (.code yX0_shoeKinds cX0_shoeKinds 4 (some .int)) a S Q := by
  unfold wp_X0_shoeKinds at h
  split at h
  · obtain ⟨D, i, ⟨rfl, hD, hC, rfl, hi⟩, h⟩ := h
    have h6 := hD.lodgers
    have h1 := hC.shoes (2 * i) (by omega)
    have h2 := hC.shoes (2 * i + 1) (by omega)
    unfold kinD at h
    refine zRs_of 0 (by decide) rfl rfl ?_; refine zwq_ok (Z_X0_shoeKinds l) rfl [] (fun _ _ _ _ _ _ h => h) 400 (Z_X0_shoeKinds l) ?_
    refine ⟨by omega, 2 * i, ⟨by omega, by omega⟩, fun c => ⟨by omega, by omega, 2 * i + 1, ⟨by omega, by omega⟩, fun c2 => ?_, fun c2 => ?_⟩, fun c => ⟨by omega, by omega, 2 * i + 1, ⟨by omega, by omega⟩, fun c2 => ?_, fun c2 => ?_⟩⟩
    · rw [if_pos (by omega), if_pos (by omega)] at h; exact h
    · rw [if_pos (by omega), if_neg (by omega)] at h; exact h
    · rw [if_neg (by omega), if_pos (by omega)] at h; exact h
    · rw [if_neg (by omega), if_neg (by omega)] at h; exact h
  · exact h.elim
def B_X3_signOf : List (Nat × zC) := [(5, (0, 0, 1, 0, 0, 0, 6)), (13, (0, 1, 1, 0, 0, 0, 0))]
def O_X3_signOf : zO := fun j a S K => match j with
  | 0 => wp_X6_lawFor a S K
  | 1 => wp_X0_shoeKinds a S K
  | _ => False
theorem E_X3_signOf (l : Launch) : ∀ q ∈ B_X3_signOf, zcok l O_X3_signOf F_X3_signOf q.1 q.2 := List.forall_mem_cons.mpr ⟨⟨19, yX6_lawFor, cX6_lawFor, 2, some .int, by decide +kernel, C_3_19, W_X6_lawFor, I_X6_lawFor, S_X6_lawFor, rfl, rfl, R_X6_lawFor l⟩, List.forall_mem_cons.mpr ⟨⟨25, yX0_shoeKinds, cX0_shoeKinds, 4, some .int, by decide +kernel, C_3_25, W_X0_shoeKinds, I_X0_shoeKinds, S_X0_shoeKinds, rfl, rfl, R_X0_shoeKinds l⟩, fun _ h => by cases h⟩⟩
def U_X3_signOf : List (Nat × zE) := [(0, Sum.inl (4, 0, 0, 0, 1, [])), (1, Sum.inl (18, 3, 0, 0, 4, [])), (4, Sum.inl (2, 2, 0, 0, 5, [])), (5, Sum.inr (0, 0, 1, 0, 0, 0, 6)), (8, Sum.inl (4, 0, 0, 0, 9, [])), (9, Sum.inl (18, 3, 1, 0, 12, [])), (12, Sum.inl (2, 1, 0, 0, 13, [])), (13, Sum.inr (0, 1, 1, 0, 0, 0, 0)), (16, Sum.inl (9, 3, 0, 0, 17, [])), (17, Sum.inl (27, 0, 0, 0, 18, []))]
theorem Z_X3_signOf (l : Launch) : ∀ q ∈ U_X3_signOf, zTok l O_X3_signOf F_X3_signOf q := zU_ok rfl rfl rfl K_X3_signOf (E_X3_signOf l)
theorem sig_ok {D : zD} (hD : dOK D) (i k : Nat) : zand (lawD D k : Int) (kinD D i : Int) = (sigD D i k : Int) := zand_n (by have := lawD_lt hD k; omega)
def wp_X3_signOf (a : List zV) (S : zS) (K : zR2 → zS → Prop) : Prop := match a with
  | [.inr (.inl c), .inl x, .inl y] => ∃ (D : zD) (i k : Nat), (c = 36 ∧ dOK D ∧ cOK S D ∧ x = (i : Int) ∧ y = (k : Int) ∧ i < dL D) ∧ K (.inl (some (.inl (sigD D i k : Int)))) S
  | _ => False
theorem R_X3_signOf (l : Launch) (a : List zV) (S : zS) (Q : zR2 → zS → Prop) (h : wp_X3_signOf a S Q) : zRs l 1 0 0 yX3_signOf (.code yX3_signOf cX3_signOf 3 (some .int)) a S Q := by
  unfold wp_X3_signOf at h
  split at h
  · obtain ⟨D, i, k, ⟨rfl, hD, hC, rfl, rfl, hi⟩, h⟩ := h
    rw [← sig_ok hD] at h
    refine zRs_of 3 (by decide) rfl rfl ?_; refine zwq_ok (Z_X3_signOf l) rfl [] (fun _ _ _ _ _ _ h => h) 400 (Z_X3_signOf l) ?_
    exact ⟨D, k, ⟨rfl, hC, rfl⟩, D, i, ⟨rfl, hD, hC, rfl, hi⟩, h⟩
  · exact h.elim
def B_X3_signAt : List (Nat × zC) := [(27, (0, 0, 2, 0, 0, 0, 0)), (30, (0, 1, 2, 1, 0, 0, 3))]
def O_X3_signAt : zO := fun j a S K => match j with
  | 0 => wp_X0_doing a S K
  | 1 => wp_X3_signOf a S K
  | _ => False
theorem E_X3_signAt (l : Launch) : ∀ q ∈ B_X3_signAt, zcok l O_X3_signAt F_X3_signAt q.1 q.2 := List.forall_mem_cons.mpr ⟨⟨34, yX0_doing, cX0_doing, 3, some .int, by decide +kernel, C_3_34, W_X0_doing, I_X0_doing, S_X0_doing, rfl, rfl, R_X0_doing l⟩, List.forall_mem_cons.mpr ⟨⟨38, yX3_signOf, cX3_signOf, 3, some .int, by decide +kernel, C_3_38, W_X3_signOf, I_X3_signOf, S_X3_signOf, rfl, rfl, R_X3_signOf l⟩, fun _ h => by cases h⟩⟩
def U_X3_signAt : List (Nat × zE) := [(0, Sum.inl (4, 0, 0, 0, 1, [])), (1, Sum.inl (18, 3, 0, 0, 4, [])), (4, Sum.inl (18, 6, 1, 0, 7, [])), (7, Sum.inl (2, 1, 0, 0, 8, [])), (8, Sum.inl (20, 0, 0, 0, 9, [])), (9, Sum.inl (5, 3, 0, 0, 10, [])), (10, Sum.inl (2, 3, 0, 0, 11, [])), (11, Sum.inl (0, 0, 0, (-1), 12, [])), (12, Sum.inl (16, 0, 15, 0, 19, [])), (15, Sum.inl (0, 0, 0, 3, 16, [])), (16, Sum.inl (15, 0, 0, 0, 33, [])), (19, Sum.inl (4, 0, 0, 0, 20, [])), (20, Sum.inl (2, 3, 0, 0, 21, [])), (21, Sum.inl (4, 0, 0, 0, 22, [])), (22, Sum.inl (18, 3, 1, 0, 25, [])), (25, Sum.inl (2, 3, 0, 0, 26, [])), (26, Sum.inl (2, 2, 0, 0, 27, [])), (27, Sum.inr (0, 0, 2, 0, 0, 0, 0)), (30, Sum.inr (0, 1, 2, 1, 0, 0, 3)), (33, Sum.inl (27, 0, 0, 0, 34, []))]
theorem Z_X3_signAt (l : Launch) : ∀ q ∈ U_X3_signAt, zTok l O_X3_signAt F_X3_signAt q := zU_ok rfl rfl rfl K_X3_signAt (E_X3_signAt l)
theorem sig_tol (D : zD) (i k : Nat) : sigD D i (tol k) = sigD D i k := by unfold sigD; rw [lawD_tol]
def wp_X3_signAt (a : List zV) (S : zS) (K : zR2 → zS → Prop) : Prop := match a with
  | [.inr (.inl c), .inl x, .inl y] => ∃ (D : zD) (r t : Nat), (c = 36 ∧ dOK D ∧ cOK S D ∧ x = (r : Int) ∧ y = (t : Int) ∧ r < dR D ∧ t < 24) ∧ K (.inl (some (.inl (sgaD D r t : Int)))) S
  | _ => False
theorem R_X3_signAt (l : Launch) (a : List zV) (S : zS) (Q : zR2 → zS → Prop) (h : wp_X3_signAt a S Q) : zRs l 2 0 0 yX3_signAt (.code yX3_signAt cX3_signAt 4 (some .int)) a S Q := by
  unfold wp_X3_signAt at h
  split at h
  · obtain ⟨D, r, t, ⟨rfl, hD, hC, rfl, rfl, hr, ht⟩, h⟩ := h
    have h8 := hD.rooms
    have h6 := hD.lodgers
    have hw := hC.tenant r hr
    have hw2 := hD.whose r hr
    unfold sgaD at h
    refine zRs_of 3 (by decide) rfl rfl ?_; refine zwq_ok (Z_X3_signAt l) rfl [] (fun _ _ _ _ _ _ h => h) 400 (Z_X3_signAt l) ?_
    refine ⟨r, ⟨rfl, by omega⟩, fun c => ?_, fun c => ?_⟩
    · rw [if_pos (by omega)] at h; exact h
    · rw [if_neg (by omega)] at h
      refine ⟨D, dW D r - 1, t, ⟨rfl, hC, by omega, rfl, by omega, ht⟩, D, dW D r - 1, tol (dD D (24 * (dW D r - 1) + t)), ⟨rfl, hD, hC, by omega, rfl, by omega⟩, ?_⟩
      rw [sig_tol]
      exact h
  · exact h.elim
