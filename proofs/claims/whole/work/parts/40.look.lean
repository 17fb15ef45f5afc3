/-! look, see, forget: D is changed -/
def zStop (P : Prop) : Prop := P ∨ False
theorem zStop_ok {P : Prop} (h : zStop P) : P := h.elim id False.elim
theorem zStop_i {P : Prop} (h : P) : zStop P := Or.inl h
theorem lnd_eq {D D' : zD} (h : ∀ k, dT D' k = dT D k) (l s k : Nat) : lnd D' l s k = lnd D l s k := by
  induction k with
  | zero => rfl
  | succ k ih =>
    show lnd D' l s k + lnd1 D' l s k = lnd D l s k + lnd1 D l s k
    unfold lnd1
    rw [ih, h, h, h]
theorem zuD_e {D : zD} {c k v : Nat} : zu D c k v c k = v := by
  show (bif c == c && k == k then v else D c k) = v
  rw [beq_self_eq_true, beq_self_eq_true]; rfl
theorem zuD_n {D : zD} {c k v x j : Nat} (h : x ≠ c ∨ j ≠ k) : zu D c k v x j = D x j := by
  show (bif x == c && j == k then v else D x j) = D x j
  rcases h with h | h
  · rw [show (x == c) = false by simpa using h]; rfl
  · rw [show (j == k) = false by simpa using h, Bool.and_false]; rfl
theorem zuU {S : zS} {D : zD} {c c' k j : Nat} {v : Int} {w : Nat} (h : j ≠ k → S c j = (D c' j : Int)) (hv : v = (w : Int)) : zu S c k v c j = ((zu D c' k w c' j : Nat) : Int) := by
  by_cases e : j = k
  · subst e; rw [zuE, zuD_e]; exact hv
  · rw [zuN (Or.inr e), zuD_n (Or.inr e)]; exact h e
/-- D is changed in rows 8 to 11 alone -/
theorem dOK.upd {D D' : zD} (h : dOK D) (h1 : ∀ c, (c < 8 ∨ 11 < c) → D' c = D c) (hd : ∀ k, k < 144 → dD D' k < 12) (hdm : ∀ k, k < 24 * dL D → bt1 (dM D k) (dD D' k) = 1) (hl : ∀ k, k < 24 * dF D → dK D' k < dR D) (hq : dQ D' ≤ 24) (hp : dP D' < 2 ^ dR D) (hs : ∀ r, r < 8 → dS D' r < 4) : dOK D' := by
  have e : ∀ l s k, lnd D' l s k = lnd D l s k := fun l s k => lnd_eq (fun j => congrFun (h1 13 (by omega)) j) l s k
  have e0 : dR D' = dR D := congrFun (h1 0 (by omega)) 0
  have e1 : dL D' = dL D := congrFun (h1 0 (by omega)) 1
  have e2 : dF D' = dF D := congrFun (h1 0 (by omega)) 2
  have e3 : dN D' = dN D := congrFun (h1 12 (by omega)) 0
  have f1 : dG D' = dG D := h1 1 (by omega)
  have f2 : dW D' = dW D := h1 2 (by omega)
  have f3 : dH D' = dH D := h1 3 (by omega)
  have f4 : dE D' = dE D := h1 4 (by omega)
  have f6 : dA D' = dA D := h1 6 (by omega)
  have f7 : dM D' = dM D := h1 7 (by omega)
  have f13 : dT D' = dT D := h1 13 (by omega)
  have f14 : dU D' = dU D := h1 14 (by omega)
  unfold dOK
  rw [e0, e1, e2, e3, f1, f2, f3, f4, f6, f7, f13, f14]
  exact ⟨h.rooms, h.lodgers, h.finders, h.goods, h.whose, h.livesIn, h.home, h.whoseHome, h.feet, h.law, h.may, h.mayRoom, hd, hdm, hl, hq, hp, hs, h.lent, h.lending, (fun l s k hl hs hk => by rw [e]; exact dOK.past h l s k hl hs hk), (fun l s hl hs => by rw [e]; exact dOK.shoes h l s hl hs)⟩
def B_X0_hasSeen : List (Nat × zC) := []
def O_X0_hasSeen : zO := fun j a S K => match j with
  | _ => False
theorem E_X0_hasSeen (l : Launch) : ∀ q ∈ B_X0_hasSeen, zcok l O_X0_hasSeen F_X0_hasSeen q.1 q.2 := fun _ h => by cases h
def U_X0_hasSeen : List (Nat × zE) := [(0, Sum.inl (2, 2, 0, 0, 1, [])), (1, Sum.inl (4, 0, 0, 0, 2, [])), (2, Sum.inl (18, 0, 8, 0, 5, [])), (5, Sum.inl (16, 0, 8, 0, 24, [])), (8, Sum.inl (4, 0, 0, 0, 9, [])), (9, Sum.inl (18, 0, 9, 0, 12, [])), (12, Sum.inl (2, 1, 0, 0, 13, [])), (13, Sum.inl (9, 7, 0, 0, 14, [])), (14, Sum.inl (0, 0, 0, 1, 15, [])), (15, Sum.inl (9, 3, 0, 0, 16, [])), (16, Sum.inl (0, 0, 0, 1, 17, [])), (17, Sum.inl (16, 0, 20, 0, 24, [])), (20, Sum.inl (0, 0, 0, 1, 21, [])), (21, Sum.inl (15, 0, 0, 0, 25, [])), (24, Sum.inl (0, 0, 0, 0, 25, [])), (25, Sum.inl (27, 0, 0, 0, 26, []))]
theorem Z_X0_hasSeen (l : Launch) : ∀ q ∈ U_X0_hasSeen, zTok l O_X0_hasSeen F_X0_hasSeen q := zU_ok rfl rfl rfl K_X0_hasSeen (E_X0_hasSeen l)
def wp_X0_hasSeen (a : List zV) (S : zS) (K : zR2 → zS → Prop) : Prop := zif (Nat.ble (zsum a) 3) (zwq 0 F_X0_hasSeen U_X0_hasSeen O_X0_hasSeen [] (fun _ _ _ _ _ _ => False) K 17 U_X0_hasSeen 0 0 S 0 (zar 0 a) [])
theorem R_X0_hasSeen (l : Launch) (a : List zV) (S : zS) (Q : zR2 → zS → Prop) (h : wp_X0_hasSeen a S Q) : zRs l 0 0 0 yX0_hasSeen (.code yX0_hasSeen cX0_hasSeen 3 (some .boolean)) a S Q := by
  obtain ⟨h1, h⟩ := zif_ok h
  exact zRs_of 0 (by decide) rfl h1 (zwq_ok (Z_X0_hasSeen l) rfl [] (fun _ _ _ _ _ _ h => h.elim) 17 (Z_X0_hasSeen l) h)
def B_X0_note : List (Nat × zC) := []
def O_X0_note : zO := fun j a S K => match j with
  | _ => False
theorem E_X0_note (l : Launch) : ∀ q ∈ B_X0_note, zcok l O_X0_note F_X0_note q.1 q.2 := fun _ h => by cases h
def U_X0_note : List (Nat × zE) := [(0, Sum.inl (2, 2, 0, 0, 1, [])), (1, Sum.inl (4, 0, 0, 0, 2, [])), (2, Sum.inl (18, 0, 8, 0, 5, [])), (5, Sum.inl (16, 0, 18, 0, 8, [])), (8, Sum.inl (4, 0, 0, 0, 9, [])), (9, Sum.inl (0, 0, 0, 0, 10, [])), (10, Sum.inl (19, 0, 9, 0, 13, [])), (13, Sum.inl (4, 0, 0, 0, 14, [])), (14, Sum.inl (2, 2, 0, 0, 15, [])), (15, Sum.inl (19, 0, 8, 0, 18, [])), (18, Sum.inl (4, 0, 0, 0, 19, [])), (19, Sum.inl (12, 0, 0, 0, 20, [])), (20, Sum.inl (18, 0, 9, 0, 23, [])), (23, Sum.inl (0, 0, 0, 1, 24, [])), (24, Sum.inl (2, 1, 0, 0, 25, [])), (25, Sum.inl (9, 6, 0, 0, 26, [])), (26, Sum.inl (9, 4, 0, 0, 27, [])), (27, Sum.inl (19, 0, 9, 0, 30, [])), (30, Sum.inl (4, 0, 0, 0, 31, [])), (31, Sum.inl (18, 0, 6, 0, 34, [])), (34, Sum.inl (2, 1, 0, 0, 35, [])), (35, Sum.inl (2, 3, 0, 0, 36, [])), (36, Sum.inl (21, 0, 0, 0, 37, [])), (37, Sum.inl (29, 0, 0, 0, 38, []))]
theorem Z_X0_note (l : Launch) : ∀ q ∈ U_X0_note, zTok l O_X0_note F_X0_note q := zU_ok rfl rfl rfl K_X0_note (E_X0_note l)
def wp_X0_note (a : List zV) (S : zS) (K : zR2 → zS → Prop) : Prop := zif (Nat.ble (zsum a) 4) (zwq 0 F_X0_note U_X0_note O_X0_note [] (fun _ _ _ _ _ _ => False) K 25 U_X0_note 0 0 S 0 (zar 0 a) [])
theorem R_X0_note (l : Launch) (a : List zV) (S : zS) (Q : zR2 → zS → Prop) (h : wp_X0_note a S Q) : zRs l 0 0 0 yX0_note (.code yX0_note cX0_note 4 (none)) a S Q := by
  obtain ⟨h1, h⟩ := zif_ok h
  exact zRs_of 0 (by decide) rfl h1 (zwq_ok (Z_X0_note l) rfl [] (fun _ _ _ _ _ _ h => h.elim) 25 (Z_X0_note l) h)
def B_X0_seeNothing : List (Nat × zC) := []
def O_X0_seeNothing : zO := fun j a S K => match j with
  | _ => False
theorem E_X0_seeNothing (l : Launch) : ∀ q ∈ B_X0_seeNothing, zcok l O_X0_seeNothing F_X0_seeNothing q.1 q.2 := fun _ h => by cases h
def U_X0_seeNothing : List (Nat × zE) := [(0, Sum.inl (4, 0, 0, 0, 1, [])), (1, Sum.inl (0, 0, 0, (-1), 2, [])), (2, Sum.inl (19, 0, 8, 0, 5, [])), (5, Sum.inl (4, 0, 0, 0, 6, [])), (6, Sum.inl (0, 0, 0, 0, 7, [])), (7, Sum.inl (19, 0, 9, 0, 10, [])), (10, Sum.inl (29, 0, 0, 0, 11, []))]
theorem Z_X0_seeNothing (l : Launch) : ∀ q ∈ U_X0_seeNothing, zTok l O_X0_seeNothing F_X0_seeNothing q := zU_ok rfl rfl rfl K_X0_seeNothing (E_X0_seeNothing l)
def wp_X0_seeNothing (a : List zV) (S : zS) (K : zR2 → zS → Prop) : Prop := zif (Nat.ble (zsum a) 1) (zwq 0 F_X0_seeNothing U_X0_seeNothing O_X0_seeNothing [] (fun _ _ _ _ _ _ => False) K 8 U_X0_seeNothing 0 0 S 0 (zar 0 a) [])
theorem R_X0_seeNothing (l : Launch) (a : List zV) (S : zS) (Q : zR2 → zS → Prop) (h : wp_X0_seeNothing a S Q) : zRs l 0 0 0 yX0_seeNothing (.code yX0_seeNothing cX0_seeNothing 1 (none)) a S Q := by
  obtain ⟨h1, h⟩ := zif_ok h
  exact zRs_of 0 (by decide) rfl h1 (zwq_ok (Z_X0_seeNothing l) rfl [] (fun _ _ _ _ _ _ h => h.elim) 8 (Z_X0_seeNothing l) h)
def B_X12_refuses : List (Nat × zC) := []
def O_X12_refuses : zO := fun j a S K => match j with
  | _ => False
theorem E_X12_refuses (l : Launch) : ∀ q ∈ B_X12_refuses, zcok l O_X12_refuses F_X12_refuses q.1 q.2 := fun _ h => by cases h
def U_X12_refuses : List (Nat × zE) := [(0, Sum.inl (4, 0, 0, 0, 1, [])), (1, Sum.inl (18, 12, 16, 0, 4, [])), (4, Sum.inl (2, 1, 0, 0, 5, [])), (5, Sum.inl (13, 0, 0, 0, 6, [])), (6, Sum.inl (20, 0, 0, 0, 7, [])), (7, Sum.inl (0, 0, 0, 1, 8, [])), (8, Sum.inl (9, 0, 0, 0, 9, [])), (9, Sum.inl (21, 0, 0, 0, 10, [])), (10, Sum.inl (0, 0, 0, (-1), 11, [])), (11, Sum.inl (27, 0, 0, 0, 12, []))]
theorem Z_X12_refuses (l : Launch) : ∀ q ∈ U_X12_refuses, zTok l O_X12_refuses F_X12_refuses q := zU_ok rfl rfl rfl K_X12_refuses (E_X12_refuses l)
def wp_X12_refuses (a : List zV) (S : zS) (K : zR2 → zS → Prop) : Prop := zif (Nat.ble (zsum a) 2) (zwq 0 F_X12_refuses U_X12_refuses O_X12_refuses [] (fun _ _ _ _ _ _ => False) K 11 U_X12_refuses 0 0 S 0 (zar 0 a) [])
theorem R_X12_refuses (l : Launch) (a : List zV) (S : zS) (Q : zR2 → zS → Prop) (h : wp_X12_refuses a S Q) : zRs l 0 0 0 yX12_refuses (.code yX12_refuses cX12_refuses 2 (some .int)) a S Q := by
  obtain ⟨h1, h⟩ := zif_ok h
  exact zRs_of 12 (by decide) rfl h1 (zwq_ok (Z_X12_refuses l) rfl [] (fun _ _ _ _ _ _ h => h.elim) 11 (Z_X12_refuses l) h)
def B_X11_look : List (Nat × zC) := [(8, (4, 0, 2, 6, 0, 0, 0)), (12, (4, 1, 1, 6, 0, 0, 0)), (17, (2, 2, 1, 6, 0, 0, 11))]
def O_X11_look : zO := fun j a S K => match j with
  | 0 => wp_X11_needOneOf a S K
  | 1 => wp_X11_needHour a S K
  | 2 => wp_X11_needRoom a S K
  | _ => False
theorem E_X11_look (l : Launch) : ∀ q ∈ B_X11_look, zcok l O_X11_look F_X11_look q.1 q.2 := List.forall_mem_cons.mpr ⟨⟨182, yX11_needOneOf, cX11_needOneOf, 2, none, by decide +kernel, C_11_182, W_X11_needOneOf, I_X11_needOneOf, rfl, R_X11_needOneOf l⟩, List.forall_mem_cons.mpr ⟨⟨202, yX11_needHour, cX11_needHour, 1, none, by decide +kernel, C_11_202, W_X11_needHour, I_X11_needHour, rfl, R_X11_needHour l⟩, List.forall_mem_cons.mpr ⟨⟨179, yX11_needRoom, cX11_needRoom, 2, none, by decide +kernel, C_11_179, W_X11_needRoom, I_X11_needRoom, S_X11_needRoom, rfl, rfl, R_X11_needRoom l⟩, fun _ h => by cases h⟩⟩⟩
def U_X11_look : List (Nat × zE) := [(0, Sum.inl (2, 1, 0, 0, 1, [])), (1, Sum.inl (4, 0, 0, 0, 2, [])), (2, Sum.inl (18, 11, 1, 0, 5, [])), (5, Sum.inl (18, 6, 9, 0, 8, [])), (8, Sum.inr (4, 0, 2, 6, 0, 0, 0)), (11, Sum.inl (2, 2, 0, 0, 12, [])), (12, Sum.inr (4, 1, 1, 6, 0, 0, 0)), (15, Sum.inl (4, 0, 0, 0, 16, [])), (16, Sum.inl (2, 3, 0, 0, 17, [])), (17, Sum.inr (2, 2, 1, 6, 0, 0, 11)), (20, Sum.inl (2, 1, 0, 0, 21, [])), (21, Sum.inl (0, 0, 0, 24, 23, [])), (23, Sum.inl (9, 2, 0, 0, 24, [])), (24, Sum.inl (2, 2, 0, 0, 25, [])), (25, Sum.inl (9, 0, 0, 0, 26, [])), (26, Sum.inl (5, 4, 0, 0, 28, [])), (28, Sum.inl (4, 0, 0, 0, 29, [])), (29, Sum.inl (18, 11, 4, 0, 32, [])), (32, Sum.inl (18, 0, 5, 0, 35, [])), (35, Sum.inl (2, 4, 0, 0, 37, [])), (37, Sum.inl (20, 0, 0, 0, 38, [])), (38, Sum.inl (5, 5, 0, 0, 40, [])), (40, Sum.inl (4, 0, 0, 0, 41, [])), (41, Sum.inl (18, 11, 4, 0, 44, [])), (44, Sum.inl (18, 0, 5, 0, 47, [])), (47, Sum.inl (2, 4, 0, 0, 49, [])), (49, Sum.inl (2, 3, 0, 0, 50, [])), (50, Sum.inl (21, 0, 0, 0, 51, [])), (51, Sum.inl (2, 5, 0, 0, 53, [])), (53, Sum.inl (27, 0, 0, 0, 54, []))]
theorem Z_X11_look (l : Launch) : ∀ q ∈ U_X11_look, zTok l O_X11_look F_X11_look q := zU_ok rfl rfl rfl K_X11_look (E_X11_look l)
def wp_X11_look (a : List zV) (S : zS) (K : zR2 → zS → Prop) : Prop := zif (Nat.ble (zsum a) 6) (zwq 7 F_X11_look U_X11_look O_X11_look [] (fun _ _ _ _ _ _ => False) K 31 U_X11_look 1 6 S 0 (zar 0 a) [])
theorem R_X11_look (l : Launch) (a : List zV) (S : zS) (Q : zR2 → zS → Prop) (h : wp_X11_look a S Q) : zRs l 7 1 6 yX11_look (.code yX11_look cX11_look 6 (some .int)) a S Q := by
  obtain ⟨h1, h⟩ := zif_ok h
  exact zRs_of 11 (by decide) rfl h1 (zwq_ok (Z_X11_look l) rfl [] (fun _ _ _ _ _ _ h => h.elim) 31 (Z_X11_look l) h)
def B_X12_look : List (Nat × zC) := [(7, (0, 0, 1, 1, 0, 0, 12)), (15, (0, 1, 1, 1, 0, 0, 12)), (23, (0, 2, 1, 1, 0, 0, 12))]
def O_X12_look : zO := fun j a S K => match j with
  | 0 => wp_X12_isFinder a S K
  | 1 => wp_X12_isHour a S K
  | 2 => wp_X12_isRoom a S K
  | _ => False
theorem E_X12_look (l : Launch) : ∀ q ∈ B_X12_look, zcok l O_X12_look F_X12_look q.1 q.2 := List.forall_mem_cons.mpr ⟨⟨324, yX12_isFinder, cX12_isFinder, 2, some .boolean, by decide +kernel, C_12_324, W_X12_isFinder, I_X12_isFinder, S_X12_isFinder, rfl, rfl, R_X12_isFinder l⟩, List.forall_mem_cons.mpr ⟨⟨305, yX12_isHour, cX12_isHour, 2, some .boolean, by decide +kernel, C_12_305, W_X12_isHour, I_X12_isHour, S_X12_isHour, rfl, rfl, R_X12_isHour l⟩, List.forall_mem_cons.mpr ⟨⟨287, yX12_isRoom, cX12_isRoom, 2, some .boolean, by decide +kernel, C_12_287, W_X12_isRoom, I_X12_isRoom, S_X12_isRoom, rfl, rfl, R_X12_isRoom l⟩, fun _ h => by cases h⟩⟩⟩
def U_X12_look : List (Nat × zE) := [(0, Sum.inl (4, 0, 0, 0, 1, [])), (1, Sum.inl (0, 0, 0, 0, 2, [])), (2, Sum.inl (19, 12, 0, 0, 5, [])), (5, Sum.inl (4, 0, 0, 0, 6, [])), (6, Sum.inl (2, 1, 0, 0, 7, [])), (7, Sum.inr (0, 0, 1, 1, 0, 0, 12)), (10, Sum.inl (17, 0, 29, 0, 13, [])), (13, Sum.inl (4, 0, 0, 0, 14, [])), (14, Sum.inl (2, 2, 0, 0, 15, [])), (15, Sum.inr (0, 1, 1, 1, 0, 0, 12)), (18, Sum.inl (17, 0, 29, 0, 21, [])), (21, Sum.inl (4, 0, 0, 0, 22, [])), (22, Sum.inl (2, 3, 0, 0, 23, [])), (23, Sum.inr (0, 2, 1, 1, 0, 0, 12)), (26, Sum.inl (17, 0, 29, 0, 31, [])), (29, Sum.inl (0, 0, 0, 0, 30, [])), (30, Sum.inl (27, 0, 0, 0, 31, [])), (31, Sum.inl (4, 0, 0, 0, 32, [])), (32, Sum.inl (18, 12, 39, 0, 35, [])), (35, Sum.inl (0, 0, 0, 24, 37, [])), (37, Sum.inl (2, 1, 0, 0, 38, [])), (38, Sum.inl (9, 2, 0, 0, 39, [])), (39, Sum.inl (2, 2, 0, 0, 40, [])), (40, Sum.inl (9, 0, 0, 0, 41, [])), (41, Sum.inl (20, 0, 0, 0, 42, [])), (42, Sum.inl (5, 4, 0, 0, 44, [])), (44, Sum.inl (4, 0, 0, 0, 45, [])), (45, Sum.inl (18, 12, 39, 0, 48, [])), (48, Sum.inl (0, 0, 0, 24, 50, [])), (50, Sum.inl (2, 1, 0, 0, 51, [])), (51, Sum.inl (9, 2, 0, 0, 52, [])), (52, Sum.inl (2, 2, 0, 0, 53, [])), (53, Sum.inl (9, 0, 0, 0, 54, [])), (54, Sum.inl (2, 3, 0, 0, 55, [])), (55, Sum.inl (21, 0, 0, 0, 56, [])), (56, Sum.inl (2, 4, 0, 0, 58, [])), (58, Sum.inl (27, 0, 0, 0, 59, []))]
theorem Z_X12_look (l : Launch) : ∀ q ∈ U_X12_look, zTok l O_X12_look F_X12_look q := zU_ok rfl rfl rfl K_X12_look (E_X12_look l)
def wp_X12_look (a : List zV) (S : zS) (K : zR2 → zS → Prop) : Prop := zif (Nat.ble (zsum a) 5) (zwq 2 F_X12_look U_X12_look O_X12_look [] (fun _ _ _ _ _ _ => False) K 38 U_X12_look 0 0 S 0 (zar 0 a) [])
theorem R_X12_look (l : Launch) (a : List zV) (S : zS) (Q : zR2 → zS → Prop) (h : wp_X12_look a S Q) : zRs l 2 0 0 yX12_look (.code yX12_look cX12_look 5 (some .int)) a S Q := by
  obtain ⟨h1, h⟩ := zif_ok h
  exact zRs_of 12 (by decide) rfl h1 (zwq_ok (Z_X12_look l) rfl [] (fun _ _ _ _ _ _ h => h.elim) 38 (Z_X12_look l) h)
def B_X11_see : List (Nat × zC) := [(2, (2, 0, 1, 6, 0, 0, 11)), (6, (4, 1, 1, 6, 0, 0, 0)), (24, (0, 2, 2, 0, 0, 0, 0)), (49, (0, 3, 3, 0, 0, 0, 0)), (59, (1, 4, 1, 0, 0, 0, 0))]
def O_X11_see : zO := fun j a S K => match j with
  | 0 => wp_X11_needRoom a S K
  | 1 => wp_X11_needHour a S K
  | 2 => wp_X0_hasSeen a S K
  | 3 => wp_X0_note a S K
  | 4 => wp_J6_bitCount_0f7a4 a S K
  | _ => False
theorem E_X11_see (l : Launch) : ∀ q ∈ B_X11_see, zcok l O_X11_see F_X11_see q.1 q.2 := List.forall_mem_cons.mpr ⟨⟨179, yX11_needRoom, cX11_needRoom, 2, none, by decide +kernel, C_11_179, W_X11_needRoom, I_X11_needRoom, S_X11_needRoom, rfl, rfl, R_X11_needRoom l⟩, List.forall_mem_cons.mpr ⟨⟨202, yX11_needHour, cX11_needHour, 1, none, by decide +kernel, C_11_202, W_X11_needHour, I_X11_needHour, rfl, R_X11_needHour l⟩, List.forall_mem_cons.mpr ⟨⟨254, yX0_hasSeen, cX0_hasSeen, 3, some .boolean, by decide +kernel, C_11_254, W_X0_hasSeen, I_X0_hasSeen, S_X0_hasSeen, rfl, rfl, R_X0_hasSeen l⟩, List.forall_mem_cons.mpr ⟨⟨257, yX0_note, cX0_note, 4, none, by decide +kernel, C_11_257, W_X0_note, I_X0_note, S_X0_note, rfl, rfl, R_X0_note l⟩, List.forall_mem_cons.mpr ⟨⟨208, yJ6_bitCount_0f7a4, cJ6_bitCount_0f7a4, 1, some .int, by decide +kernel, C_11_208, W_J6_bitCount_0f7a4, I_J6_bitCount_0f7a4, rfl, R_J6_bitCount_0f7a4 l⟩, fun _ h => by cases h⟩⟩⟩⟩⟩
def U_X11_see : List (Nat × zE) := [(0, Sum.inl (4, 0, 0, 0, 1, [])), (1, Sum.inl (2, 1, 0, 0, 2, [])), (2, Sum.inr (2, 0, 1, 6, 0, 0, 11)), (5, Sum.inl (2, 2, 0, 0, 6, [])), (6, Sum.inr (4, 1, 1, 6, 0, 0, 0)), (9, Sum.inl (2, 3, 0, 0, 10, [])), (10, Sum.inl (17, 1, 30, 0, 13, [])), (13, Sum.inl (2, 3, 0, 0, 14, [])), (14, Sum.inl (0, 0, 0, 3, 15, [])), (15, Sum.inl (16, 2, 30, 0, 18, [])), (18, Sum.inl (4, 0, 0, 0, 19, [])), (19, Sum.inl (18, 11, 4, 0, 22, [])), (22, Sum.inl (2, 1, 0, 0, 23, [])), (23, Sum.inl (2, 2, 0, 0, 24, [])), (24, Sum.inr (0, 2, 2, 0, 0, 0, 0)), (27, Sum.inl (17, 0, 42, 0, 30, [])), (30, Sum.inl (4, 0, 0, 0, 31, [])), (31, Sum.inl (18, 11, 13, 0, 34, [])), (34, Sum.inl (0, 0, 0, 2, 35, [])), (35, Sum.inl (13, 0, 0, 0, 36, [])), (36, Sum.inl (20, 0, 0, 0, 37, [])), (37, Sum.inl (0, 0, 0, 1, 38, [])), (38, Sum.inl (9, 0, 0, 0, 39, [])), (39, Sum.inl (21, 0, 0, 0, 40, [])), (40, Sum.inl (0, 0, 0, (-1), 41, [])), (41, Sum.inl (27, 0, 0, 0, 42, [])), (42, Sum.inl (4, 0, 0, 0, 43, [])), (43, Sum.inl (18, 11, 4, 0, 46, [])), (46, Sum.inl (2, 1, 0, 0, 47, [])), (47, Sum.inl (2, 2, 0, 0, 48, [])), (48, Sum.inl (2, 3, 0, 0, 49, [])), (49, Sum.inr (0, 3, 3, 0, 0, 0, 0)), (52, Sum.inl (4, 0, 0, 0, 53, [])), (53, Sum.inl (18, 11, 4, 0, 56, [])), (56, Sum.inl (18, 0, 9, 0, 59, [])), (59, Sum.inr (1, 4, 1, 0, 0, 0, 0)), (62, Sum.inl (27, 0, 0, 0, 63, []))]
theorem Z_X11_see (l : Launch) : ∀ q ∈ U_X11_see, zTok l O_X11_see F_X11_see q := zU_ok rfl rfl rfl K_X11_see (E_X11_see l)
def wp_X11_see (a : List zV) (S : zS) (K : zR2 → zS → Prop) : Prop := zif (Nat.ble (zsum a) 4) (zwq 7 F_X11_see U_X11_see O_X11_see [] (fun _ _ _ _ _ _ => False) K 38 U_X11_see 1 6 S 0 (zar 0 a) [])
theorem R_X11_see (l : Launch) (a : List zV) (S : zS) (Q : zR2 → zS → Prop) (h : wp_X11_see a S Q) : zRs l 7 1 6 yX11_see (.code yX11_see cX11_see 4 (some .int)) a S Q := by
  obtain ⟨h1, h⟩ := zif_ok h
  exact zRs_of 11 (by decide) rfl h1 (zwq_ok (Z_X11_see l) rfl [] (fun _ _ _ _ _ _ h => h.elim) 38 (Z_X11_see l) h)
def B_X12_see : List (Nat × zC) := [(7, (0, 0, 1, 1, 0, 0, 12)), (15, (0, 1, 1, 1, 0, 0, 12)), (41, (1, 2, 3, 0, 0, 0, 0)), (66, (0, 3, 1, 0, 0, 0, 12)), (108, (1, 4, 1, 0, 0, 0, 0))]
def O_X12_see : zO := fun j a S K => match j with
  | 0 => wp_X12_isRoom a S K
  | 1 => wp_X12_isHour a S K
  | 2 => wp_X12_within a S K
  | 3 => wp_X12_refuses a S K
  | 4 => wp_X12_bits a S K
  | _ => False
theorem E_X12_see (l : Launch) : ∀ q ∈ B_X12_see, zcok l O_X12_see F_X12_see q.1 q.2 := List.forall_mem_cons.mpr ⟨⟨287, yX12_isRoom, cX12_isRoom, 2, some .boolean, by decide +kernel, C_12_287, W_X12_isRoom, I_X12_isRoom, S_X12_isRoom, rfl, rfl, R_X12_isRoom l⟩, List.forall_mem_cons.mpr ⟨⟨305, yX12_isHour, cX12_isHour, 2, some .boolean, by decide +kernel, C_12_305, W_X12_isHour, I_X12_isHour, S_X12_isHour, rfl, rfl, R_X12_isHour l⟩, List.forall_mem_cons.mpr ⟨⟨283, yX12_within, cX12_within, 3, some .boolean, by decide +kernel, C_12_283, W_X12_within, I_X12_within, rfl, R_X12_within l⟩, List.forall_mem_cons.mpr ⟨⟨317, yX12_refuses, cX12_refuses, 2, some .int, by decide +kernel, C_12_317, W_X12_refuses, I_X12_refuses, S_X12_refuses, rfl, rfl, R_X12_refuses l⟩, List.forall_mem_cons.mpr ⟨⟨308, yX12_bits, cX12_bits, 3, some .int, by decide +kernel, C_12_308, W_X12_bits, I_X12_bits, rfl, R_X12_bits l⟩, fun _ h => by cases h⟩⟩⟩⟩⟩
def U_X12_see : List (Nat × zE) := [(0, Sum.inl (4, 0, 0, 0, 1, [])), (1, Sum.inl (0, 0, 0, 0, 2, [])), (2, Sum.inl (19, 12, 0, 0, 5, [])), (5, Sum.inl (4, 0, 0, 0, 6, [])), (6, Sum.inl (2, 1, 0, 0, 7, [])), (7, Sum.inr (0, 0, 1, 1, 0, 0, 12)), (10, Sum.inl (17, 0, 21, 0, 13, [])), (13, Sum.inl (4, 0, 0, 0, 14, [])), (14, Sum.inl (2, 2, 0, 0, 15, [])), (15, Sum.inr (0, 1, 1, 1, 0, 0, 12)), (18, Sum.inl (17, 0, 21, 0, 23, [])), (21, Sum.inl (0, 0, 0, 0, 22, [])), (22, Sum.inl (27, 0, 0, 0, 23, [])), (23, Sum.inl (2, 2, 0, 0, 24, [])), (24, Sum.inl (4, 0, 0, 0, 25, [])), (25, Sum.inl (18, 12, 40, 0, 28, [])), (28, Sum.inl (16, 0, 31, 0, 35, [])), (31, Sum.inl (0, 0, 0, 1, 32, [])), (32, Sum.inl (15, 0, 0, 0, 36, [])), (35, Sum.inl (0, 0, 0, 0, 36, [])), (36, Sum.inl (5, 4, 0, 0, 38, [])), (38, Sum.inl (2, 3, 0, 0, 39, [])), (39, Sum.inl (0, 0, 0, 0, 40, [])), (40, Sum.inl (0, 0, 0, 3, 41, [])), (41, Sum.inr (1, 2, 3, 0, 0, 0, 0)), (44, Sum.inl (17, 0, 64, 0, 47, [])), (47, Sum.inl (2, 4, 0, 0, 49, [])), (49, Sum.inl (17, 0, 70, 0, 52, [])), (52, Sum.inl (4, 0, 0, 0, 53, [])), (53, Sum.inl (18, 12, 41, 0, 56, [])), (56, Sum.inl (2, 1, 0, 0, 57, [])), (57, Sum.inl (9, 7, 0, 0, 58, [])), (58, Sum.inl (0, 0, 0, 1, 59, [])), (59, Sum.inl (9, 3, 0, 0, 60, [])), (60, Sum.inl (0, 0, 0, 1, 61, [])), (61, Sum.inl (16, 0, 64, 0, 70, [])), (64, Sum.inl (4, 0, 0, 0, 65, [])), (65, Sum.inl (0, 0, 0, 2, 66, [])), (66, Sum.inr (0, 3, 1, 0, 0, 0, 12)), (69, Sum.inl (27, 0, 0, 0, 70, [])), (70, Sum.inl (2, 4, 0, 0, 72, [])), (72, Sum.inl (17, 0, 75, 0, 80, [])), (75, Sum.inl (4, 0, 0, 0, 76, [])), (76, Sum.inl (0, 0, 0, 0, 77, [])), (77, Sum.inl (19, 12, 41, 0, 80, [])), (80, Sum.inl (4, 0, 0, 0, 81, [])), (81, Sum.inl (2, 2, 0, 0, 82, [])), (82, Sum.inl (19, 12, 40, 0, 85, [])), (85, Sum.inl (4, 0, 0, 0, 86, [])), (86, Sum.inl (12, 0, 0, 0, 87, [])), (87, Sum.inl (18, 12, 41, 0, 90, [])), (90, Sum.inl (0, 0, 0, 1, 91, [])), (91, Sum.inl (2, 1, 0, 0, 92, [])), (92, Sum.inl (9, 6, 0, 0, 93, [])), (93, Sum.inl (9, 4, 0, 0, 94, [])), (94, Sum.inl (19, 12, 41, 0, 97, [])), (97, Sum.inl (4, 0, 0, 0, 98, [])), (98, Sum.inl (18, 12, 42, 0, 101, [])), (101, Sum.inl (2, 1, 0, 0, 102, [])), (102, Sum.inl (2, 3, 0, 0, 103, [])), (103, Sum.inl (21, 0, 0, 0, 104, [])), (104, Sum.inl (4, 0, 0, 0, 105, [])), (105, Sum.inl (18, 12, 41, 0, 108, [])), (108, Sum.inr (1, 4, 1, 0, 0, 0, 0)), (111, Sum.inl (27, 0, 0, 0, 112, []))]
theorem Z_X12_see (l : Launch) : ∀ q ∈ U_X12_see, zTok l O_X12_see F_X12_see q := zU_ok rfl rfl rfl K_X12_see (E_X12_see l)
def wp_X12_see (a : List zV) (S : zS) (K : zR2 → zS → Prop) : Prop := zif (Nat.ble (zsum a) 5) (zwq 2 F_X12_see U_X12_see O_X12_see [] (fun _ _ _ _ _ _ => False) K 66 U_X12_see 0 0 S 0 (zar 0 a) [])
theorem R_X12_see (l : Launch) (a : List zV) (S : zS) (Q : zR2 → zS → Prop) (h : wp_X12_see a S Q) : zRs l 2 0 0 yX12_see (.code yX12_see cX12_see 5 (some .int)) a S Q := by
  obtain ⟨h1, h⟩ := zif_ok h
  exact zRs_of 12 (by decide) rfl h1 (zwq_ok (Z_X12_see l) rfl [] (fun _ _ _ _ _ _ h => h.elim) 66 (Z_X12_see l) h)
def B_X11_forget : List (Nat × zC) := [(7, (1, 0, 1, 0, 0, 0, 0)), (15, (0, 1, 0, 0, 0, 0, 0))]
def O_X11_forget : zO := fun j a S K => match j with
  | 0 => wp_J6_bitCount_0f7a4 a S K
  | 1 => wp_X0_seeNothing a S K
  | _ => False
theorem E_X11_forget (l : Launch) : ∀ q ∈ B_X11_forget, zcok l O_X11_forget F_X11_forget q.1 q.2 := List.forall_mem_cons.mpr ⟨⟨208, yJ6_bitCount_0f7a4, cJ6_bitCount_0f7a4, 1, some .int, by decide +kernel, C_11_208, W_J6_bitCount_0f7a4, I_J6_bitCount_0f7a4, rfl, R_J6_bitCount_0f7a4 l⟩, List.forall_mem_cons.mpr ⟨⟨260, yX0_seeNothing, cX0_seeNothing, 1, none, by decide +kernel, C_11_260, W_X0_seeNothing, I_X0_seeNothing, S_X0_seeNothing, rfl, rfl, R_X0_seeNothing l⟩, fun _ h => by cases h⟩⟩
def U_X11_forget : List (Nat × zE) := [(0, Sum.inl (4, 0, 0, 0, 1, [])), (1, Sum.inl (18, 11, 4, 0, 4, [])), (4, Sum.inl (18, 0, 9, 0, 7, [])), (7, Sum.inr (1, 0, 1, 0, 0, 0, 0)), (10, Sum.inl (5, 1, 0, 0, 11, [])), (11, Sum.inl (4, 0, 0, 0, 12, [])), (12, Sum.inl (18, 11, 4, 0, 15, [])), (15, Sum.inr (0, 1, 0, 0, 0, 0, 0)), (18, Sum.inl (2, 1, 0, 0, 19, [])), (19, Sum.inl (27, 0, 0, 0, 20, []))]
theorem Z_X11_forget (l : Launch) : ∀ q ∈ U_X11_forget, zTok l O_X11_forget F_X11_forget q := zU_ok rfl rfl rfl K_X11_forget (E_X11_forget l)
def wp_X11_forget (a : List zV) (S : zS) (K : zR2 → zS → Prop) : Prop := zif (Nat.ble (zsum a) 2) (zwq 1 F_X11_forget U_X11_forget O_X11_forget [] (fun _ _ _ _ _ _ => False) K 11 U_X11_forget 0 0 S 0 (zar 0 a) [])
theorem R_X11_forget (l : Launch) (a : List zV) (S : zS) (Q : zR2 → zS → Prop) (h : wp_X11_forget a S Q) : zRs l 1 0 0 yX11_forget (.code yX11_forget cX11_forget 2 (some .int)) a S Q := by
  obtain ⟨h1, h⟩ := zif_ok h
  exact zRs_of 11 (by decide) rfl h1 (zwq_ok (Z_X11_forget l) rfl [] (fun _ _ _ _ _ _ h => h.elim) 11 (Z_X11_forget l) h)
def B_X12_forget : List (Nat × zC) := [(9, (1, 0, 1, 0, 0, 0, 0))]
def O_X12_forget : zO := fun j a S K => match j with
  | 0 => wp_X12_bits a S K
  | _ => False
theorem E_X12_forget (l : Launch) : ∀ q ∈ B_X12_forget, zcok l O_X12_forget F_X12_forget q.1 q.2 := List.forall_mem_cons.mpr ⟨⟨308, yX12_bits, cX12_bits, 3, some .int, by decide +kernel, C_12_308, W_X12_bits, I_X12_bits, rfl, R_X12_bits l⟩, fun _ h => by cases h⟩
def U_X12_forget : List (Nat × zE) := [(0, Sum.inl (4, 0, 0, 0, 1, [])), (1, Sum.inl (0, 0, 0, 0, 2, [])), (2, Sum.inl (19, 12, 0, 0, 5, [])), (5, Sum.inl (4, 0, 0, 0, 6, [])), (6, Sum.inl (18, 12, 41, 0, 9, [])), (9, Sum.inr (1, 0, 1, 0, 0, 0, 0)), (12, Sum.inl (5, 1, 0, 0, 13, [])), (13, Sum.inl (4, 0, 0, 0, 14, [])), (14, Sum.inl (0, 0, 0, 0, 15, [])), (15, Sum.inl (19, 12, 41, 0, 18, [])), (18, Sum.inl (4, 0, 0, 0, 19, [])), (19, Sum.inl (0, 0, 0, (-1), 20, [])), (20, Sum.inl (19, 12, 40, 0, 23, [])), (23, Sum.inl (2, 1, 0, 0, 24, [])), (24, Sum.inl (27, 0, 0, 0, 25, []))]
theorem Z_X12_forget (l : Launch) : ∀ q ∈ U_X12_forget, zTok l O_X12_forget F_X12_forget q := zU_ok rfl rfl rfl K_X12_forget (E_X12_forget l)
def wp_X12_forget (a : List zV) (S : zS) (K : zR2 → zS → Prop) : Prop := zif (Nat.ble (zsum a) 2) (zwq 1 F_X12_forget U_X12_forget O_X12_forget [] (fun _ _ _ _ _ _ => False) K 16 U_X12_forget 0 0 S 0 (zar 0 a) [])
theorem R_X12_forget (l : Launch) (a : List zV) (S : zS) (Q : zR2 → zS → Prop) (h : wp_X12_forget a S Q) : zRs l 1 0 0 yX12_forget (.code yX12_forget cX12_forget 2 (some .int)) a S Q := by
  obtain ⟨h1, h⟩ := zif_ok h
  exact zRs_of 12 (by decide) rfl h1 (zwq_ok (Z_X12_forget l) rfl [] (fun _ _ _ _ _ _ h => h.elim) 16 (Z_X12_forget l) h)
abbrev lookP (D : zD) (x y z : Int) : Prop := (0 ≤ x ∧ x < dF D) ∧ (0 ≤ y ∧ y < 24) ∧ (0 ≤ z ∧ z < dR D)
def lookA (D : zD) (x y z : Int) : Nat × Int := if lookP D x y z then (0, (dK D (24 * x.toNat + y.toNat) : Int)) else (1, 0)
def lookD (D : zD) (x y z : Int) : zD := if lookP D x y z then zu D 9 (24 * x.toNat + y.toNat) z.toNat else D
section
variable {S : zS} {D E T : zD} {N : Nat} {K : zR2 → zS → Prop} {x y z u w : Int}
theorem xOK.up (hX : xOK D E T N) (hN : N < 99999) : xOK D E T (N + 1) := ⟨hX.now, hX.tape, hX.bytes, hX.fault, (fun i => Nat.le_succ_of_le (hX.refused i)), hX.isKept, hX.kept, hX.path, hX.lends, (by omega)⟩
/-- the same plan, another day -/
theorem xOK.day {D' : zD} (hX : xOK D E T N) (hN : N < 99999) (h : dOK D') (hp : ∀ c, c < 8 → D' c = D c) : xOK D' E T (N + 1) := ⟨h, hX.tape, hX.bytes, hX.fault, (fun i => Nat.le_succ_of_le (hX.refused i)), hX.isKept, (fun h => ⟨(hX.kept h).1, fun c hc => by rw [← (hX.kept h).2 c hc]; exact hp c hc⟩), hX.path, hX.lends, (by omega)⟩
theorem xOK.ref {i : Nat} (hX : xOK D E T N) (hN : N < 99999) : xOK D E (zu T 3 i (T 3 i + 1)) (N + 1) := ⟨hX.now, hX.tape, hX.bytes, hX.fault, (fun j => by
    by_cases e : j = i
    · subst e; rw [zuD_e]; exact Nat.succ_le_succ (hX.refused j)
    · rw [zuD_n (Or.inr e)]; exact Nat.le_succ_of_le (hX.refused j)), hX.isKept, hX.kept, hX.path, hX.lends, (by omega)⟩
theorem x_look (hX : xOK D E T N) (hN : N < 99999) : xOK (lookD D x y z) E T (N + 1) := by
  unfold lookD
  by_cases hc : lookP D x y z
  · rw [if_pos hc]
    obtain ⟨hc1, hc2, hc3⟩ := hc
    refine hX.day hN ?_ (fun c hc => funext fun j => zuD_n (Or.inl (by omega)))
    refine hX.now.upd (fun c hc => funext fun j => zuD_n (Or.inl (by omega))) hX.now.day hX.now.dayMay (fun k hk => ?_) hX.now.seenHour hX.now.seenRooms hX.now.seen
    show zu D 9 (24 * x.toNat + y.toNat) z.toNat 9 k < dR D
    by_cases e : k = 24 * x.toNat + y.toNat
    · subst e; rw [zuD_e]; omega
    · rw [zuD_n (Or.inr e)]; exact hX.now.looks k hk
  · rw [if_neg hc]
    exact hX.up hN
theorem c_look (hC : eC S D E T) (hX : xOK D E T N) (h : cRes S (lookD D x y z) E T (cr1 (lookA D x y z)) K) : wp_X11_look [.inr (.inl 0), .inl x, .inl y, .inl z] S K := by
  have e1 := hC.now.rooms
  have e2 := hC.now.finders
  have e3 := hX.now.finders
  unfold lookA lookD at h
  by_cases hc : lookP D x y z
  · rw [if_pos hc, if_pos hc] at h
    obtain ⟨hc1, hc2, hc3⟩ := hc
    have e4 := hC.now.rounds (24 * x.toNat + y.toNat) (by omega)
    repeat' (first | refine And.intro ?_ ?_ | (intro _; try omega) | omega | rfl | refine ⟨_, ⟨rfl, by omega⟩, ?_⟩ | refine ⟨24 * x.toNat + y.toNat, ⟨by omega, by omega⟩, ?_⟩ | fail)
    rw [e4]
    have hn : cOK (zu S 26 (24 * x.toNat + y.toNat) z) (zu D 9 (24 * x.toNat + y.toNat) z.toNat) := ⟨hC.now.rooms, hC.now.lodgers, hC.now.finders, hC.now.mays, hC.now.goods, hC.now.tenant, hC.now.home, hC.now.told, hC.now.law, hC.now.lent, hC.now.seenHour, hC.now.seenRooms, hC.now.givers, hC.now.takers, hC.now.lentShoes, hC.now.shoes, hC.now.day, (fun j hj => zuU (fun _ => hC.now.rounds j hj) (by omega)), hC.now.seen⟩
    exact h _ ⟨hn, hC.tape, hC.bytes, hC.fault, hC.refused, hC.isKept, hC.kept, hC.path, hC.pathRooms, hC.pathLooks, hC.lends, hC.lenders, hC.slippers⟩ ((frC.r S).u (by omega))
  · rw [if_neg hc, if_neg hc] at h
    unfold lookP at hc
    have h := cGood hC h
    repeat' (first | refine And.intro ?_ ?_ | (intro _; try omega) | omega | rfl | refine ⟨_, ⟨rfl, by omega⟩, ?_⟩ | refine ⟨24 * x.toNat + y.toNat, ⟨by omega, by omega⟩, ?_⟩ | fail)
    all_goals exact h
theorem m_look (hM : eM S D E T) (hX : xOK D E T N) (h : mRes S (lookD D x y z) E T (lookA D x y z) K) : wp_X12_look [.inr (.inl 62), .inl x, .inl y, .inl z] S K := by
  have e1 : zu S 62 0 0 62 1 = (dR D : Int) := hM.now.rooms
  have e2 : zu S 62 0 0 62 3 = (dF D : Int) := hM.now.finders
  have e3 := hX.now.finders
  unfold lookA lookD at h
  by_cases hc : lookP D x y z
  · rw [if_pos hc, if_pos hc] at h
    obtain ⟨hc1, hc2, hc3⟩ := hc
    have e4 := hM.now.looks (24 * x.toNat + y.toNat) (by omega)
    repeat' (first | refine And.intro ?_ ?_ | (intro _; try omega) | omega | rfl | refine ⟨_, ⟨rfl, by omega⟩, ?_⟩ | refine ⟨24 * x.toNat + y.toNat, ⟨by omega, by omega⟩, ?_⟩ | fail)
    have hn : mOK (zu (zu S 62 0 0) 81 (24 * x.toNat + y.toNat) z) (zu D 9 (24 * x.toNat + y.toNat) z.toNat) := ⟨hM.now.rooms, hM.now.lodgers, hM.now.finders, hM.now.mays, hM.now.goods, hM.now.whose, hM.now.home, hM.now.feet, hM.now.law, hM.now.may, hM.now.lent, hM.now.seenHour, hM.now.seenRooms, hM.now.lending, hM.now.day, (fun j hj => zuU (fun _ => hM.now.looks j hj) (by omega)), hM.now.seen⟩
    exact h _ _ ⟨hn, hM.tape, hM.bytes, hM.fault, hM.refused, hM.hasImage, hM.image, hM.path, hM.pathRooms, hM.pathLooks, hM.lends, hM.lenders⟩ (((frM.r S).u (by omega) (by omega)).u (by omega) (by omega)) rfl (fun _ => e4)
  · rw [if_neg hc, if_neg hc] at h
    unfold lookP at hc
    have h := mFail1 hM h
    repeat' (first | refine And.intro ?_ ?_ | (intro _; try omega) | omega | rfl | refine ⟨_, ⟨rfl, by omega⟩, ?_⟩ | refine ⟨24 * x.toNat + y.toNat, ⟨by omega, by omega⟩, ?_⟩ | fail)
    all_goals exact h
end
