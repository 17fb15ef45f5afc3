/-! the house: the class's draft -/
def cP (S : zS) (P : zD) : Prop := (S 11 7 = (P 0 0 : Int)) ∧ (S 11 8 = (P 0 1 : Int)) ∧ (S 11 9 = (P 0 2 : Int)) ∧ (S 11 10 = (P 0 3 : Int)) ∧ (S 11 11 = (P 0 4 : Int)) ∧ (∀ r, r < P 0 0 → S 12 r = (P 1 r : Int)) ∧ (∀ r, r < P 0 0 → S 13 r = (P 2 r : Int) - 1) ∧ (∀ l, l < P 0 1 → S 14 l = (P 3 l : Int)) ∧ (∀ l, l < P 0 1 → S 15 l = (P 4 (2 * l) : Int) + 2 * (P 4 (2 * l + 1) : Int)) ∧ (∀ f, f < P 0 2 → S 16 f = (P 5 f : Int)) ∧ (∀ k, k < 144 → S 17 k = (spr (P 7 k) : Int)) ∧ (∀ a, a < 4 → S 18 a = (P 6 a : Int))
theorem cP.rooms {S : zS} {P : zD} (h : cP S P) : S 11 7 = (P 0 0 : Int) := h.1
theorem cP.lodgers {S : zS} {P : zD} (h : cP S P) : S 11 8 = (P 0 1 : Int) := h.2.1
theorem cP.finders {S : zS} {P : zD} (h : cP S P) : S 11 9 = (P 0 2 : Int) := h.2.2.1
theorem cP.mays {S : zS} {P : zD} (h : cP S P) : S 11 10 = (P 0 3 : Int) := h.2.2.2.1
theorem cP.laws {S : zS} {P : zD} (h : cP S P) : S 11 11 = (P 0 4 : Int) := h.2.2.2.2.1
theorem cP.goods {S : zS} {P : zD} (h : cP S P) : ∀ r, r < P 0 0 → S 12 r = (P 1 r : Int) := h.2.2.2.2.2.1
theorem cP.tenant {S : zS} {P : zD} (h : cP S P) : ∀ r, r < P 0 0 → S 13 r = (P 2 r : Int) - 1 := h.2.2.2.2.2.2.1
theorem cP.home {S : zS} {P : zD} (h : cP S P) : ∀ l, l < P 0 1 → S 14 l = (P 3 l : Int) := h.2.2.2.2.2.2.2.1
theorem cP.feet {S : zS} {P : zD} (h : cP S P) : ∀ l, l < P 0 1 → S 15 l = (P 4 (2 * l) : Int) + 2 * (P 4 (2 * l + 1) : Int) := h.2.2.2.2.2.2.2.2.1
theorem cP.begins {S : zS} {P : zD} (h : cP S P) : ∀ f, f < P 0 2 → S 16 f = (P 5 f : Int) := h.2.2.2.2.2.2.2.2.2.1
theorem cP.told {S : zS} {P : zD} (h : cP S P) : ∀ k, k < 144 → S 17 k = (spr (P 7 k) : Int) := h.2.2.2.2.2.2.2.2.2.2.1
theorem cP.law {S : zS} {P : zD} (h : cP S P) : ∀ a, a < 4 → S 18 a = (P 6 a : Int) := h.2.2.2.2.2.2.2.2.2.2.2
theorem cP.fr {S S' : zS} {P : zD} (h : cP S P) (hf : ∀ c, 11 ≤ c → c ≤ 18 → S' c = S c) : cP S' P := by
  unfold cP at h ⊢
  rw [hf 11 (by omega) (by omega), hf 12 (by omega) (by omega), hf 13 (by omega) (by omega), hf 14 (by omega) (by omega), hf 15 (by omega) (by omega), hf 16 (by omega) (by omega), hf 17 (by omega) (by omega), hf 18 (by omega) (by omega)]
  exact h
/-- only the draft changes -/
def frD (S S0 : zS) : Prop := ∀ c, (c < 11 ∨ 18 < c) → S c = S0 c
theorem frD.r (S : zS) : frD S S := fun _ _ => rfl
theorem frD.u {S S0 : zS} {c k : Nat} {v : Int} (h : frD S S0) (h1 : 11 ≤ c) (h2 : c ≤ 18) : frD (zu S c k v) S0 := fun x hx => (zu_c (by omega)).trans (h x hx)
section
variable {S : zS} {P : zD}
theorem zu_i {S : zS} {c k j : Nat} {v : Int} : zu S c k v c j = if j = k then v else S c j := zu_if
theorem cP.aR (h : cP S P) {g : Nat} : cP (zu (zu (zu S 12 (P 0 0) (g : Int)) 13 (P 0 0) (-1)) 11 7 ((P 0 0 : Int) + 1)) (adR P g) := by
  have eN : ∀ j, j ≠ 0 → adR P g 0 j = P 0 j := fun j hj => (zuD_n (Or.inr hj)).trans ((zuD_n (Or.inl (by omega))).trans (zuD_n (Or.inl (by omega))))
  have e1 : ∀ r, adR P g 1 r = if r = P 0 0 then g else P 1 r := fun r => (zuD_n (Or.inl (by omega))).trans ((zuD_n (Or.inl (by omega))).trans zu_if)
  have e2 : ∀ r, adR P g 2 r = if r = P 0 0 then 0 else P 2 r := fun r => (zuD_n (Or.inl (by omega))).trans zu_if
  have eC : ∀ c, 3 ≤ c → adR P g c = P c := fun c hc => funext fun j => (zuD_n (Or.inl (by omega))).trans ((zuD_n (Or.inl (by omega))).trans (zuD_n (Or.inl (by omega))))
  unfold cP
  rw [eN 1 (by omega), eN 2 (by omega), eN 3 (by omega), eN 4 (by omega), eC 3 (by omega), eC 4 (by omega), eC 5 (by omega), eC 6 (by omega), eC 7 (by omega)]
  refine ⟨rfl, h.lodgers, h.finders, h.mays, h.laws, ?_, ?_, h.home, h.feet, h.begins, h.told, h.law⟩
  · intro r hr
    have hr : r < P 0 0 + 1 := hr
    rw [zuN (by omega), zuN (by omega), zu_i, e1]
    split
    · rfl
    · exact h.goods r (by omega)
  · intro r hr
    have hr : r < P 0 0 + 1 := hr
    rw [zuN (by omega), zu_i, e2]
    split
    · rfl
    · rw [zuN (by omega)]; exact h.tenant r (by omega)
theorem cP.aF (h : cP S P) {r : Nat} : cP (zu (zu S 16 (P 0 2) (r : Int)) 11 9 ((P 0 2 : Int) + 1)) (adF P r) := by
  have eN : ∀ j, j ≠ 2 → adF P r 0 j = P 0 j := fun j hj => (zuD_n (Or.inr hj)).trans (zuD_n (Or.inl (by omega)))
  have e5 : ∀ f, adF P r 5 f = if f = P 0 2 then r else P 5 f := fun f => (zuD_n (Or.inl (by omega))).trans zu_if
  have eC : ∀ c, c ≠ 0 → c ≠ 5 → adF P r c = P c := fun c h1 h2 => funext fun j => (zuD_n (Or.inl h1)).trans (zuD_n (Or.inl h2))
  unfold cP
  rw [eN 0 (by omega), eN 1 (by omega), eN 3 (by omega), eN 4 (by omega), eC 1 (by omega) (by omega), eC 2 (by omega) (by omega), eC 3 (by omega) (by omega), eC 4 (by omega) (by omega), eC 6 (by omega) (by omega), eC 7 (by omega) (by omega)]
  refine ⟨h.rooms, h.lodgers, rfl, h.mays, h.laws, h.goods, h.tenant, h.home, h.feet, ?_, h.told, h.law⟩
  intro f hf
  have hf : f < P 0 2 + 1 := hf
  rw [zuN (by omega), zu_i, e5]
  split
  · rfl
  · exact h.begins f (by omega)
theorem cP.aA (h : cP S P) {a s : Nat} : cP (zu (zu S 18 a (s : Int)) 11 11 ((P 0 4 ||| 2 ^ a : Nat) : Int)) (adA P a s) := by
  have eN : ∀ j, j ≠ 4 → adA P a s 0 j = P 0 j := fun j hj => (zuD_n (Or.inr hj)).trans (zuD_n (Or.inl (by omega)))
  have e6 : ∀ b, adA P a s 6 b = if b = a then s else P 6 b := fun f => (zuD_n (Or.inl (by omega))).trans zu_if
  have eC : ∀ c, c ≠ 0 → c ≠ 6 → adA P a s c = P c := fun c h1 h2 => funext fun j => (zuD_n (Or.inl h1)).trans (zuD_n (Or.inl h2))
  unfold cP
  rw [eN 0 (by omega), eN 1 (by omega), eN 2 (by omega), eN 3 (by omega), eC 1 (by omega) (by omega), eC 2 (by omega) (by omega), eC 3 (by omega) (by omega), eC 4 (by omega) (by omega), eC 5 (by omega) (by omega), eC 7 (by omega) (by omega)]
  refine ⟨h.rooms, h.lodgers, h.finders, h.mays, rfl, h.goods, h.tenant, h.home, h.feet, h.begins, h.told, ?_⟩
  intro b hb
  rw [zuN (by omega), zu_i, e6]
  split
  · rfl
  · exact h.law b hb
theorem cP.aL (h : cP S P) {r e1 e2 : Nat} {v : Int} (hv : v = (e1 : Int) + 2 * (e2 : Int)) : cP (zu (zu (zu (zu S 14 (P 0 1) (r : Int)) 15 (P 0 1) v) 13 r (P 0 1 : Int)) 11 8 ((P 0 1 : Int) + 1)) (adL P r e1 e2) := by
  have eN : ∀ j, j ≠ 1 → adL P r e1 e2 0 j = P 0 j := fun j hj => (zuD_n (Or.inr hj)).trans ((zuD_n (Or.inl (by omega))).trans ((zuD_n (Or.inl (by omega))).trans ((zuD_n (Or.inl (by omega))).trans (zuD_n (Or.inl (by omega))))))
  have e2' : ∀ q, adL P r e1 e2 2 q = if q = r then P 0 1 + 1 else P 2 q := fun q => (zuD_n (Or.inl (by omega))).trans ((zuD_n (Or.inl (by omega))).trans ((zuD_n (Or.inl (by omega))).trans (zu_if.trans (by rw [zuD_n (Or.inl (by omega))]))))
  have e3 : ∀ l, adL P r e1 e2 3 l = if l = P 0 1 then r else P 3 l := fun l => (zuD_n (Or.inl (by omega))).trans ((zuD_n (Or.inl (by omega))).trans ((zuD_n (Or.inl (by omega))).trans ((zuD_n (Or.inl (by omega))).trans zu_if)))
  have e4 : ∀ k, adL P r e1 e2 4 k = if k = 2 * P 0 1 + 1 then e2 else if k = 2 * P 0 1 then e1 else P 4 k := fun k => (zuD_n (Or.inl (by omega))).trans (zu_if.trans (by rw [zu_if]; split; rfl; split; rfl; exact (zuD_n (Or.inl (by omega))).trans (zuD_n (Or.inl (by omega)))))
  have eC : ∀ c, c = 1 ∨ 5 ≤ c → adL P r e1 e2 c = P c := fun c hc => funext fun j => (zuD_n (Or.inl (by omega))).trans ((zuD_n (Or.inl (by omega))).trans ((zuD_n (Or.inl (by omega))).trans ((zuD_n (Or.inl (by omega))).trans (zuD_n (Or.inl (by omega))))))
  unfold cP
  rw [eN 0 (by omega), eN 2 (by omega), eN 3 (by omega), eN 4 (by omega), eC 1 (by omega), eC 5 (by omega), eC 6 (by omega), eC 7 (by omega)]
  refine ⟨h.rooms, rfl, h.finders, h.mays, h.laws, h.goods, ?_, ?_, ?_, h.begins, h.told, h.law⟩
  · intro q hq
    rw [zuN (by omega), zu_i, e2']
    split
    · omega
    · rw [zuN (by omega), zuN (by omega)]; exact h.tenant q hq
  · intro l hl
    have hl : l < P 0 1 + 1 := hl
    rw [zuN (by omega), zuN (by omega), zuN (by omega), zu_i, e3]
    split
    · rfl
    · exact h.home l (by omega)
  · intro l hl
    have hl : l < P 0 1 + 1 := hl
    rw [zuN (by omega), zuN (by omega), zu_i, e4, e4]
    by_cases c : l = P 0 1
    · rw [if_pos c, if_neg (by omega), if_pos (by omega), if_pos (by omega)]; exact hv
    · rw [if_neg c, if_neg (by omega), if_neg (by omega), if_neg (by omega), if_neg (by omega), zuN (by omega)]
      exact h.feet l (by omega)
end
def B_X6_addRoom : List (Nat × zC) := []
def O_X6_addRoom : zO := fun j a S K => match j with
  | _ => False
theorem E_X6_addRoom (l : Launch) : ∀ q ∈ B_X6_addRoom, zcok l O_X6_addRoom F_X6_addRoom q.1 q.2 := fun _ h => by cases h
def U_X6_addRoom : List (Nat × zE) := [(0, Sum.inl (4, 0, 0, 0, 1, [])), (1, Sum.inl (18, 6, 0, 0, 4, [])), (4, Sum.inl (4, 0, 0, 0, 5, [])), (5, Sum.inl (18, 6, 7, 0, 8, [])), (8, Sum.inl (2, 1, 0, 0, 9, [])), (9, Sum.inl (21, 0, 0, 0, 10, [])), (10, Sum.inl (4, 0, 0, 0, 11, [])), (11, Sum.inl (18, 6, 1, 0, 14, [])), (14, Sum.inl (4, 0, 0, 0, 15, [])), (15, Sum.inl (18, 6, 7, 0, 18, [])), (18, Sum.inl (0, 0, 0, (-1), 19, [])), (19, Sum.inl (21, 0, 0, 0, 20, [])), (20, Sum.inl (4, 0, 0, 0, 21, [])), (21, Sum.inl (12, 0, 0, 0, 22, [])), (22, Sum.inl (18, 6, 7, 0, 25, [])), (25, Sum.inl (0, 0, 0, 1, 26, [])), (26, Sum.inl (9, 0, 0, 0, 27, [])), (27, Sum.inl (19, 6, 7, 0, 30, [])), (30, Sum.inl (29, 0, 0, 0, 31, []))]
theorem Z_X6_addRoom (l : Launch) : ∀ q ∈ U_X6_addRoom, zTok l O_X6_addRoom F_X6_addRoom q := zU_ok rfl rfl rfl K_X6_addRoom (E_X6_addRoom l)
def B_X6_addFinder : List (Nat × zC) := []
def O_X6_addFinder : zO := fun j a S K => match j with
  | _ => False
theorem E_X6_addFinder (l : Launch) : ∀ q ∈ B_X6_addFinder, zcok l O_X6_addFinder F_X6_addFinder q.1 q.2 := fun _ h => by cases h
def U_X6_addFinder : List (Nat × zE) := [(0, Sum.inl (4, 0, 0, 0, 1, [])), (1, Sum.inl (18, 6, 4, 0, 4, [])), (4, Sum.inl (4, 0, 0, 0, 5, [])), (5, Sum.inl (18, 6, 9, 0, 8, [])), (8, Sum.inl (2, 1, 0, 0, 9, [])), (9, Sum.inl (21, 0, 0, 0, 10, [])), (10, Sum.inl (4, 0, 0, 0, 11, [])), (11, Sum.inl (12, 0, 0, 0, 12, [])), (12, Sum.inl (18, 6, 9, 0, 15, [])), (15, Sum.inl (0, 0, 0, 1, 16, [])), (16, Sum.inl (9, 0, 0, 0, 17, [])), (17, Sum.inl (19, 6, 9, 0, 20, [])), (20, Sum.inl (29, 0, 0, 0, 21, []))]
theorem Z_X6_addFinder (l : Launch) : ∀ q ∈ U_X6_addFinder, zTok l O_X6_addFinder F_X6_addFinder q := zU_ok rfl rfl rfl K_X6_addFinder (E_X6_addFinder l)
def B_X6_addLaw : List (Nat × zC) := []
def O_X6_addLaw : zO := fun j a S K => match j with
  | _ => False
theorem E_X6_addLaw (l : Launch) : ∀ q ∈ B_X6_addLaw, zcok l O_X6_addLaw F_X6_addLaw q.1 q.2 := fun _ h => by cases h
def U_X6_addLaw : List (Nat × zE) := [(0, Sum.inl (4, 0, 0, 0, 1, [])), (1, Sum.inl (18, 6, 6, 0, 4, [])), (4, Sum.inl (2, 1, 0, 0, 5, [])), (5, Sum.inl (2, 2, 0, 0, 6, [])), (6, Sum.inl (21, 0, 0, 0, 7, [])), (7, Sum.inl (4, 0, 0, 0, 8, [])), (8, Sum.inl (12, 0, 0, 0, 9, [])), (9, Sum.inl (18, 6, 11, 0, 12, [])), (12, Sum.inl (0, 0, 0, 1, 13, [])), (13, Sum.inl (2, 1, 0, 0, 14, [])), (14, Sum.inl (9, 6, 0, 0, 15, [])), (15, Sum.inl (9, 4, 0, 0, 16, [])), (16, Sum.inl (19, 6, 11, 0, 19, [])), (19, Sum.inl (29, 0, 0, 0, 20, []))]
theorem Z_X6_addLaw (l : Launch) : ∀ q ∈ U_X6_addLaw, zTok l O_X6_addLaw F_X6_addLaw q := zU_ok rfl rfl rfl K_X6_addLaw (E_X6_addLaw l)
def B_X6_addLodger : List (Nat × zC) := []
def O_X6_addLodger : zO := fun j a S K => match j with
  | _ => False
theorem E_X6_addLodger (l : Launch) : ∀ q ∈ B_X6_addLodger, zcok l O_X6_addLodger F_X6_addLodger q.1 q.2 := fun _ h => by cases h
def U_X6_addLodger : List (Nat × zE) := [(0, Sum.inl (4, 0, 0, 0, 1, [])), (1, Sum.inl (18, 6, 2, 0, 4, [])), (4, Sum.inl (4, 0, 0, 0, 5, [])), (5, Sum.inl (18, 6, 8, 0, 8, [])), (8, Sum.inl (2, 1, 0, 0, 9, [])), (9, Sum.inl (21, 0, 0, 0, 10, [])), (10, Sum.inl (4, 0, 0, 0, 11, [])), (11, Sum.inl (18, 6, 3, 0, 14, [])), (14, Sum.inl (4, 0, 0, 0, 15, [])), (15, Sum.inl (18, 6, 8, 0, 18, [])), (18, Sum.inl (0, 0, 0, 3, 19, [])), (19, Sum.inl (21, 0, 0, 0, 20, [])), (20, Sum.inl (4, 0, 0, 0, 21, [])), (21, Sum.inl (18, 6, 1, 0, 24, [])), (24, Sum.inl (2, 1, 0, 0, 25, [])), (25, Sum.inl (4, 0, 0, 0, 26, [])), (26, Sum.inl (18, 6, 8, 0, 29, [])), (29, Sum.inl (21, 0, 0, 0, 30, [])), (30, Sum.inl (4, 0, 0, 0, 31, [])), (31, Sum.inl (12, 0, 0, 0, 32, [])), (32, Sum.inl (18, 6, 8, 0, 35, [])), (35, Sum.inl (0, 0, 0, 1, 36, [])), (36, Sum.inl (9, 0, 0, 0, 37, [])), (37, Sum.inl (19, 6, 8, 0, 40, [])), (40, Sum.inl (29, 0, 0, 0, 41, []))]
theorem Z_X6_addLodger (l : Launch) : ∀ q ∈ U_X6_addLodger, zTok l O_X6_addLodger F_X6_addLodger q := zU_ok rfl rfl rfl K_X6_addLodger (E_X6_addLodger l)
def wp_X6_addRoom (a : List zV) (S : zS) (K : zR2 → zS → Prop) : Prop := match a with
  | [.inr (.inl c), .inl x] => ∃ (P : zD) (g : Nat), (c = 11 ∧ x = (g : Int) ∧ cP S P ∧ P 0 0 < 8) ∧ ∀ S', cP S' (adR P g) → frD S' S → K (.inl none) S'
  | _ => False
theorem R_X6_addRoom (l : Launch) (a : List zV) (S : zS) (Q : zR2 → zS → Prop) (h : wp_X6_addRoom a S Q) : zRs l 0 0 0 yX6_addRoom (.code yX6_addRoom cX6_addRoom 2 (none)) a S Q := by
  unfold wp_X6_addRoom at h
  split at h
  · obtain ⟨P, g, ⟨rfl, rfl, hC, hr⟩, h⟩ := h
    have e := hC.rooms
    have k := h _ (hC.aR (g := g)) ((((frD.r S).u (by omega) (by omega)).u (by omega) (by omega)).u (by omega) (by omega))
    rw [← e] at k
    refine zRs_of 6 (by decide) rfl rfl ?_; refine zwq_ok (Z_X6_addRoom l) rfl [] (fun _ _ _ _ _ _ h => h) 400 (Z_X6_addRoom l) ?_
    exact ⟨P 0 0, ⟨e, hr⟩, P 0 0, ⟨e, hr⟩, by show -2147483648 ≤ S 11 7 + 1 ∧ S 11 7 + 1 < 2147483648; omega, k⟩
  · exact h.elim
def wp_X6_addFinder (a : List zV) (S : zS) (K : zR2 → zS → Prop) : Prop := match a with
  | [.inr (.inl c), .inl x] => ∃ (P : zD) (r : Nat), (c = 11 ∧ x = (r : Int) ∧ cP S P ∧ P 0 2 < 3) ∧ ∀ S', cP S' (adF P r) → frD S' S → K (.inl none) S'
  | _ => False
theorem R_X6_addFinder (l : Launch) (a : List zV) (S : zS) (Q : zR2 → zS → Prop) (h : wp_X6_addFinder a S Q) : zRs l 0 0 0 yX6_addFinder (.code yX6_addFinder cX6_addFinder 2 (none)) a S Q := by
  unfold wp_X6_addFinder at h
  split at h
  · obtain ⟨P, r, ⟨rfl, rfl, hC, hr⟩, h⟩ := h
    have e := hC.finders
    have k := h _ (hC.aF (r := r)) (((frD.r S).u (by omega) (by omega)).u (by omega) (by omega))
    rw [← e] at k
    refine zRs_of 6 (by decide) rfl rfl ?_; refine zwq_ok (Z_X6_addFinder l) rfl [] (fun _ _ _ _ _ _ h => h) 400 (Z_X6_addFinder l) ?_
    exact ⟨P 0 2, ⟨e, hr⟩, by show -2147483648 ≤ S 11 9 + 1 ∧ S 11 9 + 1 < 2147483648; omega, k⟩
  · exact h.elim
def wp_X6_addLaw (a : List zV) (S : zS) (K : zR2 → zS → Prop) : Prop := match a with
  | [.inr (.inl c), .inl x, .inl y] => ∃ (P : zD) (b s : Nat), (c = 11 ∧ x = (b : Int) ∧ y = (s : Int) ∧ cP S P ∧ b < 4 ∧ P 0 4 < 16) ∧ ∀ S', cP S' (adA P b s) → frD S' S → K (.inl none) S'
  | _ => False
theorem R_X6_addLaw (l : Launch) (a : List zV) (S : zS) (Q : zR2 → zS → Prop) (h : wp_X6_addLaw a S Q) : zRs l 0 0 0 yX6_addLaw (.code yX6_addLaw cX6_addLaw 3 (none)) a S Q := by
  unfold wp_X6_addLaw at h
  split at h
  · obtain ⟨P, b, s, ⟨rfl, rfl, rfl, hC, hb, hl⟩, h⟩ := h
    have e := hC.laws
    have k := h _ (hC.aA (a := b) (s := s)) (((frD.r S).u (by omega) (by omega)).u (by omega) (by omega))
    have hp : 2 ^ b < 2147483648 := Nat.lt_of_lt_of_le (Nat.pow_lt_pow_right (by decide) hb) (show 2 ^ 4 ≤ 2147483648 by decide)
    rw [← zor_n (by omega) hp, ← zsh1_n (by omega), ← e] at k
    refine zRs_of 6 (by decide) rfl rfl ?_; refine zwq_ok (Z_X6_addLaw l) rfl [] (fun _ _ _ _ _ _ h => h) 400 (Z_X6_addLaw l) ?_
    exact ⟨b, ⟨rfl, hb⟩, k⟩
  · exact h.elim
def wp_X6_addLodger (a : List zV) (S : zS) (K : zR2 → zS → Prop) : Prop := match a with
  | [.inr (.inl c), .inl x] => ∃ (P : zD) (r : Nat), (c = 11 ∧ x = (r : Int) ∧ cP S P ∧ r < 8 ∧ P 0 1 < 6) ∧ ∀ S', cP S' (adL P r 1 1) → frD S' S → K (.inl none) S'
  | _ => False
theorem R_X6_addLodger (l : Launch) (a : List zV) (S : zS) (Q : zR2 → zS → Prop) (h : wp_X6_addLodger a S Q) : zRs l 0 0 0 yX6_addLodger (.code yX6_addLodger cX6_addLodger 2 (none)) a S Q := by
  unfold wp_X6_addLodger at h
  split at h
  · obtain ⟨P, r, ⟨rfl, rfl, hC, hr, hl⟩, h⟩ := h
    have e := hC.lodgers
    have k := h _ (hC.aL (r := r) (e1 := 1) (e2 := 1) (v := 3) rfl) (((((frD.r S).u (by omega) (by omega)).u (by omega) (by omega)).u (by omega) (by omega)).u (by omega) (by omega))
    rw [← e] at k
    refine zRs_of 6 (by decide) rfl rfl ?_; refine zwq_ok (Z_X6_addLodger l) rfl [] (fun _ _ _ _ _ _ h => h) 400 (Z_X6_addLodger l) ?_
    exact ⟨P 0 1, ⟨e, hl⟩, P 0 1, ⟨e, hl⟩, r, ⟨rfl, hr⟩, by show -2147483648 ≤ S 11 8 + 1 ∧ S 11 8 + 1 < 2147483648; omega, k⟩
  · exact h.elim
def B_X6_addMay : List (Nat × zC) := []
def O_X6_addMay : zO := fun j a S K => match j with
  | _ => False
theorem E_X6_addMay (l : Launch) : ∀ q ∈ B_X6_addMay, zcok l O_X6_addMay F_X6_addMay q.1 q.2 := fun _ h => by cases h
def U_X6_addMay : List (Nat × zE) := [(0, Sum.inl (2, 3, 0, 0, 1, [])), (1, Sum.inl (5, 5, 0, 0, 3, [])), (3, Sum.inl (2, 5, 0, 0, 5, [])), (5, Sum.inl (2, 4, 0, 0, 7, [])), (7, Sum.inl (16, 2, 34, 0, 10, [])), (10, Sum.inl (4, 0, 0, 0, 11, [])), (11, Sum.inl (18, 6, 5, 0, 14, [])), (14, Sum.inl (2, 1, 0, 0, 15, [])), (15, Sum.inl (0, 0, 0, 24, 17, [])), (17, Sum.inl (9, 2, 0, 0, 18, [])), (18, Sum.inl (2, 5, 0, 0, 20, [])), (20, Sum.inl (9, 0, 0, 0, 21, [])), (21, Sum.inl (13, 0, 0, 0, 22, [])), (22, Sum.inl (20, 0, 0, 0, 23, [])), (23, Sum.inl (0, 0, 0, 1, 24, [])), (24, Sum.inl (2, 2, 0, 0, 25, [])), (25, Sum.inl (9, 6, 0, 0, 26, [])), (26, Sum.inl (9, 4, 0, 0, 27, [])), (27, Sum.inl (21, 0, 0, 0, 28, [])), (28, Sum.inl (8, 5, 0, 1, 31, [])), (31, Sum.inl (15, 0, 0, 0, 3, [])), (34, Sum.inl (4, 0, 0, 0, 35, [])), (35, Sum.inl (12, 0, 0, 0, 36, [])), (36, Sum.inl (18, 6, 10, 0, 39, [])), (39, Sum.inl (0, 0, 0, 1, 40, [])), (40, Sum.inl (9, 0, 0, 0, 41, [])), (41, Sum.inl (19, 6, 10, 0, 44, [])), (44, Sum.inl (29, 0, 0, 0, 45, []))]
theorem Z_X6_addMay (l : Launch) : ∀ q ∈ U_X6_addMay, zTok l O_X6_addMay F_X6_addMay q := zU_ok rfl rfl rfl K_X6_addMay (E_X6_addMay l)
def wp_X6_addMay (a : List zV) (S : zS) (K : zR2 → zS → Prop) : Prop := match a with
  | [.inr (.inl c), .inl x, .inl y, .inl z, .inl w] => ∃ (P : zD) (i b t f : Nat), (c = 11 ∧ x = (i : Int) ∧ y = (tol b : Int) ∧ z = (t : Int) ∧ w = (t : Int) + (f : Int) - 1 ∧ cP S P ∧ (∀ k, P 7 k < 4096) ∧ i < 6 ∧ b < 12 ∧ t + f ≤ 24 ∧ P 0 3 < 40) ∧ ∀ S', cP S' (adM P b (24 * i + t) f) → frD S' S → K (.inl none) S'
  | _ => False
def maC (S S0 : zS) (P : zD) (b k f : Nat) : Prop := frD S S0 ∧ (∀ c, c ≠ 17 → S c = S0 c) ∧ ∀ j, j < 144 → S 17 j = (spr (mrk P b k f 7 j) : Int)
theorem L_X6_addMay {l : Launch} {S0 : zS} {Q : zR2 → zS → Prop} {P : zD} {i b t f : Nat} (hC : cP S0 P) (hm : ∀ k, P 7 k < 4096) (hi : i < 6) (hb : b < 12) (ht : t + f ≤ 24) (k : ∀ S, maC S S0 P b (24 * i + t) f → zGs l 0 0 0 F_X6_addMay S 34 [(0, .inr (.inl 11)), (1, .inl (i : Int)), (2, .inl (tol b : Int)), (3, .inl (t : Int)), (4, .inl ((t : Int) + (f : Int) - 1)), (5, .inl ((t : Int) + (f : Int)))] [] Q) (g : Nat) : ∀ h S, h + g = f → maC S S0 P b (24 * i + t) h → zGs l 0 0 0 F_X6_addMay S 3 [(0, .inr (.inl 11)), (1, .inl (i : Int)), (2, .inl (tol b : Int)), (3, .inl (t : Int)), (4, .inl ((t : Int) + (f : Int) - 1)), (5, .inl ((t : Int) + (h : Int)))] [] Q := by
  induction g with
  | zero =>
    intro h S hh hS
    have e : h = f := by omega
    subst e
    have := k S hS
    refine zwq_ok (Z_X6_addMay l) rfl [3, 34] (fun _ _ _ _ _ _ h => h) 400 (Z_X6_addMay l) ?_
    exact ⟨fun c => this, fun c => by omega⟩
  | succ g ih =>
    intro h S hh hS
    obtain ⟨a1, a2, a3⟩ := hS
    have hj : 24 * i + t + h < 144 := by omega
    have e0 := a3 (24 * i + t + h) hj
    rw [mrk_out (by omega)] at e0
    have tl := tol_lt hb
    have hs := (chkA_ok (hm (24 * i + t + h))).2.2.2
    have hp : 2 ^ tol b < 2147483648 := Nat.lt_of_lt_of_le (Nat.pow_lt_pow_right (by decide) tl) (show 2 ^ 18 ≤ 2147483648 by decide)
    have ez : zor (S 17 (24 * i + t + h)) (zshl 1 (tol b : Int)) = (spr (mrk P b (24 * i + t) (h + 1) 7 (24 * i + t + h)) : Int) := by
      rw [e0, zsh1_n (by omega), zor_n (by omega) hp, spr_or (hm _) hb, mrk_in (by omega) (by omega)]
    have this := ih (h + 1) (zu S 17 (24 * i + t + h) (spr (mrk P b (24 * i + t) (h + 1) 7 (24 * i + t + h)) : Int)) (by omega) ⟨a1.u (by omega) (by omega), fun c hc => (zu_c hc).trans (a2 c hc), fun j hj2 => by
      rw [zu_i]
      split
      · rename_i c; rw [c]
      · rename_i c
        rw [a3 j hj2]
        by_cases c2 : 24 * i + t ≤ j ∧ j < 24 * i + t + h
        · rw [mrk_in c2.1 c2.2, mrk_in c2.1 (by omega)]
        · rw [mrk_out c2, mrk_out (by omega)]⟩
    rw [← ez] at this
    refine zwq_ok (Z_X6_addMay l) rfl [3, 34] (fun _ _ _ _ _ _ h => h) 400 (Z_X6_addMay l) ?_
    refine ⟨fun c => by omega, fun c => ⟨by omega, by omega, 24 * i + t + h, ⟨by omega, by omega⟩, 24 * i + t + h, ⟨by omega, by omega⟩, by omega, ?_⟩⟩
    exact this
theorem R_X6_addMay (l : Launch) (a : List zV) (S : zS) (Q : zR2 → zS → Prop) (h : wp_X6_addMay a S Q) : zRs l 0 0 0 yX6_addMay (.code yX6_addMay cX6_addMay 6 (none)) a S Q := by
  unfold wp_X6_addMay at h
  split at h
  · obtain ⟨P, i, b, t, f, ⟨rfl, rfl, rfl, rfl, rfl, hC, hm, hi, hb, ht, h4⟩, h⟩ := h
    have e := hC.mays
    have go := L_X6_addMay (l := l) (Q := Q) hC hm hi hb ht (fun S1 hS => by
      obtain ⟨a1, a2, a3⟩ := hS
      have e1 : S1 11 10 = (P 0 3 : Int) := by rw [a2 11 (by decide)]; exact e
      have hC1 : cP (zu S1 11 10 ((P 0 3 : Int) + 1)) (adM P b (24 * i + t) f) := by
        have eN : ∀ j, j ≠ 3 → adM P b (24 * i + t) f 0 j = P 0 j := fun j hj => (zuD_n (Or.inr hj)).trans (mrk_c (by omega))
        have eC : ∀ c, c ≠ 0 → c ≠ 7 → adM P b (24 * i + t) f c = P c := fun c h1 h2 => funext fun j => (zuD_n (Or.inl h1)).trans (mrk_c h2)
        have e7 : ∀ k, adM P b (24 * i + t) f 7 k = mrk P b (24 * i + t) f 7 k := fun k => zuD_n (Or.inl (by omega))
        have x1 : ∀ j, j ≠ 10 → zu S1 11 10 ((P 0 3 : Int) + 1) 11 j = S 11 j := fun j hj => by rw [zuN (Or.inr hj), a2 11 (by decide)]
        have xc : ∀ c, c ≠ 11 → c ≠ 17 → zu S1 11 10 ((P 0 3 : Int) + 1) c = S c := fun c h1 h2 => (zu_c h1).trans (a2 c h2)
        unfold cP
        rw [eN 0 (by omega), eN 1 (by omega), eN 2 (by omega), eN 4 (by omega), eC 1 (by omega) (by omega), eC 2 (by omega) (by omega), eC 3 (by omega) (by omega), eC 4 (by omega) (by omega), eC 5 (by omega) (by omega), eC 6 (by omega) (by omega), x1 7 (by omega), x1 8 (by omega), x1 9 (by omega), x1 11 (by omega), xc 12 (by omega) (by omega), xc 13 (by omega) (by omega), xc 14 (by omega) (by omega), xc 15 (by omega) (by omega), xc 16 (by omega) (by omega), xc 18 (by omega) (by omega)]
        exact ⟨hC.rooms, hC.lodgers, hC.finders, zuE, hC.laws, hC.goods, hC.tenant, hC.home, hC.feet, hC.begins, (fun k hk => by rw [zuN (by omega), e7]; exact a3 k hk), hC.law⟩
      have k := h _ hC1 (a1.u (by omega) (by omega))
      rw [← e1] at k
      refine zwq_ok (Z_X6_addMay l) rfl [3] (fun _ _ _ _ _ _ h => h) 400 (Z_X6_addMay l) ?_
      exact ⟨by omega, k⟩) f 0 S (by omega) ⟨frD.r S, fun _ _ => rfl, fun j hj => by rw [mrk_out (by omega)]; exact hC.told j hj⟩
    rw [show (t : Int) + ((0 : Nat) : Int) = (t : Int) by omega] at go
    refine zRs_of 6 (by decide) rfl rfl ?_; refine zwq_ok (Z_X6_addMay l) rfl [3] (fun _ _ _ _ _ _ h => h) 400 (Z_X6_addMay l) ?_
    exact go
  · exact h.elim
