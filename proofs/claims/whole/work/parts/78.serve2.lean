/-! the fewest shoes: the class serves all -/
def hlB (a0 a1 a2 a3 s1 s2 : Nat) : Bool := Nat.beq a0 0 && (Nat.ble a1 s1 && (Nat.ble a2 s2 && Nat.ble (a1 + a2 + a3) (s1 + s2)))
theorem hlB_iff {a0 a1 a2 a3 s1 s2 : Nat} : hlB a0 a1 a2 a3 s1 s2 = true ↔ hlP a0 a1 a2 a3 s1 s2 := by
  unfold hlB hlP
  rw [Bool.and_eq_true, Bool.and_eq_true, Bool.and_eq_true, nbeq, Nat.ble_eq, Nat.ble_eq, Nat.ble_eq]
def HSB (wn : Nat → Int) (L : Nat) (sp : Nat → Nat) (l : Nat) : Bool := hlB (wtN wn L 0 l) (wtN wn L 1 l) (wtN wn L 2 l) (wtN wn L 3 l) (lfN sp L 1) (lfN sp L 2)
theorem HSB_iff {wn : Nat → Int} {L : Nat} {sp : Nat → Nat} {l : Nat} : HSB wn L sp l = true ↔ HSP wn L sp l := hlB_iff
def cnB (wn : Nat → Int) (sp : Nat → Nat) (l k : Nat) : Bool := !(Nat.beq ((wn l).toNat &&& (k % 2 + 1)) 0) && Nat.ble 1 (sp k)
theorem cnB_iff {wn : Nat → Int} {L : Nat} {sp : Nat → Nat} {l k : Nat} : cnB wn sp l k = true ↔ cnP wn L sp l k := by
  unfold cnB cnP
  rw [Bool.and_eq_true, Nat.ble_eq]
  refine and_congr ⟨fun h z => ?_, fun h => ?_⟩ Iff.rfl
  · rw [z] at h; cases h
  · rw [beqN h]; rfl
def pkB (wn : Nat → Int) (L : Nat) (sp : Nat → Nat) (l k : Nat) : Bool := cnB wn sp l k && HSB wn L (dnN sp k) (l + 1)
def pkS (wn : Nat → Int) (L : Nat) (sp : Nat → Nat) (l : Nat) : Nat → Nat → Option Nat
  | 0, _ => none
  | f + 1, k => bif pkB wn L sp l k then some k else pkS wn L sp l f (k + 1)
theorem pkS_some {wn : Nat → Int} {L : Nat} {sp : Nat → Nat} {l : Nat} : ∀ f j, (∃ k, j ≤ k ∧ k < j + f ∧ pkB wn L sp l k = true) → ∃ k, pkS wn L sp l f j = some k ∧ j ≤ k ∧ k < j + f ∧ pkB wn L sp l k = true := by
  intro f
  induction f with
  | zero => rintro j ⟨k, h1, h2, _⟩; omega
  | succ f ih =>
    rintro j ⟨k, h1, h2, h3⟩
    show ∃ k, (bif pkB wn L sp l j then some j else pkS wn L sp l f (j + 1)) = some k ∧ _
    cases hb : pkB wn L sp l j with
    | true => exact ⟨j, rfl, Nat.le_refl j, by omega, hb⟩
    | false =>
      have hne : k ≠ j := fun z => by rw [z, hb] at h3; cases h3
      obtain ⟨k2, q1, q2, q3, q4⟩ := ih (j + 1) ⟨k, by omega, by omega, h3⟩
      exact ⟨k2, q1, by omega, by omega, q4⟩
theorem pk_ex {wn : Nat → Int} {L l : Nat} {sp : Nat → Nat} (hl : l < L) (hw : 0 ≤ wn l ∧ wn l < 4) (h : HSP wn L sp l) : ∃ k, pkS wn L sp l (2 * L) 0 = some k ∧ k < 2 * L ∧ cnP wn L sp l k ∧ HSP wn L (dnN sp k) (l + 1) := by
  obtain ⟨k, k1, k2, k3⟩ := HSP_forth hl hw h
  obtain ⟨j, j1, j2, j3, j4⟩ := pkS_some (wn := wn) (L := L) (sp := sp) (l := l) (2 * L) 0 ⟨k, by omega, by omega, by unfold pkB; rw [cnB_iff.mpr k2, HSB_iff.mpr k3]; rfl⟩
  unfold pkB at j4
  rw [Bool.and_eq_true] at j4
  exact ⟨j, j1, by omega, cnB_iff.mp j4.1, HSB_iff.mp j4.2⟩
def vlN (k : Nat) : Nat := 10 * (k / 2) + k % 2 + 1
/-- who gets what: value and 1, 0 for nothing -/
def grS (wn : Nat → Int) (L : Nat) : Nat → Nat → (Nat → Nat) → List Nat
  | 0, _, _ => []
  | f + 1, l, sp => if wn l = -1 then 0 :: grS wn L f (l + 1) sp else match pkS wn L sp l (2 * L) 0 with
    | some k => (vlN k + 1) :: grS wn L f (l + 1) (dnN sp k)
    | none => 0 :: grS wn L f (l + 1) sp
def B_X5_canServe : List (Nat × zC) := []
def O_X5_canServe : zO := fun j a S K => match j with
  | _ => False
theorem E_X5_canServe (l : Launch) : ∀ q ∈ B_X5_canServe, zcok l O_X5_canServe F_X5_canServe q.1 q.2 := fun _ h => by cases h
def U_X5_canServe : List (Nat × zE) := [(0, Sum.inl (4, 0, 0, 0, 1, [])), (1, Sum.inl (18, 5, 5, 0, 4, [])), (4, Sum.inl (0, 0, 0, 1, 5, [])), (5, Sum.inl (20, 0, 0, 0, 6, [])), (6, Sum.inl (4, 0, 0, 0, 7, [])), (7, Sum.inl (18, 5, 5, 0, 10, [])), (10, Sum.inl (0, 0, 0, 2, 11, [])), (11, Sum.inl (20, 0, 0, 0, 12, [])), (12, Sum.inl (9, 0, 0, 0, 13, [])), (13, Sum.inl (4, 0, 0, 0, 14, [])), (14, Sum.inl (18, 5, 5, 0, 17, [])), (17, Sum.inl (0, 0, 0, 3, 18, [])), (18, Sum.inl (20, 0, 0, 0, 19, [])), (19, Sum.inl (9, 0, 0, 0, 20, [])), (20, Sum.inl (5, 1, 0, 0, 21, [])), (21, Sum.inl (4, 0, 0, 0, 22, [])), (22, Sum.inl (18, 5, 5, 0, 25, [])), (25, Sum.inl (0, 0, 0, 0, 26, [])), (26, Sum.inl (20, 0, 0, 0, 27, [])), (27, Sum.inl (17, 0, 30, 0, 81, [])), (30, Sum.inl (4, 0, 0, 0, 31, [])), (31, Sum.inl (18, 5, 5, 0, 34, [])), (34, Sum.inl (0, 0, 0, 1, 35, [])), (35, Sum.inl (20, 0, 0, 0, 36, [])), (36, Sum.inl (4, 0, 0, 0, 37, [])), (37, Sum.inl (18, 5, 6, 0, 40, [])), (40, Sum.inl (0, 0, 0, 1, 41, [])), (41, Sum.inl (20, 0, 0, 0, 42, [])), (42, Sum.inl (16, 2, 81, 0, 45, [])), (45, Sum.inl (4, 0, 0, 0, 46, [])), (46, Sum.inl (18, 5, 5, 0, 49, [])), (49, Sum.inl (0, 0, 0, 2, 50, [])), (50, Sum.inl (20, 0, 0, 0, 51, [])), (51, Sum.inl (4, 0, 0, 0, 52, [])), (52, Sum.inl (18, 5, 6, 0, 55, [])), (55, Sum.inl (0, 0, 0, 2, 56, [])), (56, Sum.inl (20, 0, 0, 0, 57, [])), (57, Sum.inl (16, 2, 81, 0, 60, [])), (60, Sum.inl (2, 1, 0, 0, 61, [])), (61, Sum.inl (4, 0, 0, 0, 62, [])), (62, Sum.inl (18, 5, 6, 0, 65, [])), (65, Sum.inl (0, 0, 0, 1, 66, [])), (66, Sum.inl (20, 0, 0, 0, 67, [])), (67, Sum.inl (4, 0, 0, 0, 68, [])), (68, Sum.inl (18, 5, 6, 0, 71, [])), (71, Sum.inl (0, 0, 0, 2, 72, [])), (72, Sum.inl (20, 0, 0, 0, 73, [])), (73, Sum.inl (9, 0, 0, 0, 74, [])), (74, Sum.inl (16, 2, 81, 0, 77, [])), (77, Sum.inl (0, 0, 0, 1, 78, [])), (78, Sum.inl (15, 0, 0, 0, 82, [])), (81, Sum.inl (0, 0, 0, 0, 82, [])), (82, Sum.inl (27, 0, 0, 0, 83, []))]
theorem Z_X5_canServe (l : Launch) : ∀ q ∈ U_X5_canServe, zTok l O_X5_canServe F_X5_canServe q := zU_ok rfl rfl rfl K_X5_canServe (E_X5_canServe l)
def srC (S : zS) (L : Nat) (wn : Nat → Int) (sp : Nat → Nat) (l : Nat) : Prop := (∀ i, i < L → S 53 i = wn i) ∧ (∀ k, k < 2 * L → S 54 k = (sp k : Int)) ∧ (∀ m, m < 4 → S 55 m = (wtN wn L m l : Int)) ∧ (S 56 1 = (lfN sp L 1 : Int) ∧ S 56 2 = (lfN sp L 2 : Int)) ∧ lfN sp L 1 ≤ 1000 ∧ lfN sp L 2 ≤ 1000
theorem wt_le (wn : Nat → Int) (L m l : Nat) : wtN wn L m l ≤ L := by
  have := suN_le (f := fun i => if l ≤ i ∧ wn i = (m : Int) then 1 else 0) (b := 1) L (fun i _ => by show (if l ≤ i ∧ wn i = (m : Int) then 1 else 0) ≤ 1; split <;> omega)
  rw [Nat.mul_one] at this
  exact this
def wp_X5_canServe (a : List zV) (S : zS) (K : zR2 → zS → Prop) : Prop := match a with
  | [.inr (.inl c)] => ∃ a0 a1 a2 a3 s1 s2 : Nat, (c = 52 ∧ (S 55 0 = (a0 : Int) ∧ S 55 1 = (a1 : Int) ∧ S 55 2 = (a2 : Int) ∧ S 55 3 = (a3 : Int)) ∧ (S 56 1 = (s1 : Int) ∧ S 56 2 = (s2 : Int)) ∧ (a1 ≤ 1000 ∧ a2 ≤ 1000 ∧ a3 ≤ 1000 ∧ s1 ≤ 1000 ∧ s2 ≤ 1000)) ∧ K (.inl (some (.inl (bti (hlB a0 a1 a2 a3 s1 s2) : Int)))) S
  | _ => False
theorem R_X5_canServe (l : Launch) (a : List zV) (S : zS) (Q : zR2 → zS → Prop) (h : wp_X5_canServe a S Q) : zRs l 0 0 0 yX5_canServe (.code yX5_canServe cX5_canServe 2 (some .boolean)) a S Q := by
  unfold wp_X5_canServe at h
  split at h
  · obtain ⟨a0, a1, a2, a3, s1, s2, ⟨rfl, ⟨e0, e1, e2, e3⟩, ⟨f1, f2⟩, b1, b2, b3, b4, b5⟩, h⟩ := h
    have yes : hlP a0 a1 a2 a3 s1 s2 → Q (.inl (some (.inl 1))) S := fun c => by rw [hlB_iff.mpr c] at h; exact h
    have no : ¬ hlP a0 a1 a2 a3 s1 s2 → Q (.inl (some (.inl 0))) S := fun c => by
      have : hlB a0 a1 a2 a3 s1 s2 = false := by
        cases hb : hlB a0 a1 a2 a3 s1 s2
        · rfl
        · exact absurd (hlB_iff.mp hb) c
      rw [this] at h
      exact h
    unfold hlP at yes no
    refine zRs_of 5 (by decide) rfl rfl ?_; refine zwq_ok (Z_X5_canServe l) rfl [] (fun _ _ _ _ _ _ h => h) 400 (Z_X5_canServe l) ?_
    refine ⟨1, ⟨rfl, by omega⟩, 2, ⟨rfl, by omega⟩, by omega, 3, ⟨rfl, by omega⟩, by omega, 0, ⟨rfl, by omega⟩, fun c1 => ⟨1, ⟨rfl, by omega⟩, 1, ⟨rfl, by omega⟩, fun c2 => ⟨Or.inl rfl, no (by omega)⟩, fun c2 => ⟨2, ⟨rfl, by omega⟩, 2, ⟨rfl, by omega⟩, fun c3 => ⟨Or.inl rfl, no (by omega)⟩, fun c3 => ⟨1, ⟨rfl, by omega⟩, 2, ⟨rfl, by omega⟩, by omega, fun c4 => ⟨Or.inl rfl, no (by omega)⟩, fun c4 => ⟨Or.inr rfl, yes (by omega)⟩⟩⟩⟩, fun c1 => ⟨Or.inl rfl, no (by omega)⟩⟩
  · exact h.elim
def B_X5_canSpare : List (Nat × zC) := [(29, (0, 0, 0, 0, 0, 0, 5))]
def O_X5_canSpare : zO := fun j a S K => match j with
  | 0 => wp_X5_canServe a S K
  | _ => False
theorem E_X5_canSpare (l : Launch) : ∀ q ∈ B_X5_canSpare, zcok l O_X5_canSpare F_X5_canSpare q.1 q.2 := List.forall_mem_cons.mpr ⟨⟨66, yX5_canServe, cX5_canServe, 2, some .boolean, by decide +kernel, C_5_66, W_X5_canServe, I_X5_canServe, S_X5_canServe, rfl, rfl, R_X5_canServe l⟩, fun _ h => by cases h⟩
def U_X5_canSpare : List (Nat × zE) := [(0, Sum.inl (4, 0, 0, 0, 1, [])), (1, Sum.inl (18, 5, 4, 0, 4, [])), (4, Sum.inl (2, 1, 0, 0, 5, [])), (5, Sum.inl (0, 0, 0, 2, 6, [])), (6, Sum.inl (9, 2, 0, 0, 7, [])), (7, Sum.inl (2, 2, 0, 0, 8, [])), (8, Sum.inl (9, 0, 0, 0, 9, [])), (9, Sum.inl (0, 0, 0, 1, 10, [])), (10, Sum.inl (9, 1, 0, 0, 11, [])), (11, Sum.inl (20, 0, 0, 0, 12, [])), (12, Sum.inl (0, 0, 0, 1, 13, [])), (13, Sum.inl (16, 1, 16, 0, 18, [])), (16, Sum.inl (0, 0, 0, 0, 17, [])), (17, Sum.inl (27, 0, 0, 0, 18, [])), (18, Sum.inl (4, 0, 0, 0, 19, [])), (19, Sum.inl (18, 5, 6, 0, 22, [])), (22, Sum.inl (2, 2, 0, 0, 23, [])), (23, Sum.inl (13, 0, 0, 0, 24, [])), (24, Sum.inl (20, 0, 0, 0, 25, [])), (25, Sum.inl (0, 0, 0, 1, 26, [])), (26, Sum.inl (9, 1, 0, 0, 27, [])), (27, Sum.inl (21, 0, 0, 0, 28, [])), (28, Sum.inl (4, 0, 0, 0, 29, [])), (29, Sum.inr (0, 0, 0, 0, 0, 0, 5)), (32, Sum.inl (5, 3, 0, 0, 33, [])), (33, Sum.inl (4, 0, 0, 0, 34, [])), (34, Sum.inl (18, 5, 6, 0, 37, [])), (37, Sum.inl (2, 2, 0, 0, 38, [])), (38, Sum.inl (13, 0, 0, 0, 39, [])), (39, Sum.inl (20, 0, 0, 0, 40, [])), (40, Sum.inl (0, 0, 0, 1, 41, [])), (41, Sum.inl (9, 0, 0, 0, 42, [])), (42, Sum.inl (21, 0, 0, 0, 43, [])), (43, Sum.inl (2, 3, 0, 0, 44, [])), (44, Sum.inl (27, 0, 0, 0, 45, []))]
theorem Z_X5_canSpare (l : Launch) : ∀ q ∈ U_X5_canSpare, zTok l O_X5_canSpare F_X5_canSpare q := zU_ok rfl rfl rfl K_X5_canSpare (E_X5_canSpare l)
def wp_X5_canSpare (a : List zV) (S : zS) (K : zR2 → zS → Prop) : Prop := match a with
  | [.inr (.inl c), .inl x, .inl y] => ∃ (L : Nat) (wn : Nat → Int) (sp : Nat → Nat) (l w s : Nat), (c = 52 ∧ L ≤ 6 ∧ srC S L wn sp (l + 1) ∧ x = (w : Int) ∧ w < L ∧ y = (s : Int) ∧ (s = 1 ∨ s = 2)) ∧ K (.inl (some (.inl (bti (Nat.ble 1 (sp (2 * w + s - 1)) && HSB wn L (dnN sp (2 * w + s - 1)) (l + 1)) : Int)))) S
  | _ => False
theorem zu_back {S : zS} {c k : Nat} {v w : Int} (h : w = S c k) : zu (zu S c k v) c k w = S := by
  funext x j
  by_cases e : x = c ∧ j = k
  · rw [e.1, e.2, zuE, h]
  · rw [zuN (by omega), zuN (by omega)]
theorem R_X5_canSpare (l : Launch) (a : List zV) (S : zS) (Q : zR2 → zS → Prop) (h : wp_X5_canSpare a S Q) : zRs l 1 0 0 yX5_canSpare (.code yX5_canSpare cX5_canSpare 4 (some .boolean)) a S Q := by
  unfold wp_X5_canSpare at h
  split at h
  · obtain ⟨L, wn, sp, i, w, s, ⟨rfl, h6, ⟨r1, r2, r3, ⟨r4, r5⟩, r6, r7⟩, rfl, hw, rfl, hs⟩, h⟩ := h
    have e := r2 (2 * w + s - 1) (by omega)
    have b1 := wt_le wn L 1 (i + 1)
    have b2 := wt_le wn L 2 (i + 1)
    have b3 := wt_le wn L 3 (i + 1)
    refine zRs_of 5 (by decide) rfl rfl ?_; refine zwq_ok (Z_X5_canSpare l) rfl [] (fun _ _ _ _ _ _ h => h) 400 (Z_X5_canSpare l) ?_
    refine ⟨by omega, by omega, by omega, 2 * w + s - 1, ⟨by omega, by omega⟩, fun c => ⟨Or.inl rfl, ?_⟩, fun c => ?_⟩
    · have : Nat.ble 1 (sp (2 * w + s - 1)) = false := by
        cases hb : Nat.ble 1 (sp (2 * w + s - 1))
        · rfl
        · have := Nat.ble_eq.mp hb; omega
      rw [this] at h
      exact h
    · have hp : 1 ≤ sp (2 * w + s - 1) := by omega
      rw [Nat.ble_eq.mpr hp, Bool.true_and] at h
      rcases hs with rfl | rfl
      · have d1 := lf_dn (sp := sp) (L := L) (w := w) (s := 1) (Or.inl rfl) hw hp
        have d2 := lf_other (sp := sp) (L := L) (w := w) (s := 1) (s' := 2) (Or.inl rfl) (Or.inr rfl) (by decide)
        have hb := bti_le (HSB wn L (dnN sp (2 * w + 1 - 1)) (i + 1))
        refine ⟨1, ⟨rfl, by omega⟩, by omega, 1, ⟨rfl, by omega⟩, _, _, _, _, lfN (dnN sp (2 * w + 1 - 1)) L 1, lfN (dnN sp (2 * w + 1 - 1)) L 2, ⟨rfl, ⟨r3 0 (by omega), r3 1 (by omega), r3 2 (by omega), r3 3 (by omega)⟩, ⟨zuE.trans (by omega), by rw [d2]; exact r5⟩, by omega, by omega, by omega, by omega, by omega⟩, 1, ⟨rfl, by omega⟩, ?_, 1, ⟨rfl, by omega⟩, ?_, ?_⟩
        · rw [zuE]; omega
        · show bti (HSB wn L (dnN sp (2 * w + 1 - 1)) (i + 1)) = (0 : Int) ∨ (bti (HSB wn L (dnN sp (2 * w + 1 - 1)) (i + 1)) : Int) = 1
          omega
        · rw [zu_back (by rw [zuE]; omega)]
          exact h
      · have d1 := lf_dn (sp := sp) (L := L) (w := w) (s := 2) (Or.inr rfl) hw hp
        have d2 := lf_other (sp := sp) (L := L) (w := w) (s := 2) (s' := 1) (Or.inr rfl) (Or.inl rfl) (by decide)
        have hb := bti_le (HSB wn L (dnN sp (2 * w + 2 - 1)) (i + 1))
        refine ⟨2, ⟨rfl, by omega⟩, by omega, 2, ⟨rfl, by omega⟩, _, _, _, _, lfN (dnN sp (2 * w + 2 - 1)) L 1, lfN (dnN sp (2 * w + 2 - 1)) L 2, ⟨rfl, ⟨r3 0 (by omega), r3 1 (by omega), r3 2 (by omega), r3 3 (by omega)⟩, ⟨by rw [d2]; exact r4, zuE.trans (by omega)⟩, by omega, by omega, by omega, by omega, by omega⟩, 2, ⟨rfl, by omega⟩, ?_, 2, ⟨rfl, by omega⟩, ?_, ?_⟩
        · rw [zuE]; omega
        · show bti (HSB wn L (dnN sp (2 * w + 2 - 1)) (i + 1)) = (0 : Int) ∨ (bti (HSB wn L (dnN sp (2 * w + 2 - 1)) (i + 1)) : Int) = 1
          omega
        · rw [zu_back (by rw [zuE]; omega)]
          exact h
  · exact h.elim
