/-! image, restore -/
section
variable {S : zS} {a b n k x i j : Nat}
theorem zcp_at (h : k < n) : zcpI S a b n b k = S a k := by
  show (bif b == b && Nat.blt k n then S a k else S b k) = S a k
  rw [beq_self_eq_true, Bool.true_and, show Nat.blt k n = true from Nat.ble_eq.mpr h]; rfl
theorem zcp_ge (h : ¬ k < n) : zcpI S a b n b k = S b k := by
  show (bif b == b && Nat.blt k n then S a k else S b k) = S b k
  rw [show Nat.blt k n = false by
    cases hb : Nat.blt k n
    · rfl
    · exact absurd (Nat.ble_eq.mp hb) h, Bool.and_false]; rfl
theorem zcp_n (h : x ≠ b) : zcpI S a b n x k = S x k := by
  show (bif x == b && Nat.blt k n then S a k else S x k) = S x k
  rw [show (x == b) = false by simpa using h]; rfl
theorem zcp_s (h : a ≠ b) : zu (zcpI S a b j) b j (zcpI S a b j a j) = zcpI S a b (j + 1) := by
  funext x i
  by_cases hx : x = b
  · subst hx
    by_cases hi : i = j
    · subst hi; rw [zuE, zcp_at (Nat.lt_succ_self i), zcp_n h]
    · rw [zuN (Or.inr hi)]
      by_cases hl : i < j
      · rw [zcp_at hl, zcp_at (by omega)]
      · rw [zcp_ge hl, zcp_ge (by omega)]
  · rw [zuN (Or.inl hx), zcp_n hx, zcp_n hx]
theorem zcp_0 : zcpI S a b 0 = S := by
  funext x i
  by_cases hx : x = b
  · subst hx; exact zcp_ge (Nat.not_lt_zero i)
  · exact zcp_n hx
theorem frC.cp {S' : zS} (h : frC S S') (h2 : b < 62) : frC S (zcpI S' a b n) := by
  intro x hx
  rw [← h x hx]
  exact funext fun j => zcp_n (by omega)
theorem frM.cp {S' : zS} (h : frM S S') (h1 : 62 ≤ b) (h2 : b < 102) : frM S (zcpI S' a b n) := by
  intro x hx
  rw [← h x hx]
  exact funext fun j => zcp_n (by omega)
end
def B_X12_copies : List (Nat × zC) := []
def O_X12_copies : zO := fun j a S K => match j with
  | _ => False
theorem E_X12_copies (l : Launch) : ∀ q ∈ B_X12_copies, zcok l O_X12_copies F_X12_copies q.1 q.2 := fun _ h => by cases h
def U_X12_copies : List (Nat × zE) := [(0, Sum.inl (0, 0, 0, 0, 1, [])), (1, Sum.inl (5, 3, 0, 0, 2, [])), (2, Sum.inl (2, 3, 0, 0, 3, [])), (3, Sum.inl (4, 1, 0, 0, 4, [])), (4, Sum.inl (26, 0, 0, 0, 5, [])), (5, Sum.inl (16, 1, 8, 0, 20, [])), (8, Sum.inl (4, 2, 0, 0, 9, [])), (9, Sum.inl (2, 3, 0, 0, 10, [])), (10, Sum.inl (4, 1, 0, 0, 11, [])), (11, Sum.inl (2, 3, 0, 0, 12, [])), (12, Sum.inl (20, 0, 0, 0, 13, [])), (13, Sum.inl (21, 0, 0, 0, 14, [])), (14, Sum.inl (8, 3, 0, 1, 17, [])), (17, Sum.inl (15, 0, 0, 0, 2, [])), (20, Sum.inl (29, 0, 0, 0, 21, []))]
theorem Z_X12_copies (l : Launch) : ∀ q ∈ U_X12_copies, zTok l O_X12_copies F_X12_copies q := zU_ok rfl rfl rfl K_X12_copies (E_X12_copies l)
def cpT : List (Nat × Nat × Nat) := [(79, 98, 36), (82, 99, 8), (80, 100, 144), (81, 101, 72), (98, 79, 36), (99, 82, 8), (100, 80, 144), (101, 81, 72), (72, 63, 8), (73, 64, 8), (74, 65, 6), (75, 66, 12), (76, 67, 3), (77, 68, 4), (86, 85, 8), (88, 89, 6), (91, 92, 3), (94, 95, 6)]
def cpL : List (Nat × Nat × Nat) → Nat → Nat → (Nat → Prop) → Prop
  | [], _, _, _ => False
  | (a, b, n) :: r, p, q, k => bif Nat.beq p a && Nat.beq q b then k n else cpL r p q k
theorem cpL_ok {p q : Nat} {k : Nat → Prop} : ∀ {T : List (Nat × Nat × Nat)}, cpL T p q k → ∃ n, (p, q, n) ∈ T ∧ k n := by
  intro T
  induction T with
  | nil => intro h; exact h.elim
  | cons t r ih =>
    obtain ⟨a, b, n⟩ := t
    intro h
    unfold cpL at h
    cases h1 : Nat.beq p a && Nat.beq q b with
    | true =>
      rw [h1] at h
      have h2 := Bool.and_eq_true_iff.mp h1
      rw [Nat.eq_of_beq_eq_true h2.1, Nat.eq_of_beq_eq_true h2.2]
      exact ⟨n, List.mem_cons_self, h⟩
    | false =>
      rw [h1] at h
      obtain ⟨m, hm, hk⟩ := ih h
      exact ⟨m, List.mem_cons_of_mem _ hm, hk⟩
def wp_X12_copies (a : List zV) (S : zS) (K : zR2 → zS → Prop) : Prop := match a with
  | [.inr (.inl _), .inr (.inl p), .inr (.inl q)] => cpL cpT p q (fun n => K (.inl none) (zcpI S p q n))
  | _ => False
theorem L_cp_79_98 {l : Launch} {S : zS} {Q : zR2 → zS → Prop} {c : Nat} (h : Q (.inl none) (zcpI S 79 98 36)) (f : Nat) : ∀ j, j + f = 36 → zGs l 0 0 0 F_X12_copies (zcpI S 79 98 j) 2 [(0, .inr (.inl c)), (1, .inr (.inl 79)), (2, .inr (.inl 98)), (3, .inl (j : Int))] [] Q := by
  induction f with
  | zero =>
    intro j hj
    have : j = 36 := by omega
    subst this
    refine zwq_ok (Z_X12_copies l) rfl [2] (fun _ _ _ _ _ _ h => h) 400 (Z_X12_copies l) ?_
    exact ⟨fun c => by omega, fun c => h⟩
  | succ f ih =>
    intro j hj
    have this := ih (j + 1) (by omega)
    rw [← zcp_s (by decide)] at this
    refine zwq_ok (Z_X12_copies l) rfl [2] (fun _ _ _ _ _ _ h => h) 400 (Z_X12_copies l) ?_
    exact ⟨fun c => ⟨j, ⟨rfl, by omega⟩, j, ⟨rfl, by omega⟩, by omega, this⟩, fun c => by omega⟩
theorem L_cp_82_99 {l : Launch} {S : zS} {Q : zR2 → zS → Prop} {c : Nat} (h : Q (.inl none) (zcpI S 82 99 8)) (f : Nat) : ∀ j, j + f = 8 → zGs l 0 0 0 F_X12_copies (zcpI S 82 99 j) 2 [(0, .inr (.inl c)), (1, .inr (.inl 82)), (2, .inr (.inl 99)), (3, .inl (j : Int))] [] Q := by
  induction f with
  | zero =>
    intro j hj
    have : j = 8 := by omega
    subst this
    refine zwq_ok (Z_X12_copies l) rfl [2] (fun _ _ _ _ _ _ h => h) 400 (Z_X12_copies l) ?_
    exact ⟨fun c => by omega, fun c => h⟩
  | succ f ih =>
    intro j hj
    have this := ih (j + 1) (by omega)
    rw [← zcp_s (by decide)] at this
    refine zwq_ok (Z_X12_copies l) rfl [2] (fun _ _ _ _ _ _ h => h) 400 (Z_X12_copies l) ?_
    exact ⟨fun c => ⟨j, ⟨rfl, by omega⟩, j, ⟨rfl, by omega⟩, by omega, this⟩, fun c => by omega⟩
theorem L_cp_80_100 {l : Launch} {S : zS} {Q : zR2 → zS → Prop} {c : Nat} (h : Q (.inl none) (zcpI S 80 100 144)) (f : Nat) : ∀ j, j + f = 144 → zGs l 0 0 0 F_X12_copies (zcpI S 80 100 j) 2 [(0, .inr (.inl c)), (1, .inr (.inl 80)), (2, .inr (.inl 100)), (3, .inl (j : Int))] [] Q := by
  induction f with
  | zero =>
    intro j hj
    have : j = 144 := by omega
    subst this
    refine zwq_ok (Z_X12_copies l) rfl [2] (fun _ _ _ _ _ _ h => h) 400 (Z_X12_copies l) ?_
    exact ⟨fun c => by omega, fun c => h⟩
  | succ f ih =>
    intro j hj
    have this := ih (j + 1) (by omega)
    rw [← zcp_s (by decide)] at this
    refine zwq_ok (Z_X12_copies l) rfl [2] (fun _ _ _ _ _ _ h => h) 400 (Z_X12_copies l) ?_
    exact ⟨fun c => ⟨j, ⟨rfl, by omega⟩, j, ⟨rfl, by omega⟩, by omega, this⟩, fun c => by omega⟩
theorem L_cp_81_101 {l : Launch} {S : zS} {Q : zR2 → zS → Prop} {c : Nat} (h : Q (.inl none) (zcpI S 81 101 72)) (f : Nat) : ∀ j, j + f = 72 → zGs l 0 0 0 F_X12_copies (zcpI S 81 101 j) 2 [(0, .inr (.inl c)), (1, .inr (.inl 81)), (2, .inr (.inl 101)), (3, .inl (j : Int))] [] Q := by
  induction f with
  | zero =>
    intro j hj
    have : j = 72 := by omega
    subst this
    refine zwq_ok (Z_X12_copies l) rfl [2] (fun _ _ _ _ _ _ h => h) 400 (Z_X12_copies l) ?_
    exact ⟨fun c => by omega, fun c => h⟩
  | succ f ih =>
    intro j hj
    have this := ih (j + 1) (by omega)
    rw [← zcp_s (by decide)] at this
    refine zwq_ok (Z_X12_copies l) rfl [2] (fun _ _ _ _ _ _ h => h) 400 (Z_X12_copies l) ?_
    exact ⟨fun c => ⟨j, ⟨rfl, by omega⟩, j, ⟨rfl, by omega⟩, by omega, this⟩, fun c => by omega⟩
theorem L_cp_98_79 {l : Launch} {S : zS} {Q : zR2 → zS → Prop} {c : Nat} (h : Q (.inl none) (zcpI S 98 79 36)) (f : Nat) : ∀ j, j + f = 36 → zGs l 0 0 0 F_X12_copies (zcpI S 98 79 j) 2 [(0, .inr (.inl c)), (1, .inr (.inl 98)), (2, .inr (.inl 79)), (3, .inl (j : Int))] [] Q := by
  induction f with
  | zero =>
    intro j hj
    have : j = 36 := by omega
    subst this
    refine zwq_ok (Z_X12_copies l) rfl [2] (fun _ _ _ _ _ _ h => h) 400 (Z_X12_copies l) ?_
    exact ⟨fun c => by omega, fun c => h⟩
  | succ f ih =>
    intro j hj
    have this := ih (j + 1) (by omega)
    rw [← zcp_s (by decide)] at this
    refine zwq_ok (Z_X12_copies l) rfl [2] (fun _ _ _ _ _ _ h => h) 400 (Z_X12_copies l) ?_
    exact ⟨fun c => ⟨j, ⟨rfl, by omega⟩, j, ⟨rfl, by omega⟩, by omega, this⟩, fun c => by omega⟩
theorem L_cp_99_82 {l : Launch} {S : zS} {Q : zR2 → zS → Prop} {c : Nat} (h : Q (.inl none) (zcpI S 99 82 8)) (f : Nat) : ∀ j, j + f = 8 → zGs l 0 0 0 F_X12_copies (zcpI S 99 82 j) 2 [(0, .inr (.inl c)), (1, .inr (.inl 99)), (2, .inr (.inl 82)), (3, .inl (j : Int))] [] Q := by
  induction f with
  | zero =>
    intro j hj
    have : j = 8 := by omega
    subst this
    refine zwq_ok (Z_X12_copies l) rfl [2] (fun _ _ _ _ _ _ h => h) 400 (Z_X12_copies l) ?_
    exact ⟨fun c => by omega, fun c => h⟩
  | succ f ih =>
    intro j hj
    have this := ih (j + 1) (by omega)
    rw [← zcp_s (by decide)] at this
    refine zwq_ok (Z_X12_copies l) rfl [2] (fun _ _ _ _ _ _ h => h) 400 (Z_X12_copies l) ?_
    exact ⟨fun c => ⟨j, ⟨rfl, by omega⟩, j, ⟨rfl, by omega⟩, by omega, this⟩, fun c => by omega⟩
theorem L_cp_100_80 {l : Launch} {S : zS} {Q : zR2 → zS → Prop} {c : Nat} (h : Q (.inl none) (zcpI S 100 80 144)) (f : Nat) : ∀ j, j + f = 144 → zGs l 0 0 0 F_X12_copies (zcpI S 100 80 j) 2 [(0, .inr (.inl c)), (1, .inr (.inl 100)), (2, .inr (.inl 80)), (3, .inl (j : Int))] [] Q := by
  induction f with
  | zero =>
    intro j hj
    have : j = 144 := by omega
    subst this
    refine zwq_ok (Z_X12_copies l) rfl [2] (fun _ _ _ _ _ _ h => h) 400 (Z_X12_copies l) ?_
    exact ⟨fun c => by omega, fun c => h⟩
  | succ f ih =>
    intro j hj
    have this := ih (j + 1) (by omega)
    rw [← zcp_s (by decide)] at this
    refine zwq_ok (Z_X12_copies l) rfl [2] (fun _ _ _ _ _ _ h => h) 400 (Z_X12_copies l) ?_
    exact ⟨fun c => ⟨j, ⟨rfl, by omega⟩, j, ⟨rfl, by omega⟩, by omega, this⟩, fun c => by omega⟩
theorem L_cp_101_81 {l : Launch} {S : zS} {Q : zR2 → zS → Prop} {c : Nat} (h : Q (.inl none) (zcpI S 101 81 72)) (f : Nat) : ∀ j, j + f = 72 → zGs l 0 0 0 F_X12_copies (zcpI S 101 81 j) 2 [(0, .inr (.inl c)), (1, .inr (.inl 101)), (2, .inr (.inl 81)), (3, .inl (j : Int))] [] Q := by
  induction f with
  | zero =>
    intro j hj
    have : j = 72 := by omega
    subst this
    refine zwq_ok (Z_X12_copies l) rfl [2] (fun _ _ _ _ _ _ h => h) 400 (Z_X12_copies l) ?_
    exact ⟨fun c => by omega, fun c => h⟩
  | succ f ih =>
    intro j hj
    have this := ih (j + 1) (by omega)
    rw [← zcp_s (by decide)] at this
    refine zwq_ok (Z_X12_copies l) rfl [2] (fun _ _ _ _ _ _ h => h) 400 (Z_X12_copies l) ?_
    exact ⟨fun c => ⟨j, ⟨rfl, by omega⟩, j, ⟨rfl, by omega⟩, by omega, this⟩, fun c => by omega⟩
theorem L_cp_72_63 {l : Launch} {S : zS} {Q : zR2 → zS → Prop} {c : Nat} (h : Q (.inl none) (zcpI S 72 63 8)) (f : Nat) : ∀ j, j + f = 8 → zGs l 0 0 0 F_X12_copies (zcpI S 72 63 j) 2 [(0, .inr (.inl c)), (1, .inr (.inl 72)), (2, .inr (.inl 63)), (3, .inl (j : Int))] [] Q := by
  induction f with
  | zero =>
    intro j hj
    have : j = 8 := by omega
    subst this
    refine zwq_ok (Z_X12_copies l) rfl [2] (fun _ _ _ _ _ _ h => h) 400 (Z_X12_copies l) ?_
    exact ⟨fun c => by omega, fun c => h⟩
  | succ f ih =>
    intro j hj
    have this := ih (j + 1) (by omega)
    rw [← zcp_s (by decide)] at this
    refine zwq_ok (Z_X12_copies l) rfl [2] (fun _ _ _ _ _ _ h => h) 400 (Z_X12_copies l) ?_
    exact ⟨fun c => ⟨j, ⟨rfl, by omega⟩, j, ⟨rfl, by omega⟩, by omega, this⟩, fun c => by omega⟩
theorem L_cp_73_64 {l : Launch} {S : zS} {Q : zR2 → zS → Prop} {c : Nat} (h : Q (.inl none) (zcpI S 73 64 8)) (f : Nat) : ∀ j, j + f = 8 → zGs l 0 0 0 F_X12_copies (zcpI S 73 64 j) 2 [(0, .inr (.inl c)), (1, .inr (.inl 73)), (2, .inr (.inl 64)), (3, .inl (j : Int))] [] Q := by
  induction f with
  | zero =>
    intro j hj
    have : j = 8 := by omega
    subst this
    refine zwq_ok (Z_X12_copies l) rfl [2] (fun _ _ _ _ _ _ h => h) 400 (Z_X12_copies l) ?_
    exact ⟨fun c => by omega, fun c => h⟩
  | succ f ih =>
    intro j hj
    have this := ih (j + 1) (by omega)
    rw [← zcp_s (by decide)] at this
    refine zwq_ok (Z_X12_copies l) rfl [2] (fun _ _ _ _ _ _ h => h) 400 (Z_X12_copies l) ?_
    exact ⟨fun c => ⟨j, ⟨rfl, by omega⟩, j, ⟨rfl, by omega⟩, by omega, this⟩, fun c => by omega⟩
theorem L_cp_74_65 {l : Launch} {S : zS} {Q : zR2 → zS → Prop} {c : Nat} (h : Q (.inl none) (zcpI S 74 65 6)) (f : Nat) : ∀ j, j + f = 6 → zGs l 0 0 0 F_X12_copies (zcpI S 74 65 j) 2 [(0, .inr (.inl c)), (1, .inr (.inl 74)), (2, .inr (.inl 65)), (3, .inl (j : Int))] [] Q := by
  induction f with
  | zero =>
    intro j hj
    have : j = 6 := by omega
    subst this
    refine zwq_ok (Z_X12_copies l) rfl [2] (fun _ _ _ _ _ _ h => h) 400 (Z_X12_copies l) ?_
    exact ⟨fun c => by omega, fun c => h⟩
  | succ f ih =>
    intro j hj
    have this := ih (j + 1) (by omega)
    rw [← zcp_s (by decide)] at this
    refine zwq_ok (Z_X12_copies l) rfl [2] (fun _ _ _ _ _ _ h => h) 400 (Z_X12_copies l) ?_
    exact ⟨fun c => ⟨j, ⟨rfl, by omega⟩, j, ⟨rfl, by omega⟩, by omega, this⟩, fun c => by omega⟩
theorem L_cp_75_66 {l : Launch} {S : zS} {Q : zR2 → zS → Prop} {c : Nat} (h : Q (.inl none) (zcpI S 75 66 12)) (f : Nat) : ∀ j, j + f = 12 → zGs l 0 0 0 F_X12_copies (zcpI S 75 66 j) 2 [(0, .inr (.inl c)), (1, .inr (.inl 75)), (2, .inr (.inl 66)), (3, .inl (j : Int))] [] Q := by
  induction f with
  | zero =>
    intro j hj
    have : j = 12 := by omega
    subst this
    refine zwq_ok (Z_X12_copies l) rfl [2] (fun _ _ _ _ _ _ h => h) 400 (Z_X12_copies l) ?_
    exact ⟨fun c => by omega, fun c => h⟩
  | succ f ih =>
    intro j hj
    have this := ih (j + 1) (by omega)
    rw [← zcp_s (by decide)] at this
    refine zwq_ok (Z_X12_copies l) rfl [2] (fun _ _ _ _ _ _ h => h) 400 (Z_X12_copies l) ?_
    exact ⟨fun c => ⟨j, ⟨rfl, by omega⟩, j, ⟨rfl, by omega⟩, by omega, this⟩, fun c => by omega⟩
theorem L_cp_76_67 {l : Launch} {S : zS} {Q : zR2 → zS → Prop} {c : Nat} (h : Q (.inl none) (zcpI S 76 67 3)) (f : Nat) : ∀ j, j + f = 3 → zGs l 0 0 0 F_X12_copies (zcpI S 76 67 j) 2 [(0, .inr (.inl c)), (1, .inr (.inl 76)), (2, .inr (.inl 67)), (3, .inl (j : Int))] [] Q := by
  induction f with
  | zero =>
    intro j hj
    have : j = 3 := by omega
    subst this
    refine zwq_ok (Z_X12_copies l) rfl [2] (fun _ _ _ _ _ _ h => h) 400 (Z_X12_copies l) ?_
    exact ⟨fun c => by omega, fun c => h⟩
  | succ f ih =>
    intro j hj
    have this := ih (j + 1) (by omega)
    rw [← zcp_s (by decide)] at this
    refine zwq_ok (Z_X12_copies l) rfl [2] (fun _ _ _ _ _ _ h => h) 400 (Z_X12_copies l) ?_
    exact ⟨fun c => ⟨j, ⟨rfl, by omega⟩, j, ⟨rfl, by omega⟩, by omega, this⟩, fun c => by omega⟩
theorem L_cp_77_68 {l : Launch} {S : zS} {Q : zR2 → zS → Prop} {c : Nat} (h : Q (.inl none) (zcpI S 77 68 4)) (f : Nat) : ∀ j, j + f = 4 → zGs l 0 0 0 F_X12_copies (zcpI S 77 68 j) 2 [(0, .inr (.inl c)), (1, .inr (.inl 77)), (2, .inr (.inl 68)), (3, .inl (j : Int))] [] Q := by
  induction f with
  | zero =>
    intro j hj
    have : j = 4 := by omega
    subst this
    refine zwq_ok (Z_X12_copies l) rfl [2] (fun _ _ _ _ _ _ h => h) 400 (Z_X12_copies l) ?_
    exact ⟨fun c => by omega, fun c => h⟩
  | succ f ih =>
    intro j hj
    have this := ih (j + 1) (by omega)
    rw [← zcp_s (by decide)] at this
    refine zwq_ok (Z_X12_copies l) rfl [2] (fun _ _ _ _ _ _ h => h) 400 (Z_X12_copies l) ?_
    exact ⟨fun c => ⟨j, ⟨rfl, by omega⟩, j, ⟨rfl, by omega⟩, by omega, this⟩, fun c => by omega⟩
theorem L_cp_86_85 {l : Launch} {S : zS} {Q : zR2 → zS → Prop} {c : Nat} (h : Q (.inl none) (zcpI S 86 85 8)) (f : Nat) : ∀ j, j + f = 8 → zGs l 0 0 0 F_X12_copies (zcpI S 86 85 j) 2 [(0, .inr (.inl c)), (1, .inr (.inl 86)), (2, .inr (.inl 85)), (3, .inl (j : Int))] [] Q := by
  induction f with
  | zero =>
    intro j hj
    have : j = 8 := by omega
    subst this
    refine zwq_ok (Z_X12_copies l) rfl [2] (fun _ _ _ _ _ _ h => h) 400 (Z_X12_copies l) ?_
    exact ⟨fun c => by omega, fun c => h⟩
  | succ f ih =>
    intro j hj
    have this := ih (j + 1) (by omega)
    rw [← zcp_s (by decide)] at this
    refine zwq_ok (Z_X12_copies l) rfl [2] (fun _ _ _ _ _ _ h => h) 400 (Z_X12_copies l) ?_
    exact ⟨fun c => ⟨j, ⟨rfl, by omega⟩, j, ⟨rfl, by omega⟩, by omega, this⟩, fun c => by omega⟩
theorem L_cp_88_89 {l : Launch} {S : zS} {Q : zR2 → zS → Prop} {c : Nat} (h : Q (.inl none) (zcpI S 88 89 6)) (f : Nat) : ∀ j, j + f = 6 → zGs l 0 0 0 F_X12_copies (zcpI S 88 89 j) 2 [(0, .inr (.inl c)), (1, .inr (.inl 88)), (2, .inr (.inl 89)), (3, .inl (j : Int))] [] Q := by
  induction f with
  | zero =>
    intro j hj
    have : j = 6 := by omega
    subst this
    refine zwq_ok (Z_X12_copies l) rfl [2] (fun _ _ _ _ _ _ h => h) 400 (Z_X12_copies l) ?_
    exact ⟨fun c => by omega, fun c => h⟩
  | succ f ih =>
    intro j hj
    have this := ih (j + 1) (by omega)
    rw [← zcp_s (by decide)] at this
    refine zwq_ok (Z_X12_copies l) rfl [2] (fun _ _ _ _ _ _ h => h) 400 (Z_X12_copies l) ?_
    exact ⟨fun c => ⟨j, ⟨rfl, by omega⟩, j, ⟨rfl, by omega⟩, by omega, this⟩, fun c => by omega⟩
theorem L_cp_91_92 {l : Launch} {S : zS} {Q : zR2 → zS → Prop} {c : Nat} (h : Q (.inl none) (zcpI S 91 92 3)) (f : Nat) : ∀ j, j + f = 3 → zGs l 0 0 0 F_X12_copies (zcpI S 91 92 j) 2 [(0, .inr (.inl c)), (1, .inr (.inl 91)), (2, .inr (.inl 92)), (3, .inl (j : Int))] [] Q := by
  induction f with
  | zero =>
    intro j hj
    have : j = 3 := by omega
    subst this
    refine zwq_ok (Z_X12_copies l) rfl [2] (fun _ _ _ _ _ _ h => h) 400 (Z_X12_copies l) ?_
    exact ⟨fun c => by omega, fun c => h⟩
  | succ f ih =>
    intro j hj
    have this := ih (j + 1) (by omega)
    rw [← zcp_s (by decide)] at this
    refine zwq_ok (Z_X12_copies l) rfl [2] (fun _ _ _ _ _ _ h => h) 400 (Z_X12_copies l) ?_
    exact ⟨fun c => ⟨j, ⟨rfl, by omega⟩, j, ⟨rfl, by omega⟩, by omega, this⟩, fun c => by omega⟩
theorem L_cp_94_95 {l : Launch} {S : zS} {Q : zR2 → zS → Prop} {c : Nat} (h : Q (.inl none) (zcpI S 94 95 6)) (f : Nat) : ∀ j, j + f = 6 → zGs l 0 0 0 F_X12_copies (zcpI S 94 95 j) 2 [(0, .inr (.inl c)), (1, .inr (.inl 94)), (2, .inr (.inl 95)), (3, .inl (j : Int))] [] Q := by
  induction f with
  | zero =>
    intro j hj
    have : j = 6 := by omega
    subst this
    refine zwq_ok (Z_X12_copies l) rfl [2] (fun _ _ _ _ _ _ h => h) 400 (Z_X12_copies l) ?_
    exact ⟨fun c => by omega, fun c => h⟩
  | succ f ih =>
    intro j hj
    have this := ih (j + 1) (by omega)
    rw [← zcp_s (by decide)] at this
    refine zwq_ok (Z_X12_copies l) rfl [2] (fun _ _ _ _ _ _ h => h) 400 (Z_X12_copies l) ?_
    exact ⟨fun c => ⟨j, ⟨rfl, by omega⟩, j, ⟨rfl, by omega⟩, by omega, this⟩, fun c => by omega⟩
theorem R_X12_copies (l : Launch) (a : List zV) (S : zS) (Q : zR2 → zS → Prop) (h : wp_X12_copies a S Q) : zRs l 0 0 0 yX12_copies (.code yX12_copies cX12_copies 4 (none)) a S Q := by
  unfold wp_X12_copies at h
  split at h
  · rename_i c p q
    obtain ⟨n, hm, h⟩ := cpL_ok h
    refine zRs_of 12 (by decide) rfl rfl ?_; refine zwq_ok (Z_X12_copies l) rfl [2] (fun _ _ _ _ _ _ h => h) 400 (Z_X12_copies l) ?_
    have e0 : ∀ a b, S = zcpI S a b 0 := fun a b => zcp_0.symm
    have hm : (p = 79 ∧ q = 98 ∧ n = 36) ∨ (p = 82 ∧ q = 99 ∧ n = 8) ∨ (p = 80 ∧ q = 100 ∧ n = 144) ∨ (p = 81 ∧ q = 101 ∧ n = 72) ∨ (p = 98 ∧ q = 79 ∧ n = 36) ∨ (p = 99 ∧ q = 82 ∧ n = 8) ∨ (p = 100 ∧ q = 80 ∧ n = 144) ∨ (p = 101 ∧ q = 81 ∧ n = 72) ∨ (p = 72 ∧ q = 63 ∧ n = 8) ∨ (p = 73 ∧ q = 64 ∧ n = 8) ∨ (p = 74 ∧ q = 65 ∧ n = 6) ∨ (p = 75 ∧ q = 66 ∧ n = 12) ∨ (p = 76 ∧ q = 67 ∧ n = 3) ∨ (p = 77 ∧ q = 68 ∧ n = 4) ∨ (p = 86 ∧ q = 85 ∧ n = 8) ∨ (p = 88 ∧ q = 89 ∧ n = 6) ∨ (p = 91 ∧ q = 92 ∧ n = 3) ∨ (p = 94 ∧ q = 95 ∧ n = 6) := by
      simpa [cpT] using hm
    rcases hm with ⟨rfl, rfl, rfl⟩ | ⟨rfl, rfl, rfl⟩ | ⟨rfl, rfl, rfl⟩ | ⟨rfl, rfl, rfl⟩ | ⟨rfl, rfl, rfl⟩ | ⟨rfl, rfl, rfl⟩ | ⟨rfl, rfl, rfl⟩ | ⟨rfl, rfl, rfl⟩ | ⟨rfl, rfl, rfl⟩ | ⟨rfl, rfl, rfl⟩ | ⟨rfl, rfl, rfl⟩ | ⟨rfl, rfl, rfl⟩ | ⟨rfl, rfl, rfl⟩ | ⟨rfl, rfl, rfl⟩ | ⟨rfl, rfl, rfl⟩ | ⟨rfl, rfl, rfl⟩ | ⟨rfl, rfl, rfl⟩ | ⟨rfl, rfl, rfl⟩
    · have := L_cp_79_98 (l := l) (c := c) h 36 0 (by omega)
      rw [← e0] at this
      exact this
    · have := L_cp_82_99 (l := l) (c := c) h 8 0 (by omega)
      rw [← e0] at this
      exact this
    · have := L_cp_80_100 (l := l) (c := c) h 144 0 (by omega)
      rw [← e0] at this
      exact this
    · have := L_cp_81_101 (l := l) (c := c) h 72 0 (by omega)
      rw [← e0] at this
      exact this
    · have := L_cp_98_79 (l := l) (c := c) h 36 0 (by omega)
      rw [← e0] at this
      exact this
    · have := L_cp_99_82 (l := l) (c := c) h 8 0 (by omega)
      rw [← e0] at this
      exact this
    · have := L_cp_100_80 (l := l) (c := c) h 144 0 (by omega)
      rw [← e0] at this
      exact this
    · have := L_cp_101_81 (l := l) (c := c) h 72 0 (by omega)
      rw [← e0] at this
      exact this
    · have := L_cp_72_63 (l := l) (c := c) h 8 0 (by omega)
      rw [← e0] at this
      exact this
    · have := L_cp_73_64 (l := l) (c := c) h 8 0 (by omega)
      rw [← e0] at this
      exact this
    · have := L_cp_74_65 (l := l) (c := c) h 6 0 (by omega)
      rw [← e0] at this
      exact this
    · have := L_cp_75_66 (l := l) (c := c) h 12 0 (by omega)
      rw [← e0] at this
      exact this
    · have := L_cp_76_67 (l := l) (c := c) h 3 0 (by omega)
      rw [← e0] at this
      exact this
    · have := L_cp_77_68 (l := l) (c := c) h 4 0 (by omega)
      rw [← e0] at this
      exact this
    · have := L_cp_86_85 (l := l) (c := c) h 8 0 (by omega)
      rw [← e0] at this
      exact this
    · have := L_cp_88_89 (l := l) (c := c) h 6 0 (by omega)
      rw [← e0] at this
      exact this
    · have := L_cp_91_92 (l := l) (c := c) h 3 0 (by omega)
      rw [← e0] at this
      exact this
    · have := L_cp_94_95 (l := l) (c := c) h 6 0 (by omega)
      rw [← e0] at this
      exact this
  · exact h.elim
def B_X0_copyFrom : List (Nat × zC) := [(12, (8, 0, 0, 0, 0, 0, 0)), (27, (8, 0, 0, 0, 0, 0, 0)), (42, (8, 0, 0, 0, 0, 0, 0)), (57, (8, 0, 0, 0, 0, 0, 0)), (73, (8, 0, 0, 0, 0, 0, 0)), (88, (8, 0, 0, 0, 0, 0, 0)), (103, (8, 0, 0, 0, 0, 0, 0))]
def O_X0_copyFrom : zO := fun j a S K => match j with
  | _ => False
theorem E_X0_copyFrom (l : Launch) : ∀ q ∈ B_X0_copyFrom, zcok l O_X0_copyFrom F_X0_copyFrom q.1 q.2 := List.forall_mem_cons.mpr ⟨⟨64, by decide +kernel, z_at 532 (by decide +kernel) (by decide +kernel)⟩, List.forall_mem_cons.mpr ⟨⟨64, by decide +kernel, z_at 532 (by decide +kernel) (by decide +kernel)⟩, List.forall_mem_cons.mpr ⟨⟨64, by decide +kernel, z_at 532 (by decide +kernel) (by decide +kernel)⟩, List.forall_mem_cons.mpr ⟨⟨64, by decide +kernel, z_at 532 (by decide +kernel) (by decide +kernel)⟩, List.forall_mem_cons.mpr ⟨⟨64, by decide +kernel, z_at 532 (by decide +kernel) (by decide +kernel)⟩, List.forall_mem_cons.mpr ⟨⟨64, by decide +kernel, z_at 532 (by decide +kernel) (by decide +kernel)⟩, List.forall_mem_cons.mpr ⟨⟨64, by decide +kernel, z_at 532 (by decide +kernel) (by decide +kernel)⟩, fun _ h => by cases h⟩⟩⟩⟩⟩⟩⟩
def U_X0_copyFrom : List (Nat × zE) := [(0, Sum.inl (4, 1, 0, 0, 1, [])), (1, Sum.inl (18, 0, 0, 0, 4, [])), (4, Sum.inl (0, 0, 0, 0, 5, [])), (5, Sum.inl (4, 0, 0, 0, 6, [])), (6, Sum.inl (18, 0, 0, 0, 9, [])), (9, Sum.inl (0, 0, 0, 0, 10, [])), (10, Sum.inl (0, 0, 0, 12, 12, [])), (12, Sum.inr (8, 0, 0, 0, 0, 0, 0)), (15, Sum.inl (4, 1, 0, 0, 16, [])), (16, Sum.inl (18, 0, 1, 0, 19, [])), (19, Sum.inl (0, 0, 0, 0, 20, [])), (20, Sum.inl (4, 0, 0, 0, 21, [])), (21, Sum.inl (18, 0, 1, 0, 24, [])), (24, Sum.inl (0, 0, 0, 0, 25, [])), (25, Sum.inl (0, 0, 0, 12, 27, [])), (27, Sum.inr (8, 0, 0, 0, 0, 0, 0)), (30, Sum.inl (4, 1, 0, 0, 31, [])), (31, Sum.inl (18, 0, 2, 0, 34, [])), (34, Sum.inl (0, 0, 0, 0, 35, [])), (35, Sum.inl (4, 0, 0, 0, 36, [])), (36, Sum.inl (18, 0, 2, 0, 39, [])), (39, Sum.inl (0, 0, 0, 0, 40, [])), (40, Sum.inl (0, 0, 0, 12, 42, [])), (42, Sum.inr (8, 0, 0, 0, 0, 0, 0)), (45, Sum.inl (4, 1, 0, 0, 46, [])), (46, Sum.inl (18, 0, 3, 0, 49, [])), (49, Sum.inl (0, 0, 0, 0, 50, [])), (50, Sum.inl (4, 0, 0, 0, 51, [])), (51, Sum.inl (18, 0, 3, 0, 54, [])), (54, Sum.inl (0, 0, 0, 0, 55, [])), (55, Sum.inl (0, 0, 0, 12, 57, [])), (57, Sum.inr (8, 0, 0, 0, 0, 0, 0)), (60, Sum.inl (4, 1, 0, 0, 61, [])), (61, Sum.inl (18, 0, 4, 0, 64, [])), (64, Sum.inl (0, 0, 0, 0, 65, [])), (65, Sum.inl (4, 0, 0, 0, 66, [])), (66, Sum.inl (18, 0, 4, 0, 69, [])), (69, Sum.inl (0, 0, 0, 0, 70, [])), (70, Sum.inl (0, 0, 0, 144, 73, [])), (73, Sum.inr (8, 0, 0, 0, 0, 0, 0)), (76, Sum.inl (4, 1, 0, 0, 77, [])), (77, Sum.inl (18, 0, 5, 0, 80, [])), (80, Sum.inl (0, 0, 0, 0, 81, [])), (81, Sum.inl (4, 0, 0, 0, 82, [])), (82, Sum.inl (18, 0, 5, 0, 85, [])), (85, Sum.inl (0, 0, 0, 0, 86, [])), (86, Sum.inl (0, 0, 0, 72, 88, [])), (88, Sum.inr (8, 0, 0, 0, 0, 0, 0)), (91, Sum.inl (4, 1, 0, 0, 92, [])), (92, Sum.inl (18, 0, 6, 0, 95, [])), (95, Sum.inl (0, 0, 0, 0, 96, [])), (96, Sum.inl (4, 0, 0, 0, 97, [])), (97, Sum.inl (18, 0, 6, 0, 100, [])), (100, Sum.inl (0, 0, 0, 0, 101, [])), (101, Sum.inl (0, 0, 0, 8, 103, [])), (103, Sum.inr (8, 0, 0, 0, 0, 0, 0)), (106, Sum.inl (4, 0, 0, 0, 107, [])), (107, Sum.inl (4, 1, 0, 0, 108, [])), (108, Sum.inl (18, 0, 7, 0, 111, [])), (111, Sum.inl (19, 0, 7, 0, 114, [])), (114, Sum.inl (4, 0, 0, 0, 115, [])), (115, Sum.inl (4, 1, 0, 0, 116, [])), (116, Sum.inl (18, 0, 8, 0, 119, [])), (119, Sum.inl (19, 0, 8, 0, 122, [])), (122, Sum.inl (4, 0, 0, 0, 123, [])), (123, Sum.inl (4, 1, 0, 0, 124, [])), (124, Sum.inl (18, 0, 9, 0, 127, [])), (127, Sum.inl (19, 0, 9, 0, 130, [])), (130, Sum.inl (29, 0, 0, 0, 131, []))]
theorem Z_X0_copyFrom (l : Launch) : ∀ q ∈ U_X0_copyFrom, zTok l O_X0_copyFrom F_X0_copyFrom q := zU_ok rfl rfl rfl K_X0_copyFrom (E_X0_copyFrom l)
def wp_X0_copyFrom (a : List zV) (S : zS) (K : zR2 → zS → Prop) : Prop := zif (Nat.ble (zsum a) 2) (zwq 1 F_X0_copyFrom U_X0_copyFrom O_X0_copyFrom [] (fun _ _ _ _ _ _ => False) K 70 U_X0_copyFrom 0 0 S 0 (zar 0 a) [])
theorem R_X0_copyFrom (l : Launch) (a : List zV) (S : zS) (Q : zR2 → zS → Prop) (h : wp_X0_copyFrom a S Q) : zRs l 1 0 0 yX0_copyFrom (.code yX0_copyFrom cX0_copyFrom 2 (none)) a S Q := by
  obtain ⟨h1, h⟩ := zif_ok h
  exact zRs_of 0 (by decide) rfl h1 (zwq_ok (Z_X0_copyFrom l) rfl [] (fun _ _ _ _ _ _ h => h.elim) 70 (Z_X0_copyFrom l) h)
def B_X11_image : List (Nat × zC) := [(8, (0, 0, 1, 1, 0, 0, 0))]
def O_X11_image : zO := fun j a S K => match j with
  | 0 => wp_X0_copyFrom a S K
  | _ => False
theorem E_X11_image (l : Launch) : ∀ q ∈ B_X11_image, zcok l O_X11_image F_X11_image q.1 q.2 := List.forall_mem_cons.mpr ⟨⟨360, yX0_copyFrom, cX0_copyFrom, 2, none, by decide +kernel, C_11_360, W_X0_copyFrom, I_X0_copyFrom, S_X0_copyFrom, rfl, rfl, R_X0_copyFrom l⟩, fun _ h => by cases h⟩
def U_X11_image : List (Nat × zE) := [(0, Sum.inl (4, 0, 0, 0, 1, [])), (1, Sum.inl (18, 11, 5, 0, 4, [])), (4, Sum.inl (4, 0, 0, 0, 5, [])), (5, Sum.inl (18, 11, 4, 0, 8, [])), (8, Sum.inr (0, 0, 1, 1, 0, 0, 0)), (11, Sum.inl (4, 0, 0, 0, 12, [])), (12, Sum.inl (0, 0, 0, 1, 13, [])), (13, Sum.inl (19, 11, 15, 0, 16, [])), (16, Sum.inl (29, 0, 0, 0, 17, []))]
theorem Z_X11_image (l : Launch) : ∀ q ∈ U_X11_image, zTok l O_X11_image F_X11_image q := zU_ok rfl rfl rfl K_X11_image (E_X11_image l)
def wp_X11_image (a : List zV) (S : zS) (K : zR2 → zS → Prop) : Prop := zif (Nat.ble (zsum a) 1) (zwq 2 F_X11_image U_X11_image O_X11_image [] (fun _ _ _ _ _ _ => False) K 10 U_X11_image 0 0 S 0 (zar 0 a) [])
theorem R_X11_image (l : Launch) (a : List zV) (S : zS) (Q : zR2 → zS → Prop) (h : wp_X11_image a S Q) : zRs l 2 0 0 yX11_image (.code yX11_image cX11_image 1 (none)) a S Q := by
  obtain ⟨h1, h⟩ := zif_ok h
  exact zRs_of 11 (by decide) rfl h1 (zwq_ok (Z_X11_image l) rfl [] (fun _ _ _ _ _ _ h => h.elim) 10 (Z_X11_image l) h)
def B_X11_restore : List (Nat × zC) := [(17, (0, 0, 1, 1, 0, 0, 0))]
def O_X11_restore : zO := fun j a S K => match j with
  | 0 => wp_X0_copyFrom a S K
  | _ => False
theorem E_X11_restore (l : Launch) : ∀ q ∈ B_X11_restore, zcok l O_X11_restore F_X11_restore q.1 q.2 := List.forall_mem_cons.mpr ⟨⟨360, yX0_copyFrom, cX0_copyFrom, 2, none, by decide +kernel, C_11_360, W_X0_copyFrom, I_X0_copyFrom, S_X0_copyFrom, rfl, rfl, R_X0_copyFrom l⟩, fun _ h => by cases h⟩
def U_X11_restore : List (Nat × zE) := [(0, Sum.inl (4, 0, 0, 0, 1, [])), (1, Sum.inl (18, 11, 15, 0, 4, [])), (4, Sum.inl (17, 0, 7, 0, 9, [])), (7, Sum.inl (0, 0, 0, 0, 8, [])), (8, Sum.inl (27, 0, 0, 0, 9, [])), (9, Sum.inl (4, 0, 0, 0, 10, [])), (10, Sum.inl (18, 11, 4, 0, 13, [])), (13, Sum.inl (4, 0, 0, 0, 14, [])), (14, Sum.inl (18, 11, 5, 0, 17, [])), (17, Sum.inr (0, 0, 1, 1, 0, 0, 0)), (20, Sum.inl (0, 0, 0, 1, 21, [])), (21, Sum.inl (27, 0, 0, 0, 22, []))]
theorem Z_X11_restore (l : Launch) : ∀ q ∈ U_X11_restore, zTok l O_X11_restore F_X11_restore q := zU_ok rfl rfl rfl K_X11_restore (E_X11_restore l)
def wp_X11_restore (a : List zV) (S : zS) (K : zR2 → zS → Prop) : Prop := zif (Nat.ble (zsum a) 1) (zwq 2 F_X11_restore U_X11_restore O_X11_restore [] (fun _ _ _ _ _ _ => False) K 13 U_X11_restore 0 0 S 0 (zar 0 a) [])
theorem R_X11_restore (l : Launch) (a : List zV) (S : zS) (Q : zR2 → zS → Prop) (h : wp_X11_restore a S Q) : zRs l 2 0 0 yX11_restore (.code yX11_restore cX11_restore 1 (some .boolean)) a S Q := by
  obtain ⟨h1, h⟩ := zif_ok h
  exact zRs_of 11 (by decide) rfl h1 (zwq_ok (Z_X11_restore l) rfl [] (fun _ _ _ _ _ _ h => h.elim) 13 (Z_X11_restore l) h)
def B_X12_image : List (Nat × zC) := [(49, (0, 0, 2, 0, 0, 0, 12)), (61, (0, 0, 2, 0, 0, 0, 12)), (73, (0, 0, 2, 0, 0, 0, 12)), (85, (0, 0, 2, 0, 0, 0, 12))]
def O_X12_image : zO := fun j a S K => match j with
  | 0 => wp_X12_copies a S K
  | _ => False
theorem E_X12_image (l : Launch) : ∀ q ∈ B_X12_image, zcok l O_X12_image F_X12_image q.1 q.2 := List.forall_mem_cons.mpr ⟨⟨260, yX12_copies, cX12_copies, 4, none, by decide +kernel, C_12_260, W_X12_copies, I_X12_copies, S_X12_copies, rfl, rfl, R_X12_copies l⟩, List.forall_mem_cons.mpr ⟨⟨260, yX12_copies, cX12_copies, 4, none, by decide +kernel, C_12_260, W_X12_copies, I_X12_copies, S_X12_copies, rfl, rfl, R_X12_copies l⟩, List.forall_mem_cons.mpr ⟨⟨260, yX12_copies, cX12_copies, 4, none, by decide +kernel, C_12_260, W_X12_copies, I_X12_copies, S_X12_copies, rfl, rfl, R_X12_copies l⟩, List.forall_mem_cons.mpr ⟨⟨260, yX12_copies, cX12_copies, 4, none, by decide +kernel, C_12_260, W_X12_copies, I_X12_copies, S_X12_copies, rfl, rfl, R_X12_copies l⟩, fun _ h => by cases h⟩⟩⟩⟩
def U_X12_image : List (Nat × zE) := [(0, Sum.inl (4, 0, 0, 0, 1, [])), (1, Sum.inl (0, 0, 0, 0, 2, [])), (2, Sum.inl (19, 12, 0, 0, 5, [])), (5, Sum.inl (4, 0, 0, 0, 6, [])), (6, Sum.inl (0, 0, 0, 1, 7, [])), (7, Sum.inl (19, 12, 63, 0, 10, [])), (10, Sum.inl (4, 0, 0, 0, 11, [])), (11, Sum.inl (18, 12, 64, 0, 14, [])), (14, Sum.inl (0, 0, 0, 0, 15, [])), (15, Sum.inl (4, 0, 0, 0, 16, [])), (16, Sum.inl (18, 12, 36, 0, 19, [])), (19, Sum.inl (21, 0, 0, 0, 20, [])), (20, Sum.inl (4, 0, 0, 0, 21, [])), (21, Sum.inl (18, 12, 64, 0, 24, [])), (24, Sum.inl (0, 0, 0, 1, 25, [])), (25, Sum.inl (4, 0, 0, 0, 26, [])), (26, Sum.inl (18, 12, 40, 0, 29, [])), (29, Sum.inl (21, 0, 0, 0, 30, [])), (30, Sum.inl (4, 0, 0, 0, 31, [])), (31, Sum.inl (18, 12, 64, 0, 34, [])), (34, Sum.inl (0, 0, 0, 2, 35, [])), (35, Sum.inl (4, 0, 0, 0, 36, [])), (36, Sum.inl (18, 12, 41, 0, 39, [])), (39, Sum.inl (21, 0, 0, 0, 40, [])), (40, Sum.inl (4, 0, 0, 0, 41, [])), (41, Sum.inl (4, 0, 0, 0, 42, [])), (42, Sum.inl (18, 12, 37, 0, 45, [])), (45, Sum.inl (4, 0, 0, 0, 46, [])), (46, Sum.inl (18, 12, 65, 0, 49, [])), (49, Sum.inr (0, 0, 2, 0, 0, 0, 12)), (52, Sum.inl (4, 0, 0, 0, 53, [])), (53, Sum.inl (4, 0, 0, 0, 54, [])), (54, Sum.inl (18, 12, 42, 0, 57, [])), (57, Sum.inl (4, 0, 0, 0, 58, [])), (58, Sum.inl (18, 12, 66, 0, 61, [])), (61, Sum.inr (0, 0, 2, 0, 0, 0, 12)), (64, Sum.inl (4, 0, 0, 0, 65, [])), (65, Sum.inl (4, 0, 0, 0, 66, [])), (66, Sum.inl (18, 12, 38, 0, 69, [])), (69, Sum.inl (4, 0, 0, 0, 70, [])), (70, Sum.inl (18, 12, 67, 0, 73, [])), (73, Sum.inr (0, 0, 2, 0, 0, 0, 12)), (76, Sum.inl (4, 0, 0, 0, 77, [])), (77, Sum.inl (4, 0, 0, 0, 78, [])), (78, Sum.inl (18, 12, 39, 0, 81, [])), (81, Sum.inl (4, 0, 0, 0, 82, [])), (82, Sum.inl (18, 12, 68, 0, 85, [])), (85, Sum.inr (0, 0, 2, 0, 0, 0, 12)), (88, Sum.inl (29, 0, 0, 0, 89, []))]
theorem Z_X12_image (l : Launch) : ∀ q ∈ U_X12_image, zTok l O_X12_image F_X12_image q := zU_ok rfl rfl rfl K_X12_image (E_X12_image l)
def wp_X12_image (a : List zV) (S : zS) (K : zR2 → zS → Prop) : Prop := zif (Nat.ble (zsum a) 1) (zwq 1 F_X12_image U_X12_image O_X12_image [] (fun _ _ _ _ _ _ => False) K 50 U_X12_image 0 0 S 0 (zar 0 a) [])
theorem R_X12_image (l : Launch) (a : List zV) (S : zS) (Q : zR2 → zS → Prop) (h : wp_X12_image a S Q) : zRs l 1 0 0 yX12_image (.code yX12_image cX12_image 1 (none)) a S Q := by
  obtain ⟨h1, h⟩ := zif_ok h
  exact zRs_of 12 (by decide) rfl h1 (zwq_ok (Z_X12_image l) rfl [] (fun _ _ _ _ _ _ h => h.elim) 50 (Z_X12_image l) h)
def B_X12_restore : List (Nat × zC) := [(53, (0, 0, 2, 0, 0, 0, 12)), (65, (0, 0, 2, 0, 0, 0, 12)), (77, (0, 0, 2, 0, 0, 0, 12)), (89, (0, 0, 2, 0, 0, 0, 12))]
def O_X12_restore : zO := fun j a S K => match j with
  | 0 => wp_X12_copies a S K
  | _ => False
theorem E_X12_restore (l : Launch) : ∀ q ∈ B_X12_restore, zcok l O_X12_restore F_X12_restore q.1 q.2 := List.forall_mem_cons.mpr ⟨⟨260, yX12_copies, cX12_copies, 4, none, by decide +kernel, C_12_260, W_X12_copies, I_X12_copies, S_X12_copies, rfl, rfl, R_X12_copies l⟩, List.forall_mem_cons.mpr ⟨⟨260, yX12_copies, cX12_copies, 4, none, by decide +kernel, C_12_260, W_X12_copies, I_X12_copies, S_X12_copies, rfl, rfl, R_X12_copies l⟩, List.forall_mem_cons.mpr ⟨⟨260, yX12_copies, cX12_copies, 4, none, by decide +kernel, C_12_260, W_X12_copies, I_X12_copies, S_X12_copies, rfl, rfl, R_X12_copies l⟩, List.forall_mem_cons.mpr ⟨⟨260, yX12_copies, cX12_copies, 4, none, by decide +kernel, C_12_260, W_X12_copies, I_X12_copies, S_X12_copies, rfl, rfl, R_X12_copies l⟩, fun _ h => by cases h⟩⟩⟩⟩
def U_X12_restore : List (Nat × zE) := [(0, Sum.inl (4, 0, 0, 0, 1, [])), (1, Sum.inl (0, 0, 0, 0, 2, [])), (2, Sum.inl (19, 12, 0, 0, 5, [])), (5, Sum.inl (4, 0, 0, 0, 6, [])), (6, Sum.inl (18, 12, 63, 0, 9, [])), (9, Sum.inl (17, 0, 12, 0, 14, [])), (12, Sum.inl (0, 0, 0, 0, 13, [])), (13, Sum.inl (27, 0, 0, 0, 14, [])), (14, Sum.inl (4, 0, 0, 0, 15, [])), (15, Sum.inl (4, 0, 0, 0, 16, [])), (16, Sum.inl (18, 12, 64, 0, 19, [])), (19, Sum.inl (0, 0, 0, 0, 20, [])), (20, Sum.inl (20, 0, 0, 0, 21, [])), (21, Sum.inl (19, 12, 36, 0, 24, [])), (24, Sum.inl (4, 0, 0, 0, 25, [])), (25, Sum.inl (4, 0, 0, 0, 26, [])), (26, Sum.inl (18, 12, 64, 0, 29, [])), (29, Sum.inl (0, 0, 0, 1, 30, [])), (30, Sum.inl (20, 0, 0, 0, 31, [])), (31, Sum.inl (19, 12, 40, 0, 34, [])), (34, Sum.inl (4, 0, 0, 0, 35, [])), (35, Sum.inl (4, 0, 0, 0, 36, [])), (36, Sum.inl (18, 12, 64, 0, 39, [])), (39, Sum.inl (0, 0, 0, 2, 40, [])), (40, Sum.inl (20, 0, 0, 0, 41, [])), (41, Sum.inl (19, 12, 41, 0, 44, [])), (44, Sum.inl (4, 0, 0, 0, 45, [])), (45, Sum.inl (4, 0, 0, 0, 46, [])), (46, Sum.inl (18, 12, 65, 0, 49, [])), (49, Sum.inl (4, 0, 0, 0, 50, [])), (50, Sum.inl (18, 12, 37, 0, 53, [])), (53, Sum.inr (0, 0, 2, 0, 0, 0, 12)), (56, Sum.inl (4, 0, 0, 0, 57, [])), (57, Sum.inl (4, 0, 0, 0, 58, [])), (58, Sum.inl (18, 12, 66, 0, 61, [])), (61, Sum.inl (4, 0, 0, 0, 62, [])), (62, Sum.inl (18, 12, 42, 0, 65, [])), (65, Sum.inr (0, 0, 2, 0, 0, 0, 12)), (68, Sum.inl (4, 0, 0, 0, 69, [])), (69, Sum.inl (4, 0, 0, 0, 70, [])), (70, Sum.inl (18, 12, 67, 0, 73, [])), (73, Sum.inl (4, 0, 0, 0, 74, [])), (74, Sum.inl (18, 12, 38, 0, 77, [])), (77, Sum.inr (0, 0, 2, 0, 0, 0, 12)), (80, Sum.inl (4, 0, 0, 0, 81, [])), (81, Sum.inl (4, 0, 0, 0, 82, [])), (82, Sum.inl (18, 12, 68, 0, 85, [])), (85, Sum.inl (4, 0, 0, 0, 86, [])), (86, Sum.inl (18, 12, 39, 0, 89, [])), (89, Sum.inr (0, 0, 2, 0, 0, 0, 12)), (92, Sum.inl (0, 0, 0, 1, 93, [])), (93, Sum.inl (27, 0, 0, 0, 94, []))]
theorem Z_X12_restore (l : Launch) : ∀ q ∈ U_X12_restore, zTok l O_X12_restore F_X12_restore q := zU_ok rfl rfl rfl K_X12_restore (E_X12_restore l)
def wp_X12_restore (a : List zV) (S : zS) (K : zR2 → zS → Prop) : Prop := zif (Nat.ble (zsum a) 1) (zwq 1 F_X12_restore U_X12_restore O_X12_restore [] (fun _ _ _ _ _ _ => False) K 53 U_X12_restore 0 0 S 0 (zar 0 a) [])
theorem R_X12_restore (l : Launch) (a : List zV) (S : zS) (Q : zR2 → zS → Prop) (h : wp_X12_restore a S Q) : zRs l 1 0 0 yX12_restore (.code yX12_restore cX12_restore 1 (some .boolean)) a S Q := by
  obtain ⟨h1, h⟩ := zif_ok h
  exact zRs_of 12 (by decide) rfl h1 (zwq_ok (Z_X12_restore l) rfl [] (fun _ _ _ _ _ _ h => h.elim) 53 (Z_X12_restore l) h)
def mResV (S : zS) (D E T : zD) (K : zR2 → zS → Prop) : Prop := ∀ S', eM S' D E T → frM S S' → S' 62 0 = 0 → K (.inl none) S'
section
variable {S : zS} {D E T : zD} {N : Nat} {K : zR2 → zS → Prop} {x y z u w : Int}
theorem x_image (hX : xOK D E T N) (hN : N < 99999) : xOK D D (zu T 4 0 1) (N + 1) := ⟨hX.now, hX.tape, hX.bytes, hX.fault, (fun i => Nat.le_succ_of_le (hX.refused i)), (Nat.le_refl 1), (fun _ => ⟨hX.now, fun _ _ => rfl⟩), hX.path, hX.lends, (by omega)⟩
def resD (D E T : zD) : zD := if T 4 0 = 1 then E else D
theorem x_restore (hX : xOK D E T N) (hN : N < 99999) : xOK (resD D E T) E T (N + 1) := by
  unfold resD
  by_cases c : T 4 0 = 1
  · rw [if_pos c]
    exact ⟨(hX.kept c).1, hX.tape, hX.bytes, hX.fault, (fun i => Nat.le_succ_of_le (hX.refused i)), hX.isKept, (fun h => ⟨(hX.kept h).1, fun _ _ => rfl⟩), hX.path, hX.lends, (by omega)⟩
  · rw [if_neg c]; exact hX.up hN
theorem c_image (hC : eC S D E T) (hX : xOK D E T N) (h : cRes S D D (zu T 4 0 1) (.inl none) K) : wp_X11_image [.inr (.inl 0)] S K := by
  have hl := hX.now.lent
  have h6 := hX.now.lodgers
  repeat' (first | refine And.intro ?_ ?_ | (intro _; try omega) | omega | rfl | refine ⟨_, ⟨rfl, by omega⟩, ?_⟩ | refine ⟨12, ⟨by omega, by omega⟩, ?_⟩ | refine ⟨144, ⟨by omega, by omega⟩, ?_⟩ | refine ⟨72, ⟨by omega, by omega⟩, ?_⟩ | refine ⟨8, ⟨by omega, by omega⟩, ?_⟩ | fail)
  refine h _ ?_ ?_
  · refine ⟨hC.now, hC.tape, hC.bytes, hC.fault, hC.refused, rfl, (fun _ => ?_), hC.path, hC.pathRooms, hC.pathLooks, hC.lends, hC.lenders, hC.slippers⟩
    exact ⟨hC.now.lent, hC.now.seenHour, hC.now.seenRooms, fun k hk => (zcp_at (S := S) (a := 21) (b := 29) (n := 12) (by omega)).trans (hC.now.givers k hk), fun k hk => (zcp_at (S := (zcpI S 21 29 12)) (a := 22) (b := 30) (n := 12) (by omega)).trans (hC.now.takers k hk), fun k hk => (zcp_at (S := (zcpI (zcpI S 21 29 12) 22 30 12)) (a := 23) (b := 31) (n := 12) (by omega)).trans (hC.now.lentShoes k hk), fun k hk => (zcp_at (S := (zcpI (zcpI (zcpI S 21 29 12) 22 30 12) 23 31 12)) (a := 24) (b := 32) (n := 12) (by omega)).trans (hC.now.shoes k hk), fun k hk => (zcp_at (S := (zcpI (zcpI (zcpI (zcpI S 21 29 12) 22 30 12) 23 31 12) 24 32 12)) (a := 25) (b := 33) (n := 144) (by omega)).trans (hC.now.day k hk), fun k hk => (zcp_at (S := (zcpI (zcpI (zcpI (zcpI (zcpI S 21 29 12) 22 30 12) 23 31 12) 24 32 12) 25 33 144)) (a := 26) (b := 34) (n := 72) (by omega)).trans (hC.now.rounds k hk), fun k hk => (zcp_at (S := (zcpI (zcpI (zcpI (zcpI (zcpI (zcpI S 21 29 12) 22 30 12) 23 31 12) 24 32 12) 25 33 144) 26 34 72)) (a := 27) (b := 35) (n := 8) (by omega)).trans (hC.now.seen k hk)⟩
  · exact ((((((((((((frC.r S).cp (by omega)).cp (by omega)).cp (by omega)).cp (by omega)).cp (by omega)).cp (by omega)).cp (by omega)).u (by omega)).u (by omega)).u (by omega)).u (by omega))
theorem c_restore (hC : eC S D E T) (hX : xOK D E T N) (h : cRes S (resD D E T) E T (.inl (some (.inl (T 4 0 : Int)))) K) : wp_X11_restore [.inr (.inl 0)] S K := by
  have e1 := hC.isKept
  have e2 := hX.isKept
  unfold resD at h
  by_cases c : T 4 0 = 1
  · rw [if_pos c, c] at h
    have hk := hC.kept c
    obtain ⟨hE, hpl⟩ := hX.kept c
    have hl := hE.lent
    have h6 := hE.lodgers
    have hD2 : D = fun c => bif Nat.blt c 8 then E c else D c := by
      funext c
      cases hb : Nat.blt c 8
      · rfl
      · exact hpl c (Nat.ble_eq.mp hb)
    have q := hC
    rw [hD2] at q
    have q0 := q.now
    repeat' (first | refine And.intro ?_ ?_ | (intro _; try omega) | omega | rfl | refine ⟨_, ⟨rfl, by omega⟩, ?_⟩ | refine ⟨12, ⟨by omega, by omega⟩, ?_⟩ | refine ⟨144, ⟨by omega, by omega⟩, ?_⟩ | refine ⟨72, ⟨by omega, by omega⟩, ?_⟩ | refine ⟨8, ⟨by omega, by omega⟩, ?_⟩ | fail)
    refine h _ ?_ ?_
    · have hn : cOK (zu (zu (zu (zcpI (zcpI (zcpI (zcpI (zcpI (zcpI (zcpI S 29 21 12) 30 22 12) 31 23 12) 32 24 12) 33 25 144) 34 26 72) 35 27 8) 20 7 (S 28 7)) 20 8 (S 28 8)) 20 9 (S 28 9)) E := ⟨q0.rooms, q0.lodgers, q0.finders, q0.mays, q0.goods, q0.tenant, q0.home, q0.told, q0.law, hk.lent, hk.seenHour, hk.seenRooms, (fun k hk1 => (zcp_at (S := S) (a := 29) (b := 21) (n := 12) (by omega)).trans (hk.givers k hk1)), (fun k hk1 => (zcp_at (S := (zcpI S 29 21 12)) (a := 30) (b := 22) (n := 12) (by omega)).trans (hk.takers k hk1)), (fun k hk1 => (zcp_at (S := (zcpI (zcpI S 29 21 12) 30 22 12)) (a := 31) (b := 23) (n := 12) (by omega)).trans (hk.lentShoes k hk1)), (fun k hk1 => (zcp_at (S := (zcpI (zcpI (zcpI S 29 21 12) 30 22 12) 31 23 12)) (a := 32) (b := 24) (n := 12) (by omega)).trans (hk.shoes k hk1)), (fun k hk1 => (zcp_at (S := (zcpI (zcpI (zcpI (zcpI S 29 21 12) 30 22 12) 31 23 12) 32 24 12)) (a := 33) (b := 25) (n := 144) (by omega)).trans (hk.day k hk1)), (fun k hk1 => (zcp_at (S := (zcpI (zcpI (zcpI (zcpI (zcpI S 29 21 12) 30 22 12) 31 23 12) 32 24 12) 33 25 144)) (a := 34) (b := 26) (n := 72) (by omega)).trans (hk.rounds k hk1)), (fun k hk1 => (zcp_at (S := (zcpI (zcpI (zcpI (zcpI (zcpI (zcpI S 29 21 12) 30 22 12) 31 23 12) 32 24 12) 33 25 144) 34 26 72)) (a := 35) (b := 27) (n := 8) (by omega)).trans (hk.seen k hk1))⟩
      exact ⟨hn, q.tape, q.bytes, q.fault, q.refused, q.isKept, q.kept, q.path, q.pathRooms, q.pathLooks, q.lends, q.lenders, q.slippers⟩
    · exact (((((((((((frC.r S).cp (by omega)).cp (by omega)).cp (by omega)).cp (by omega)).cp (by omega)).cp (by omega)).cp (by omega)).u (by omega)).u (by omega)).u (by omega))
  · rw [if_neg c, show T 4 0 = 0 by omega] at h
    have h := cGood hC h
    repeat' (first | refine And.intro ?_ ?_ | (intro _; try omega) | omega | rfl | refine ⟨_, ⟨rfl, by omega⟩, ?_⟩ | fail)
    all_goals exact h
set_option maxRecDepth 8000 in
theorem m_image (hM : eM S D E T) (hX : xOK D E T N) (h : mResV S D D (zu T 4 0 1) K) : wp_X12_image [.inr (.inl 62)] S K := by
  have hl := hX.now.lent
  refine ⟨Or.inr rfl, 0, ⟨rfl, by omega⟩, 1, ⟨rfl, by omega⟩, 2, ⟨rfl, by omega⟩, ?_⟩
  refine h _ ?_ ?_ rfl
  · have hn : mOK (zcpI (zcpI (zcpI (zcpI (zu (zu (zu (zu (zu S 62 0 0) 62 63 1) 97 0 (S 62 36)) 97 1 (S 62 40)) 97 2 (S 62 41)) 79 98 36) 82 99 8) 80 100 144) 81 101 72) D := ⟨hM.now.rooms, hM.now.lodgers, hM.now.finders, hM.now.mays, hM.now.goods, hM.now.whose, hM.now.home, hM.now.feet, hM.now.law, hM.now.may, hM.now.lent, hM.now.seenHour, hM.now.seenRooms, hM.now.lending, hM.now.day, hM.now.looks, hM.now.seen⟩
    refine ⟨hn, hM.tape, hM.bytes, hM.fault, hM.refused, rfl, (fun _ => ?_), hM.path, hM.pathRooms, hM.pathLooks, hM.lends, hM.lenders⟩
    exact ⟨hM.now.lent, hM.now.seenHour, hM.now.seenRooms, (fun k hk1 => (zcp_at (S := (zu (zu (zu (zu (zu S 62 0 0) 62 63 1) 97 0 (S 62 36)) 97 1 (S 62 40)) 97 2 (S 62 41))) (a := 79) (b := 98) (n := 36) (by omega)).trans (hM.now.lending k hk1)), (fun k hk1 => (zcp_at (S := (zcpI (zcpI (zu (zu (zu (zu (zu S 62 0 0) 62 63 1) 97 0 (S 62 36)) 97 1 (S 62 40)) 97 2 (S 62 41)) 79 98 36) 82 99 8)) (a := 80) (b := 100) (n := 144) (by omega)).trans (hM.now.day k hk1)), (fun k hk1 => (zcp_at (S := (zcpI (zcpI (zcpI (zu (zu (zu (zu (zu S 62 0 0) 62 63 1) 97 0 (S 62 36)) 97 1 (S 62 40)) 97 2 (S 62 41)) 79 98 36) 82 99 8) 80 100 144)) (a := 81) (b := 101) (n := 72) (by omega)).trans (hM.now.looks k hk1)), (fun k hk1 => (zcp_at (S := (zcpI (zu (zu (zu (zu (zu S 62 0 0) 62 63 1) 97 0 (S 62 36)) 97 1 (S 62 40)) 97 2 (S 62 41)) 79 98 36)) (a := 82) (b := 99) (n := 8) (by omega)).trans (hM.now.seen k hk1))⟩
  · exact ((((((((((frM.r S).u (by omega) (by omega)).u (by omega) (by omega)).u (by omega) (by omega)).u (by omega) (by omega)).u (by omega) (by omega)).cp (by omega) (by omega)).cp (by omega) (by omega)).cp (by omega) (by omega)).cp (by omega) (by omega))
set_option maxRecDepth 8000 in
theorem m_restore (hM : eM S D E T) (hX : xOK D E T N) (h : mRes S (resD D E T) E T (0, (T 4 0 : Int)) K) : wp_X12_restore [.inr (.inl 62)] S K := by
  have e1 : zu S 62 0 0 62 63 = (T 4 0 : Int) := hM.hasImage
  have e2 := hX.isKept
  unfold resD at h
  by_cases c : T 4 0 = 1
  · rw [if_pos c, c] at h
    have hk := hM.image c
    obtain ⟨hE, hpl⟩ := hX.kept c
    have hl := hE.lent
    have hD2 : D = fun c => bif Nat.blt c 8 then E c else D c := by
      funext c
      cases hb : Nat.blt c 8
      · rfl
      · exact hpl c (Nat.ble_eq.mp hb)
    have q := hM
    rw [hD2] at q
    have q0 := q.now
    refine ⟨fun c9 => by omega, fun _ => ⟨0, ⟨rfl, by omega⟩, 1, ⟨rfl, by omega⟩, 2, ⟨rfl, by omega⟩, Or.inr rfl, ?_⟩⟩
    refine h _ _ ?_ ?_ rfl (fun _ => rfl)
    · have hn : mOK (zcpI (zcpI (zcpI (zcpI (zu (zu (zu (zu S 62 0 0) 62 36 (S 97 0)) 62 40 (S 97 1)) 62 41 (S 97 2)) 98 79 36) 99 82 8) 100 80 144) 101 81 72) E := ⟨q0.rooms, q0.lodgers, q0.finders, q0.mays, q0.goods, q0.whose, q0.home, q0.feet, q0.law, q0.may, hk.lent, hk.seenHour, hk.seenRooms, (fun k hk1 => (zcp_at (S := (zu (zu (zu (zu S 62 0 0) 62 36 (S 97 0)) 62 40 (S 97 1)) 62 41 (S 97 2))) (a := 98) (b := 79) (n := 36) (by omega)).trans (hk.lending k hk1)), (fun k hk1 => (zcp_at (S := (zcpI (zcpI (zu (zu (zu (zu S 62 0 0) 62 36 (S 97 0)) 62 40 (S 97 1)) 62 41 (S 97 2)) 98 79 36) 99 82 8)) (a := 100) (b := 80) (n := 144) (by omega)).trans (hk.day k hk1)), (fun k hk1 => (zcp_at (S := (zcpI (zcpI (zcpI (zu (zu (zu (zu S 62 0 0) 62 36 (S 97 0)) 62 40 (S 97 1)) 62 41 (S 97 2)) 98 79 36) 99 82 8) 100 80 144)) (a := 101) (b := 81) (n := 72) (by omega)).trans (hk.looks k hk1)), (fun k hk1 => (zcp_at (S := (zcpI (zu (zu (zu (zu S 62 0 0) 62 36 (S 97 0)) 62 40 (S 97 1)) 62 41 (S 97 2)) 98 79 36)) (a := 99) (b := 82) (n := 8) (by omega)).trans (hk.seen k hk1))⟩
      exact ⟨hn, q.tape, q.bytes, q.fault, q.refused, q.hasImage, q.image, q.path, q.pathRooms, q.pathLooks, q.lends, q.lenders⟩
    · exact (((((((((frM.r S).u (by omega) (by omega)).u (by omega) (by omega)).u (by omega) (by omega)).u (by omega) (by omega)).cp (by omega) (by omega)).cp (by omega) (by omega)).cp (by omega) (by omega)).cp (by omega) (by omega))
  · rw [if_neg c, show T 4 0 = 0 by omega] at h
    have h := mGood hM h
    repeat' (first | refine And.intro ?_ ?_ | (intro _; try omega) | omega | rfl | refine ⟨_, ⟨rfl, by omega⟩, ?_⟩ | fail)
    all_goals exact h
end
