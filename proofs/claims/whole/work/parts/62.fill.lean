/-! Arrays.fill -/
def zfil (S : zS) (c n : Nat) (v : Int) : zS := fun x j => bif x == c && Nat.blt j n then v else S x j
theorem zfil_at {S : zS} {c n k : Nat} {v : Int} (h : k < n) : zfil S c n v c k = v := by
  show (bif c == c && Nat.blt k n then v else S c k) = v
  rw [beq_self_eq_true, Bool.true_and, bltT h]; rfl
theorem zfil_ge {S : zS} {c n k : Nat} {v : Int} (h : ¬ k < n) : zfil S c n v c k = S c k := by
  show (bif c == c && Nat.blt k n then v else S c k) = S c k
  rw [bltF h, Bool.and_false]; rfl
theorem zfil_n {S : zS} {c n x k : Nat} {v : Int} (h : x ≠ c) : zfil S c n v x k = S x k := by
  show (bif x == c && Nat.blt k n then v else S x k) = S x k
  rw [show (x == c) = false by simpa using h]; rfl
theorem zfil_c {S : zS} {c n x : Nat} {v : Int} (h : x ≠ c) : zfil S c n v x = S x := funext fun _ => zfil_n h
theorem zfil_s {S : zS} {c j : Nat} {v : Int} : zu (zfil S c j v) c j v = zfil S c (j + 1) v := by
  funext x i
  by_cases hx : x = c
  · subst hx
    by_cases hi : i = j
    · subst hi; rw [zuE, zfil_at (Nat.lt_succ_self i)]
    · rw [zuN (Or.inr hi)]
      by_cases hl : i < j
      · rw [zfil_at hl, zfil_at (by omega)]
      · rw [zfil_ge hl, zfil_ge (by omega)]
  · rw [zuN (Or.inl hx), zfil_n hx, zfil_n hx]
theorem zfil_0 {S : zS} {c : Nat} {v : Int} : zfil S c 0 v = S := by
  funext x i
  by_cases hx : x = c
  · subst hx; exact zfil_ge (Nat.not_lt_zero i)
  · exact zfil_n hx
def B_J7_fill_53178 : List (Nat × zC) := []
def O_J7_fill_53178 : zO := fun j a S K => match j with
  | _ => False
theorem E_J7_fill_53178 (l : Launch) : ∀ q ∈ B_J7_fill_53178, zcok l O_J7_fill_53178 F_J7_fill_53178 q.1 q.2 := fun _ h => by cases h
def U_J7_fill_53178 : List (Nat × zE) := [(0, Sum.inl (0, 0, 0, 0, 1, [])), (1, Sum.inl (5, 2, 0, 0, 2, [])), (2, Sum.inl (4, 0, 0, 0, 3, [])), (3, Sum.inl (26, 0, 0, 0, 4, [])), (4, Sum.inl (5, 3, 0, 0, 5, [])), (5, Sum.inl (2, 2, 0, 0, 6, [])), (6, Sum.inl (2, 3, 0, 0, 7, [])), (7, Sum.inl (16, 1, 10, 0, 20, [])), (10, Sum.inl (4, 0, 0, 0, 11, [])), (11, Sum.inl (2, 2, 0, 0, 12, [])), (12, Sum.inl (2, 1, 0, 0, 13, [])), (13, Sum.inl (21, 0, 0, 0, 14, [])), (14, Sum.inl (8, 2, 0, 1, 17, [])), (17, Sum.inl (15, 0, 0, 0, 5, [])), (20, Sum.inl (29, 0, 0, 0, 21, []))]
theorem Z_J7_fill_53178 (l : Launch) : ∀ q ∈ U_J7_fill_53178, zTok l O_J7_fill_53178 F_J7_fill_53178 q := zU_ok rfl rfl rfl K_J7_fill_53178 (E_J7_fill_53178 l)
def flT : List (Nat × Nat × Nat) := [(49, 0, 8), (17, 0, 144), (55, 0, 4), (56, 0, 3)]
def wp_J7_fill_53178 (a : List zV) (S : zS) (K : zR2 → zS → Prop) : Prop := match a with
  | [.inr (.inl p), .inl v] => cpL flT p 0 (fun n => K (.inl none) (zfil S p n v))
  | _ => False
theorem L_fl_49 {l : Launch} {S : zS} {Q : zR2 → zS → Prop} {v : Int} (h : Q (.inl none) (zfil S 49 8 v)) (f : Nat) : ∀ j, j + f = 8 → zGs l 0 0 0 F_J7_fill_53178 (zfil S 49 j v) 5 [(0, .inr (.inl 49)), (1, .inl v), (2, .inl (j : Int)), (3, .inl ((8 : Nat) : Int))] [] Q := by
  induction f with
  | zero =>
    intro j hj
    have : j = 8 := by omega
    subst this
    refine zwq_ok (Z_J7_fill_53178 l) rfl [5] (fun _ _ _ _ _ _ h => h) 400 (Z_J7_fill_53178 l) ?_
    exact ⟨fun c => by omega, fun c => h⟩
  | succ f ih =>
    intro j hj
    have this := ih (j + 1) (by omega)
    rw [← zfil_s] at this
    refine zwq_ok (Z_J7_fill_53178 l) rfl [5] (fun _ _ _ _ _ _ h => h) 400 (Z_J7_fill_53178 l) ?_
    exact ⟨fun c => ⟨j, ⟨rfl, by omega⟩, by omega, this⟩, fun c => by omega⟩
theorem L_fl_17 {l : Launch} {S : zS} {Q : zR2 → zS → Prop} {v : Int} (h : Q (.inl none) (zfil S 17 144 v)) (f : Nat) : ∀ j, j + f = 144 → zGs l 0 0 0 F_J7_fill_53178 (zfil S 17 j v) 5 [(0, .inr (.inl 17)), (1, .inl v), (2, .inl (j : Int)), (3, .inl ((144 : Nat) : Int))] [] Q := by
  induction f with
  | zero =>
    intro j hj
    have : j = 144 := by omega
    subst this
    refine zwq_ok (Z_J7_fill_53178 l) rfl [5] (fun _ _ _ _ _ _ h => h) 400 (Z_J7_fill_53178 l) ?_
    exact ⟨fun c => by omega, fun c => h⟩
  | succ f ih =>
    intro j hj
    have this := ih (j + 1) (by omega)
    rw [← zfil_s] at this
    refine zwq_ok (Z_J7_fill_53178 l) rfl [5] (fun _ _ _ _ _ _ h => h) 400 (Z_J7_fill_53178 l) ?_
    exact ⟨fun c => ⟨j, ⟨rfl, by omega⟩, by omega, this⟩, fun c => by omega⟩
theorem L_fl_55 {l : Launch} {S : zS} {Q : zR2 → zS → Prop} {v : Int} (h : Q (.inl none) (zfil S 55 4 v)) (f : Nat) : ∀ j, j + f = 4 → zGs l 0 0 0 F_J7_fill_53178 (zfil S 55 j v) 5 [(0, .inr (.inl 55)), (1, .inl v), (2, .inl (j : Int)), (3, .inl ((4 : Nat) : Int))] [] Q := by
  induction f with
  | zero =>
    intro j hj
    have : j = 4 := by omega
    subst this
    refine zwq_ok (Z_J7_fill_53178 l) rfl [5] (fun _ _ _ _ _ _ h => h) 400 (Z_J7_fill_53178 l) ?_
    exact ⟨fun c => by omega, fun c => h⟩
  | succ f ih =>
    intro j hj
    have this := ih (j + 1) (by omega)
    rw [← zfil_s] at this
    refine zwq_ok (Z_J7_fill_53178 l) rfl [5] (fun _ _ _ _ _ _ h => h) 400 (Z_J7_fill_53178 l) ?_
    exact ⟨fun c => ⟨j, ⟨rfl, by omega⟩, by omega, this⟩, fun c => by omega⟩
theorem L_fl_56 {l : Launch} {S : zS} {Q : zR2 → zS → Prop} {v : Int} (h : Q (.inl none) (zfil S 56 3 v)) (f : Nat) : ∀ j, j + f = 3 → zGs l 0 0 0 F_J7_fill_53178 (zfil S 56 j v) 5 [(0, .inr (.inl 56)), (1, .inl v), (2, .inl (j : Int)), (3, .inl ((3 : Nat) : Int))] [] Q := by
  induction f with
  | zero =>
    intro j hj
    have : j = 3 := by omega
    subst this
    refine zwq_ok (Z_J7_fill_53178 l) rfl [5] (fun _ _ _ _ _ _ h => h) 400 (Z_J7_fill_53178 l) ?_
    exact ⟨fun c => by omega, fun c => h⟩
  | succ f ih =>
    intro j hj
    have this := ih (j + 1) (by omega)
    rw [← zfil_s] at this
    refine zwq_ok (Z_J7_fill_53178 l) rfl [5] (fun _ _ _ _ _ _ h => h) 400 (Z_J7_fill_53178 l) ?_
    exact ⟨fun c => ⟨j, ⟨rfl, by omega⟩, by omega, this⟩, fun c => by omega⟩
theorem R_J7_fill_53178 (l : Launch) (a : List zV) (S : zS) (Q : zR2 → zS → Prop) (h : wp_J7_fill_53178 a S Q) : zRs l 0 0 0 yJ7_fill_53178 (.code yJ7_fill_53178 cJ7_fill_53178 4 (none)) a S Q := by
  unfold wp_J7_fill_53178 at h
  split at h
  · rename_i p v
    obtain ⟨n, hm, h⟩ := cpL_ok h
    refine zRs_of 15 (by decide) rfl rfl ?_; refine zwq_ok (Z_J7_fill_53178 l) rfl [5] (fun _ _ _ _ _ _ h => h) 400 (Z_J7_fill_53178 l) ?_
    have e0 : ∀ c, S = zfil S c 0 v := fun c => zfil_0.symm
    have hm : (p = 49 ∧ n = 8) ∨ (p = 17 ∧ n = 144) ∨ (p = 55 ∧ n = 4) ∨ (p = 56 ∧ n = 3) := by
      simpa [flT] using hm
    rcases hm with ⟨rfl, rfl⟩ | ⟨rfl, rfl⟩ | ⟨rfl, rfl⟩ | ⟨rfl, rfl⟩
    · have := L_fl_49 (l := l) (v := v) h 8 0 (by omega)
      rw [← e0] at this
      exact this
    · have := L_fl_17 (l := l) (v := v) h 144 0 (by omega)
      rw [← e0] at this
      exact this
    · have := L_fl_55 (l := l) (v := v) h 4 0 (by omega)
      rw [← e0] at this
      exact this
    · have := L_fl_56 (l := l) (v := v) h 3 0 (by omega)
      rw [← e0] at this
      exact this
  · exact h.elim
