/-! the house: rows of letters and digits (class) -/
def tin (T : zD) (lo hi p : Nat) : Bool := Nat.ble lo (T 1 p) && Nat.ble (T 1 p) hi
theorem tin_t {T : zD} {lo hi p : Nat} : tin T lo hi p = true ↔ lo ≤ T 1 p ∧ T 1 p ≤ hi := by unfold tin; rw [Bool.and_eq_true, Nat.ble_eq, Nat.ble_eq]
theorem tin_f {T : zD} {lo hi p : Nat} (h : ¬ (lo ≤ T 1 p ∧ T 1 p ≤ hi)) : tin T lo hi p = false := by
  cases hb : tin T lo hi p
  · rfl
  · exact absurd (tin_t.mp hb) h
def rwS (T : zD) (lo hi : Nat) : Nat → Nat → Nat
  | 0, p => p
  | f + 1, p => bif tin T lo hi p then rwS T lo hi f (p + 1) else p
def rwE (T : zD) (n lo hi p : Nat) : Nat := rwS T lo hi (n - p) p
theorem rwS_le (T : zD) (lo hi : Nat) : ∀ f p, p ≤ rwS T lo hi f p ∧ rwS T lo hi f p ≤ p + f := by
  intro f
  induction f with
  | zero => intro p; exact ⟨Nat.le_refl p, Nat.le_refl p⟩
  | succ f ih =>
    intro p
    show p ≤ (bif tin T lo hi p then rwS T lo hi f (p + 1) else p) ∧ (bif tin T lo hi p then rwS T lo hi f (p + 1) else p) ≤ p + (f + 1)
    cases tin T lo hi p
    · exact ⟨Nat.le_refl p, Nat.le_add_right p (f + 1)⟩
    · have := ih (p + 1)
      show p ≤ rwS T lo hi f (p + 1) ∧ rwS T lo hi f (p + 1) ≤ p + (f + 1)
      omega
def rdT (S : zS) (T : zD) (n : Nat) : Prop := S 19 2 = (n : Int) ∧ n ≤ 700 ∧ (∀ k, k < n → S 2 k = sby (T 1 k)) ∧ ∀ k, T 1 k < 256
def fr3 (S S0 : zS) : Prop := ∀ c j, (c ≠ 19 ∨ j ≠ 3) → S c j = S0 c j
theorem rdT.f3 {S S0 : zS} {T : zD} {n : Nat} (h : rdT S0 T n) (hf : fr3 S S0) : rdT S T n := by
  unfold rdT
  rw [hf 19 2 (by omega), show S 2 = S0 2 from funext fun k => hf 2 k (by omega)]
  exact h
theorem fr3.u {S S0 : zS} {v : Int} (h : fr3 S S0) : fr3 (zu S 19 3 v) S0 := fun c j hc => (zuN hc).trans (h c j hc)
theorem sby_in {b lo hi : Nat} (hb : b < 256) (hh : hi < 128) : ((lo : Int) ≤ sby b ∧ sby b ≤ (hi : Int)) ↔ (lo ≤ b ∧ b ≤ hi) := by
  unfold sby
  split <;> omega
def B_X7_takeRow : List (Nat × zC) := []
def O_X7_takeRow : zO := fun j a S K => match j with
  | _ => False
theorem E_X7_takeRow (l : Launch) : ∀ q ∈ B_X7_takeRow, zcok l O_X7_takeRow F_X7_takeRow q.1 q.2 := fun _ h => by cases h
def U_X7_takeRow : List (Nat × zE) := [(0, Sum.inl (4, 0, 0, 0, 1, [])), (1, Sum.inl (18, 7, 3, 0, 4, [])), (4, Sum.inl (4, 0, 0, 0, 5, [])), (5, Sum.inl (18, 7, 2, 0, 8, [])), (8, Sum.inl (16, 1, 11, 0, 50, [])), (11, Sum.inl (4, 0, 0, 0, 12, [])), (12, Sum.inl (18, 7, 0, 0, 15, [])), (15, Sum.inl (4, 0, 0, 0, 16, [])), (16, Sum.inl (18, 7, 3, 0, 19, [])), (19, Sum.inl (22, 0, 0, 0, 20, [])), (20, Sum.inl (2, 1, 0, 0, 21, [])), (21, Sum.inl (16, 1, 50, 0, 24, [])), (24, Sum.inl (4, 0, 0, 0, 25, [])), (25, Sum.inl (18, 7, 0, 0, 28, [])), (28, Sum.inl (4, 0, 0, 0, 29, [])), (29, Sum.inl (18, 7, 3, 0, 32, [])), (32, Sum.inl (22, 0, 0, 0, 33, [])), (33, Sum.inl (2, 2, 0, 0, 34, [])), (34, Sum.inl (16, 2, 50, 0, 37, [])), (37, Sum.inl (4, 0, 0, 0, 38, [])), (38, Sum.inl (12, 0, 0, 0, 39, [])), (39, Sum.inl (18, 7, 3, 0, 42, [])), (42, Sum.inl (0, 0, 0, 1, 43, [])), (43, Sum.inl (9, 0, 0, 0, 44, [])), (44, Sum.inl (19, 7, 3, 0, 47, [])), (47, Sum.inl (15, 0, 0, 0, 0, [])), (50, Sum.inl (29, 0, 0, 0, 51, []))]
theorem Z_X7_takeRow (l : Launch) : ∀ q ∈ U_X7_takeRow, zTok l O_X7_takeRow F_X7_takeRow q := zU_ok rfl rfl rfl K_X7_takeRow (E_X7_takeRow l)
def wp_X7_takeRow (a : List zV) (S : zS) (K : zR2 → zS → Prop) : Prop := match a with
  | [.inr (.inl c), .inl x, .inl y] => ∃ (T : zD) (n p lo hi : Nat), (c = 19 ∧ rdT S T n ∧ S 19 3 = (p : Int) ∧ p ≤ n ∧ x = (lo : Int) ∧ y = (hi : Int) ∧ hi < 128) ∧ ∀ S', S' 19 3 = (rwE T n lo hi p : Int) → fr3 S' S → K (.inl none) S'
  | _ => False
theorem L_X7_takeRow {lc : Launch} {S0 : zS} {Q : zR2 → zS → Prop} {T : zD} {n lo hi : Nat} (hT : rdT S0 T n) (hh : hi < 128) (f : Nat) : ∀ p S, p + f = n → S 19 3 = (p : Int) → fr3 S S0 → (∀ S', S' 19 3 = (rwS T lo hi f p : Int) → fr3 S' S0 → Q (.inl none) S') → zGs lc 0 0 0 F_X7_takeRow S 0 [(0, .inr (.inl 19)), (1, .inl (lo : Int)), (2, .inl (hi : Int))] [] Q := by
  induction f with
  | zero =>
    intro p S hp h3 hf k
    obtain ⟨e2, hn, hb, h256⟩ := hT.f3 hf
    refine zwq_ok (Z_X7_takeRow lc) rfl [0] (fun _ _ _ _ _ _ h => h) 400 (Z_X7_takeRow lc) ?_
    exact ⟨fun c => by omega, fun c => k S h3 hf⟩
  | succ f ih =>
    intro p S hp h3 hf k
    obtain ⟨e2, hn, hb, h256⟩ := hT.f3 hf
    have eb := hb p (by omega)
    have hs := sby_in (lo := lo) (h256 p) hh
    have k : ∀ S', S' 19 3 = ((bif tin T lo hi p then rwS T lo hi f (p + 1) else p : Nat) : Int) → fr3 S' S0 → Q (.inl none) S' := k
    refine zwq_ok (Z_X7_takeRow lc) rfl [0] (fun _ _ _ _ _ _ h => h) 400 (Z_X7_takeRow lc) ?_
    refine ⟨fun c => ⟨p, ⟨h3, by omega⟩, fun c1 => ?_, fun c1 => ⟨p, ⟨h3, by omega⟩, fun c2 => ?_, fun c2 => ⟨by omega, ?_⟩⟩⟩, fun c => by omega⟩
    · rw [tin_f (by omega)] at k
      exact k S h3 hf
    · rw [tin_f (by omega)] at k
      exact k S h3 hf
    · rw [tin_t.mpr (by omega)] at k
      exact ih (p + 1) _ (by omega) (by rw [zuE]; omega) hf.u k
theorem R_X7_takeRow (l : Launch) (a : List zV) (S : zS) (Q : zR2 → zS → Prop) (h : wp_X7_takeRow a S Q) : zRs l 0 0 0 yX7_takeRow (.code yX7_takeRow cX7_takeRow 3 (none)) a S Q := by
  unfold wp_X7_takeRow at h
  split at h
  · obtain ⟨T, n, p, lo, hi, ⟨rfl, hT, h3, hp, rfl, rfl, hh⟩, h⟩ := h
    refine zRs_of 7 (by decide) rfl rfl ?_
    exact L_X7_takeRow (lc := l) hT hh (n - p) p S (by omega) h3 (fun _ _ _ => rfl) h
  · exact h.elim
