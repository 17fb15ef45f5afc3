/-! the house: the model's bytes -/
def rdM (S : zS) (T : zD) (n : Nat) : Prop := S 62 17 = (n : Int) ∧ n ≤ 700 ∧ (∀ k, k < n → S 70 k = (T 1 k : Int)) ∧ ∀ k, T 1 k < 256
def btN (T : zD) (n p : Nat) : Nat := if p < n then T 1 p else 0
def inB (lo hi b : Nat) : Bool := Nat.ble lo b && Nat.ble b hi
theorem inB_t {lo hi b : Nat} : inB lo hi b = true ↔ lo ≤ b ∧ b ≤ hi := by unfold inB; rw [Bool.and_eq_true, Nat.ble_eq, Nat.ble_eq]
theorem inB_f {lo hi b : Nat} (h : ¬ (lo ≤ b ∧ b ≤ hi)) : inB lo hi b = false := by
  cases hb : inB lo hi b
  · rfl
  · exact absurd (inB_t.mp hb) h
def B_X12_byteAt : List (Nat × zC) := []
def O_X12_byteAt : zO := fun j a S K => match j with
  | _ => False
theorem E_X12_byteAt (l : Launch) : ∀ q ∈ B_X12_byteAt, zcok l O_X12_byteAt F_X12_byteAt q.1 q.2 := fun _ h => by cases h
def U_X12_byteAt : List (Nat × zE) := [(0, Sum.inl (2, 1, 0, 0, 1, [])), (1, Sum.inl (4, 0, 0, 0, 2, [])), (2, Sum.inl (18, 12, 17, 0, 5, [])), (5, Sum.inl (16, 1, 8, 0, 17, [])), (8, Sum.inl (4, 0, 0, 0, 9, [])), (9, Sum.inl (18, 12, 12, 0, 12, [])), (12, Sum.inl (2, 1, 0, 0, 13, [])), (13, Sum.inl (20, 0, 0, 0, 14, [])), (14, Sum.inl (15, 0, 0, 0, 18, [])), (17, Sum.inl (0, 0, 0, 0, 18, [])), (18, Sum.inl (27, 0, 0, 0, 19, []))]
theorem Z_X12_byteAt (l : Launch) : ∀ q ∈ U_X12_byteAt, zTok l O_X12_byteAt F_X12_byteAt q := zU_ok rfl rfl rfl K_X12_byteAt (E_X12_byteAt l)
def wp_X12_byteAt (a : List zV) (S : zS) (K : zR2 → zS → Prop) : Prop := match a with
  | [.inr (.inl c), .inl x] => ∃ (T : zD) (n p : Nat), (c = 62 ∧ rdM S T n ∧ x = (p : Int)) ∧ K (.inl (some (.inl (btN T n p : Int)))) S
  | _ => False
theorem R_X12_byteAt (l : Launch) (a : List zV) (S : zS) (Q : zR2 → zS → Prop) (h : wp_X12_byteAt a S Q) : zRs l 0 0 0 yX12_byteAt (.code yX12_byteAt cX12_byteAt 2 (some .int)) a S Q := by
  unfold wp_X12_byteAt at h
  split at h
  · obtain ⟨T, n, p, ⟨rfl, ⟨e1, hn, hb, h256⟩, rfl⟩, h⟩ := h
    unfold btN at h
    refine zRs_of 12 (by decide) rfl rfl ?_; refine zwq_ok (Z_X12_byteAt l) rfl [] (fun _ _ _ _ _ _ h => h) 400 (Z_X12_byteAt l) ?_
    refine ⟨fun c => ⟨p, ⟨rfl, by omega⟩, ?_⟩, fun c => ?_⟩
    · rw [if_pos (by omega), ← hb p (by omega)] at h
      exact h
    · rw [if_neg (by omega)] at h
      exact h
  · exact h.elim
def B_X12_isLetter : List (Nat × zC) := []
def O_X12_isLetter : zO := fun j a S K => match j with
  | _ => False
theorem E_X12_isLetter (l : Launch) : ∀ q ∈ B_X12_isLetter, zcok l O_X12_isLetter F_X12_isLetter q.1 q.2 := fun _ h => by cases h
def U_X12_isLetter : List (Nat × zE) := [(0, Sum.inl (2, 0, 0, 0, 1, [])), (1, Sum.inl (0, 0, 0, 97, 3, [])), (3, Sum.inl (16, 1, 16, 0, 6, [])), (6, Sum.inl (2, 0, 0, 0, 7, [])), (7, Sum.inl (0, 0, 0, 122, 9, [])), (9, Sum.inl (16, 2, 16, 0, 12, [])), (12, Sum.inl (0, 0, 0, 1, 13, [])), (13, Sum.inl (15, 0, 0, 0, 17, [])), (16, Sum.inl (0, 0, 0, 0, 17, [])), (17, Sum.inl (27, 0, 0, 0, 18, []))]
theorem Z_X12_isLetter (l : Launch) : ∀ q ∈ U_X12_isLetter, zTok l O_X12_isLetter F_X12_isLetter q := zU_ok rfl rfl rfl K_X12_isLetter (E_X12_isLetter l)
def wp_X12_isLetter (a : List zV) (S : zS) (K : zR2 → zS → Prop) : Prop := match a with
  | [.inl x] => ∃ b : Nat, x = (b : Int) ∧ K (.inl (some (.inl (bti (inB 97 122 b) : Int)))) S
  | _ => False
theorem R_X12_isLetter (l : Launch) (a : List zV) (S : zS) (Q : zR2 → zS → Prop) (h : wp_X12_isLetter a S Q) : zRs l 0 0 0 yX12_isLetter (.code yX12_isLetter cX12_isLetter 1 (some .boolean)) a S Q := by
  unfold wp_X12_isLetter at h
  split at h
  · obtain ⟨b, rfl, h⟩ := h
    refine zRs_of 12 (by decide) rfl rfl ?_; refine zwq_ok (Z_X12_isLetter l) rfl [] (fun _ _ _ _ _ _ h => h) 400 (Z_X12_isLetter l) ?_
    refine ⟨fun c => ⟨Or.inl rfl, ?_⟩, fun c => ⟨fun c2 => ⟨Or.inl rfl, ?_⟩, fun c2 => ⟨Or.inr rfl, ?_⟩⟩⟩
    · rw [inB_f (by omega)] at h; exact h
    · rw [inB_f (by omega)] at h; exact h
    · rw [inB_t.mpr (by omega)] at h; exact h
  · exact h.elim
def B_X12_isDigit : List (Nat × zC) := []
def O_X12_isDigit : zO := fun j a S K => match j with
  | _ => False
theorem E_X12_isDigit (l : Launch) : ∀ q ∈ B_X12_isDigit, zcok l O_X12_isDigit F_X12_isDigit q.1 q.2 := fun _ h => by cases h
def U_X12_isDigit : List (Nat × zE) := [(0, Sum.inl (2, 0, 0, 0, 1, [])), (1, Sum.inl (0, 0, 0, 48, 3, [])), (3, Sum.inl (16, 1, 16, 0, 6, [])), (6, Sum.inl (2, 0, 0, 0, 7, [])), (7, Sum.inl (0, 0, 0, 57, 9, [])), (9, Sum.inl (16, 2, 16, 0, 12, [])), (12, Sum.inl (0, 0, 0, 1, 13, [])), (13, Sum.inl (15, 0, 0, 0, 17, [])), (16, Sum.inl (0, 0, 0, 0, 17, [])), (17, Sum.inl (27, 0, 0, 0, 18, []))]
theorem Z_X12_isDigit (l : Launch) : ∀ q ∈ U_X12_isDigit, zTok l O_X12_isDigit F_X12_isDigit q := zU_ok rfl rfl rfl K_X12_isDigit (E_X12_isDigit l)
def wp_X12_isDigit (a : List zV) (S : zS) (K : zR2 → zS → Prop) : Prop := match a with
  | [.inl x] => ∃ b : Nat, x = (b : Int) ∧ K (.inl (some (.inl (bti (inB 48 57 b) : Int)))) S
  | _ => False
theorem R_X12_isDigit (l : Launch) (a : List zV) (S : zS) (Q : zR2 → zS → Prop) (h : wp_X12_isDigit a S Q) : zRs l 0 0 0 yX12_isDigit (.code yX12_isDigit cX12_isDigit 1 (some .boolean)) a S Q := by
  unfold wp_X12_isDigit at h
  split at h
  · obtain ⟨b, rfl, h⟩ := h
    refine zRs_of 12 (by decide) rfl rfl ?_; refine zwq_ok (Z_X12_isDigit l) rfl [] (fun _ _ _ _ _ _ h => h) 400 (Z_X12_isDigit l) ?_
    refine ⟨fun c => ⟨Or.inl rfl, ?_⟩, fun c => ⟨fun c2 => ⟨Or.inl rfl, ?_⟩, fun c2 => ⟨Or.inr rfl, ?_⟩⟩⟩
    · rw [inB_f (by omega)] at h; exact h
    · rw [inB_f (by omega)] at h; exact h
    · rw [inB_t.mpr (by omega)] at h; exact h
  · exact h.elim
def frY (S S0 : zS) : Prop := ∀ c j, c ≠ 1062 → (c ≠ 62 ∨ j < 18 ∨ 23 < j) → S c j = S0 c j
theorem frY.u {S S0 : zS} {j : Nat} {v : Int} (h : frY S S0) (hj : 18 ≤ j ∧ j ≤ 23) : frY (zu S 62 j v) S0 := fun c i hw hc => (zuN (by omega)).trans (h c i hw hc)
theorem frY.w {S S0 : zS} {v : Int} (h : frY S S0) : frY (zu S 1062 23 v) S0 := fun c i hw hc => (zuN (Or.inl hw)).trans (h c i hw hc)
theorem rdM.fy {S S0 : zS} {T : zD} {n : Nat} (h : rdM S0 T n) (hf : frY S S0) : rdM S T n := by
  unfold rdM
  rw [hf 62 17 (by omega) (by omega), show S 70 = S0 70 from funext fun k => hf 70 k (by omega) (by omega)]
  exact h
theorem wpS_snoc (T : zD) : ∀ f i w, wpS T (f + 1) i w = wpS T f i w * 32 + (T 1 (i + f) - 96) := by
  intro f
  induction f with
  | zero => intro i w; rfl
  | succ f ih =>
    intro i w
    show wpS T (f + 1) (i + 1) (w * 32 + (T 1 i - 96)) = wpS T f (i + 1) (w * 32 + (T 1 i - 96)) * 32 + (T 1 (i + (f + 1)) - 96)
    rw [ih, show i + 1 + f = i + (f + 1) by omega]
theorem vaS_snoc (T : zD) : ∀ f i v, vaS T (f + 1) i v = 10 * vaS T f i v + (T 1 (i + f) - 48) := by
  intro f
  induction f with
  | zero => intro i w; rfl
  | succ f ih =>
    intro i v
    show vaS T (f + 1) (i + 1) (10 * v + (T 1 i - 48)) = 10 * vaS T f (i + 1) (10 * v + (T 1 i - 48)) + (T 1 (i + (f + 1)) - 48)
    rw [ih, show i + 1 + f = i + (f + 1) by omega]
