/-! the house: the class's tokens -/
def vaS (T : zD) : Nat → Nat → Nat → Nat
  | 0, _, v => v
  | f + 1, i, v => vaS T f (i + 1) (10 * v + (T 1 i - 48))
def B_X7_valueHere : List (Nat × zC) := []
def O_X7_valueHere : zO := fun j a S K => match j with
  | _ => False
theorem E_X7_valueHere (l : Launch) : ∀ q ∈ B_X7_valueHere, zcok l O_X7_valueHere F_X7_valueHere q.1 q.2 := fun _ h => by cases h
def U_X7_valueHere : List (Nat × zE) := [(0, Sum.inl (0, 0, 0, 0, 1, [])), (1, Sum.inl (5, 1, 0, 0, 2, [])), (2, Sum.inl (4, 0, 0, 0, 3, [])), (3, Sum.inl (18, 7, 5, 0, 6, [])), (6, Sum.inl (5, 2, 0, 0, 7, [])), (7, Sum.inl (2, 2, 0, 0, 8, [])), (8, Sum.inl (4, 0, 0, 0, 9, [])), (9, Sum.inl (18, 7, 3, 0, 12, [])), (12, Sum.inl (16, 1, 15, 0, 46, [])), (15, Sum.inl (2, 2, 0, 0, 16, [])), (16, Sum.inl (4, 0, 0, 0, 17, [])), (17, Sum.inl (18, 7, 5, 0, 20, [])), (20, Sum.inl (0, 0, 0, 3, 21, [])), (21, Sum.inl (9, 0, 0, 0, 22, [])), (22, Sum.inl (16, 1, 25, 0, 46, [])), (25, Sum.inl (2, 1, 0, 0, 26, [])), (26, Sum.inl (0, 0, 0, 10, 28, [])), (28, Sum.inl (9, 2, 0, 0, 29, [])), (29, Sum.inl (4, 0, 0, 0, 30, [])), (30, Sum.inl (18, 7, 0, 0, 33, [])), (33, Sum.inl (2, 2, 0, 0, 34, [])), (34, Sum.inl (22, 0, 0, 0, 35, [])), (35, Sum.inl (0, 0, 0, 48, 37, [])), (37, Sum.inl (9, 1, 0, 0, 38, [])), (38, Sum.inl (9, 0, 0, 0, 39, [])), (39, Sum.inl (5, 1, 0, 0, 40, [])), (40, Sum.inl (8, 2, 0, 1, 43, [])), (43, Sum.inl (15, 0, 0, 0, 7, [])), (46, Sum.inl (2, 1, 0, 0, 47, [])), (47, Sum.inl (27, 0, 0, 0, 48, []))]
theorem Z_X7_valueHere (l : Launch) : ∀ q ∈ U_X7_valueHere, zTok l O_X7_valueHere F_X7_valueHere q := zU_ok rfl rfl rfl K_X7_valueHere (E_X7_valueHere l)
def wp_X7_valueHere (a : List zV) (S : zS) (K : zR2 → zS → Prop) : Prop := match a with
  | [.inr (.inl c)] => ∃ (T : zD) (n q e : Nat), (c = 19 ∧ rdT S T n ∧ S 19 5 = (q : Int) ∧ S 19 3 = (e : Int) ∧ q ≤ e ∧ e ≤ n ∧ ∀ i, q ≤ i → i < e → 48 ≤ T 1 i ∧ T 1 i ≤ 57) ∧ K (.inl (some (.inl (vaS T (min 3 (e - q)) q 0 : Int)))) S
  | _ => False
theorem L_X7_valueHere {lc : Launch} {S : zS} {Q : zR2 → zS → Prop} {T : zD} {n q e : Nat} (hT : rdT S T n) (h5 : S 19 5 = (q : Int)) (h3 : S 19 3 = (e : Int)) (hqe : q ≤ e) (hen : e ≤ n) (hd : ∀ i, q ≤ i → i < e → 48 ≤ T 1 i ∧ T 1 i ≤ 57) (f : Nat) : ∀ i v, i + f = min (q + 3) e → q ≤ i → v < 10 ^ (i - q) → Q (.inl (some (.inl (vaS T f i v : Int)))) S → zGs lc 0 0 0 F_X7_valueHere S 7 [(0, .inr (.inl 19)), (1, .inl (v : Int)), (2, .inl (i : Int))] [] Q := by
  obtain ⟨e2, hn, hb, h256⟩ := hT
  induction f with
  | zero =>
    intro i v hi hq hv k
    refine zwq_ok (Z_X7_valueHere lc) rfl [7] (fun _ _ _ _ _ _ h => h) 400 (Z_X7_valueHere lc) ?_
    exact ⟨fun c => ⟨by omega, fun c2 => by omega, fun c2 => k⟩, fun c => k⟩
  | succ f ih =>
    intro i v hi hq hv k
    have k : Q (.inl (some (.inl (vaS T f (i + 1) (10 * v + (T 1 i - 48)) : Int)))) S := k
    have d := hd i hq (by omega)
    have eb := hb i (by omega)
    have es : sby (T 1 i) = (T 1 i : Int) := by unfold sby; rw [if_pos (by omega)]
    rw [es] at eb
    have hp : 10 ^ (i - q) ≤ 10 ^ 2 := Nat.pow_le_pow_right (by decide) (by omega)
    have this := ih (i + 1) (10 * v + (T 1 i - 48)) (by omega) (by omega) (by rw [show i + 1 - q = i - q + 1 by omega, Nat.pow_succ]; omega) k
    refine zwq_ok (Z_X7_valueHere lc) rfl [7] (fun _ _ _ _ _ _ h => h) 400 (Z_X7_valueHere lc) ?_
    refine ⟨fun c => ⟨by omega, fun c2 => ⟨by omega, i, ⟨rfl, by omega⟩, by omega, by omega, by omega, ?_⟩, fun c2 => by omega⟩, fun c => by omega⟩
    rw [show (v : Int) * 10 + (S 2 i - 48) = ((10 * v + (T 1 i - 48) : Nat) : Int) by omega]
    exact this
theorem R_X7_valueHere (l : Launch) (a : List zV) (S : zS) (Q : zR2 → zS → Prop) (h : wp_X7_valueHere a S Q) : zRs l 0 0 0 yX7_valueHere (.code yX7_valueHere cX7_valueHere 3 (some .int)) a S Q := by
  unfold wp_X7_valueHere at h
  split at h
  · obtain ⟨T, n, q, e, ⟨rfl, hT, h5, h3, hqe, hen, hd⟩, h⟩ := h
    have go := L_X7_valueHere (lc := l) hT h5 h3 hqe hen hd (min 3 (e - q)) q 0 (by omega) (Nat.le_refl q) (by rw [Nat.sub_self]; decide) h
    rw [← h5] at go
    refine zRs_of 7 (by decide) rfl rfl ?_; refine zwq_ok (Z_X7_valueHere l) rfl [7] (fun _ _ _ _ _ _ h => h) 400 (Z_X7_valueHere l) ?_
    exact go
  · exact h.elim
def spB (T : zD) (p : Nat) : Bool := Nat.beq (T 1 p) 32 || Nat.beq (T 1 p) 10
theorem spB_t {T : zD} {p : Nat} : spB T p = true ↔ T 1 p = 32 ∨ T 1 p = 10 := by unfold spB; rw [Bool.or_eq_true, nbeq, nbeq]
theorem spB_f {T : zD} {p : Nat} (h : ¬ (T 1 p = 32 ∨ T 1 p = 10)) : spB T p = false := by
  cases hb : spB T p
  · rfl
  · exact absurd (spB_t.mp hb) h
def skS (T : zD) : Nat → Nat → Nat
  | 0, p => p
  | f + 1, p => bif spB T p then skS T f (p + 1) else p
theorem skS_le (T : zD) : ∀ f p, p ≤ skS T f p ∧ skS T f p ≤ p + f := by
  intro f
  induction f with
  | zero => intro p; exact ⟨Nat.le_refl p, Nat.le_refl p⟩
  | succ f ih =>
    intro p
    show p ≤ (bif spB T p then skS T f (p + 1) else p) ∧ (bif spB T p then skS T f (p + 1) else p) ≤ p + (f + 1)
    cases spB T p
    · exact ⟨Nat.le_refl p, Nat.le_add_right p (f + 1)⟩
    · have := ih (p + 1)
      show p ≤ skS T f (p + 1) ∧ skS T f (p + 1) ≤ p + (f + 1)
      omega
/-- the token at p: its place, its sort, what is behind it, its value -/
def tkP (T : zD) (n p : Nat) : Nat := skS T (n - p) p
def tkS (T : zD) (n p : Nat) : Nat := if n ≤ tkP T n p then 0 else if tin T 97 122 (tkP T n p) = true then 1 else if tin T 48 57 (tkP T n p) = true then 2 else if T 1 (tkP T n p) = 59 then 3 else 4
def tkN (T : zD) (n p : Nat) : Nat := if n ≤ tkP T n p then tkP T n p else if tin T 97 122 (tkP T n p) = true then rwE T n 97 122 (tkP T n p + 1) else if tin T 48 57 (tkP T n p) = true then rwE T n 48 57 (tkP T n p + 1) else tkP T n p + 1
def tkV (T : zD) (n p : Nat) : Nat := vaS T (min 3 (tkN T n p - tkP T n p)) (tkP T n p) 0
theorem rwS_in (T : zD) (lo hi : Nat) : ∀ f p i, p ≤ i → i < rwS T lo hi f p → lo ≤ T 1 i ∧ T 1 i ≤ hi := by
  intro f
  induction f with
  | zero => intro p i h1 h2; exact absurd h2 (by show ¬ i < p; omega)
  | succ f ih =>
    intro p i h1 h2
    have h2 : i < (bif tin T lo hi p then rwS T lo hi f (p + 1) else p) := h2
    cases hb : tin T lo hi p with
    | true =>
      rw [hb] at h2
      by_cases e : i = p
      · rw [e]; exact tin_t.mp hb
      · exact ih (p + 1) i (by omega) h2
    | false => rw [hb] at h2; exact absurd h2 (by show ¬ i < p; omega)
