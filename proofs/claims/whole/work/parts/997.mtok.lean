/-! the house: the model's tests of a token -/
theorem tk_let {T : zD} {n p : Nat} (h : tkS T n p = 1) : ∀ j, tkP T n p ≤ j → j < tkN T n p → 97 ≤ T 1 j ∧ T 1 j ≤ 122 := by
  intro j h1 h2
  have eN : tkN T n p = if n ≤ tkP T n p then tkP T n p else if tin T 97 122 (tkP T n p) = true then rwE T n 97 122 (tkP T n p + 1) else if tin T 48 57 (tkP T n p) = true then rwE T n 48 57 (tkP T n p + 1) else tkP T n p + 1 := rfl
  have eS : tkS T n p = if n ≤ tkP T n p then 0 else if tin T 97 122 (tkP T n p) = true then 1 else if tin T 48 57 (tkP T n p) = true then 2 else if T 1 (tkP T n p) = 59 then 3 else 4 := rfl
  rw [h] at eS
  by_cases c1 : n ≤ tkP T n p
  · rw [if_pos c1] at eS; exact absurd eS (by decide)
  · rw [if_neg c1] at eS eN
    by_cases c2 : tin T 97 122 (tkP T n p) = true
    · rw [if_pos c2] at eN
      by_cases e : j = tkP T n p
      · rw [e]; exact tin_t.mp c2
      · rw [eN] at h2
        exact rwS_in T 97 122 _ _ j (by omega) h2
    · rw [if_neg c2] at eS
      by_cases c3 : tin T 48 57 (tkP T n p) = true
      · rw [if_pos c3] at eS; exact absurd eS (by decide)
      · rw [if_neg c3] at eS
        split at eS <;> exact absurd eS (by decide)
theorem wpS_bd (T : zD) (i : Nat) : ∀ f, (∀ j, i ≤ j → j < i + (f + 1) → 97 ≤ T 1 j ∧ T 1 j ≤ 122) → 32 ^ f ≤ wpS T (f + 1) i 0 ∧ wpS T (f + 1) i 0 < 32 ^ (f + 1) := by
  intro f
  induction f with
  | zero =>
    intro h
    have := h i (by omega) (by omega)
    show 1 ≤ 0 * 32 + (T 1 i - 96) ∧ 0 * 32 + (T 1 i - 96) < 32
    omega
  | succ f ih =>
    intro h
    have h1 := ih (fun j a b => h j a (by omega))
    have h2 := h (i + (f + 1)) (by omega) (by omega)
    rw [wpS_snoc, Nat.pow_succ 32 f, Nat.pow_succ 32 (f + 1)]
    omega
theorem wd_bd : ∀ i, i < 14 → 2 ≤ (wdL i).length ∧ (wdL i).length < 7 ∧ 32 ^ ((wdL i).length - 1) ≤ pkL (wdL i) ∧ pkL (wdL i) < 32 ^ (wdL i).length := by decide +kernel
theorem wd_lt : ∀ i, i < 14 → ∀ c ∈ wdL i, 97 ≤ c ∧ c ≤ 122 := by decide +kernel
theorem isW_t {T : zD} {n p : Nat} {w : List Nat} : isW T n p w = true ↔ tkS T n p = 1 ∧ tkN T n p - tkP T n p = w.length ∧ mtB T w (tkP T n p) = true := by
  unfold isW
  rw [Bool.and_eq_true, Bool.and_eq_true, nbeq, nbeq]
theorem mtB_inj {T : zD} : ∀ (w v : List Nat) (q : Nat), w.length = v.length → mtB T w q = true → mtB T v q = true → w = v := by
  intro w
  induction w with
  | nil => intro v q h _ _; cases v with
    | nil => rfl
    | cons c v => cases h
  | cons c w ih =>
    intro v q h h1 h2
    cases v with
    | nil => cases h
    | cons d v =>
      have h1 : (Nat.beq (T 1 q) c && mtB T w (q + 1)) = true := h1
      have h2 : (Nat.beq (T 1 q) d && mtB T v (q + 1)) = true := h2
      rw [Bool.and_eq_true, nbeq] at h1 h2
      rw [ih v (q + 1) (Nat.succ.inj h) h1.2 h2.2, ← h1.1, ← h2.1]
theorem isW_inj {T : zD} {n p : Nat} {w v : List Nat} (h1 : isW T n p w = true) (h2 : isW T n p v = true) : w = v := by
  have h1 := isW_t.mp h1
  have h2 := isW_t.mp h2
  exact mtB_inj w v _ (by rw [← h1.2.1, ← h2.2.1]) h1.2.2 h2.2.2
theorem pk_w {T : zD} {n p i : Nat} (hp : p ≤ n) (hi : i < 14) (hs : tkS T n p = 1) (hl : tkN T n p - tkP T n p < 7) : wpS T (min 6 (tkN T n p - tkP T n p)) (tkP T n p) 0 = pkL (wdL i) ↔ isW T n p (wdL i) = true := by
  have tp := tk_le (T := T) hp
  have t4 := tp.2.2.2 (by omega)
  have lt := tk_let hs
  have wb := wd_bd i hi
  have wl := wd_lt i hi
  rw [isW_t]
  generalize tkP T n p = q at *
  generalize tkN T n p = e at *
  have hm : min 6 (e - q) = e - q := by omega
  rw [hm]
  by_cases c : e - q = (wdL i).length
  · have := pk_inj T (wdL i) q 0 0 wl (fun j a b => lt j a (by omega))
    rw [c]
    exact ⟨fun z => ⟨hs, rfl, (this.mp z).2⟩, fun z => this.mpr ⟨rfl, z.2.2⟩⟩
  · have bd := wpS_bd T q (e - q - 1) (fun j a b => lt j a (by omega))
    rw [show e - q - 1 + 1 = e - q by omega] at bd
    refine ⟨fun z => ?_, fun z => absurd z.2.1 c⟩
    rcases Nat.lt_or_gt_of_ne c with g | g
    · have : 32 ^ (e - q) ≤ 32 ^ ((wdL i).length - 1) := Nat.pow_le_pow_right (by decide) (by omega)
      omega
    · have : 32 ^ (wdL i).length ≤ 32 ^ (e - q - 1) := Nat.pow_le_pow_right (by decide) (by omega)
      omega
def B_X12_is : List (Nat × zC) := [(22, (1, 0, 1, 1, 0, 0, 0))]
def O_X12_is : zO := fun j a S K => match j with
  | 0 => wp_X12_letters a S K
  | _ => False
theorem E_X12_is (l : Launch) : ∀ q ∈ B_X12_is, zcok l O_X12_is F_X12_is q.1 q.2 := List.forall_mem_cons.mpr ⟨⟨183, yX12_letters, cX12_letters, 1, some .long, by decide +kernel, C_12_183, W_X12_letters, I_X12_letters, rfl, R_X12_letters l⟩, fun _ h => by cases h⟩
def U_X12_is : List (Nat × zE) := [(0, Sum.inl (4, 0, 0, 0, 1, [])), (1, Sum.inl (18, 12, 19, 0, 4, [])), (4, Sum.inl (0, 0, 0, 1, 5, [])), (5, Sum.inl (16, 0, 8, 0, 33, [])), (8, Sum.inl (4, 0, 0, 0, 9, [])), (9, Sum.inl (18, 12, 21, 0, 12, [])), (12, Sum.inl (0, 0, 0, 7, 14, [])), (14, Sum.inl (16, 1, 17, 0, 33, [])), (17, Sum.inl (4, 0, 0, 0, 18, [])), (18, Sum.inl (18, 12, 23, 0, 21, [])), (21, Sum.inl (2, 1, 0, 0, 22, [])), (22, Sum.inr (1, 0, 1, 1, 0, 0, 0)), (25, Sum.inl (11, 2, 0, 0, 26, [])), (26, Sum.inl (17, 0, 29, 0, 33, [])), (29, Sum.inl (0, 0, 0, 1, 30, [])), (30, Sum.inl (15, 0, 0, 0, 34, [])), (33, Sum.inl (0, 0, 0, 0, 34, [])), (34, Sum.inl (27, 0, 0, 0, 35, []))]
theorem Z_X12_is (l : Launch) : ∀ q ∈ U_X12_is, zTok l O_X12_is F_X12_is q := zU_ok rfl rfl rfl K_X12_is (E_X12_is l)
def wp_X12_is (a : List zV) (S : zS) (K : zR2 → zS → Prop) : Prop := match a with
  | [.inr (.inl c), .inl x] => ∃ (T : zD) (n p i : Nat), (c = 62 ∧ x = (i : Int) ∧ i < 14 ∧ rdV S T n p ∧ p ≤ n) ∧ K (.inl (some (.inl (bti (isW T n p (wdL i)) : Int)))) S
  | _ => False
theorem R_X12_is (l : Launch) (a : List zV) (S : zS) (Q : zR2 → zS → Prop) (h : wp_X12_is a S Q) : zRs l 2 0 0 yX12_is (.code yX12_is cX12_is 2 (some .boolean)) a S Q := by
  unfold wp_X12_is at h
  split at h
  · obtain ⟨T, n, p, i, ⟨rfl, rfl, hi, hV, hp⟩, h⟩ := h
    obtain ⟨v1, v2, v3, v4, v5, v6⟩ := hV
    have tp := tk_le (T := T) hp
    have no : ¬ isW T n p (wdL i) = true → Q (.inl (some (.inl 0))) S := fun c => by
      rw [show isW T n p (wdL i) = false by simpa using c] at h; exact h
    have wb := wd_bd i hi
    refine zRs_of 12 (by decide) rfl rfl ?_; refine zwq_ok (Z_X12_is l) rfl [] (fun _ _ _ _ _ _ h => h) 400 (Z_X12_is l) ?_
    refine ⟨fun c => ⟨fun c2 => ⟨i, ⟨rfl, hi⟩, fun c3 => ⟨fun z => absurd z (by decide), fun _ => ⟨Or.inl rfl, no ?_⟩⟩, fun c3 => ⟨fun _ => ⟨Or.inr rfl, ?_⟩, fun z => absurd rfl z⟩, fun c3 => ⟨fun z => absurd z (by decide), fun _ => ⟨Or.inl rfl, no ?_⟩⟩⟩, fun c2 => ⟨Or.inl rfl, no ?_⟩⟩, fun c => ⟨Or.inl rfl, no ?_⟩⟩
    · have e : S (62 + 1000) 23 = _ := v6 (by omega)
      have w := pk_w (T := T) hp hi (by omega) (by omega)
      intro z
      have := w.mpr z
      omega
    · have e : S (62 + 1000) 23 = _ := v6 (by omega)
      have w := pk_w (T := T) hp hi (by omega) (by omega)
      rw [w.mp (by omega)] at h
      exact h
    · have e : S (62 + 1000) 23 = _ := v6 (by omega)
      have w := pk_w (T := T) hp hi (by omega) (by omega)
      intro z
      have := w.mpr z
      omega
    · intro z
      have := (isW_t.mp z).2.1
      omega
    · intro z
      have := (isW_t.mp z).1
      omega
  · exact h.elim
def ooF (T : zD) (n p : Nat) : Nat → Nat → Int
  | 0, _ => -1
  | f + 1, i => if isW T n p (wdL i) = true then (i : Int) else ooF T n p f (i + 1)
def B_X12_oneOf : List (Nat × zC) := [(9, (0, 0, 1, 2, 0, 0, 12))]
def O_X12_oneOf : zO := fun j a S K => match j with
  | 0 => wp_X12_is a S K
  | _ => False
theorem E_X12_oneOf (l : Launch) : ∀ q ∈ B_X12_oneOf, zcok l O_X12_oneOf F_X12_oneOf q.1 q.2 := List.forall_mem_cons.mpr ⟨⟨203, yX12_is, cX12_is, 2, some .boolean, by decide +kernel, C_12_203, W_X12_is, I_X12_is, S_X12_is, rfl, rfl, R_X12_is l⟩, fun _ h => by cases h⟩
def U_X12_oneOf : List (Nat × zE) := [(0, Sum.inl (2, 1, 0, 0, 1, [])), (1, Sum.inl (5, 3, 0, 0, 2, [])), (2, Sum.inl (2, 3, 0, 0, 3, [])), (3, Sum.inl (2, 2, 0, 0, 4, [])), (4, Sum.inl (16, 2, 23, 0, 7, [])), (7, Sum.inl (4, 0, 0, 0, 8, [])), (8, Sum.inl (2, 3, 0, 0, 9, [])), (9, Sum.inr (0, 0, 1, 2, 0, 0, 12)), (12, Sum.inl (17, 0, 17, 0, 15, [])), (15, Sum.inl (2, 3, 0, 0, 16, [])), (16, Sum.inl (27, 0, 0, 0, 17, [])), (17, Sum.inl (8, 3, 0, 1, 20, [])), (20, Sum.inl (15, 0, 0, 0, 2, [])), (23, Sum.inl (0, 0, 0, (-1), 24, [])), (24, Sum.inl (27, 0, 0, 0, 25, []))]
theorem Z_X12_oneOf (l : Launch) : ∀ q ∈ U_X12_oneOf, zTok l O_X12_oneOf F_X12_oneOf q := zU_ok rfl rfl rfl K_X12_oneOf (E_X12_oneOf l)
def wp_X12_oneOf (a : List zV) (S : zS) (K : zR2 → zS → Prop) : Prop := match a with
  | [.inr (.inl c), .inl x, .inl y] => ∃ (T : zD) (n p i f : Nat), (c = 62 ∧ x = (i : Int) ∧ y = (i : Int) + (f : Int) - 1 ∧ i + f ≤ 14 ∧ rdV S T n p ∧ p ≤ n) ∧ K (.inl (some (.inl (ooF T n p f i)))) S
  | _ => False
theorem L_X12_oneOf {l : Launch} {S : zS} {Q : zR2 → zS → Prop} {T : zD} {n p : Nat} {x y : Int} (hV : rdV S T n p) (hp : p ≤ n) (f : Nat) : ∀ i : Nat, y = (i : Int) + (f : Int) - 1 → i + f ≤ 14 → Q (.inl (some (.inl (ooF T n p f i)))) S → zGs l 3 0 0 F_X12_oneOf S 2 [(0, .inr (.inl 62)), (1, .inl x), (2, .inl y), (3, .inl (i : Int))] [] Q := by
  induction f with
  | zero =>
    intro i hy hi h
    refine zwq_ok (Z_X12_oneOf l) rfl [2] (fun _ _ _ _ _ _ h => h) 400 (Z_X12_oneOf l) ?_
    exact ⟨fun c => h, fun c => by omega⟩
  | succ f ih =>
    intro i hy hi h
    have h : Q (.inl (some (.inl (if isW T n p (wdL i) = true then (i : Int) else ooF T n p f (i + 1))))) S := h
    refine zwq_ok (Z_X12_oneOf l) rfl [2] (fun _ _ _ _ _ _ h => h) 400 (Z_X12_oneOf l) ?_
    refine ⟨fun c => by omega, fun c => ⟨T, n, p, i, ⟨rfl, rfl, by omega, hV, hp⟩, fun c2 => ⟨by omega, ?_⟩, fun c2 => ?_⟩⟩
    · rw [if_neg (bt_f c2)] at h
      exact ih (i + 1) (by omega) (by omega) h
    · rw [if_pos (bt_t c2)] at h
      exact h
theorem R_X12_oneOf (l : Launch) (a : List zV) (S : zS) (Q : zR2 → zS → Prop) (h : wp_X12_oneOf a S Q) : zRs l 3 0 0 yX12_oneOf (.code yX12_oneOf cX12_oneOf 4 (some .int)) a S Q := by
  unfold wp_X12_oneOf at h
  split at h
  · obtain ⟨T, n, p, i, f, ⟨rfl, rfl, rfl, hi, hV, hp⟩, h⟩ := h
    have go := L_X12_oneOf (l := l) (x := (i : Int)) hV hp f i rfl hi h
    refine zRs_of 12 (by decide) rfl rfl ?_; refine zwq_ok (Z_X12_oneOf l) rfl [2] (fun _ _ _ _ _ _ h => h) 400 (Z_X12_oneOf l) ?_
    exact go
  · exact h.elim
theorem oo_own {T : zD} {n p i : Nat} : ooF T n p 4 i = if own T n p i < 4 then ((i + own T n p i : Nat) : Int) else -1 := by
  show (if isW T n p (wdL i) = true then (i : Int) else if isW T n p (wdL (i + 1)) = true then ((i + 1 : Nat) : Int) else if isW T n p (wdL (i + 2)) = true then ((i + 2 : Nat) : Int) else if isW T n p (wdL (i + 3)) = true then ((i + 3 : Nat) : Int) else -1) = _
  unfold own
  split
  · rfl
  · split
    · rfl
    · split
      · rfl
      · split
        · rfl
        · rfl
theorem oo_5 {T : zD} {n p : Nat} : ooF T n p 5 0 = if isW T n p (wdL 4) = true then 4 else if own T n p 0 < 4 then (own T n p 0 : Int) else -1 := by
  have e : ∀ i, i < 4 → isW T n p (wdL 4) = true → ¬ isW T n p (wdL i) = true := fun i hi h1 h2 => by
    have := isW_inj h1 h2
    have d : ∀ i, i < 4 → wdL 4 ≠ wdL i := by decide
    exact d i hi this
  show (if isW T n p (wdL 0) = true then ((0 : Nat) : Int) else if isW T n p (wdL 1) = true then ((1 : Nat) : Int) else if isW T n p (wdL 2) = true then ((2 : Nat) : Int) else if isW T n p (wdL 3) = true then ((3 : Nat) : Int) else if isW T n p (wdL 4) = true then ((4 : Nat) : Int) else -1) = _
  by_cases c : isW T n p (wdL 4) = true
  · rw [if_neg (e 0 (by decide) c), if_neg (e 1 (by decide) c), if_neg (e 2 (by decide) c), if_neg (e 3 (by decide) c), if_pos c, if_pos c]; rfl
  · rw [if_neg c, if_neg c]
    unfold own
    split
    · rfl
    · split
      · rfl
      · split
        · rfl
        · split
          · rfl
          · rfl
