/-! rows of what all may do: products of lists -/
def pL (A : Nat → List Nat) : Nat → Nat → List (List Nat)
  | 0, _ => [[]]
  | f + 1, l => (A l).flatMap (fun a => (pL A f (l + 1)).map (fun r => a :: r))
def lP (A : Nat → List Nat) : Nat → Nat → Nat
  | 0, _ => 1
  | f + 1, l => (A l).length * lP A f (l + 1)
theorem len_fm {α β : Type} (xs : List α) (g : α → List β) (n : Nat) (h : ∀ a, (g a).length = n) : (xs.flatMap g).length = xs.length * n := by
  induction xs with
  | nil => rw [List.flatMap_nil, List.length_nil, List.length_nil, Nat.zero_mul]
  | cons a xs ih => rw [List.flatMap_cons, List.length_append, ih, h, List.length_cons, Nat.succ_mul, Nat.add_comm]
theorem pL_len (A : Nat → List Nat) : ∀ f l, (pL A f l).length = lP A f l := by
  intro f
  induction f with
  | zero => intro l; rfl
  | succ f ih =>
    intro l
    show ((A l).flatMap (fun a => (pL A f (l + 1)).map (fun r => a :: r))).length = (A l).length * lP A f (l + 1)
    exact len_fm _ _ _ (fun a => by rw [List.length_map, ih])
theorem pL_rowlen (A : Nat → List Nat) : ∀ f l, ∀ r ∈ pL A f l, r.length = f := by
  intro f
  induction f with
  | zero => intro l r hr; have : r = [] := by simpa [pL] using hr
            subst this; rfl
  | succ f ih =>
    intro l r hr
    obtain ⟨a, _, hr⟩ := List.mem_flatMap.mp hr
    obtain ⟨r', hr', rfl⟩ := List.mem_map.mp hr
    rw [List.length_cons, ih _ r' hr']
theorem pL_mem (A : Nat → List Nat) : ∀ f l r, r ∈ pL A f l ↔ r.length = f ∧ ∀ k, k < f → r.getD k 0 ∈ A (l + k) := by
  intro f
  induction f with
  | zero =>
    intro l r
    constructor
    · intro h
      have : r = [] := by simpa [pL] using h
      subst this
      exact ⟨rfl, fun k hk => absurd hk (Nat.not_lt_zero k)⟩
    · intro h
      have : r = [] := List.eq_nil_of_length_eq_zero h.1
      subst this
      exact List.mem_singleton.mpr rfl
  | succ f ih =>
    intro l r
    constructor
    · intro h
      obtain ⟨a, ha, h⟩ := List.mem_flatMap.mp h
      obtain ⟨r', hr', rfl⟩ := List.mem_map.mp h
      obtain ⟨h1, h2⟩ := (ih (l + 1) r').mp hr'
      refine ⟨by rw [List.length_cons, h1], fun k hk => ?_⟩
      cases k with
      | zero => exact ha
      | succ k =>
        have := h2 k (by omega)
        rw [show l + 1 + k = l + (k + 1) by omega] at this
        exact this
    · intro h
      obtain ⟨h1, h2⟩ := h
      cases r with
      | nil => cases h1
      | cons a r' =>
        have ha : a ∈ A l := h2 0 (by omega)
        refine List.mem_flatMap.mpr ⟨a, ha, List.mem_map.mpr ⟨r', (ih (l + 1) r').mpr ⟨Nat.succ.inj h1, fun k hk => ?_⟩, rfl⟩⟩
        have := h2 (k + 1) (by omega)
        rw [show l + 1 + k = l + (k + 1) by omega]
        exact this
/-- every one of a row keeps to s -/
def aP (s : Nat → Nat → Bool) : Nat → List Nat → Bool
  | _, [] => true
  | l, a :: r => s l a && aP s (l + 1) r
theorem aP_iff (s : Nat → Nat → Bool) : ∀ l r, aP s l r = true ↔ ∀ k, k < r.length → s (l + k) (r.getD k 0) = true := by
  intro l r
  induction r generalizing l with
  | nil => exact ⟨fun _ k hk => absurd hk (Nat.not_lt_zero k), fun _ => rfl⟩
  | cons a r ih =>
    show (s l a && aP s (l + 1) r) = true ↔ _
    rw [Bool.and_eq_true, ih]
    constructor
    · intro h k hk
      cases k with
      | zero => exact h.1
      | succ k =>
        have := h.2 k (by rw [List.length_cons] at hk; omega)
        rw [show l + 1 + k = l + (k + 1) by omega] at this
        exact this
    · intro h
      refine ⟨h 0 (by rw [List.length_cons]; omega), fun k hk => ?_⟩
      have := h (k + 1) (by rw [List.length_cons]; omega)
      rw [show l + 1 + k = l + (k + 1) by omega]
      exact this
theorem fil_fm {α β : Type} (xs : List α) (g : α → List β) (p : β → Bool) : (xs.flatMap g).filter p = xs.flatMap (fun a => (g a).filter p) := by
  induction xs with
  | nil => rfl
  | cons a xs ih => rw [List.flatMap_cons, List.flatMap_cons, List.filter_append, ih]
theorem fm_fil {α β : Type} (xs : List α) (q : α → Bool) (g : α → List β) : (xs.filter q).flatMap g = xs.flatMap (fun a => bif q a then g a else []) := by
  induction xs with
  | nil => rfl
  | cons a xs ih =>
    rw [List.flatMap_cons]
    cases h : q a with
    | true => rw [List.filter_cons_of_pos h, List.flatMap_cons, ih]; rfl
    | false => rw [List.filter_cons_of_neg (by rw [h]; decide), ih]; rfl
theorem pL_fil (A : Nat → List Nat) (s : Nat → Nat → Bool) : ∀ f l, (pL A f l).filter (aP s l) = pL (fun j => (A j).filter (s j)) f l := by
  intro f
  induction f with
  | zero => intro l; rfl
  | succ f ih =>
    intro l
    show ((A l).flatMap (fun a => (pL A f (l + 1)).map (fun r => a :: r))).filter (aP s l) = ((A l).filter (s l)).flatMap (fun a => (pL (fun j => (A j).filter (s j)) f (l + 1)).map (fun r => a :: r))
    rw [fil_fm, fm_fil]
    congr 1
    funext a
    rw [List.filter_map]
    cases h : s l a with
    | true =>
      have : (aP s l ∘ fun r => a :: r) = aP s (l + 1) := by
        funext r
        show (s l a && aP s (l + 1) r) = _
        rw [h, Bool.true_and]
      rw [this, ih]
      rfl
    | false =>
      have : (aP s l ∘ fun r => a :: r) = fun _ => false := by
        funext r
        show (s l a && aP s (l + 1) r) = _
        rw [h, Bool.false_and]
      rw [this]
      show List.map _ (List.filter (fun _ => false) _) = []
      rw [List.filter_eq_nil_iff.mpr (fun _ _ => by decide)]
      rfl
