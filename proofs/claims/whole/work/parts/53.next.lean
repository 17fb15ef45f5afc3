/-! the next row -/
/-- what comes behind a in m -/
def aft (m a : Nat) : List Nat := blS m (17 - a) (a + 1)
/-- this row and those behind it -/
def sL (M act : Nat → Nat) : Nat → Nat → List (List Nat)
  | 0, _ => [[]]
  | f + 1, l => (sL M act f (l + 1)).map (fun r => act l :: r) ++ (aft (M l) (act l)).flatMap (fun a => (pL (fun j => bl (M j)) f (l + 1)).map (fun r => a :: r))
def rowN (act : Nat → Nat) : Nat → Nat → List Nat
  | 0, _ => []
  | f + 1, l => act l :: rowN act f (l + 1)
theorem rowN_len (act : Nat → Nat) : ∀ f l, (rowN act f l).length = f := by
  intro f
  induction f with
  | zero => intro l; rfl
  | succ f ih => intro l; show (rowN act f (l + 1)).length + 1 = f + 1; rw [ih]
theorem rowN_get (act : Nat → Nat) : ∀ f l k, k < f → (rowN act f l).getD k 0 = act (l + k) := by
  intro f
  induction f with
  | zero => intro l k hk; omega
  | succ f ih =>
    intro l k hk
    cases k with
    | zero => rfl
    | succ k =>
      have := ih (l + 1) k (by omega)
      rw [show l + 1 + k = l + (k + 1) by omega] at this
      exact this
theorem sL_hd (M act : Nat → Nat) : ∀ f l, ∃ r, sL M act f l = rowN act f l :: r := by
  intro f
  induction f with
  | zero => intro l; exact ⟨[], rfl⟩
  | succ f ih =>
    intro l
    obtain ⟨r, hr⟩ := ih (l + 1)
    refine ⟨r.map (fun r => act l :: r) ++ (aft (M l) (act l)).flatMap (fun a => (pL (fun j => bl (M j)) f (l + 1)).map (fun r => a :: r)), ?_⟩
    show (sL M act f (l + 1)).map (fun r => act l :: r) ++ _ = _
    rw [hr]
    rfl
theorem sL_eq {M act act' : Nat → Nat} : ∀ f l, (∀ i, l ≤ i → i < l + f → act' i = act i) → sL M act' f l = sL M act f l := by
  intro f
  induction f with
  | zero => intro l _; rfl
  | succ f ih =>
    intro l h
    show (sL M act' f (l + 1)).map (fun r => act' l :: r) ++ _ = (sL M act f (l + 1)).map (fun r => act l :: r) ++ _
    rw [ih (l + 1) (fun i a b => h i (by omega) (by omega)), h l (by omega) (by omega)]
/-- the next row, from the place l on, lifts to the whole -/
theorem sL_up {M act act' : Nat → Nat} : ∀ k f l, (∀ i, l ≤ i → i < l + k → act' i = act i) → sL M act' f (l + k) = (sL M act f (l + k)).tail → sL M act' (k + f) l = (sL M act (k + f) l).tail := by
  intro k
  induction k with
  | zero => intro f l _ h; rw [Nat.zero_add]; exact h
  | succ k ih =>
    intro f l h1 h2
    rw [show k + 1 + f = (k + f) + 1 by omega]
    have i1 := ih f (l + 1) (fun i a b => h1 i (by omega) (by omega)) (by rw [show l + 1 + k = l + (k + 1) by omega]; exact h2)
    obtain ⟨r, hr⟩ := sL_hd M act (k + f) (l + 1)
    show (sL M act' (k + f) (l + 1)).map (fun r => act' l :: r) ++ _ = ((sL M act (k + f) (l + 1)).map (fun r => act l :: r) ++ _).tail
    rw [i1, hr, h1 l (by omega) (by omega)]
    rfl
theorem bl_split {m a : Nat} (h : a ∈ bl m) : ∃ p, bl m = p ++ a :: aft m a := by
  obtain ⟨h18, hb⟩ := bl_mem.mp h
  have g : ∀ f j, j + f = a → ∃ p, blS m (18 - j) j = p ++ a :: aft m a := by
    intro f
    induction f with
    | zero =>
      intro j hj
      have : j = a := by omega
      subst this
      rw [show 18 - j = (17 - j) + 1 by omega, blS_1 hb]
      exact ⟨[], rfl⟩
    | succ f ih =>
      intro j hj
      obtain ⟨p, hp⟩ := ih (j + 1) (by omega)
      rw [show 18 - j = (18 - (j + 1)) + 1 by omega]
      by_cases c : bt1 m j = 1
      · rw [blS_1 c, hp]; exact ⟨j :: p, rfl⟩
      · rw [blS_0 c, hp]; exact ⟨p, rfl⟩
  have h9 := g a 0 (by omega)
  rw [Nat.sub_zero] at h9
  exact h9
theorem aft_mem {m a b : Nat} (h : b ∈ aft m a) : b ∈ bl m := by
  obtain ⟨h1, h2, h3⟩ := blS_mem.mp h
  exact bl_mem.mpr ⟨by omega, h3⟩
theorem aft_cons {m a b : Nat} {r : List Nat} (ha : a < 18) (h : aft m a = b :: r) : r = aft m b := by
  have g : ∀ f j, j + f = 18 → blS m f j = b :: r → r = aft m b := by
    intro f
    induction f with
    | zero => intro j _ h; cases h
    | succ f ih =>
      intro j hj h
      by_cases c : bt1 m j = 1
      · rw [blS_1 c] at h
        cases h
        unfold aft
        rw [show f = 17 - b by omega]
      · rw [blS_0 c] at h
        exact ih (j + 1) (by omega) h
  unfold aft at h
  exact g (17 - a) (a + 1) (by omega) h
theorem bl_cons {m b : Nat} {r : List Nat} (h : bl m = b :: r) : r = aft m b := by
  have hm : b ∈ bl m := by rw [h]; exact List.mem_cons_self
  have hb := (bl_mem.mp hm).1
  have g : ∀ f j, j + f = 18 → blS m f j = b :: r → r = aft m b := by
    intro f
    induction f with
    | zero => intro j _ h; cases h
    | succ f ih =>
      intro j hj h
      by_cases c : bt1 m j = 1
      · rw [blS_1 c] at h
        cases h
        unfold aft
        rw [show f = 17 - b by omega]
      · rw [blS_0 c] at h
        exact ih (j + 1) (by omega) h
  unfold bl at h
  exact g 18 0 rfl h
/-- from the first row on: all rows -/
theorem sL_all {M act : Nat → Nat} : ∀ f l, (∀ i, l ≤ i → i < l + f → (bl (M i))[0]? = some (act i)) → sL M act f l = pL (fun j => bl (M j)) f l := by
  intro f
  induction f with
  | zero => intro l _; rfl
  | succ f ih =>
    intro l h
    have h0 := h l (by omega) (by omega)
    obtain ⟨r, hr⟩ : ∃ r, bl (M l) = act l :: r := by
      cases e : bl (M l) with
      | nil => rw [e] at h0; cases h0
      | cons b r => rw [e] at h0; cases h0; exact ⟨r, rfl⟩
    show (sL M act f (l + 1)).map (fun r => act l :: r) ++ _ = (bl (M l)).flatMap (fun a => (pL (fun j => bl (M j)) f (l + 1)).map (fun r => a :: r))
    rw [ih (l + 1) (fun i a b => h i (by omega) (by omega)), hr, List.flatMap_cons, bl_cons hr]
/-- the place l has a next one, all behind it are at their last -/
theorem sL_next {M act act' : Nat → Nat} {f l b : Nat} {r : List Nat} (ha : act l < 18) (h1 : (sL M act f (l + 1)).tail = []) (h2 : aft (M l) (act l) = b :: r) (h3 : act' l = b) (h4 : ∀ i, l + 1 ≤ i → i < l + 1 + f → (bl (M i))[0]? = some (act' i)) : sL M act' (f + 1) l = (sL M act (f + 1) l).tail := by
  obtain ⟨q, hq⟩ := sL_hd M act f (l + 1)
  rw [hq] at h1
  have h1 : q = [] := h1
  subst h1
  show (sL M act' f (l + 1)).map (fun r => act' l :: r) ++ (aft (M l) (act' l)).flatMap _ = ((sL M act f (l + 1)).map (fun r => act l :: r) ++ (aft (M l) (act l)).flatMap _).tail
  rw [hq, sL_all f (l + 1) h4, h3, h2, List.flatMap_cons, ← aft_cons ha h2]
  rfl
theorem sL_last {M act : Nat → Nat} {f l : Nat} (h1 : (sL M act f (l + 1)).tail = []) (h2 : aft (M l) (act l) = []) : (sL M act (f + 1) l).tail = [] := by
  obtain ⟨q, hq⟩ := sL_hd M act f (l + 1)
  rw [hq] at h1
  have h1 : q = [] := h1
  subst h1
  show ((sL M act f (l + 1)).map (fun r => act l :: r) ++ (aft (M l) (act l)).flatMap _).tail = []
  rw [hq, h2]
  rfl
