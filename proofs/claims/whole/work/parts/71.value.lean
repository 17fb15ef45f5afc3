/-! what a walk is worth -/
def GnD (D : zD) (h : Nat) (row : Nat → Nat) (k : Nat) : Nat := worD D (row k) (h + k)
/-- does the step s look -/
def lkS (G row : Nat → Nat) (s : Nat) : Nat → Nat → Bool
  | 0, _ => true
  | f + 1, o => bif !(Nat.beq o s) && (Nat.beq (row o) (row s) && (Nat.blt (G s) (G o) || (Nat.beq (G o) (G s) && Nat.blt o s))) then false else lkS G row s f (o + 1)
def lkB (G row : Nat → Nat) (n s : Nat) : Bool := !(Nat.beq (G s) 0) && lkS G row s n 0
theorem lkS_iff (G row : Nat → Nat) (s : Nat) : ∀ f o, lkS G row s f o = true ↔ ∀ k, o ≤ k → k < o + f → k ≠ s → row k = row s → G k ≤ G s ∧ (G k = G s → s ≤ k) := by
  intro f
  induction f with
  | zero => intro o; exact ⟨fun _ k a b => by omega, fun _ => rfl⟩
  | succ f ih =>
    intro o
    show (bif !(Nat.beq o s) && (Nat.beq (row o) (row s) && (Nat.blt (G s) (G o) || (Nat.beq (G o) (G s) && Nat.blt o s))) then false else lkS G row s f (o + 1)) = true ↔ _
    cases hq : (!(Nat.beq o s) && (Nat.beq (row o) (row s) && (Nat.blt (G s) (G o) || (Nat.beq (G o) (G s) && Nat.blt o s)))) with
    | true =>
      rw [Bool.and_eq_true, Bool.and_eq_true, Bool.or_eq_true, Bool.and_eq_true] at hq
      obtain ⟨q1, q2, q3⟩ := hq
      refine ⟨fun h => absurd (show false = true from h) (by decide), fun h => ?_⟩
      have hne : o ≠ s := fun z => by rw [z, Nat.beq_refl] at q1; cases q1
      obtain ⟨g1, g2⟩ := h o (by omega) (by omega) hne (nbeq.mp q2)
      rcases q3 with q3 | ⟨q3, q4⟩
      · have := Nat.ble_eq.mp q3; omega
      · have := g2 (nbeq.mp q3)
        have := Nat.ble_eq.mp q4
        omega
    | false =>
      show lkS G row s f (o + 1) = true ↔ _
      rw [ih]
      refine ⟨fun h k a b c d => ?_, fun h k a b c d => h k (by omega) (by omega) c d⟩
      by_cases e : k = o
      · subst e
        rw [beqN c, d, Nat.beq_refl] at hq
        have hq : (Nat.blt (G s) (G k) || (Nat.beq (G k) (G s) && Nat.blt k s)) = false := hq
        rw [Bool.or_eq_false_iff] at hq
        obtain ⟨q1, q2⟩ := hq
        refine ⟨?_, fun e => ?_⟩
        · refine Nat.le_of_not_lt (fun z => ?_)
          rw [bltT z] at q1
          cases q1
        · refine Nat.le_of_not_lt (fun z => ?_)
          rw [e, Nat.beq_refl, bltT z] at q2
          cases q2
      · exact h k (by omega) (by omega) c d
/-- the best look at the room q -/
def boS (g : Nat → Nat) (row : Nat → Nat) (q : Nat) : Nat → Nat → Int → Int
  | 0, _, b => b
  | f + 1, k, b => if row k = q ∧ g k ≠ 0 ∧ (b = -1 ∨ g b.toNat < g k) then boS g row q f (k + 1) (k : Int) else boS g row q f (k + 1) b
def boP (g row : Nat → Nat) (q k : Nat) (b : Int) : Prop := (b = -1 ∧ ∀ j, j < k → row j = q → g j = 0) ∨ ∃ j : Nat, b = (j : Int) ∧ j < k ∧ row j = q ∧ g j ≠ 0 ∧ ∀ i, i < k → row i = q → g i ≤ g j ∧ (g i = g j → j ≤ i)
theorem boS_ok (g row : Nat → Nat) (q : Nat) : ∀ f k b, boP g row q k b → boP g row q (k + f) (boS g row q f k b) := by
  intro f
  induction f with
  | zero => intro k b h; exact h
  | succ f ih =>
    intro k b h
    rw [show k + (f + 1) = k + 1 + f by omega]
    show boP g row q (k + 1 + f) (if row k = q ∧ g k ≠ 0 ∧ (b = -1 ∨ g b.toNat < g k) then boS g row q f (k + 1) (k : Int) else boS g row q f (k + 1) b)
    by_cases c : row k = q ∧ g k ≠ 0 ∧ (b = -1 ∨ g b.toNat < g k)
    · rw [if_pos c]
      obtain ⟨c1, c2, c3⟩ := c
      refine ih (k + 1) k (Or.inr ⟨k, rfl, by omega, c1, c2, fun i hi hr => ?_⟩)
      by_cases e : i = k
      · subst e; exact ⟨Nat.le_refl _, fun _ => Nat.le_refl _⟩
      · rcases h with ⟨h1, h2⟩ | ⟨j, h1, h2, h3, h4, h5⟩
        · have := h2 i (by omega) hr; omega
        · have := h5 i (by omega) hr
          rw [h1] at c3
          have c3 : g j < g k := c3.elim (fun z => by omega) id
          omega
    · rw [if_neg c]
      refine ih (k + 1) b ?_
      rcases h with ⟨h1, h2⟩ | ⟨j, h1, h2, h3, h4, h5⟩
      · refine Or.inl ⟨h1, fun i hi hr => ?_⟩
        by_cases e : i = k
        · subst e
          refine Classical.byContradiction fun z => c ⟨hr, z, Or.inl h1⟩
        · exact h2 i (by omega) hr
      · refine Or.inr ⟨j, h1, by omega, h3, h4, fun i hi hr => ?_⟩
        by_cases e : i = k
        · subst e
          refine ⟨?_, fun _ => by omega⟩
          refine Nat.le_of_not_lt (fun z => c ⟨hr, by omega, Or.inr ?_⟩)
          rw [h1]
          exact z
        · exact h5 i (by omega) hr
def boD (D : zD) (h n : Nat) (row : Nat → Nat) (q : Nat) : Int := boS (fun k => worD D q (h + k)) row q n 0 (-1)
theorem boD_ok (D : zD) (h n : Nat) (row : Nat → Nat) (q : Nat) : boP (fun k => worD D q (h + k)) row q n (boD D h n row q) := by
  have := boS_ok (fun k => worD D q (h + k)) row q n 0 (-1) (Or.inl ⟨rfl, fun j hj => absurd hj (Nat.not_lt_zero j)⟩)
  rw [Nat.zero_add] at this
  exact this
theorem bo_look {D : zD} {h n s : Nat} {row : Nat → Nat} (hs : s < n) : boD D h n row (row s) = (s : Int) ↔ lkB (GnD D h row) row n s = true := by
  have hb := boD_ok D h n row (row s)
  have gk : ∀ k, row k = row s → GnD D h row k = worD D (row s) (h + k) := fun k e => by unfold GnD; rw [e]
  unfold lkB
  rw [Bool.and_eq_true, lkS_iff]
  constructor
  · intro e
    rcases hb with ⟨h1, _⟩ | ⟨j, h1, h2, h3, h4, h5⟩
    · omega
    · have : j = s := by omega
      subst this
      refine ⟨by rw [beqN (by rw [gk j rfl]; exact h4)]; rfl, fun k _ hk _ hr => ?_⟩
      have := h5 k (by omega) hr
      rw [gk k hr, gk j rfl]
      exact this
  · rintro ⟨e1, e2⟩
    have hg : worD D (row s) (h + s) ≠ 0 := fun z => by
      rw [gk s rfl, z] at e1
      cases e1
    rcases hb with ⟨_, h2⟩ | ⟨j, h1, h2, h3, h4, h5⟩
    · exact absurd (h2 s hs rfl) hg
    · by_cases e : j = s
      · rw [h1, e]
      · have a := h5 s hs rfl
        have b := e2 j (by omega) (by omega) e h3
        rw [gk j h3, gk s rfl] at b
        exfalso
        have a1 : worD D (row s) (h + s) ≤ worD D (row s) (h + j) := a.1
        have a2 : worD D (row s) (h + s) = worD D (row s) (h + j) → j ≤ s := a.2
        omega
/-- sums -/
def suN (f : Nat → Nat) : Nat → Nat
  | 0 => 0
  | n + 1 => suN f n + f n
theorem suN_congr {f g : Nat → Nat} : ∀ n, (∀ i, i < n → f i = g i) → suN f n = suN g n := by
  intro n
  induction n with
  | zero => intro _; rfl
  | succ n ih => intro h; show suN f n + f n = suN g n + g n; rw [ih (fun i hi => h i (by omega)), h n (by omega)]
theorem suN_add (f g : Nat → Nat) : ∀ n, suN (fun i => f i + g i) n = suN f n + suN g n := by
  intro n
  induction n with
  | zero => rfl
  | succ n ih => show suN (fun i => f i + g i) n + (f n + g n) = suN f n + f n + (suN g n + g n); rw [ih]; omega
theorem suN_0 : ∀ n, suN (fun _ => 0) n = 0 := by
  intro n
  induction n with
  | zero => rfl
  | succ n ih => show suN (fun _ => 0) n + 0 = 0; rw [ih]
theorem suN_swap (F : Nat → Nat → Nat) (m : Nat) : ∀ n, suN (fun i => suN (fun j => F i j) m) n = suN (fun j => suN (fun i => F i j) n) m := by
  intro n
  induction n with
  | zero => show 0 = suN (fun _ => 0) m; rw [suN_0]
  | succ n ih =>
    show suN (fun i => suN (fun j => F i j) m) n + suN (fun j => F n j) m = suN (fun j => suN (fun i => F i j) n + F n j) m
    rw [ih, ← suN_add]
theorem suN_one {f : Nat → Nat} {a : Nat} : ∀ n, a < n → (∀ i, i < n → i ≠ a → f i = 0) → suN f n = f a := by
  intro n
  induction n with
  | zero => intro h; omega
  | succ n ih =>
    intro ha h
    show suN f n + f n = f a
    by_cases e : a = n
    · subst e
      have : suN f a = 0 := by
        rw [suN_congr (g := fun _ => 0) a (fun i hi => h i (by omega) (by omega)), suN_0]
      omega
    · rw [ih (by omega) (fun i hi hne => h i (by omega) hne), h n (by omega) (fun z => e z.symm)]
      omega
theorem suN_le {f : Nat → Nat} {b : Nat} : ∀ n, (∀ i, i < n → f i ≤ b) → suN f n ≤ n * b := by
  intro n
  induction n with
  | zero => intro _; exact Nat.zero_le _
  | succ n ih =>
    intro h
    show suN f n + f n ≤ (n + 1) * b
    have := ih (fun i hi => h i (by omega))
    have := h n (by omega)
    rw [Nat.succ_mul]
    omega
def vaC (D : zD) (h n : Nat) (row : Nat → Nat) : Nat := suN (fun s => bif lkB (GnD D h row) row n s then GnD D h row s else 0) n
def vaQ (D : zD) (h n : Nat) (row : Nat → Nat) (q : Nat) : Nat := if boD D h n row q = -1 then 0 else worD D q (h + (boD D h n row q).toNat)
theorem vaC_vaM {D : zD} {h n : Nat} {row : Nat → Nat} (hr : ∀ s, s < n → row s < dR D) : vaC D h n row = suN (vaQ D h n row) (dR D) := by
  have e := suN_swap (fun q s => if row s = q ∧ boD D h n row q = (s : Int) then worD D q (h + s) else 0) n (dR D)
  have e1 : suN (fun q => suN (fun s => if row s = q ∧ boD D h n row q = (s : Int) then worD D q (h + s) else 0) n) (dR D) = suN (vaQ D h n row) (dR D) := by
    refine suN_congr _ (fun q _ => ?_)
    unfold vaQ
    rcases boD_ok D h n row q with ⟨h1, _⟩ | ⟨j, h1, h2, h3, h4, _⟩
    · rw [if_pos h1, suN_congr (g := fun _ => 0) n (fun s hs => if_neg (fun z => by omega)), suN_0]
    · rw [if_neg (by omega), suN_one (a := j) n h2 (fun s hs hne => if_neg (fun z => by omega)), if_pos ⟨h3, h1⟩, h1]
      rfl
  have e2 : suN (fun s => suN (fun q => if row s = q ∧ boD D h n row q = (s : Int) then worD D q (h + s) else 0) (dR D)) n = vaC D h n row := by
    unfold vaC
    refine suN_congr _ (fun s hs => ?_)
    rw [suN_one (a := row s) (dR D) (hr s hs) (fun q hq hne => if_neg (fun z => hne z.1.symm))]
    have hb := bo_look (D := D) (h := h) (row := row) hs
    cases hl : lkB (GnD D h row) row n s with
    | true => rw [if_pos ⟨rfl, hb.mpr hl⟩]; rfl
    | false => rw [if_neg (fun z => by rw [hb.mp z.2] at hl; cases hl)]; rfl
  rw [← e2, ← e, e1]
/-- the best of all walks: the first of the greatest -/
def foS (V : List Nat → Nat) : List (List Nat) → Int → List Nat → Int × List Nat
  | [], b, kr => (b, kr)
  | row :: rs, b, kr => if b < (V row : Int) then foS V rs (V row : Int) row else foS V rs b kr
def vaR (D : zD) (h n : Nat) (row : List Nat) : Nat := vaC D h n (fun k => row.getD k 0)
def roL (D : zD) (r n : Nat) : List (List Nat) := (wN (dR D) (n - 1) r).map (fun w => r :: w)
def roD (D : zD) (r h n : Nat) : Int × List Nat := foS (vaR D h n) (roL D r n) (-1) []
