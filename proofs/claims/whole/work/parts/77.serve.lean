/-! the fewest shoes: numbers alone decide -/
def hlP (a0 a1 a2 a3 s1 s2 : Nat) : Prop := a0 = 0 ∧ a1 ≤ s1 ∧ a2 ≤ s2 ∧ a1 + a2 + a3 ≤ s1 + s2
/-- how many from l on want m; how many shoes s are left -/
def wtN (wn : Nat → Int) (L m l : Nat) : Nat := suN (fun i => if l ≤ i ∧ wn i = (m : Int) then 1 else 0) L
def lfN (sp : Nat → Nat) (L s : Nat) : Nat := suN (fun i => sp (2 * i + s - 1)) L
def HSP (wn : Nat → Int) (L : Nat) (sp : Nat → Nat) (l : Nat) : Prop := hlP (wtN wn L 0 l) (wtN wn L 1 l) (wtN wn L 2 l) (wtN wn L 3 l) (lfN sp L 1) (lfN sp L 2)
def dnN (sp : Nat → Nat) (k : Nat) : Nat → Nat := fun j => if j = k then sp k - 1 else sp j
theorem suN_dn {f g : Nat → Nat} {a : Nat} : ∀ n, a < n → (∀ i, i < n → i ≠ a → f i = g i) → f a + 1 = g a → suN f n + 1 = suN g n := by
  intro n
  induction n with
  | zero => intro h; omega
  | succ n ih =>
    intro ha h1 h2
    show suN f n + f n + 1 = suN g n + g n
    by_cases e : a = n
    · subst e
      rw [suN_congr a (fun i hi => h1 i (by omega) (by omega))]
      omega
    · have := ih (by omega) (fun i hi hne => h1 i (by omega) hne) h2
      rw [h1 n (by omega) (fun z => e z.symm)]
      omega
theorem lf_dn {sp : Nat → Nat} {L w s : Nat} (hs : s = 1 ∨ s = 2) (hw : w < L) (hp : 1 ≤ sp (2 * w + s - 1)) : lfN (dnN sp (2 * w + s - 1)) L s + 1 = lfN sp L s := by
  unfold lfN dnN
  refine suN_dn (a := w) L hw (fun i hi hne => ?_) ?_
  · show (if 2 * i + s - 1 = 2 * w + s - 1 then _ else _) = _
    rw [if_neg (by omega)]
  · show (if 2 * w + s - 1 = 2 * w + s - 1 then _ else _) + 1 = _
    rw [if_pos rfl]
    omega
theorem lf_other {sp : Nat → Nat} {L w s s' : Nat} (hs : s = 1 ∨ s = 2) (hs' : s' = 1 ∨ s' = 2) (h : s ≠ s') : lfN (dnN sp (2 * w + s - 1)) L s' = lfN sp L s' := by
  unfold lfN dnN
  refine suN_congr L (fun i hi => ?_)
  show (if 2 * i + s' - 1 = 2 * w + s - 1 then _ else _) = _
  rw [if_neg (by omega)]
theorem wt_step {wn : Nat → Int} {L m l : Nat} (hl : l < L) : wtN wn L m l = wtN wn L m (l + 1) + if wn l = (m : Int) then 1 else 0 := by
  unfold wtN
  by_cases e : wn l = (m : Int)
  · rw [if_pos e]
    refine (suN_dn (a := l) L hl (fun i hi hne => ?_) ?_).symm
    · by_cases c : l + 1 ≤ i ∧ wn i = (m : Int)
      · rw [if_pos c, if_pos ⟨by omega, c.2⟩]
      · rw [if_neg c, if_neg (fun z => c ⟨by omega, z.2⟩)]
    · rw [if_neg (by omega), if_pos ⟨Nat.le_refl l, e⟩]
  · rw [if_neg e, Nat.add_zero]
    refine suN_congr L (fun i hi => ?_)
    by_cases c : l + 1 ≤ i ∧ wn i = (m : Int)
    · rw [if_pos c, if_pos ⟨by omega, c.2⟩]
    · rw [if_neg c]
      refine if_neg (fun z => c ⟨?_, z.2⟩)
      have : i ≠ l := fun q => e (by rw [← q]; exact z.2)
      omega
theorem wt_end {wn : Nat → Int} {L m : Nat} : wtN wn L m L = 0 := by
  unfold wtN
  rw [suN_congr (g := fun _ => 0) L (fun i hi => if_neg (by omega)), suN_0]
theorem HSP_end {wn : Nat → Int} {L : Nat} {sp : Nat → Nat} : HSP wn L sp L := by
  unfold HSP hlP
  rw [wt_end, wt_end, wt_end, wt_end]
  omega
theorem HSP_skip {wn : Nat → Int} {L l : Nat} {sp : Nat → Nat} (hl : l < L) (h : wn l = -1) : HSP wn L sp l ↔ HSP wn L sp (l + 1) := by
  have e : ∀ m : Nat, wtN wn L m l = wtN wn L m (l + 1) := fun m => by rw [wt_step hl, if_neg (by omega), Nat.add_zero]
  unfold HSP
  rw [e 0, e 1, e 2, e 3]
/-- may the shoe at k = 2 who + s - 1 go to l -/
def cnP (wn : Nat → Int) (L : Nat) (sp : Nat → Nat) (l k : Nat) : Prop := (wn l).toNat &&& (k % 2 + 1) ≠ 0 ∧ 1 ≤ sp k
theorem sh4 : ∀ m, m < 4 → (m &&& 1 ≠ 0 ↔ m = 1 ∨ m = 3) ∧ (m &&& 2 ≠ 0 ↔ m = 2 ∨ m = 3) := by decide
theorem HSP_back {wn : Nat → Int} {L l k : Nat} {sp : Nat → Nat} (hl : l < L) (hw : 0 ≤ wn l ∧ wn l < 4) (hk : k < 2 * L) (hc : cnP wn L sp l k) (h : HSP wn L (dnN sp k) (l + 1)) : HSP wn L sp l := by
  obtain ⟨c1, c2⟩ := hc
  obtain ⟨m1, m2⟩ := sh4 (wn l).toNat (by omega)
  have e0 := wt_step (wn := wn) (m := 0) hl
  have e1 := wt_step (wn := wn) (m := 1) hl
  have e2 := wt_step (wn := wn) (m := 2) hl
  have e3 := wt_step (wn := wn) (m := 3) hl
  unfold HSP hlP at h ⊢
  have hk2 : k % 2 = 0 ∨ k % 2 = 1 := by omega
  rcases hk2 with hk2 | hk2
  · have ek : k = 2 * (k / 2) + 1 - 1 := by omega
    rw [hk2] at c1
    have d1 := lf_dn (sp := sp) (L := L) (w := k / 2) (s := 1) (Or.inl rfl) (by omega) (by rw [← ek]; exact c2)
    have d2 := lf_other (sp := sp) (L := L) (w := k / 2) (s := 1) (s' := 2) (Or.inl rfl) (Or.inr rfl) (by decide)
    rw [← ek] at d1 d2
    have := m1.mp c1
    rw [d2] at h
    by_cases q1 : wn l = 1
    · rw [if_neg (by omega)] at e0 e2 e3
      rw [if_pos (by omega)] at e1
      omega
    · rw [if_neg (by omega)] at e0 e1 e2
      rw [if_pos (by omega)] at e3
      omega
  · have ek : k = 2 * (k / 2) + 2 - 1 := by omega
    rw [hk2] at c1
    have d1 := lf_dn (sp := sp) (L := L) (w := k / 2) (s := 2) (Or.inr rfl) (by omega) (by rw [← ek]; exact c2)
    have d2 := lf_other (sp := sp) (L := L) (w := k / 2) (s := 2) (s' := 1) (Or.inr rfl) (Or.inl rfl) (by decide)
    rw [← ek] at d1 d2
    have := m2.mp c1
    rw [d2] at h
    by_cases q1 : wn l = 2
    · rw [if_neg (by omega)] at e0 e1 e3
      rw [if_pos (by omega)] at e2
      omega
    · rw [if_neg (by omega)] at e0 e1 e2
      rw [if_pos (by omega)] at e3
      omega
theorem su_pos {f : Nat → Nat} : ∀ n, 1 ≤ suN f n → ∃ i, i < n ∧ 1 ≤ f i := by
  intro n
  induction n with
  | zero => intro h; exact absurd h (Nat.not_lt_zero 0)
  | succ n ih =>
    intro h
    have h : 1 ≤ suN f n + f n := h
    by_cases c : 1 ≤ f n
    · exact ⟨n, by omega, c⟩
    · obtain ⟨i, hi, hf⟩ := ih (by omega)
      exact ⟨i, by omega, hf⟩
theorem HSP_forth {wn : Nat → Int} {L l : Nat} {sp : Nat → Nat} (hl : l < L) (hw : 0 ≤ wn l ∧ wn l < 4) (h : HSP wn L sp l) : ∃ k, k < 2 * L ∧ cnP wn L sp l k ∧ HSP wn L (dnN sp k) (l + 1) := by
  obtain ⟨m1, m2⟩ := sh4 (wn l).toNat (by omega)
  have e0 := wt_step (wn := wn) (m := 0) hl
  have e1 := wt_step (wn := wn) (m := 1) hl
  have e2 := wt_step (wn := wn) (m := 2) hl
  have e3 := wt_step (wn := wn) (m := 3) hl
  unfold HSP hlP at h
  have one : (wn l = 1 ∨ (wn l = 3 ∧ wtN wn L 1 l + 1 ≤ lfN sp L 1)) → ∃ k, k < 2 * L ∧ cnP wn L sp l k ∧ HSP wn L (dnN sp k) (l + 1) := fun c => by
    have hp : 1 ≤ lfN sp L 1 := by
      rcases c with c | c
      · rw [if_pos (by omega)] at e1; omega
      · omega
    obtain ⟨w, hw1, hw2⟩ := su_pos L hp
    have d1 := lf_dn (sp := sp) (L := L) (w := w) (s := 1) (Or.inl rfl) hw1 hw2
    have d2 := lf_other (sp := sp) (L := L) (w := w) (s := 1) (s' := 2) (Or.inl rfl) (Or.inr rfl) (by decide)
    refine ⟨2 * w + 1 - 1, by omega, ⟨?_, hw2⟩, ?_⟩
    · rw [show (2 * w + 1 - 1) % 2 + 1 = 1 by omega]
      exact m1.mpr (by omega)
    · unfold HSP hlP
      rw [d2]
      rcases c with c | c
      · rw [if_neg (by omega)] at e0 e2 e3
        rw [if_pos (by omega)] at e1
        omega
      · rw [if_neg (by omega)] at e0 e1 e2
        rw [if_pos (by omega)] at e3
        omega
  have two : (wn l = 2 ∨ (wn l = 3 ∧ ¬ wtN wn L 1 l + 1 ≤ lfN sp L 1)) → ∃ k, k < 2 * L ∧ cnP wn L sp l k ∧ HSP wn L (dnN sp k) (l + 1) := fun c => by
    have hp : 1 ≤ lfN sp L 2 := by
      rcases c with c | c
      · rw [if_pos (by omega)] at e2; omega
      · rw [if_pos (by omega)] at e3; omega
    obtain ⟨w, hw1, hw2⟩ := su_pos L hp
    have d1 := lf_dn (sp := sp) (L := L) (w := w) (s := 2) (Or.inr rfl) hw1 hw2
    have d2 := lf_other (sp := sp) (L := L) (w := w) (s := 2) (s' := 1) (Or.inr rfl) (Or.inl rfl) (by decide)
    refine ⟨2 * w + 2 - 1, by omega, ⟨?_, hw2⟩, ?_⟩
    · rw [show (2 * w + 2 - 1) % 2 + 1 = 2 by omega]
      exact m2.mpr (by omega)
    · unfold HSP hlP
      rw [d2]
      rcases c with c | c
      · rw [if_neg (by omega)] at e0 e1 e3
        rw [if_pos (by omega)] at e2
        omega
      · rw [if_neg (by omega)] at e0 e1 e2
        rw [if_pos (by omega)] at e3
        omega
  by_cases q0 : wn l = 0
  · rw [if_pos (by omega)] at e0
    omega
  by_cases q1 : wn l = 1
  · exact one (Or.inl q1)
  by_cases q2 : wn l = 2
  · exact two (Or.inl q2)
  by_cases q3 : wtN wn L 1 l + 1 ≤ lfN sp L 1
  · exact one (Or.inr ⟨by omega, q3⟩)
  · exact two (Or.inr ⟨by omega, q3⟩)
