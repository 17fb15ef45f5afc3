/-! cases as products; how many, which, with whom -/
theorem pL_congr {A B : Nat → List Nat} : ∀ f l, (∀ j, l ≤ j → j < l + f → A j = B j) → pL A f l = pL B f l := by
  intro f
  induction f with
  | zero => intro l _; rfl
  | succ f ih =>
    intro l h
    show (A l).flatMap (fun a => (pL A f (l + 1)).map (fun r => a :: r)) = (B l).flatMap (fun a => (pL B f (l + 1)).map (fun r => a :: r))
    rw [h l (by omega) (by omega), ih (l + 1) (fun j a b => h j (by omega) (by omega))]
theorem pP_congr {A B : Nat → List Nat} : ∀ n, (∀ j, j < n → A j = B j) → pP A n = pP B n := by
  intro n
  induction n with
  | zero => intro _; rfl
  | succ n ih =>
    intro h
    show pP A n * (A n).length = pP B n * (B n).length
    rw [ih (fun j hj => h j (by omega)), h n (by omega)]
def erG (D : zD) (set : Nat) (sg : Nat → Nat) : Nat → Nat → Bool
  | 0, _ => true
  | f + 1, r => bif Nat.beq (bt1 set r) 1 && (Nat.beq (dW D r) 0 && !(Nat.beq (sg r) 3)) then false else erG D set sg f (r + 1)
theorem erG_er (D : zD) : ∀ f r, erG D (dP D) (dS D) f r = erS D f r := by
  intro f
  induction f with
  | zero => intro r; rfl
  | succ f ih =>
    intro r
    show (bif Nat.beq (bt1 (dP D) r) 1 && (Nat.beq (dW D r) 0 && !(Nat.beq (dS D r) 3)) then false else erG D (dP D) (dS D) f (r + 1)) = (bif Nat.beq (bt1 (dP D) r) 1 && (Nat.beq (dW D r) 0 && !(Nat.beq (dS D r) 3)) then false else erS D f (r + 1))
    rw [ih]
def sGb (D : zD) (set : Nat) (sg : Nat → Nat) (l a : Nat) : Bool := bif Nat.beq (bt1 set (dH D l)) 1 then Nat.beq (sigD D l a) (sg (dH D l)) else true
theorem nbeq {a b : Nat} : Nat.beq a b = true ↔ a = b := ⟨Nat.eq_of_beq_eq_true, fun h => by rw [h]; exact Nat.beq_refl b⟩
theorem fiS_iff (D : zD) (set : Nat) (sg row : Nat → Nat) : ∀ f r, fiS D set sg row f r = true ↔ ∀ k, r ≤ k → k < r + f → bt1 set k = 1 → sgR D row k = sg k := by
  intro f
  induction f with
  | zero => intro r; exact ⟨fun _ k a b => by omega, fun _ => rfl⟩
  | succ f ih =>
    intro r
    show (bif Nat.beq (bt1 set r) 1 && !(Nat.beq (sgR D row r) (sg r)) then false else fiS D set sg row f (r + 1)) = true ↔ _
    cases hb : (Nat.beq (bt1 set r) 1 && !(Nat.beq (sgR D row r) (sg r))) with
    | true =>
      rw [Bool.and_eq_true] at hb
      refine ⟨fun h => (by cases h), fun h => ?_⟩
      have := h r (by omega) (by omega) (nbeq.mp hb.1)
      rw [this, Nat.beq_refl] at hb
      have := hb.2
      cases this
    | false =>
      show fiS D set sg row f (r + 1) = true ↔ _
      rw [ih]
      refine ⟨fun h k a b c => ?_, fun h k a b c => h k (by omega) (by omega) c⟩
      by_cases e : k = r
      · subst e
        rw [c] at hb
        have hb : (!(Nat.beq (sgR D row k) (sg k))) = false := hb
        cases hq : Nat.beq (sgR D row k) (sg k)
        · rw [hq] at hb; cases hb
        · exact nbeq.mp hq
      · exact h k (by omega) (by omega) c
theorem erG_iff (D : zD) (set : Nat) (sg : Nat → Nat) : ∀ f r, erG D set sg f r = true ↔ ∀ k, r ≤ k → k < r + f → bt1 set k = 1 → dW D k = 0 → sg k = 3 := by
  intro f
  induction f with
  | zero => intro r; exact ⟨fun _ k a b => by omega, fun _ => rfl⟩
  | succ f ih =>
    intro r
    show (bif Nat.beq (bt1 set r) 1 && (Nat.beq (dW D r) 0 && !(Nat.beq (sg r) 3)) then false else erG D set sg f (r + 1)) = true ↔ _
    cases hb : (Nat.beq (bt1 set r) 1 && (Nat.beq (dW D r) 0 && !(Nat.beq (sg r) 3))) with
    | true =>
      rw [Bool.and_eq_true, Bool.and_eq_true] at hb
      refine ⟨fun h => (by cases h), fun h => ?_⟩
      have := h r (by omega) (by omega) (nbeq.mp hb.1) (nbeq.mp hb.2.1)
      rw [this] at hb
      have := hb.2.2
      cases this
    | false =>
      show erG D set sg f (r + 1) = true ↔ _
      rw [ih]
      refine ⟨fun h k a b c d => ?_, fun h k a b c => h k (by omega) (by omega) c⟩
      by_cases e : k = r
      · subst e
        rw [c, d] at hb
        have hb : (!(Nat.beq (sg k) 3)) = false := hb
        cases hq : Nat.beq (sg k) 3
        · rw [hq] at hb; cases hb
        · exact nbeq.mp hq
      · exact h k (by omega) (by omega) c d
theorem fit_aP {D : zD} (hD : dOK D) {set : Nat} {sg : Nat → Nat} {row : List Nat} (hl : row.length = dL D) : fitL D set sg row = (erG D set sg (dR D) 0 && aP (sGb D set sg) 0 row) := by
  rw [Bool.eq_iff_iff, Bool.and_eq_true, aP_iff, erG_iff]
  unfold fitL
  rw [fiS_iff]
  constructor
  · intro h
    refine ⟨fun k a b c d => ?_, fun k hk => ?_⟩
    · have := h k a b c
      unfold sgR at this
      rw [if_pos d] at this
      exact this.symm
    · have hk2 : k < dL D := by omega
      have hh := hD.home k hk2
      have hw := hD.whoseHome k hk2
      rw [Nat.zero_add]
      unfold sGb
      cases hb : Nat.beq (bt1 set (dH D k)) 1 with
      | false => rfl
      | true =>
        have := h (dH D k) (by omega) (by omega) (nbeq.mp hb)
        unfold sgR at this
        rw [if_neg (by omega), hw, Nat.add_sub_cancel] at this
        exact nbeq.mpr this
  · rintro ⟨h1, h2⟩ k a b c
    unfold sgR
    by_cases d : dW D k = 0
    · rw [if_pos d]; exact (h1 k a b c d).symm
    · rw [if_neg d]
      have hW := hD.whose k (by omega)
      have hv := hD.livesIn k (by omega) d
      have := h2 (dW D k - 1) (by omega)
      rw [Nat.zero_add] at this
      unfold sGb at this
      rw [hv, c] at this
      exact nbeq.mp this
def hgL (D : zD) (t set : Nat) (sg : Nat → Nat) (l : Nat) : List Nat := (bl (mxD D t l)).filter (sGb D set sg l)
theorem csL_eq {D : zD} (hD : dOK D) (t set : Nat) (sg : Nat → Nat) : csL D t set sg = bif erG D set sg (dR D) 0 then pL (hgL D t set sg) (dL D) 0 else [] := by
  unfold csL
  have e : (pL (fun j => bl (mxD D t j)) (dL D) 0).filter (fitL D set sg) = (pL (fun j => bl (mxD D t j)) (dL D) 0).filter (fun row => erG D set sg (dR D) 0 && aP (sGb D set sg) 0 row) :=
    List.filter_congr (fun row hr => fit_aP hD (pL_rowlen _ _ _ row hr))
  rw [e]
  cases erG D set sg (dR D) 0 with
  | true =>
    show (pL (fun j => bl (mxD D t j)) (dL D) 0).filter (aP (sGb D set sg) 0) = pL (hgL D t set sg) (dL D) 0
    exact pL_fil _ _ _ _
  | false => exact List.filter_eq_nil_iff.mpr (fun _ _ h => by cases h)
theorem hg_he {D : zD} (hD : dOK D) {t l : Nat} (ht : t < 24) (hl : l < dL D) : hgL D t (dP D) (dS D) l = heL D t l := by
  have hm := hD.may (24 * l + t) (by omega)
  have hb := bt1_lt (dP D) (dH D l)
  unfold hgL heL hmD
  by_cases c : bt1 (dP D) (dH D l) = 0
  · rw [if_pos c]
    have : sGb D (dP D) (dS D) l = fun _ => true := by
      funext a
      unfold sGb
      rw [c]
      rfl
    rw [this]
    exact List.filter_eq_self.mpr (fun _ _ => rfl)
  · rw [if_neg c, bl_gm hm.2]
    have : sGb D (dP D) (dS D) l = fun a => Nat.beq (sigD D l a) (dS D (dH D l)) := by
      funext a
      unfold sGb
      rw [show bt1 (dP D) (dH D l) = 1 by omega]
      rfl
    rw [this]
    rfl
/-- the cases by what is seen -/
def caL (D : zD) (t : Nat) : List (List Nat) := bif erD D then pL (heL D t) (dL D) 0 else []
theorem csL_ca {D : zD} (hD : dOK D) {t : Nat} (ht : t < 24) : csL D t (dP D) (dS D) = caL D t := by
  rw [csL_eq hD, erG_er]
  unfold caL erD
  rw [pL_congr (dL D) 0 (fun j _ hj => hg_he hD ht (by omega))]
theorem caL_len (D : zD) (t : Nat) : (caL D t).length = toD D t := by
  unfold caL toD
  cases erD D
  · rfl
  · show (pL (heL D t) (dL D) 0).length = pP (heL D t) (dL D)
    rw [pL_len, lP_pP]
theorem fm_get {α β : Type} {g : α → List β} {n : Nat} (h : ∀ a, (g a).length = n) (hn : 0 < n) : ∀ (xs : List α) (i : Nat), (xs.flatMap g)[i]? = (xs[i / n]?).bind (fun a => (g a)[i % n]?) := by
  intro xs
  induction xs with
  | nil => intro i; rw [List.flatMap_nil]; simp
  | cons a xs ih =>
    intro i
    rw [List.flatMap_cons]
    by_cases c : i < n
    · rw [List.getElem?_append_left (by rw [h]; exact c), Nat.div_eq_of_lt c, Nat.mod_eq_of_lt c]
      rfl
    · obtain ⟨k, rfl⟩ : ∃ k, i = k + n := ⟨i - n, by omega⟩
      rw [List.getElem?_append_right (by rw [h]; omega), h, Nat.add_sub_cancel, ih, Nat.add_div_right _ hn, Nat.add_mod_right]
      rfl
theorem lP_split (A : Nat → List Nat) : ∀ k m l, lP A (k + (m + 1)) l = lP A k l * ((A (l + k)).length * lP A m (l + k + 1)) := by
  intro k
  induction k with
  | zero => intro m l; rw [Nat.zero_add]; show (A l).length * lP A m (l + 1) = 1 * _; rw [Nat.one_mul]; rfl
  | succ k ih =>
    intro m l
    rw [show k + 1 + (m + 1) = (k + (m + 1)) + 1 by omega]
    show (A l).length * lP A (k + (m + 1)) (l + 1) = (A l).length * lP A k (l + 1) * _
    rw [ih m (l + 1), show l + 1 + k = l + (k + 1) by omega, Nat.mul_assoc]
theorem pL_get (A : Nat → List Nat) : ∀ f l i, i < lP A f l → ∃ row, (pL A f l)[i]? = some row ∧ ∀ k, k < f → row.getD k 0 = (A (l + k)).getD (i / lP A (f - k - 1) (l + k + 1) % (A (l + k)).length) 0 := by
  intro f
  induction f with
  | zero =>
    intro l i hi
    have : i = 0 := by have : i < 1 := hi; omega
    subst this
    exact ⟨[], rfl, fun k hk => absurd hk (Nat.not_lt_zero k)⟩
  | succ f ih =>
    intro l i hi
    have hi : i < (A l).length * lP A f (l + 1) := hi
    have hn : 0 < lP A f (l + 1) := Nat.pos_of_mul_pos_left (Nat.lt_of_le_of_lt (Nat.zero_le _) hi)
    have hq : i / lP A f (l + 1) < (A l).length := (Nat.div_lt_iff_lt_mul hn).mpr hi
    obtain ⟨row, hr, hg⟩ := ih (l + 1) (i % lP A f (l + 1)) (Nat.mod_lt _ hn)
    refine ⟨(A l).getD (i / lP A f (l + 1)) 0 :: row, ?_, fun k hk => ?_⟩
    · show ((A l).flatMap (fun a => (pL A f (l + 1)).map (fun r => a :: r)))[i]? = _
      rw [fm_get (n := lP A f (l + 1)) (fun a => by rw [List.length_map, pL_len]) hn, lget hq]
      show ((pL A f (l + 1)).map (fun r => (A l).getD (i / lP A f (l + 1)) 0 :: r))[i % lP A f (l + 1)]? = _
      rw [List.getElem?_map, hr]
      rfl
    · cases k with
      | zero =>
        show (A l).getD (i / lP A f (l + 1)) 0 = (A l).getD (i / lP A (f + 1 - 0 - 1) (l + 1) % (A l).length) 0
        rw [show f + 1 - 0 - 1 = f by omega, Nat.mod_eq_of_lt hq]
      | succ k =>
        have e := hg k (by omega)
        have es := lP_split A k (f - k - 1) (l + 1)
        rw [show k + (f - k - 1 + 1) = f by omega] at es
        show row.getD k 0 = _
        rw [e, show l + 1 + k = l + (k + 1) by omega, show f + 1 - (k + 1) - 1 = f - k - 1 by omega]
        rw [show l + 1 + k = l + (k + 1) by omega] at es
        rw [es]
        generalize lP A (f - k - 1) (l + (k + 1) + 1) = W
        generalize (A (l + (k + 1))).length = n
        generalize lP A k (l + 1) = X
        rw [show X * (n * W) = W * (n * X) by rw [Nat.mul_comm X, Nat.mul_comm n W, Nat.mul_assoc], Nat.mod_mul_right_div_self, Nat.mod_mul_right_mod]
theorem caL_get {D : zD} {t i : Nat} (hi : i < toD D t) : ∃ row, (caL D t)[i]? = some row ∧ ∀ l, l < dL D → row.getD l 0 = caD D t i l := by
  unfold toD at hi
  unfold caL
  cases he : erD D with
  | false => rw [he] at hi; exact absurd hi (Nat.not_lt_zero i)
  | true =>
    rw [he] at hi
    have hi : i < pP (heL D t) (dL D) := hi
    rw [← lP_pP] at hi
    obtain ⟨row, h1, h2⟩ := pL_get (heL D t) (dL D) 0 i hi
    refine ⟨row, h1, fun l hl => ?_⟩
    have := h2 l hl
    rw [Nat.zero_add] at this
    exact this
/-- somebody is in the room r -/
def smL (D : zD) (r : Nat) (row : List Nat) : Bool := !(aP (fun l a => !thr D r l a) 0 row)
theorem len_fil {α : Type} (xs : List α) (p : α → Bool) : (xs.filter (fun a => !(p a))).length + (xs.filter p).length = xs.length := by
  induction xs with
  | nil => rfl
  | cons a xs ih =>
    cases h : p a with
    | true =>
      rw [List.filter_cons_of_pos h, List.filter_cons_of_neg (by rw [h]; decide), List.length_cons, List.length_cons]
      omega
    | false =>
      rw [List.filter_cons_of_pos (by rw [h]; rfl), List.filter_cons_of_neg (by rw [h]; decide), List.length_cons, List.length_cons]
      omega
theorem caL_wo {D : zD} {t r : Nat} : ((caL D t).filter (smL D r)).length + woD D t r = toD D t := by
  rw [← caL_len]
  have e := len_fil (caL D t) (aP (fun l a => !thr D r l a) 0)
  have e2 : ((caL D t).filter (aP (fun l a => !thr D r l a) 0)).length = woD D t r := by
    unfold woD
    have hl := caL_len D t
    cases he : erD D with
    | false =>
      have h0 : caL D t = [] := by unfold caL; rw [he]; rfl
      rw [h0] at hl ⊢
      rw [← hl]
      rfl
    | true =>
      have h0 : caL D t = pL (heL D t) (dL D) 0 := by unfold caL; rw [he]; rfl
      rw [h0] at hl ⊢
      rw [pL_fil, pL_len, lP_pP]
      show pP (wiL D t r) (dL D) = _
      by_cases c : 0 < toD D t
      · rw [bltT c]; rfl
      · rw [bltF c]
        show pP (wiL D t r) (dL D) = 0
        have ht : toD D t = pP (heL D t) (dL D) := by unfold toD; rw [he]; rfl
        have g : ∀ n, pP (wiL D t r) n ≤ pP (heL D t) n := by
          intro n
          induction n with
          | zero => exact Nat.le_refl 1
          | succ n ih => exact Nat.mul_le_mul ih (List.length_filter_le _ _)
        have := g (dL D)
        omega
  rw [e2] at e
  exact e
