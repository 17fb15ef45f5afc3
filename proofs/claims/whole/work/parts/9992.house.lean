/-! the house: what the call does -/
def lwD (m : Nat) : Nat := (bl m).getD 0 0
def myP (P : zD) (k : Nat) : Nat := if P 7 k = 0 then 1 else P 7 k
def newD (D P : zD) : zD := fun c k => match c with
  | 0 => P 0 k
  | 1 => P 1 k
  | 2 => P 2 k
  | 3 => P 3 k
  | 4 => P 4 k
  | 5 => P 5 k
  | 6 => P 6 k
  | 7 => myP P k
  | 8 => if k < 24 * P 0 1 then lwD (myP P k) else D 8 k
  | 9 => if k < 24 * P 0 2 then P 5 (k / 24) else D 9 k
  | 10 => 0
  | 12 => 0
  | 14 => P 4 k
  | _ => D c k
theorem myP_1 {P : zD} (h : pOK P) (k : Nat) : 1 ≤ myP P k ∧ myP P k < 4096 := by
  unfold myP
  have := h.may k
  split <;> omega
theorem lw_get {m : Nat} (h1 : 1 ≤ m) (h2 : m < 4096) : (bl m)[0]? = some (lwD m) := lget (bl_pos h1 h2)
theorem lw_bit {m : Nat} (h1 : 1 ≤ m) (h2 : m < 4096) : lwD m < 12 ∧ bt1 m (lwD m) = 1 := by
  have h := bl_mem.mp (lget_mem (bl_pos h1 h2))
  refine ⟨?_, h.2⟩
  rcases Nat.lt_or_ge (lwD m) 12 with c | c
  · exact c
  · have z := bt1_hi (n := m) (j := lwD m) (k := 12) h2 c
    have h2 : bt1 m (lwD m) = 1 := h.2
    rw [z] at h2
    cases h2
theorem newD_ok {D P : zD} (h : pOK P) (hD : dOK D) : dOK (newD D P) := by
  refine ⟨h.rooms, h.lodgers, h.finders, h.goods, h.whose, h.livesIn, h.home, h.whoseHome, h.feet, h.law, fun k _ => myP_1 h k, ?_, ?_, ?_, ?_, Nat.zero_le _, ?_, hD.seen, Nat.zero_le _, fun k hk => absurd hk (Nat.not_lt_zero k), ?_, ?_⟩
  · intro l t a hl ht hb
    have hb : bt1 (myP P (24 * l + t)) (4 + a) = 1 := hb
    unfold myP at hb
    split at hb
    · unfold bt1 at hb
      rw [Nat.div_eq_of_lt (Nat.one_lt_pow (by omega) (by decide))] at hb
      exact absurd hb (by decide)
    · exact h.mayRoom l t a hl ht hb
  · intro k hk
    show (if k < 24 * P 0 1 then lwD (myP P k) else D 8 k) < 12
    split
    · have := myP_1 h k
      exact (lw_bit this.1 this.2).1
    · exact hD.day k hk
  · intro k hk
    have hk : k < 24 * P 0 1 := hk
    show bt1 (myP P k) (if k < 24 * P 0 1 then lwD (myP P k) else D 8 k) = 1
    rw [if_pos hk]
    have := myP_1 h k
    exact (lw_bit this.1 this.2).2
  · intro k hk
    have hk : k < 24 * P 0 2 := hk
    show (if k < 24 * P 0 2 then P 5 (k / 24) else D 9 k) < P 0 0
    rw [if_pos hk]
    exact h.begins _ (by omega)
  · show 0 < 2 ^ P 0 0
    exact Nat.pow_pos (by decide)
  · intro l s k hl hs hk
    have hk : k ≤ 0 := hk
    have e : k = 0 := by omega
    subst e
    show 0 ≤ (P 4 (2 * l + s - 1) : Int) + 0
    omega
  · intro l s hl hs
    show (P 4 (2 * l + s - 1) : Int) = (P 4 (2 * l + s - 1) : Int) + 0
    omega
theorem rdA_ok {T : zD} {n : Nat} (f : Nat) : ∀ (P : zD) (p : Nat), pOK P → p ≤ n → match rdA T n f P p with
  | .inl (k, q) => 1 ≤ k ∧ k ≤ 5 ∧ q ≤ n
  | .inr (P', _) => pOK P' := by
  induction f with
  | zero => intro P p hP hp; exact hP
  | succ f ih =>
    intro P p hP hp
    have hl := li_ok (T := T) hP hp
    unfold rdA
    by_cases c : tkS T n p = 0
    · rw [if_pos c]; exact hP
    · rw [if_neg c]
      cases hr : li0 T n P p with
      | inl e => rw [hr] at hl; exact hl
      | inr e =>
        obtain ⟨Q, q⟩ := e
        rw [hr] at hl
        have hl : pOK Q ∧ p < q ∧ q ≤ n := hl
        exact ih Q q hl.1 hl.2.2
def huzA (T : zD) (x : Int) : Nat × Int := if 0 ≤ x ∧ x ≤ (T 0 0 : Int) then (match rdA T x.toNat 700 p0 0 with
  | .inl (k, _) => (0, (k : Int))
  | .inr _ => (0, 0)) else (1, 0)
def huzT (T : zD) (x : Int) : zD := if 0 ≤ x ∧ x ≤ (T 0 0 : Int) then (match rdA T x.toNat 700 p0 0 with
  | .inl (_, q) => zu (zu (zu T 0 0 0) 2 0 (q + 1)) 3 0 (T 3 0 + 1)
  | .inr _ => zu (zu (zu (zu (zu T 0 0 0) 2 0 0) 4 0 0) 5 0 0) 8 0 0) else T
def huzD (D T : zD) (x : Int) : zD := if 0 ≤ x ∧ x ≤ (T 0 0 : Int) then (match rdA T x.toNat 700 p0 0 with
  | .inl _ => D
  | .inr (P, _) => newD D P) else D
section
variable {S S' : zS} {D E T T' : zD} {N : Nat} {K : zR2 → zS → Prop} {x : Int}
theorem x_house (hX : xOK D E T N) (hN : N < 99999) : xOK (huzD D T x) E (huzT T x) (N + 1) := by
  unfold huzD huzT
  by_cases c : 0 ≤ x ∧ x ≤ (T 0 0 : Int)
  · rw [if_pos c, if_pos c]
    have ht := hX.tape
    have hr := rdA_ok (T := T) (n := x.toNat) 700 p0 0 p0_ok (Nat.zero_le _)
    cases hd : rdA T x.toNat 700 p0 0 with
    | inl e =>
      obtain ⟨k, q⟩ := e
      rw [hd] at hr
      have hr : 1 ≤ k ∧ k ≤ 5 ∧ q ≤ x.toNat := hr
      show xOK D E (zu (zu (zu T 0 0 0) 2 0 (q + 1)) 3 0 (T 3 0 + 1)) (N + 1)
      refine ⟨hX.now, (Nat.zero_le _), hX.bytes, (by show q + 1 ≤ 701; omega), (fun i => ?_), hX.isKept, hX.kept, hX.path, hX.lends, (by omega)⟩
      show zu (zu (zu T 0 0 0) 2 0 (q + 1)) 3 0 (T 3 0 + 1) 3 i ≤ N + 1
      rw [zu_if]
      split
      · have := hX.refused 0; omega
      · rw [zuD_n (Or.inl (by omega)), zuD_n (Or.inl (by omega))]; have := hX.refused i; omega
    | inr e =>
      obtain ⟨P, q⟩ := e
      rw [hd] at hr
      show xOK (newD D P) E (zu (zu (zu (zu (zu T 0 0 0) 2 0 0) 4 0 0) 5 0 0) 8 0 0) (N + 1)
      exact ⟨(newD_ok hr hX.now), (Nat.zero_le _), hX.bytes, (Nat.zero_le _), (fun i => Nat.le_succ_of_le (hX.refused i)), (Nat.zero_le _), (fun z => absurd (show (0 : Nat) = 1 from z) (by decide)), (Nat.zero_le _), (Nat.zero_le _), (by omega)⟩
  · rw [if_neg c, if_neg c]; exact hX.up hN
end
