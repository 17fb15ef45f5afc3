/-! the house: what a line is -/
abbrev zLn : Type := (Nat × Nat) ⊕ (zD × Nat)
/-- what is wrong with a number there -/
def nuF (T : zD) (n q lo hi : Nat) : Nat := if tkS T n q = 2 then (if tkN T n q - tkP T n q ≤ 3 ∧ lo ≤ tkV T n q ∧ tkV T n q ≤ hi then 0 else 2) else 1
def toF (T : zD) (n q many : Nat) : Nat := if tkS T n q = 2 then (if tkN T n q - tkP T n q ≤ 3 then (if tkV T n q < many then 0 else 3) else 2) else 1
theorem nuF_0 {T : zD} {n q lo hi : Nat} : nuF T n q lo hi = 0 ↔ tkS T n q = 2 ∧ tkN T n q - tkP T n q ≤ 3 ∧ lo ≤ tkV T n q ∧ tkV T n q ≤ hi := by
  unfold nuF
  split
  · rename_i c
    split
    · rename_i c2; exact ⟨fun _ => ⟨c, c2⟩, fun _ => rfl⟩
    · rename_i c2; exact ⟨fun z => absurd z (by decide), fun z => absurd z.2 c2⟩
  · rename_i c; exact ⟨fun z => absurd z (by decide), fun z => absurd z.1 c⟩
theorem toF_0 {T : zD} {n q many : Nat} : toF T n q many = 0 ↔ tkS T n q = 2 ∧ tkN T n q - tkP T n q ≤ 3 ∧ tkV T n q < many := by
  unfold toF
  split
  · rename_i c
    split
    · rename_i c2
      split
      · rename_i c3; exact ⟨fun _ => ⟨c, c2, c3⟩, fun _ => rfl⟩
      · rename_i c3; exact ⟨fun z => absurd z (by decide), fun z => absurd z.2.2 c3⟩
    · rename_i c2; exact ⟨fun z => absurd z (by decide), fun z => absurd z.2.1 c2⟩
  · rename_i c; exact ⟨fun z => absurd z (by decide), fun z => absurd z.1 c⟩
theorem nuF_le {T : zD} {n q lo hi : Nat} : nuF T n q lo hi ≤ 2 := by
  unfold nuF; repeat' split
  all_goals omega
theorem toF_le {T : zD} {n q many : Nat} : toF T n q many ≤ 3 := by
  unfold toF; repeat' split
  all_goals omega
def liE (T : zD) (n k q : Nat) : zLn := .inl (k, tkP T n q)
def liR (T : zD) (n : Nat) (P : zD) (p q : Nat) : zLn := if P 0 0 < 8 then (if nuF T n q 0 99 = 0 then .inr (adR P (tkV T n q), tkN T n q) else liE T n (nuF T n q 0 99) q) else liE T n 2 p
def liF (T : zD) (n : Nat) (P : zD) (p q : Nat) : zLn := if P 0 2 < 3 then (if toF T n q (P 0 0) = 0 then .inr (adF P (tkV T n q), tkN T n q) else liE T n (toF T n q (P 0 0)) q) else liE T n 2 p
def liL2 (T : zD) (n : Nat) (P : zD) (r q : Nat) : zLn := if isW T n q (wdL 6) = true then .inr (adL P r 1 0, tkN T n q) else if isW T n q (wdL 7) = true then .inr (adL P r 0 1, tkN T n q) else .inr (adL P r 1 1, q)
def liL (T : zD) (n : Nat) (P : zD) (p q : Nat) : zLn := if P 0 1 < 6 then (if toF T n q (P 0 0) = 0 then (if P 2 (tkV T n q) = 0 then liL2 T n P (tkV T n q) (tkN T n q) else liE T n 4 q) else liE T n (toF T n q (P 0 0)) q) else liE T n 2 p
/-- which of four words -/
def own (T : zD) (n q i : Nat) : Nat := if isW T n q (wdL i) = true then 0 else if isW T n q (wdL (i + 1)) = true then 1 else if isW T n q (wdL (i + 2)) = true then 2 else if isW T n q (wdL (i + 3)) = true then 3 else 4
theorem own_le {T : zD} {n q i : Nat} : own T n q i ≤ 4 := by
  unfold own; repeat' split
  all_goals omega
def liD2 (T : zD) (n : Nat) (P : zD) (l q : Nat) : (Nat × Nat) ⊕ (Nat × Nat) := if toF T n q (P 0 0) = 0 then (if tkV T n q = P 3 l then .inl (4, tkP T n q) else .inr (4 + tkV T n q, q)) else .inl (toF T n q (P 0 0), tkP T n q)
def liD (T : zD) (n : Nat) (P : zD) (l q : Nat) : (Nat × Nat) ⊕ (Nat × Nat) := if isW T n q (wdL 4) = true then liD2 T n P l (tkN T n q) else if own T n q 0 < 4 then .inr (own T n q 0, q) else .inl (1, tkP T n q)
def liM3 (T : zD) (n : Nat) (P : zD) (l a v q : Nat) : zLn := if nuF T n q v 23 = 0 then .inr (adM P a (24 * l + v) (tkV T n q + 1 - v), tkN T n q) else liE T n (nuF T n q v 23) q
def liM2 (T : zD) (n : Nat) (P : zD) (l a q : Nat) : zLn := if nuF T n q 0 23 = 0 then liM3 T n P l a (tkV T n q) (tkN T n q) else liE T n (nuF T n q 0 23) q
def liM1 (T : zD) (n : Nat) (P : zD) (l : Nat) (r : (Nat × Nat) ⊕ (Nat × Nat)) : zLn := match r with
  | .inl e => .inl e
  | .inr (a, q) => liM2 T n P l a (tkN T n q)
def liM (T : zD) (n : Nat) (P : zD) (p q : Nat) : zLn := if P 0 3 < 40 then (if toF T n q (P 0 1) = 0 then liM1 T n P (tkV T n q) (liD T n P (tkV T n q) (tkN T n q)) else liE T n (toF T n q (P 0 1)) q) else liE T n 2 p
def liA2 (T : zD) (n : Nat) (P : zD) (a q : Nat) : zLn := if own T n q 5 < 4 then .inr (adA P a (own T n q 5), tkN T n q) else liE T n 1 q
def liA (T : zD) (n : Nat) (P : zD) (q : Nat) : zLn := if own T n q 0 < 4 then (if bt1 (P 0 4) (own T n q 0) = 1 then liE T n 5 q else liA2 T n P (own T n q 0) (tkN T n q)) else liE T n 1 q
def li1 (T : zD) (n : Nat) (P : zD) (p : Nat) : zLn := if isW T n p (wdL 9) = true then liR T n P p (tkN T n p) else if isW T n p (wdL 10) = true then liL T n P p (tkN T n p) else if isW T n p (wdL 11) = true then liF T n P p (tkN T n p) else if isW T n p (wdL 12) = true then liM T n P p (tkN T n p) else if isW T n p (wdL 13) = true then liA T n P (tkN T n p) else liE T n 1 p
def liS (T : zD) (n : Nat) (r : zLn) : zLn := match r with
  | .inl e => .inl e
  | .inr (P, q) => if tkS T n q = 3 then .inr (P, tkN T n q) else liE T n 1 q
def li0 (T : zD) (n : Nat) (P : zD) (p : Nat) : zLn := liS T n (li1 T n P p)
def rdA (T : zD) (n : Nat) : Nat → zD → Nat → zLn
  | 0, P, p => .inr (P, p)
  | f + 1, P, p => if tkS T n p = 0 then .inr (P, p) else match li0 T n P p with
    | .inl e => .inl e
    | .inr (Q, q) => rdA T n f Q q
/-- a line's end is good -/
def liG (n p : Nat) (r : zLn) : Prop := match r with
  | .inl (k, q) => 1 ≤ k ∧ k ≤ 5 ∧ q ≤ n
  | .inr (P, q) => pOK P ∧ p ≤ q ∧ q ≤ n
section
variable {T : zD} {n : Nat} {P : zD} {p q l a v k : Nat}
theorem liE_ok (hq : q ≤ n) (h1 : 1 ≤ k) (h2 : k ≤ 5) : liG n p (liE T n k q) := by
  have := tk_le (T := T) hq
  exact ⟨h1, h2, by omega⟩
theorem liR_ok (h : pOK P) (hp : p ≤ n) (hpq : p ≤ q) (hq : q ≤ n) : liG n p (liR T n P p q) := by
  unfold liR
  have tq := tk_le (T := T) hq
  have l1 := nuF_le (T := T) (n := n) (q := q) (lo := 0) (hi := 99)
  split
  · split
    · rename_i c1 c2
      have c2 := nuF_0.mp c2
      exact ⟨h.aR (by omega) c1, by omega, by omega⟩
    · exact liE_ok hq (by omega) (by omega)
  · exact liE_ok hp (by decide) (by decide)
theorem liF_ok (h : pOK P) (hp : p ≤ n) (hpq : p ≤ q) (hq : q ≤ n) : liG n p (liF T n P p q) := by
  unfold liF
  have tq := tk_le (T := T) hq
  have l1 := toF_le (T := T) (n := n) (q := q) (many := P 0 0)
  split
  · split
    · rename_i c1 c2
      have c2 := toF_0.mp c2
      exact ⟨h.aF (by omega) c1, by omega, by omega⟩
    · exact liE_ok hq (by omega) (by omega)
  · exact liE_ok hp (by decide) (by decide)
theorem liL_ok (h : pOK P) (hp : p ≤ n) (hpq : p ≤ q) (hq : q ≤ n) : liG n p (liL T n P p q) := by
  unfold liL
  have tq := tk_le (T := T) hq
  have l1 := toF_le (T := T) (n := n) (q := q) (many := P 0 0)
  split
  · split
    · rename_i c1 c2
      have c2 := toF_0.mp c2
      split
      · rename_i c3
        have t2 := tk_le (T := T) (show tkN T n q ≤ n by omega)
        unfold liL2
        split
        · exact ⟨h.aL (by omega) c3 c1 (by decide) (by decide), by omega, by omega⟩
        · split
          · exact ⟨h.aL (by omega) c3 c1 (by decide) (by decide), by omega, by omega⟩
          · exact ⟨h.aL (by omega) c3 c1 (by decide) (by decide), by omega, by omega⟩
      · exact liE_ok hq (by decide) (by decide)
    · exact liE_ok hq (by omega) (by omega)
  · exact liE_ok hp (by decide) (by decide)
theorem liD_ok (h : pOK P) (hq : q ≤ n) : match liD T n P l q with
  | .inl (k, x) => 1 ≤ k ∧ k ≤ 5 ∧ x ≤ n
  | .inr (a, x) => a < 12 ∧ (∀ b, a = 4 + b → b < P 0 0 ∧ b ≠ P 3 l) ∧ q ≤ x ∧ x ≤ n := by
  have tq := tk_le (T := T) hq
  unfold liD
  by_cases c : isW T n q (wdL 4) = true
  · rw [if_pos c]
    have t2 := tk_le (T := T) (show tkN T n q ≤ n by omega)
    generalize tkN T n q = x at tq t2
    have l1 := toF_le (T := T) (n := n) (q := x) (many := P 0 0)
    have hr := h.rooms
    unfold liD2
    by_cases c2 : toF T n x (P 0 0) = 0
    · rw [if_pos c2]
      have c2 := toF_0.mp c2
      by_cases c3 : tkV T n x = P 3 l
      · rw [if_pos c3]; exact ⟨by decide, by decide, by omega⟩
      · rw [if_neg c3]; exact ⟨by omega, fun b hb => ⟨by omega, fun z => c3 (by omega)⟩, by omega, by omega⟩
    · rw [if_neg c2]; exact ⟨by omega, by omega, by omega⟩
  · rw [if_neg c]
    by_cases c2 : own T n q 0 < 4
    · rw [if_pos c2]; exact ⟨by omega, fun b hb => by omega, by omega, by omega⟩
    · rw [if_neg c2]; exact ⟨by decide, by decide, by omega⟩
theorem liM_ok (h : pOK P) (hp : p ≤ n) (hpq : p ≤ q) (hq : q ≤ n) : liG n p (liM T n P p q) := by
  unfold liM
  have tq := tk_le (T := T) hq
  have l1 := toF_le (T := T) (n := n) (q := q) (many := P 0 1)
  split
  · split
    · rename_i c1 c2
      have c2 := toF_0.mp c2
      have hd := liD_ok (T := T) (l := tkV T n q) h (show tkN T n q ≤ n by omega)
      cases hD : liD T n P (tkV T n q) (tkN T n q) with
      | inl e =>
        rw [hD] at hd
        exact hd
      | inr e =>
        obtain ⟨a, x⟩ := e
        rw [hD] at hd
        have hd : a < 12 ∧ (∀ b, a = 4 + b → b < P 0 0 ∧ b ≠ P 3 (tkV T n q)) ∧ tkN T n q ≤ x ∧ x ≤ n := hd
        obtain ⟨d1, d2, d3, d4⟩ := hd
        have tx := tk_le (T := T) d4
        show liG n p (liM2 T n P (tkV T n q) a (tkN T n x))
        generalize tkN T n x = y at tx
        have ty := tk_le (T := T) (show y ≤ n by omega)
        unfold liM2
        have l2 := nuF_le (T := T) (n := n) (q := y) (lo := 0) (hi := 23)
        split
        · rename_i c3
          have c3 := nuF_0.mp c3
          have tz := tk_le (T := T) (show tkN T n y ≤ n by omega)
          unfold liM3
          have l3 := nuF_le (T := T) (n := n) (q := tkN T n y) (lo := tkV T n y) (hi := 23)
          split
          · rename_i c4
            have c4 := nuF_0.mp c4
            exact ⟨h.aM c2.2.2 d1 (by omega) c1 d2, by omega, by omega⟩
          · exact liE_ok (by omega) (by omega) (by omega)
        · exact liE_ok (by omega) (by omega) (by omega)
    · exact liE_ok hq (by omega) (by omega)
  · exact liE_ok hp (by decide) (by decide)
theorem liA_ok (h : pOK P) (hpq : p ≤ q) (hq : q ≤ n) : liG n p (liA T n P q) := by
  unfold liA
  have tq := tk_le (T := T) hq
  split
  · split
    · exact liE_ok hq (by decide) (by decide)
    · rename_i c1 c2
      have t2 := tk_le (T := T) (show tkN T n q ≤ n by omega)
      unfold liA2
      split
      · rename_i c3
        exact ⟨h.aA c1 c3, by omega, by omega⟩
      · exact liE_ok (by omega) (by decide) (by decide)
  · exact liE_ok hq (by decide) (by decide)
theorem li1_ok (h : pOK P) (hp : p ≤ n) : liG n p (li1 T n P p) := by
  have tp := tk_le (T := T) hp
  unfold li1
  split
  · exact liR_ok h hp (by omega) (by omega)
  · split
    · exact liL_ok h hp (by omega) (by omega)
    · split
      · exact liF_ok h hp (by omega) (by omega)
      · split
        · exact liM_ok h hp (by omega) (by omega)
        · split
          · exact liA_ok h (by omega) (by omega)
          · exact liE_ok hp (by decide) (by decide)
theorem li_ok (h : pOK P) (hp : p ≤ n) : match li0 T n P p with
  | .inl (k, q) => 1 ≤ k ∧ k ≤ 5 ∧ q ≤ n
  | .inr (P', q) => pOK P' ∧ p < q ∧ q ≤ n := by
  have h1 := li1_ok (T := T) h hp
  unfold li0
  cases hr : li1 T n P p with
  | inl e =>
    rw [hr] at h1
    exact h1
  | inr e =>
    obtain ⟨P', q⟩ := e
    rw [hr] at h1
    have h1 : pOK P' ∧ p ≤ q ∧ q ≤ n := h1
    have tq := tk_le (T := T) h1.2.2
    unfold liS
    by_cases c : tkS T n q = 3
    · simp only [if_pos c]
      have := tq.2.2.2 (by omega)
      exact ⟨h1.1, by omega, by omega⟩
    · simp only [if_neg c]
      exact ⟨by decide, by decide, by omega⟩
end
