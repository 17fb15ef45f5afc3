/-! THE HOUSE, as both sides hold it: numbers alone -/
abbrev zD : Type := Nat → Nat → Nat
/-- how many rooms, lodgers, finders, mays -/
def dR (D : zD) : Nat := D 0 0
def dL (D : zD) : Nat := D 0 1
def dF (D : zD) : Nat := D 0 2
def dY (D : zD) : Nat := D 0 3
/-- goods; who lives there (0: nobody); where one lives; his first shoes; where a finder begins; the law; what one may do by hour; what he does; where finders look -/
def dG (D : zD) (r : Nat) : Nat := D 1 r
def dW (D : zD) (r : Nat) : Nat := D 2 r
def dH (D : zD) (l : Nat) : Nat := D 3 l
def dE (D : zD) (k : Nat) : Nat := D 4 k
def dB (D : zD) (f : Nat) : Nat := D 5 f
def dA (D : zD) (a : Nat) : Nat := D 6 a
def dM (D : zD) (k : Nat) : Nat := D 7 k
def dD (D : zD) (k : Nat) : Nat := D 8 k
def dK (D : zD) (k : Nat) : Nat := D 9 k
/-- the hour that was seen (0: none), its rooms, their signs -/
def dQ (D : zD) : Nat := D 10 0
def dP (D : zD) : Nat := D 10 1
def dS (D : zD) (r : Nat) : Nat := D 11 r
/-- how many are lent; by whom, to whom, which; the shoes that one has now -/
def dN (D : zD) : Nat := D 12 0
def dT (D : zD) (k : Nat) : Nat := D 13 k
def dU (D : zD) (k : Nat) : Nat := D 14 k
/-- what one does as the class tells it -/
def tol (a : Nat) : Nat := if a < 4 then a else a + 6
/-- what one may do, as the class keeps it -/
def spr (m : Nat) : Nat := m % 16 + m / 16 * 1024
/-- one lending's part in what l has of the shoe s -/
def lnd1 (D : zD) (l s k : Nat) : Int := if dT D (3 * k + 2) = s then (if dT D (3 * k + 1) = l then 1 else 0) - (if dT D (3 * k) = l then 1 else 0) else 0
def lnd (D : zD) (l s : Nat) : Nat → Int
  | 0 => 0
  | k + 1 => lnd D l s k + lnd1 D l s k
theorem lnd_le (D : zD) (l s k : Nat) : -(k : Int) ≤ lnd D l s k ∧ lnd D l s k ≤ k := by
  induction k with
  | zero => exact ⟨Int.le_refl 0, Int.le_refl 0⟩
  | succ k ih =>
    have h : -1 ≤ lnd1 D l s k ∧ lnd1 D l s k ≤ 1 := by
      unfold lnd1
      split
      · split <;> split <;> decide
      · decide
    show -((k + 1 : Nat) : Int) ≤ lnd D l s k + lnd1 D l s k ∧ lnd D l s k + lnd1 D l s k ≤ ((k + 1 : Nat) : Int)
    omega
def dOK (D : zD) : Prop := (dR D ≤ 8) ∧ (dL D ≤ 6) ∧ (dF D ≤ 3) ∧ (∀ r, r < dR D → dG D r ≤ 99) ∧ (∀ r, r < dR D → dW D r ≤ dL D) ∧ (∀ r, r < dR D → dW D r ≠ 0 → dH D (dW D r - 1) = r) ∧ (∀ l, l < dL D → dH D l < dR D) ∧ (∀ l, l < dL D → dW D (dH D l) = l + 1) ∧ (∀ k, dE D k ≤ 1) ∧ (∀ a, a < 4 → dA D a < 4) ∧ (∀ k, k < 24 * dL D → 1 ≤ dM D k ∧ dM D k < 4096) ∧ (∀ l h a, l < dL D → h < 24 → bt1 (dM D (24 * l + h)) (4 + a) = 1 → a < dR D ∧ a ≠ dH D l) ∧ (∀ k, k < 144 → dD D k < 12) ∧ (∀ k, k < 24 * dL D → bt1 (dM D k) (dD D k) = 1) ∧ (∀ k, k < 24 * dF D → dK D k < dR D) ∧ (dQ D ≤ 24) ∧ (dP D < 2 ^ dR D) ∧ (∀ r, r < 8 → dS D r < 4) ∧ (dN D ≤ 12) ∧ (∀ k, k < dN D → dT D (3 * k) < dL D ∧ dT D (3 * k + 1) < dL D ∧ (dT D (3 * k + 2) = 1 ∨ dT D (3 * k + 2) = 2) ∧ dT D (3 * k) ≠ dT D (3 * k + 1)) ∧ (∀ l s k, l < dL D → (s = 1 ∨ s = 2) → k ≤ dN D → 0 ≤ (dE D (2 * l + s - 1) : Int) + lnd D l s k) ∧ (∀ l s, l < dL D → (s = 1 ∨ s = 2) → (dU D (2 * l + s - 1) : Int) = (dE D (2 * l + s - 1) : Int) + lnd D l s (dN D))
theorem dOK.rooms {D : zD} (h : dOK D) : dR D ≤ 8 := h.1
theorem dOK.lodgers {D : zD} (h : dOK D) : dL D ≤ 6 := h.2.1
theorem dOK.finders {D : zD} (h : dOK D) : dF D ≤ 3 := h.2.2.1
theorem dOK.goods {D : zD} (h : dOK D) : ∀ r, r < dR D → dG D r ≤ 99 := h.2.2.2.1
theorem dOK.whose {D : zD} (h : dOK D) : ∀ r, r < dR D → dW D r ≤ dL D := h.2.2.2.2.1
theorem dOK.livesIn {D : zD} (h : dOK D) : ∀ r, r < dR D → dW D r ≠ 0 → dH D (dW D r - 1) = r := h.2.2.2.2.2.1
theorem dOK.home {D : zD} (h : dOK D) : ∀ l, l < dL D → dH D l < dR D := h.2.2.2.2.2.2.1
theorem dOK.whoseHome {D : zD} (h : dOK D) : ∀ l, l < dL D → dW D (dH D l) = l + 1 := h.2.2.2.2.2.2.2.1
theorem dOK.feet {D : zD} (h : dOK D) : ∀ k, dE D k ≤ 1 := h.2.2.2.2.2.2.2.2.1
theorem dOK.law {D : zD} (h : dOK D) : ∀ a, a < 4 → dA D a < 4 := h.2.2.2.2.2.2.2.2.2.1
theorem dOK.may {D : zD} (h : dOK D) : ∀ k, k < 24 * dL D → 1 ≤ dM D k ∧ dM D k < 4096 := h.2.2.2.2.2.2.2.2.2.2.1
theorem dOK.mayRoom {D : zD} (h : dOK D) : ∀ l h a, l < dL D → h < 24 → bt1 (dM D (24 * l + h)) (4 + a) = 1 → a < dR D ∧ a ≠ dH D l := h.2.2.2.2.2.2.2.2.2.2.2.1
theorem dOK.day {D : zD} (h : dOK D) : ∀ k, k < 144 → dD D k < 12 := h.2.2.2.2.2.2.2.2.2.2.2.2.1
theorem dOK.dayMay {D : zD} (h : dOK D) : ∀ k, k < 24 * dL D → bt1 (dM D k) (dD D k) = 1 := h.2.2.2.2.2.2.2.2.2.2.2.2.2.1
theorem dOK.looks {D : zD} (h : dOK D) : ∀ k, k < 24 * dF D → dK D k < dR D := h.2.2.2.2.2.2.2.2.2.2.2.2.2.2.1
theorem dOK.seenHour {D : zD} (h : dOK D) : dQ D ≤ 24 := h.2.2.2.2.2.2.2.2.2.2.2.2.2.2.2.1
theorem dOK.seenRooms {D : zD} (h : dOK D) : dP D < 2 ^ dR D := h.2.2.2.2.2.2.2.2.2.2.2.2.2.2.2.2.1
theorem dOK.seen {D : zD} (h : dOK D) : ∀ r, r < 8 → dS D r < 4 := h.2.2.2.2.2.2.2.2.2.2.2.2.2.2.2.2.2.1
theorem dOK.lent {D : zD} (h : dOK D) : dN D ≤ 12 := h.2.2.2.2.2.2.2.2.2.2.2.2.2.2.2.2.2.2.1
theorem dOK.lending {D : zD} (h : dOK D) : ∀ k, k < dN D → dT D (3 * k) < dL D ∧ dT D (3 * k + 1) < dL D ∧ (dT D (3 * k + 2) = 1 ∨ dT D (3 * k + 2) = 2) ∧ dT D (3 * k) ≠ dT D (3 * k + 1) := h.2.2.2.2.2.2.2.2.2.2.2.2.2.2.2.2.2.2.2.1
theorem dOK.past {D : zD} (h : dOK D) : ∀ l s k, l < dL D → (s = 1 ∨ s = 2) → k ≤ dN D → 0 ≤ (dE D (2 * l + s - 1) : Int) + lnd D l s k := h.2.2.2.2.2.2.2.2.2.2.2.2.2.2.2.2.2.2.2.2.1
theorem dOK.shoes {D : zD} (h : dOK D) : ∀ l s, l < dL D → (s = 1 ∨ s = 2) → (dU D (2 * l + s - 1) : Int) = (dE D (2 * l + s - 1) : Int) + lnd D l s (dN D) := h.2.2.2.2.2.2.2.2.2.2.2.2.2.2.2.2.2.2.2.2.2
/-- the class holds it -/
def cOK (S : zS) (D : zD) : Prop := (S 3 7 = (dR D : Int)) ∧ (S 3 8 = (dL D : Int)) ∧ (S 3 9 = (dF D : Int)) ∧ (S 3 10 = (dY D : Int)) ∧ (∀ r, r < dR D → S 4 r = (dG D r : Int)) ∧ (∀ r, r < dR D → S 5 r = (dW D r : Int) - 1) ∧ (∀ l, l < dL D → S 6 l = (dH D l : Int)) ∧ (∀ k, k < 24 * dL D → (S 9 k = 0 ∧ dM D k = 1) ∨ S 9 k = (spr (dM D k) : Int)) ∧ (∀ a, a < 4 → S 10 a = (dA D a : Int)) ∧ (S 20 7 = (dN D : Int)) ∧ (S 20 8 = (dQ D : Int) - 1) ∧ (S 20 9 = (dP D : Int)) ∧ (∀ k, k < dN D → S 21 k = (dT D (3 * k) : Int)) ∧ (∀ k, k < dN D → S 22 k = (dT D (3 * k + 1) : Int)) ∧ (∀ k, k < dN D → S 23 k = (dT D (3 * k + 2) : Int)) ∧ (∀ k, k < 2 * dL D → S 24 k = (dU D k : Int)) ∧ (∀ k, k < 144 → S 25 k = (tol (dD D k) : Int)) ∧ (∀ k, k < 72 → S 26 k = (dK D k : Int)) ∧ (∀ r, r < 8 → S 27 r = (dS D r : Int))
theorem cOK.rooms {S : zS} {D : zD} (h : cOK S D) : S 3 7 = (dR D : Int) := h.1
theorem cOK.lodgers {S : zS} {D : zD} (h : cOK S D) : S 3 8 = (dL D : Int) := h.2.1
theorem cOK.finders {S : zS} {D : zD} (h : cOK S D) : S 3 9 = (dF D : Int) := h.2.2.1
theorem cOK.mays {S : zS} {D : zD} (h : cOK S D) : S 3 10 = (dY D : Int) := h.2.2.2.1
theorem cOK.goods {S : zS} {D : zD} (h : cOK S D) : ∀ r, r < dR D → S 4 r = (dG D r : Int) := h.2.2.2.2.1
theorem cOK.tenant {S : zS} {D : zD} (h : cOK S D) : ∀ r, r < dR D → S 5 r = (dW D r : Int) - 1 := h.2.2.2.2.2.1
theorem cOK.home {S : zS} {D : zD} (h : cOK S D) : ∀ l, l < dL D → S 6 l = (dH D l : Int) := h.2.2.2.2.2.2.1
theorem cOK.told {S : zS} {D : zD} (h : cOK S D) : ∀ k, k < 24 * dL D → (S 9 k = 0 ∧ dM D k = 1) ∨ S 9 k = (spr (dM D k) : Int) := h.2.2.2.2.2.2.2.1
theorem cOK.law {S : zS} {D : zD} (h : cOK S D) : ∀ a, a < 4 → S 10 a = (dA D a : Int) := h.2.2.2.2.2.2.2.2.1
theorem cOK.lent {S : zS} {D : zD} (h : cOK S D) : S 20 7 = (dN D : Int) := h.2.2.2.2.2.2.2.2.2.1
theorem cOK.seenHour {S : zS} {D : zD} (h : cOK S D) : S 20 8 = (dQ D : Int) - 1 := h.2.2.2.2.2.2.2.2.2.2.1
theorem cOK.seenRooms {S : zS} {D : zD} (h : cOK S D) : S 20 9 = (dP D : Int) := h.2.2.2.2.2.2.2.2.2.2.2.1
theorem cOK.givers {S : zS} {D : zD} (h : cOK S D) : ∀ k, k < dN D → S 21 k = (dT D (3 * k) : Int) := h.2.2.2.2.2.2.2.2.2.2.2.2.1
theorem cOK.takers {S : zS} {D : zD} (h : cOK S D) : ∀ k, k < dN D → S 22 k = (dT D (3 * k + 1) : Int) := h.2.2.2.2.2.2.2.2.2.2.2.2.2.1
theorem cOK.lentShoes {S : zS} {D : zD} (h : cOK S D) : ∀ k, k < dN D → S 23 k = (dT D (3 * k + 2) : Int) := h.2.2.2.2.2.2.2.2.2.2.2.2.2.2.1
theorem cOK.shoes {S : zS} {D : zD} (h : cOK S D) : ∀ k, k < 2 * dL D → S 24 k = (dU D k : Int) := h.2.2.2.2.2.2.2.2.2.2.2.2.2.2.2.1
theorem cOK.day {S : zS} {D : zD} (h : cOK S D) : ∀ k, k < 144 → S 25 k = (tol (dD D k) : Int) := h.2.2.2.2.2.2.2.2.2.2.2.2.2.2.2.2.1
theorem cOK.rounds {S : zS} {D : zD} (h : cOK S D) : ∀ k, k < 72 → S 26 k = (dK D k : Int) := h.2.2.2.2.2.2.2.2.2.2.2.2.2.2.2.2.2.1
theorem cOK.seen {S : zS} {D : zD} (h : cOK S D) : ∀ r, r < 8 → S 27 r = (dS D r : Int) := h.2.2.2.2.2.2.2.2.2.2.2.2.2.2.2.2.2.2
/-- the model holds it -/
def mOK (S : zS) (D : zD) : Prop := (S 62 1 = (dR D : Int)) ∧ (S 62 2 = (dL D : Int)) ∧ (S 62 3 = (dF D : Int)) ∧ (S 62 4 = (dY D : Int)) ∧ (∀ r, r < dR D → S 63 r = (dG D r : Int)) ∧ (∀ r, r < dR D → S 64 r = (dW D r : Int) - 1) ∧ (∀ l, l < dL D → S 65 l = (dH D l : Int)) ∧ (∀ k, k < 2 * dL D → S 66 k = (dE D k : Int)) ∧ (∀ a, a < 4 → S 68 a = (dA D a : Int)) ∧ (∀ k, k < 24 * dL D → S 69 k = (dM D k : Int)) ∧ (S 62 36 = (dN D : Int)) ∧ (S 62 40 = (dQ D : Int) - 1) ∧ (S 62 41 = (dP D : Int)) ∧ (∀ k, k < 3 * dN D → S 79 k = (dT D k : Int)) ∧ (∀ k, k < 144 → S 80 k = (dD D k : Int)) ∧ (∀ k, k < 72 → S 81 k = (dK D k : Int)) ∧ (∀ r, r < 8 → S 82 r = (dS D r : Int))
theorem mOK.rooms {S : zS} {D : zD} (h : mOK S D) : S 62 1 = (dR D : Int) := h.1
theorem mOK.lodgers {S : zS} {D : zD} (h : mOK S D) : S 62 2 = (dL D : Int) := h.2.1
theorem mOK.finders {S : zS} {D : zD} (h : mOK S D) : S 62 3 = (dF D : Int) := h.2.2.1
theorem mOK.mays {S : zS} {D : zD} (h : mOK S D) : S 62 4 = (dY D : Int) := h.2.2.2.1
theorem mOK.goods {S : zS} {D : zD} (h : mOK S D) : ∀ r, r < dR D → S 63 r = (dG D r : Int) := h.2.2.2.2.1
theorem mOK.whose {S : zS} {D : zD} (h : mOK S D) : ∀ r, r < dR D → S 64 r = (dW D r : Int) - 1 := h.2.2.2.2.2.1
theorem mOK.home {S : zS} {D : zD} (h : mOK S D) : ∀ l, l < dL D → S 65 l = (dH D l : Int) := h.2.2.2.2.2.2.1
theorem mOK.feet {S : zS} {D : zD} (h : mOK S D) : ∀ k, k < 2 * dL D → S 66 k = (dE D k : Int) := h.2.2.2.2.2.2.2.1
theorem mOK.law {S : zS} {D : zD} (h : mOK S D) : ∀ a, a < 4 → S 68 a = (dA D a : Int) := h.2.2.2.2.2.2.2.2.1
theorem mOK.may {S : zS} {D : zD} (h : mOK S D) : ∀ k, k < 24 * dL D → S 69 k = (dM D k : Int) := h.2.2.2.2.2.2.2.2.2.1
theorem mOK.lent {S : zS} {D : zD} (h : mOK S D) : S 62 36 = (dN D : Int) := h.2.2.2.2.2.2.2.2.2.2.1
theorem mOK.seenHour {S : zS} {D : zD} (h : mOK S D) : S 62 40 = (dQ D : Int) - 1 := h.2.2.2.2.2.2.2.2.2.2.2.1
theorem mOK.seenRooms {S : zS} {D : zD} (h : mOK S D) : S 62 41 = (dP D : Int) := h.2.2.2.2.2.2.2.2.2.2.2.2.1
theorem mOK.lending {S : zS} {D : zD} (h : mOK S D) : ∀ k, k < 3 * dN D → S 79 k = (dT D k : Int) := h.2.2.2.2.2.2.2.2.2.2.2.2.2.1
theorem mOK.day {S : zS} {D : zD} (h : mOK S D) : ∀ k, k < 144 → S 80 k = (dD D k : Int) := h.2.2.2.2.2.2.2.2.2.2.2.2.2.2.1
theorem mOK.looks {S : zS} {D : zD} (h : mOK S D) : ∀ k, k < 72 → S 81 k = (dK D k : Int) := h.2.2.2.2.2.2.2.2.2.2.2.2.2.2.2.1
theorem mOK.seen {S : zS} {D : zD} (h : mOK S D) : ∀ r, r < 8 → S 82 r = (dS D r : Int) := h.2.2.2.2.2.2.2.2.2.2.2.2.2.2.2.2
theorem cOK.fr {S S' : zS} {D : zD} (h : cOK S D) (h3 : ∀ c, 3 ≤ c → c ≤ 10 → S' c = S c) (h20 : ∀ c, 20 ≤ c → c ≤ 27 → S' c = S c) : cOK S' D := by
  unfold cOK at h ⊢
  rw [h3 3 (by omega) (by omega), h3 4 (by omega) (by omega), h3 5 (by omega) (by omega), h3 6 (by omega) (by omega), h3 9 (by omega) (by omega), h3 10 (by omega) (by omega), h20 20 (by omega) (by omega), h20 21 (by omega) (by omega), h20 22 (by omega) (by omega), h20 23 (by omega) (by omega), h20 24 (by omega) (by omega), h20 25 (by omega) (by omega), h20 26 (by omega) (by omega), h20 27 (by omega) (by omega)]
  exact h
theorem dU_le {D : zD} (h : dOK D) {l s : Nat} (hl : l < dL D) (hs : s = 1 ∨ s = 2) : dU D (2 * l + s - 1) ≤ 13 := by
  have h1 := h.shoes l s hl hs
  have h2 := (lnd_le D l s (dN D)).2
  have h3 := h.lent
  have h4 := h.feet (2 * l + s - 1)
  omega
theorem tol_lt {a : Nat} (h : a < 12) : tol a < 18 := by unfold tol; split <;> omega
/-- signs -/
def kinD (D : zD) (l : Nat) : Nat := (if 0 < dU D (2 * l) then 1 else 0) + (if 0 < dU D (2 * l + 1) then 2 else 0)
def lawD (D : zD) (a : Nat) : Nat := if a < 4 then dA D a else dA D 0
def sigD (D : zD) (l a : Nat) : Nat := lawD D a &&& kinD D l
def sgaD (D : zD) (r h : Nat) : Nat := if dW D r = 0 then 3 else sigD D (dW D r - 1) (dD D (24 * (dW D r - 1) + h))
theorem kin_lt (D : zD) (l : Nat) : kinD D l < 4 := by unfold kinD; split <;> split <;> omega
theorem lawD_lt {D : zD} (h : dOK D) (a : Nat) : lawD D a < 4 := by
  unfold lawD
  split
  · rename_i c; exact h.law a c
  · exact h.law 0 (by omega)
