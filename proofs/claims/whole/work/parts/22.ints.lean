/-- the kinds of the 103 cells that the constructors make, and of the law's own row -/
def zLAY (c : Nat) : Nat × Nat := bif Nat.ble c 102 then (bif Nat.ble c 50 then (bif Nat.ble c 24 then (bif Nat.ble c 11 then (bif Nat.ble c 5 then (bif Nat.ble c 2 then (bif Nat.ble c 0 then (0, 11) else (bif Nat.ble c 1 then (0, 9) else (2, 700))) else (bif Nat.ble c 3 then (0, 6) else (1, 8))) else (bif Nat.ble c 8 then (bif Nat.ble c 6 then (1, 6) else (bif Nat.ble c 7 then (1, 6) else (1, 3))) else (bif Nat.ble c 9 then (1, 144) else (bif Nat.ble c 10 then (1, 4) else (0, 6))))) else (bif Nat.ble c 17 then (bif Nat.ble c 14 then (bif Nat.ble c 12 then (1, 8) else (bif Nat.ble c 13 then (1, 8) else (1, 6))) else (bif Nat.ble c 15 then (1, 6) else (bif Nat.ble c 16 then (1, 3) else (1, 144)))) else (bif Nat.ble c 20 then (bif Nat.ble c 18 then (1, 4) else (bif Nat.ble c 19 then (0, 7) else (0, 0))) else (1, 12)))) else (bif Nat.ble c 37 then (bif Nat.ble c 30 then (bif Nat.ble c 27 then (bif Nat.ble c 25 then (1, 144) else (bif Nat.ble c 26 then (1, 72) else (1, 8))) else (bif Nat.ble c 28 then (0, 0) else (1, 12))) else (bif Nat.ble c 33 then (bif Nat.ble c 31 then (1, 12) else (bif Nat.ble c 32 then (1, 12) else (1, 144))) else (bif Nat.ble c 35 then (bif Nat.ble c 34 then (1, 72) else (1, 8)) else (bif Nat.ble c 36 then (0, 3) else (0, 1))))) else (bif Nat.ble c 43 then (bif Nat.ble c 40 then (bif Nat.ble c 38 then (1, 6) else (bif Nat.ble c 39 then (0, 2) else (1, 6))) else (bif Nat.ble c 41 then (1, 24) else (bif Nat.ble c 42 then (0, 10) else (1, 48)))) else (bif Nat.ble c 46 then (1, 6) else (bif Nat.ble c 48 then (bif Nat.ble c 47 then (0, 4) else (1, 8)) else (bif Nat.ble c 49 then (1, 8) else (1, 3))))))) else (bif Nat.ble c 76 then (bif Nat.ble c 63 then (bif Nat.ble c 56 then (bif Nat.ble c 53 then (bif Nat.ble c 51 then (1, 3) else (bif Nat.ble c 52 then (0, 5) else (1, 6))) else (bif Nat.ble c 54 then (1, 12) else (bif Nat.ble c 55 then (1, 4) else (1, 3)))) else (bif Nat.ble c 59 then (bif Nat.ble c 57 then (1, 6) else (bif Nat.ble c 58 then (1, 6) else (0, 8))) else (bif Nat.ble c 61 then (bif Nat.ble c 60 then (1, 40) else (1, 3)) else (bif Nat.ble c 62 then (0, 12) else (1, 8))))) else (bif Nat.ble c 69 then (bif Nat.ble c 66 then (bif Nat.ble c 64 then (1, 8) else (bif Nat.ble c 65 then (1, 6) else (1, 12))) else (bif Nat.ble c 67 then (1, 3) else (bif Nat.ble c 68 then (1, 4) else (1, 144)))) else (bif Nat.ble c 72 then (bif Nat.ble c 70 then (1, 700) else (bif Nat.ble c 71 then (1, 3) else (1, 8))) else (bif Nat.ble c 74 then (bif Nat.ble c 73 then (1, 8) else (1, 6)) else (bif Nat.ble c 75 then (1, 12) else (1, 3)))))) else (bif Nat.ble c 89 then (bif Nat.ble c 82 then (bif Nat.ble c 79 then (bif Nat.ble c 77 then (1, 4) else (bif Nat.ble c 78 then (1, 144) else (1, 36))) else (bif Nat.ble c 80 then (1, 144) else (bif Nat.ble c 81 then (1, 72) else (1, 8)))) else (bif Nat.ble c 85 then (bif Nat.ble c 83 then (1, 6) else (bif Nat.ble c 84 then (1, 24000) else (1, 8))) else (bif Nat.ble c 87 then (bif Nat.ble c 86 then (1, 8) else (1, 48)) else (1, 6)))) else (bif Nat.ble c 95 then (bif Nat.ble c 92 then (bif Nat.ble c 90 then (1, 6) else (1, 3)) else (bif Nat.ble c 93 then (1, 8) else (1, 6))) else (bif Nat.ble c 98 then (bif Nat.ble c 96 then (1, 256) else (bif Nat.ble c 97 then (1, 3) else (1, 36))) else (bif Nat.ble c 100 then (bif Nat.ble c 99 then (1, 8) else (1, 144)) else (bif Nat.ble c 101 then (1, 72) else (3, 1)))))))) else (9, 0)
def zR0 (c k : Nat) : Nat := bif Nat.ble c 102 then (bif Nat.ble c 50 then (bif Nat.ble c 24 then (bif Nat.ble c 11 then (bif Nat.ble c 5 then (bif Nat.ble c 2 then (bif Nat.ble c 0 then (bif Nat.ble k 15 then (bif Nat.ble k 7 then (bif Nat.ble k 3 then (bif Nat.ble k 1 then (bif Nat.ble k 0 then 2 else 4) else (bif Nat.ble k 2 then 12 else 20)) else (bif Nat.ble k 5 then (bif Nat.ble k 4 then 21 else 29) else (bif Nat.ble k 6 then 37 else 38))) else (bif Nat.ble k 11 then (bif Nat.ble k 9 then (bif Nat.ble k 8 then 40 else 43) else (bif Nat.ble k 10 then 48 else 53)) else (bif Nat.ble k 13 then (bif Nat.ble k 12 then 60 else 62) else 0))) else 0) else (bif Nat.ble c 1 then (bif Nat.ble k 1 then (bif Nat.ble k 0 then 3 else 0) else 0) else 0)) else (bif Nat.ble c 3 then (bif Nat.ble k 11 then (bif Nat.ble k 5 then (bif Nat.ble k 2 then (bif Nat.ble k 0 then 5 else (bif Nat.ble k 1 then 6 else 7)) else (bif Nat.ble k 3 then 8 else (bif Nat.ble k 4 then 9 else 10))) else (bif Nat.ble k 8 then (bif Nat.ble k 6 then 11 else 0) else 0)) else 0) else 0)) else (bif Nat.ble c 8 then 0 else (bif Nat.ble c 9 then 0 else (bif Nat.ble c 10 then 0 else (bif Nat.ble k 11 then (bif Nat.ble k 5 then (bif Nat.ble k 2 then (bif Nat.ble k 0 then 13 else (bif Nat.ble k 1 then 14 else 15)) else (bif Nat.ble k 3 then 16 else (bif Nat.ble k 4 then 17 else 18))) else (bif Nat.ble k 8 then (bif Nat.ble k 6 then 19 else 0) else 0)) else 0))))) else (bif Nat.ble c 17 then 0 else (bif Nat.ble c 20 then (bif Nat.ble c 18 then 0 else (bif Nat.ble c 19 then (bif Nat.ble k 8 then (bif Nat.ble k 3 then (bif Nat.ble k 1 then (bif Nat.ble k 0 then 3 else 12) else 0) else 0) else 0) else (bif Nat.ble k 9 then (bif Nat.ble k 4 then (bif Nat.ble k 1 then (bif Nat.ble k 0 then 22 else 23) else (bif Nat.ble k 2 then 24 else (bif Nat.ble k 3 then 25 else 26))) else (bif Nat.ble k 6 then (bif Nat.ble k 5 then 27 else 28) else 0)) else 0))) else 0))) else (bif Nat.ble c 37 then (bif Nat.ble c 30 then (bif Nat.ble c 27 then 0 else (bif Nat.ble c 28 then (bif Nat.ble k 9 then (bif Nat.ble k 4 then (bif Nat.ble k 1 then (bif Nat.ble k 0 then 30 else 31) else (bif Nat.ble k 2 then 32 else (bif Nat.ble k 3 then 33 else 34))) else (bif Nat.ble k 6 then (bif Nat.ble k 5 then 35 else 36) else 0)) else 0) else 0)) else (bif Nat.ble c 33 then 0 else (bif Nat.ble c 35 then 0 else (bif Nat.ble c 36 then (bif Nat.ble k 1 then (bif Nat.ble k 0 then 4 else 21) else 0) else (bif Nat.ble k 4 then (bif Nat.ble k 1 then (bif Nat.ble k 0 then 4 else 21) else (bif Nat.ble k 2 then 37 else (bif Nat.ble k 3 then 39 else 0))) else 0))))) else (bif Nat.ble c 43 then (bif Nat.ble c 40 then (bif Nat.ble c 38 then 0 else (bif Nat.ble c 39 then (bif Nat.ble k 4 then (bif Nat.ble k 1 then (bif Nat.ble k 0 then 4 else 21) else (bif Nat.ble k 2 then 37 else (bif Nat.ble k 3 then 41 else 42))) else 0) else 0)) else (bif Nat.ble c 41 then 0 else (bif Nat.ble c 42 then (bif Nat.ble k 6 then (bif Nat.ble k 2 then (bif Nat.ble k 0 then 4 else (bif Nat.ble k 1 then 37 else 44)) else (bif Nat.ble k 4 then (bif Nat.ble k 3 then 45 else 46) else (bif Nat.ble k 5 then 47 else 0))) else 0) else 0))) else (bif Nat.ble c 46 then 0 else (bif Nat.ble c 48 then (bif Nat.ble c 47 then (bif Nat.ble k 5 then (bif Nat.ble k 2 then (bif Nat.ble k 0 then 4 else (bif Nat.ble k 1 then 37 else 49)) else (bif Nat.ble k 3 then 50 else (bif Nat.ble k 4 then 51 else 52))) else 0) else 0) else 0))))) else (bif Nat.ble c 76 then (bif Nat.ble c 63 then (bif Nat.ble c 56 then (bif Nat.ble c 53 then (bif Nat.ble c 51 then 0 else (bif Nat.ble c 52 then (bif Nat.ble k 9 then (bif Nat.ble k 4 then (bif Nat.ble k 1 then (bif Nat.ble k 0 then 4 else 21) else (bif Nat.ble k 2 then 37 else (bif Nat.ble k 3 then 54 else 55))) else (bif Nat.ble k 6 then (bif Nat.ble k 5 then 56 else 57) else (bif Nat.ble k 7 then 58 else (bif Nat.ble k 8 then 59 else 0)))) else 0) else 0)) else 0) else (bif Nat.ble c 59 then (bif Nat.ble c 57 then 0 else (bif Nat.ble c 58 then 0 else (bif Nat.ble k 2 then (bif Nat.ble k 0 then 61 else 0) else 0))) else (bif Nat.ble c 61 then 0 else (bif Nat.ble c 62 then (bif Nat.ble k 68 then (bif Nat.ble k 33 then (bif Nat.ble k 16 then (bif Nat.ble k 7 then (bif Nat.ble k 3 then 0 else (bif Nat.ble k 5 then (bif Nat.ble k 4 then 0 else 64) else (bif Nat.ble k 6 then 65 else 66))) else (bif Nat.ble k 11 then (bif Nat.ble k 9 then (bif Nat.ble k 8 then 67 else 68) else (bif Nat.ble k 10 then 69 else 70)) else (bif Nat.ble k 13 then (bif Nat.ble k 12 then 71 else 0) else (bif Nat.ble k 14 then 0 else (bif Nat.ble k 15 then 0 else 72))))) else (bif Nat.ble k 24 then 0 else (bif Nat.ble k 28 then 0 else (bif Nat.ble k 30 then (bif Nat.ble k 29 then 73 else 74) else (bif Nat.ble k 31 then 75 else (bif Nat.ble k 32 then 76 else 77)))))) else (bif Nat.ble k 50 then (bif Nat.ble k 41 then (bif Nat.ble k 37 then (bif Nat.ble k 35 then (bif Nat.ble k 34 then 78 else 79) else (bif Nat.ble k 36 then 0 else 80)) else (bif Nat.ble k 39 then (bif Nat.ble k 38 then 81 else 82) else 0)) else (bif Nat.ble k 45 then (bif Nat.ble k 43 then (bif Nat.ble k 42 then 83 else 84) else (bif Nat.ble k 44 then 85 else 0)) else (bif Nat.ble k 47 then (bif Nat.ble k 46 then 86 else 87) else (bif Nat.ble k 48 then 88 else (bif Nat.ble k 49 then 89 else 90))))) else (bif Nat.ble k 59 then (bif Nat.ble k 54 then (bif Nat.ble k 52 then (bif Nat.ble k 51 then 91 else 0) else (bif Nat.ble k 53 then 92 else 93)) else (bif Nat.ble k 56 then (bif Nat.ble k 55 then 94 else 0) else (bif Nat.ble k 57 then 95 else (bif Nat.ble k 58 then 96 else 0)))) else (bif Nat.ble k 63 then (bif Nat.ble k 61 then (bif Nat.ble k 60 then 0 else 97) else 0) else (bif Nat.ble k 65 then (bif Nat.ble k 64 then 98 else 99) else (bif Nat.ble k 66 then 100 else (bif Nat.ble k 67 then 101 else 102))))))) else 0) else 0)))) else 0) else 0)) else 0
/-! BEHIND THE CONSTRUCTORS: THE LAYER OF INTEGERS -/
/-- a value: an int, a cell, a long -/
abbrev zV : Type := Int ⊕ (Nat ⊕ Int)
/-- the state: ints of the cells; a long of the cell c lies at c + 1000 -/
abbrev zS : Type := Nat → Nat → Int
def zir (z : Int) : Prop := -2147483648 ≤ z ∧ z < 2147483648
def zil (z : Int) : Prop := -9223372036854775808 ≤ z ∧ z < 9223372036854775808
def zvv : zV → Value
  | .inl z => .int (Int32.ofInt z)
  | .inr (.inl k) => .ref k
  | .inr (.inr x) => .long (Int64.ofInt x)
def zok : zV → Prop
  | .inl z => zir z
  | .inr (.inl _) => True
  | .inr (.inr x) => zil x
abbrev zR2 : Type := Option zV ⊕ String
def zvr : zR2 → zR
  | .inl o => .inl (o.map zvv)
  | .inr E => .inr E
def zokr : zR2 → Prop
  | .inl (some v) => zok v
  | _ => True
def zev (M : zM) (S : zS) : Prop := 103 ≤ M.1 ∧ M.2.1 = zLAY ∧ M.2.2.1 = zR0 ∧ (∀ c k, c < 1000 → zir (S c k) ∧ M.2.2.2.1 c k = Int32.ofInt (S c k)) ∧ ∀ c k, c < 1000 → zil (S (c + 1000) k) ∧ M.2.2.2.2 c k = Int64.ofInt (S (c + 1000) k)
def zQs (Q : zR2 → zS → Prop) : zR → zM → Prop := fun r M => ∃ r' S, zvr r' = r ∧ zokr r' ∧ zev M S ∧ Q r' S
def zmp (lo : List (Nat × zV)) : List (Nat × Value) := lo.map (fun q => (q.1, zvv q.2))
def zRs (l : Launch) (d mc ms : Nat) (y : MethodName) (cd : Cond) (a : List zV) (S : zS) (Q : zR2 → zS → Prop) : Prop := ∀ M, zev M S → (∀ v ∈ a, zok v) → zRet l d mc ms y cd (a.map zvv) M (zQs Q)
def zGs (l : Launch) (d mc ms : Nat) (f : zF) (S : zS) (pc : Nat) (lo : List (Nat × zV)) (st : List zV) (Q : zR2 → zS → Prop) : Prop := ∀ M, zev M S → (∀ q ∈ lo, zok q.2) → (∀ v ∈ st, zok v) → zGo l d mc ms f M pc (zmp lo) (st.map zvv) (zQs Q)
def zc2 : zV → Nat
  | .inr (.inr _) => 2
  | _ => 1
theorem zc2_ok (v : zV) : (zvv v).category = zc2 v := by
  rcases v with z | k | x <;> rfl
def zlkN : List (Nat × zV) → Nat → Option zV
  | [], _ => none
  | q :: r, i => bif q.1 == i then some q.2 else zlkN r i
def zinN : List (Nat × zV) → Nat → zV → List (Nat × zV)
  | [], i, v => [(i, v)]
  | q :: r, i, v => bif Nat.blt i q.1 then (i, v) :: q :: r else q :: zinN r i v
def zupN (lo : List (Nat × zV)) (i : Nat) (v : zV) : List (Nat × zV) := zinN (lo.filter (fun q => !(q.1 == i) && !(q.1 + 1 == i && zc2 q.2 == 2))) i v
def zupL (lo : List (Nat × zV)) (i : Nat) (v : zV) : List (Nat × zV) := zinN (lo.filter (fun q => !(q.1 == i) && (!(q.1 == i + 1) && !(q.1 + 1 == i && zc2 q.2 == 2)))) i v
theorem zlkN_ok {lo : List (Nat × zV)} {i : Nat} {v : zV} (h : zlkN lo i = some v) : zlk (zmp lo) i = some (zvv v) ∧ (i, v) ∈ lo := by
  induction lo with
  | nil => cases h
  | cons q r ih =>
    unfold zlkN at h
    show zlk ((q.1, zvv q.2) :: zmp r) i = _ ∧ _
    unfold zlk
    cases hq : (q.1 == i) with
    | true =>
      rw [hq] at h
      have e1 : q.1 = i := by simpa using hq
      have e2 : q.2 = v := Option.some.inj h
      refine ⟨by rw [← e2]; rfl, ?_⟩
      rw [← e1, ← e2]
      exact List.mem_cons_self
    | false =>
      rw [hq] at h
      obtain ⟨h1, h2⟩ := ih h
      refine ⟨h1, List.mem_cons_of_mem _ h2⟩
theorem zinN_ok (lo : List (Nat × zV)) (i : Nat) (v : zV) : zin (zmp lo) i (zvv v) = zmp (zinN lo i v) := by
  induction lo with
  | nil => rfl
  | cons q r ih =>
    show zin ((q.1, zvv q.2) :: zmp r) i (zvv v) = zmp (zinN (q :: r) i v)
    unfold zin zinN
    show (bif Nat.blt i q.1 then _ else _) = _
    cases Nat.blt i q.1 with
    | true => rfl
    | false =>
      show (q.1, zvv q.2) :: zin (zmp r) i (zvv v) = (q.1, zvv q.2) :: zmp (zinN r i v)
      rw [ih]
theorem zinN_mem {lo : List (Nat × zV)} {i : Nat} {v : zV} : ∀ q ∈ zinN lo i v, q = (i, v) ∨ q ∈ lo := by
  induction lo with
  | nil => intro q h; left; simpa [zinN] using h
  | cons a r ih =>
    intro q h
    unfold zinN at h
    cases hb : Nat.blt i a.1 with
    | true =>
      rw [hb] at h
      rcases List.mem_cons.mp h with h | h
      · exact Or.inl h
      · exact Or.inr h
    | false =>
      rw [hb] at h
      rcases List.mem_cons.mp h with h | h
      · exact Or.inr (by rw [h]; exact List.mem_cons_self)
      · rcases ih q h with h | h
        · exact Or.inl h
        · exact Or.inr (List.mem_cons_of_mem _ h)
theorem zupN_ok (lo : List (Nat × zV)) (i : Nat) (v : zV) : zup (zmp lo) i (zvv v) = zmp (zupN lo i v) := by
  unfold zup zupN
  rw [← zinN_ok]
  congr 1
  unfold zmp
  rw [List.filter_map]
  congr 2
  funext q
  show (!(q.1 == i) && !(q.1 + 1 == i && (zvv q.2).category == 2)) = _
  rw [zc2_ok]
theorem zupL_ok (lo : List (Nat × zV)) (i : Nat) (v : zV) : zup2 (zmp lo) i (zvv v) = zmp (zupL lo i v) := by
  unfold zup2 zupL
  rw [← zinN_ok]
  congr 1
  unfold zmp
  rw [List.filter_map]
  congr 2
  funext q
  show (!(q.1 == i) && (!(q.1 == i + 1) && !(q.1 + 1 == i && (zvv q.2).category == 2))) = _
  rw [zc2_ok]
theorem zupN_rng {lo : List (Nat × zV)} {i : Nat} {v : zV} (h : ∀ q ∈ lo, zok q.2) (hv : zok v) : ∀ q ∈ zupN lo i v, zok q.2 := by
  intro q hq
  rcases zinN_mem q hq with rfl | hq
  · exact hv
  · exact h q (List.mem_filter.mp hq).1
theorem zupL_rng {lo : List (Nat × zV)} {i : Nat} {v : zV} (h : ∀ q ∈ lo, zok q.2) (hv : zok v) : ∀ q ∈ zupL lo i v, zok q.2 := by
  intro q hq
  rcases zinN_mem q hq with rfl | hq
  · exact hv
  · exact h q (List.mem_filter.mp hq).1
/-- shapes of a stack's top -/
def u1i (st : List zV) (k : Int → List zV → Prop) : Prop := match st with
  | .inl x :: r => k x r
  | _ => False
def u1l (st : List zV) (k : Int → List zV → Prop) : Prop := match st with
  | .inr (.inr x) :: r => k x r
  | _ => False
def u1r (st : List zV) (k : Nat → List zV → Prop) : Prop := match st with
  | .inr (.inl x) :: r => k x r
  | _ => False
def u2i (st : List zV) (k : Int → Int → List zV → Prop) : Prop := match st with
  | .inl y :: .inl x :: r => k x y r
  | _ => False
def u2l (st : List zV) (k : Int → Int → List zV → Prop) : Prop := match st with
  | .inr (.inr y) :: .inr (.inr x) :: r => k x y r
  | _ => False
def uil (st : List zV) (k : Int → Int → List zV → Prop) : Prop := match st with
  | .inl y :: .inr (.inr x) :: r => k x y r
  | _ => False
def uir (st : List zV) (k : Nat → Int → List zV → Prop) : Prop := match st with
  | .inl y :: .inr (.inl x) :: r => k x y r
  | _ => False
def uiir (st : List zV) (k : Nat → Int → Int → List zV → Prop) : Prop := match st with
  | .inl z :: .inl y :: .inr (.inl x) :: r => k x y z r
  | _ => False
def ulir (st : List zV) (k : Nat → Int → Int → List zV → Prop) : Prop := match st with
  | .inr (.inr z) :: .inl y :: .inr (.inl x) :: r => k x y z r
  | _ => False
def ulr (st : List zV) (k : Nat → Int → List zV → Prop) : Prop := match st with
  | .inr (.inr z) :: .inr (.inl x) :: r => k x z r
  | _ => False
def u1d (st : List zV) (k : zV → List zV → Prop) : Prop := match st with
  | .inl x :: r => k (.inl x) r
  | .inr (.inl x) :: r => k (.inr (.inl x)) r
  | _ => False
theorem u1i_ok {st : List zV} {k : Int → List zV → Prop} (h : u1i st k) : ∃ x r, st = .inl x :: r ∧ k x r := by
  unfold u1i at h; split at h
  · exact ⟨_, _, rfl, h⟩
  · exact h.elim
theorem u1l_ok {st : List zV} {k : Int → List zV → Prop} (h : u1l st k) : ∃ x r, st = .inr (.inr x) :: r ∧ k x r := by
  unfold u1l at h; split at h
  · exact ⟨_, _, rfl, h⟩
  · exact h.elim
theorem u1r_ok {st : List zV} {k : Nat → List zV → Prop} (h : u1r st k) : ∃ x r, st = .inr (.inl x) :: r ∧ k x r := by
  unfold u1r at h; split at h
  · exact ⟨_, _, rfl, h⟩
  · exact h.elim
theorem u2i_ok {st : List zV} {k : Int → Int → List zV → Prop} (h : u2i st k) : ∃ x y r, st = .inl y :: .inl x :: r ∧ k x y r := by
  unfold u2i at h; split at h
  · exact ⟨_, _, _, rfl, h⟩
  · exact h.elim
theorem u2l_ok {st : List zV} {k : Int → Int → List zV → Prop} (h : u2l st k) : ∃ x y r, st = .inr (.inr y) :: .inr (.inr x) :: r ∧ k x y r := by
  unfold u2l at h; split at h
  · exact ⟨_, _, _, rfl, h⟩
  · exact h.elim
theorem uil_ok {st : List zV} {k : Int → Int → List zV → Prop} (h : uil st k) : ∃ x y r, st = .inl y :: .inr (.inr x) :: r ∧ k x y r := by
  unfold uil at h; split at h
  · exact ⟨_, _, _, rfl, h⟩
  · exact h.elim
theorem uir_ok {st : List zV} {k : Nat → Int → List zV → Prop} (h : uir st k) : ∃ x y r, st = .inl y :: .inr (.inl x) :: r ∧ k x y r := by
  unfold uir at h; split at h
  · exact ⟨_, _, _, rfl, h⟩
  · exact h.elim
theorem uiir_ok {st : List zV} {k : Nat → Int → Int → List zV → Prop} (h : uiir st k) : ∃ x y z r, st = .inl z :: .inl y :: .inr (.inl x) :: r ∧ k x y z r := by
  unfold uiir at h; split at h
  · exact ⟨_, _, _, _, rfl, h⟩
  · exact h.elim
theorem ulir_ok {st : List zV} {k : Nat → Int → Int → List zV → Prop} (h : ulir st k) : ∃ x y z r, st = .inr (.inr z) :: .inl y :: .inr (.inl x) :: r ∧ k x y z r := by
  unfold ulir at h; split at h
  · exact ⟨_, _, _, _, rfl, h⟩
  · exact h.elim
theorem ulr_ok {st : List zV} {k : Nat → Int → List zV → Prop} (h : ulr st k) : ∃ x z r, st = .inr (.inr z) :: .inr (.inl x) :: r ∧ k x z r := by
  unfold ulr at h; split at h
  · exact ⟨_, _, _, rfl, h⟩
  · exact h.elim
theorem u1d_ok {st : List zV} {k : zV → List zV → Prop} (h : u1d st k) : (∃ x r, st = .inl x :: r ∧ k (.inl x) r) ∨ ∃ x r, st = .inr (.inl x) :: r ∧ k (.inr (.inl x)) r := by
  unfold u1d at h; split at h
  · exact Or.inl ⟨_, _, rfl, h⟩
  · exact Or.inr ⟨_, _, rfl, h⟩
  · exact h.elim
/-- bits of ints -/
def zand (x y : Int) : Int := (Int32.ofInt x &&& Int32.ofInt y).toInt
def zor (x y : Int) : Int := (Int32.ofInt x ||| Int32.ofInt y).toInt
def zxor (x y : Int) : Int := (Int32.ofInt x ^^^ Int32.ofInt y).toInt
def zshl (x y : Int) : Int := (Int32.ofInt x <<< (Int32.ofInt y &&& 31)).toInt
def zshr (x y : Int) : Int := (Int32.ofInt x >>> (Int32.ofInt y &&& 31)).toInt
def zush (x y : Int) : Int := (zb2 8 (Int32.ofInt x) (Int32.ofInt y)).toInt
def zwr (x : Int) : Int := (Int32.ofInt x).toInt
def zi2b (x : Int) : Int := (Int32.ofInt x).toInt8.toInt32.toInt
def zlor (x y : Int) : Int := (Int64.ofInt x ||| Int64.ofInt y).toInt
def zlsl (x y : Int) : Int := (Int64.ofInt x <<< ((Int32.ofInt y).toInt64 &&& 63)).toInt
def zsw (x : Int) (K : Nat → Prop) (b : Nat) : Nat → List Nat → Prop
  | j, [] => (x < 0 ∨ (j : Int) ≤ x) → K b
  | j, t :: r => (x = (j : Int) → K t) ∧ zsw x K b (j + 1) r
/-- numbers as they are written -/
def zlitL : List (Nat × Nat) → Nat → (Nat → Prop) → Prop
  | [], _, _ => False
  | (m, q) :: r, n, f => bif Nat.beq m n then f q else zlitL r n f
def zlA : List (Nat × Nat) := [(1, 0), (2, 1), (3, 2), (4, 3), (5, 4), (6, 5), (7, 6), (8, 7), (9, 8), (10, 9), (11, 10), (12, 11), (13, 12), (14, 13), (15, 14), (16, 15), (17, 16), (18, 17), (19, 18), (20, 19), (21, 20), (22, 21), (23, 22), (24, 23), (25, 24)]
def zlB : List (Nat × Nat) := [(26, 25), (27, 26), (28, 27), (29, 28), (30, 29), (31, 30), (32, 31), (33, 32), (34, 33), (35, 34), (36, 35), (37, 36), (38, 37), (39, 38), (40, 39), (41, 40), (42, 41), (43, 42), (44, 43), (45, 44), (46, 45), (47, 46), (48, 47), (49, 48), (50, 49)]
def zlC : List (Nat × Nat) := [(51, 50), (52, 51), (53, 52), (54, 53), (55, 54), (56, 55), (57, 56), (58, 57), (59, 58), (60, 59), (61, 60), (62, 61), (63, 62), (64, 63), (65, 64), (66, 65), (67, 66), (68, 67), (69, 68), (70, 69), (71, 70), (72, 71), (73, 72), (74, 73), (75, 74)]
def zlD : List (Nat × Nat) := [(76, 75), (77, 76), (78, 77), (79, 78), (80, 79), (81, 80), (82, 81), (83, 82), (84, 83), (85, 84), (86, 85), (87, 86), (88, 87), (89, 88), (90, 89), (91, 90), (92, 91), (93, 92), (94, 93), (95, 94), (96, 95), (97, 96), (98, 97), (99, 98), (100, 99), (101, 100), (102, 101), (103, 102)]
def zlit (n : Nat) (f : Nat → Prop) : Prop := bif Nat.ble n 50 then (bif Nat.ble n 25 then zlitL zlA n f else zlitL zlB n f) else (bif Nat.ble n 75 then zlitL zlC n f else zlitL zlD n f)
theorem zlitL_ok {ps : List (Nat × Nat)} {n : Nat} {f : Nat → Prop} (hp : ps.all (fun a => Nat.beq a.1 (a.2 + 1)) = true) (h : zlitL ps n f) : ∃ q, n = q + 1 ∧ f q := by
  induction ps with
  | nil => exact h.elim
  | cons a r ih =>
    obtain ⟨m, p⟩ := a
    unfold zlitL at h
    rw [List.all_cons, Bool.and_eq_true] at hp
    cases hq : Nat.beq m n with
    | true =>
      rw [hq] at h
      exact ⟨p, (Nat.eq_of_beq_eq_true hq).symm.trans (Nat.eq_of_beq_eq_true hp.1), h⟩
    | false => rw [hq] at h; exact ih hp.2 h
theorem zlit_ok {n : Nat} {f : Nat → Prop} (h : zlit n f) : ∃ q, n = q + 1 ∧ f q := by
  unfold zlit at h
  cases h1 : Nat.ble n 50 with
  | true =>
    rw [h1] at h
    cases h2 : Nat.ble n 25 with
    | true => rw [h2] at h; exact zlitL_ok (ps := zlA) (by decide +kernel) h
    | false => rw [h2] at h; exact zlitL_ok (ps := zlB) (by decide +kernel) h
  | false =>
    rw [h1] at h
    cases h2 : Nat.ble n 75 with
    | true => rw [h2] at h; exact zlitL_ok (ps := zlC) (by decide +kernel) h
    | false => rw [h2] at h; exact zlitL_ok (ps := zlD) (by decide +kernel) h
abbrev zI2 : Type := Nat × Nat × Nat × Int × Nat × List Nat
/-- what an instruction does -/
def zst3 (f : zF) (e : zI2) (mc ms : Nat) (S : zS) (lo : List (Nat × zV)) (st : List zV) (K : Nat → Nat → zS → Nat → List (Nat × zV) → List zV → Prop) (Q : zR2 → zS → Prop) : Prop := match e with
  | (0, _, _, x, nx, _) => K mc ms S nx lo (.inl x :: st)
  | (1, a, _, _, nx, _) => zif (Nat.ble a 1000000) (K mc ms S nx lo (.inr (.inr (a : Int)) :: st))
  | (2, a, _, _, nx, _) => match zlkN lo a with
    | some (.inl x) => K mc ms S nx lo (.inl x :: st)
    | _ => False
  | (3, a, _, _, nx, _) => match zlkN lo a with
    | some (.inr (.inr x)) => K mc ms S nx lo (.inr (.inr x) :: st)
    | _ => False
  | (4, a, _, _, nx, _) => match zlkN lo a with
    | some (.inr (.inl x)) => K mc ms S nx lo (.inr (.inl x) :: st)
    | _ => False
  | (5, a, _, _, nx, _) => u1i st (fun x r => zif (Nat.blt a f.2.2.2.1) (K mc ms S nx (zupN lo a (.inl x)) r))
  | (6, a, _, _, nx, _) => u1l st (fun x r => zif (Nat.blt (a + 1) f.2.2.2.1) (K mc ms S nx (zupL lo a (.inr (.inr x))) r))
  | (7, a, _, _, nx, _) => u1r st (fun x r => zif (Nat.blt a f.2.2.2.1) (K mc ms S nx (zupN lo a (.inr (.inl x))) r))
  | (8, a, _, x, nx, _) => match zlkN lo a with
    | some (.inl y) => zif (Nat.blt a f.2.2.2.1) ((-2147483648 ≤ y + x ∧ y + x < 2147483648) ∧ K mc ms S nx (zupN lo a (.inl (y + x))) st)
    | _ => False
  | (9, 0, 0, _, nx, _) => u2i st (fun x y r => (-2147483648 ≤ x + y ∧ x + y < 2147483648) ∧ K mc ms S nx lo (.inl (x + y) :: r))
  | (9, 0, 1, _, nx, _) => u2i st (fun x y r => K mc ms S nx lo (.inl (zwr (x + y)) :: r))
  | (9, 1, _, _, nx, _) => u2i st (fun x y r => (-2147483648 ≤ x - y ∧ x - y < 2147483648) ∧ K mc ms S nx lo (.inl (x - y) :: r))
  | (9, 2, 0, _, nx, _) => u2i st (fun x y r => (-2147483648 ≤ x * y ∧ x * y < 2147483648) ∧ K mc ms S nx lo (.inl (x * y) :: r))
  | (9, 2, 1, _, nx, _) => u2i st (fun x y r => K mc ms S nx lo (.inl (zwr (x * y)) :: r))
  | (9, 3, _, _, nx, _) => u2i st (fun x y r => K mc ms S nx lo (.inl (zand x y) :: r))
  | (9, 4, _, _, nx, _) => u2i st (fun x y r => K mc ms S nx lo (.inl (zor x y) :: r))
  | (9, 5, _, _, nx, _) => u2i st (fun x y r => K mc ms S nx lo (.inl (zxor x y) :: r))
  | (9, 6, _, _, nx, _) => u2i st (fun x y r => K mc ms S nx lo (.inl (zshl x y) :: r))
  | (9, 7, _, _, nx, _) => u2i st (fun x y r => K mc ms S nx lo (.inl (zshr x y) :: r))
  | (9, 8, _, _, nx, _) => u2i st (fun x y r => K mc ms S nx lo (.inl (zush x y) :: r))
  | (9, 9, _, _, nx, _) => u2i st (fun x y r => (0 ≤ x ∧ 0 < y) ∧ K mc ms S nx lo (.inl (x / y) :: r))
  | (9, 10, _, _, nx, _) => u2i st (fun x y r => (0 ≤ x ∧ 0 < y) ∧ K mc ms S nx lo (.inl (x % y) :: r))
  | (10, 0, _, _, nx, _) => u1i st (fun x r => K mc ms S nx lo (.inr (.inr x) :: r))
  | (10, 1, _, _, nx, _) => u1i st (fun x r => K mc ms S nx lo (.inl (zi2b x) :: r))
  | (11, 0, _, _, nx, _) => u2l st (fun x y r => K mc ms S nx lo (.inr (.inr (zlor x y)) :: r))
  | (11, 1, _, _, nx, _) => u2l st (fun x y r => (-9223372036854775808 ≤ x - y ∧ x - y < 9223372036854775808) ∧ K mc ms S nx lo (.inr (.inr (x - y)) :: r))
  | (11, 2, _, _, nx, _) => u2l st (fun x y r => (x < y → K mc ms S nx lo (.inl (-1) :: r)) ∧ (x = y → K mc ms S nx lo (.inl 0 :: r)) ∧ (y < x → K mc ms S nx lo (.inl 1 :: r)))
  | (11, 3, _, _, nx, _) => uil st (fun x y r => K mc ms S nx lo (.inr (.inr (zlsl x y)) :: r))
  | (12, _, _, _, nx, _) => u1d st (fun v r => K mc ms S nx lo (v :: v :: r))
  | (13, _, _, _, nx, _) => uir st (fun x y r => K mc ms S nx lo (.inl y :: .inr (.inl x) :: .inl y :: .inr (.inl x) :: r))
  | (14, _, _, _, nx, _) => u1i st (fun _ r => K mc ms S nx lo r)
  | (15, _, _, _, nx, _) => K mc ms S nx lo st
  | (16, 0, b, _, nx, _) => u2i st (fun x y r => (x = y → K mc ms S b lo r) ∧ (¬ x = y → K mc ms S nx lo r))
  | (16, 1, b, _, nx, _) => u2i st (fun x y r => (x < y → K mc ms S b lo r) ∧ (¬ x < y → K mc ms S nx lo r))
  | (16, 2, b, _, nx, _) => u2i st (fun x y r => (y < x → K mc ms S b lo r) ∧ (¬ y < x → K mc ms S nx lo r))
  | (17, 0, b, _, nx, _) => u1i st (fun x r => (x = 0 → K mc ms S b lo r) ∧ (¬ x = 0 → K mc ms S nx lo r))
  | (17, 1, b, _, nx, _) => u1i st (fun x r => (x < 0 → K mc ms S b lo r) ∧ (¬ x < 0 → K mc ms S nx lo r))
  | (17, 2, b, _, nx, _) => u1i st (fun x r => (0 < x → K mc ms S b lo r) ∧ (¬ 0 < x → K mc ms S nx lo r))
  | (18, a, b, _, nx, _) => u1r st (fun c r => zif ((zLAY c).1 == 0 && (zLAY c).2 == a && Nat.blt c 1000) (match tyT a b with
    | .long => K mc ms S nx lo (.inr (.inr (S (c + 1000) b)) :: r)
    | .object _ => zlit (zR0 c b) (fun q => K mc ms S nx lo (.inr (.inl q) :: r))
    | .array _ => zlit (zR0 c b) (fun q => K mc ms S nx lo (.inr (.inl q) :: r))
    | _ => K mc ms S nx lo (.inl (S c b) :: r)))
  | (19, a, b, _, nx, _) => match tyT a b with
    | .int => uir st (fun c x r => zif ((zLAY c).1 == 0 && (zLAY c).2 == a && (Nat.blt c 1000 && !zfin a b)) (K mc ms (zu S c b x) nx lo r))
    | .boolean => uir st (fun c x r => zif ((zLAY c).1 == 0 && (zLAY c).2 == a && (Nat.blt c 1000 && !zfin a b)) ((x = 0 ∨ x = 1) ∧ K mc ms (zu S c b x) nx lo r))
    | .long => ulr st (fun c x r => zif ((zLAY c).1 == 0 && (zLAY c).2 == a && (Nat.blt c 1000 && !zfin a b)) (K mc ms (zu S (c + 1000) b x) nx lo r))
    | _ => False
  | (20, _, _, _, nx, _) => uir st (fun c i r => match zLAY c with
    | (1, n) => zif (Nat.blt c 1000) (∃ k : Nat, (i = (k : Int) ∧ k < n) ∧ K mc ms S nx lo (.inl (S c k) :: r))
    | _ => False)
  | (21, _, _, _, nx, _) => uiir st (fun c i x r => match zLAY c with
    | (1, n) => zif (Nat.blt c 1000) (∃ k : Nat, (i = (k : Int) ∧ k < n) ∧ K mc ms (zu S c k x) nx lo r)
    | _ => False)
  | (22, _, _, _, nx, _) => uir st (fun c i r => match zLAY c with
    | (2, n) => zif (Nat.blt c 1000) (∃ k : Nat, (i = (k : Int) ∧ k < n) ∧ K mc ms S nx lo (.inl (S c k) :: r))
    | _ => False)
  | (23, _, _, _, nx, _) => uiir st (fun c i x r => match zLAY c with
    | (2, n) => zif (Nat.blt c 1000) (∃ k : Nat, (i = (k : Int) ∧ k < n) ∧ K mc ms (zu S c k (zi2b x)) nx lo r)
    | _ => False)
  | (24, _, _, _, nx, _) => uir st (fun c i r => match zLAY c with
    | (3, n) => zif (Nat.blt c 1000) (∃ k : Nat, (i = (k : Int) ∧ k < n) ∧ K mc ms S nx lo (.inr (.inr (S (c + 1000) k)) :: r))
    | _ => False)
  | (25, _, _, _, nx, _) => ulir st (fun c i x r => match zLAY c with
    | (3, n) => zif (Nat.blt c 1000) (∃ k : Nat, (i = (k : Int) ∧ k < n) ∧ K mc ms (zu S (c + 1000) k x) nx lo r)
    | _ => False)
  | (26, _, _, _, nx, _) => u1r st (fun c r => match zLAY c with
    | (1, n) => zif (Nat.ble n 1000000) (K mc ms S nx lo (.inl (n : Int) :: r))
    | (2, n) => zif (Nat.ble n 1000000) (K mc ms S nx lo (.inl (n : Int) :: r))
    | _ => False)
  | (27, _, _, _, _, _) => u1i st (fun x r => match r with
    | [] => match f.2.2.1 with
      | some .int => Q (.inl (some (.inl x))) S
      | some .boolean => (x = 0 ∨ x = 1) ∧ Q (.inl (some (.inl x))) S
      | _ => False
    | _ => False)
  | (28, _, _, _, _, _) => u1l st (fun x r => match r with
    | [] => match f.2.2.1 with
      | some .long => Q (.inl (some (.inr (.inr x)))) S
      | _ => False
    | _ => False)
  | (29, _, _, _, _, _) => match st with
    | [] => match f.2.2.1 with
      | none => Q (.inl none) S
      | _ => False
    | _ => False
  | (32, _, b, _, _, ts) => u1i st (fun x r => zif (Nat.ble ts.length 1000000) (zsw x (fun pc => K mc ms S pc lo r) b 0 ts))
  | _ => False
def zdn (e : zI2) : zI := match e with
  | (9, a, _, x, nx, ts) => (9, a, 0, Int32.ofInt x, nx, ts)
  | (op, a, b, x, nx, ts) => (op, a, b, Int32.ofInt x, nx, ts)
theorem zto {x : Int} (h : zir x) : (Int32.ofInt x).toInt = x := Int32.toInt_ofInt_of_le (by have := h.1; omega) (by have := h.2; omega)
theorem ztl {x : Int} (h : zil x) : (Int64.ofInt x).toInt = x := Int64.toInt_ofInt_of_le (by have := h.1; omega) (by have := h.2; omega)
theorem zir_to (x : Int32) : zir x.toInt := ⟨by have := x.le_toInt; omega, by have := x.toInt_lt; omega⟩
theorem zil_to (x : Int64) : zil x.toInt := ⟨by have := x.le_toInt; omega, by have := x.toInt_lt; omega⟩
theorem zof_lt {x y : Int} (hx : zir x) (hy : zir y) : Int32.ofInt x < Int32.ofInt y ↔ x < y := by rw [Int32.lt_iff_toInt_lt, zto hx, zto hy]
theorem zof_eq {x y : Int} (hx : zir x) (hy : zir y) : Int32.ofInt x = Int32.ofInt y ↔ x = y := by rw [← Int32.toInt_inj, zto hx, zto hy]
theorem zof_0 : Int32.ofInt 0 = 0 := rfl
theorem zir_0 : zir 0 := ⟨by omega, by omega⟩
theorem zof_nat (k : Nat) : Int32.ofInt (k : Int) = nI k := Int32.ofInt_eq_ofNat
theorem zof_in {k n : Nat} (h : k < n) (hn : n < 2 ^ 31) : vp_in (Int32.ofInt (k : Int)) n ∧ (Int32.ofInt (k : Int)).toNatClampNeg = k := by
  rw [zof_nat]
  exact ⟨nI_in h hn, nI_clamp (by omega)⟩
theorem zof_in2 {k n : Nat} (h : k < n) (hk : (k : Int) < 2147483648) : vp_in (Int32.ofInt (k : Int)) n ∧ (Int32.ofInt (k : Int)).toNatClampNeg = k := by
  rw [zof_nat]
  have hk2 : k < 2 ^ 31 := by omega
  refine ⟨?_, nI_clamp hk2⟩
  intro z
  rcases z with z | z
  · exact nI_pos hk2 z
  · rw [nI_clamp hk2] at z; omega
theorem zof_div {x y : Int} (hx : zir x) (hy : zir y) (h0 : 0 ≤ x) (h1 : 0 < y) : Int32.ofInt x / Int32.ofInt y = Int32.ofInt (x / y) ∧ zir (x / y) := by
  obtain ⟨a, rfl⟩ := Int.eq_ofNat_of_zero_le h0
  obtain ⟨b, rfl⟩ := Int.eq_ofNat_of_zero_le (Int.le_of_lt h1)
  have ha : a < 2 ^ 31 := by have := hx.2; omega
  have hb : b < 2 ^ 31 := by have := hy.2; omega
  have hq : a / b ≤ a := Nat.div_le_self a b
  refine ⟨?_, ?_⟩
  · show _ = Int32.ofInt (((a / b : Nat)) : Int)
    rw [Int32.ofInt_eq_ofNat, Int32.ofInt_eq_ofNat, Int32.ofInt_eq_ofNat, Int32.ofNat_div ha hb]
  · show zir (((a / b : Nat)) : Int)
    generalize a / b = q at hq
    exact ⟨by omega, by omega⟩
theorem zof_mod {x y : Int} (hx : zir x) (hy : zir y) (h0 : 0 ≤ x) (h1 : 0 < y) : Int32.ofInt x - Int32.ofInt x / Int32.ofInt y * Int32.ofInt y = Int32.ofInt (x % y) ∧ zir (x % y) := by
  refine ⟨?_, ?_⟩
  · rw [(zof_div hx hy h0 h1).1, ← Int32.ofInt_mul, ← Int32.ofInt_sub]
    congr 1
    have := Int.mul_ediv_add_emod x y
    have e : x / y * y = y * (x / y) := Int.mul_comm _ _
    omega
  · have h2 := Int.emod_nonneg x (by omega : y ≠ 0)
    have h3 := Int.emod_lt_of_pos x h1
    exact ⟨by omega, by have := hy.2; omega⟩
theorem zev_I {M : zM} {S : zS} (h : zev M S) {c k : Nat} {x : Int} (hc : c < 1000) (hx : zir x) : zev (zsI M c k (Int32.ofInt x)) (zu S c k x) := by
  obtain ⟨h1, h2, h3, h4, h5⟩ := h
  refine ⟨h1, h2, h3, fun c' k' hc' => ?_, fun c' k' hc' => ?_⟩
  · show zir (bif c' == c && k' == k then x else S c' k') ∧ (bif c' == c && k' == k then Int32.ofInt x else M.2.2.2.1 c' k') = Int32.ofInt (bif c' == c && k' == k then x else S c' k')
    cases (c' == c && k' == k)
    · exact h4 c' k' hc'
    · exact ⟨hx, rfl⟩
  · show zil (bif c' + 1000 == c && k' == k then x else S (c' + 1000) k') ∧ M.2.2.2.2 c' k' = Int64.ofInt (bif c' + 1000 == c && k' == k then x else S (c' + 1000) k')
    rw [show (c' + 1000 == c) = false by simp; omega]
    exact h5 c' k' hc'
theorem zev_J {M : zM} {S : zS} (h : zev M S) {c k : Nat} {x : Int} (hc : c < 1000) (hx : zil x) : zev (zsJ M c k (Int64.ofInt x)) (zu S (c + 1000) k x) := by
  obtain ⟨h1, h2, h3, h4, h5⟩ := h
  refine ⟨h1, h2, h3, fun c' k' hc' => ?_, fun c' k' hc' => ?_⟩
  · show zir (bif c' == c + 1000 && k' == k then x else S c' k') ∧ M.2.2.2.1 c' k' = Int32.ofInt (bif c' == c + 1000 && k' == k then x else S c' k')
    rw [show (c' == c + 1000) = false by simp; omega]
    exact h4 c' k' hc'
  · show zil (bif c' + 1000 == c + 1000 && k' == k then x else S (c' + 1000) k') ∧ (bif c' == c && k' == k then Int64.ofInt x else M.2.2.2.2 c' k') = Int64.ofInt (bif c' + 1000 == c + 1000 && k' == k then x else S (c' + 1000) k')
    rw [show (c' + 1000 == c + 1000) = (c' == c) by simp]
    cases (c' == c && k' == k)
    · exact h5 c' k' hc'
    · exact ⟨hx, rfl⟩
theorem zall2 {v : zV} {st : List zV} (h : ∀ w ∈ v :: st, zok w) : zok v ∧ ∀ w ∈ st, zok w := List.forall_mem_cons.mp h
theorem zall1 {v : zV} {st : List zV} (h1 : zok v) (h : ∀ w ∈ st, zok w) : ∀ w ∈ v :: st, zok w := List.forall_mem_cons.mpr ⟨h1, h⟩
theorem zsw_ok {x : Int} {K : Nat → Prop} {b : Nat} : ∀ {ts : List Nat} {j : Nat}, zsw x K b j ts → (∀ k : Nat, k < ts.length → x = ((j + k : Nat) : Int) → K (zpick ts k b)) ∧ ((x < 0 ∨ ((j + ts.length : Nat) : Int) ≤ x) → K b) := by
  intro ts
  induction ts with
  | nil => intro j h; exact ⟨fun k hk => absurd hk (Nat.not_lt_zero k), h⟩
  | cons t r ih =>
    intro j h
    obtain ⟨h1, h2⟩ := ih h.2
    refine ⟨fun k hk hx => ?_, fun hx => h2 (by rw [List.length_cons] at hx; omega)⟩
    cases k with
    | zero => exact h.1 hx
    | succ k => exact h1 k (Nat.lt_of_succ_lt_succ hk) (by omega)
section
variable {l : Launch} {d mc ms : Nat} {f : zF} {S : zS} {lo : List (Nat × zV)} {st : List zV} {Q : zR2 → zS → Prop} {e : zI2} {K : Nat → Nat → zS → Nat → List (Nat × zV) → List zV → Prop}
set_option maxHeartbeats 4000000 in
theorem zst3_ok (hx : zir e.2.2.2.1) (h : zst3 f e mc ms S lo st K Q) (hK : ∀ mc ms S pc lo st, K mc ms S pc lo st → zGs l d mc ms f S pc lo st Q) {M : zM} (hM : zev M S) (hlo : ∀ q ∈ lo, zok q.2) (hst : ∀ v ∈ st, zok v) :
    zst d f (zdn e) mc ms M (zmp lo) (st.map zvv) (fun mc ms M pc lo st => zGo l d mc ms f M pc lo st (zQs Q)) (zQs Q) := by
  obtain ⟨m1, m2, m3, m4, m5⟩ := id hM
  have bit : ∀ {pc : Nat} {z : Int32} {r : List zV}, K mc ms S pc lo (.inl z.toInt :: r) → (∀ v ∈ r, zok v) → zGo l d mc ms f M pc (zmp lo) (.int z :: r.map zvv) (zQs Q) := by
    intro pc z r h hr
    have := hK _ _ _ _ _ _ h M hM hlo (zall1 (zir_to z) hr)
    have e : ((Sum.inl z.toInt :: r : List zV).map zvv) = .int z :: r.map zvv := by
      show Value.int (Int32.ofInt z.toInt) :: _ = _
      rw [Int32.ofInt_toInt]
    rw [e] at this
    exact this
  have bitl : ∀ {pc : Nat} {z : Int64} {r : List zV}, K mc ms S pc lo (.inr (.inr z.toInt) :: r) → (∀ v ∈ r, zok v) → zGo l d mc ms f M pc (zmp lo) (.long z :: r.map zvv) (zQs Q) := by
    intro pc z r h hr
    have := hK _ _ _ _ _ _ h M hM hlo (zall1 (zil_to z) hr)
    have e : ((Sum.inr (Sum.inr z.toInt) :: r : List zV).map zvv) = .long z :: r.map zvv := by
      show Value.long (Int64.ofInt z.toInt) :: _ = _
      rw [Int64.ofInt_toInt]
    rw [e] at this
    exact this
  have ari : ∀ {pc : Nat} {z : Int32} {w : Int} {r : List zV}, K mc ms S pc lo (.inl w :: r) → Int32.ofInt w = z → zir w → (∀ v ∈ r, zok v) → zGo l d mc ms f M pc (zmp lo) (.int z :: r.map zvv) (zQs Q) := by
    intro pc z w r h hz hw hr
    subst hz
    exact hK _ _ _ _ _ _ h M hM hlo (zall1 hw hr)
  unfold zst3 at h
  split at h
  case h_1 => exact hK _ _ _ _ _ _ h M hM hlo (zall1 hx hst)
  case h_2 a b x nx ts =>
    replace h := zif_ok h; obtain ⟨h1, h⟩ := h
    have h1 := Nat.ble_eq.mp h1
    have := hK _ _ _ _ _ _ h M hM hlo (zall1 (v := .inr (.inr (a : Int))) ⟨by omega, by omega⟩ hst)
    have e : ((Sum.inr (Sum.inr (a : Int)) :: st : List zV).map zvv) = .long (Int64.ofNat a) :: st.map zvv := by
      show Value.long (Int64.ofInt (a : Int)) :: _ = _
      rw [Int64.ofInt_eq_ofNat]
    rw [e] at this
    exact this
  case h_3 a _ _ nx _ =>
    split at h
    · rename_i x hl
      obtain ⟨h1, h2⟩ := zlkN_ok hl
      show (match zlk (zmp lo) a with | some (.int x) => _ | _ => False)
      rw [h1]
      exact hK _ _ _ _ _ _ h M hM hlo (zall1 (hlo _ h2) hst)
    · exact h.elim
  case h_4 a _ _ nx _ =>
    split at h
    · rename_i x hl
      obtain ⟨h1, h2⟩ := zlkN_ok hl
      show (match zlk (zmp lo) a with | some (.long x) => _ | _ => False)
      rw [h1]
      exact hK _ _ _ _ _ _ h M hM hlo (zall1 (hlo _ h2) hst)
    · exact h.elim
  case h_5 a _ _ nx _ =>
    split at h
    · rename_i x hl
      obtain ⟨h1, h2⟩ := zlkN_ok hl
      show (match zlk (zmp lo) a with | some (.ref x) => _ | _ => False)
      rw [h1]
      exact hK _ _ _ _ _ _ h M hM hlo (zall1 (hlo _ h2) hst)
    · exact h.elim
  case h_6 a _ _ nx _ =>
    replace h := u1i_ok h; obtain ⟨x, r, rfl, h⟩ := h
    replace h := zif_ok h; obtain ⟨h1, h⟩ := h
    obtain ⟨s1, s2⟩ := zall2 hst
    show zif (Nat.blt a f.2.2.2.1) (zGo l d mc ms f M nx (zup (zmp lo) a (zvv (.inl x))) (r.map zvv) (zQs Q))
    rw [h1, zupN_ok]
    exact hK _ _ _ _ _ _ h M hM (zupN_rng hlo s1) s2
  case h_7 a _ _ nx _ =>
    replace h := u1l_ok h; obtain ⟨x, r, rfl, h⟩ := h
    replace h := zif_ok h; obtain ⟨h1, h⟩ := h
    obtain ⟨s1, s2⟩ := zall2 hst
    show zif (Nat.blt (a + 1) f.2.2.2.1) (zGo l d mc ms f M nx (zup2 (zmp lo) a (zvv (.inr (.inr x)))) (r.map zvv) (zQs Q))
    rw [h1, zupL_ok]
    exact hK _ _ _ _ _ _ h M hM (zupL_rng hlo s1) s2
  case h_8 a _ _ nx _ =>
    replace h := u1r_ok h; obtain ⟨x, r, rfl, h⟩ := h
    replace h := zif_ok h; obtain ⟨h1, h⟩ := h
    obtain ⟨s1, s2⟩ := zall2 hst
    show zif (Nat.blt a f.2.2.2.1) (zGo l d mc ms f M nx (zup (zmp lo) a (zvv (.inr (.inl x)))) (r.map zvv) (zQs Q))
    rw [h1, zupN_ok]
    exact hK _ _ _ _ _ _ h M hM (zupN_rng hlo s1) s2
  case h_9 a _ x nx _ =>
    split at h
    · rename_i y hl
      obtain ⟨h1, h2⟩ := zlkN_ok hl
      replace h := zif_ok h; obtain ⟨h3, h4, h⟩ := h
      show (match zlk (zmp lo) a with | some (.int y) => zif (Nat.blt a f.2.2.2.1) (zGo l d mc ms f M nx (zup (zmp lo) a (.int (y + Int32.ofInt x))) (st.map zvv) (zQs Q)) | _ => False)
      rw [h1]
      show zif (Nat.blt a f.2.2.2.1) (zGo l d mc ms f M nx (zup (zmp lo) a (.int (Int32.ofInt y + Int32.ofInt x))) (st.map zvv) (zQs Q))
      rw [h3, ← Int32.ofInt_add]
      show zGo l d mc ms f M nx (zup (zmp lo) a (zvv (.inl (y + x)))) (st.map zvv) (zQs Q)
      rw [zupN_ok]
      exact hK _ _ _ _ _ _ h M hM (zupN_rng hlo h4) hst
    · exact h.elim
  case h_10 => replace h := u2i_ok h; obtain ⟨x, y, r, rfl, h1, h⟩ := h; exact ari h (Int32.ofInt_add x y) h1 (zall2 (zall2 hst).2).2
  case h_11 => replace h := u2i_ok h; obtain ⟨x, y, r, rfl, h⟩ := h; exact ari h (by unfold zwr; rw [Int32.ofInt_toInt]; exact Int32.ofInt_add x y) (zir_to _) (zall2 (zall2 hst).2).2
  case h_12 => replace h := u2i_ok h; obtain ⟨x, y, r, rfl, h1, h⟩ := h; exact ari h (Int32.ofInt_sub x y) h1 (zall2 (zall2 hst).2).2
  case h_13 => replace h := u2i_ok h; obtain ⟨x, y, r, rfl, h1, h⟩ := h; exact ari h (Int32.ofInt_mul x y) h1 (zall2 (zall2 hst).2).2
  case h_14 => replace h := u2i_ok h; obtain ⟨x, y, r, rfl, h⟩ := h; exact ari h (by unfold zwr; rw [Int32.ofInt_toInt]; exact Int32.ofInt_mul x y) (zir_to _) (zall2 (zall2 hst).2).2
  case h_15 => replace h := u2i_ok h; obtain ⟨x, y, r, rfl, h⟩ := h; exact bit h (zall2 (zall2 hst).2).2
  case h_16 => replace h := u2i_ok h; obtain ⟨x, y, r, rfl, h⟩ := h; exact bit h (zall2 (zall2 hst).2).2
  case h_17 => replace h := u2i_ok h; obtain ⟨x, y, r, rfl, h⟩ := h; exact bit h (zall2 (zall2 hst).2).2
  case h_18 => replace h := u2i_ok h; obtain ⟨x, y, r, rfl, h⟩ := h; exact bit h (zall2 (zall2 hst).2).2
  case h_19 => replace h := u2i_ok h; obtain ⟨x, y, r, rfl, h⟩ := h; exact bit h (zall2 (zall2 hst).2).2
  case h_20 => replace h := u2i_ok h; obtain ⟨x, y, r, rfl, h⟩ := h; exact bit h (zall2 (zall2 hst).2).2
  case h_21 =>
    replace h := u2i_ok h; obtain ⟨x, y, r, rfl, h1, h⟩ := h
    have sy := (zall2 hst).1
    have sx := (zall2 (zall2 hst).2).1
    obtain ⟨e1, e2⟩ := zof_div sx sy h1.1 h1.2
    refine ⟨fun z => ?_, ari h e1.symm e2 (zall2 (zall2 hst).2).2⟩
    exact absurd ((zof_eq sy zir_0).mp z) (by omega)
  case h_22 =>
    replace h := u2i_ok h; obtain ⟨x, y, r, rfl, h1, h⟩ := h
    have sy := (zall2 hst).1
    have sx := (zall2 (zall2 hst).2).1
    obtain ⟨e1, e2⟩ := zof_mod sx sy h1.1 h1.2
    refine ⟨fun z => ?_, ari h e1.symm e2 (zall2 (zall2 hst).2).2⟩
    exact absurd ((zof_eq sy zir_0).mp z) (by omega)
  case h_23 =>
    replace h := u1i_ok h; obtain ⟨x, r, rfl, h⟩ := h
    obtain ⟨s1, s2⟩ := zall2 hst
    have s1 : zir x := s1
    have := hK _ _ _ _ _ _ h M hM hlo (zall1 (v := .inr (.inr x)) ⟨by have := s1.1; omega, by have := s1.2; omega⟩ s2)
    have e : ((Sum.inr (Sum.inr x) :: r : List zV).map zvv) = .long (Int32.ofInt x).toInt64 :: r.map zvv := by
      show Value.long (Int64.ofInt x) :: _ = _
      congr 2
      refine Int64.toInt_inj.mp ?_
      rw [Int32.toInt_toInt64, zto s1, ztl ⟨by have := s1.1; omega, by have := s1.2; omega⟩]
    rw [e] at this
    exact this
  case h_24 => replace h := u1i_ok h; obtain ⟨x, r, rfl, h⟩ := h; exact bit h (zall2 hst).2
  case h_25 => replace h := u2l_ok h; obtain ⟨x, y, r, rfl, h⟩ := h; exact bitl h (zall2 (zall2 hst).2).2
  case h_26 =>
    replace h := u2l_ok h; obtain ⟨x, y, r, rfl, h1, h⟩ := h
    have := hK _ _ _ _ _ _ h M hM hlo (zall1 (v := .inr (.inr (x - y))) h1 (zall2 (zall2 hst).2).2)
    have e : ((Sum.inr (Sum.inr (x - y)) :: r : List zV).map zvv) = .long (Int64.ofInt x - Int64.ofInt y) :: r.map zvv := by
      show Value.long (Int64.ofInt (x - y)) :: _ = _
      rw [Int64.ofInt_sub]
    rw [e] at this
    exact this
  case h_27 =>
    replace h := u2l_ok h; obtain ⟨x, y, r, rfl, h1, h2, h3⟩ := h
    have sy : zil y := (zall2 hst).1
    have sx : zil x := (zall2 (zall2 hst).2).1
    have sr := (zall2 (zall2 hst).2).2
    show zGo l d mc ms f M _ (zmp lo) (.int (lg_cmp (Int64.ofInt x) (Int64.ofInt y)) :: r.map zvv) (zQs Q)
    unfold lg_cmp
    have c1 : Int64.ofInt x > Int64.ofInt y ↔ y < x := by show Int64.ofInt y < Int64.ofInt x ↔ _; rw [Int64.lt_iff_toInt_lt, ztl sx, ztl sy]
    have c2 : Int64.ofInt x = Int64.ofInt y ↔ x = y := by rw [← Int64.toInt_inj, ztl sx, ztl sy]
    by_cases g1 : y < x
    · rw [if_pos (c1.mpr g1)]
      exact ari (w := 1) (h3 g1) rfl ⟨by omega, by omega⟩ sr
    · rw [if_neg (fun z => g1 (c1.mp z))]
      by_cases g2 : x = y
      · rw [if_pos (c2.mpr g2)]
        exact ari (w := 0) (h2 g2) rfl ⟨by omega, by omega⟩ sr
      · rw [if_neg (fun z => g2 (c2.mp z))]
        exact ari (w := -1) (h1 (by omega)) rfl ⟨by omega, by omega⟩ sr
  case h_28 => replace h := uil_ok h; obtain ⟨x, y, r, rfl, h⟩ := h; exact bitl h (zall2 (zall2 hst).2).2
  case h_29 =>
    rcases u1d_ok h with ⟨x, r, rfl, h⟩ | ⟨x, r, rfl, h⟩
    · exact hK _ _ _ _ _ _ h M hM hlo (zall1 (zall2 hst).1 hst)
    · exact hK _ _ _ _ _ _ h M hM hlo (zall1 (zall2 hst).1 hst)
  case h_30 =>
    replace h := uir_ok h; obtain ⟨x, y, r, rfl, h⟩ := h
    exact hK _ _ _ _ _ _ h M hM hlo (zall1 (zall2 hst).1 (zall1 trivial hst))
  case h_31 => replace h := u1i_ok h; obtain ⟨x, r, rfl, h⟩ := h; exact hK _ _ _ _ _ _ h M hM hlo (zall2 hst).2
  case h_32 => exact hK _ _ _ _ _ _ h M hM hlo hst
  case h_33 =>
    replace h := u2i_ok h; obtain ⟨x, y, r, rfl, h1, h2⟩ := h
    have c := zof_eq (zall2 (zall2 hst).2).1 (zall2 hst).1
    exact ⟨fun z => hK _ _ _ _ _ _ (h1 (c.mp z)) M hM hlo (zall2 (zall2 hst).2).2, fun z => hK _ _ _ _ _ _ (h2 (fun w => z (c.mpr w))) M hM hlo (zall2 (zall2 hst).2).2⟩
  case h_34 =>
    replace h := u2i_ok h; obtain ⟨x, y, r, rfl, h1, h2⟩ := h
    have c := zof_lt (zall2 (zall2 hst).2).1 (zall2 hst).1
    exact ⟨fun z => hK _ _ _ _ _ _ (h1 (c.mp z)) M hM hlo (zall2 (zall2 hst).2).2, fun z => hK _ _ _ _ _ _ (h2 (fun w => z (c.mpr w))) M hM hlo (zall2 (zall2 hst).2).2⟩
  case h_35 =>
    replace h := u2i_ok h; obtain ⟨x, y, r, rfl, h1, h2⟩ := h
    have c := zof_lt (zall2 hst).1 (zall2 (zall2 hst).2).1
    exact ⟨fun z => hK _ _ _ _ _ _ (h1 (c.mp z)) M hM hlo (zall2 (zall2 hst).2).2, fun z => hK _ _ _ _ _ _ (h2 (fun w => z (c.mpr w))) M hM hlo (zall2 (zall2 hst).2).2⟩
  case h_36 =>
    replace h := u1i_ok h; obtain ⟨x, r, rfl, h1, h2⟩ := h
    have c := zof_eq (zall2 hst).1 zir_0
    exact ⟨fun z => hK _ _ _ _ _ _ (h1 (c.mp z)) M hM hlo (zall2 hst).2, fun z => hK _ _ _ _ _ _ (h2 (fun w => z (c.mpr w))) M hM hlo (zall2 hst).2⟩
  case h_37 =>
    replace h := u1i_ok h; obtain ⟨x, r, rfl, h1, h2⟩ := h
    have c := zof_lt (zall2 hst).1 zir_0
    exact ⟨fun z => hK _ _ _ _ _ _ (h1 (c.mp z)) M hM hlo (zall2 hst).2, fun z => hK _ _ _ _ _ _ (h2 (fun w => z (c.mpr w))) M hM hlo (zall2 hst).2⟩
  case h_38 =>
    replace h := u1i_ok h; obtain ⟨x, r, rfl, h1, h2⟩ := h
    have c := zof_lt zir_0 (zall2 hst).1
    exact ⟨fun z => hK _ _ _ _ _ _ (h1 (c.mp z)) M hM hlo (zall2 hst).2, fun z => hK _ _ _ _ _ _ (h2 (fun w => z (c.mpr w))) M hM hlo (zall2 hst).2⟩
  case h_39 a b _ nx _ =>
    replace h := u1r_ok h; obtain ⟨c, r, rfl, h⟩ := h
    replace h := zif_ok h; obtain ⟨g1, h⟩ := h
    simp only [Bool.and_eq_true, Nat.blt_eq] at g1
    obtain ⟨⟨g1, g2⟩, g3⟩ := g1
    have sr := (zall2 hst).2
    show zif (zisk M c 0 a) (zGo l d mc ms f M nx (zmp lo) (zfv M a c b :: r.map zvv) (zQs Q))
    have hk : zisk M c 0 a = true := by unfold zisk; rw [m2, g1, g2]; rfl
    rw [hk]
    show zGo l d mc ms f M nx (zmp lo) (zfv M a c b :: r.map zvv) (zQs Q)
    unfold zfv
    split at h
    · rename_i ht
      try rw [ht]
      show zGo l d mc ms f M nx (zmp lo) (.long (M.2.2.2.2 c b) :: r.map zvv) (zQs Q)
      rw [(m5 c b g3).2]
      exact hK _ _ _ _ _ _ h M hM hlo (zall1 (v := .inr (.inr _)) (m5 c b g3).1 sr)
    · rename_i ht
      try rw [ht]
      obtain ⟨q, hq, h⟩ := zlit_ok h
      show zGo l d mc ms f M nx (zmp lo) (zr (M.2.2.1 c b) :: r.map zvv) (zQs Q)
      rw [m3, hq]
      exact hK _ _ _ _ _ _ h M hM hlo (zall1 (v := .inr (.inl _)) trivial sr)
    · rename_i ht
      try rw [ht]
      obtain ⟨q, hq, h⟩ := zlit_ok h
      show zGo l d mc ms f M nx (zmp lo) (zr (M.2.2.1 c b) :: r.map zvv) (zQs Q)
      rw [m3, hq]
      exact hK _ _ _ _ _ _ h M hM hlo (zall1 (v := .inr (.inl _)) trivial sr)
    · rename_i t1 t2 t3
      have et : zfv M a c b = .int (M.2.2.2.1 c b) := by
        unfold zfv
        split
        · rename_i z; exact absurd z t1
        · rename_i z; exact absurd z (t2 _)
        · rename_i z; exact absurd z (t3 _)
        · rfl
      first | (show zGo l d mc ms f M nx (zmp lo) (zfv M a c b :: r.map zvv) (zQs Q); rw [et, (m4 c b g3).2]) | rw [(m4 c b g3).2]
      exact hK _ _ _ _ _ _ h M hM hlo (zall1 (v := .inl _) (m4 c b g3).1 sr)
  case h_40 a b _ nx _ =>
    show (match tyT a b with | .int => _ | .boolean => _ | .long => _ | .object _ => _ | .array _ => _ | _ => False)
    split at h
    · rename_i ht
      try rw [ht]
      replace h := uir_ok h; obtain ⟨c, x, r, rfl, h⟩ := h
      replace h := zif_ok h; obtain ⟨g1, h⟩ := h
      simp only [Bool.and_eq_true, Nat.blt_eq] at g1
      obtain ⟨⟨g1, g2⟩, g3, g4⟩ := g1
      have sr := (zall2 (zall2 hst).2).2
      show zif (zisk M c 0 a && !zfin a b) (zGo l d mc ms f (zsI M c b (Int32.ofInt x)) nx (zmp lo) (r.map zvv) (zQs Q))
      have hk : zisk M c 0 a = true := by unfold zisk; rw [m2, g1, g2]; rfl
      rw [hk, g4]
      exact hK _ _ _ _ _ _ h _ (zev_I hM g3 (zall2 hst).1) hlo sr
    · rename_i ht
      try rw [ht]
      replace h := uir_ok h; obtain ⟨c, x, r, rfl, h⟩ := h
      replace h := zif_ok h; obtain ⟨g1, g5, h⟩ := h
      simp only [Bool.and_eq_true, Nat.blt_eq] at g1
      obtain ⟨⟨g1, g2⟩, g3, g4⟩ := g1
      have sr := (zall2 (zall2 hst).2).2
      show zif (zisk M c 0 a && !zfin a b) ((Int32.ofInt x = 0 ∨ Int32.ofInt x = 1) ∧ zGo l d mc ms f (zsI M c b (Int32.ofInt x)) nx (zmp lo) (r.map zvv) (zQs Q))
      have hk : zisk M c 0 a = true := by unfold zisk; rw [m2, g1, g2]; rfl
      rw [hk, g4]
      refine ⟨?_, hK _ _ _ _ _ _ h _ (zev_I hM g3 (zall2 hst).1) hlo sr⟩
      rcases g5 with rfl | rfl
      · exact Or.inl rfl
      · exact Or.inr rfl
    · rename_i ht
      try rw [ht]
      replace h := ulr_ok h; obtain ⟨c, x, r, rfl, h⟩ := h
      replace h := zif_ok h; obtain ⟨g1, h⟩ := h
      simp only [Bool.and_eq_true, Nat.blt_eq] at g1
      obtain ⟨⟨g1, g2⟩, g3, g4⟩ := g1
      have sr := (zall2 (zall2 hst).2).2
      show zif (zisk M c 0 a && !zfin a b) (zGo l d mc ms f (zsJ M c b (Int64.ofInt x)) nx (zmp lo) (r.map zvv) (zQs Q))
      have hk : zisk M c 0 a = true := by unfold zisk; rw [m2, g1, g2]; rfl
      rw [hk, g4]
      exact hK _ _ _ _ _ _ h _ (zev_J hM g3 (zall2 hst).1) hlo sr
    · exact h.elim
  case h_41 =>
    replace h := uir_ok h; obtain ⟨c, i, r, rfl, h⟩ := h
    split at h
    · rename_i n hn
      replace h := zif_ok h; obtain ⟨g1, k, ⟨rfl, g2⟩, h⟩ := h
      have g1 := Nat.blt_eq.mp g1
      have hk := zof_in2 g2 (zall2 hst).1.2
      have hn2 : M.2.1 c = (1, n) := by rw [m2]; exact hn
      show zif ((M.2.1 c).1 == 1) (vp_in (Int32.ofInt (k : Int)) (M.2.1 c).2 ∧ zGo l d mc ms f M _ (zmp lo) (.int (M.2.2.2.1 c (Int32.ofInt (k : Int)).toNatClampNeg) :: r.map zvv) (zQs Q))
      rw [hn2, hk.2, (m4 c k g1).2]
      exact ⟨hk.1, hK _ _ _ _ _ _ h M hM hlo (zall1 (v := .inl _) (m4 c k g1).1 (zall2 (zall2 hst).2).2)⟩
    · exact h.elim
  case h_42 =>
    replace h := uiir_ok h; obtain ⟨c, i, x, r, rfl, h⟩ := h
    split at h
    · rename_i n hn
      replace h := zif_ok h; obtain ⟨g1, k, ⟨rfl, g2⟩, h⟩ := h
      have g1 := Nat.blt_eq.mp g1
      have hk := zof_in2 g2 (zall2 (zall2 hst).2).1.2
      have hn2 : M.2.1 c = (1, n) := by rw [m2]; exact hn
      show zif ((M.2.1 c).1 == 1) (vp_in (Int32.ofInt (k : Int)) (M.2.1 c).2 ∧ zGo l d mc ms f (zsI M c (Int32.ofInt (k : Int)).toNatClampNeg (Int32.ofInt x)) _ (zmp lo) (r.map zvv) (zQs Q))
      rw [hn2, hk.2]
      exact ⟨hk.1, hK _ _ _ _ _ _ h _ (zev_I hM g1 (zall2 hst).1) hlo (zall2 (zall2 (zall2 hst).2).2).2⟩
    · exact h.elim
  case h_43 =>
    replace h := uir_ok h; obtain ⟨c, i, r, rfl, h⟩ := h
    split at h
    · rename_i n hn
      replace h := zif_ok h; obtain ⟨g1, k, ⟨rfl, g2⟩, h⟩ := h
      have g1 := Nat.blt_eq.mp g1
      have hk := zof_in2 g2 (zall2 hst).1.2
      have hn2 : M.2.1 c = (2, n) := by rw [m2]; exact hn
      show zif ((M.2.1 c).1 == 2) (vp_in (Int32.ofInt (k : Int)) (M.2.1 c).2 ∧ zGo l d mc ms f M _ (zmp lo) (.int (M.2.2.2.1 c (Int32.ofInt (k : Int)).toNatClampNeg) :: r.map zvv) (zQs Q))
      rw [hn2, hk.2, (m4 c k g1).2]
      exact ⟨hk.1, hK _ _ _ _ _ _ h M hM hlo (zall1 (v := .inl _) (m4 c k g1).1 (zall2 (zall2 hst).2).2)⟩
    · exact h.elim
  case h_44 =>
    replace h := uiir_ok h; obtain ⟨c, i, x, r, rfl, h⟩ := h
    split at h
    · rename_i n hn
      replace h := zif_ok h; obtain ⟨g1, k, ⟨rfl, g2⟩, h⟩ := h
      have g1 := Nat.blt_eq.mp g1
      have hk := zof_in2 g2 (zall2 (zall2 hst).2).1.2
      have hn2 : M.2.1 c = (2, n) := by rw [m2]; exact hn
      show zif ((M.2.1 c).1 == 2) (vp_in (Int32.ofInt (k : Int)) (M.2.1 c).2 ∧ zGo l d mc ms f (zsI M c (Int32.ofInt (k : Int)).toNatClampNeg (Int32.ofInt x).toInt8.toInt32) _ (zmp lo) (r.map zvv) (zQs Q))
      rw [hn2, hk.2]
      have e9 : (Int32.ofInt x).toInt8.toInt32 = Int32.ofInt (zi2b x) := by unfold zi2b; rw [Int32.ofInt_toInt]
      rw [e9]
      exact ⟨hk.1, hK _ _ _ _ _ _ h _ (zev_I hM g1 (zir_to _)) hlo (zall2 (zall2 (zall2 hst).2).2).2⟩
    · exact h.elim
  case h_45 =>
    replace h := uir_ok h; obtain ⟨c, i, r, rfl, h⟩ := h
    split at h
    · rename_i n hn
      replace h := zif_ok h; obtain ⟨g1, k, ⟨rfl, g2⟩, h⟩ := h
      have g1 := Nat.blt_eq.mp g1
      have hk := zof_in2 g2 (zall2 hst).1.2
      have hn2 : M.2.1 c = (3, n) := by rw [m2]; exact hn
      show zif ((M.2.1 c).1 == 3) (vp_in (Int32.ofInt (k : Int)) (M.2.1 c).2 ∧ zGo l d mc ms f M _ (zmp lo) (.long (M.2.2.2.2 c (Int32.ofInt (k : Int)).toNatClampNeg) :: r.map zvv) (zQs Q))
      rw [hn2, hk.2, (m5 c k g1).2]
      exact ⟨hk.1, hK _ _ _ _ _ _ h M hM hlo (zall1 (v := .inr (.inr _)) (m5 c k g1).1 (zall2 (zall2 hst).2).2)⟩
    · exact h.elim
  case h_46 =>
    replace h := ulir_ok h; obtain ⟨c, i, x, r, rfl, h⟩ := h
    split at h
    · rename_i n hn
      replace h := zif_ok h; obtain ⟨g1, k, ⟨rfl, g2⟩, h⟩ := h
      have g1 := Nat.blt_eq.mp g1
      have hk := zof_in2 g2 (zall2 (zall2 hst).2).1.2
      have hn2 : M.2.1 c = (3, n) := by rw [m2]; exact hn
      show zif ((M.2.1 c).1 == 3) (vp_in (Int32.ofInt (k : Int)) (M.2.1 c).2 ∧ zGo l d mc ms f (zsJ M c (Int32.ofInt (k : Int)).toNatClampNeg (Int64.ofInt x)) _ (zmp lo) (r.map zvv) (zQs Q))
      rw [hn2, hk.2]
      exact ⟨hk.1, hK _ _ _ _ _ _ h _ (zev_J hM g1 (zall2 hst).1) hlo (zall2 (zall2 (zall2 hst).2).2).2⟩
    · exact h.elim
  case h_47 =>
    replace h := u1r_ok h; obtain ⟨c, r, rfl, h⟩ := h
    split at h
    · rename_i n hn
      replace h := zif_ok h; obtain ⟨g1, h⟩ := h
      have g1 := Nat.ble_eq.mp g1
      have hn2 : M.2.1 c = (1, n) := by rw [m2]; exact hn
      show zif ((M.2.1 c).1 == 1 || (M.2.1 c).1 == 2) (zGo l d mc ms f M _ (zmp lo) (.int (Int32.ofNat (M.2.1 c).2) :: r.map zvv) (zQs Q))
      rw [hn2]
      exact ari h Int32.ofInt_eq_ofNat ⟨by omega, by omega⟩ (zall2 hst).2
    · rename_i n hn
      replace h := zif_ok h; obtain ⟨g1, h⟩ := h
      have g1 := Nat.ble_eq.mp g1
      have hn2 : M.2.1 c = (2, n) := by rw [m2]; exact hn
      show zif ((M.2.1 c).1 == 1 || (M.2.1 c).1 == 2) (zGo l d mc ms f M _ (zmp lo) (.int (Int32.ofNat (M.2.1 c).2) :: r.map zvv) (zQs Q))
      rw [hn2]
      exact ari h Int32.ofInt_eq_ofNat ⟨by omega, by omega⟩ (zall2 hst).2
    · exact h.elim
  case h_48 =>
    replace h := u1i_ok h; obtain ⟨x, r, rfl, h⟩ := h
    split at h
    · refine ⟨rfl, ?_⟩
      split at h
      · rename_i ht
        try rw [ht]
        exact ⟨.inl (some (.inl x)), S, rfl, (zall2 hst).1, hM, h⟩
      · rename_i ht
        try rw [ht]
        refine ⟨?_, ⟨.inl (some (.inl x)), S, rfl, (zall2 hst).1, hM, h.2⟩⟩
        rcases h.1 with rfl | rfl
        · exact Or.inl rfl
        · exact Or.inr rfl
      · exact h.elim
    · exact h.elim
  case h_49 =>
    replace h := u1l_ok h; obtain ⟨x, r, rfl, h⟩ := h
    split at h
    · refine ⟨rfl, ?_⟩
      split at h
      · rename_i ht
        try rw [ht]
        exact ⟨.inl (some (.inr (.inr x))), S, rfl, (zall2 hst).1, hM, h⟩
      · exact h.elim
    · exact h.elim
  case h_50 =>
    split at h
    · split at h
      · rename_i ht
        exact ⟨rfl, ht, .inl none, S, rfl, trivial, hM, h⟩
      · exact h.elim
    · exact h.elim
  case h_51 b _ _ ts =>
    replace h := u1i_ok h; obtain ⟨x, r, rfl, h⟩ := h
    replace h := zif_ok h; obtain ⟨g1, h⟩ := h
    have g1 := Nat.ble_eq.mp g1
    obtain ⟨h1, h2⟩ := zsw_ok h
    have sx : zir x := (zall2 hst).1
    refine ⟨fun k hk hx2 => ?_, fun hx2 => ?_⟩
    · refine hK _ _ _ _ _ _ (h1 k hk ?_) M hM hlo (zall2 hst).2
      rw [Nat.zero_add]
      refine (zof_eq sx ⟨by omega, by omega⟩).mp ?_
      rw [Int32.ofInt_eq_ofNat (n := k)]
      exact hx2
    · refine hK _ _ _ _ _ _ (h2 ?_) M hM hlo (zall2 hst).2
      rw [Nat.zero_add]
      rcases hx2 with z | z
      · exact Or.inl ((zof_lt sx zir_0).mp z)
      · refine Or.inr (Int.not_lt.mp (fun w => ?_))
        have z2 := Int32.le_iff_toInt_le.mp z
        rw [← Int32.ofInt_eq_ofNat, zto ⟨by omega, by omega⟩, zto sx] at z2
        omega
  case h_52 => exact h.elim
end
