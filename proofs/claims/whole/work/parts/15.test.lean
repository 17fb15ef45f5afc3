/-- the memory of a run behind the constructors -/
def tLAY (c : Nat) : Nat × Nat := match c with
  | 5 => (0, 6)
  | 11 => (1, 144)
  | _ => (9, 0)
def tR0 (c k : Nat) : Nat := match c, k with
  | 5, 5 => 12
  | _, _ => 0
def tm (n : Nat) (I : Nat → Nat → Int32) (J : Nat → Nat → Int64) : zM := (n, tLAY, tR0, I, J)
theorem t_doings (l : Launch) (d n : Nat) (I : Nat → Nat → Int32) (J : Nat → Nat → Int64) (a b : Int32) (h : vp_in (a * 24 + b) 144) :
   zRet l d 0 0 yX6_doings (.code yX6_doings cX6_doings 4 (some .int)) [.ref 5, .int a, .int b] (tm n I J) (fun r M => r = .inl (some (.int (if I 11 (a * 24 + b).toNatClampNeg = 0 then 1 else I 11 (a * 24 + b).toNatClampNeg))) ∧ M = tm n I J) := by
  refine zRet_of (ini := false) 6 (by decide) rfl (Nat.le_of_ble_eq_true rfl) (fun h => by cases h) ?_
  refine zwp_ok K_X6_doings [] 100 ?_
  refine ⟨h, fun c => ?_, fun c => ?_⟩
  · have c : I 11 (a * 24 + b).toNatClampNeg = 0 := c
    exact ⟨rfl, by rw [if_pos c], rfl⟩
  · have c : ¬ I 11 (a * 24 + b).toNatClampNeg = 0 := c
    exact ⟨rfl, by rw [if_neg c]; rfl, rfl⟩
