/-! SETS as bits and as lists -/
def blS (n : Nat) : Nat → Nat → List Nat
  | 0, _ => []
  | f + 1, j => bif Nat.beq (bt1 n j) 1 then j :: blS n f (j + 1) else blS n f (j + 1)
/-- the bits that are set, from the lowest on -/
def bl (n : Nat) : List Nat := blS n 18 0
theorem blS_1 {n f j : Nat} (h : bt1 n j = 1) : blS n (f + 1) j = j :: blS n f (j + 1) := by
  show (bif Nat.beq (bt1 n j) 1 then _ else _) = _
  rw [h]; rfl
theorem blS_0 {n f j : Nat} (h : ¬ bt1 n j = 1) : blS n (f + 1) j = blS n f (j + 1) := by
  show (bif Nat.beq (bt1 n j) 1 then _ else _) = _
  rw [show Nat.beq (bt1 n j) 1 = false by
    cases hb : Nat.beq (bt1 n j) 1
    · rfl
    · exact absurd (Nat.eq_of_beq_eq_true hb) h]
  rfl
theorem blS_mem {n f j a : Nat} : a ∈ blS n f j ↔ j ≤ a ∧ a < j + f ∧ bt1 n a = 1 := by
  induction f generalizing j with
  | zero => constructor
            · intro h; cases h
            · intro h; omega
  | succ f ih =>
    by_cases hb : bt1 n j = 1
    · rw [blS_1 hb, List.mem_cons, ih]
      constructor
      · rintro (rfl | ⟨h1, h2, h3⟩)
        · exact ⟨Nat.le_refl _, by omega, hb⟩
        · exact ⟨by omega, by omega, h3⟩
      · rintro ⟨h1, h2, h3⟩
        by_cases e : a = j
        · exact Or.inl e
        · exact Or.inr ⟨by omega, by omega, h3⟩
    · rw [blS_0 hb, ih]
      constructor
      · rintro ⟨h1, h2, h3⟩; exact ⟨by omega, by omega, h3⟩
      · rintro ⟨h1, h2, h3⟩
        have : a ≠ j := fun e => hb (e ▸ h3)
        exact ⟨by omega, by omega, h3⟩
theorem bl_mem {n a : Nat} : a ∈ bl n ↔ a < 18 ∧ bt1 n a = 1 := by
  unfold bl
  rw [blS_mem]
  constructor
  · rintro ⟨_, h2, h3⟩; exact ⟨by omega, h3⟩
  · rintro ⟨h2, h3⟩; exact ⟨by omega, by omega, h3⟩
theorem blS_le (n f j : Nat) : (blS n f j).length ≤ f := by
  induction f generalizing j with
  | zero => exact Nat.le_refl 0
  | succ f ih =>
    by_cases hb : bt1 n j = 1
    · rw [blS_1 hb, List.length_cons]; exact Nat.succ_le_succ (ih _)
    · rw [blS_0 hb]; exact Nat.le_succ_of_le (ih _)
theorem bl_le (n : Nat) : (bl n).length ≤ 18 := blS_le n 18 0
/-- a mask of what holds -/
def msk (f : Nat → Bool) : Nat → Nat
  | 0 => 0
  | j + 1 => msk f j + (bif f j then 2 ^ j else 0)
theorem msk_lt (f : Nat → Bool) (j : Nat) : msk f j < 2 ^ j := by
  induction j with
  | zero => exact Nat.one_pos
  | succ j ih =>
    show msk f j + _ < 2 ^ (j + 1)
    rw [Nat.pow_succ]
    cases f j
    · show msk f j + 0 < _; omega
    · show msk f j + 2 ^ j < _; omega
theorem msk_or (f : Nat → Bool) (j : Nat) (h : f j = true) : msk f j ||| 2 ^ j = msk f (j + 1) := by
  show _ = msk f j + (bif f j then 2 ^ j else 0)
  rw [h]
  have := Nat.two_pow_add_eq_or_of_lt (msk_lt f j) 1
  rw [Nat.mul_one] at this
  rw [Nat.or_comm, ← this, Nat.add_comm]
  rfl
theorem msk_no (f : Nat → Bool) (j : Nat) (h : f j = false) : msk f (j + 1) = msk f j := by
  show msk f j + (bif f j then 2 ^ j else 0) = _
  rw [h]
  rfl
theorem bt1_msk (f : Nat → Bool) (n j : Nat) : bt1 (msk f n) j = if j < n ∧ f j = true then 1 else 0 := by
  induction n with
  | zero =>
    rw [if_neg (by omega)]
    show 0 / 2 ^ j % 2 = 0
    rw [Nat.zero_div]
  | succ n ih =>
    have hlt := msk_lt f n
    cases hf : f n with
    | false =>
      rw [msk_no f n hf, ih]
      by_cases c : j < n ∧ f j = true
      · rw [if_pos c, if_pos ⟨by omega, c.2⟩]
      · rw [if_neg c, if_neg]
        rintro ⟨h1, h2⟩
        by_cases e : j = n
        · subst e; rw [hf] at h2; cases h2
        · exact c ⟨by omega, h2⟩
    | true =>
      have e1 : msk f (n + 1) = msk f n + 2 ^ n := by
        show msk f n + (bif f n then 2 ^ n else 0) = _
        rw [hf]; rfl
      rw [e1]
      by_cases c1 : j < n
      · have e2 : bt1 (msk f n + 2 ^ n) j = bt1 (msk f n) j := by
          unfold bt1
          obtain ⟨d, rfl⟩ : ∃ d, n = j + 1 + d := ⟨n - j - 1, by omega⟩
          have e3 : 2 ^ (j + 1 + d) = 2 ^ j * (2 * 2 ^ d) := by rw [Nat.pow_add, Nat.pow_succ, Nat.mul_assoc]
          rw [e3, Nat.add_mul_div_left _ _ (Nat.two_pow_pos j), Nat.add_mul_mod_self_left]
        rw [e2, ih]
        by_cases c : j < n ∧ f j = true
        · rw [if_pos c, if_pos ⟨by omega, c.2⟩]
        · rw [if_neg c, if_neg (fun z => c ⟨c1, z.2⟩)]
      · by_cases c2 : j = n
        · subst c2
          rw [if_pos ⟨by omega, hf⟩]
          unfold bt1
          rw [Nat.add_div_right _ (Nat.two_pow_pos j), Nat.div_eq_of_lt hlt]
        · rw [if_neg (by omega)]
          unfold bt1
          rw [Nat.div_eq_of_lt]
          have : 2 ^ (n + 1) ≤ 2 ^ j := Nat.pow_le_pow_right (by decide) (by omega)
          rw [Nat.pow_succ] at this
          omega
theorem bt1_hi {n j k : Nat} (h : n < 2 ^ k) (hk : k ≤ j) : bt1 n j = 0 := by
  unfold bt1
  rw [Nat.div_eq_of_lt (Nat.lt_of_lt_of_le h (Nat.pow_le_pow_right (by decide) hk))]
/-- brute force over what one may do -/
def bcN (n : Nat) : Nat :=
  let a := n - (n / 2 &&& 1431655765)
  let b := (a &&& 858993459) + (a / 4 &&& 858993459)
  let c := (b + b / 16) &&& 252645135
  let d := c + c / 256
  let e := d + d / 65536
  e &&& 63
def chkA (m : Nat) : Bool := Nat.beq (bcN (spr m)) (bl m).length && (decide (bl (spr m) = (bl m).map tol) && (decide (bl (m &&& (m - 1)) = (bl m).tail) && Nat.blt (spr m) 262144))
def chkB (m : Nat) : Bool := Nat.beq (bcN m) (bl m).length
def allB (f : Nat → Bool) : Nat → Bool
  | 0 => true
  | n + 1 => f n && allB f n
theorem allB_ok {f : Nat → Bool} {n m : Nat} (h : allB f n = true) (hm : m < n) : f m = true := by
  induction n with
  | zero => omega
  | succ n ih =>
    have h : (f n && allB f n) = true := h
    rw [Bool.and_eq_true] at h
    by_cases e : m = n
    · rw [e]; exact h.1
    · exact ih h.2 (by omega)
set_option maxRecDepth 100000 in
theorem chkA_all : allB chkA 4096 = true := by decide +kernel
set_option maxRecDepth 100000 in
theorem chkB_all : allB chkB 256 = true := by decide +kernel
theorem chkA_ok {m : Nat} (h : m < 4096) : bcN (spr m) = (bl m).length ∧ bl (spr m) = (bl m).map tol ∧ bl (m &&& (m - 1)) = (bl m).tail ∧ spr m < 262144 := by
  have := allB_ok chkA_all h
  unfold chkA at this
  simp only [Bool.and_eq_true, decide_eq_true_eq, Nat.blt_eq] at this
  exact ⟨Nat.eq_of_beq_eq_true this.1, this.2.1, this.2.2.1, this.2.2.2⟩
theorem chkB_ok {m : Nat} (h : m < 256) : bcN m = (bl m).length := by
  have h2 : chkB m = true := allB_ok chkB_all h
  unfold chkB at h2
  exact Nat.eq_of_beq_eq_true h2
