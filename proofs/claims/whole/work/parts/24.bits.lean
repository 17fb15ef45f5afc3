/-! TABLES CHECKED; BITS of ints that are not negative -/
def zspI : List (Nat × zE) → List (Nat × zI)
  | [] => []
  | (pc, .inl e) :: r => (pc, zdn e) :: zspI r
  | (_, .inr _) :: r => zspI r
def zspC : List (Nat × zE) → List (Nat × zC)
  | [] => []
  | (_, .inl _) :: r => zspC r
  | (pc, .inr e) :: r => (pc, e) :: zspC r
def zspR : List (Nat × zE) → Bool
  | [] => true
  | (_, .inl e) :: r => decide (-2147483648 ≤ e.2.2.2.1) && (decide (e.2.2.2.1 < 2147483648) && zspR r)
  | (_, .inr _) :: r => zspR r
theorem zU_ok {l : Launch} {orc : zO} {f : zF} {U : List (Nat × zE)} : ∀ {T : List (Nat × zI)} {B : List (Nat × zC)}, zspI U = T → zspC U = B → zspR U = true → ztbok f T → (∀ q ∈ B, zcok l orc f q.1 q.2) → ∀ q ∈ U, zTok l orc f q := by
  induction U with
  | nil => intro T B _ _ _ _ _ q hq; cases hq
  | cons u r ih =>
    intro T B h1 h2 h3 h4 h5 q hq
    obtain ⟨pc, e⟩ := u
    rcases e with e | e
    · subst h1
      have h3 : (decide (-2147483648 ≤ e.2.2.2.1) && (decide (e.2.2.2.1 < 2147483648) && zspR r)) = true := h3
      simp only [Bool.and_eq_true, decide_eq_true_eq] at h3
      rcases List.mem_cons.mp hq with rfl | hq
      · exact ⟨h4 (pc, zdn e) List.mem_cons_self, h3.1, h3.2.1⟩
      · exact ih rfl h2 h3.2.2 (fun x hx => h4 x (List.mem_cons_of_mem _ hx)) h5 q hq
    · subst h2
      rcases List.mem_cons.mp hq with rfl | hq
      · exact h5 (pc, e) List.mem_cons_self
      · exact ih h1 rfl h3 h4 (fun x hx => h5 x (List.mem_cons_of_mem _ hx)) q hq
theorem zir_n {a : Nat} (h : a < 2147483648) : zir (a : Int) := ⟨by omega, by omega⟩
theorem nI_to {a : Nat} (h : a < 2147483648) : (nI a).toInt = (a : Int) := nI_toInt h
theorem nx_and (a b : Nat) : nI a &&& nI b = nI (a &&& b) := by
  apply Int32.toBitVec_inj.mp
  show BitVec.ofNat 32 a &&& BitVec.ofNat 32 b = BitVec.ofNat 32 (a &&& b)
  exact BitVec.ofNat_and.symm
theorem nx_xor (a b : Nat) : nI a ^^^ nI b = nI (a ^^^ b) := by
  apply Int32.toBitVec_inj.mp
  show BitVec.ofNat 32 a ^^^ BitVec.ofNat 32 b = BitVec.ofNat 32 (a ^^^ b)
  exact BitVec.ofNat_xor.symm
theorem s_l : ∀ n, n < 32 → ((nI n &&& 31).toBitVec.smod 32).toNat = n := by decide +kernel
theorem s_u : ∀ n, n < 32 → (((nI n).toUInt32 &&& Int32.toUInt32 31).toBitVec % 32).toNat = n := by decide +kernel
theorem zbv {x : Int32} {n : Nat} (h : x.toBitVec.toNat = n) (hn : n < 2147483648) : x.toInt = (n : Int) := by
  show x.toBitVec.toInt = _
  rw [BitVec.toInt_eq_toNat_of_lt (by omega), h]
theorem nI_bv {a : Nat} (ha : a < 2147483648) : (nI a).toBitVec.toNat = a := by
  show (BitVec.ofNat 32 a).toNat = a
  rw [BitVec.toNat_ofNat]
  omega
theorem zand_n {a b : Nat} (ha : a < 2147483648) : zand (a : Int) (b : Int) = ((a &&& b : Nat) : Int) := by
  unfold zand
  rw [zof_nat, zof_nat, nx_and]
  exact nI_to (Nat.lt_of_le_of_lt Nat.and_le_left ha)
theorem zand_n2 {a b : Nat} (hb : b < 2147483648) : zand (a : Int) (b : Int) = ((a &&& b : Nat) : Int) := by
  unfold zand
  rw [zof_nat, zof_nat, nx_and]
  exact nI_to (Nat.lt_of_le_of_lt Nat.and_le_right hb)
theorem nx_or (a b : Nat) : nI a ||| nI b = nI (a ||| b) := by
  apply Int32.toBitVec_inj.mp
  show (Int32.ofNat a ||| Int32.ofNat b).toBitVec = (Int32.ofNat (a ||| b)).toBitVec
  rw [Int32.toBitVec_or]
  show BitVec.ofNat 32 a ||| BitVec.ofNat 32 b = BitVec.ofNat 32 (a ||| b)
  exact BitVec.ofNat_or.symm
theorem zor_n {a b : Nat} (ha : a < 2147483648) (hb : b < 2147483648) : zor (a : Int) (b : Int) = ((a ||| b : Nat) : Int) := by
  unfold zor
  rw [zof_nat, zof_nat, nx_or]
  exact nI_to (Nat.or_lt_two_pow (n := 31) ha hb)
theorem zxor_n {a b : Nat} (ha : a < 2147483648) (hb : b < 2147483648) : zxor (a : Int) (b : Int) = ((a ^^^ b : Nat) : Int) := by
  unfold zxor
  rw [zof_nat, zof_nat, nx_xor]
  exact nI_to (Nat.xor_lt_two_pow (n := 31) ha hb)
theorem zshl_n {a k : Nat} (hk : k < 32) (h : a * 2 ^ k < 2147483648) : zshl (a : Int) (k : Int) = ((a * 2 ^ k : Nat) : Int) := by
  unfold zshl
  rw [zof_nat, zof_nat]
  have ha : a < 2147483648 := Nat.lt_of_le_of_lt (Nat.le_mul_of_pos_right a (Nat.two_pow_pos k)) h
  refine zbv ?_ h
  show ((nI a).toBitVec <<< ((nI k &&& 31).toBitVec.smod 32)).toNat = _
  rw [BitVec.shiftLeft_eq', s_l k hk, BitVec.toNat_shiftLeft, nI_bv ha, Nat.shiftLeft_eq]
  omega
theorem zshr_n {a k : Nat} (ha : a < 2147483648) (hk : k < 32) : zshr (a : Int) (k : Int) = ((a / 2 ^ k : Nat) : Int) := by
  unfold zshr
  rw [zof_nat, zof_nat]
  refine zbv ?_ (Nat.lt_of_le_of_lt (Nat.div_le_self _ _) ha)
  show ((nI a).toBitVec.sshiftRight' ((nI k &&& 31).toBitVec.smod 32)).toNat = _
  show ((nI a).toBitVec.sshiftRight ((nI k &&& 31).toBitVec.smod 32).toNat).toNat = _
  rw [s_l k hk, BitVec.toNat_sshiftRight_of_msb_false, nI_bv ha, Nat.shiftRight_eq_div_pow]
  rw [BitVec.msb_eq_decide, nI_bv ha]
  simp
  omega
theorem zush_n {a k : Nat} (ha : a < 2147483648) (hk : k < 32) : zush (a : Int) (k : Int) = ((a / 2 ^ k : Nat) : Int) := by
  unfold zush
  rw [zof_nat, zof_nat]
  refine zbv ?_ (Nat.lt_of_le_of_lt (Nat.div_le_self _ _) ha)
  show ((nI a).toBitVec >>> (((nI k).toUInt32 &&& Int32.toUInt32 31).toBitVec % 32)).toNat = _
  rw [BitVec.ushiftRight_eq', s_u k hk, BitVec.toNat_ushiftRight, nI_bv ha, Nat.shiftRight_eq_div_pow]
/-- the bit j of a, as a number -/
def bt1 (a j : Nat) : Nat := a / 2 ^ j % 2
theorem bt1_lt (a j : Nat) : bt1 a j < 2 := Nat.mod_lt _ (by decide)
theorem zbit_n {a j : Nat} (ha : a < 2147483648) (hj : j < 32) : zand (zshr (a : Int) (j : Int)) 1 = ((bt1 a j : Nat) : Int) := by
  rw [zshr_n ha hj]
  have := zand_n2 (a := a / 2 ^ j) (b := 1) (by decide)
  rw [show ((1 : Nat) : Int) = 1 from rfl] at this
  rw [this, Nat.and_one_is_mod]
  rfl
theorem zubit_n {a j : Nat} (ha : a < 2147483648) (hj : j < 32) : zand (zush (a : Int) (j : Int)) 1 = ((bt1 a j : Nat) : Int) := by
  rw [zush_n ha hj]
  have := zand_n2 (a := a / 2 ^ j) (b := 1) (by decide)
  rw [show ((1 : Nat) : Int) = 1 from rfl] at this
  rw [this, Nat.and_one_is_mod]
  rfl
theorem zsh1_n {k : Nat} (hk : k < 31) : zshl 1 (k : Int) = ((2 ^ k : Nat) : Int) := by
  have := zshl_n (a := 1) (k := k) (by omega) (by
    have : 2 ^ k ≤ 2 ^ 30 := Nat.pow_le_pow_right (by decide) (by omega)
    omega)
  rw [Nat.one_mul] at this
  exact this
