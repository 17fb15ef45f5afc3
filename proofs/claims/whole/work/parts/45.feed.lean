/-! numbers; feed -/
theorem zand_255 (y : Int) : zand y 255 = y % 256 := by
  have hb : (Int32.ofInt y &&& Int32.ofInt 255).toBitVec.toNat = (y % 256).toNat := by
    have e : (Int32.ofInt y &&& Int32.ofInt 255).toBitVec = BitVec.ofInt 32 y &&& BitVec.ofNat 32 255 := rfl
    rw [e, BitVec.toNat_and, BitVec.toNat_ofInt, BitVec.toNat_ofNat]
    have h := Nat.and_two_pow_sub_one_eq_mod (y % ((2 ^ 32 : Nat) : Int)).toNat 8
    rw [show 255 % 2 ^ 32 = 2 ^ 8 - 1 by decide, h]
    omega
  unfold zand
  rw [zbv hb (by omega)]
  omega
theorem zand_32767 (y : Int) : zand y 32767 = y % 32768 := by
  have hb : (Int32.ofInt y &&& Int32.ofInt 32767).toBitVec.toNat = (y % 32768).toNat := by
    have e : (Int32.ofInt y &&& Int32.ofInt 32767).toBitVec = BitVec.ofInt 32 y &&& BitVec.ofNat 32 32767 := rfl
    rw [e, BitVec.toNat_and, BitVec.toNat_ofInt, BitVec.toNat_ofNat]
    have h := Nat.and_two_pow_sub_one_eq_mod (y % ((2 ^ 32 : Nat) : Int)).toNat 15
    rw [show 32767 % 2 ^ 32 = 2 ^ 15 - 1 by decide, h]
    omega
  unfold zand
  rw [zbv hb (by omega)]
  omega
theorem zshr_d {x : Int} (hx : zir x) {k : Nat} (hk : k < 32) : zshr x (k : Int) = x / ((2 ^ k : Nat) : Int) := by
  unfold zshr
  rw [zof_nat]
  show ((Int32.ofInt x).toBitVec.sshiftRight ((nI k &&& 31).toBitVec.smod 32).toNat).toInt = _
  rw [s_l k hk, BitVec.toInt_sshiftRight, Int.shiftRight_eq_div_pow]
  show (Int32.ofInt x).toInt / _ = _
  rw [zto hx]
theorem zush_d {x : Int} : zand (zush x 16) 32767 = x / 65536 % 32768 := by
  rw [zand_32767]
  have hb : (zb2 8 (Int32.ofInt x) (Int32.ofInt 16)).toBitVec.toNat = (x % 4294967296).toNat / 65536 := by
    have e : (zb2 8 (Int32.ofInt x) (Int32.ofInt 16)).toBitVec = BitVec.ofInt 32 x >>> 16 := by
      show (Int32.ofInt x).toBitVec >>> (((nI 16).toUInt32 &&& Int32.toUInt32 31).toBitVec % 32) = _
      rw [BitVec.ushiftRight_eq', s_u 16 (by decide)]
      rfl
    rw [e, BitVec.toNat_ushiftRight, BitVec.toNat_ofInt, Nat.shiftRight_eq_div_pow]
    rfl
  unfold zush
  rw [zbv hb (by omega)]
  omega
theorem zi2b_d {y : Int} (hy : zir y) : zi2b y = sby (y % 256).toNat := by
  unfold zi2b
  rw [Int8.toInt_toInt32, Int32.toInt_toInt8, zto hy]
  unfold sby
  rw [Int.bmod_def]
  split <;> split <;> omega
theorem sby_le {b : Nat} (h : b < 256) : -128 ≤ sby b ∧ sby b < 128 := by
  unfold sby
  split <;> omega
/-- a byte of a number -/
def byN (x : Int) (m : Nat) : Nat := (x / (m : Int) % 256).toNat
theorem byN_lt (x : Int) (m : Nat) : byN x m < 256 := by unfold byN; omega
theorem byN_c {x : Int} (hx : zir x) {k : Nat} (hk : k < 32) : zi2b (zi2b (zshr x (k : Int))) = sby (byN x (2 ^ k)) := by
  have hr : zir (zshr x (k : Int)) := zir_to _
  have h1 := sby_le (b := (zshr x (k : Int) % 256).toNat) (by omega)
  rw [zi2b_d hr]
  rw [zi2b_d ⟨by omega, by omega⟩]
  have e : (sby (zshr x (k : Int) % 256).toNat % 256).toNat = (zshr x (k : Int) % 256).toNat := by
    unfold sby
    split <;> omega
  rw [e, zshr_d hx hk]
  rfl
theorem byN_m {x : Int} (hx : zir x) {k : Nat} (hk : k < 32) : zand (zshr x (k : Int)) 255 = (byN x (2 ^ k) : Int) := by
  rw [zand_255, zshr_d hx hk]
  unfold byN
  omega
/-- four bytes more on the tape -/
def apT (T : zD) (x : Int) : zD := zu (zu (zu (zu (zu T 1 (T 0 0) (byN x (2 ^ 24))) 1 (T 0 0 + 1) (byN x (2 ^ 16))) 1 (T 0 0 + 2) (byN x (2 ^ 8))) 1 (T 0 0 + 3) (byN x (2 ^ 0))) 0 0 (T 0 0 + 4)
def tC (S : zS) (T : zD) : Prop := S 1 1 = (T 0 0 : Int) ∧ ∀ k, k < T 0 0 → S 2 k = sby (T 1 k)
def tM (S : zS) (T : zD) : Prop := S 62 13 = (T 0 0 : Int) ∧ ∀ k, k < T 0 0 → S 70 k = (T 1 k : Int)
theorem apT_1 (T : zD) (x : Int) (k : Nat) : apT T x 1 k = if k = T 0 0 + 3 then byN x (2 ^ 0) else if k = T 0 0 + 2 then byN x (2 ^ 8) else if k = T 0 0 + 1 then byN x (2 ^ 16) else if k = T 0 0 then byN x (2 ^ 24) else T 1 k := by
  show zu (zu (zu (zu T 1 (T 0 0) (byN x (2 ^ 24))) 1 (T 0 0 + 1) (byN x (2 ^ 16))) 1 (T 0 0 + 2) (byN x (2 ^ 8))) 1 (T 0 0 + 3) (byN x (2 ^ 0)) 1 k = _
  rw [zu_if, zu_if, zu_if, zu_if]
theorem apT_c (T : zD) (x : Int) {c : Nat} (h : 2 ≤ c) : apT T x c = T c := funext fun j => (zuD_n (Or.inl (by omega))).trans ((zuD_n (Or.inl (by omega))).trans ((zuD_n (Or.inl (by omega))).trans ((zuD_n (Or.inl (by omega))).trans (zuD_n (Or.inl (by omega))))))
def B_X9_append : List (Nat × zC) := []
def O_X9_append : zO := fun j a S K => match j with
  | _ => False
theorem E_X9_append (l : Launch) : ∀ q ∈ B_X9_append, zcok l O_X9_append F_X9_append q.1 q.2 := fun _ h => by cases h
def U_X9_append : List (Nat × zE) := [(0, Sum.inl (0, 0, 0, 24, 2, [])), (2, Sum.inl (5, 2, 0, 0, 3, [])), (3, Sum.inl (2, 2, 0, 0, 4, [])), (4, Sum.inl (17, 1, 46, 0, 7, [])), (7, Sum.inl (4, 0, 0, 0, 8, [])), (8, Sum.inl (18, 9, 1, 0, 11, [])), (11, Sum.inl (0, 0, 0, 700, 14, [])), (14, Sum.inl (16, 1, 17, 0, 46, [])), (17, Sum.inl (4, 0, 0, 0, 18, [])), (18, Sum.inl (18, 9, 0, 0, 21, [])), (21, Sum.inl (4, 0, 0, 0, 22, [])), (22, Sum.inl (18, 9, 1, 0, 25, [])), (25, Sum.inl (2, 1, 0, 0, 26, [])), (26, Sum.inl (2, 2, 0, 0, 27, [])), (27, Sum.inl (9, 7, 0, 0, 28, [])), (28, Sum.inl (10, 1, 0, 0, 29, [])), (29, Sum.inl (23, 0, 0, 0, 30, [])), (30, Sum.inl (4, 0, 0, 0, 31, [])), (31, Sum.inl (12, 0, 0, 0, 32, [])), (32, Sum.inl (18, 9, 1, 0, 35, [])), (35, Sum.inl (0, 0, 0, 1, 36, [])), (36, Sum.inl (9, 0, 0, 0, 37, [])), (37, Sum.inl (19, 9, 1, 0, 40, [])), (40, Sum.inl (8, 2, 0, (-8), 43, [])), (43, Sum.inl (15, 0, 0, 0, 3, [])), (46, Sum.inl (29, 0, 0, 0, 47, []))]
theorem Z_X9_append (l : Launch) : ∀ q ∈ U_X9_append, zTok l O_X9_append F_X9_append q := zU_ok rfl rfl rfl K_X9_append (E_X9_append l)
def B_X12_lays : List (Nat × zC) := []
def O_X12_lays : zO := fun j a S K => match j with
  | _ => False
theorem E_X12_lays (l : Launch) : ∀ q ∈ B_X12_lays, zcok l O_X12_lays F_X12_lays q.1 q.2 := fun _ h => by cases h
def U_X12_lays : List (Nat × zE) := [(0, Sum.inl (0, 0, 0, 24, 2, [])), (2, Sum.inl (5, 2, 0, 0, 3, [])), (3, Sum.inl (2, 2, 0, 0, 4, [])), (4, Sum.inl (17, 1, 39, 0, 7, [])), (7, Sum.inl (4, 0, 0, 0, 8, [])), (8, Sum.inl (18, 12, 12, 0, 11, [])), (11, Sum.inl (4, 0, 0, 0, 12, [])), (12, Sum.inl (18, 12, 13, 0, 15, [])), (15, Sum.inl (2, 1, 0, 0, 16, [])), (16, Sum.inl (2, 2, 0, 0, 17, [])), (17, Sum.inl (9, 7, 0, 0, 18, [])), (18, Sum.inl (0, 0, 0, 255, 21, [])), (21, Sum.inl (9, 3, 0, 0, 22, [])), (22, Sum.inl (21, 0, 0, 0, 23, [])), (23, Sum.inl (4, 0, 0, 0, 24, [])), (24, Sum.inl (12, 0, 0, 0, 25, [])), (25, Sum.inl (18, 12, 13, 0, 28, [])), (28, Sum.inl (0, 0, 0, 1, 29, [])), (29, Sum.inl (9, 0, 0, 0, 30, [])), (30, Sum.inl (19, 12, 13, 0, 33, [])), (33, Sum.inl (8, 2, 0, (-8), 36, [])), (36, Sum.inl (15, 0, 0, 0, 3, [])), (39, Sum.inl (29, 0, 0, 0, 40, []))]
theorem Z_X12_lays (l : Launch) : ∀ q ∈ U_X12_lays, zTok l O_X12_lays F_X12_lays q := zU_ok rfl rfl rfl K_X12_lays (E_X12_lays l)
def wp_X9_append (a : List zV) (S : zS) (K : zR2 → zS → Prop) : Prop := match a with
  | [.inr (.inl c), .inl x] => ∃ T : zD, (c = 1 ∧ tC S T ∧ T 0 0 + 4 ≤ 700) ∧ ∀ S', tC S' (apT T x) → (∀ c, c ≠ 1 → c ≠ 2 → S' c = S c) → K (.inl none) S'
  | _ => False
def wp_X12_lays (a : List zV) (S : zS) (K : zR2 → zS → Prop) : Prop := match a with
  | [.inr (.inl c), .inl x] => ∃ T : zD, (c = 62 ∧ tM S T ∧ T 0 0 + 4 ≤ 700) ∧ ∀ S', tM S' (apT T x) → (∀ c j, c ≠ 70 → (c ≠ 62 ∨ j ≠ 13) → S' c j = S c j) → K (.inl none) S'
  | _ => False
def sAp (S : zS) (n : Nat) (x : Int) : zS := zu (zu (zu (zu (zu (zu (zu (zu S 2 n (zi2b (zi2b (zshr x 24)))) 1 1 ((n : Int) + 1)) 2 (n + 1) (zi2b (zi2b (zshr x 16)))) 1 1 ((n : Int) + 2)) 2 (n + 2) (zi2b (zi2b (zshr x 8)))) 1 1 ((n : Int) + 3)) 2 (n + 3) (zi2b (zi2b (zshr x 0)))) 1 1 ((n : Int) + 4)
theorem sAp_2 (S : zS) (n : Nat) (x : Int) (k : Nat) : sAp S n x 2 k = if k = n + 3 then zi2b (zi2b (zshr x 0)) else if k = n + 2 then zi2b (zi2b (zshr x 8)) else if k = n + 1 then zi2b (zi2b (zshr x 16)) else if k = n then zi2b (zi2b (zshr x 24)) else S 2 k := by
  show zu (zu (zu (zu S 2 n (zi2b (zi2b (zshr x 24)))) 2 (n + 1) (zi2b (zi2b (zshr x 16)))) 2 (n + 2) (zi2b (zi2b (zshr x 8)))) 2 (n + 3) (zi2b (zi2b (zshr x 0))) 2 k = _
  rw [zu_if, zu_if, zu_if, zu_if]
theorem R_X9_append (l : Launch) (a : List zV) (S : zS) (Q : zR2 → zS → Prop) (h : wp_X9_append a S Q) : zRs l 0 0 0 yX9_append (.code yX9_append cX9_append 3 (none)) a S Q := by
  unfold wp_X9_append at h
  split at h
  · rename_i c x
    obtain ⟨T, ⟨rfl, ⟨t1, t2⟩, h7⟩, h⟩ := h
    refine zRs.rng (fun _ hr => ?_)
    have hx : zir x := hr (.inl x) (by simp)
    have hf : Q (.inl none) (sAp S (T 0 0) x) := by
      refine h _ ⟨rfl, fun k hk => ?_⟩ (fun c h1 h2 => ?_)
      · have hk : k < T 0 0 + 4 := hk
        rw [sAp_2, apT_1]
        by_cases e3 : k = T 0 0 + 3
        · rw [if_pos e3, if_pos e3]; exact byN_c hx (by decide)
        by_cases e2 : k = T 0 0 + 2
        · rw [if_neg e3, if_neg e3, if_pos e2, if_pos e2]; exact byN_c hx (by decide)
        by_cases e1 : k = T 0 0 + 1
        · rw [if_neg e3, if_neg e3, if_neg e2, if_neg e2, if_pos e1, if_pos e1]; exact byN_c hx (by decide)
        by_cases e0 : k = T 0 0
        · rw [if_neg e3, if_neg e3, if_neg e2, if_neg e2, if_neg e1, if_neg e1, if_pos e0, if_pos e0]; exact byN_c hx (by decide)
        rw [if_neg e3, if_neg e3, if_neg e2, if_neg e2, if_neg e1, if_neg e1, if_neg e0, if_neg e0]
        exact t2 k (by omega)
      · unfold sAp
        rw [zu_c h1, zu_c h2, zu_c h1, zu_c h2, zu_c h1, zu_c h2, zu_c h1, zu_c h2]
    refine zRs_of 9 (by decide) rfl rfl ?_; refine zwq_ok (Z_X9_append l) rfl [] (fun _ _ _ _ _ _ h => h) 400 (Z_X9_append l) ?_
    have g1 : S 1 1 + 1 = (T 0 0 : Int) + 1 := by omega
    repeat' (first | refine And.intro ?_ ?_ | (intro _; try omega) | omega | refine ⟨T 0 0, ⟨by (first | omega | (simp only [zu, Nat.reduceBEq, Bool.false_and, Bool.true_and, Bool.and_true, Bool.and_false, cond_false, cond_true, beq_self_eq_true]; omega)), by omega⟩, ?_⟩ | refine ⟨T 0 0 + 1, ⟨by (first | omega | (simp only [zu, Nat.reduceBEq, Bool.false_and, Bool.true_and, Bool.and_true, Bool.and_false, cond_false, cond_true, beq_self_eq_true]; omega)), by omega⟩, ?_⟩ | refine ⟨T 0 0 + 2, ⟨by (first | omega | (simp only [zu, Nat.reduceBEq, Bool.false_and, Bool.true_and, Bool.and_true, Bool.and_false, cond_false, cond_true, beq_self_eq_true]; omega)), by omega⟩, ?_⟩ | refine ⟨T 0 0 + 3, ⟨by (first | omega | (simp only [zu, Nat.reduceBEq, Bool.false_and, Bool.true_and, Bool.and_true, Bool.and_false, cond_false, cond_true, beq_self_eq_true]; omega)), by omega⟩, ?_⟩ | fail)
    all_goals trace_state
    all_goals sorry
  · exact h.elim
