/-! Doors: what one may do by a sign; chances; how many rows -/
/-- a bit of what one may do, as the class keeps it -/
def cbt (m c : Nat) : Bool := Nat.beq (bt1 (spr m) c) 1
/-- what l may do at k by which his door has the sign s, in the model's numbers -/
def gmF (D : zD) (l k s : Nat) (a : Nat) : Bool := Nat.beq (bt1 (dM D k) a) 1 && Nat.beq (sigD D l a) s
def gmD (D : zD) (l k s : Nat) : Nat := msk (gmF D l k s) 12
def gcF (D : zD) (l k s : Nat) (c : Nat) : Bool := Nat.beq (bt1 (spr (dM D k)) c) 1 && Nat.beq (sigD D l c) s
def bti (b : Bool) : Nat := bif b then 1 else 0
theorem bti_le (b : Bool) : bti b ≤ 1 := by cases b <;> decide
theorem msk_s (f : Nat → Bool) (j : Nat) : msk f (j + 1) = msk f j + 2 ^ j * bti (f j) := by
  show msk f j + (bif f j then 2 ^ j else 0) = _
  cases f j
  · show _ = msk f j + 2 ^ j * 0; rw [Nat.mul_zero]; rfl
  · show _ = msk f j + 2 ^ j * 1; rw [Nat.mul_one]; rfl
theorem spr_bits : ∀ m, m < 4096 → (∀ c, c < 4 → bt1 (spr m) c = bt1 m c) ∧ (∀ c, c < 6 → bt1 (spr m) (4 + c) = 0) ∧ (∀ c, c < 8 → bt1 (spr m) (10 + c) = bt1 m (4 + c)) := by
  intro m hm
  have e : ∀ c, c < 18 → bt1 (spr m) c = 1 → ∃ a, a ∈ bl m ∧ tol a = c := by
    intro c hc h
    have : c ∈ bl (spr m) := bl_mem.mpr ⟨hc, h⟩
    rw [(chkA_ok hm).2.1] at this
    exact List.mem_map.mp this
  have e2 : ∀ a, a < 12 → bt1 m a = 1 → bt1 (spr m) (tol a) = 1 := by
    intro a ha h
    have : tol a ∈ (bl m).map tol := List.mem_map.mpr ⟨a, bl_mem.mpr ⟨by omega, h⟩, rfl⟩
    rw [← (chkA_ok hm).2.1] at this
    exact (bl_mem.mp this).2
  have tl : ∀ a c, tol a = c → (a < 4 ∧ c = a) ∨ (4 ≤ a ∧ c = a + 6) := by
    intro a c h
    by_cases ha : a < 4
    · rw [tol_1 ha] at h; exact Or.inl ⟨ha, h.symm⟩
    · rw [tol_2 ha] at h; exact Or.inr ⟨by omega, h.symm⟩
  refine ⟨fun c hc => ?_, fun c hc => ?_, fun c hc => ?_⟩
  · have b1 := bt1_lt (spr m) c
    have b2 := bt1_lt m c
    by_cases h : bt1 m c = 1
    · have := e2 c (by omega) h
      rw [tol_1 hc] at this
      omega
    · by_cases h2 : bt1 (spr m) c = 1
      · obtain ⟨a, ha, hta⟩ := e c (by omega) h2
        rcases tl a c hta with ⟨_, rfl⟩ | ⟨_, _⟩
        · exact absurd (bl_mem.mp ha).2 h
        · omega
      · omega
  · have b1 := bt1_lt (spr m) (4 + c)
    by_cases h2 : bt1 (spr m) (4 + c) = 1
    · obtain ⟨a, ha, hta⟩ := e (4 + c) (by omega) h2
      rcases tl a _ hta with ⟨_, _⟩ | ⟨_, _⟩ <;> omega
    · omega
  · have b1 := bt1_lt (spr m) (10 + c)
    have b2 := bt1_lt m (4 + c)
    by_cases h : bt1 m (4 + c) = 1
    · have := e2 (4 + c) (by omega) h
      rw [tol_2 (by omega), show 4 + c + 6 = 10 + c by omega] at this
      omega
    · by_cases h2 : bt1 (spr m) (10 + c) = 1
      · obtain ⟨a, ha, hta⟩ := e (10 + c) (by omega) h2
        rcases tl a _ hta with ⟨_, _⟩ | ⟨_, h3⟩
        · omega
        · have : a = 4 + c := by omega
          rw [this] at ha
          exact absurd (bl_mem.mp ha).2 h
      · omega
theorem gc_gm {D : zD} {l k s : Nat} (hm : dM D k < 4096) : msk (gcF D l k s) 18 = spr (gmD D l k s) := by
  obtain ⟨s1, s2, s3⟩ := spr_bits (dM D k) hm
  have g1 : ∀ c, c < 4 → gcF D l k s c = gmF D l k s c := fun c hc => by unfold gcF gmF; rw [s1 c hc]
  have g2 : ∀ c, c < 6 → gcF D l k s (4 + c) = false := fun c hc => by unfold gcF; rw [s2 c hc]; rfl
  have g3 : ∀ c, c < 8 → gcF D l k s (10 + c) = gmF D l k s (4 + c) := fun c hc => by
    unfold gcF gmF sigD lawD
    rw [s3 c hc, if_neg (by omega), if_neg (by omega)]
  unfold gmD spr
  simp only [msk_s]
  have w0 : gcF D l k s 4 = false := g2 0 (by omega)
  have w1 : gcF D l k s 5 = false := g2 1 (by omega)
  have w2 : gcF D l k s 6 = false := g2 2 (by omega)
  have w3 : gcF D l k s 7 = false := g2 3 (by omega)
  have w4 : gcF D l k s 8 = false := g2 4 (by omega)
  have w5 : gcF D l k s 9 = false := g2 5 (by omega)
  have v0 : gcF D l k s 10 = gmF D l k s 4 := g3 0 (by omega)
  have v1 : gcF D l k s 11 = gmF D l k s 5 := g3 1 (by omega)
  have v2 : gcF D l k s 12 = gmF D l k s 6 := g3 2 (by omega)
  have v3 : gcF D l k s 13 = gmF D l k s 7 := g3 3 (by omega)
  have v4 : gcF D l k s 14 = gmF D l k s 8 := g3 4 (by omega)
  have v5 : gcF D l k s 15 = gmF D l k s 9 := g3 5 (by omega)
  have v6 : gcF D l k s 16 = gmF D l k s 10 := g3 6 (by omega)
  have v7 : gcF D l k s 17 = gmF D l k s 11 := g3 7 (by omega)
  rw [g1 0 (by omega), g1 1 (by omega), g1 2 (by omega), g1 3 (by omega), w0, w1, w2, w3, w4, w5, v0, v1, v2, v3, v4, v5, v6, v7]
  have h0 := bti_le (gmF D l k s 0)
  have h1 := bti_le (gmF D l k s 1)
  have h2 := bti_le (gmF D l k s 2)
  have h3 := bti_le (gmF D l k s 3)
  simp only [show bti false = 0 from rfl, show msk (gcF D l k s) 0 = 0 from rfl, show msk (gmF D l k s) 0 = 0 from rfl]
  omega
theorem gm_lt (D : zD) (l k s : Nat) : gmD D l k s < 4096 := msk_lt _ 12
def B_X3_doingsBySign : List (Nat × zC) := [(6, (0, 0, 2, 0, 0, 0, 6)), (16, (0, 1, 1, 0, 0, 0, 0)), (51, (0, 2, 1, 0, 0, 0, 6))]
def O_X3_doingsBySign : zO := fun j a S K => match j with
  | 0 => wp_X6_doings a S K
  | 1 => wp_X0_shoeKinds a S K
  | 2 => wp_X6_lawFor a S K
  | _ => False
theorem E_X3_doingsBySign (l : Launch) : ∀ q ∈ B_X3_doingsBySign, zcok l O_X3_doingsBySign F_X3_doingsBySign q.1 q.2 := List.forall_mem_cons.mpr ⟨⟨41, yX6_doings, cX6_doings, 4, some .int, by decide +kernel, C_3_41, W_X6_doings, I_X6_doings, S_X6_doings, rfl, rfl, R_X6_doings l⟩, List.forall_mem_cons.mpr ⟨⟨25, yX0_shoeKinds, cX0_shoeKinds, 4, some .int, by decide +kernel, C_3_25, W_X0_shoeKinds, I_X0_shoeKinds, S_X0_shoeKinds, rfl, rfl, R_X0_shoeKinds l⟩, List.forall_mem_cons.mpr ⟨⟨19, yX6_lawFor, cX6_lawFor, 2, some .int, by decide +kernel, C_3_19, W_X6_lawFor, I_X6_lawFor, S_X6_lawFor, rfl, rfl, R_X6_lawFor l⟩, fun _ h => by cases h⟩⟩⟩
def U_X3_doingsBySign : List (Nat × zE) := [(0, Sum.inl (4, 0, 0, 0, 1, [])), (1, Sum.inl (18, 3, 0, 0, 4, [])), (4, Sum.inl (2, 1, 0, 0, 5, [])), (5, Sum.inl (2, 2, 0, 0, 6, [])), (6, Sum.inr (0, 0, 2, 0, 0, 0, 6)), (9, Sum.inl (5, 4, 0, 0, 11, [])), (11, Sum.inl (4, 0, 0, 0, 12, [])), (12, Sum.inl (18, 3, 1, 0, 15, [])), (15, Sum.inl (2, 1, 0, 0, 16, [])), (16, Sum.inr (0, 1, 1, 0, 0, 0, 0)), (19, Sum.inl (5, 5, 0, 0, 21, [])), (21, Sum.inl (0, 0, 0, 0, 22, [])), (22, Sum.inl (5, 6, 0, 0, 24, [])), (24, Sum.inl (0, 0, 0, 0, 25, [])), (25, Sum.inl (5, 7, 0, 0, 27, [])), (27, Sum.inl (2, 7, 0, 0, 29, [])), (29, Sum.inl (0, 0, 0, 18, 31, [])), (31, Sum.inl (16, 1, 34, 0, 76, [])), (34, Sum.inl (2, 4, 0, 0, 36, [])), (36, Sum.inl (2, 7, 0, 0, 38, [])), (38, Sum.inl (9, 7, 0, 0, 39, [])), (39, Sum.inl (0, 0, 0, 1, 40, [])), (40, Sum.inl (9, 3, 0, 0, 41, [])), (41, Sum.inl (0, 0, 0, 1, 42, [])), (42, Sum.inl (16, 0, 45, 0, 70, [])), (45, Sum.inl (4, 0, 0, 0, 46, [])), (46, Sum.inl (18, 3, 0, 0, 49, [])), (49, Sum.inl (2, 7, 0, 0, 51, [])), (51, Sum.inr (0, 2, 1, 0, 0, 0, 6)), (54, Sum.inl (2, 5, 0, 0, 56, [])), (56, Sum.inl (9, 3, 0, 0, 57, [])), (57, Sum.inl (2, 3, 0, 0, 58, [])), (58, Sum.inl (16, 0, 61, 0, 70, [])), (61, Sum.inl (2, 6, 0, 0, 63, [])), (63, Sum.inl (0, 0, 0, 1, 64, [])), (64, Sum.inl (2, 7, 0, 0, 66, [])), (66, Sum.inl (9, 6, 0, 0, 67, [])), (67, Sum.inl (9, 4, 0, 0, 68, [])), (68, Sum.inl (5, 6, 0, 0, 70, [])), (70, Sum.inl (8, 7, 0, 1, 73, [])), (73, Sum.inl (15, 0, 0, 0, 27, [])), (76, Sum.inl (2, 6, 0, 0, 78, [])), (78, Sum.inl (27, 0, 0, 0, 79, []))]
theorem Z_X3_doingsBySign (l : Launch) : ∀ q ∈ U_X3_doingsBySign, zTok l O_X3_doingsBySign F_X3_doingsBySign q := zU_ok rfl rfl rfl K_X3_doingsBySign (E_X3_doingsBySign l)
def wp_X3_doingsBySign (a : List zV) (S : zS) (K : zR2 → zS → Prop) : Prop := match a with
  | [.inr (.inl c), .inl x, .inl y, .inl z] => ∃ (D : zD) (i t s : Nat), (c = 36 ∧ dOK D ∧ cOK S D ∧ x = (i : Int) ∧ y = (t : Int) ∧ z = (s : Int) ∧ i < dL D ∧ t < 24) ∧ K (.inl (some (.inl (spr (gmD D i (24 * i + t) s) : Int)))) S
  | _ => False
theorem L_X3_doingsBySign {l : Launch} {S : zS} {Q : zR2 → zS → Prop} {D : zD} {i t s : Nat} (hD : dOK D) (hC : cOK S D) (hi : i < dL D) (ht : t < 24) (h : Q (.inl (some (.inl (spr (gmD D i (24 * i + t) s) : Int)))) S) (f : Nat) : ∀ j, j + f = 18 → zGs l 1 0 0 F_X3_doingsBySign S 27 [(0, .inr (.inl 36)), (1, .inl (i : Int)), (2, .inl (t : Int)), (3, .inl (s : Int)), (4, .inl (spr (dM D (24 * i + t)) : Int)), (5, .inl (kinD D i : Int)), (6, .inl (msk (gcF D i (24 * i + t) s) j : Int)), (7, .inl (j : Int))] [] Q := by
  have hm := hD.may (24 * i + t) (by have := hD.lodgers; omega)
  have hs := (chkA_ok hm.2).2.2.2
  induction f with
  | zero =>
    intro j hj
    have : j = 18 := by omega
    subst this
    rw [gc_gm hm.2]
    refine zwq_ok (Z_X3_doingsBySign l) rfl [27] (fun _ _ _ _ _ _ h => h) 400 (Z_X3_doingsBySign l) ?_
    exact ⟨fun c => by omega, fun c => h⟩
  | succ f ih =>
    intro j hj
    have e := zbit_n (a := spr (dM D (24 * i + t))) (j := j) (by omega) (by omega)
    have hlt := msk_lt (gcF D i (24 * i + t) s) j
    have hp : 2 ^ j ≤ 2 ^ 17 := Nat.pow_le_pow_right (by decide) (by omega)
    refine zwq_ok (Z_X3_doingsBySign l) rfl [27] (fun _ _ _ _ _ _ h => h) 400 (Z_X3_doingsBySign l) ?_
    refine ⟨fun c => ⟨fun c2 => ⟨D, j, ⟨rfl, hC, rfl⟩, fun c3 => ⟨by omega, ?_⟩, fun c3 => ⟨by omega, ?_⟩⟩, fun c2 => ⟨by omega, ?_⟩⟩, fun c => by omega⟩
    · rw [e] at c2
      rw [sig_ok hD] at c3
      have hf : gcF D i (24 * i + t) s j = true := by
        unfold gcF
        rw [show bt1 (spr (dM D (24 * i + t))) j = 1 by omega, show sigD D i j = s by omega]
        simp
      have e9 : zor (msk (gcF D i (24 * i + t) s) j : Int) (zshl 1 (j : Int)) = (msk (gcF D i (24 * i + t) s) (j + 1) : Int) := by
        rw [zsh1_n (by omega), zor_n (by omega) (by omega), msk_or _ _ hf]
      rw [e9]
      exact ih (j + 1) (by omega)
    · rw [sig_ok hD] at c3
      have hf : gcF D i (24 * i + t) s j = false := by
        unfold gcF
        rw [show Nat.beq (sigD D i j) s = false by
          cases hb : Nat.beq (sigD D i j) s
          · rfl
          · have := Nat.eq_of_beq_eq_true hb; omega, Bool.and_false]
      have := ih (j + 1) (by omega)
      rw [msk_no _ _ hf] at this
      exact this
    · rw [e] at c2
      have hf : gcF D i (24 * i + t) s j = false := by
        unfold gcF
        rw [show Nat.beq (bt1 (spr (dM D (24 * i + t))) j) 1 = false by
          cases hb : Nat.beq (bt1 (spr (dM D (24 * i + t))) j) 1
          · rfl
          · have := Nat.eq_of_beq_eq_true hb; omega, Bool.false_and]
      have := ih (j + 1) (by omega)
      rw [msk_no _ _ hf] at this
      exact this
theorem R_X3_doingsBySign (l : Launch) (a : List zV) (S : zS) (Q : zR2 → zS → Prop) (h : wp_X3_doingsBySign a S Q) : zRs l 1 0 0 yX3_doingsBySign (.code yX3_doingsBySign cX3_doingsBySign 8 (some .int)) a S Q := by
  unfold wp_X3_doingsBySign at h
  split at h
  · obtain ⟨D, i, t, s, ⟨rfl, hD, hC, rfl, rfl, rfl, hi, ht⟩, h⟩ := h
    refine zRs_of 3 (by decide) rfl rfl ?_; refine zwq_ok (Z_X3_doingsBySign l) rfl [27] (fun _ _ _ _ _ _ h => h) 400 (Z_X3_doingsBySign l) ?_
    refine ⟨D, i, t, ⟨rfl, hD, hC, rfl, rfl, hi, ht⟩, D, i, ⟨rfl, hD, hC, rfl, hi⟩, ?_⟩
    exact L_X3_doingsBySign hD hC hi ht h 18 0 (by omega)
  · exact h.elim
/-- the chance that no shoe stands there -/
def chaD (D : zD) (r t : Nat) : Nat := if dW D r = 0 then 0 else 27720 * (bl (gmD D (dW D r - 1) (24 * (dW D r - 1) + t) 0)).length / (bl (dM D (24 * (dW D r - 1) + t))).length
def B_X3_chanceAt : List (Nat × zC) := [(23, (0, 0, 2, 0, 0, 0, 6)), (26, (1, 1, 1, 0, 0, 0, 0)), (45, (0, 2, 3, 1, 0, 0, 3)), (48, (1, 1, 1, 0, 0, 0, 0))]
def O_X3_chanceAt : zO := fun j a S K => match j with
  | 0 => wp_X6_doings a S K
  | 1 => wp_J6_bitCount_0f7a4 a S K
  | 2 => wp_X3_doingsBySign a S K
  | _ => False
theorem E_X3_chanceAt (l : Launch) : ∀ q ∈ B_X3_chanceAt, zcok l O_X3_chanceAt F_X3_chanceAt q.1 q.2 := List.forall_mem_cons.mpr ⟨⟨41, yX6_doings, cX6_doings, 4, some .int, by decide +kernel, C_3_41, W_X6_doings, I_X6_doings, S_X6_doings, rfl, rfl, R_X6_doings l⟩, List.forall_mem_cons.mpr ⟨⟨44, yJ6_bitCount_0f7a4, cJ6_bitCount_0f7a4, 1, some .int, by decide +kernel, C_3_44, W_J6_bitCount_0f7a4, I_J6_bitCount_0f7a4, rfl, R_J6_bitCount_0f7a4 l⟩, List.forall_mem_cons.mpr ⟨⟨49, yX3_doingsBySign, cX3_doingsBySign, 8, some .int, by decide +kernel, C_3_49, W_X3_doingsBySign, I_X3_doingsBySign, S_X3_doingsBySign, rfl, rfl, R_X3_doingsBySign l⟩, List.forall_mem_cons.mpr ⟨⟨44, yJ6_bitCount_0f7a4, cJ6_bitCount_0f7a4, 1, some .int, by decide +kernel, C_3_44, W_J6_bitCount_0f7a4, I_J6_bitCount_0f7a4, rfl, R_J6_bitCount_0f7a4 l⟩, fun _ h => by cases h⟩⟩⟩⟩
def U_X3_chanceAt : List (Nat × zE) := [(0, Sum.inl (4, 0, 0, 0, 1, [])), (1, Sum.inl (18, 3, 0, 0, 4, [])), (4, Sum.inl (18, 6, 1, 0, 7, [])), (7, Sum.inl (2, 1, 0, 0, 8, [])), (8, Sum.inl (20, 0, 0, 0, 9, [])), (9, Sum.inl (5, 3, 0, 0, 10, [])), (10, Sum.inl (2, 3, 0, 0, 11, [])), (11, Sum.inl (0, 0, 0, (-1), 12, [])), (12, Sum.inl (16, 0, 15, 0, 17, [])), (15, Sum.inl (0, 0, 0, 0, 16, [])), (16, Sum.inl (27, 0, 0, 0, 17, [])), (17, Sum.inl (4, 0, 0, 0, 18, [])), (18, Sum.inl (18, 3, 0, 0, 21, [])), (21, Sum.inl (2, 3, 0, 0, 22, [])), (22, Sum.inl (2, 2, 0, 0, 23, [])), (23, Sum.inr (0, 0, 2, 0, 0, 0, 6)), (26, Sum.inr (1, 1, 1, 0, 0, 0, 0)), (29, Sum.inl (5, 4, 0, 0, 31, [])), (31, Sum.inl (2, 4, 0, 0, 33, [])), (33, Sum.inl (17, 0, 36, 0, 38, [])), (36, Sum.inl (0, 0, 0, 0, 37, [])), (37, Sum.inl (27, 0, 0, 0, 38, [])), (38, Sum.inl (0, 0, 0, 27720, 41, [])), (41, Sum.inl (4, 0, 0, 0, 42, [])), (42, Sum.inl (2, 3, 0, 0, 43, [])), (43, Sum.inl (2, 2, 0, 0, 44, [])), (44, Sum.inl (0, 0, 0, 0, 45, [])), (45, Sum.inr (0, 2, 3, 1, 0, 0, 3)), (48, Sum.inr (1, 1, 1, 0, 0, 0, 0)), (51, Sum.inl (9, 2, 0, 0, 52, [])), (52, Sum.inl (2, 4, 0, 0, 54, [])), (54, Sum.inl (9, 9, 0, 0, 55, [])), (55, Sum.inl (27, 0, 0, 0, 56, []))]
theorem Z_X3_chanceAt (l : Launch) : ∀ q ∈ U_X3_chanceAt, zTok l O_X3_chanceAt F_X3_chanceAt q := zU_ok rfl rfl rfl K_X3_chanceAt (E_X3_chanceAt l)
theorem bl_pos {m : Nat} (h : 1 ≤ m) (h2 : m < 4096) : 0 < (bl m).length := by
  have h3 : bcN (spr m) = (bl m).length := (chkA_ok h2).1
  by_cases c : 0 < (bl m).length
  · exact c
  · have e : bl m = [] := List.eq_nil_of_length_eq_zero (by omega)
    have hb : ∀ j, j < 18 → bt1 m j = 0 := by
      intro j hj
      have := bt1_lt m j
      by_cases z : bt1 m j = 1
      · have : j ∈ bl m := bl_mem.mpr ⟨hj, z⟩
        rw [e] at this
        cases this
      · omega
    have g : ∀ j, j ≤ 12 → m / 2 ^ (12 - j) = 0 := by
      intro j
      induction j with
      | zero => intro _; exact Nat.div_eq_of_lt h2
      | succ j ih =>
        intro hj
        have i1 := ih (by omega)
        have i2 := hb (12 - (j + 1)) (by omega)
        unfold bt1 at i2
        have e3 : 12 - j = 12 - (j + 1) + 1 := by omega
        rw [e3, Nat.pow_succ, ← Nat.div_div_eq_div_mul] at i1
        omega
    have := g 12 (by omega)
    simp at this
    omega
def wp_X3_chanceAt (a : List zV) (S : zS) (K : zR2 → zS → Prop) : Prop := match a with
  | [.inr (.inl c), .inl x, .inl y] => ∃ (D : zD) (r t : Nat), (c = 36 ∧ dOK D ∧ cOK S D ∧ x = (r : Int) ∧ y = (t : Int) ∧ r < dR D ∧ t < 24) ∧ K (.inl (some (.inl (chaD D r t : Int)))) S
  | _ => False
theorem R_X3_chanceAt (l : Launch) (a : List zV) (S : zS) (Q : zR2 → zS → Prop) (h : wp_X3_chanceAt a S Q) : zRs l 2 0 0 yX3_chanceAt (.code yX3_chanceAt cX3_chanceAt 5 (some .int)) a S Q := by
  unfold wp_X3_chanceAt at h
  split at h
  · obtain ⟨D, r, t, ⟨rfl, hD, hC, rfl, rfl, hr, ht⟩, h⟩ := h
    have h8 := hD.rooms
    have h6 := hD.lodgers
    have hw := hC.tenant r hr
    have hw2 := hD.whose r hr
    unfold chaD at h
    refine zRs_of 3 (by decide) rfl rfl ?_; refine zwq_ok (Z_X3_chanceAt l) rfl [] (fun _ _ _ _ _ _ h => h) 400 (Z_X3_chanceAt l) ?_
    refine ⟨r, ⟨rfl, by omega⟩, fun c => ?_, fun c => ?_⟩
    · rw [if_pos (by omega)] at h; exact h
    · rw [if_neg (by omega)] at h
      have hm := hD.may (24 * (dW D r - 1) + t) (by omega)
      have hp := bl_pos hm.1 hm.2
      have hg := bl_le (gmD D (dW D r - 1) (24 * (dW D r - 1) + t) 0)
      refine ⟨D, dW D r - 1, t, ⟨rfl, hD, hC, by omega, rfl, by omega, ht⟩, _, dM D (24 * (dW D r - 1) + t), ⟨rfl, Or.inr ⟨rfl, hm.2⟩⟩, fun c2 => by omega, fun c2 => ?_⟩
      refine ⟨D, dW D r - 1, t, 0, ⟨rfl, hD, hC, by omega, rfl, rfl, by omega, ht⟩, _, gmD D (dW D r - 1) (24 * (dW D r - 1) + t) 0, ⟨rfl, Or.inr ⟨rfl, gm_lt _ _ _ _⟩⟩, by omega, by omega, ?_⟩
      exact h
  · exact h.elim
def B_X3_worthOf : List (Nat × zC) := [(12, (0, 0, 2, 2, 0, 0, 3))]
def O_X3_worthOf : zO := fun j a S K => match j with
  | 0 => wp_X3_chanceAt a S K
  | _ => False
theorem E_X3_worthOf (l : Launch) : ∀ q ∈ B_X3_worthOf, zcok l O_X3_worthOf F_X3_worthOf q.1 q.2 := List.forall_mem_cons.mpr ⟨⟨56, yX3_chanceAt, cX3_chanceAt, 5, some .int, by decide +kernel, C_3_56, W_X3_chanceAt, I_X3_chanceAt, S_X3_chanceAt, rfl, rfl, R_X3_chanceAt l⟩, fun _ h => by cases h⟩
def U_X3_worthOf : List (Nat × zE) := [(0, Sum.inl (4, 0, 0, 0, 1, [])), (1, Sum.inl (18, 3, 0, 0, 4, [])), (4, Sum.inl (18, 6, 0, 0, 7, [])), (7, Sum.inl (2, 1, 0, 0, 8, [])), (8, Sum.inl (20, 0, 0, 0, 9, [])), (9, Sum.inl (4, 0, 0, 0, 10, [])), (10, Sum.inl (2, 1, 0, 0, 11, [])), (11, Sum.inl (2, 2, 0, 0, 12, [])), (12, Sum.inr (0, 0, 2, 2, 0, 0, 3)), (15, Sum.inl (9, 2, 0, 0, 16, [])), (16, Sum.inl (27, 0, 0, 0, 17, []))]
theorem Z_X3_worthOf (l : Launch) : ∀ q ∈ U_X3_worthOf, zTok l O_X3_worthOf F_X3_worthOf q := zU_ok rfl rfl rfl K_X3_worthOf (E_X3_worthOf l)
def worD (D : zD) (r t : Nat) : Nat := dG D r * chaD D r t
theorem cha_le {D : zD} (hD : dOK D) {r t : Nat} (hr : r < dR D) (ht : t < 24) : chaD D r t ≤ 498960 := by
  unfold chaD
  split
  · omega
  · rename_i c
    have hw2 := hD.whose r hr
    have hg := bl_le (gmD D (dW D r - 1) (24 * (dW D r - 1) + t) 0)
    refine Nat.le_trans (Nat.div_le_self _ _) ?_
    omega
theorem wor_le {D : zD} (hD : dOK D) {r t : Nat} (hr : r < dR D) (ht : t < 24) : worD D r t ≤ 49397040 := by
  have h1 := cha_le hD hr ht
  have h2 := hD.goods r hr
  have := Nat.mul_le_mul h2 h1
  unfold worD
  omega
def wp_X3_worthOf (a : List zV) (S : zS) (K : zR2 → zS → Prop) : Prop := match a with
  | [.inr (.inl c), .inl x, .inl y] => ∃ (D : zD) (r t : Nat), (c = 36 ∧ dOK D ∧ cOK S D ∧ x = (r : Int) ∧ y = (t : Int) ∧ r < dR D ∧ t < 24) ∧ K (.inl (some (.inl (worD D r t : Int)))) S
  | _ => False
theorem R_X3_worthOf (l : Launch) (a : List zV) (S : zS) (Q : zR2 → zS → Prop) (h : wp_X3_worthOf a S Q) : zRs l 3 0 0 yX3_worthOf (.code yX3_worthOf cX3_worthOf 3 (some .int)) a S Q := by
  unfold wp_X3_worthOf at h
  split at h
  · obtain ⟨D, r, t, ⟨rfl, hD, hC, rfl, rfl, hr, ht⟩, h⟩ := h
    have h8 := hD.rooms
    have hw := wor_le hD hr ht
    have e : S 4 r * (chaD D r t : Int) = (worD D r t : Int) := by
      rw [hC.goods r hr]
      unfold worD
      rw [Int.natCast_mul]
    rw [← e] at h
    refine zRs_of 3 (by decide) rfl rfl ?_; refine zwq_ok (Z_X3_worthOf l) rfl [] (fun _ _ _ _ _ _ h => h) 400 (Z_X3_worthOf l) ?_
    refine ⟨r, ⟨rfl, by omega⟩, D, r, t, ⟨rfl, hD, hC, rfl, rfl, hr, ht⟩, ?_, h⟩
    rw [e]
    omega
  · exact h.elim
/-- how many rows there are for the first n lodgers -/
def rowD (D : zD) (t : Nat) : Nat → Nat
  | 0 => 1
  | n + 1 => rowD D t n * (bl (dM D (24 * n + t))).length
theorem bl_12 {m : Nat} (h : m < 4096) : (bl m).length ≤ 12 := by
  have e : ∀ f j, (blS m (f + 12) j).length ≤ 12 + f := fun f j => by have := blS_le m (f + 12) j; omega
  unfold bl
  have g : ∀ f j, 12 ≤ j → blS m f j = [] := by
    intro f
    induction f with
    | zero => intro j _; rfl
    | succ f ih =>
      intro j hj
      rw [blS_0 (by rw [bt1_hi (k := 12) h hj]; omega)]
      exact ih (j + 1) (by omega)
  have k : ∀ f j, j + f = 12 → blS m (f + 6) j = blS m f j := by
    intro f
    induction f with
    | zero => intro j hj; exact g 6 j (by omega)
    | succ f ih =>
      intro j hj
      rw [show f + 1 + 6 = (f + 6) + 1 by omega]
      by_cases hb : bt1 m j = 1
      · rw [blS_1 hb, blS_1 hb, ih (j + 1) (by omega)]
      · rw [blS_0 hb, blS_0 hb, ih (j + 1) (by omega)]
  rw [k 12 0 (by omega)]
  exact blS_le m 12 0
theorem row_le {D : zD} (hD : dOK D) {t : Nat} (ht : t < 24) : ∀ n, n ≤ dL D → 1 ≤ rowD D t n ∧ rowD D t n ≤ 12 ^ n := by
  intro n
  induction n with
  | zero => intro _; exact ⟨Nat.le_refl 1, Nat.le_refl 1⟩
  | succ n ih =>
    intro hn
    obtain ⟨i1, i2⟩ := ih (by omega)
    have hm := hD.may (24 * n + t) (by omega)
    have b1 := bl_pos hm.1 hm.2
    have b2 := bl_12 hm.2
    refine ⟨Nat.mul_pos i1 b1, ?_⟩
    rw [Nat.pow_succ]
    exact Nat.mul_le_mul i2 b2
def spnD (D : zD) (t : Nat) : Int := if 4000 < rowD D t (dL D) then -2 else (rowD D t (dL D) : Int)
def B_X6_rowsOf : List (Nat × zC) := [(16, (0, 0, 2, 0, 0, 0, 6)), (19, (1, 1, 1, 0, 0, 0, 0))]
def O_X6_rowsOf : zO := fun j a S K => match j with
  | 0 => wp_X6_doings a S K
  | 1 => wp_J6_bitCount_0f7a4 a S K
  | _ => False
theorem E_X6_rowsOf (l : Launch) : ∀ q ∈ B_X6_rowsOf, zcok l O_X6_rowsOf F_X6_rowsOf q.1 q.2 := List.forall_mem_cons.mpr ⟨⟨64, yX6_doings, cX6_doings, 4, some .int, by decide +kernel, C_6_64, W_X6_doings, I_X6_doings, S_X6_doings, rfl, rfl, R_X6_doings l⟩, List.forall_mem_cons.mpr ⟨⟨68, yJ6_bitCount_0f7a4, cJ6_bitCount_0f7a4, 1, some .int, by decide +kernel, C_6_68, W_J6_bitCount_0f7a4, I_J6_bitCount_0f7a4, rfl, R_J6_bitCount_0f7a4 l⟩, fun _ h => by cases h⟩⟩
def U_X6_rowsOf : List (Nat × zE) := [(0, Sum.inl (0, 0, 0, 1, 1, [])), (1, Sum.inl (5, 2, 0, 0, 2, [])), (2, Sum.inl (0, 0, 0, 0, 3, [])), (3, Sum.inl (5, 3, 0, 0, 4, [])), (4, Sum.inl (2, 3, 0, 0, 5, [])), (5, Sum.inl (4, 0, 0, 0, 6, [])), (6, Sum.inl (18, 6, 8, 0, 9, [])), (9, Sum.inl (16, 1, 12, 0, 30, [])), (12, Sum.inl (2, 2, 0, 0, 13, [])), (13, Sum.inl (4, 0, 0, 0, 14, [])), (14, Sum.inl (2, 3, 0, 0, 15, [])), (15, Sum.inl (2, 1, 0, 0, 16, [])), (16, Sum.inr (0, 0, 2, 0, 0, 0, 6)), (19, Sum.inr (1, 1, 1, 0, 0, 0, 0)), (22, Sum.inl (9, 2, 0, 0, 23, [])), (23, Sum.inl (5, 2, 0, 0, 24, [])), (24, Sum.inl (8, 3, 0, 1, 27, [])), (27, Sum.inl (15, 0, 0, 0, 4, [])), (30, Sum.inl (2, 2, 0, 0, 31, [])), (31, Sum.inl (0, 0, 0, 4000, 34, [])), (34, Sum.inl (16, 2, 37, 0, 42, [])), (37, Sum.inl (0, 0, 0, (-2), 39, [])), (39, Sum.inl (15, 0, 0, 0, 43, [])), (42, Sum.inl (2, 2, 0, 0, 43, [])), (43, Sum.inl (27, 0, 0, 0, 44, []))]
theorem Z_X6_rowsOf (l : Launch) : ∀ q ∈ U_X6_rowsOf, zTok l O_X6_rowsOf F_X6_rowsOf q := zU_ok rfl rfl rfl K_X6_rowsOf (E_X6_rowsOf l)
def wp_X6_rowsOf (a : List zV) (S : zS) (K : zR2 → zS → Prop) : Prop := match a with
  | [.inr (.inl c), .inl y] => ∃ (D : zD) (t : Nat), (c = 3 ∧ dOK D ∧ cOK S D ∧ y = (t : Int) ∧ t < 24) ∧ K (.inl (some (.inl (spnD D t)))) S
  | _ => False
theorem L_X6_rowsOf {l : Launch} {S : zS} {Q : zR2 → zS → Prop} {D : zD} {t : Nat} (hD : dOK D) (hC : cOK S D) (ht : t < 24) (h : Q (.inl (some (.inl (spnD D t)))) S) (f : Nat) : ∀ j, j + f = dL D → zGs l 1 0 0 F_X6_rowsOf S 4 [(0, .inr (.inl 3)), (1, .inl (t : Int)), (2, .inl (rowD D t j : Int)), (3, .inl (j : Int))] [] Q := by
  have h6 := hD.lodgers
  have hl := hC.lodgers
  induction f with
  | zero =>
    intro j hj
    have : j = dL D := by omega
    subst this
    unfold spnD at h
    refine zwq_ok (Z_X6_rowsOf l) rfl [4] (fun _ _ _ _ _ _ h => h) 400 (Z_X6_rowsOf l) ?_
    refine ⟨fun c => by omega, fun c => ⟨fun c2 => ?_, fun c2 => ?_⟩⟩
    · rw [if_pos (by omega)] at h; exact h
    · rw [if_neg (by omega)] at h; exact h
  | succ f ih =>
    intro j hj
    have hm := hD.may (24 * j + t) (by omega)
    have hr := (row_le hD ht (j + 1) (by omega)).2
    have hp : 12 ^ (j + 1) ≤ 12 ^ 6 := Nat.pow_le_pow_right (by decide) (by omega)
    have e : (rowD D t j : Int) * ((bl (dM D (24 * j + t))).length : Int) = (rowD D t (j + 1) : Int) := by
      rw [← Int.natCast_mul]; rfl
    refine zwq_ok (Z_X6_rowsOf l) rfl [4] (fun _ _ _ _ _ _ h => h) 400 (Z_X6_rowsOf l) ?_
    refine ⟨fun c => ⟨D, j, t, ⟨rfl, hD, hC, rfl, rfl, by omega, ht⟩, _, dM D (24 * j + t), ⟨rfl, Or.inr ⟨rfl, hm.2⟩⟩, ?_, by omega, ?_⟩, fun c => by omega⟩
    · rw [e]; omega
    · rw [e]; exact ih (j + 1) (by omega)
theorem R_X6_rowsOf (l : Launch) (a : List zV) (S : zS) (Q : zR2 → zS → Prop) (h : wp_X6_rowsOf a S Q) : zRs l 1 0 0 yX6_rowsOf (.code yX6_rowsOf cX6_rowsOf 4 (some .int)) a S Q := by
  unfold wp_X6_rowsOf at h
  split at h
  · obtain ⟨D, t, ⟨rfl, hD, hC, rfl, ht⟩, h⟩ := h
    refine zRs_of 6 (by decide) rfl rfl ?_; refine zwq_ok (Z_X6_rowsOf l) rfl [4] (fun _ _ _ _ _ _ h => h) 400 (Z_X6_rowsOf l) ?_
    exact L_X6_rowsOf hD hC ht h (dL D) 0 (by omega)
  · exact h.elim
