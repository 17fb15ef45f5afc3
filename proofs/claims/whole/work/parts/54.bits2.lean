/-! bits: what is left of a set -/
theorem tbt (a j : Nat) : a.testBit j = Nat.beq (bt1 a j) 1 := by
  rw [Nat.testBit_eq_decide_div_mod_eq]
  unfold bt1
  by_cases h : a / 2 ^ j % 2 = 1
  · rw [h]; rfl
  · rw [decide_eq_false h]
    cases hb : Nat.beq (a / 2 ^ j % 2) 1
    · rfl
    · exact absurd (Nat.eq_of_beq_eq_true hb) h
theorem tb_msk (f : Nat → Bool) (n j : Nat) : (msk f n).testBit j = (Nat.blt j n && f j) := by
  rw [tbt, bt1_msk]
  by_cases h : j < n
  · rw [show Nat.blt j n = true from Nat.ble_eq.mpr h, Bool.true_and]
    cases hf : f j
    · rw [if_neg (fun z => by have := z.2; cases this)]; rfl
    · rw [if_pos ⟨h, rfl⟩]; rfl
  · rw [if_neg (fun z => h z.1), show Nat.blt j n = false by
      cases hb : Nat.blt j n
      · rfl
      · exact absurd (Nat.ble_eq.mp hb) h]
    rfl
theorem tb_hi {a j k : Nat} (h : a < 2 ^ k) (hj : k ≤ j) : a.testBit j = false := by
  rw [tbt, bt1_hi h hj]; rfl
theorem eq_msk {n k : Nat} {f : Nat → Bool} (hn : n < 2 ^ k) (h : ∀ j, j < k → n.testBit j = f j) : n = msk f k := by
  apply Nat.eq_of_testBit_eq
  intro j
  rw [tb_msk]
  by_cases hj : j < k
  · rw [show Nat.blt j k = true from Nat.ble_eq.mpr hj, h j hj, Bool.true_and]
  · rw [tb_hi hn (by omega), show Nat.blt j k = false by
      cases hb : Nat.blt j k
      · rfl
      · exact absurd (Nat.ble_eq.mp hb) hj]
    rfl
theorem msk_eq {f g : Nat → Bool} : ∀ {n : Nat}, (∀ j, j < n → f j = g j) → msk f n = msk g n := by
  intro n
  induction n with
  | zero => intro _; rfl
  | succ n ih =>
    intro h
    rw [msk_s, msk_s, ih (fun j hj => h j (by omega)), h n (by omega)]
theorem zandn {a b : Nat} (ha : a < 262144) : zand (a : Int) (zxor (b : Int) (-1)) = ((msk (fun j => a.testBit j && !b.testBit j) 18 : Nat) : Int) := by
  have hl := msk_lt (fun j => a.testBit j && !b.testBit j) 18
  unfold zand zxor
  rw [Int32.ofInt_toInt, zof_nat, zof_nat]
  refine zbv ?_ (by omega)
  have e1 : BitVec.ofInt 32 (-1) = BitVec.allOnes 32 := by decide
  show (BitVec.ofNat 32 a &&& (BitVec.ofNat 32 b ^^^ BitVec.ofInt 32 (-1))).toNat = _
  rw [e1, BitVec.xor_allOnes]
  apply Nat.eq_of_testBit_eq
  intro j
  rw [BitVec.testBit_toNat, BitVec.getLsbD_and, BitVec.getLsbD_not, BitVec.getLsbD_ofNat, BitVec.getLsbD_ofNat, tb_msk]
  by_cases hj : j < 18
  · rw [show Nat.blt j 18 = true from Nat.ble_eq.mpr hj, decide_eq_true (show j < 32 by omega)]
    simp only [Bool.true_and]
  · rw [tb_hi (k := 18) ha (by omega), show Nat.blt j 18 = false by
      cases hb : Nat.blt j 18
      · rfl
      · exact absurd (Nat.ble_eq.mp hb) hj]
    simp only [Bool.and_false, Bool.false_and]
theorem msk_tol {F G : Nat → Bool} (h1 : ∀ c, c < 4 → F c = G c) (h2 : ∀ c, c < 6 → F (4 + c) = false) (h3 : ∀ c, c < 8 → F (10 + c) = G (4 + c)) : msk F 18 = spr (msk G 12) := by
  unfold spr
  simp only [msk_s]
  have w0 : F 4 = false := h2 0 (by omega)
  have w1 : F 5 = false := h2 1 (by omega)
  have w2 : F 6 = false := h2 2 (by omega)
  have w3 : F 7 = false := h2 3 (by omega)
  have w4 : F 8 = false := h2 4 (by omega)
  have w5 : F 9 = false := h2 5 (by omega)
  have v0 : F 10 = G 4 := h3 0 (by omega)
  have v1 : F 11 = G 5 := h3 1 (by omega)
  have v2 : F 12 = G 6 := h3 2 (by omega)
  have v3 : F 13 = G 7 := h3 3 (by omega)
  have v4 : F 14 = G 8 := h3 4 (by omega)
  have v5 : F 15 = G 9 := h3 5 (by omega)
  have v6 : F 16 = G 10 := h3 6 (by omega)
  have v7 : F 17 = G 11 := h3 7 (by omega)
  rw [h1 0 (by omega), h1 1 (by omega), h1 2 (by omega), h1 3 (by omega), w0, w1, w2, w3, w4, w5, v0, v1, v2, v3, v4, v5, v6, v7]
  have q0 := bti_le (G 0)
  have q1 := bti_le (G 1)
  have q2 := bti_le (G 2)
  have q3 := bti_le (G 3)
  simp only [show bti false = 0 from rfl, show msk F 0 = 0 from rfl, show msk G 0 = 0 from rfl]
  omega
/-- what of m keeps to p -/
def fmk (m : Nat) (p : Nat → Bool) : Nat := msk (fun a => Nat.beq (bt1 m a) 1 && p a) 12
theorem fmk_lt (m : Nat) (p : Nat → Bool) : fmk m p < 4096 := msk_lt _ 12
theorem bl_fmk {m : Nat} (hm : m < 4096) (p : Nat → Bool) : bl (fmk m p) = (bl m).filter p := by
  have g : ∀ f j, blS (fmk m p) f j = (blS m f j).filter p := by
    intro f
    induction f with
    | zero => intro j; rfl
    | succ f ih =>
      intro j
      have e : bt1 (fmk m p) j = if j < 12 ∧ (Nat.beq (bt1 m j) 1 && p j) = true then 1 else 0 := bt1_msk _ 12 j
      by_cases h : bt1 m j = 1
      · have hj : j < 12 := by
          by_cases c : j < 12
          · exact c
          · rw [bt1_hi (k := 12) hm (by omega)] at h; omega
        rw [blS_1 h]
        rw [h] at e
        cases hp : p j with
        | true =>
          rw [hp, if_pos ⟨hj, rfl⟩] at e
          rw [blS_1 e, List.filter_cons_of_pos hp, ih]
        | false =>
          rw [hp, if_neg (fun z => by have := z.2; cases this)] at e
          rw [blS_0 (by omega), List.filter_cons_of_neg (by rw [hp]; decide), ih]
      · rw [blS_0 h]
        have hb : Nat.beq (bt1 m j) 1 = false := by
          cases hb : Nat.beq (bt1 m j) 1
          · rfl
          · exact absurd (Nat.eq_of_beq_eq_true hb) h
        rw [hb, if_neg (fun z => by have := z.2; cases this)] at e
        rw [blS_0 (by omega), ih]
  exact g 18 0
theorem bl_gm {D : zD} {l k s : Nat} (hm : dM D k < 4096) : bl (gmD D l k s) = (bl (dM D k)).filter (fun a => Nat.beq (sigD D l a) s) := bl_fmk hm (fun a => Nat.beq (sigD D l a) s)
/-- doing a, lodger l is in the room r -/
def thr (D : zD) (r l a : Nat) : Bool := !(Nat.beq a 0) && (bif Nat.blt a 4 then Nat.beq (dH D l) r else Nat.beq a (4 + r))
/-- the same in the class's bits -/
def thx (D : zD) (r l : Nat) : Nat := if dH D l = r then 14 else 2 ^ (10 + r)
theorem tb_14 : ∀ j, j < 18 → (14 : Nat).testBit j = (!(Nat.beq j 0) && Nat.blt j 4) := by decide
theorem tb_p2 (k j : Nat) : (2 ^ k).testBit j = Nat.beq j k := by
  rw [Nat.testBit_two_pow]
  by_cases h : k = j
  · subst h
    rw [decide_eq_true rfl]
    exact (Nat.beq_refl k).symm
  · rw [decide_eq_false h]
    cases hb : Nat.beq j k
    · rfl
    · exact absurd (Nat.eq_of_beq_eq_true hb).symm h
/-- no one is told to be at his own home by its number -/
def mRm (D : zD) (l m : Nat) : Prop := ∀ a, bt1 m (4 + a) = 1 → a < dR D ∧ a ≠ dH D l
section
variable {D : zD} {l m r : Nat}
theorem thx_lt (h : r < 8) : thx D r l < 262144 := by
  unfold thx
  split
  · omega
  · have : 2 ^ (10 + r) ≤ 2 ^ 17 := Nat.pow_le_pow_right (by decide) (by omega)
    omega
theorem thr_1 {a : Nat} (h : a < 4) : thr D r l a = (!(Nat.beq a 0) && Nat.beq (dH D l) r) := by
  unfold thr
  rw [show Nat.blt a 4 = true from Nat.ble_eq.mpr h]
  rfl
theorem thr_2 {a : Nat} : thr D r l (4 + a) = Nat.beq a r := by
  unfold thr
  rw [show Nat.blt (4 + a) 4 = false by
    cases hb : Nat.blt (4 + a) 4
    · rfl
    · have := Nat.ble_eq.mp hb; omega, show Nat.beq (4 + a) 0 = false by
    cases hb : Nat.beq (4 + a) 0
    · rfl
    · have := Nat.eq_of_beq_eq_true hb; omega]
  show Nat.beq (4 + a) (4 + r) = _
  by_cases h : a = r
  · subst h; rw [Nat.beq_refl, Nat.beq_refl]
  · cases h1 : Nat.beq (4 + a) (4 + r) with
    | true => have := Nat.eq_of_beq_eq_true h1; omega
    | false =>
      cases h2 : Nat.beq a r with
      | false => rfl
      | true => exact absurd (Nat.eq_of_beq_eq_true h2) h
theorem beqN {a b : Nat} (h : a ≠ b) : Nat.beq a b = false := by
  cases hb : Nat.beq a b
  · rfl
  · exact absurd (Nat.eq_of_beq_eq_true hb) h
theorem thx_bit (hr : r < 8) (hm : m < 4096) (hR : mRm D l m) : ∀ c, c < 18 → (((spr m).testBit c && (thx D r l).testBit c) = true ↔ ∃ a, c = tol a ∧ a < 12 ∧ bt1 m a = 1 ∧ thr D r l a = true) := by
  obtain ⟨s1, s2, s3⟩ := spr_bits m hm
  intro c hc
  rw [Bool.and_eq_true]
  have t1 : ∀ {x j : Nat}, x.testBit j = true ↔ bt1 x j = 1 := by
    intro x j
    rw [tbt]
    exact ⟨fun h => Nat.eq_of_beq_eq_true h, fun h => by rw [h]; rfl⟩
  have hx : (thx D r l).testBit c = true ↔ (dH D l = r ∧ 1 ≤ c ∧ c < 4) ∨ (dH D l ≠ r ∧ c = 10 + r) := by
    unfold thx
    by_cases e : dH D l = r
    · rw [if_pos e, tb_14 c hc, Bool.and_eq_true]
      constructor
      · rintro ⟨h1, h2⟩
        refine Or.inl ⟨e, ?_, Nat.ble_eq.mp h2⟩
        by_cases z : c = 0
        · subst z; cases h1
        · omega
      · rintro (⟨_, h1, h2⟩ | ⟨h1, _⟩)
        · exact ⟨by rw [beqN (by omega)]; rfl, Nat.ble_eq.mpr h2⟩
        · exact absurd e h1
    · rw [if_neg e, tb_p2]
      constructor
      · intro h; exact Or.inr ⟨e, Nat.eq_of_beq_eq_true h⟩
      · rintro (⟨h1, _⟩ | ⟨_, h2⟩)
        · exact absurd h1 e
        · rw [h2]; exact Nat.beq_refl _
  rw [t1, hx]
  constructor
  · rintro ⟨h1, ⟨e, a1, a2⟩ | ⟨e, rfl⟩⟩
    · refine ⟨c, (tol_1 a2).symm, by omega, by rw [← s1 c a2]; exact h1, ?_⟩
      rw [thr_1 a2, beqN (show c ≠ 0 by omega), e, Nat.beq_refl]
      rfl
    · refine ⟨4 + r, by rw [tol_2 (by omega)]; omega, by omega, by rw [← s3 r hr]; exact h1, ?_⟩
      rw [thr_2, Nat.beq_refl]
  · rintro ⟨a, rfl, ha, hb, ht⟩
    by_cases c4 : a < 4
    · rw [tol_1 c4]
      rw [thr_1 c4, Bool.and_eq_true] at ht
      refine ⟨by rw [s1 a c4]; exact hb, Or.inl ⟨Nat.eq_of_beq_eq_true ht.2, ?_, c4⟩⟩
      by_cases z : a = 0
      · subst z; have := ht.1; cases this
      · omega
    · obtain ⟨d, rfl⟩ : ∃ d, a = 4 + d := ⟨a - 4, by omega⟩
      rw [thr_2] at ht
      have hd := Nat.eq_of_beq_eq_true ht
      subst hd
      rw [tol_2 (by omega), show 4 + d + 6 = 10 + d by omega]
      exact ⟨by rw [s3 d (by omega)]; exact hb, Or.inr ⟨fun z => (hR d hb).2 z.symm, rfl⟩⟩
theorem tol_inj {a b : Nat} (h : tol a = tol b) : a = b := by
  unfold tol at h
  split at h <;> split at h <;> omega
theorem thx_tol (hr : r < 8) (hm : m < 4096) (hR : mRm D l m) {a : Nat} (ha : a < 12) : ((spr m).testBit (tol a) && (thx D r l).testBit (tol a)) = (Nat.beq (bt1 m a) 1 && thr D r l a) := by
  have h := thx_bit hr hm hR (tol a) (tol_lt ha)
  have g : (Nat.beq (bt1 m a) 1 && thr D r l a) = true ↔ bt1 m a = 1 ∧ thr D r l a = true := by
    rw [Bool.and_eq_true]
    exact ⟨fun z => ⟨Nat.eq_of_beq_eq_true z.1, z.2⟩, fun z => ⟨by rw [z.1]; rfl, z.2⟩⟩
  rw [Bool.eq_iff_iff, h, g]
  constructor
  · rintro ⟨b, e, _, h1, h2⟩
    have := tol_inj e
    subst this
    exact ⟨h1, h2⟩
  · rintro ⟨h1, h2⟩
    exact ⟨a, rfl, ha, h1, h2⟩
theorem spr_tol (hm : m < 4096) {a : Nat} (ha : a < 12) : (spr m).testBit (tol a) = Nat.beq (bt1 m a) 1 := by
  obtain ⟨s1, s2, s3⟩ := spr_bits m hm
  rw [tbt]
  by_cases c : a < 4
  · rw [tol_1 c, s1 a c]
  · rw [tol_2 c, show a + 6 = 10 + (a - 4) by omega, s3 (a - 4) (by omega), show 4 + (a - 4) = a by omega]
theorem spr_gap (hm : m < 4096) {c : Nat} (h : c < 6) : (spr m).testBit (4 + c) = false := by
  rw [tbt, (spr_bits m hm).2.1 c h]; rfl
theorem sub_thx (hr : r < 8) (hm : m < 4096) (hR : mRm D l m) : zand (spr m : Int) (zxor (thx D r l : Int) (-1)) = (spr (fmk m (fun a => !thr D r l a)) : Int) := by
  rw [zandn (chkA_ok hm).2.2.2]
  have bb : ∀ s x : Bool, (s && !x) = (s && !(s && x)) := by decide
  have key : ∀ a, a < 12 → ((spr m).testBit (tol a) && !(thx D r l).testBit (tol a)) = (Nat.beq (bt1 m a) 1 && !thr D r l a) := by
    intro a ha
    rw [bb, thx_tol hr hm hR ha, spr_tol hm ha, ← bb]
  have := msk_tol (F := fun j => (spr m).testBit j && !(thx D r l).testBit j) (G := fun a => Nat.beq (bt1 m a) 1 && !thr D r l a) (fun c hc => by
    have := key c (by omega)
    rw [tol_1 hc] at this
    exact this) (fun c hc => by
    show ((spr m).testBit (4 + c) && _) = false
    rw [spr_gap hm hc]; rfl) (fun c hc => by
    have := key (4 + c) (by omega)
    rw [tol_2 (by omega), show 4 + c + 6 = 10 + c by omega] at this
    exact this)
  rw [this]
  rfl
theorem and_thx (hr : r < 8) (hm : m < 4096) (hR : mRm D l m) : zand (spr m : Int) (thx D r l : Int) = (spr (fmk m (thr D r l)) : Int) := by
  have hs := (chkA_ok hm).2.2.2
  rw [zand_n (by omega)]
  have e : spr m &&& thx D r l = msk (fun j => (spr m).testBit j && (thx D r l).testBit j) 18 := eq_msk (Nat.lt_of_le_of_lt Nat.and_le_left hs) (fun j _ => Nat.testBit_and _ _ _)
  rw [e]
  have key := fun a (ha : a < 12) => thx_tol (D := D) (l := l) (r := r) hr hm hR ha
  have := msk_tol (F := fun j => (spr m).testBit j && (thx D r l).testBit j) (G := fun a => Nat.beq (bt1 m a) 1 && thr D r l a) (fun c hc => by
    have := key c (by omega)
    rw [tol_1 hc] at this
    exact this) (fun c hc => by
    show ((spr m).testBit (4 + c) && _) = false
    rw [spr_gap hm hc]; rfl) (fun c hc => by
    have := key (4 + c) (by omega)
    rw [tol_2 (by omega), show 4 + c + 6 = 10 + c by omega] at this
    exact this)
  rw [this]
  rfl
theorem spr_0 {m : Nat} (hm : m < 4096) : spr m = 0 ↔ bl m = [] := by
  constructor
  · intro h
    have hb := (chkA_ok hm).1
    rw [h] at hb
    exact List.eq_nil_of_length_eq_zero (by rw [← hb]; decide)
  · intro h
    by_cases c : m = 0
    · subst c; rfl
    · have := bl_pos (show 1 ≤ m by omega) hm
      rw [h] at this
      cases this
end
