/-! WHERE IT STARTS: the memory behind the constructors -/
def t0 : zT := (fun _ => (9, 0), fun _ _ => 0, fun _ _ => 0, fun _ _ => 0)
def t1 : zT := nw 102 (3, (1 : Int32).toNatClampNeg) (f_X12_init_62 (f_X11_init_0 t0))
def zcc : List Nat := [0, 1, 3, 11, 19, 20, 28, 36, 37, 39, 42, 47, 52, 59, 62]
def zic : List Nat := [0, 10, 18, 20, 28, 62, 68]
def zlS : List (Nat × Nat × Int) → Nat → Nat → Int
  | [], _, _ => 0
  | q :: r, c, k => bif q.1 == c && q.2.1 == k then q.2.2 else zlS r c k
def S0 : zS := zlS [(0, 14, (-1)), (10, 0, 3), (10, 1, 1), (10, 2, 2), (10, 3, 1), (18, 0, 3), (18, 1, 1), (18, 2, 2), (18, 3, 1), (20, 8, (-1)), (28, 8, (-1)), (62, 15, (-1)), (62, 40, (-1)), (68, 0, 3), (68, 1, 1), (68, 2, 2), (68, 3, 1)]
def zin2 (L : List Nat) (c k : Nat) : Bool := L.elem c && Nat.blt k 70
def zbd (t : zT) : Prop := (∀ c, 103 ≤ c → t.1 c = (9, 0)) ∧ (∀ c k, zin2 zcc c k = false → t.2.1 c k = 0) ∧ (∀ c k, zin2 zic c k = false → t.2.2.1 c k = 0) ∧ ∀ c k, t.2.2.2 c k = 0
theorem zbd_0 : zbd t0 := ⟨fun _ _ => rfl, fun _ _ _ => rfl, fun _ _ _ => rfl, fun _ _ => rfl⟩
theorem zbd_nw {n : Nat} {kd : Nat × Nat} {t : zT} (hn : Nat.blt n 103 = true) (h : zbd t) : zbd (nw n kd t) := by
  have hn : n < 103 := Nat.blt_eq.mp hn
  refine ⟨fun c hc => ?_, fun c k hc => ?_, fun c k hc => ?_, fun c k => ?_⟩
  · show (bif c == n then kd else t.1 c) = _
    rw [show (c == n) = false by simp; omega]
    exact h.1 c hc
  · show (bif c == n then 0 else t.2.1 c k) = 0
    rw [h.2.1 c k hc]
    cases (c == n) <;> rfl
  · show (bif c == n then 0 else t.2.2.1 c k) = 0
    rw [h.2.2.1 c k hc]
    cases (c == n) <;> rfl
  · show (bif c == n then 0 else t.2.2.2 c k) = 0
    rw [h.2.2.2 c k]
    cases (c == n) <;> rfl
theorem zbd_u {α : Type} {F : Nat → Nat → α} {L : List Nat} {c k : Nat} {v z : α} (hc : zin2 L c k = true) (h : ∀ c k, zin2 L c k = false → F c k = z) : ∀ x j, zin2 L x j = false → zu F c k v x j = z := by
  intro x j hx
  show (bif x == c && j == k then v else F x j) = z
  cases hb : (x == c && j == k) with
  | false => exact h x j hx
  | true =>
    simp only [Bool.and_eq_true, beq_iff_eq] at hb
    rw [hb.1, hb.2, hc] at hx
    cases hx
theorem zbd_sR {c k v : Nat} {t : zT} (hc : zin2 zcc c k = true) (h : zbd t) : zbd (sR c k v t) := ⟨h.1, zbd_u hc h.2.1, h.2.2.1, h.2.2.2⟩
theorem zbd_sI {c k : Nat} {v : Int32} {t : zT} (hc : zin2 zic c k = true) (h : zbd t) : zbd (sI c k v t) := ⟨h.1, h.2.1, zbd_u hc h.2.2.1, h.2.2.2⟩
set_option maxRecDepth 20000 in
set_option maxHeartbeats 4000000 in
theorem zbd_1 : zbd t1 := by
  repeat (first | exact zbd_0 | refine zbd_nw (by decide +kernel) ?_ | refine zbd_sR (by decide +kernel) ?_ | refine zbd_sI (by decide +kernel) ?_)
theorem zlS_no {L : List (Nat × Nat × Int)} {I : List Nat} (hL : L.all (fun q => zin2 I q.1 q.2.1) = true) {c k : Nat} (h : zin2 I c k = false) : zlS L c k = 0 := by
  induction L with
  | nil => rfl
  | cons q r ih =>
    simp only [List.all_cons, Bool.and_eq_true] at hL
    show (bif q.1 == c && q.2.1 == k then q.2.2 else zlS r c k) = 0
    cases hb : (q.1 == c && q.2.1 == k) with
    | false => exact ih hL.2
    | true =>
      simp only [Bool.and_eq_true, beq_iff_eq] at hb
      rw [← hb.1, ← hb.2, hL.1] at h
      cases h
theorem S0_no {c k : Nat} (h : zin2 zic c k = false) : S0 c k = 0 := zlS_no (I := zic) (by decide +kernel) h
theorem zin2_l {L : List Nat} {c k : Nat} (h : zin2 L c k = true) : c ∈ L ∧ k < 70 := by
  unfold zin2 at h
  simp only [Bool.and_eq_true] at h
  exact ⟨List.elem_iff.mp h.1, Nat.blt_eq.mp h.2⟩
theorem all_70 {p : Nat → Nat → Bool} {L : List Nat} (h : L.all (fun c => (List.range 70).all (p c)) = true) {c k : Nat} (hc : c ∈ L) (hk : k < 70) : p c k = true :=
  List.all_eq_true.mp (List.all_eq_true.mp h c hc) k (List.mem_range.mpr hk)
set_option maxRecDepth 100000 in
theorem t1_L : (List.range 103).all (fun c => Nat.beq (t1.1 c).1 (zLAY c).1 && Nat.beq (t1.1 c).2 (zLAY c).2) = true := by decide +kernel
set_option maxRecDepth 100000 in
theorem t1_R : zcc.all (fun c => (List.range 70).all (fun k => Nat.beq (t1.2.1 c k) (zR0 c k))) = true := by decide +kernel
set_option maxRecDepth 100000 in
theorem t1_I : zic.all (fun c => (List.range 70).all (fun k => decide (t1.2.2.1 c k = Int32.ofInt (S0 c k)) && (decide (-2147483648 ≤ S0 c k) && decide (S0 c k < 2147483648)))) = true := by decide +kernel
set_option maxRecDepth 100000 in
theorem r0_no : (List.range 103).all (fun c => (List.range 70).all (fun k => zcc.elem c || Nat.beq (zR0 c k) 0)) = true := by decide +kernel
theorem r0_70 {c k : Nat} (h : 70 ≤ k) : zR0 c k = 0 := by
  have hb : ∀ n, n < 70 → Nat.ble k n = false := fun n hn => by
    cases hx : Nat.ble k n
    · rfl
    · exact absurd (Nat.le_of_ble_eq_true hx) (by omega)
  unfold zR0
  simp only [hb 0 (by decide), hb 1 (by decide), hb 2 (by decide), hb 3 (by decide), hb 4 (by decide), hb 5 (by decide), hb 6 (by decide), hb 7 (by decide), hb 8 (by decide), hb 9 (by decide), hb 10 (by decide), hb 11 (by decide), hb 12 (by decide), hb 13 (by decide), hb 14 (by decide), hb 15 (by decide), hb 16 (by decide), hb 17 (by decide), hb 18 (by decide), hb 19 (by decide), hb 20 (by decide), hb 21 (by decide), hb 22 (by decide), hb 23 (by decide), hb 24 (by decide), hb 25 (by decide), hb 26 (by decide), hb 27 (by decide), hb 28 (by decide), hb 29 (by decide), hb 30 (by decide), hb 31 (by decide), hb 32 (by decide), hb 33 (by decide), hb 34 (by decide), hb 35 (by decide), hb 36 (by decide), hb 37 (by decide), hb 38 (by decide), hb 39 (by decide), hb 40 (by decide), hb 41 (by decide), hb 42 (by decide), hb 43 (by decide), hb 44 (by decide), hb 45 (by decide), hb 46 (by decide), hb 47 (by decide), hb 48 (by decide), hb 49 (by decide), hb 50 (by decide), hb 51 (by decide), hb 52 (by decide), hb 53 (by decide), hb 54 (by decide), hb 55 (by decide), hb 56 (by decide), hb 57 (by decide), hb 58 (by decide), hb 59 (by decide), hb 60 (by decide), hb 61 (by decide), hb 62 (by decide), hb 63 (by decide), hb 64 (by decide), hb 65 (by decide), hb 66 (by decide), hb 67 (by decide), hb 68 (by decide), hb 69 (by decide), cond_false, Bool.cond_self]
theorem ble_no {c : Nat} (h : 103 ≤ c) : Nat.ble c 102 = false := by
  cases hx : Nat.ble c 102
  · rfl
  · exact absurd (Nat.le_of_ble_eq_true hx) (by omega)
theorem r0_103 {c k : Nat} (h : 103 ≤ c) : zR0 c k = 0 := by
  unfold zR0
  rw [ble_no h]
  rfl
theorem lay_103 {c : Nat} (h : 103 ≤ c) : zLAY c = (9, 0) := by
  unfold zLAY
  rw [ble_no h]
  rfl
theorem ev_1 : zev (103, t1) S0 := by
  have hb := zbd_1
  refine ⟨Nat.le_refl _, funext fun c => ?_, funext fun c => funext fun k => ?_, fun c k _ => ?_, fun c k _ => ?_⟩
  · show t1.1 c = zLAY c
    by_cases hc : c < 103
    · have := List.all_eq_true.mp t1_L c (List.mem_range.mpr hc)
      simp only [Bool.and_eq_true] at this
      exact Prod.ext (Nat.eq_of_beq_eq_true this.1) (Nat.eq_of_beq_eq_true this.2)
    · rw [hb.1 c (by omega), lay_103 (by omega)]
  · show t1.2.1 c k = zR0 c k
    cases hz : zin2 zcc c k with
    | true =>
      obtain ⟨h1, h2⟩ := zin2_l hz
      exact Nat.eq_of_beq_eq_true (all_70 (p := fun c k => Nat.beq (t1.2.1 c k) (zR0 c k)) t1_R h1 h2)
    | false =>
      rw [hb.2.1 c k hz]
      by_cases hk : k < 70
      · by_cases hc : c < 103
        · have := all_70 (p := fun c k => zcc.elem c || Nat.beq (zR0 c k) 0) r0_no (List.mem_range.mpr hc) hk
          unfold zin2 at hz
          rw [show Nat.blt k 70 = true from Nat.blt_eq.mpr hk, Bool.and_true] at hz
          rw [hz] at this
          exact (Nat.eq_of_beq_eq_true this).symm
        · exact (r0_103 (by omega)).symm
      · exact (r0_70 (by omega)).symm
  · show zir (S0 c k) ∧ t1.2.2.1 c k = Int32.ofInt (S0 c k)
    cases hz : zin2 zic c k with
    | true =>
      obtain ⟨h1, h2⟩ := zin2_l hz
      have := all_70 (p := fun c k => decide (t1.2.2.1 c k = Int32.ofInt (S0 c k)) && (decide (-2147483648 ≤ S0 c k) && decide (S0 c k < 2147483648))) t1_I h1 h2
      simp only [Bool.and_eq_true, decide_eq_true_eq] at this
      exact ⟨this.2, this.1⟩
    | false =>
      rw [hb.2.2.1 c k hz, S0_no hz]
      exact ⟨⟨by decide, by decide⟩, rfl⟩
  · show zil (S0 (c + 1000) k) ∧ t1.2.2.2 c k = Int64.ofInt (S0 (c + 1000) k)
    have hz : zin2 zic (c + 1000) k = false := by
      cases h : zin2 zic (c + 1000) k
      · rfl
      · have := (zin2_l h).1
        simp only [zic, List.mem_cons, List.not_mem_nil, or_false] at this
        omega
    rw [hb.2.2.2 c k, S0_no hz]
    exact ⟨⟨by decide, by decide⟩, rfl⟩
def D0 : zD := fun c k => bif c == 6 then [3, 1, 2, 1].getD k 0 else 0
def T0 : zD := fun _ _ => 0
theorem dOK_0 : dOK D0 := ⟨by decide, by decide, by decide, fun r h => absurd h (Nat.not_lt_zero _), fun r h => absurd h (Nat.not_lt_zero _), fun r h => absurd h (Nat.not_lt_zero _), fun r h => absurd h (Nat.not_lt_zero _), fun r h => absurd h (Nat.not_lt_zero _), fun k => Nat.zero_le 1, by decide, fun r h => absurd h (Nat.not_lt_zero _), fun r _ _ h => absurd h (Nat.not_lt_zero _), fun k _ => (by decide : 0 < 12), fun r h => absurd h (Nat.not_lt_zero _), fun r h => absurd h (Nat.not_lt_zero _), by decide, by decide, fun r _ => (by decide : 0 < 4), by decide, fun r h => absurd h (Nat.not_lt_zero _), fun r _ _ h => absurd h (Nat.not_lt_zero _), fun r _ h => absurd h (Nat.not_lt_zero _)⟩
theorem lt4 {P : Nat → Prop} (h0 : P 0) (h1 : P 1) (h2 : P 2) (h3 : P 3) : ∀ a, a < 4 → P a := fun a ha => by
  have : a = 0 ∨ a = 1 ∨ a = 2 ∨ a = 3 := by omega
  rcases this with rfl | rfl | rfl | rfl <;> assumption
theorem eC_0 : eC S0 D0 D0 T0 := ⟨⟨rfl, rfl, rfl, rfl, fun r h => absurd h (Nat.not_lt_zero _), fun r h => absurd h (Nat.not_lt_zero _), fun r h => absurd h (Nat.not_lt_zero _), fun r h => absurd h (Nat.not_lt_zero _), lt4 rfl rfl rfl rfl, rfl, rfl, rfl, fun r h => absurd h (Nat.not_lt_zero _), fun r h => absurd h (Nat.not_lt_zero _), fun r h => absurd h (Nat.not_lt_zero _), fun r h => absurd h (Nat.not_lt_zero _), fun _ _ => rfl, fun _ _ => rfl, fun _ _ => rfl⟩, rfl, fun r h => absurd h (Nat.not_lt_zero _), rfl, fun _ _ => rfl, rfl, fun h => absurd h (by decide), rfl, fun r h => absurd h (Nat.not_lt_zero _), fun r h => absurd h (Nat.not_lt_zero _), rfl, fun h => absurd h (by decide), Or.inl rfl⟩
theorem eM_0 : eM S0 D0 D0 T0 := ⟨⟨rfl, rfl, rfl, rfl, fun r h => absurd h (Nat.not_lt_zero _), fun r h => absurd h (Nat.not_lt_zero _), fun r h => absurd h (Nat.not_lt_zero _), fun r h => absurd h (Nat.not_lt_zero _), lt4 rfl rfl rfl rfl, fun r h => absurd h (Nat.not_lt_zero _), rfl, rfl, rfl, fun r h => absurd h (Nat.not_lt_zero _), fun _ _ => rfl, fun _ _ => rfl, fun _ _ => rfl⟩, rfl, fun r h => absurd h (Nat.not_lt_zero _), rfl, fun _ _ => rfl, rfl, fun h => absurd h (by decide), rfl, fun r h => absurd h (Nat.not_lt_zero _), fun r h => absurd h (Nat.not_lt_zero _), rfl, fun h => absurd h (by decide)⟩
theorem xOK_0 : xOK D0 D0 T0 0 := ⟨dOK_0, by decide, fun _ => (by decide : 0 < 256), by decide, fun _ => Nat.le_refl _, by decide, fun h => absurd h (by decide), by decide, by decide, by decide⟩
