/-! where finders rest -/
def dgN (R k w p : Nat) : Nat := w / R ^ (k - 1 - p) % R
def cnN (dg : Nat → Nat) (r : Nat) : Nat → Nat
  | 0 => 0
  | j + 1 => cnN dg r j + (if dg j = r then 1 else 0)
theorem cnN_le (dg : Nat → Nat) (r : Nat) : ∀ j, cnN dg r j ≤ j := by
  intro j
  induction j with
  | zero => exact Nat.le_refl 0
  | succ j ih =>
    show cnN dg r j + (if dg j = r then 1 else 0) ≤ j + 1
    split <;> omega
theorem cnN_mono (dg : Nat → Nat) (r : Nat) : ∀ f j, cnN dg r j ≤ cnN dg r (j + f) := by
  intro f
  induction f with
  | zero => intro j; exact Nat.le_refl _
  | succ f ih =>
    intro j
    have := ih j
    show cnN dg r j ≤ cnN dg r (j + f) + (if dg (j + f) = r then 1 else 0)
    omega
theorem cnN_pos {dg : Nat → Nat} {p k : Nat} (h : p < k) : 1 ≤ cnN dg (dg p) k := by
  have := cnN_mono dg (dg p) (k - (p + 1)) (p + 1)
  rw [show p + 1 + (k - (p + 1)) = k by omega] at this
  have e : cnN dg (dg p) (p + 1) = cnN dg (dg p) p + (if dg p = dg p then 1 else 0) := rfl
  rw [if_pos rfl] at e
  omega
def riS (D : zD) (t k : Nat) (dg : Nat → Nat) (own gain : Nat) : Nat → Nat → Bool
  | 0, _ => true
  | f + 1, r => bif !(Nat.beq r own) && Nat.blt gain (worD D r t / (cnN dg r k + 1)) then false else riS D t k dg own gain f (r + 1)
def rsS (D : zD) (t k : Nat) (dg : Nat → Nat) : Nat → Nat → Bool
  | 0, _ => true
  | f + 1, p => bif riS D t k dg (dg p) (worD D (dg p) t / cnN dg (dg p) k) (dR D) 0 then rsS D t k dg f (p + 1) else false
def reB (D : zD) (t k w : Nat) : Bool := rsS D t k (dgN (dR D) k w) k 0
/-- the rows that rest: how many, and the first -/
def plS (D : zD) (t k : Nat) : Nat → Nat → Nat → Nat → Nat × Nat
  | 0, _, n, fw => (n, fw)
  | f + 1, w, n, fw => bif reB D t k w then plS D t k f (w + 1) (n + 1) (if n = 0 then w else fw) else plS D t k f (w + 1) n fw
def plD (D : zD) (t k : Nat) : Nat × Nat := plS D t k (dR D ^ k) 0 0 0
theorem plS_le (D : zD) (t k : Nat) : ∀ f w n fw, n ≤ (plS D t k f w n fw).1 ∧ (plS D t k f w n fw).1 ≤ n + f := by
  intro f
  induction f with
  | zero => intro w n fw; exact ⟨Nat.le_refl _, Nat.le_refl _⟩
  | succ f ih =>
    intro w n fw
    show n ≤ (bif reB D t k w then plS D t k f (w + 1) (n + 1) (if n = 0 then w else fw) else plS D t k f (w + 1) n fw).1 ∧ (bif reB D t k w then plS D t k f (w + 1) (n + 1) (if n = 0 then w else fw) else plS D t k f (w + 1) n fw).1 ≤ n + (f + 1)
    cases reB D t k w with
    | true =>
      have := ih (w + 1) (n + 1) (if n = 0 then w else fw)
      show n ≤ (plS D t k f (w + 1) (n + 1) (if n = 0 then w else fw)).1 ∧ (plS D t k f (w + 1) (n + 1) (if n = 0 then w else fw)).1 ≤ n + (f + 1)
      omega
    | false =>
      have := ih (w + 1) n fw
      show n ≤ (plS D t k f (w + 1) n fw).1 ∧ (plS D t k f (w + 1) n fw).1 ≤ n + (f + 1)
      omega
theorem dg_lt {R k w p : Nat} (h : 0 < R) : dgN R k w p < R := Nat.mod_lt _ h
theorem rk_le {R k : Nat} (hR : R ≤ 8) (hk : k ≤ 3) : R ^ k ≤ 512 := by
  have h1 : R ^ k ≤ 8 ^ k := Nat.pow_le_pow_left hR k
  have h2 : 8 ^ k ≤ 8 ^ 3 := Nat.pow_le_pow_right (by decide) hk
  omega
theorem nat_div {a b : Nat} : (a : Int) / (b : Int) = ((a / b : Nat) : Int) := rfl
theorem nat_mod {a b : Nat} : (a : Int) % (b : Int) = ((a % b : Nat) : Int) := rfl
def B_X4_layRow : List (Nat × zC) := [(5, (1, 0, 2, 0, 0, 0, 0))]
def O_X4_layRow : zO := fun j a S K => match j with
  | 0 => wp_J7_fill_53178 a S K
  | _ => False
theorem E_X4_layRow (l : Launch) : ∀ q ∈ B_X4_layRow, zcok l O_X4_layRow F_X4_layRow q.1 q.2 := List.forall_mem_cons.mpr ⟨⟨58, yJ7_fill_53178, cJ7_fill_53178, 4, none, by decide +kernel, C_4_58, W_J7_fill_53178, I_J7_fill_53178, rfl, R_J7_fill_53178 l⟩, fun _ h => by cases h⟩
def U_X4_layRow : List (Nat × zE) := [(0, Sum.inl (4, 0, 0, 0, 1, [])), (1, Sum.inl (18, 4, 3, 0, 4, [])), (4, Sum.inl (0, 0, 0, 0, 5, [])), (5, Sum.inr (1, 0, 2, 0, 0, 0, 0)), (8, Sum.inl (2, 1, 0, 0, 9, [])), (9, Sum.inl (5, 3, 0, 0, 10, [])), (10, Sum.inl (2, 2, 0, 0, 11, [])), (11, Sum.inl (0, 0, 0, 1, 12, [])), (12, Sum.inl (9, 1, 0, 0, 13, [])), (13, Sum.inl (5, 4, 0, 0, 15, [])), (15, Sum.inl (2, 4, 0, 0, 17, [])), (17, Sum.inl (17, 1, 78, 0, 20, [])), (20, Sum.inl (4, 0, 0, 0, 21, [])), (21, Sum.inl (18, 4, 0, 0, 24, [])), (24, Sum.inl (18, 6, 7, 0, 27, [])), (27, Sum.inl (17, 2, 30, 0, 78, [])), (30, Sum.inl (4, 0, 0, 0, 31, [])), (31, Sum.inl (18, 4, 4, 0, 34, [])), (34, Sum.inl (2, 4, 0, 0, 36, [])), (36, Sum.inl (2, 3, 0, 0, 37, [])), (37, Sum.inl (4, 0, 0, 0, 38, [])), (38, Sum.inl (18, 4, 0, 0, 41, [])), (41, Sum.inl (18, 6, 7, 0, 44, [])), (44, Sum.inl (9, 10, 0, 0, 45, [])), (45, Sum.inl (21, 0, 0, 0, 46, [])), (46, Sum.inl (2, 3, 0, 0, 47, [])), (47, Sum.inl (4, 0, 0, 0, 48, [])), (48, Sum.inl (18, 4, 0, 0, 51, [])), (51, Sum.inl (18, 6, 7, 0, 54, [])), (54, Sum.inl (9, 9, 0, 0, 55, [])), (55, Sum.inl (5, 3, 0, 0, 56, [])), (56, Sum.inl (4, 0, 0, 0, 57, [])), (57, Sum.inl (18, 4, 3, 0, 60, [])), (60, Sum.inl (4, 0, 0, 0, 61, [])), (61, Sum.inl (18, 4, 4, 0, 64, [])), (64, Sum.inl (2, 4, 0, 0, 66, [])), (66, Sum.inl (20, 0, 0, 0, 67, [])), (67, Sum.inl (13, 0, 0, 0, 68, [])), (68, Sum.inl (20, 0, 0, 0, 69, [])), (69, Sum.inl (0, 0, 0, 1, 70, [])), (70, Sum.inl (9, 0, 0, 0, 71, [])), (71, Sum.inl (21, 0, 0, 0, 72, [])), (72, Sum.inl (8, 4, 0, (-1), 75, [])), (75, Sum.inl (15, 0, 0, 0, 15, [])), (78, Sum.inl (29, 0, 0, 0, 79, []))]
theorem Z_X4_layRow (l : Launch) : ∀ q ∈ U_X4_layRow, zTok l O_X4_layRow F_X4_layRow q := zU_ok rfl rfl rfl K_X4_layRow (E_X4_layRow l)
/-- the row and the crowd of the w-th way -/
def gaC (S : zS) (k : Nat) (dg : Nat → Nat) : Prop := (∀ p, p < k → S 50 p = (dg p : Int)) ∧ ∀ r, r < 8 → S 49 r = (cnN dg r k : Int)
def wp_X4_layRow (a : List zV) (S : zS) (K : zR2 → zS → Prop) : Prop := match a with
  | [.inr (.inl c), .inl x, .inl y] => ∃ (D : zD) (w k : Nat), (c = 47 ∧ dOK D ∧ cOK S D ∧ x = (w : Int) ∧ y = (k : Int) ∧ k ≤ 3 ∧ 0 < dR D) ∧ ∀ S', gaC S' k (dgN (dR D) k w) → (∀ c, c ≠ 49 → c ≠ 50 → S' c = S c) → K (.inl none) S'
  | _ => False
theorem L_X4_layRow {l : Launch} {S0 : zS} {Q : zR2 → zS → Prop} {D : zD} {w k : Nat} (hD : dOK D) (hC : cOK S0 D) (hk : k ≤ 3) (hR : 0 < dR D) (h : ∀ S', gaC S' k (dgN (dR D) k w) → (∀ c, c ≠ 49 → c ≠ 50 → S' c = S0 c) → Q (.inl none) S') : ∀ j S, j ≤ k → (∀ p, j ≤ p → p < k → S 50 p = (dgN (dR D) k w p : Int)) → (∀ r, r < 8 → S 49 r + (cnN (dgN (dR D) k w) r j : Int) = (cnN (dgN (dR D) k w) r k : Int)) → (∀ c, c ≠ 49 → c ≠ 50 → S c = S0 c) → zGs l 1 0 0 F_X4_layRow S 15 [(0, .inr (.inl 47)), (1, .inl (w : Int)), (2, .inl (k : Int)), (3, .inl ((w / dR D ^ (k - j) : Nat) : Int)), (4, .inl ((j : Int) - 1))] [] Q := by
  have h8 := hD.rooms
  intro j
  induction j with
  | zero =>
    intro S hj a1 a2 a3
    have := h S ⟨fun p hp => a1 p (by omega) hp, fun r hr => by have := a2 r hr; rw [show cnN (dgN (dR D) k w) r 0 = 0 from rfl] at this; omega⟩ a3
    refine zwq_ok (Z_X4_layRow l) rfl [15] (fun _ _ _ _ _ _ h => h) 400 (Z_X4_layRow l) ?_
    exact ⟨fun c => this, fun c => absurd c (by decide)⟩
  | succ j ih =>
    intro S hj a1 a2 a3
    have hCS : cOK S D := hC.fr (fun c a b => a3 c (by omega) (by omega)) (fun c a b => a3 c (by omega) (by omega))
    have eR := hCS.rooms
    have hdg : dgN (dR D) k w j = w / dR D ^ (k - (j + 1)) % dR D := by unfold dgN; rw [show k - 1 - j = k - (j + 1) by omega]
    have hlt := dg_lt (k := k) (w := w) (p := j) hR
    have ecn : cnN (dgN (dR D) k w) (dgN (dR D) k w j) (j + 1) = cnN (dgN (dR D) k w) (dgN (dR D) k w j) j + (if dgN (dR D) k w j = dgN (dR D) k w j then 1 else 0) := rfl
    rw [if_pos rfl] at ecn
    have hc1 := a2 (dgN (dR D) k w j) (by omega)
    have hc2 := cnN_le (dgN (dR D) k w) (dgN (dR D) k w j) k
    have hc3 := cnN_mono (dgN (dR D) k w) (dgN (dR D) k w j) (k - (j + 1)) (j + 1)
    rw [show j + 1 + (k - (j + 1)) = k by omega] at hc3
    have hq : (w / dR D ^ (k - (j + 1))) / dR D = w / dR D ^ (k - j) := by
      rw [Nat.div_div_eq_div_mul, ← Nat.pow_succ, Nat.succ_eq_add_one, show k - (j + 1) + 1 = k - j by omega]
    have this := ih (zu (zu S 50 j (dgN (dR D) k w j : Int)) 49 (dgN (dR D) k w j) (S 49 (dgN (dR D) k w j) + 1)) (by omega) (fun p h1 h2 => by
        show zu S 50 j (dgN (dR D) k w j : Int) 50 p = _
        rw [zu_if]
        by_cases e : p = j
        · rw [if_pos e, e]
        · rw [if_neg e]; exact a1 p (by omega) h2) (fun r hr => by
        show zu S 49 (dgN (dR D) k w j) (S 49 (dgN (dR D) k w j) + 1) 49 r + _ = _
        rw [zu_if]
        have ec : cnN (dgN (dR D) k w) r (j + 1) = cnN (dgN (dR D) k w) r j + (if dgN (dR D) k w j = r then 1 else 0) := rfl
        have := a2 r hr
        by_cases e : r = dgN (dR D) k w j
        · rw [if_pos e]
          rw [if_pos e.symm] at ec
          rw [← e]
          omega
        · rw [if_neg e]
          rw [if_neg (fun z => e z.symm)] at ec
          omega) (fun c h1 h2 => (zu_c h1).trans ((zu_c h2).trans (a3 c h1 h2)))
    have e1 : ((w / dR D ^ (k - (j + 1)) : Nat) : Int) % S 3 7 = (dgN (dR D) k w j : Int) := by rw [eR, nat_mod, hdg]
    have e2 : ((w / dR D ^ (k - (j + 1)) : Nat) : Int) / S 3 7 = ((w / dR D ^ (k - j) : Nat) : Int) := by rw [eR, nat_div, hq]
    rw [show ((j + 1 : Nat) : Int) - 1 = (j : Int) by omega]
    generalize w / dR D ^ (k - (j + 1)) = W at *
    refine zwq_ok (Z_X4_layRow l) rfl [15] (fun _ _ _ _ _ _ h => h) 400 (Z_X4_layRow l) ?_
    refine ⟨fun c => by omega, fun c => ⟨fun c2 => ⟨⟨by omega, by omega⟩, j, ⟨rfl, by omega⟩, ⟨by omega, ?_⟩, j, ⟨rfl, by omega⟩, dgN (dR D) k w j, ⟨?_, by omega⟩, ?_, dgN (dR D) k w j, ⟨?_, by omega⟩, by omega, ?_⟩, fun c2 => by omega⟩⟩
    · show 0 < S 3 7
      omega
    · exact zuE.trans e1
    · show -2147483648 ≤ S 49 (dgN (dR D) k w j) + 1 ∧ S 49 (dgN (dR D) k w j) + 1 < 2147483648
      omega
    · exact zuE.trans e1
    · have e2' : (W : Int) / zu S 50 j ((W : Int) % S 3 7) 3 7 = ((w / dR D ^ (k - j) : Nat) : Int) := e2
      rw [← e1, ← e2'] at this
      exact this
theorem R_X4_layRow (l : Launch) (a : List zV) (S : zS) (Q : zR2 → zS → Prop) (h : wp_X4_layRow a S Q) : zRs l 1 0 0 yX4_layRow (.code yX4_layRow cX4_layRow 5 (none)) a S Q := by
  unfold wp_X4_layRow at h
  split at h
  · obtain ⟨D, w, k, ⟨rfl, hD, hC, rfl, rfl, hk, hR⟩, h⟩ := h
    refine zRs_of 4 (by decide) rfl rfl ?_; refine zwq_ok (Z_X4_layRow l) rfl [15] (fun _ _ _ _ _ _ h => h) 400 (Z_X4_layRow l) ?_
    refine ⟨by omega, ?_⟩
    have := L_X4_layRow (l := l) (S0 := S) (w := w) hD hC hk hR h k (zfil S 49 8 0) (Nat.le_refl k) (fun p a b => by omega) (fun r hr => by rw [zfil_at hr]; omega) (fun c a _ => zfil_c a)
    rw [Nat.sub_self, Nat.pow_zero, Nat.div_one] at this
    exact this
  · exact h.elim
def B_X4_share : List (Nat × zC) := []
def O_X4_share : zO := fun j a S K => match j with
  | _ => False
theorem E_X4_share (l : Launch) : ∀ q ∈ B_X4_share, zcok l O_X4_share F_X4_share q.1 q.2 := fun _ h => by cases h
def U_X4_share : List (Nat × zE) := [(0, Sum.inl (2, 2, 0, 0, 1, [])), (1, Sum.inl (0, 0, 0, 1, 2, [])), (2, Sum.inl (16, 1, 5, 0, 9, [])), (5, Sum.inl (0, 0, 0, 0, 6, [])), (6, Sum.inl (15, 0, 0, 0, 17, [])), (9, Sum.inl (4, 0, 0, 0, 10, [])), (10, Sum.inl (18, 4, 2, 0, 13, [])), (13, Sum.inl (2, 1, 0, 0, 14, [])), (14, Sum.inl (20, 0, 0, 0, 15, [])), (15, Sum.inl (2, 2, 0, 0, 16, [])), (16, Sum.inl (9, 9, 0, 0, 17, [])), (17, Sum.inl (27, 0, 0, 0, 18, []))]
theorem Z_X4_share (l : Launch) : ∀ q ∈ U_X4_share, zTok l O_X4_share F_X4_share q := zU_ok rfl rfl rfl K_X4_share (E_X4_share l)
def woC (S : zS) (D : zD) (t : Nat) : Prop := ∀ r, r < dR D → S 48 r = (worD D r t : Int)
def wp_X4_share (a : List zV) (S : zS) (K : zR2 → zS → Prop) : Prop := match a with
  | [.inr (.inl c), .inl x, .inl y] => ∃ (D : zD) (t r s : Nat), (c = 47 ∧ woC S D t ∧ x = (r : Int) ∧ r < dR D ∧ dR D ≤ 8 ∧ y = (s : Int) ∧ 1 ≤ s) ∧ K (.inl (some (.inl ((worD D r t / s : Nat) : Int)))) S
  | _ => False
theorem R_X4_share (l : Launch) (a : List zV) (S : zS) (Q : zR2 → zS → Prop) (h : wp_X4_share a S Q) : zRs l 0 0 0 yX4_share (.code yX4_share cX4_share 3 (some .int)) a S Q := by
  unfold wp_X4_share at h
  split at h
  · obtain ⟨D, t, r, s, ⟨rfl, hw, rfl, hr, h8, rfl, hs⟩, h⟩ := h
    have e := hw r hr
    refine zRs_of 4 (by decide) rfl rfl ?_; refine zwq_ok (Z_X4_share l) rfl [] (fun _ _ _ _ _ _ h => h) 400 (Z_X4_share l) ?_
    refine ⟨fun c => by omega, fun c => ⟨r, ⟨rfl, by omega⟩, ⟨by omega, by omega⟩, ?_⟩⟩
    rw [← nat_div, ← e] at h
    exact h
  · exact h.elim
def B_X4_isAtRest : List (Nat × zC) := [(22, (0, 0, 2, 0, 0, 0, 4)), (60, (0, 0, 2, 0, 0, 0, 4))]
def O_X4_isAtRest : zO := fun j a S K => match j with
  | 0 => wp_X4_share a S K
  | _ => False
theorem E_X4_isAtRest (l : Launch) : ∀ q ∈ B_X4_isAtRest, zcok l O_X4_isAtRest F_X4_isAtRest q.1 q.2 := List.forall_mem_cons.mpr ⟨⟨64, yX4_share, cX4_share, 3, some .int, by decide +kernel, C_4_64, W_X4_share, I_X4_share, S_X4_share, rfl, rfl, R_X4_share l⟩, List.forall_mem_cons.mpr ⟨⟨64, yX4_share, cX4_share, 3, some .int, by decide +kernel, C_4_64, W_X4_share, I_X4_share, S_X4_share, rfl, rfl, R_X4_share l⟩, fun _ h => by cases h⟩⟩
def U_X4_isAtRest : List (Nat × zE) := [(0, Sum.inl (0, 0, 0, 0, 1, [])), (1, Sum.inl (5, 2, 0, 0, 2, [])), (2, Sum.inl (2, 2, 0, 0, 3, [])), (3, Sum.inl (2, 1, 0, 0, 4, [])), (4, Sum.inl (16, 1, 7, 0, 82, [])), (7, Sum.inl (4, 0, 0, 0, 8, [])), (8, Sum.inl (18, 4, 4, 0, 11, [])), (11, Sum.inl (2, 2, 0, 0, 12, [])), (12, Sum.inl (20, 0, 0, 0, 13, [])), (13, Sum.inl (5, 3, 0, 0, 14, [])), (14, Sum.inl (4, 0, 0, 0, 15, [])), (15, Sum.inl (2, 3, 0, 0, 16, [])), (16, Sum.inl (4, 0, 0, 0, 17, [])), (17, Sum.inl (18, 4, 3, 0, 20, [])), (20, Sum.inl (2, 3, 0, 0, 21, [])), (21, Sum.inl (20, 0, 0, 0, 22, [])), (22, Sum.inr (0, 0, 2, 0, 0, 0, 4)), (25, Sum.inl (5, 4, 0, 0, 27, [])), (27, Sum.inl (0, 0, 0, 0, 28, [])), (28, Sum.inl (5, 5, 0, 0, 30, [])), (30, Sum.inl (2, 5, 0, 0, 32, [])), (32, Sum.inl (4, 0, 0, 0, 33, [])), (33, Sum.inl (18, 4, 0, 0, 36, [])), (36, Sum.inl (18, 6, 7, 0, 39, [])), (39, Sum.inl (16, 1, 42, 0, 76, [])), (42, Sum.inl (2, 5, 0, 0, 44, [])), (44, Sum.inl (2, 3, 0, 0, 45, [])), (45, Sum.inl (16, 0, 70, 0, 48, [])), (48, Sum.inl (4, 0, 0, 0, 49, [])), (49, Sum.inl (2, 5, 0, 0, 51, [])), (51, Sum.inl (4, 0, 0, 0, 52, [])), (52, Sum.inl (18, 4, 3, 0, 55, [])), (55, Sum.inl (2, 5, 0, 0, 57, [])), (57, Sum.inl (20, 0, 0, 0, 58, [])), (58, Sum.inl (0, 0, 0, 1, 59, [])), (59, Sum.inl (9, 0, 0, 0, 60, [])), (60, Sum.inr (0, 0, 2, 0, 0, 0, 4)), (63, Sum.inl (2, 4, 0, 0, 65, [])), (65, Sum.inl (16, 2, 68, 0, 70, [])), (68, Sum.inl (0, 0, 0, 0, 69, [])), (69, Sum.inl (27, 0, 0, 0, 70, [])), (70, Sum.inl (8, 5, 0, 1, 73, [])), (73, Sum.inl (15, 0, 0, 0, 30, [])), (76, Sum.inl (8, 2, 0, 1, 79, [])), (79, Sum.inl (15, 0, 0, 0, 2, [])), (82, Sum.inl (0, 0, 0, 1, 83, [])), (83, Sum.inl (27, 0, 0, 0, 84, []))]
theorem Z_X4_isAtRest (l : Launch) : ∀ q ∈ U_X4_isAtRest, zTok l O_X4_isAtRest F_X4_isAtRest q := zU_ok rfl rfl rfl K_X4_isAtRest (E_X4_isAtRest l)
def wp_X4_isAtRest (a : List zV) (S : zS) (K : zR2 → zS → Prop) : Prop := match a with
  | [.inr (.inl c), .inl y] => ∃ (D : zD) (t w k : Nat), (c = 47 ∧ dOK D ∧ cOK S D ∧ woC S D t ∧ y = (k : Int) ∧ k ≤ 3 ∧ 0 < dR D ∧ gaC S k (dgN (dR D) k w)) ∧ K (.inl (some (.inl (bti (reB D t k w) : Int)))) S
  | _ => False
section
variable {l : Launch} {S : zS} {Q : zR2 → zS → Prop} {D : zD} {t w k : Nat}
theorem L0_X4_isAtRest (hD : dOK D) (hC : cOK S D) (hw : woC S D t) (hk : k ≤ 3) (hR : 0 < dR D) (hg : gaC S k (dgN (dR D) k w)) {p gain : Nat} (k1 : riS D t k (dgN (dR D) k w) (dgN (dR D) k w p) gain (dR D) 0 = true → zGs l 1 0 0 F_X4_isAtRest S 76 [(0, .inr (.inl 47)), (1, .inl (k : Int)), (2, .inl (p : Int))] [] Q) (k0 : riS D t k (dgN (dR D) k w) (dgN (dR D) k w p) gain (dR D) 0 = false → Q (.inl (some (.inl 0))) S) (f : Nat) : ∀ r, r + f = dR D → riS D t k (dgN (dR D) k w) (dgN (dR D) k w p) gain (dR D) 0 = riS D t k (dgN (dR D) k w) (dgN (dR D) k w p) gain f r → zGs l 1 0 0 F_X4_isAtRest S 30 [(0, .inr (.inl 47)), (1, .inl (k : Int)), (2, .inl (p : Int)), (3, .inl (dgN (dR D) k w p : Int)), (4, .inl (gain : Int)), (5, .inl (r : Int))] [] Q := by
  have h8 := hD.rooms
  have eR := hC.rooms
  have hlt := dg_lt (k := k) (w := w) (p := p) hR
  induction f with
  | zero =>
    intro r hr he
    refine zwq_ok (Z_X4_isAtRest l) rfl [30, 76] (fun _ _ _ _ _ _ h => h) 400 (Z_X4_isAtRest l) ?_
    refine ⟨fun c => by omega, fun c => ?_⟩
    exact zGs.sub (lo := [(0, _), (1, _), (2, _), (3, _), (4, _), (5, _)]) (k1 he) (fun q hq => by simp only [List.mem_cons, List.not_mem_nil, or_false] at hq; rcases hq with rfl | rfl | rfl <;> first | exact .head _ | exact .tail _ (.head _) | exact .tail _ (.tail _ (.head _)) | exact .tail _ (.tail _ (.tail _ (.head _))) | exact .tail _ (.tail _ (.tail _ (.tail _ (.head _)))) | exact .tail _ (.tail _ (.tail _ (.tail _ (.tail _ (.head _))))) | exact .tail _ (.tail _ (.tail _ (.tail _ (.tail _ (.tail _ (.head _)))))) | exact .tail _ (.tail _ (.tail _ (.tail _ (.tail _ (.tail _ (.tail _ (.head _))))))) | exact .tail _ (.tail _ (.tail _ (.tail _ (.tail _ (.tail _ (.tail _ (.tail _ (.head _)))))))) | exact .tail _ (.tail _ (.tail _ (.tail _ (.tail _ (.tail _ (.tail _ (.tail _ (.tail _ (.head _))))))))) | exact .tail _ (.tail _ (.tail _ (.tail _ (.tail _ (.tail _ (.tail _ (.tail _ (.tail _ (.tail _ (.head _)))))))))) | exact .tail _ (.tail _ (.tail _ (.tail _ (.tail _ (.tail _ (.tail _ (.tail _ (.tail _ (.tail _ (.tail _ (.head _))))))))))) | exact .tail _ (.tail _ (.tail _ (.tail _ (.tail _ (.tail _ (.tail _ (.tail _ (.tail _ (.tail _ (.tail _ (.tail _ (.head _)))))))))))) | exact .tail _ (.tail _ (.tail _ (.tail _ (.tail _ (.tail _ (.tail _ (.tail _ (.tail _ (.tail _ (.tail _ (.tail _ (.tail _ (.head _))))))))))))))
  | succ f ih =>
    intro r hr he
    have ec := hg.2 r (by omega)
    have hc2 := cnN_le (dgN (dR D) k w) r k
    have he : riS D t k (dgN (dR D) k w) (dgN (dR D) k w p) gain (dR D) 0 = (bif !(Nat.beq r (dgN (dR D) k w p)) && Nat.blt gain (worD D r t / (cnN (dgN (dR D) k w) r k + 1)) then false else riS D t k (dgN (dR D) k w) (dgN (dR D) k w p) gain f (r + 1)) := he
    refine zwq_ok (Z_X4_isAtRest l) rfl [30, 76] (fun _ _ _ _ _ _ h => h) 400 (Z_X4_isAtRest l) ?_
    refine ⟨fun c => ⟨fun c2 => ⟨by omega, ?_⟩, fun c2 => ⟨r, ⟨rfl, by omega⟩, by omega, D, t, r, cnN (dgN (dR D) k w) r k + 1, ⟨rfl, hw, rfl, by omega, h8, by omega, by omega⟩, fun c3 => ⟨Or.inl rfl, ?_⟩, fun c3 => ⟨by omega, ?_⟩⟩⟩, fun c => by omega⟩
    · rw [show r = dgN (dR D) k w p by omega, Nat.beq_refl] at he
      rw [show dgN (dR D) k w p = r by omega] at he
      have := ih (r + 1) (by omega) (by rw [show dgN (dR D) k w p = r by omega]; exact he)
      exact this
    · rw [beqN (show r ≠ dgN (dR D) k w p by omega), bltT (by omega)] at he
      exact k0 he
    · rw [bltF (by omega), Bool.and_false] at he
      exact ih (r + 1) (by omega) he
theorem L1_X4_isAtRest (hD : dOK D) (hC : cOK S D) (hw : woC S D t) (hk : k ≤ 3) (hR : 0 < dR D) (hg : gaC S k (dgN (dR D) k w)) (f : Nat) : ∀ p, p + f = k → Q (.inl (some (.inl (bti (rsS D t k (dgN (dR D) k w) f p) : Int)))) S → zGs l 1 0 0 F_X4_isAtRest S 2 [(0, .inr (.inl 47)), (1, .inl (k : Int)), (2, .inl (p : Int))] [] Q := by
  have h8 := hD.rooms
  induction f with
  | zero =>
    intro p hp h
    refine zwq_ok (Z_X4_isAtRest l) rfl [2, 30] (fun _ _ _ _ _ _ h => h) 400 (Z_X4_isAtRest l) ?_
    exact ⟨fun c => by omega, fun c => ⟨Or.inr rfl, h⟩⟩
  | succ f ih =>
    intro p hp h
    have hlt := dg_lt (k := k) (w := w) (p := p) hR
    have er := hg.1 p (by omega)
    have ec := hg.2 (dgN (dR D) k w p) (by omega)
    have hpos := cnN_pos (dg := dgN (dR D) k w) (p := p) (k := k) (by omega)
    have h : Q (.inl (some (.inl (bti (bif riS D t k (dgN (dR D) k w) (dgN (dR D) k w p) (worD D (dgN (dR D) k w p) t / cnN (dgN (dR D) k w) (dgN (dR D) k w p) k) (dR D) 0 then rsS D t k (dgN (dR D) k w) f (p + 1) else false) : Int)))) S := h
    have go := L0_X4_isAtRest (l := l) (Q := Q) (S := S) (p := p) (gain := worD D (dgN (dR D) k w p) t / cnN (dgN (dR D) k w) (dgN (dR D) k w p) k) hD hC hw hk hR hg (fun e => by
      rw [e] at h
      have := ih (p + 1) (by omega) h
      refine zwq_ok (Z_X4_isAtRest l) rfl [2] (fun _ _ _ _ _ _ h => h) 400 (Z_X4_isAtRest l) ?_
      exact ⟨by omega, this⟩) (fun e => by
      rw [e] at h
      exact h) (dR D) 0 (by omega) rfl
    rw [← er] at go
    refine zwq_ok (Z_X4_isAtRest l) rfl [2, 30] (fun _ _ _ _ _ _ h => h) 400 (Z_X4_isAtRest l) ?_
    refine ⟨fun c => ⟨p, ⟨rfl, by omega⟩, dgN (dR D) k w p, ⟨er, by omega⟩, D, t, dgN (dR D) k w p, cnN (dgN (dR D) k w) (dgN (dR D) k w p) k, ⟨rfl, hw, er, hlt, h8, ec, hpos⟩, ?_⟩, fun c => by omega⟩
    exact go
end
theorem R_X4_isAtRest (l : Launch) (a : List zV) (S : zS) (Q : zR2 → zS → Prop) (h : wp_X4_isAtRest a S Q) : zRs l 1 0 0 yX4_isAtRest (.code yX4_isAtRest cX4_isAtRest 6 (some .boolean)) a S Q := by
  unfold wp_X4_isAtRest at h
  split at h
  · obtain ⟨D, t, w, k, ⟨rfl, hD, hC, hw, rfl, hk, hR, hg⟩, h⟩ := h
    refine zRs_of 4 (by decide) rfl rfl ?_; refine zwq_ok (Z_X4_isAtRest l) rfl [2] (fun _ _ _ _ _ _ h => h) 400 (Z_X4_isAtRest l) ?_
    exact L1_X4_isAtRest hD hC hw hk hR hg k 0 (by omega) h
  · exact h.elim
def B_X4_play : List (Nat × zC) := [(24, (0, 0, 2, 3, 0, 0, 3)), (77, (0, 1, 2, 1, 0, 0, 4)), (82, (0, 2, 1, 1, 0, 0, 4)), (104, (8, 0, 0, 0, 0, 0, 0))]
def O_X4_play : zO := fun j a S K => match j with
  | 0 => wp_X3_worthOf a S K
  | 1 => wp_X4_layRow a S K
  | 2 => wp_X4_isAtRest a S K
  | _ => False
theorem E_X4_play (l : Launch) : ∀ q ∈ B_X4_play, zcok l O_X4_play F_X4_play q.1 q.2 := List.forall_mem_cons.mpr ⟨⟨38, yX3_worthOf, cX3_worthOf, 3, some .int, by decide +kernel, C_4_38, W_X3_worthOf, I_X3_worthOf, S_X3_worthOf, rfl, rfl, R_X3_worthOf l⟩, List.forall_mem_cons.mpr ⟨⟨44, yX4_layRow, cX4_layRow, 5, none, by decide +kernel, C_4_44, W_X4_layRow, I_X4_layRow, S_X4_layRow, rfl, rfl, R_X4_layRow l⟩, List.forall_mem_cons.mpr ⟨⟨48, yX4_isAtRest, cX4_isAtRest, 6, some .boolean, by decide +kernel, C_4_48, W_X4_isAtRest, I_X4_isAtRest, S_X4_isAtRest, rfl, rfl, R_X4_isAtRest l⟩, List.forall_mem_cons.mpr ⟨⟨52, by decide +kernel, z_at 1118 (by decide +kernel) (by decide +kernel)⟩, fun _ h => by cases h⟩⟩⟩⟩
def U_X4_play : List (Nat × zE) := [(0, Sum.inl (0, 0, 0, 0, 1, [])), (1, Sum.inl (5, 3, 0, 0, 2, [])), (2, Sum.inl (2, 3, 0, 0, 3, [])), (3, Sum.inl (4, 0, 0, 0, 4, [])), (4, Sum.inl (18, 4, 0, 0, 7, [])), (7, Sum.inl (18, 6, 7, 0, 10, [])), (10, Sum.inl (16, 1, 13, 0, 34, [])), (13, Sum.inl (4, 0, 0, 0, 14, [])), (14, Sum.inl (18, 4, 2, 0, 17, [])), (17, Sum.inl (2, 3, 0, 0, 18, [])), (18, Sum.inl (4, 0, 0, 0, 19, [])), (19, Sum.inl (18, 4, 1, 0, 22, [])), (22, Sum.inl (2, 3, 0, 0, 23, [])), (23, Sum.inl (2, 1, 0, 0, 24, [])), (24, Sum.inr (0, 0, 2, 3, 0, 0, 3)), (27, Sum.inl (21, 0, 0, 0, 28, [])), (28, Sum.inl (8, 3, 0, 1, 31, [])), (31, Sum.inl (15, 0, 0, 0, 2, [])), (34, Sum.inl (0, 0, 0, 1, 35, [])), (35, Sum.inl (5, 3, 0, 0, 36, [])), (36, Sum.inl (0, 0, 0, 0, 37, [])), (37, Sum.inl (5, 4, 0, 0, 39, [])), (39, Sum.inl (2, 4, 0, 0, 41, [])), (41, Sum.inl (2, 2, 0, 0, 42, [])), (42, Sum.inl (16, 1, 45, 0, 61, [])), (45, Sum.inl (2, 3, 0, 0, 46, [])), (46, Sum.inl (4, 0, 0, 0, 47, [])), (47, Sum.inl (18, 4, 0, 0, 50, [])), (50, Sum.inl (18, 6, 7, 0, 53, [])), (53, Sum.inl (9, 2, 0, 0, 54, [])), (54, Sum.inl (5, 3, 0, 0, 55, [])), (55, Sum.inl (8, 4, 0, 1, 58, [])), (58, Sum.inl (15, 0, 0, 0, 39, [])), (61, Sum.inl (0, 0, 0, 0, 62, [])), (62, Sum.inl (5, 4, 0, 0, 64, [])), (64, Sum.inl (0, 0, 0, 0, 65, [])), (65, Sum.inl (5, 5, 0, 0, 67, [])), (67, Sum.inl (2, 5, 0, 0, 69, [])), (69, Sum.inl (2, 3, 0, 0, 70, [])), (70, Sum.inl (16, 1, 73, 0, 116, [])), (73, Sum.inl (4, 0, 0, 0, 74, [])), (74, Sum.inl (2, 5, 0, 0, 76, [])), (76, Sum.inl (2, 2, 0, 0, 77, [])), (77, Sum.inr (0, 1, 2, 1, 0, 0, 4)), (80, Sum.inl (4, 0, 0, 0, 81, [])), (81, Sum.inl (2, 2, 0, 0, 82, [])), (82, Sum.inr (0, 2, 1, 1, 0, 0, 4)), (85, Sum.inl (17, 0, 110, 0, 88, [])), (88, Sum.inl (2, 4, 0, 0, 90, [])), (90, Sum.inl (17, 0, 93, 0, 107, [])), (93, Sum.inl (4, 0, 0, 0, 94, [])), (94, Sum.inl (18, 4, 4, 0, 97, [])), (97, Sum.inl (0, 0, 0, 0, 98, [])), (98, Sum.inl (4, 0, 0, 0, 99, [])), (99, Sum.inl (18, 4, 5, 0, 102, [])), (102, Sum.inl (0, 0, 0, 0, 103, [])), (103, Sum.inl (2, 2, 0, 0, 104, [])), (104, Sum.inr (8, 0, 0, 0, 0, 0, 0)), (107, Sum.inl (8, 4, 0, 1, 110, [])), (110, Sum.inl (8, 5, 0, 1, 113, [])), (113, Sum.inl (15, 0, 0, 0, 67, [])), (116, Sum.inl (2, 4, 0, 0, 118, [])), (118, Sum.inl (27, 0, 0, 0, 119, []))]
theorem Z_X4_play (l : Launch) : ∀ q ∈ U_X4_play, zTok l O_X4_play F_X4_play q := zU_ok rfl rfl rfl K_X4_play (E_X4_play l)
def wp_X4_play (a : List zV) (S : zS) (K : zR2 → zS → Prop) : Prop := match a with
  | [.inr (.inl c), .inl x, .inl y] => ∃ (D : zD) (t k : Nat), (c = 47 ∧ dOK D ∧ cOK S D ∧ x = (t : Int) ∧ t < 24 ∧ y = (k : Int) ∧ 1 ≤ k ∧ k ≤ 3) ∧ ∀ S', (0 < (plD D t k).1 → ∀ p, p < k → S' 51 p = (dgN (dR D) k (plD D t k).2 p : Int)) → (∀ c, (c < 48 ∨ 51 < c) → S' c = S c) → K (.inl (some (.inl ((plD D t k).1 : Int)))) S'
  | _ => False
section
variable {l : Launch} {S0 : zS} {Q : zR2 → zS → Prop} {D : zD} {t w k : Nat}
theorem L2_X4_play (hD : dOK D) (hC : cOK S0 D) (ht : t < 24) (hk1 : 1 ≤ k) (hk : k ≤ 3) (h : ∀ S', (0 < (plD D t k).1 → ∀ p, p < k → S' 51 p = (dgN (dR D) k (plD D t k).2 p : Int)) → (∀ c, (c < 48 ∨ 51 < c) → S' c = S0 c) → Q (.inl (some (.inl ((plD D t k).1 : Int)))) S') (f : Nat) : ∀ w n fw S, w + f = dR D ^ k → n ≤ w → plS D t k f w n fw = plD D t k → woC S D t → (0 < n → ∀ p, p < k → S 51 p = (dgN (dR D) k fw p : Int)) → (∀ c, (c < 48 ∨ 51 < c) → S c = S0 c) → zGs l 4 0 0 F_X4_play S 67 [(0, .inr (.inl 47)), (1, .inl (t : Int)), (2, .inl (k : Int)), (3, .inl ((dR D ^ k : Nat) : Int)), (4, .inl (n : Int)), (5, .inl (w : Int))] [] Q := by
  have h8 := hD.rooms
  have hrk := rk_le h8 hk
  induction f with
  | zero =>
    intro w n fw S hw hnw hp hwo hfi hf
    have hp : (n, fw) = plD D t k := hp
    rw [← hp] at h
    have := h S hfi hf
    refine zwq_ok (Z_X4_play l) rfl [67] (fun _ _ _ _ _ _ h => h) 400 (Z_X4_play l) ?_
    exact ⟨fun c => by omega, fun c => this⟩
  | succ f ih =>
    intro w n fw S hw hnw hp hwo hfi hf
    have hR : 0 < dR D := by
      by_cases c : dR D = 0
      · rw [c, Nat.zero_pow (by omega)] at hw; omega
      · omega
    have hCS : cOK S D := hC.fr (fun c a b => hf c (by omega)) (fun c a b => hf c (by omega))
    have hp : (bif reB D t k w then plS D t k f (w + 1) (n + 1) (if n = 0 then w else fw) else plS D t k f (w + 1) n fw) = plD D t k := hp
    refine zwq_ok (Z_X4_play l) rfl [67] (fun _ _ _ _ _ _ h => h) 400 (Z_X4_play l) ?_
    refine ⟨fun c => ⟨D, w, k, ⟨rfl, hD, hCS, rfl, rfl, hk, hR⟩, fun S1 g1 f1 => ?_⟩, fun c => by omega⟩
    have hC1 : cOK S1 D := hCS.fr (fun c a b => f1 c (by omega) (by omega)) (fun c a b => f1 c (by omega) (by omega))
    have hwo1 : woC S1 D t := fun r hr => by rw [f1 48 (by omega) (by omega)]; exact hwo r hr
    have hf1 : ∀ c, (c < 48 ∨ 51 < c) → S1 c = S0 c := fun c hc => (f1 c (by omega) (by omega)).trans (hf c hc)
    refine ⟨D, t, w, k, ⟨rfl, hD, hC1, hwo1, rfl, hk, hR, g1⟩, fun c2 => ⟨by omega, ?_⟩, fun c2 => ⟨fun c3 => ⟨⟨rfl, rfl⟩, k, ⟨rfl, by omega, by omega⟩, by omega, by omega, ?_⟩, fun c3 => ⟨by omega, by omega, ?_⟩⟩⟩
    · have e : reB D t k w = false := by
        cases hb : reB D t k w
        · rfl
        · rw [hb] at c2; exact absurd c2 (by decide)
      rw [e] at hp
      exact ih (w + 1) n fw S1 (by omega) (by omega) hp hwo1 (fun hn p hpk => by rw [f1 51 (by omega) (by omega)]; exact hfi hn p hpk) hf1
    · have e : reB D t k w = true := by
        cases hb : reB D t k w
        · rw [hb] at c2; exact absurd rfl c2
        · rfl
      rw [e] at hp
      have hp : plS D t k f (w + 1) (n + 1) (if n = 0 then w else fw) = plD D t k := hp
      rw [if_pos (show n = 0 by omega)] at hp
      refine ih (w + 1) (n + 1) w (zcpI S1 50 51 k) (by omega) (by omega) hp (fun r hr => hwo1 r hr) (fun _ p hpk => (zcp_at hpk).trans (g1.1 p hpk)) (fun c hc => (funext fun j => zcp_n (by omega) : zcpI S1 50 51 k c = S1 c).trans (hf1 c hc))
    · have e : reB D t k w = true := by
        cases hb : reB D t k w
        · rw [hb] at c2; exact absurd rfl c2
        · rfl
      rw [e] at hp
      have hp : plS D t k f (w + 1) (n + 1) (if n = 0 then w else fw) = plD D t k := hp
      rw [if_neg (show ¬ n = 0 by omega)] at hp
      exact ih (w + 1) (n + 1) fw S1 (by omega) (by omega) hp hwo1 (fun hn p hpk => by rw [f1 51 (by omega) (by omega)]; exact hfi (by omega) p hpk) hf1
theorem L1_X4_play (hD : dOK D) (hk : k ≤ 3) {S : zS} (hC : cOK S D) (h : zGs l 4 0 0 F_X4_play S 67 [(0, .inr (.inl 47)), (1, .inl (t : Int)), (2, .inl (k : Int)), (3, .inl ((dR D ^ k : Nat) : Int)), (4, .inl 0), (5, .inl 0)] [] Q) (f : Nat) : ∀ j, j + f = k → zGs l 4 0 0 F_X4_play S 39 [(0, .inr (.inl 47)), (1, .inl (t : Int)), (2, .inl (k : Int)), (3, .inl ((dR D ^ j : Nat) : Int)), (4, .inl (j : Int))] [] Q := by
  have h8 := hD.rooms
  have eR := hC.rooms
  induction f with
  | zero =>
    intro j hj
    have : j = k := by omega
    subst this
    refine zwq_ok (Z_X4_play l) rfl [39, 67] (fun _ _ _ _ _ _ h => h) 400 (Z_X4_play l) ?_
    exact ⟨fun c => by omega, fun c => h⟩
  | succ f ih =>
    intro j hj
    have hb := rk_le (R := dR D) (k := j + 1) h8 (by omega)
    have this := ih (j + 1) (by omega)
    have e : ((dR D ^ j : Nat) : Int) * S 3 7 = ((dR D ^ (j + 1) : Nat) : Int) := by
      rw [eR, ← Int.natCast_mul]; rfl
    refine zwq_ok (Z_X4_play l) rfl [39, 67] (fun _ _ _ _ _ _ h => h) 400 (Z_X4_play l) ?_
    refine ⟨fun c => ⟨?_, by omega, ?_⟩, fun c => by omega⟩
    · rw [e]; omega
    · rw [e]; exact this
theorem L0_X4_play (hD : dOK D) (hC : cOK S0 D) (ht : t < 24) (h : ∀ S, woC S D t → (∀ c, c ≠ 48 → S c = S0 c) → zGs l 4 0 0 F_X4_play S 34 [(0, .inr (.inl 47)), (1, .inl (t : Int)), (2, .inl (k : Int))] [] Q) (f : Nat) : ∀ r S, r + f = dR D → (∀ i, i < r → S 48 i = (worD D i t : Int)) → (∀ c, c ≠ 48 → S c = S0 c) → zGs l 4 0 0 F_X4_play S 2 [(0, .inr (.inl 47)), (1, .inl (t : Int)), (2, .inl (k : Int)), (3, .inl (r : Int))] [] Q := by
  have h8 := hD.rooms
  induction f with
  | zero =>
    intro r S hr hw hf
    have : r = dR D := by omega
    subst this
    have hCS : cOK S D := hC.fr (fun c a b => hf c (by omega)) (fun c a b => hf c (by omega))
    have eR := hCS.rooms
    refine zwq_ok (Z_X4_play l) rfl [2, 34] (fun _ _ _ _ _ _ h => h) 400 (Z_X4_play l) ?_
    refine ⟨fun c => by omega, fun c => ?_⟩
    exact zGs.sub (lo := [(0, _), (1, _), (2, _), (3, _)]) (h S hw hf) (fun q hq => by simp only [List.mem_cons, List.not_mem_nil, or_false] at hq; rcases hq with rfl | rfl | rfl <;> first | exact .head _ | exact .tail _ (.head _) | exact .tail _ (.tail _ (.head _)) | exact .tail _ (.tail _ (.tail _ (.head _))) | exact .tail _ (.tail _ (.tail _ (.tail _ (.head _)))) | exact .tail _ (.tail _ (.tail _ (.tail _ (.tail _ (.head _))))) | exact .tail _ (.tail _ (.tail _ (.tail _ (.tail _ (.tail _ (.head _)))))) | exact .tail _ (.tail _ (.tail _ (.tail _ (.tail _ (.tail _ (.tail _ (.head _))))))) | exact .tail _ (.tail _ (.tail _ (.tail _ (.tail _ (.tail _ (.tail _ (.tail _ (.head _)))))))) | exact .tail _ (.tail _ (.tail _ (.tail _ (.tail _ (.tail _ (.tail _ (.tail _ (.tail _ (.head _))))))))) | exact .tail _ (.tail _ (.tail _ (.tail _ (.tail _ (.tail _ (.tail _ (.tail _ (.tail _ (.tail _ (.head _)))))))))) | exact .tail _ (.tail _ (.tail _ (.tail _ (.tail _ (.tail _ (.tail _ (.tail _ (.tail _ (.tail _ (.tail _ (.head _))))))))))) | exact .tail _ (.tail _ (.tail _ (.tail _ (.tail _ (.tail _ (.tail _ (.tail _ (.tail _ (.tail _ (.tail _ (.tail _ (.head _)))))))))))) | exact .tail _ (.tail _ (.tail _ (.tail _ (.tail _ (.tail _ (.tail _ (.tail _ (.tail _ (.tail _ (.tail _ (.tail _ (.tail _ (.head _))))))))))))))
  | succ f ih =>
    intro r S hr hw hf
    have hCS : cOK S D := hC.fr (fun c a b => hf c (by omega)) (fun c a b => hf c (by omega))
    have eR := hCS.rooms
    have this := ih (r + 1) (zu S 48 r (worD D r t : Int)) (by omega) (fun i hi => by
      rw [zu_if]
      by_cases e : i = r
      · rw [if_pos e, e]
      · rw [if_neg e]; exact hw i (by omega)) (fun c hc => (zu_c hc).trans (hf c hc))
    refine zwq_ok (Z_X4_play l) rfl [2, 34] (fun _ _ _ _ _ _ h => h) 400 (Z_X4_play l) ?_
    refine ⟨fun c => ⟨D, r, t, ⟨rfl, hD, hCS, rfl, rfl, by omega, ht⟩, r, ⟨rfl, by omega⟩, by omega, ?_⟩, fun c => by omega⟩
    exact this
end
theorem R_X4_play (l : Launch) (a : List zV) (S : zS) (Q : zR2 → zS → Prop) (h : wp_X4_play a S Q) : zRs l 4 0 0 yX4_play (.code yX4_play cX4_play 6 (some .int)) a S Q := by
  unfold wp_X4_play at h
  split at h
  · obtain ⟨D, t, k, ⟨rfl, hD, hC, rfl, ht, rfl, hk1, hk⟩, h⟩ := h
    refine zRs_of 4 (by decide) rfl rfl ?_; refine zwq_ok (Z_X4_play l) rfl [2] (fun _ _ _ _ _ _ h => h) 400 (Z_X4_play l) ?_
    refine L0_X4_play (S0 := S) hD hC ht (fun S1 w1 f1 => ?_) (dR D) 0 S (by omega) (fun i hi => absurd hi (Nat.not_lt_zero i)) (fun _ _ => rfl)
    have hC1 : cOK S1 D := hC.fr (fun c a b => f1 c (by omega)) (fun c a b => f1 c (by omega))
    have go := L1_X4_play (l := l) (Q := Q) (t := t) hD hk hC1 (L2_X4_play (S0 := S) hD hC ht hk1 hk h (dR D ^ k) 0 0 0 S1 (by omega) (Nat.le_refl 0) rfl w1 (fun z => absurd z (Nat.not_lt_zero 0)) (fun c hc => f1 c (by omega))) k 0 (by omega)
    refine zwq_ok (Z_X4_play l) rfl [39] (fun _ _ _ _ _ _ h => h) 400 (Z_X4_play l) ?_
    exact go
  · exact h.elim
