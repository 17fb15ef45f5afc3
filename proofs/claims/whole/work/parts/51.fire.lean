/-! fire -/
def B_X11_commonPart : List (Nat × zC) := []
def O_X11_commonPart : zO := fun j a S K => match j with
  | _ => False
theorem E_X11_commonPart (l : Launch) : ∀ q ∈ B_X11_commonPart, zcok l O_X11_commonPart F_X11_commonPart q.1 q.2 := fun _ h => by cases h
def U_X11_commonPart : List (Nat × zE) := [(0, Sum.inl (2, 1, 0, 0, 1, [])), (1, Sum.inl (5, 2, 0, 0, 2, [])), (2, Sum.inl (2, 2, 0, 0, 3, [])), (3, Sum.inl (0, 0, 0, 1, 4, [])), (4, Sum.inl (16, 2, 7, 0, 27, [])), (7, Sum.inl (2, 0, 0, 0, 8, [])), (8, Sum.inl (2, 2, 0, 0, 9, [])), (9, Sum.inl (9, 10, 0, 0, 10, [])), (10, Sum.inl (17, 0, 13, 0, 21, [])), (13, Sum.inl (2, 1, 0, 0, 14, [])), (14, Sum.inl (2, 2, 0, 0, 15, [])), (15, Sum.inl (9, 10, 0, 0, 16, [])), (16, Sum.inl (17, 0, 19, 0, 21, [])), (19, Sum.inl (2, 2, 0, 0, 20, [])), (20, Sum.inl (27, 0, 0, 0, 21, [])), (21, Sum.inl (8, 2, 0, (-1), 24, [])), (24, Sum.inl (15, 0, 0, 0, 2, [])), (27, Sum.inl (0, 0, 0, 1, 28, [])), (28, Sum.inl (27, 0, 0, 0, 29, []))]
theorem Z_X11_commonPart (l : Launch) : ∀ q ∈ U_X11_commonPart, zTok l O_X11_commonPart F_X11_commonPart q := zU_ok rfl rfl rfl K_X11_commonPart (E_X11_commonPart l)
def wp_X11_commonPart (a : List zV) (S : zS) (K : zR2 → zS → Prop) : Prop := match a with
  | [.inl x, .inl y] => ∃ (a b : Nat), (x = (a : Int) ∧ y = (b : Int) ∧ 1 ≤ b ∧ b ≤ 100 ∧ a ≤ b) ∧ K (.inl (some (.inl (Nat.gcd a b : Int)))) S
  | _ => False
theorem L_X11_commonPart {l : Launch} {S : zS} {Q : zR2 → zS → Prop} {a b : Nat} (h1 : 1 ≤ b) (hb : b ≤ 100) (ha : a ≤ b) (h : Q (.inl (some (.inl (Nat.gcd a b : Int)))) S) : ∀ p, p ≤ b → Nat.gcd a b ≤ p → zGs l 0 0 0 F_X11_commonPart S 2 [(0, .inl (a : Int)), (1, .inl (b : Int)), (2, .inl (p : Int))] [] Q := by
  have g0 : 0 < Nat.gcd a b := Nat.gcd_pos_of_pos_right a h1
  intro p
  induction p with
  | zero => intro _ c; omega
  | succ p ih =>
    intro hp hg
    have e1 : (a : Int) % ((p + 1 : Nat) : Int) = ((a % (p + 1) : Nat) : Int) := rfl
    have e2 : (b : Int) % ((p + 1 : Nat) : Int) = ((b % (p + 1) : Nat) : Int) := rfl
    have no : ¬ (a % (p + 1) = 0 ∧ b % (p + 1) = 0) → Nat.gcd a b ≤ p := by
      intro c
      by_cases e : Nat.gcd a b = p + 1
      · exfalso
        refine c ⟨?_, ?_⟩
        · rw [← e]; exact Nat.mod_eq_zero_of_dvd (Nat.gcd_dvd_left a b)
        · rw [← e]; exact Nat.mod_eq_zero_of_dvd (Nat.gcd_dvd_right a b)
      · omega
    have yes : a % (p + 1) = 0 → b % (p + 1) = 0 → Nat.gcd a b = p + 1 := by
      intro c1 c2
      have := Nat.le_of_dvd g0 (Nat.dvd_gcd (Nat.dvd_of_mod_eq_zero c1) (Nat.dvd_of_mod_eq_zero c2))
      omega
    have nx : ¬ (a % (p + 1) = 0 ∧ b % (p + 1) = 0) → zGs l 0 0 0 F_X11_commonPart S 2 [(0, .inl (a : Int)), (1, .inl (b : Int)), (2, .inl (((p + 1 : Nat) : Int) + -1))] [] Q := by
      intro c
      have := ih (by omega) (no c)
      rw [show ((p + 1 : Nat) : Int) + -1 = (p : Int) by omega]
      exact this
    refine zwq_ok (Z_X11_commonPart l) rfl [2] (fun _ _ _ _ _ _ h => h) 400 (Z_X11_commonPart l) ?_
    refine ⟨fun c => ⟨by omega, fun c2 => ⟨by omega, fun c3 => ?_, fun c3 => ⟨by omega, ?_⟩⟩, fun c2 => ⟨by omega, ?_⟩⟩, fun c => ?_⟩
    · rw [e1] at c2
      rw [e2] at c3
      rw [yes (by omega) (by omega)] at h
      exact h
    · rw [e2] at c3
      exact nx (by omega)
    · rw [e1] at c2
      exact nx (by omega)
    · rw [show Nat.gcd a b = 1 by omega] at h
      exact h
theorem R_X11_commonPart (l : Launch) (a : List zV) (S : zS) (Q : zR2 → zS → Prop) (h : wp_X11_commonPart a S Q) : zRs l 0 0 0 yX11_commonPart (.code yX11_commonPart cX11_commonPart 3 (some .int)) a S Q := by
  unfold wp_X11_commonPart at h
  split at h
  · obtain ⟨a, b, ⟨rfl, rfl, h1, hb, ha⟩, h⟩ := h
    refine zRs_of 11 (by decide) rfl rfl ?_; refine zwq_ok (Z_X11_commonPart l) rfl [2] (fun _ _ _ _ _ _ h => h) 400 (Z_X11_commonPart l) ?_
    exact L_X11_commonPart h1 hb ha h b (Nat.le_refl _) (Nat.gcd_le_right a h1)
  · exact h.elim
def fireV (m w : Nat) (y : Int) : Int := if y = 0 then (((10 ^ m - (10 - w) ^ m) / Nat.gcd (10 ^ m - (10 - w) ^ m) (10 ^ m) : Nat) : Int) else ((10 ^ m / Nat.gcd (10 ^ m - (10 - w) ^ m) (10 ^ m) : Nat) : Int)
theorem pow_10 {m w : Nat} (hm : m ≤ 2) : 1 ≤ 10 ^ m ∧ 10 ^ m ≤ 100 ∧ (10 - w) ^ m ≤ 10 ^ m := by
  refine ⟨Nat.pos_of_ne_zero (by have : m = 0 ∨ m = 1 ∨ m = 2 := by omega
                                 rcases this with rfl | rfl | rfl <;> decide), ?_, Nat.pow_le_pow_left (by omega) m⟩
  have : 10 ^ m ≤ 10 ^ 2 := Nat.pow_le_pow_right (by decide) hm
  omega
def B_X11_partOfEscape : List (Nat × zC) := [(43, (1, 0, 2, 0, 0, 0, 0))]
def O_X11_partOfEscape : zO := fun j a S K => match j with
  | 0 => wp_X11_commonPart a S K
  | _ => False
theorem E_X11_partOfEscape (l : Launch) : ∀ q ∈ B_X11_partOfEscape, zcok l O_X11_partOfEscape F_X11_partOfEscape q.1 q.2 := List.forall_mem_cons.mpr ⟨⟨375, yX11_commonPart, cX11_commonPart, 3, some .int, by decide +kernel, C_11_375, W_X11_commonPart, I_X11_commonPart, rfl, R_X11_commonPart l⟩, fun _ h => by cases h⟩
def U_X11_partOfEscape : List (Nat × zE) := [(0, Sum.inl (0, 0, 0, 1, 1, [])), (1, Sum.inl (5, 3, 0, 0, 2, [])), (2, Sum.inl (0, 0, 0, 1, 3, [])), (3, Sum.inl (5, 4, 0, 0, 5, [])), (5, Sum.inl (0, 0, 0, 0, 6, [])), (6, Sum.inl (5, 5, 0, 0, 8, [])), (8, Sum.inl (2, 5, 0, 0, 10, [])), (10, Sum.inl (2, 0, 0, 0, 11, [])), (11, Sum.inl (16, 1, 14, 0, 34, [])), (14, Sum.inl (2, 3, 0, 0, 15, [])), (15, Sum.inl (0, 0, 0, 10, 17, [])), (17, Sum.inl (9, 2, 0, 0, 18, [])), (18, Sum.inl (5, 3, 0, 0, 19, [])), (19, Sum.inl (2, 4, 0, 0, 21, [])), (21, Sum.inl (0, 0, 0, 10, 23, [])), (23, Sum.inl (2, 1, 0, 0, 24, [])), (24, Sum.inl (9, 1, 0, 0, 25, [])), (25, Sum.inl (9, 2, 0, 0, 26, [])), (26, Sum.inl (5, 4, 0, 0, 28, [])), (28, Sum.inl (8, 5, 0, 1, 31, [])), (31, Sum.inl (15, 0, 0, 0, 8, [])), (34, Sum.inl (2, 3, 0, 0, 35, [])), (35, Sum.inl (2, 4, 0, 0, 37, [])), (37, Sum.inl (9, 1, 0, 0, 38, [])), (38, Sum.inl (5, 5, 0, 0, 40, [])), (40, Sum.inl (2, 5, 0, 0, 42, [])), (42, Sum.inl (2, 3, 0, 0, 43, [])), (43, Sum.inr (1, 0, 2, 0, 0, 0, 0)), (46, Sum.inl (5, 6, 0, 0, 48, [])), (48, Sum.inl (2, 6, 0, 0, 50, [])), (50, Sum.inl (0, 0, 0, 1, 51, [])), (51, Sum.inl (16, 1, 54, 0, 56, [])), (54, Sum.inl (0, 0, 0, (-1), 55, [])), (55, Sum.inl (27, 0, 0, 0, 56, [])), (56, Sum.inl (2, 2, 0, 0, 57, [])), (57, Sum.inl (17, 0, 60, 0, 68, [])), (60, Sum.inl (2, 5, 0, 0, 62, [])), (62, Sum.inl (2, 6, 0, 0, 64, [])), (64, Sum.inl (9, 9, 0, 0, 65, [])), (65, Sum.inl (15, 0, 0, 0, 72, [])), (68, Sum.inl (2, 3, 0, 0, 69, [])), (69, Sum.inl (2, 6, 0, 0, 71, [])), (71, Sum.inl (9, 9, 0, 0, 72, [])), (72, Sum.inl (27, 0, 0, 0, 73, []))]
theorem Z_X11_partOfEscape (l : Launch) : ∀ q ∈ U_X11_partOfEscape, zTok l O_X11_partOfEscape F_X11_partOfEscape q := zU_ok rfl rfl rfl K_X11_partOfEscape (E_X11_partOfEscape l)
def wp_X11_partOfEscape (a : List zV) (S : zS) (K : zR2 → zS → Prop) : Prop := match a with
  | [.inl x, .inl y, .inl z] => ∃ (m w : Nat), (x = (m : Int) ∧ y = (w : Int) ∧ m ≤ 2 ∧ w ≤ 10) ∧ K (.inl (some (.inl (fireV m w z)))) S
  | _ => False
theorem L_X11_partOfEscape {l : Launch} {S : zS} {Q : zR2 → zS → Prop} {m w : Nat} {z : Int} (hm : m ≤ 2) (hw : w ≤ 10) (h : Q (.inl (some (.inl (fireV m w z)))) S) (f : Nat) : ∀ i, i + f = m → zGs l 1 0 0 F_X11_partOfEscape S 8 [(0, .inl (m : Int)), (1, .inl (w : Int)), (2, .inl z), (3, .inl ((10 ^ i : Nat) : Int)), (4, .inl (((10 - w) ^ i : Nat) : Int)), (5, .inl (i : Int))] [] Q := by
  induction f with
  | zero =>
    intro i hi
    have : i = m := by omega
    subst this
    obtain ⟨p1, p2, p3⟩ := pow_10 (w := w) hm
    unfold fireV at h
    generalize 10 ^ i = a at *
    generalize (10 - w) ^ i = b at *
    have e : (a : Int) - (b : Int) = ((a - b : Nat) : Int) := by omega
    have g0 : 0 < Nat.gcd (a - b) a := Nat.gcd_pos_of_pos_right _ p1
    refine zwq_ok (Z_X11_partOfEscape l) rfl [8] (fun _ _ _ _ _ _ h => h) 400 (Z_X11_partOfEscape l) ?_
    refine ⟨fun c => by omega, fun c => ⟨by omega, a - b, a, ⟨e, rfl, p1, p2, by omega⟩, fun c2 => by omega, fun c2 => ⟨fun c3 => ⟨by omega, ?_⟩, fun c3 => ⟨by omega, ?_⟩⟩⟩⟩
    · rw [if_pos c3] at h
      rw [e]
      exact h
    · rw [if_neg c3] at h
      exact h
  | succ f ih =>
    intro i hi
    obtain ⟨p1, p2, p3⟩ := pow_10 (m := i) (w := w) (by omega)
    obtain ⟨q1, q2, q3⟩ := pow_10 (m := i + 1) (w := w) (by omega)
    have e1 : ((10 ^ i : Nat) : Int) * 10 = ((10 ^ (i + 1) : Nat) : Int) := by rw [Nat.pow_succ]; omega
    have e2 : (((10 - w) ^ i : Nat) : Int) * (10 - (w : Int)) = (((10 - w) ^ (i + 1) : Nat) : Int) := by
      rw [Nat.pow_succ, Int.natCast_mul, show ((10 - w : Nat) : Int) = 10 - (w : Int) by omega]
    have this := ih (i + 1) (by omega)
    rw [← e1, ← e2] at this
    refine zwq_ok (Z_X11_partOfEscape l) rfl [8] (fun _ _ _ _ _ _ h => h) 400 (Z_X11_partOfEscape l) ?_
    refine ⟨fun c => ⟨by omega, by omega, by omega, by omega, this⟩, fun c => by omega⟩
theorem R_X11_partOfEscape (l : Launch) (a : List zV) (S : zS) (Q : zR2 → zS → Prop) (h : wp_X11_partOfEscape a S Q) : zRs l 1 0 0 yX11_partOfEscape (.code yX11_partOfEscape cX11_partOfEscape 7 (some .int)) a S Q := by
  unfold wp_X11_partOfEscape at h
  split at h
  · obtain ⟨m, w, ⟨rfl, rfl, hm, hw⟩, h⟩ := h
    refine zRs_of 11 (by decide) rfl rfl ?_; refine zwq_ok (Z_X11_partOfEscape l) rfl [8] (fun _ _ _ _ _ _ h => h) 400 (Z_X11_partOfEscape l) ?_
    exact L_X11_partOfEscape hm hw h m 0 (by omega)
  · exact h.elim
def B_X11_fire : List (Nat × zC) := [(2, (2, 0, 1, 6, 0, 0, 11)), (7, (2, 1, 1, 6, 0, 0, 11)), (11, (4, 2, 1, 6, 0, 0, 0)), (17, (4, 3, 2, 6, 0, 0, 0)), (32, (9, 0, 1, 127, 347, 131, 0)), (49, (0, 4, 2, 0, 0, 0, 0)), (70, (7, 0, 0, 0, 0, 0, 0)), (73, (5, 0, 0, 0, 0, 0, 0)), (84, (1, 5, 3, 1, 0, 0, 0))]
def O_X11_fire : zO := fun j a S K => match j with
  | 0 => wp_X11_needLodger a S K
  | 1 => wp_X11_needRoom a S K
  | 2 => wp_X11_needHour a S K
  | 3 => wp_X11_needOneOf a S K
  | 4 => wp_X0_doing a S K
  | 5 => wp_X11_partOfEscape a S K
  | _ => False
theorem E_X11_fire (l : Launch) : ∀ q ∈ B_X11_fire, zcok l O_X11_fire F_X11_fire q.1 q.2 := List.forall_mem_cons.mpr ⟨⟨192, yX11_needLodger, cX11_needLodger, 2, none, by decide +kernel, C_11_192, W_X11_needLodger, I_X11_needLodger, S_X11_needLodger, rfl, rfl, R_X11_needLodger l⟩, List.forall_mem_cons.mpr ⟨⟨179, yX11_needRoom, cX11_needRoom, 2, none, by decide +kernel, C_11_179, W_X11_needRoom, I_X11_needRoom, S_X11_needRoom, rfl, rfl, R_X11_needRoom l⟩, List.forall_mem_cons.mpr ⟨⟨202, yX11_needHour, cX11_needHour, 1, none, by decide +kernel, C_11_202, W_X11_needHour, I_X11_needHour, rfl, R_X11_needHour l⟩, List.forall_mem_cons.mpr ⟨⟨182, yX11_needOneOf, cX11_needOneOf, 2, none, by decide +kernel, C_11_182, W_X11_needOneOf, I_X11_needOneOf, rfl, R_X11_needOneOf l⟩, List.forall_mem_cons.mpr ⟨⟨rfl, rfl, z_at 547 (by decide +kernel) (by decide +kernel), ⟨30, _, rfl, rfl, rfl⟩, by decide +kernel, by decide +kernel, Or.inr ⟨rfl, by decide +kernel, by decide +kernel, by decide +kernel⟩, Or.inl ⟨rfl, rfl⟩⟩, List.forall_mem_cons.mpr ⟨⟨239, yX0_doing, cX0_doing, 3, some .int, by decide +kernel, C_11_239, W_X0_doing, I_X0_doing, S_X0_doing, rfl, rfl, R_X0_doing l⟩, List.forall_mem_cons.mpr ⟨⟨349, by decide +kernel, z_at 1231 (by decide +kernel) (by decide +kernel)⟩, List.forall_mem_cons.mpr ⟨⟨354, by decide +kernel, z_at 1234 (by decide +kernel) (by decide +kernel)⟩, List.forall_mem_cons.mpr ⟨⟨357, yX11_partOfEscape, cX11_partOfEscape, 7, some .int, by decide +kernel, C_11_357, W_X11_partOfEscape, I_X11_partOfEscape, rfl, R_X11_partOfEscape l⟩, fun _ h => by cases h⟩⟩⟩⟩⟩⟩⟩⟩⟩
def U_X11_fire : List (Nat × zE) := [(0, Sum.inl (4, 0, 0, 0, 1, [])), (1, Sum.inl (2, 1, 0, 0, 2, [])), (2, Sum.inr (2, 0, 1, 6, 0, 0, 11)), (5, Sum.inl (4, 0, 0, 0, 6, [])), (6, Sum.inl (2, 2, 0, 0, 7, [])), (7, Sum.inr (2, 1, 1, 6, 0, 0, 11)), (10, Sum.inl (2, 3, 0, 0, 11, [])), (11, Sum.inr (4, 2, 1, 6, 0, 0, 0)), (14, Sum.inl (2, 5, 0, 0, 16, [])), (16, Sum.inl (0, 0, 0, 2, 17, [])), (17, Sum.inr (4, 3, 2, 6, 0, 0, 0)), (20, Sum.inl (2, 4, 0, 0, 22, [])), (22, Sum.inl (17, 1, 32, 0, 25, [])), (25, Sum.inl (2, 4, 0, 0, 27, [])), (27, Sum.inl (0, 0, 0, 10, 29, [])), (29, Sum.inl (16, 2, 32, 0, 43, [])), (32, Sum.inr (9, 0, 1, 127, 347, 131, 0)), (35, Sum.inl (12, 0, 0, 0, 36, [])), (43, Sum.inl (4, 0, 0, 0, 44, [])), (44, Sum.inl (18, 11, 4, 0, 47, [])), (47, Sum.inl (2, 1, 0, 0, 48, [])), (48, Sum.inl (2, 3, 0, 0, 49, [])), (49, Sum.inr (0, 4, 2, 0, 0, 0, 0)), (52, Sum.inl (0, 0, 0, 1, 53, [])), (53, Sum.inl (16, 0, 58, 0, 56, [])), (56, Sum.inl (1, 1, 0, 0, 57, [])), (57, Sum.inl (28, 0, 0, 0, 58, [])), (58, Sum.inl (0, 0, 0, 2, 59, [])), (59, Sum.inl (2, 2, 0, 0, 60, [])), (60, Sum.inl (4, 0, 0, 0, 61, [])), (61, Sum.inl (18, 11, 1, 0, 64, [])), (64, Sum.inl (18, 6, 2, 0, 67, [])), (67, Sum.inl (2, 1, 0, 0, 68, [])), (68, Sum.inl (20, 0, 0, 0, 69, [])), (69, Sum.inl (9, 1, 0, 0, 70, [])), (70, Sum.inr (7, 0, 0, 0, 0, 0, 0)), (73, Sum.inr (5, 0, 0, 0, 0, 0, 0)), (76, Sum.inl (5, 6, 0, 0, 78, [])), (78, Sum.inl (2, 6, 0, 0, 80, [])), (80, Sum.inl (2, 4, 0, 0, 82, [])), (82, Sum.inl (2, 5, 0, 0, 84, [])), (84, Sum.inr (1, 5, 3, 1, 0, 0, 0)), (87, Sum.inl (10, 0, 0, 0, 88, [])), (88, Sum.inl (28, 0, 0, 0, 89, []))]
theorem Z_X11_fire (l : Launch) : ∀ q ∈ U_X11_fire, zTok l O_X11_fire F_X11_fire q := zU_ok rfl rfl rfl K_X11_fire (E_X11_fire l)
def wp_X11_fire (a : List zV) (S : zS) (K : zR2 → zS → Prop) : Prop := zif (Nat.ble (zsum a) 7) (zwq 7 F_X11_fire U_X11_fire O_X11_fire [] (fun _ _ _ _ _ _ => False) K 48 U_X11_fire 1 6 S 0 (zar 0 a) [])
theorem R_X11_fire (l : Launch) (a : List zV) (S : zS) (Q : zR2 → zS → Prop) (h : wp_X11_fire a S Q) : zRs l 7 1 6 yX11_fire (.code yX11_fire cX11_fire 7 (some .long)) a S Q := by
  obtain ⟨h1, h⟩ := zif_ok h
  exact zRs_of 11 (by decide) rfl h1 (zwq_ok (Z_X11_fire l) rfl [] (fun _ _ _ _ _ _ h => h.elim) 48 (Z_X11_fire l) h)
def B_X12_off : List (Nat × zC) := []
def O_X12_off : zO := fun j a S K => match j with
  | _ => False
theorem E_X12_off (l : Launch) : ∀ q ∈ B_X12_off, zcok l O_X12_off F_X12_off q.1 q.2 := fun _ h => by cases h
def U_X12_off : List (Nat × zE) := [(0, Sum.inl (2, 0, 0, 0, 1, [])), (1, Sum.inl (2, 1, 0, 0, 2, [])), (2, Sum.inl (16, 1, 5, 0, 11, [])), (5, Sum.inl (2, 1, 0, 0, 6, [])), (6, Sum.inl (2, 0, 0, 0, 7, [])), (7, Sum.inl (9, 1, 0, 0, 8, [])), (8, Sum.inl (15, 0, 0, 0, 14, [])), (11, Sum.inl (2, 0, 0, 0, 12, [])), (12, Sum.inl (2, 1, 0, 0, 13, [])), (13, Sum.inl (9, 1, 0, 0, 14, [])), (14, Sum.inl (27, 0, 0, 0, 15, []))]
theorem Z_X12_off (l : Launch) : ∀ q ∈ U_X12_off, zTok l O_X12_off F_X12_off q := zU_ok rfl rfl rfl K_X12_off (E_X12_off l)
def wp_X12_off (a : List zV) (S : zS) (K : zR2 → zS → Prop) : Prop := zif (Nat.ble (zsum a) 2) (zwq 0 F_X12_off U_X12_off O_X12_off [] (fun _ _ _ _ _ _ => False) K 12 U_X12_off 0 0 S 0 (zar 0 a) [])
theorem R_X12_off (l : Launch) (a : List zV) (S : zS) (Q : zR2 → zS → Prop) (h : wp_X12_off a S Q) : zRs l 0 0 0 yX12_off (.code yX12_off cX12_off 2 (some .int)) a S Q := by
  obtain ⟨h1, h⟩ := zif_ok h
  exact zRs_of 12 (by decide) rfl h1 (zwq_ok (Z_X12_off l) rfl [] (fun _ _ _ _ _ _ h => h.elim) 12 (Z_X12_off l) h)
def mnD (D : zD) (i r : Nat) : Nat := if dH D i < r then (if r - dH D i < 2 then r - dH D i else 2) else (if dH D i - r < 2 then dH D i - r else 2)
theorem mnD_le (D : zD) (i r : Nat) : mnD D i r ≤ 2 := by unfold mnD; split <;> split <;> omega
abbrev firP (D : zD) (x y z w : Int) : Prop := (0 ≤ x ∧ x < dL D) ∧ (0 ≤ y ∧ y < dR D) ∧ (0 ≤ z ∧ z < 24) ∧ (0 ≤ w ∧ w < 2)
def fireA (D : zD) (x y z u w : Int) : Nat × Int := if firP D x y z w then (if 0 ≤ u ∧ u ≤ 10 then (0, if dD D (24 * x.toNat + z.toNat) = 1 then fireV (mnD D x.toNat y.toNat) u.toNat w else 1) else (2, 0)) else (1, 0)
def crL (r : Nat × Int) : zR2 := match r.1 with
  | 0 => .inl (some (.inr (.inr r.2)))
  | 1 => .inr zNS
  | _ => .inr zIA
def mResL (S : zS) (D E T : zD) (r : Nat × Int) (K : zR2 → zS → Prop) : Prop := ∀ S' v, eM S' D E T → frM S S' → S' 62 0 = (r.1 : Int) → (r.1 = 0 → v = r.2) → K (.inl (some (.inr (.inr v)))) S'
theorem tol_eq1 {a : Nat} : tol a = 1 ↔ a = 1 := by unfold tol; split <;> omega
section
variable {S S' : zS} {D D' E T : zD} {N : Nat} {K : zR2 → zS → Prop} {x y z u w : Int}
theorem c_fire (hC : eC S D E T) (hX : xOK D E T N) (h : cRes S D E T (crL (fireA D x y z u w)) K) : wp_X11_fire [.inr (.inl 0), .inl x, .inl y, .inl z, .inl u, .inl w] S K := by
  have h := cGood hC h
  have e1 := hC.now.lodgers
  have e2 := hC.now.rooms
  have e3 := hX.now.lodgers
  have e4 := hX.now.rooms
  unfold fireA at h
  by_cases hp : firP D x y z w
  · rw [if_pos hp] at h
    obtain ⟨⟨p1, p2⟩, ⟨p3, p4⟩, ⟨p5, p6⟩, p7, p8⟩ := hp
    by_cases hq : 0 ≤ u ∧ u ≤ 10
    · rw [if_pos hq] at h
      obtain ⟨q1, q2⟩ := hq
      have eh := hC.now.home x.toNat (by omega)
      have eh2 := hX.now.home x.toNat (by omega)
      have te := tol_eq1 (a := dD D (24 * x.toNat + z.toNat))
      have hm : min 2 ((y - S 6 x.toNat).natAbs : Int) = (mnD D x.toNat y.toNat : Int) := by
        rw [eh]
        unfold mnD
        split <;> split <;> omega
      refine ⟨rfl, fun c9 => by omega, fun _ => ⟨rfl, fun c9 => by omega, fun _ => ⟨fun c9 => by omega, fun _ => ⟨fun c9 => by omega, fun _ => ⟨fun c9 => by omega, fun _ => ⟨fun c9 => by omega, fun _ => ⟨D, x.toNat, z.toNat, ⟨rfl, hC.now, by omega, by omega, by omega, by omega⟩, fun c => ⟨x.toNat, ⟨by omega, by omega⟩, by omega, by omega, mnD D x.toNat y.toNat, u.toNat, ⟨hm, by omega, mnD_le _ _ _, by omega⟩, ?_⟩, fun c => ?_⟩⟩⟩⟩⟩⟩⟩
      · rw [if_pos (by omega)] at h; exact h
      · rw [if_neg (by omega)] at h; exact h
    · rw [if_neg hq] at h
      repeat' (first | refine And.intro ?_ ?_ | (intro _; try omega) | omega | rfl | refine ⟨_, ⟨rfl, by omega⟩, ?_⟩ | fail)
      all_goals exact h
  · rw [if_neg hp] at h
    unfold firP at hp
    repeat' (first | refine And.intro ?_ ?_ | (intro _; try omega) | omega | rfl | refine ⟨_, ⟨rfl, by omega⟩, ?_⟩ | fail)
    all_goals exact h
end
def B_X12_fire : List (Nat × zC) := [(7, (0, 0, 1, 1, 0, 0, 12)), (15, (0, 1, 1, 1, 0, 0, 12)), (23, (0, 2, 1, 1, 0, 0, 12)), (32, (0, 3, 1, 1, 0, 0, 12)), (44, (1, 4, 3, 0, 0, 0, 0)), (48, (0, 5, 2, 0, 0, 0, 12)), (80, (1, 6, 2, 0, 0, 0, 0))]
def O_X12_fire : zO := fun j a S K => match j with
  | 0 => wp_X12_isLodger a S K
  | 1 => wp_X12_isRoom a S K
  | 2 => wp_X12_isHour a S K
  | 3 => wp_X12_isTwo a S K
  | 4 => wp_X12_within a S K
  | 5 => wp_X12_right a S K
  | 6 => wp_X12_off a S K
  | _ => False
theorem E_X12_fire (l : Launch) : ∀ q ∈ B_X12_fire, zcok l O_X12_fire F_X12_fire q.1 q.2 := List.forall_mem_cons.mpr ⟨⟨302, yX12_isLodger, cX12_isLodger, 2, some .boolean, by decide +kernel, C_12_302, W_X12_isLodger, I_X12_isLodger, S_X12_isLodger, rfl, rfl, R_X12_isLodger l⟩, List.forall_mem_cons.mpr ⟨⟨287, yX12_isRoom, cX12_isRoom, 2, some .boolean, by decide +kernel, C_12_287, W_X12_isRoom, I_X12_isRoom, S_X12_isRoom, rfl, rfl, R_X12_isRoom l⟩, List.forall_mem_cons.mpr ⟨⟨305, yX12_isHour, cX12_isHour, 2, some .boolean, by decide +kernel, C_12_305, W_X12_isHour, I_X12_isHour, S_X12_isHour, rfl, rfl, R_X12_isHour l⟩, List.forall_mem_cons.mpr ⟨⟨290, yX12_isTwo, cX12_isTwo, 2, some .boolean, by decide +kernel, C_12_290, W_X12_isTwo, I_X12_isTwo, S_X12_isTwo, rfl, rfl, R_X12_isTwo l⟩, List.forall_mem_cons.mpr ⟨⟨283, yX12_within, cX12_within, 3, some .boolean, by decide +kernel, C_12_283, W_X12_within, I_X12_within, rfl, R_X12_within l⟩, List.forall_mem_cons.mpr ⟨⟨241, yX12_right, cX12_right, 3, some .boolean, by decide +kernel, C_12_241, W_X12_right, I_X12_right, S_X12_right, rfl, rfl, R_X12_right l⟩, List.forall_mem_cons.mpr ⟨⟨419, yX12_off, cX12_off, 2, some .int, by decide +kernel, C_12_419, W_X12_off, I_X12_off, rfl, R_X12_off l⟩, fun _ h => by cases h⟩⟩⟩⟩⟩⟩⟩
def U_X12_fire : List (Nat × zE) := [(0, Sum.inl (4, 0, 0, 0, 1, [])), (1, Sum.inl (0, 0, 0, 0, 2, [])), (2, Sum.inl (19, 12, 0, 0, 5, [])), (5, Sum.inl (4, 0, 0, 0, 6, [])), (6, Sum.inl (2, 1, 0, 0, 7, [])), (7, Sum.inr (0, 0, 1, 1, 0, 0, 12)), (10, Sum.inl (17, 0, 54, 0, 13, [])), (13, Sum.inl (4, 0, 0, 0, 14, [])), (14, Sum.inl (2, 2, 0, 0, 15, [])), (15, Sum.inr (0, 1, 1, 1, 0, 0, 12)), (18, Sum.inl (17, 0, 54, 0, 21, [])), (21, Sum.inl (4, 0, 0, 0, 22, [])), (22, Sum.inl (2, 3, 0, 0, 23, [])), (23, Sum.inr (0, 2, 1, 1, 0, 0, 12)), (26, Sum.inl (17, 0, 54, 0, 29, [])), (29, Sum.inl (4, 0, 0, 0, 30, [])), (30, Sum.inl (2, 5, 0, 0, 32, [])), (32, Sum.inr (0, 3, 1, 1, 0, 0, 12)), (35, Sum.inl (17, 0, 54, 0, 38, [])), (38, Sum.inl (4, 0, 0, 0, 39, [])), (39, Sum.inl (2, 4, 0, 0, 41, [])), (41, Sum.inl (0, 0, 0, 0, 42, [])), (42, Sum.inl (0, 0, 0, 10, 44, [])), (44, Sum.inr (1, 4, 3, 0, 0, 0, 0)), (47, Sum.inl (0, 0, 0, 2, 48, [])), (48, Sum.inr (0, 5, 2, 0, 0, 0, 12)), (51, Sum.inl (17, 0, 54, 0, 56, [])), (54, Sum.inl (1, 0, 0, 0, 55, [])), (55, Sum.inl (28, 0, 0, 0, 56, [])), (56, Sum.inl (4, 0, 0, 0, 57, [])), (57, Sum.inl (18, 12, 38, 0, 60, [])), (60, Sum.inl (0, 0, 0, 24, 62, [])), (62, Sum.inl (2, 1, 0, 0, 63, [])), (63, Sum.inl (9, 2, 0, 0, 64, [])), (64, Sum.inl (2, 3, 0, 0, 65, [])), (65, Sum.inl (9, 0, 0, 0, 66, [])), (66, Sum.inl (20, 0, 0, 0, 67, [])), (67, Sum.inl (0, 0, 0, 1, 68, [])), (68, Sum.inl (16, 0, 73, 0, 71, [])), (71, Sum.inl (1, 1, 0, 0, 72, [])), (72, Sum.inl (28, 0, 0, 0, 73, [])), (73, Sum.inl (4, 0, 0, 0, 74, [])), (74, Sum.inl (18, 12, 7, 0, 77, [])), (77, Sum.inl (2, 1, 0, 0, 78, [])), (78, Sum.inl (20, 0, 0, 0, 79, [])), (79, Sum.inl (2, 2, 0, 0, 80, [])), (80, Sum.inr (1, 6, 2, 0, 0, 0, 0)), (83, Sum.inl (5, 6, 0, 0, 85, [])), (85, Sum.inl (2, 6, 0, 0, 87, [])), (87, Sum.inl (0, 0, 0, 2, 88, [])), (88, Sum.inl (16, 1, 91, 0, 96, [])), (91, Sum.inl (2, 6, 0, 0, 93, [])), (93, Sum.inl (15, 0, 0, 0, 97, [])), (96, Sum.inl (0, 0, 0, 2, 97, [])), (97, Sum.inl (5, 7, 0, 0, 99, [])), (99, Sum.inl (0, 0, 0, 1, 100, [])), (100, Sum.inl (5, 8, 0, 0, 102, [])), (102, Sum.inl (0, 0, 0, 1, 103, [])), (103, Sum.inl (5, 9, 0, 0, 105, [])), (105, Sum.inl (0, 0, 0, 0, 106, [])), (106, Sum.inl (5, 10, 0, 0, 108, [])), (108, Sum.inl (2, 10, 0, 0, 110, [])), (110, Sum.inl (2, 7, 0, 0, 112, [])), (112, Sum.inl (16, 1, 115, 0, 138, [])), (115, Sum.inl (2, 8, 0, 0, 117, [])), (117, Sum.inl (0, 0, 0, 10, 119, [])), (119, Sum.inl (2, 4, 0, 0, 121, [])), (121, Sum.inl (9, 1, 0, 0, 122, [])), (122, Sum.inl (9, 2, 0, 0, 123, [])), (123, Sum.inl (5, 8, 0, 0, 125, [])), (125, Sum.inl (2, 9, 0, 0, 127, [])), (127, Sum.inl (0, 0, 0, 10, 129, [])), (129, Sum.inl (9, 2, 0, 0, 130, [])), (130, Sum.inl (5, 9, 0, 0, 132, [])), (132, Sum.inl (8, 10, 0, 1, 135, [])), (135, Sum.inl (15, 0, 0, 0, 108, [])), (138, Sum.inl (2, 9, 0, 0, 140, [])), (140, Sum.inl (5, 10, 0, 0, 142, [])), (142, Sum.inl (2, 9, 0, 0, 144, [])), (144, Sum.inl (2, 8, 0, 0, 146, [])), (146, Sum.inl (9, 1, 0, 0, 147, [])), (147, Sum.inl (5, 11, 0, 0, 149, [])), (149, Sum.inl (2, 11, 0, 0, 151, [])), (151, Sum.inl (17, 0, 172, 0, 154, [])), (154, Sum.inl (2, 10, 0, 0, 156, [])), (156, Sum.inl (2, 11, 0, 0, 158, [])), (158, Sum.inl (9, 10, 0, 0, 159, [])), (159, Sum.inl (5, 12, 0, 0, 161, [])), (161, Sum.inl (2, 11, 0, 0, 163, [])), (163, Sum.inl (5, 10, 0, 0, 165, [])), (165, Sum.inl (2, 12, 0, 0, 167, [])), (167, Sum.inl (5, 11, 0, 0, 169, [])), (169, Sum.inl (15, 0, 0, 0, 149, [])), (172, Sum.inl (2, 5, 0, 0, 174, [])), (174, Sum.inl (17, 0, 177, 0, 189, [])), (177, Sum.inl (2, 9, 0, 0, 179, [])), (179, Sum.inl (2, 8, 0, 0, 181, [])), (181, Sum.inl (9, 1, 0, 0, 182, [])), (182, Sum.inl (2, 10, 0, 0, 184, [])), (184, Sum.inl (9, 9, 0, 0, 185, [])), (185, Sum.inl (10, 0, 0, 0, 186, [])), (186, Sum.inl (15, 0, 0, 0, 195, [])), (189, Sum.inl (2, 9, 0, 0, 191, [])), (191, Sum.inl (2, 10, 0, 0, 193, [])), (193, Sum.inl (9, 9, 0, 0, 194, [])), (194, Sum.inl (10, 0, 0, 0, 195, [])), (195, Sum.inl (28, 0, 0, 0, 196, []))]
set_option maxRecDepth 20000 in
theorem Z_X12_fire (l : Launch) : ∀ q ∈ U_X12_fire, zTok l O_X12_fire F_X12_fire q := zU_ok rfl rfl rfl K_X12_fire (E_X12_fire l)
def wp_X12_fire (a : List zV) (S : zS) (K : zR2 → zS → Prop) : Prop := match a with
  | [.inr (.inl c), .inl x, .inl y, .inl z, .inl u, .inl w] => ∃ (D E T : zD) (N : Nat), (c = 62 ∧ eM S D E T ∧ xOK D E T N) ∧ mResL S D E T (fireA D x y z u w) K
  | _ => False
section
variable {l : Launch} {S : zS} {Q : zR2 → zS → Prop} {x y z w : Int} {o : Int}
theorem L0_X12_fire {m v : Nat} (hm : m ≤ 2) (hw : w = 0 ∨ w = 1) (h : Q (.inl (some (.inr (.inr (fireV m v w))))) S) : ∀ f a b, b ≤ f → 1 ≤ a + b → Nat.gcd b a = Nat.gcd (10 ^ m - (10 - v) ^ m) (10 ^ m) → a ≤ 100 → b ≤ 100 → zGs l 2 0 0 F_X12_fire S 149 [(0, .inr (.inl 62)), (1, .inl x), (2, .inl y), (3, .inl z), (4, .inl (v : Int)), (5, .inl w), (6, .inl o), (7, .inl (m : Int)), (8, .inl (((10 - v) ^ m : Nat) : Int)), (9, .inl ((10 ^ m : Nat) : Int)), (10, .inl (a : Int)), (11, .inl (b : Int))] [] Q := by
  obtain ⟨p1, p2, p3⟩ := pow_10 (w := v) hm
  unfold fireV at h
  generalize 10 ^ m = p at *
  generalize (10 - v) ^ m = q at *
  have e : (p : Int) - (q : Int) = ((p - q : Nat) : Int) := by omega
  have fin : ∀ a, 1 ≤ a → Nat.gcd 0 a = Nat.gcd (p - q) p → zGs l 2 0 0 F_X12_fire S 149 [(0, .inr (.inl 62)), (1, .inl x), (2, .inl y), (3, .inl z), (4, .inl (v : Int)), (5, .inl w), (6, .inl o), (7, .inl (m : Int)), (8, .inl (q : Int)), (9, .inl (p : Int)), (10, .inl (a : Int)), (11, .inl ((0 : Nat) : Int))] [] Q := by
    intro a ha hg
    rw [Nat.gcd_zero_left] at hg
    subst hg
    refine zwq_ok (Z_X12_fire l) rfl [149] (fun _ _ _ _ _ _ h => h) 400 (Z_X12_fire l) ?_
    refine ⟨fun c => ⟨fun c2 => ⟨by omega, by omega, ?_⟩, fun c2 => ⟨by omega, ?_⟩⟩, fun c => absurd rfl c⟩
    · rw [if_pos (by omega)] at h
      rw [e]
      exact h
    · rw [if_neg (by omega)] at h
      exact h
  intro f
  induction f with
  | zero =>
    intro a b hb hab hg _ _
    have : b = 0 := Nat.le_zero.mp hb
    subst this
    exact fin a (by omega) hg
  | succ f ih =>
    intro a b hb hab hg ha hb2
    by_cases hz : b = 0
    · subst hz
      exact fin a (by omega) hg
    · have hlt := Nat.mod_lt a (show 0 < b by omega)
      have this := ih b (a % b) (by omega) (by omega) (by rw [← hg, ← Nat.gcd_rec]) (by omega) (by omega)
      refine zwq_ok (Z_X12_fire l) rfl [149] (fun _ _ _ _ _ _ h => h) 400 (Z_X12_fire l) ?_
      refine ⟨fun c => by omega, fun c => ⟨by omega, ?_⟩⟩
      exact zGs.sub (lo := [(0, _), (1, _), (2, _), (3, _), (4, _), (5, _), (6, _), (7, _), (8, _), (9, _), (10, _), (11, _), (12, _)]) this (fun q hq => by simp only [List.mem_cons, List.not_mem_nil, or_false] at hq; rcases hq with rfl | rfl | rfl | rfl | rfl | rfl | rfl | rfl | rfl | rfl | rfl | rfl <;> first | exact .head _ | exact .tail _ (.head _) | exact .tail _ (.tail _ (.head _)) | exact .tail _ (.tail _ (.tail _ (.head _))) | exact .tail _ (.tail _ (.tail _ (.tail _ (.head _)))) | exact .tail _ (.tail _ (.tail _ (.tail _ (.tail _ (.head _))))) | exact .tail _ (.tail _ (.tail _ (.tail _ (.tail _ (.tail _ (.head _)))))) | exact .tail _ (.tail _ (.tail _ (.tail _ (.tail _ (.tail _ (.tail _ (.head _))))))) | exact .tail _ (.tail _ (.tail _ (.tail _ (.tail _ (.tail _ (.tail _ (.tail _ (.head _)))))))) | exact .tail _ (.tail _ (.tail _ (.tail _ (.tail _ (.tail _ (.tail _ (.tail _ (.tail _ (.head _))))))))) | exact .tail _ (.tail _ (.tail _ (.tail _ (.tail _ (.tail _ (.tail _ (.tail _ (.tail _ (.tail _ (.head _)))))))))) | exact .tail _ (.tail _ (.tail _ (.tail _ (.tail _ (.tail _ (.tail _ (.tail _ (.tail _ (.tail _ (.tail _ (.head _))))))))))) | exact .tail _ (.tail _ (.tail _ (.tail _ (.tail _ (.tail _ (.tail _ (.tail _ (.tail _ (.tail _ (.tail _ (.tail _ (.head _)))))))))))) | exact .tail _ (.tail _ (.tail _ (.tail _ (.tail _ (.tail _ (.tail _ (.tail _ (.tail _ (.tail _ (.tail _ (.tail _ (.tail _ (.head _))))))))))))))
theorem L_X12_fire {m v : Nat} (hm : m ≤ 2) (hv : v ≤ 10) (hw : w = 0 ∨ w = 1) (h : Q (.inl (some (.inr (.inr (fireV m v w))))) S) (f : Nat) : ∀ i, i + f = m → zGs l 2 0 0 F_X12_fire S 108 [(0, .inr (.inl 62)), (1, .inl x), (2, .inl y), (3, .inl z), (4, .inl (v : Int)), (5, .inl w), (6, .inl o), (7, .inl (m : Int)), (8, .inl (((10 - v) ^ i : Nat) : Int)), (9, .inl ((10 ^ i : Nat) : Int)), (10, .inl (i : Int))] [] Q := by
  induction f with
  | zero =>
    intro i hi
    have : i = m := by omega
    subst this
    obtain ⟨p1, p2, p3⟩ := pow_10 (w := v) hm
    have e : ((10 ^ i : Nat) : Int) - (((10 - v) ^ i : Nat) : Int) = ((10 ^ i - (10 - v) ^ i : Nat) : Int) := by omega
    have this := L0_X12_fire (l := l) (x := x) (y := y) (z := z) (o := o) hm hw h 100 (10 ^ i) (10 ^ i - (10 - v) ^ i) (by omega) (by omega) rfl (by omega) (by omega)
    refine zwq_ok (Z_X12_fire l) rfl [108, 149] (fun _ _ _ _ _ _ h => h) 400 (Z_X12_fire l) ?_
    refine ⟨fun c => by omega, fun c => ⟨by omega, ?_⟩⟩
    rw [e]
    exact this
  | succ f ih =>
    intro i hi
    obtain ⟨p1, p2, p3⟩ := pow_10 (m := i) (w := v) (by omega)
    obtain ⟨q1, q2, q3⟩ := pow_10 (m := i + 1) (w := v) (by omega)
    have e1 : ((10 ^ i : Nat) : Int) * 10 = ((10 ^ (i + 1) : Nat) : Int) := by rw [Nat.pow_succ]; omega
    have e2 : (((10 - v) ^ i : Nat) : Int) * (10 - (v : Int)) = (((10 - v) ^ (i + 1) : Nat) : Int) := by
      rw [Nat.pow_succ, Int.natCast_mul, show ((10 - v : Nat) : Int) = 10 - (v : Int) by omega]
    have this := ih (i + 1) (by omega)
    rw [← e1, ← e2] at this
    refine zwq_ok (Z_X12_fire l) rfl [108, 149] (fun _ _ _ _ _ _ h => h) 400 (Z_X12_fire l) ?_
    refine ⟨fun c => ⟨by omega, by omega, by omega, by omega, this⟩, fun c => by omega⟩
end
theorem R_X12_fire (l : Launch) (a : List zV) (S : zS) (Q : zR2 → zS → Prop) (h : wp_X12_fire a S Q) : zRs l 2 0 0 yX12_fire (.code yX12_fire cX12_fire 13 (some .long)) a S Q := by
  unfold wp_X12_fire at h
  split at h
  · rename_i c x y z u w
    obtain ⟨D, E, T, N, ⟨rfl, hM, hX⟩, h⟩ := h
    have e1 : zu S 62 0 0 62 2 = (dL D : Int) := hM.now.lodgers
    have e2 : zu S 62 0 0 62 1 = (dR D : Int) := hM.now.rooms
    have e3 := hX.now.lodgers
    have e4 := hX.now.rooms
    have hM0 : eM (zu S 62 0 0) D E T := hM.u (Or.inl rfl)
    have hF0 : frM S (zu S 62 0 0) := (frM.r S).u (by omega) (by omega)
    unfold fireA at h
    by_cases hp : firP D x y z w
    · rw [if_pos hp] at h
      obtain ⟨⟨p1, p2⟩, ⟨p3, p4⟩, ⟨p5, p6⟩, p7, p8⟩ := hp
      by_cases hq : 0 ≤ u ∧ u ≤ 10
      · rw [if_pos hq] at h
        obtain ⟨q1, q2⟩ := hq
        have eh : zu S 62 0 0 65 x.toNat = (dH D x.toNat : Int) := hM.now.home x.toNat (by omega)
        have eh2 := hX.now.home x.toNat (by omega)
        have ed : zu S 62 0 0 80 (24 * x.toNat + z.toNat) = (dD D (24 * x.toNat + z.toNat) : Int) := hM.now.day _ (by omega)
        refine zRs_of 12 (by decide) rfl rfl ?_; refine zwq_ok (Z_X12_fire l) rfl [108] (fun _ _ _ _ _ _ h => h) 400 (Z_X12_fire l) ?_
        refine ⟨⟨rfl, rfl⟩, fun _ => ⟨fun c9 => absurd c9 (by decide), fun _ => ⟨⟨rfl, rfl⟩, fun _ => ⟨fun c9 => absurd c9 (by decide), fun _ => ⟨⟨rfl, rfl⟩, fun _ => ⟨fun c9 => absurd c9 (by decide), fun _ => ⟨⟨rfl, rfl⟩, fun _ => ⟨fun c9 => absurd c9 (by decide), fun _ => ⟨fun _ => ⟨⟨rfl, Or.inr rfl⟩, fun _ c9 => absurd c9 (by decide), fun _ _ => ⟨fun c9 => absurd c9 (by decide), fun _ => ⟨by omega, by omega, 24 * x.toNat + z.toNat, ⟨by omega, by omega⟩, fun c => ?_, fun c => ?_⟩⟩, rfl, by decide⟩, fun c9 => by omega⟩⟩, fun c9 => by omega⟩⟩, fun c9 => by omega⟩⟩, fun c9 => by omega⟩⟩, fun c9 => by omega⟩
        · rw [if_pos (by omega)] at h
          have h := h _ _ hM0 hF0 zuE (fun _ => rfl)
          have go : ∀ o : Int, zGs l 2 0 0 F_X12_fire (zu S 62 0 0) 108 [(0, .inr (.inl 62)), (1, .inl x), (2, .inl y), (3, .inl z), (4, .inl u), (5, .inl w), (6, .inl o), (7, .inl (mnD D x.toNat y.toNat : Int)), (8, .inl 1), (9, .inl 1), (10, .inl 0)] [] Q := by
            intro o
            have := L_X12_fire (l := l) (x := x) (y := y) (z := z) (o := o) (v := u.toNat) (mnD_le D x.toNat y.toNat) (by omega) (by omega) h _ 0 (Nat.zero_add _)
            rw [show ((u.toNat : Nat) : Int) = u by omega] at this
            exact this
          have gm : mnD D x.toNat y.toNat = if dH D x.toNat < y.toNat then (if y.toNat - dH D x.toNat < 2 then y.toNat - dH D x.toNat else 2) else (if dH D x.toNat - y.toNat < 2 then dH D x.toNat - y.toNat else 2) := rfl
          refine ⟨x.toNat, ⟨by omega, by omega⟩, fun c1 => ⟨by omega, fun c2 => ?_, fun c2 => ?_⟩, fun c1 => ⟨by omega, fun c2 => ?_, fun c2 => ?_⟩⟩
          · have g := go (y - zu S 62 0 0 65 x.toNat)
            rw [gm, if_pos (by omega), if_pos (by omega), show ((y.toNat - dH D x.toNat : Nat) : Int) = y - zu S 62 0 0 65 x.toNat by omega] at g
            exact g
          · have g := go (y - zu S 62 0 0 65 x.toNat)
            rw [gm, if_pos (by omega), if_neg (by omega)] at g
            exact g
          · have g := go (zu S 62 0 0 65 x.toNat - y)
            rw [gm, if_neg (by omega), if_pos (by omega), show ((dH D x.toNat - y.toNat : Nat) : Int) = zu S 62 0 0 65 x.toNat - y by omega] at g
            exact g
          · have g := go (zu S 62 0 0 65 x.toNat - y)
            rw [gm, if_neg (by omega), if_neg (by omega)] at g
            exact g
        · rw [if_neg (by omega)] at h
          exact h _ _ hM0 hF0 zuE (fun _ => rfl)
      · rw [if_neg hq] at h
        have h : Q (.inl (some (.inr (.inr 0)))) (zu (zu S 62 0 0) 62 0 2) := h _ _ (hM0.u (Or.inl rfl)) (hF0.u (by omega) (by omega)) zuE (fun z => absurd z (by decide))
        refine zRs_of 12 (by decide) rfl rfl ?_; refine zwq_ok (Z_X12_fire l) rfl [108] (fun _ _ _ _ _ _ h => h) 400 (Z_X12_fire l) ?_
        repeat' (first | refine And.intro ?_ ?_ | (intro _; try omega) | omega | rfl | refine ⟨_, ⟨rfl, by omega⟩, ?_⟩ | fail)
        all_goals exact h
    · rw [if_neg hp] at h
      unfold firP at hp
      have h : Q (.inl (some (.inr (.inr 0)))) (zu (zu S 62 0 0) 62 0 1) := h _ _ (hM0.u (Or.inl rfl)) (hF0.u (by omega) (by omega)) zuE (fun z => absurd z (by decide))
      refine zRs_of 12 (by decide) rfl rfl ?_; refine zwq_ok (Z_X12_fire l) rfl [108] (fun _ _ _ _ _ _ h => h) 400 (Z_X12_fire l) ?_
      repeat' (first | refine And.intro ?_ ?_ | (intro _; try omega) | omega | rfl | refine ⟨_, ⟨rfl, by omega⟩, ?_⟩ | fail)
      all_goals exact h
  · exact h.elim
theorem m_fire {S : zS} {D E T : zD} {N : Nat} {K : zR2 → zS → Prop} {x y z u w : Int} (hM : eM S D E T) (hX : xOK D E T N) (h : mResL S D E T (fireA D x y z u w) K) : wp_X12_fire [.inr (.inl 62), .inl x, .inl y, .inl z, .inl u, .inl w] S K := ⟨D, E, T, N, ⟨rfl, hM, hX⟩, h⟩
