/-! kinds, word, mend -/
theorem bt1_xor (x y j : Nat) : bt1 (x ^^^ y) j ≤ bt1 x j + bt1 y j := by
  rw [← xor_bt]
  unfold bt1
  have h := Nat.xor_mod_two_eq_one (a := x / 2 ^ j) (b := y / 2 ^ j)
  omega
theorem blS_xor (x y : Nat) : ∀ f j, (blS (x ^^^ y) f j).length ≤ (blS x f j).length + (blS y f j).length := by
  intro f
  induction f with
  | zero => intro j; exact Nat.zero_le _
  | succ f ih =>
    intro j
    have h := ih (j + 1)
    have hb := bt1_xor x y j
    have l1 : (blS x f (j + 1)).length + bt1 x j ≤ (blS x (f + 1) j).length := by
      by_cases c : bt1 x j = 1
      · rw [blS_1 c, List.length_cons]; omega
      · rw [blS_0 c]; have := bt1_lt x j; omega
    have l2 : (blS y f (j + 1)).length + bt1 y j ≤ (blS y (f + 1) j).length := by
      by_cases c : bt1 y j = 1
      · rw [blS_1 c, List.length_cons]; omega
      · rw [blS_0 c]; have := bt1_lt y j; omega
    by_cases c : bt1 (x ^^^ y) j = 1
    · rw [blS_1 c, List.length_cons]; omega
    · rw [blS_0 c]; omega
theorem dst_tri (a b c : Nat) : dst a c ≤ dst a b + dst b c := by
  have h := blS_xor (a ^^^ b) (b ^^^ c) 18 0
  rw [Nat.xor_assoc, ← Nat.xor_assoc b b c, Nat.xor_self, Nat.zero_xor] at h
  exact h
theorem cw_far (d : Nat) : ∀ (v i j a b : Nat), i < j → (cw d v)[i]? = some a → (cw d v)[j]? = some b → d ≤ dst b a := by
  intro v
  induction v with
  | zero => intro i j a b _ h; cases h
  | succ v ih =>
    intro i j a b hij h1 h2
    cases h : (cw d v).all (fun w => Nat.ble d (dst v w)) with
    | true =>
      rw [cw_s1 h] at h1 h2
      have hj : j < (cw d v).length + 1 := by
        have := (List.getElem?_eq_some_iff.mp h2).1
        rw [List.length_append] at this
        exact this
      rw [List.getElem?_append_left (by omega)] at h1
      by_cases e : j < (cw d v).length
      · rw [List.getElem?_append_left e] at h2
        exact ih i j a b hij h1 h2
      · have : j = (cw d v).length := by omega
        subst this
        rw [List.getElem?_concat_length] at h2
        cases h2
        exact Nat.ble_eq.mp (List.all_eq_true.mp h a (List.mem_of_getElem? h1))
    | false => rw [cw_s0 h] at h1 h2; exact ih i j a b hij h1 h2
def wdN (d i : Nat) : Nat := (cod d).getD i 0
theorem wd_far {d i j : Nat} (hi : i < (cod d).length) (hj : j < (cod d).length) (h : i ≠ j) : d ≤ dst (wdN d i) (wdN d j) := by
  have h1 := lget hi
  have h2 := lget hj
  unfold wdN
  rw [cod_cw] at *
  rcases Nat.lt_or_ge i j with c | c
  · rw [dst_comm]; exact cw_far d 256 i j _ _ c h1 h2
  · exact cw_far d 256 j i _ _ (by omega) h2 h1
def mndS (d v r : Nat) : Nat → Nat → Int
  | 0, _ => -1
  | f + 1, i => if dst v (wdN d i) ≤ r then (i : Int) else mndS d v r f (i + 1)
def mendV (d v n : Nat) : Int := mndS d v ((d - 1) / 2) n 0
theorem mndS_no {d v r : Nat} : ∀ f i, (∀ k, i ≤ k → k < i + f → r < dst v (wdN d k)) → mndS d v r f i = -1 := by
  intro f
  induction f with
  | zero => intro i _; rfl
  | succ f ih =>
    intro i h
    show (if dst v (wdN d i) ≤ r then (i : Int) else mndS d v r f (i + 1)) = -1
    rw [if_neg (by have := h i (by omega) (by omega); omega)]
    exact ih (i + 1) (fun k a b => h k (by omega) (by omega))
theorem mndS_at {d v r b : Nat} (hb : dst v (wdN d b) ≤ r) : ∀ f i, i ≤ b → b < i + f → (∀ k, i ≤ k → k < b → r < dst v (wdN d k)) → mndS d v r f i = (b : Int) := by
  intro f
  induction f with
  | zero => intro i h1 h2; omega
  | succ f ih =>
    intro i h1 h2 h
    show (if dst v (wdN d i) ≤ r then (i : Int) else mndS d v r f (i + 1)) = b
    by_cases e : i = b
    · subst e; rw [if_pos hb]
    · rw [if_neg (by have := h i (by omega) (by omega); omega)]
      exact ih (i + 1) (by omega) (by omega) (fun k a b => h k (by omega) b)
theorem mend_arg {d v n b : Nat} (h1 : 1 ≤ d) (hn : n ≤ (cod d).length) (hb : b < n) (hmin : ∀ i, i < n → dst v (wdN d b) ≤ dst v (wdN d i)) : mendV d v n = if 2 * dst v (wdN d b) ≤ d - 1 then (b : Int) else -1 := by
  unfold mendV
  by_cases c : 2 * dst v (wdN d b) ≤ d - 1
  · rw [if_pos c]
    refine mndS_at (by omega) n 0 (by omega) (by omega) (fun k _ hk => ?_)
    have hf := wd_far (d := d) (i := k) (j := b) (by omega) (by omega) (by omega)
    have ht := dst_tri (wdN d k) v (wdN d b)
    rw [dst_comm (wdN d k) v] at ht
    omega
  · rw [if_neg c]
    exact mndS_no n 0 (fun k _ hk => by have := hmin k (by omega); omega)
def B_X8_mended : List (Nat × zC) := [(36, (1, 0, 1, 0, 0, 0, 0))]
def O_X8_mended : zO := fun j a S K => match j with
  | 0 => wp_J6_bitCount_0f7a4 a S K
  | _ => False
theorem E_X8_mended (l : Launch) : ∀ q ∈ B_X8_mended, zcok l O_X8_mended F_X8_mended q.1 q.2 := List.forall_mem_cons.mpr ⟨⟨26, yJ6_bitCount_0f7a4, cJ6_bitCount_0f7a4, 1, some .int, by decide +kernel, C_8_26, W_J6_bitCount_0f7a4, I_J6_bitCount_0f7a4, rfl, R_J6_bitCount_0f7a4 l⟩, fun _ h => by cases h⟩
def U_X8_mended : List (Nat × zE) := [(0, Sum.inl (4, 0, 0, 0, 1, [])), (1, Sum.inl (18, 8, 2, 0, 4, [])), (4, Sum.inl (0, 0, 0, 1, 5, [])), (5, Sum.inl (9, 1, 0, 0, 6, [])), (6, Sum.inl (0, 0, 0, 2, 7, [])), (7, Sum.inl (9, 9, 0, 0, 8, [])), (8, Sum.inl (5, 3, 0, 0, 9, [])), (9, Sum.inl (0, 0, 0, 0, 10, [])), (10, Sum.inl (5, 4, 0, 0, 12, [])), (12, Sum.inl (2, 4, 0, 0, 14, [])), (14, Sum.inl (2, 2, 0, 0, 15, [])), (15, Sum.inl (16, 1, 18, 0, 52, [])), (18, Sum.inl (2, 4, 0, 0, 20, [])), (20, Sum.inl (4, 0, 0, 0, 21, [])), (21, Sum.inl (18, 8, 1, 0, 24, [])), (24, Sum.inl (16, 1, 27, 0, 52, [])), (27, Sum.inl (2, 1, 0, 0, 28, [])), (28, Sum.inl (4, 0, 0, 0, 29, [])), (29, Sum.inl (18, 8, 0, 0, 32, [])), (32, Sum.inl (2, 4, 0, 0, 34, [])), (34, Sum.inl (20, 0, 0, 0, 35, [])), (35, Sum.inl (9, 5, 0, 0, 36, [])), (36, Sum.inr (1, 0, 1, 0, 0, 0, 0)), (39, Sum.inl (2, 3, 0, 0, 40, [])), (40, Sum.inl (16, 2, 46, 0, 43, [])), (43, Sum.inl (2, 4, 0, 0, 45, [])), (45, Sum.inl (27, 0, 0, 0, 46, [])), (46, Sum.inl (8, 4, 0, 1, 49, [])), (49, Sum.inl (15, 0, 0, 0, 12, [])), (52, Sum.inl (0, 0, 0, (-1), 53, [])), (53, Sum.inl (27, 0, 0, 0, 54, []))]
theorem Z_X8_mended (l : Launch) : ∀ q ∈ U_X8_mended, zTok l O_X8_mended F_X8_mended q := zU_ok rfl rfl rfl K_X8_mended (E_X8_mended l)
def wp_X8_mended (a : List zV) (S : zS) (K : zR2 → zS → Prop) : Prop := match a with
  | [.inr (.inl c), .inl x, .inl y] => ∃ (v n d : Nat), (c = 59 ∧ x = (v : Int) ∧ v < 256 ∧ y = (n : Int) ∧ n ≤ 40 ∧ 1 ≤ d ∧ d ≤ 3 ∧ S 59 2 = (d : Int) ∧ S 59 1 = (((cod d).take 40).length : Int) ∧ wS S 60 ((cod d).take 40) ∧ n ≤ (cod d).length) ∧ K (.inl (some (.inl (mendV d v n)))) S
  | _ => False
theorem L_X8_mended {l : Launch} {S : zS} {Q : zR2 → zS → Prop} {v n d : Nat} (hv : v < 256) (hn : n ≤ 40) (hd : 1 ≤ d ∧ d ≤ 3) (h2 : S 59 2 = (d : Int)) (h1 : S 59 1 = (((cod d).take 40).length : Int)) (hw : wS S 60 ((cod d).take 40)) (hc : n ≤ (cod d).length) (f : Nat) : ∀ i, i + f = n → Q (.inl (some (.inl (mndS d v ((d - 1) / 2) f i)))) S → zGs l 1 0 0 F_X8_mended S 12 [(0, .inr (.inl 59)), (1, .inl (v : Int)), (2, .inl (n : Int)), (3, .inl (((d - 1) / 2 : Nat) : Int)), (4, .inl (i : Int))] [] Q := by
  have ht := (tak_40 (d := d) hn).mpr hc
  induction f with
  | zero =>
    intro i hi h
    refine zwq_ok (Z_X8_mended l) rfl [12] (fun _ _ _ _ _ _ h => h) 400 (Z_X8_mended l) ?_
    exact ⟨fun c => by omega, fun c => h⟩
  | succ f ih =>
    intro i hi h
    have hg := lget (l := cod d) (n := i) (by omega)
    have hlt := cod_lt hg
    rw [← tak_get (by omega)] at hg
    have hS := hw i _ hg
    have h : Q (.inl (some (.inl (if dst v (wdN d i) ≤ (d - 1) / 2 then (i : Int) else mndS d v ((d - 1) / 2) f (i + 1))))) S := h
    have e9 : wdN d i = (cod d).getD i 0 := rfl
    rw [e9] at h
    generalize (cod d).getD i 0 = w at *
    have e := zxor_n (a := v) (b := w) (by omega) (by omega)
    have hx := xor_256 hv hlt
    refine zwq_ok (Z_X8_mended l) rfl [12] (fun _ _ _ _ _ _ h => h) 400 (Z_X8_mended l) ?_
    refine ⟨fun c => ⟨fun c2 => ⟨i, ⟨rfl, by omega⟩, v ^^^ w, v ^^^ w, ⟨by rw [hS, e], Or.inl ⟨rfl, hx⟩⟩, fun c3 => ⟨by omega, ?_⟩, fun c3 => ?_⟩, fun c2 => by omega⟩, fun c => by omega⟩
    · rw [if_neg (by unfold dst; omega)] at h
      exact ih (i + 1) (by omega) h
    · rw [if_pos (by unfold dst; omega)] at h
      exact h
theorem R_X8_mended (l : Launch) (a : List zV) (S : zS) (Q : zR2 → zS → Prop) (h : wp_X8_mended a S Q) : zRs l 1 0 0 yX8_mended (.code yX8_mended cX8_mended 5 (some .int)) a S Q := by
  unfold wp_X8_mended at h
  split at h
  · obtain ⟨v, n, d, ⟨rfl, rfl, hv, rfl, hn, hd1, hd3, h2, h1, hw, hc⟩, h⟩ := h
    have e : (S 59 2 - 1) / 2 = (((d - 1) / 2 : Nat) : Int) := by omega
    refine zRs_of 8 (by decide) rfl rfl ?_; refine zwq_ok (Z_X8_mended l) rfl [12] (fun _ _ _ _ _ _ h => h) 400 (Z_X8_mended l) ?_
    refine ⟨by omega, by omega, ?_⟩
    rw [e]
    exact L_X8_mended hv hn ⟨hd1, hd3⟩ h2 h1 hw hc n 0 (by omega) h
  · exact h.elim
def B_X12_mend : List (Nat × zC) := [(8, (0, 0, 2, 1, 0, 0, 12)), (20, (1, 1, 3, 0, 0, 0, 0)), (24, (0, 2, 2, 0, 0, 0, 12)), (34, (0, 3, 1, 1, 0, 0, 12)), (52, (0, 2, 2, 0, 0, 0, 12)), (80, (1, 4, 2, 0, 0, 0, 0)), (91, (1, 4, 2, 0, 0, 0, 0)), (116, (1, 4, 2, 0, 0, 0, 0))]
def O_X12_mend : zO := fun j a S K => match j with
  | 0 => wp_X12_isCode a S K
  | 1 => wp_X12_within a S K
  | 2 => wp_X12_right a S K
  | 3 => wp_X12_spells a S K
  | 4 => wp_X12_apart a S K
  | _ => False
theorem E_X12_mend (l : Launch) : ∀ q ∈ B_X12_mend, zcok l O_X12_mend F_X12_mend q.1 q.2 := List.forall_mem_cons.mpr ⟨⟨413, yX12_isCode, cX12_isCode, 3, some .boolean, by decide +kernel, C_12_413, W_X12_isCode, I_X12_isCode, S_X12_isCode, rfl, rfl, R_X12_isCode l⟩, List.forall_mem_cons.mpr ⟨⟨283, yX12_within, cX12_within, 3, some .boolean, by decide +kernel, C_12_283, W_X12_within, I_X12_within, rfl, R_X12_within l⟩, List.forall_mem_cons.mpr ⟨⟨241, yX12_right, cX12_right, 3, some .boolean, by decide +kernel, C_12_241, W_X12_right, I_X12_right, S_X12_right, rfl, rfl, R_X12_right l⟩, List.forall_mem_cons.mpr ⟨⟨416, yX12_spells, cX12_spells, 5, none, by decide +kernel, C_12_416, W_X12_spells, I_X12_spells, S_X12_spells, rfl, rfl, R_X12_spells l⟩, List.forall_mem_cons.mpr ⟨⟨241, yX12_right, cX12_right, 3, some .boolean, by decide +kernel, C_12_241, W_X12_right, I_X12_right, S_X12_right, rfl, rfl, R_X12_right l⟩, List.forall_mem_cons.mpr ⟨⟨410, yX12_apart, cX12_apart, 4, some .int, by decide +kernel, C_12_410, W_X12_apart, I_X12_apart, rfl, R_X12_apart l⟩, List.forall_mem_cons.mpr ⟨⟨410, yX12_apart, cX12_apart, 4, some .int, by decide +kernel, C_12_410, W_X12_apart, I_X12_apart, rfl, R_X12_apart l⟩, List.forall_mem_cons.mpr ⟨⟨410, yX12_apart, cX12_apart, 4, some .int, by decide +kernel, C_12_410, W_X12_apart, I_X12_apart, rfl, R_X12_apart l⟩, fun _ h => by cases h⟩⟩⟩⟩⟩⟩⟩⟩
def U_X12_mend : List (Nat × zE) := [(0, Sum.inl (4, 0, 0, 0, 1, [])), (1, Sum.inl (0, 0, 0, 0, 2, [])), (2, Sum.inl (19, 12, 0, 0, 5, [])), (5, Sum.inl (4, 0, 0, 0, 6, [])), (6, Sum.inl (2, 2, 0, 0, 7, [])), (7, Sum.inl (2, 3, 0, 0, 8, [])), (8, Sum.inr (0, 0, 2, 1, 0, 0, 12)), (11, Sum.inl (17, 0, 30, 0, 14, [])), (14, Sum.inl (4, 0, 0, 0, 15, [])), (15, Sum.inl (2, 1, 0, 0, 16, [])), (16, Sum.inl (0, 0, 0, 0, 17, [])), (17, Sum.inl (0, 0, 0, 255, 20, [])), (20, Sum.inr (1, 1, 3, 0, 0, 0, 0)), (23, Sum.inl (0, 0, 0, 1, 24, [])), (24, Sum.inr (0, 2, 2, 0, 0, 0, 12)), (27, Sum.inl (17, 0, 30, 0, 32, [])), (30, Sum.inl (0, 0, 0, 0, 31, [])), (31, Sum.inl (27, 0, 0, 0, 32, [])), (32, Sum.inl (4, 0, 0, 0, 33, [])), (33, Sum.inl (2, 3, 0, 0, 34, [])), (34, Sum.inr (0, 3, 1, 1, 0, 0, 12)), (37, Sum.inl (4, 0, 0, 0, 38, [])), (38, Sum.inl (2, 2, 0, 0, 39, [])), (39, Sum.inl (4, 0, 0, 0, 40, [])), (40, Sum.inl (18, 12, 62, 0, 43, [])), (43, Sum.inl (16, 2, 50, 0, 46, [])), (46, Sum.inl (0, 0, 0, 1, 47, [])), (47, Sum.inl (15, 0, 0, 0, 51, [])), (50, Sum.inl (0, 0, 0, 0, 51, [])), (51, Sum.inl (0, 0, 0, 1, 52, [])), (52, Sum.inr (0, 2, 2, 0, 0, 0, 12)), (55, Sum.inl (17, 0, 58, 0, 60, [])), (58, Sum.inl (0, 0, 0, 0, 59, [])), (59, Sum.inl (27, 0, 0, 0, 60, [])), (60, Sum.inl (0, 0, 0, 0, 61, [])), (61, Sum.inl (5, 4, 0, 0, 63, [])), (63, Sum.inl (0, 0, 0, 1, 64, [])), (64, Sum.inl (5, 5, 0, 0, 66, [])), (66, Sum.inl (2, 5, 0, 0, 68, [])), (68, Sum.inl (2, 2, 0, 0, 69, [])), (69, Sum.inl (16, 1, 72, 0, 107, [])), (72, Sum.inl (4, 0, 0, 0, 73, [])), (73, Sum.inl (18, 12, 61, 0, 76, [])), (76, Sum.inl (2, 5, 0, 0, 78, [])), (78, Sum.inl (20, 0, 0, 0, 79, [])), (79, Sum.inl (2, 1, 0, 0, 80, [])), (80, Sum.inr (1, 4, 2, 0, 0, 0, 0)), (83, Sum.inl (4, 0, 0, 0, 84, [])), (84, Sum.inl (18, 12, 61, 0, 87, [])), (87, Sum.inl (2, 4, 0, 0, 89, [])), (89, Sum.inl (20, 0, 0, 0, 90, [])), (90, Sum.inl (2, 1, 0, 0, 91, [])), (91, Sum.inr (1, 4, 2, 0, 0, 0, 0)), (94, Sum.inl (16, 1, 97, 0, 101, [])), (97, Sum.inl (2, 5, 0, 0, 99, [])), (99, Sum.inl (5, 4, 0, 0, 101, [])), (101, Sum.inl (8, 5, 0, 1, 104, [])), (104, Sum.inl (15, 0, 0, 0, 66, [])), (107, Sum.inl (0, 0, 0, 2, 108, [])), (108, Sum.inl (4, 0, 0, 0, 109, [])), (109, Sum.inl (18, 12, 61, 0, 112, [])), (112, Sum.inl (2, 4, 0, 0, 114, [])), (114, Sum.inl (20, 0, 0, 0, 115, [])), (115, Sum.inl (2, 1, 0, 0, 116, [])), (116, Sum.inr (1, 4, 2, 0, 0, 0, 0)), (119, Sum.inl (9, 2, 0, 0, 120, [])), (120, Sum.inl (2, 3, 0, 0, 121, [])), (121, Sum.inl (0, 0, 0, 1, 122, [])), (122, Sum.inl (9, 1, 0, 0, 123, [])), (123, Sum.inl (16, 2, 131, 0, 126, [])), (126, Sum.inl (2, 4, 0, 0, 128, [])), (128, Sum.inl (15, 0, 0, 0, 132, [])), (131, Sum.inl (0, 0, 0, (-1), 132, [])), (132, Sum.inl (27, 0, 0, 0, 133, []))]
theorem Z_X12_mend (l : Launch) : ∀ q ∈ U_X12_mend, zTok l O_X12_mend F_X12_mend q := zU_ok rfl rfl rfl K_X12_mend (E_X12_mend l)
abbrev menP (x y z : Int) : Prop := ((1 ≤ y ∧ y ≤ 40) ∧ (1 ≤ z ∧ z ≤ 3)) ∧ (0 ≤ x ∧ x ≤ 255) ∧ y ≤ ((cod z.toNat).length : Int)
def mendA (x y z : Int) : Nat × Int := if menP x y z then (0, mendV z.toNat x.toNat y.toNat) else (1, 0)
def wp_X12_mend (a : List zV) (S : zS) (K : zR2 → zS → Prop) : Prop := match a with
  | [.inr (.inl c), .inl x, .inl y, .inl z] => ∃ (D E T : zD), (c = 62 ∧ eM S D E T) ∧ mRes S D E T (mendA x y z) K
  | _ => False
theorem L_X12_mend {l : Launch} {S : zS} {Q : zR2 → zS → Prop} {v n d : Nat} (hv : v < 256) (hn : n ≤ 40) (hd : 1 ≤ d ∧ d ≤ 3) (hw : wS S 96 (cod d)) (hc : n ≤ (cod d).length) (h : Q (.inl (some (.inl (mendV d v n)))) S) (f : Nat) : ∀ k b, k + f = n → b < k → (∀ i, i < k → dst v (wdN d b) ≤ dst v (wdN d i)) → zGs l 2 0 0 F_X12_mend S 66 [(0, .inr (.inl 62)), (1, .inl (v : Int)), (2, .inl (n : Int)), (3, .inl (d : Int)), (4, .inl (b : Int)), (5, .inl (k : Int))] [] Q := by
  have hl := cod_len d
  have hg : ∀ i, i < n → S 96 i = (wdN d i : Int) ∧ wdN d i < 256 := fun i hi => ⟨hw i _ (lget (by omega)), cod_lt (lget (l := cod d) (n := i) (by omega))⟩
  induction f with
  | zero =>
    intro k b hk hb hmin
    have : k = n := by omega
    subst this
    obtain ⟨g1, g2⟩ := hg b hb
    have hm := mend_arg hd.1 hc hb hmin
    rw [hm] at h
    have hd18 := dst_le v (wdN d b)
    have dc := dst_comm (wdN d b) v
    refine zwq_ok (Z_X12_mend l) rfl [66] (fun _ _ _ _ _ _ h => h) 400 (Z_X12_mend l) ?_
    refine ⟨fun c => by omega, fun c => ⟨b, ⟨rfl, by omega⟩, wdN d b, v, ⟨g1, rfl, g2, hv⟩, by omega, by omega, fun c2 => ?_, fun c2 => ?_⟩⟩
    · rw [if_neg (by omega)] at h; exact h
    · rw [if_pos (by omega)] at h; exact h
  | succ f ih =>
    intro k b hk hb hmin
    obtain ⟨g1, g2⟩ := hg b (by omega)
    obtain ⟨g3, g4⟩ := hg k (by omega)
    have dc := dst_comm (wdN d b) v
    have dc2 := dst_comm (wdN d k) v
    refine zwq_ok (Z_X12_mend l) rfl [66] (fun _ _ _ _ _ _ h => h) 400 (Z_X12_mend l) ?_
    refine ⟨fun c => ⟨k, ⟨rfl, by omega⟩, wdN d k, v, ⟨g3, rfl, g4, hv⟩, b, ⟨rfl, by omega⟩, wdN d b, v, ⟨g1, rfl, g2, hv⟩, fun c2 => ⟨by omega, ?_⟩, fun c2 => ⟨by omega, ?_⟩⟩, fun c => by omega⟩
    · refine ih (k + 1) k (by omega) (by omega) (fun i hi => ?_)
      by_cases e : i = k
      · subst e; exact Nat.le_refl _
      · have := hmin i (by omega); omega
    · refine ih (k + 1) b (by omega) (by omega) (fun i hi => ?_)
      by_cases e : i = k
      · subst e; omega
      · exact hmin i (by omega)
theorem R_X12_mend (l : Launch) (a : List zV) (S : zS) (Q : zR2 → zS → Prop) (h : wp_X12_mend a S Q) : zRs l 2 0 0 yX12_mend (.code yX12_mend cX12_mend 6 (some .int)) a S Q := by
  unfold wp_X12_mend at h
  split at h
  · rename_i c x y z
    obtain ⟨D, E, T, ⟨rfl, hM⟩, h⟩ := h
    have hl := cod_len z.toNat
    unfold mendA at h
    by_cases hp : menP x y z
    · rw [if_pos hp] at h
      obtain ⟨⟨⟨p1, p2⟩, p3, p4⟩, ⟨p5, p6⟩, p7⟩ := hp
      refine zRs_of 12 (by decide) rfl rfl ?_; refine zwq_ok (Z_X12_mend l) rfl [66] (fun _ _ _ _ _ _ h => h) 400 (Z_X12_mend l) ?_
      refine ⟨fun _ => ⟨fun c9 => absurd c9 (by decide), fun _ => ⟨fun _ => ⟨fun c9 => absurd c9 (by decide), fun _ => ⟨⟨rfl, Or.inr rfl⟩, fun _ c9 => absurd c9 (by decide), fun _ _ => ⟨Or.inr rfl, fun c9 => absurd c9 (by decide), fun _ => ⟨fun _ => ⟨⟨rfl, Or.inr rfl⟩, fun _ c9 => absurd c9 (by decide), fun _ _ => ⟨fun c9 => absurd c9 (by decide), fun _ => ?_⟩, rfl, by decide⟩, fun c9 => by omega⟩⟩, rfl, by decide⟩⟩, fun c9 => by omega⟩⟩, fun c9 => by omega⟩
      refine ⟨z.toNat, ⟨rfl, by omega⟩, fun S' s1 s2 s3 => ?_⟩
      obtain ⟨g1, g2, g3⟩ := mSp hM s3
      have := L_X12_mend (l := l) (v := x.toNat) (n := y.toNat) (d := z.toNat) (by omega) (by omega) (by omega) s2 (by omega) (h S' _ g1 g2 g3 (fun _ => rfl)) (y.toNat - 1) 1 0 (by omega) (by omega) (fun i hi => by rw [show i = 0 by omega]; exact Nat.le_refl _)
      rw [show ((x.toNat : Nat) : Int) = x by omega, show ((y.toNat : Nat) : Int) = y by omega, show ((z.toNat : Nat) : Int) = z by omega] at this
      refine ⟨fun c9 => by omega, fun _ => ⟨⟨rfl, Or.inr rfl⟩, fun _ c9 => absurd c9 (by decide), fun _ _ => ⟨fun c9 => absurd c9 (by decide), fun _ => this⟩, g3, by decide⟩⟩
    · rw [if_neg hp] at h
      have hpn := hp
      unfold menP at hp
      by_cases hq : ((1 ≤ y ∧ y ≤ 40) ∧ (1 ≤ z ∧ z ≤ 3)) ∧ (0 ≤ x ∧ x ≤ 255)
      · obtain ⟨⟨⟨p1, p2⟩, p3, p4⟩, p5, p6⟩ := hq
        refine zRs_of 12 (by decide) rfl rfl ?_; refine zwq_ok (Z_X12_mend l) rfl [66] (fun _ _ _ _ _ _ h => h) 400 (Z_X12_mend l) ?_
        refine ⟨fun _ => ⟨fun c9 => absurd c9 (by decide), fun _ => ⟨fun _ => ⟨fun c9 => absurd c9 (by decide), fun _ => ⟨⟨rfl, Or.inr rfl⟩, fun _ c9 => absurd c9 (by decide), fun _ _ => ⟨Or.inr rfl, fun c9 => absurd c9 (by decide), fun _ => ⟨fun _ => ⟨⟨rfl, Or.inr rfl⟩, fun _ c9 => absurd c9 (by decide), fun _ _ => ⟨fun c9 => absurd c9 (by decide), fun _ => ?_⟩, rfl, by decide⟩, fun c9 => by omega⟩⟩, rfl, by decide⟩⟩, fun c9 => by omega⟩⟩, fun c9 => by omega⟩
        refine ⟨z.toNat, ⟨rfl, by omega⟩, fun S' s1 s2 s3 => ?_⟩
        obtain ⟨g1, g2, g3⟩ := mSp hM s3
        refine ⟨fun _ => ⟨⟨rfl, Or.inl rfl⟩, fun _ _ _ => ⟨fun _ => ?_, fun c9 => absurd rfl c9⟩, fun _ c9 => absurd c9 (by decide), g3, by decide⟩, fun c9 => by omega⟩
        exact h _ 0 (g1.u (Or.inl rfl)) (g2.u (by omega) (by omega)) zuE (fun z => absurd z (by decide))
      · have h1 := mFail1 hM h
        refine zRs_of 12 (by decide) rfl rfl ?_; refine zwq_ok (Z_X12_mend l) rfl [66] (fun _ _ _ _ _ _ h => h) 400 (Z_X12_mend l) ?_
        repeat' (first | refine And.intro ?_ ?_ | (intro _; try omega) | omega | rfl | refine ⟨_, ⟨rfl, by omega⟩, ?_⟩ | fail)
        all_goals exact h1
  · exact h.elim
def B_X11_kinds : List (Nat × zC) := [(1, (4, 0, 1, 6, 0, 0, 0)), (5, (4, 1, 1, 6, 0, 0, 0)), (13, (0, 2, 1, 2, 0, 0, 8)), (21, (0, 3, 1, 0, 0, 0, 8))]
def O_X11_kinds : zO := fun j a S K => match j with
  | 0 => wp_X11_needWordCount a S K
  | 1 => wp_X11_needApart a S K
  | 2 => wp_X8_lay a S K
  | 3 => wp_X8_kindsFor a S K
  | _ => False
theorem E_X11_kinds (l : Launch) : ∀ q ∈ B_X11_kinds, zcok l O_X11_kinds F_X11_kinds q.1 q.2 := List.forall_mem_cons.mpr ⟨⟨322, yX11_needWordCount, cX11_needWordCount, 1, none, by decide +kernel, C_11_322, W_X11_needWordCount, I_X11_needWordCount, rfl, R_X11_needWordCount l⟩, List.forall_mem_cons.mpr ⟨⟨325, yX11_needApart, cX11_needApart, 1, none, by decide +kernel, C_11_325, W_X11_needApart, I_X11_needApart, rfl, R_X11_needApart l⟩, List.forall_mem_cons.mpr ⟨⟨328, yX8_lay, cX8_lay, 3, none, by decide +kernel, C_11_328, W_X8_lay, I_X8_lay, S_X8_lay, rfl, rfl, R_X8_lay l⟩, List.forall_mem_cons.mpr ⟨⟨331, yX8_kindsFor, cX8_kindsFor, 3, some .int, by decide +kernel, C_11_331, W_X8_kindsFor, I_X8_kindsFor, S_X8_kindsFor, rfl, rfl, R_X8_kindsFor l⟩, fun _ h => by cases h⟩⟩⟩⟩
def U_X11_kinds : List (Nat × zE) := [(0, Sum.inl (2, 1, 0, 0, 1, [])), (1, Sum.inr (4, 0, 1, 6, 0, 0, 0)), (4, Sum.inl (2, 2, 0, 0, 5, [])), (5, Sum.inr (4, 1, 1, 6, 0, 0, 0)), (8, Sum.inl (4, 0, 0, 0, 9, [])), (9, Sum.inl (18, 11, 12, 0, 12, [])), (12, Sum.inl (2, 2, 0, 0, 13, [])), (13, Sum.inr (0, 2, 1, 2, 0, 0, 8)), (16, Sum.inl (4, 0, 0, 0, 17, [])), (17, Sum.inl (18, 11, 12, 0, 20, [])), (20, Sum.inl (2, 1, 0, 0, 21, [])), (21, Sum.inr (0, 3, 1, 0, 0, 0, 8)), (24, Sum.inl (27, 0, 0, 0, 25, []))]
theorem Z_X11_kinds (l : Launch) : ∀ q ∈ U_X11_kinds, zTok l O_X11_kinds F_X11_kinds q := zU_ok rfl rfl rfl K_X11_kinds (E_X11_kinds l)
def wp_X11_kinds (a : List zV) (S : zS) (K : zR2 → zS → Prop) : Prop := zif (Nat.ble (zsum a) 3) (zwq 7 F_X11_kinds U_X11_kinds O_X11_kinds [] (fun _ _ _ _ _ _ => False) K 14 U_X11_kinds 1 6 S 0 (zar 0 a) [])
theorem R_X11_kinds (l : Launch) (a : List zV) (S : zS) (Q : zR2 → zS → Prop) (h : wp_X11_kinds a S Q) : zRs l 7 1 6 yX11_kinds (.code yX11_kinds cX11_kinds 3 (some .int)) a S Q := by
  obtain ⟨h1, h⟩ := zif_ok h
  exact zRs_of 11 (by decide) rfl h1 (zwq_ok (Z_X11_kinds l) rfl [] (fun _ _ _ _ _ _ h => h.elim) 14 (Z_X11_kinds l) h)
def B_X11_mend : List (Nat × zC) := [(1, (4, 0, 1, 6, 0, 0, 0)), (5, (4, 1, 1, 6, 0, 0, 0)), (19, (9, 0, 1, 127, 340, 131, 0)), (35, (0, 2, 1, 2, 0, 0, 8)), (49, (9, 0, 1, 127, 342, 131, 0)), (66, (0, 3, 2, 1, 0, 0, 8))]
def O_X11_mend : zO := fun j a S K => match j with
  | 0 => wp_X11_needWordCount a S K
  | 1 => wp_X11_needApart a S K
  | 2 => wp_X8_lay a S K
  | 3 => wp_X8_mended a S K
  | _ => False
theorem E_X11_mend (l : Launch) : ∀ q ∈ B_X11_mend, zcok l O_X11_mend F_X11_mend q.1 q.2 := List.forall_mem_cons.mpr ⟨⟨322, yX11_needWordCount, cX11_needWordCount, 1, none, by decide +kernel, C_11_322, W_X11_needWordCount, I_X11_needWordCount, rfl, R_X11_needWordCount l⟩, List.forall_mem_cons.mpr ⟨⟨325, yX11_needApart, cX11_needApart, 1, none, by decide +kernel, C_11_325, W_X11_needApart, I_X11_needApart, rfl, R_X11_needApart l⟩, List.forall_mem_cons.mpr ⟨⟨rfl, rfl, z_at 547 (by decide +kernel) (by decide +kernel), ⟨28, _, rfl, rfl, rfl⟩, by decide +kernel, by decide +kernel, Or.inr ⟨rfl, by decide +kernel, by decide +kernel, by decide +kernel⟩, Or.inl ⟨rfl, rfl⟩⟩, List.forall_mem_cons.mpr ⟨⟨328, yX8_lay, cX8_lay, 3, none, by decide +kernel, C_11_328, W_X8_lay, I_X8_lay, S_X8_lay, rfl, rfl, R_X8_lay l⟩, List.forall_mem_cons.mpr ⟨⟨rfl, rfl, z_at 547 (by decide +kernel) (by decide +kernel), ⟨29, _, rfl, rfl, rfl⟩, by decide +kernel, by decide +kernel, Or.inr ⟨rfl, by decide +kernel, by decide +kernel, by decide +kernel⟩, Or.inl ⟨rfl, rfl⟩⟩, List.forall_mem_cons.mpr ⟨⟨344, yX8_mended, cX8_mended, 5, some .int, by decide +kernel, C_11_344, W_X8_mended, I_X8_mended, S_X8_mended, rfl, rfl, R_X8_mended l⟩, fun _ h => by cases h⟩⟩⟩⟩⟩⟩
def U_X11_mend : List (Nat × zE) := [(0, Sum.inl (2, 2, 0, 0, 1, [])), (1, Sum.inr (4, 0, 1, 6, 0, 0, 0)), (4, Sum.inl (2, 3, 0, 0, 5, [])), (5, Sum.inr (4, 1, 1, 6, 0, 0, 0)), (8, Sum.inl (2, 1, 0, 0, 9, [])), (9, Sum.inl (17, 1, 19, 0, 12, [])), (12, Sum.inl (2, 1, 0, 0, 13, [])), (13, Sum.inl (0, 0, 0, 256, 16, [])), (16, Sum.inl (16, 1, 30, 0, 19, [])), (19, Sum.inr (9, 0, 1, 127, 340, 131, 0)), (22, Sum.inl (12, 0, 0, 0, 23, [])), (30, Sum.inl (4, 0, 0, 0, 31, [])), (31, Sum.inl (18, 11, 12, 0, 34, [])), (34, Sum.inl (2, 3, 0, 0, 35, [])), (35, Sum.inr (0, 2, 1, 2, 0, 0, 8)), (38, Sum.inl (4, 0, 0, 0, 39, [])), (39, Sum.inl (18, 11, 12, 0, 42, [])), (42, Sum.inl (18, 8, 1, 0, 45, [])), (45, Sum.inl (2, 2, 0, 0, 46, [])), (46, Sum.inl (16, 1, 49, 0, 60, [])), (49, Sum.inr (9, 0, 1, 127, 342, 131, 0)), (52, Sum.inl (12, 0, 0, 0, 53, [])), (60, Sum.inl (4, 0, 0, 0, 61, [])), (61, Sum.inl (18, 11, 12, 0, 64, [])), (64, Sum.inl (2, 1, 0, 0, 65, [])), (65, Sum.inl (2, 2, 0, 0, 66, [])), (66, Sum.inr (0, 3, 2, 1, 0, 0, 8)), (69, Sum.inl (27, 0, 0, 0, 70, []))]
theorem Z_X11_mend (l : Launch) : ∀ q ∈ U_X11_mend, zTok l O_X11_mend F_X11_mend q := zU_ok rfl rfl rfl K_X11_mend (E_X11_mend l)
def wp_X11_mend (a : List zV) (S : zS) (K : zR2 → zS → Prop) : Prop := zif (Nat.ble (zsum a) 4) (zwq 7 F_X11_mend U_X11_mend O_X11_mend [] (fun _ _ _ _ _ _ => False) K 35 U_X11_mend 1 6 S 0 (zar 0 a) [])
theorem R_X11_mend (l : Launch) (a : List zV) (S : zS) (Q : zR2 → zS → Prop) (h : wp_X11_mend a S Q) : zRs l 7 1 6 yX11_mend (.code yX11_mend cX11_mend 4 (some .int)) a S Q := by
  obtain ⟨h1, h⟩ := zif_ok h
  exact zRs_of 11 (by decide) rfl h1 (zwq_ok (Z_X11_mend l) rfl [] (fun _ _ _ _ _ _ h => h.elim) 35 (Z_X11_mend l) h)
section
variable {S S' : zS} {D D' E T : zD} {N : Nat} {K : zR2 → zS → Prop} {x y z u w : Int}
theorem c_kinds (hC : eC S D E T) (h : cRes S D E T (cr2 (kindsA x y)) K) : wp_X11_kinds [.inr (.inl 0), .inl x, .inl y] S K := by
  unfold kindsA at h
  by_cases hp : kinP x y
  · rw [if_pos hp] at h
    obtain ⟨⟨p1, p2⟩, p3, p4⟩ := hp
    refine ⟨fun c9 => by omega, fun _ => ⟨fun c9 => by omega, fun _ => ⟨y.toNat, ⟨rfl, by omega, by omega, by omega, hC.slippers⟩, fun S' a1 a2 a3 a4 => ?_⟩⟩⟩
    have hE := hC.sl a4 (Or.inr ⟨y.toNat, by omega, by omega, a1, a2, a3⟩)
    have hF : frC S S' := fun c hc => a4 c (by omega) (by omega)
    refine ⟨x.toNat, y.toNat, ⟨rfl, by omega, by omega, by omega, a2, a3⟩, fun c => ?_, fun c => ?_⟩
    · rw [if_pos (by omega)] at h; exact h S' hE hF
    · rw [if_neg (by omega)] at h; exact h S' hE hF
  · rw [if_neg hp] at h
    unfold kinP at hp
    have h := cGood hC h
    repeat' (first | refine And.intro ?_ ?_ | (intro _; try omega) | omega | rfl | refine ⟨_, ⟨rfl, by omega⟩, ?_⟩ | fail)
    all_goals exact h
theorem m_kinds (hM : eM S D E T) (h : mRes S D E T (kindsA x y) K) : wp_X12_kinds [.inr (.inl 62), .inl x, .inl y] S K := ⟨D, E, T, ⟨rfl, hM⟩, h⟩
theorem c_word (hC : eC S D E T) (h : cRes S D E T (cr3 (wordA x y)) K) : wp_X11_word [.inr (.inl 0), .inl x, .inl y] S K := by
  unfold wordA at h
  by_cases hp : 0 ≤ x ∧ x ≤ 39
  · rw [if_pos hp] at h
    obtain ⟨p1, p2⟩ := hp
    by_cases hq : 1 ≤ y ∧ y ≤ 3
    · rw [if_pos hq] at h
      obtain ⟨p3, p4⟩ := hq
      refine ⟨fun c9 => by omega, fun _ => ⟨fun c9 => by omega, fun _ => ⟨y.toNat, ⟨rfl, by omega, by omega, by omega, hC.slippers⟩, fun S' a1 a2 a3 a4 => ?_⟩⟩⟩
      have hE := hC.sl a4 (Or.inr ⟨y.toNat, by omega, by omega, a1, a2, a3⟩)
      have hF : frC S S' := fun c hc => a4 c (by omega) (by omega)
      have ht := tak_40 (d := y.toNat) (n := x.toNat + 1) (by omega)
      refine ⟨fun c => ⟨x.toNat, ⟨by omega, by omega⟩, ?_⟩, fun c => ?_⟩
      · have hg := lget (l := cod y.toNat) (n := x.toNat) (by omega)
        rw [← tak_get (by omega)] at hg
        rw [if_pos (by omega), ← a3 _ _ hg] at h; exact h S' hE hF
      · rw [if_neg (by omega)] at h; exact h S' hE hF
    · rw [if_neg hq] at h
      have h := cGood hC h
      repeat' (first | refine And.intro ?_ ?_ | (intro _; try omega) | omega | rfl | refine ⟨_, ⟨rfl, by omega⟩, ?_⟩ | fail)
      all_goals exact h
  · rw [if_neg hp] at h
    have h := cGood hC h
    repeat' (first | refine And.intro ?_ ?_ | (intro _; try omega) | omega | rfl | refine ⟨_, ⟨rfl, by omega⟩, ?_⟩ | fail)
    all_goals exact h
theorem m_word (hM : eM S D E T) (h : mRes S D E T (wordA x y) K) : wp_X12_word [.inr (.inl 62), .inl x, .inl y] S K := by
  have hl := cod_len y.toNat
  unfold wordA at h
  by_cases hp : 0 ≤ x ∧ x ≤ 39
  · rw [if_pos hp] at h
    obtain ⟨p1, p2⟩ := hp
    by_cases hq : 1 ≤ y ∧ y ≤ 3
    · rw [if_pos hq] at h
      obtain ⟨p3, p4⟩ := hq
      refine ⟨fun _ => ⟨⟨rfl, Or.inr rfl⟩, fun _ c9 => absurd c9 (by decide), fun _ _ => ⟨fun c9 => absurd c9 (by decide), fun _ => ⟨fun _ => ⟨⟨rfl, Or.inr rfl⟩, fun _ c9 => absurd c9 (by decide), fun _ _ => ⟨fun c9 => absurd c9 (by decide), fun _ => ?_⟩, rfl, by decide⟩, fun c9 => by omega⟩⟩, rfl, by decide⟩, fun c9 => by omega⟩
      refine ⟨y.toNat, ⟨rfl, by omega⟩, fun S' s1 s2 s3 => ?_⟩
      obtain ⟨g1, g2, g3⟩ := mSp hM s3
      refine ⟨fun c => ⟨x.toNat, ⟨by omega, by omega⟩, ?_⟩, fun c => ?_⟩
      · rw [if_pos (by omega)] at h
        exact h S' _ g1 g2 g3 (fun _ => s2 _ _ (lget (by omega)))
      · rw [if_neg (by omega)] at h
        exact h S' _ g1 g2 g3 (fun _ => rfl)
    · rw [if_neg hq] at h
      have h := mFail2 hM h
      repeat' (first | refine And.intro ?_ ?_ | (intro _; try omega) | omega | rfl | refine ⟨_, ⟨rfl, by omega⟩, ?_⟩ | fail)
      all_goals exact h
  · rw [if_neg hp] at h
    have h := mFail1 hM h
    repeat' (first | refine And.intro ?_ ?_ | (intro _; try omega) | omega | rfl | refine ⟨_, ⟨rfl, by omega⟩, ?_⟩ | fail)
    all_goals exact h
theorem c_mend (hC : eC S D E T) (h : cRes S D E T (cr2 (mendA x y z)) K) : wp_X11_mend [.inr (.inl 0), .inl x, .inl y, .inl z] S K := by
  have hl := cod_len z.toNat
  unfold mendA at h
  by_cases hq : ((1 ≤ y ∧ y ≤ 40) ∧ (1 ≤ z ∧ z ≤ 3)) ∧ (0 ≤ x ∧ x ≤ 255)
  · obtain ⟨⟨⟨p1, p2⟩, p3, p4⟩, p5, p6⟩ := id hq
    refine ⟨fun c9 => by omega, fun _ => ⟨fun c9 => by omega, fun _ => ⟨fun c9 => by omega, fun _ => ⟨fun _ => ?_, fun c9 => by omega⟩⟩⟩⟩
    refine ⟨z.toNat, ⟨rfl, by omega, by omega, by omega, hC.slippers⟩, fun S' a1 a2 a3 a4 => ?_⟩
    have hE := hC.sl a4 (Or.inr ⟨z.toNat, by omega, by omega, a1, a2, a3⟩)
    have hF : frC S S' := fun c hc => a4 c (by omega) (by omega)
    have ht := tak_40 (d := z.toNat) (n := y.toNat) (by omega)
    refine ⟨fun c => ?_, fun c => ?_⟩
    · rw [if_neg (fun z => by have := z.2.2; omega)] at h
      exact h S' hE hF
    · rw [if_pos ⟨hq.1, hq.2, by omega⟩] at h
      exact ⟨x.toNat, y.toNat, z.toNat, ⟨rfl, by omega, by omega, by omega, by omega, by omega, by omega, a1, a2, a3, by omega⟩, h S' hE hF⟩
  · rw [if_neg (fun z => hq ⟨z.1, z.2.1⟩)] at h
    have h := cGood hC h
    repeat' (first | refine And.intro ?_ ?_ | (intro _; try omega) | omega | rfl | refine ⟨_, ⟨rfl, by omega⟩, ?_⟩ | fail)
    all_goals exact h
theorem m_mend (hM : eM S D E T) (h : mRes S D E T (mendA x y z) K) : wp_X12_mend [.inr (.inl 62), .inl x, .inl y, .inl z] S K := ⟨D, E, T, ⟨rfl, hM⟩, h⟩
end
