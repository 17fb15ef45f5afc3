/-- the first finder who looks there; the first hour of a theft -/
def finS (D : zD) (r t : Nat) : Nat → Nat → Int
  | 0, _ => -1
  | f + 1, j => if dK D (24 * j + t) = r then (j : Int) else finS D r t f (j + 1)
def finD (D : zD) (r t : Nat) : Int := finS D r t (dF D) 0
def houS (D : zD) (r : Nat) : Nat → Nat → Int
  | 0, _ => -1
  | f + 1, t => if sgaD D r t = 0 ∧ finD D r t ≠ -1 then (t : Int) else houS D r f (t + 1)
def houD (D : zD) (r : Nat) : Int := if dG D r = 0 then -1 else houS D r 24 0
theorem finS_ge (D : zD) (r t : Nat) : ∀ f j, finS D r t f j = -1 ∨ ((j : Int) ≤ finS D r t f j ∧ finS D r t f j < j + f) := by
  intro f
  induction f with
  | zero => intro j; exact Or.inl rfl
  | succ f ih =>
    intro j
    show (if dK D (24 * j + t) = r then (j : Int) else finS D r t f (j + 1)) = -1 ∨ _ ≤ (if dK D (24 * j + t) = r then (j : Int) else finS D r t f (j + 1)) ∧ (if dK D (24 * j + t) = r then (j : Int) else finS D r t f (j + 1)) < _
    split
    · right; omega
    · rcases ih (j + 1) with h | h
      · exact Or.inl h
      · right; omega
theorem houS_ge (D : zD) (r : Nat) : ∀ f j, houS D r f j = -1 ∨ ((j : Int) ≤ houS D r f j ∧ houS D r f j < j + f) := by
  intro f
  induction f with
  | zero => intro j; exact Or.inl rfl
  | succ f ih =>
    intro j
    show (if sgaD D r j = 0 ∧ finD D r j ≠ -1 then (j : Int) else houS D r f (j + 1)) = -1 ∨ _ ≤ (if sgaD D r j = 0 ∧ finD D r j ≠ -1 then (j : Int) else houS D r f (j + 1)) ∧ (if sgaD D r j = 0 ∧ finD D r j ≠ -1 then (j : Int) else houS D r f (j + 1)) < _
    split
    · right; omega
    · rcases ih (j + 1) with h | h
      · exact Or.inl h
      · right; omega
def B_X11_finderAt : List (Nat × zC) := []
def O_X11_finderAt : zO := fun j a S K => match j with
  | _ => False
theorem E_X11_finderAt (l : Launch) : ∀ q ∈ B_X11_finderAt, zcok l O_X11_finderAt F_X11_finderAt q.1 q.2 := fun _ h => by cases h
def U_X11_finderAt : List (Nat × zE) := [(0, Sum.inl (0, 0, 0, 0, 1, [])), (1, Sum.inl (5, 3, 0, 0, 2, [])), (2, Sum.inl (2, 3, 0, 0, 3, [])), (3, Sum.inl (4, 0, 0, 0, 4, [])), (4, Sum.inl (18, 11, 1, 0, 7, [])), (7, Sum.inl (18, 6, 9, 0, 10, [])), (10, Sum.inl (16, 1, 13, 0, 39, [])), (13, Sum.inl (4, 0, 0, 0, 14, [])), (14, Sum.inl (18, 11, 4, 0, 17, [])), (17, Sum.inl (18, 0, 5, 0, 20, [])), (20, Sum.inl (2, 3, 0, 0, 21, [])), (21, Sum.inl (0, 0, 0, 24, 23, [])), (23, Sum.inl (9, 2, 0, 0, 24, [])), (24, Sum.inl (2, 2, 0, 0, 25, [])), (25, Sum.inl (9, 0, 0, 0, 26, [])), (26, Sum.inl (20, 0, 0, 0, 27, [])), (27, Sum.inl (2, 1, 0, 0, 28, [])), (28, Sum.inl (16, 0, 31, 0, 33, [])), (31, Sum.inl (2, 3, 0, 0, 32, [])), (32, Sum.inl (27, 0, 0, 0, 33, [])), (33, Sum.inl (8, 3, 0, 1, 36, [])), (36, Sum.inl (15, 0, 0, 0, 2, [])), (39, Sum.inl (0, 0, 0, (-1), 40, [])), (40, Sum.inl (27, 0, 0, 0, 41, []))]
theorem Z_X11_finderAt (l : Launch) : ∀ q ∈ U_X11_finderAt, zTok l O_X11_finderAt F_X11_finderAt q := zU_ok rfl rfl rfl K_X11_finderAt (E_X11_finderAt l)
def wp_X11_finderAt (a : List zV) (S : zS) (K : zR2 → zS → Prop) : Prop := match a with
  | [.inr (.inl c), .inl x, .inl y] => ∃ (D : zD) (r t : Nat), (c = 0 ∧ dOK D ∧ cOK S D ∧ x = (r : Int) ∧ y = (t : Int) ∧ t < 24) ∧ K (.inl (some (.inl (finD D r t)))) S
  | _ => False
theorem L_X11_finderAt {l : Launch} {S : zS} {Q : zR2 → zS → Prop} {D : zD} {r t : Nat} (hD : dOK D) (hC : cOK S D) (ht : t < 24) (f : Nat) : ∀ j, j + f = dF D → Q (.inl (some (.inl (finS D r t f j)))) S → zGs l 0 0 0 F_X11_finderAt S 2 [(0, .inr (.inl 0)), (1, .inl (r : Int)), (2, .inl (t : Int)), (3, .inl (j : Int))] [] Q := by
  have h3 := hD.finders
  have hf := hC.finders
  induction f with
  | zero =>
    intro j hj h
    refine zwq_ok (Z_X11_finderAt l) rfl [2] (fun _ _ _ _ _ _ h => h) 400 (Z_X11_finderAt l) ?_
    exact ⟨fun c => by omega, fun c => h⟩
  | succ f ih =>
    intro j hj h
    have e := hC.rounds (24 * j + t) (by omega)
    have h : Q (.inl (some (.inl (if dK D (24 * j + t) = r then (j : Int) else finS D r t f (j + 1))))) S := h
    refine zwq_ok (Z_X11_finderAt l) rfl [2] (fun _ _ _ _ _ _ h => h) 400 (Z_X11_finderAt l) ?_
    refine ⟨fun c => ⟨by omega, by omega, 24 * j + t, ⟨by omega, by omega⟩, fun c2 => ?_, fun c2 => ⟨by omega, ?_⟩⟩, fun c => by omega⟩
    · rw [if_pos (by omega)] at h; exact h
    · rw [if_neg (by omega)] at h; exact ih (j + 1) (by omega) h
theorem R_X11_finderAt (l : Launch) (a : List zV) (S : zS) (Q : zR2 → zS → Prop) (h : wp_X11_finderAt a S Q) : zRs l 0 0 0 yX11_finderAt (.code yX11_finderAt cX11_finderAt 4 (some .int)) a S Q := by
  unfold wp_X11_finderAt at h
  split at h
  · obtain ⟨D, r, t, ⟨rfl, hD, hC, rfl, rfl, ht⟩, h⟩ := h
    refine zRs_of 11 (by decide) rfl rfl ?_; refine zwq_ok (Z_X11_finderAt l) rfl [2] (fun _ _ _ _ _ _ h => h) 400 (Z_X11_finderAt l) ?_
    exact L_X11_finderAt hD hC ht (dF D) 0 (by omega) h
  · exact h.elim
def B_X11_hourOfTheft : List (Nat × zC) := [(28, (0, 0, 2, 2, 0, 0, 3)), (37, (0, 1, 2, 0, 0, 0, 11))]
def O_X11_hourOfTheft : zO := fun j a S K => match j with
  | 0 => wp_X3_signAt a S K
  | 1 => wp_X11_finderAt a S K
  | _ => False
theorem E_X11_hourOfTheft (l : Launch) : ∀ q ∈ B_X11_hourOfTheft, zcok l O_X11_hourOfTheft F_X11_hourOfTheft q.1 q.2 := List.forall_mem_cons.mpr ⟨⟨242, yX3_signAt, cX3_signAt, 4, some .int, by decide +kernel, C_11_242, W_X3_signAt, I_X3_signAt, S_X3_signAt, rfl, rfl, R_X3_signAt l⟩, List.forall_mem_cons.mpr ⟨⟨251, yX11_finderAt, cX11_finderAt, 4, some .int, by decide +kernel, C_11_251, W_X11_finderAt, I_X11_finderAt, S_X11_finderAt, rfl, rfl, R_X11_finderAt l⟩, fun _ h => by cases h⟩⟩
def U_X11_hourOfTheft : List (Nat × zE) := [(0, Sum.inl (4, 0, 0, 0, 1, [])), (1, Sum.inl (18, 11, 1, 0, 4, [])), (4, Sum.inl (18, 6, 0, 0, 7, [])), (7, Sum.inl (2, 1, 0, 0, 8, [])), (8, Sum.inl (20, 0, 0, 0, 9, [])), (9, Sum.inl (17, 0, 12, 0, 14, [])), (12, Sum.inl (0, 0, 0, (-1), 13, [])), (13, Sum.inl (27, 0, 0, 0, 14, [])), (14, Sum.inl (0, 0, 0, 0, 15, [])), (15, Sum.inl (5, 2, 0, 0, 16, [])), (16, Sum.inl (2, 2, 0, 0, 17, [])), (17, Sum.inl (0, 0, 0, 24, 19, [])), (19, Sum.inl (16, 1, 22, 0, 52, [])), (22, Sum.inl (4, 0, 0, 0, 23, [])), (23, Sum.inl (18, 11, 6, 0, 26, [])), (26, Sum.inl (2, 1, 0, 0, 27, [])), (27, Sum.inl (2, 2, 0, 0, 28, [])), (28, Sum.inr (0, 0, 2, 2, 0, 0, 3)), (31, Sum.inl (17, 0, 34, 0, 46, [])), (34, Sum.inl (4, 0, 0, 0, 35, [])), (35, Sum.inl (2, 1, 0, 0, 36, [])), (36, Sum.inl (2, 2, 0, 0, 37, [])), (37, Sum.inr (0, 1, 2, 0, 0, 0, 11)), (40, Sum.inl (0, 0, 0, (-1), 41, [])), (41, Sum.inl (16, 0, 46, 0, 44, [])), (44, Sum.inl (2, 2, 0, 0, 45, [])), (45, Sum.inl (27, 0, 0, 0, 46, [])), (46, Sum.inl (8, 2, 0, 1, 49, [])), (49, Sum.inl (15, 0, 0, 0, 16, [])), (52, Sum.inl (0, 0, 0, (-1), 53, [])), (53, Sum.inl (27, 0, 0, 0, 54, []))]
theorem Z_X11_hourOfTheft (l : Launch) : ∀ q ∈ U_X11_hourOfTheft, zTok l O_X11_hourOfTheft F_X11_hourOfTheft q := zU_ok rfl rfl rfl K_X11_hourOfTheft (E_X11_hourOfTheft l)
def wp_X11_hourOfTheft (a : List zV) (S : zS) (K : zR2 → zS → Prop) : Prop := match a with
  | [.inr (.inl c), .inl x] => ∃ (D : zD) (r : Nat), (c = 0 ∧ dOK D ∧ cOK S D ∧ x = (r : Int) ∧ r < dR D) ∧ K (.inl (some (.inl (houD D r)))) S
  | _ => False
theorem L_X11_hourOfTheft {l : Launch} {S : zS} {Q : zR2 → zS → Prop} {D : zD} {r : Nat} (hD : dOK D) (hC : cOK S D) (hr : r < dR D) (f : Nat) : ∀ j, j + f = 24 → Q (.inl (some (.inl (houS D r f j)))) S → zGs l 3 0 0 F_X11_hourOfTheft S 16 [(0, .inr (.inl 0)), (1, .inl (r : Int)), (2, .inl (j : Int))] [] Q := by
  induction f with
  | zero =>
    intro j hj h
    refine zwq_ok (Z_X11_hourOfTheft l) rfl [16] (fun _ _ _ _ _ _ h => h) 400 (Z_X11_hourOfTheft l) ?_
    exact ⟨fun c => by omega, fun c => h⟩
  | succ f ih =>
    intro j hj h
    have h : Q (.inl (some (.inl (if sgaD D r j = 0 ∧ finD D r j ≠ -1 then (j : Int) else houS D r f (j + 1))))) S := h
    refine zwq_ok (Z_X11_hourOfTheft l) rfl [16] (fun _ _ _ _ _ _ h => h) 400 (Z_X11_hourOfTheft l) ?_
    refine ⟨fun c => ⟨D, r, j, ⟨rfl, hD, hC, rfl, rfl, hr, by omega⟩, fun c2 => ⟨D, r, j, ⟨rfl, hD, hC, rfl, rfl, by omega⟩, fun c3 => ⟨by omega, ?_⟩, fun c3 => ?_⟩, fun c2 => ⟨by omega, ?_⟩⟩, fun c => by omega⟩
    · rw [if_neg (fun z => z.2 c3)] at h; exact ih (j + 1) (by omega) h
    · rw [if_pos ⟨by omega, c3⟩] at h; exact h
    · rw [if_neg (fun z => c2 (by omega))] at h; exact ih (j + 1) (by omega) h
theorem R_X11_hourOfTheft (l : Launch) (a : List zV) (S : zS) (Q : zR2 → zS → Prop) (h : wp_X11_hourOfTheft a S Q) : zRs l 3 0 0 yX11_hourOfTheft (.code yX11_hourOfTheft cX11_hourOfTheft 3 (some .int)) a S Q := by
  unfold wp_X11_hourOfTheft at h
  split at h
  · obtain ⟨D, r, ⟨rfl, hD, hC, rfl, hr⟩, h⟩ := h
    have h8 := hD.rooms
    have e := hC.goods r hr
    unfold houD at h
    refine zRs_of 11 (by decide) rfl rfl ?_; refine zwq_ok (Z_X11_hourOfTheft l) rfl [16] (fun _ _ _ _ _ _ h => h) 400 (Z_X11_hourOfTheft l) ?_
    refine ⟨r, ⟨rfl, by omega⟩, fun c => ?_, fun c => ?_⟩
    · rw [if_pos (by omega)] at h; exact h
    · rw [if_neg (by omega)] at h
      exact L_X11_hourOfTheft hD hC hr 24 0 (by omega) h
  · exact h.elim
def B_X11_theft : List (Nat × zC) := [(2, (2, 0, 1, 6, 0, 0, 11)), (7, (4, 1, 2, 6, 0, 0, 0)), (12, (0, 2, 1, 3, 0, 0, 11)), (31, (0, 3, 2, 0, 0, 0, 11))]
def O_X11_theft : zO := fun j a S K => match j with
  | 0 => wp_X11_needRoom a S K
  | 1 => wp_X11_needOneOf a S K
  | 2 => wp_X11_hourOfTheft a S K
  | 3 => wp_X11_finderAt a S K
  | _ => False
theorem E_X11_theft (l : Launch) : ∀ q ∈ B_X11_theft, zcok l O_X11_theft F_X11_theft q.1 q.2 := List.forall_mem_cons.mpr ⟨⟨179, yX11_needRoom, cX11_needRoom, 2, none, by decide +kernel, C_11_179, W_X11_needRoom, I_X11_needRoom, S_X11_needRoom, rfl, rfl, R_X11_needRoom l⟩, List.forall_mem_cons.mpr ⟨⟨182, yX11_needOneOf, cX11_needOneOf, 2, none, by decide +kernel, C_11_182, W_X11_needOneOf, I_X11_needOneOf, rfl, R_X11_needOneOf l⟩, List.forall_mem_cons.mpr ⟨⟨248, yX11_hourOfTheft, cX11_hourOfTheft, 3, some .int, by decide +kernel, C_11_248, W_X11_hourOfTheft, I_X11_hourOfTheft, S_X11_hourOfTheft, rfl, rfl, R_X11_hourOfTheft l⟩, List.forall_mem_cons.mpr ⟨⟨251, yX11_finderAt, cX11_finderAt, 4, some .int, by decide +kernel, C_11_251, W_X11_finderAt, I_X11_finderAt, S_X11_finderAt, rfl, rfl, R_X11_finderAt l⟩, fun _ h => by cases h⟩⟩⟩⟩
def U_X11_theft : List (Nat × zE) := [(0, Sum.inl (4, 0, 0, 0, 1, [])), (1, Sum.inl (2, 1, 0, 0, 2, [])), (2, Sum.inr (2, 0, 1, 6, 0, 0, 11)), (5, Sum.inl (2, 2, 0, 0, 6, [])), (6, Sum.inl (0, 0, 0, 2, 7, [])), (7, Sum.inr (4, 1, 2, 6, 0, 0, 0)), (10, Sum.inl (4, 0, 0, 0, 11, [])), (11, Sum.inl (2, 1, 0, 0, 12, [])), (12, Sum.inr (0, 2, 1, 3, 0, 0, 11)), (15, Sum.inl (5, 3, 0, 0, 16, [])), (16, Sum.inl (2, 3, 0, 0, 17, [])), (17, Sum.inl (0, 0, 0, (-1), 18, [])), (18, Sum.inl (16, 0, 26, 0, 21, [])), (21, Sum.inl (2, 2, 0, 0, 22, [])), (22, Sum.inl (0, 0, 0, 1, 23, [])), (23, Sum.inl (16, 0, 26, 0, 28, [])), (26, Sum.inl (2, 3, 0, 0, 27, [])), (27, Sum.inl (27, 0, 0, 0, 28, [])), (28, Sum.inl (4, 0, 0, 0, 29, [])), (29, Sum.inl (2, 1, 0, 0, 30, [])), (30, Sum.inl (2, 3, 0, 0, 31, [])), (31, Sum.inr (0, 3, 2, 0, 0, 0, 11)), (34, Sum.inl (27, 0, 0, 0, 35, []))]
theorem Z_X11_theft (l : Launch) : ∀ q ∈ U_X11_theft, zTok l O_X11_theft F_X11_theft q := zU_ok rfl rfl rfl K_X11_theft (E_X11_theft l)
def wp_X11_theft (a : List zV) (S : zS) (K : zR2 → zS → Prop) : Prop := zif (Nat.ble (zsum a) 4) (zwq 7 F_X11_theft U_X11_theft O_X11_theft [] (fun _ _ _ _ _ _ => False) K 24 U_X11_theft 1 6 S 0 (zar 0 a) [])
theorem R_X11_theft (l : Launch) (a : List zV) (S : zS) (Q : zR2 → zS → Prop) (h : wp_X11_theft a S Q) : zRs l 7 1 6 yX11_theft (.code yX11_theft cX11_theft 4 (some .int)) a S Q := by
  obtain ⟨h1, h⟩ := zif_ok h
  exact zRs_of 11 (by decide) rfl h1 (zwq_ok (Z_X11_theft l) rfl [] (fun _ _ _ _ _ _ h => h.elim) 24 (Z_X11_theft l) h)
def theftA (D : zD) (x y : Int) : Nat × Int := if 0 ≤ x ∧ x < dR D then (if 0 ≤ y ∧ y < 2 then (0, if houD D x.toNat = -1 ∨ y = 1 then houD D x.toNat else finD D x.toNat (houD D x.toNat).toNat) else (1, 0)) else (1, 0)
theorem houD_ge (D : zD) (r : Nat) : houD D r = -1 ∨ (0 ≤ houD D r ∧ houD D r < 24) := by
  unfold houD
  split
  · exact Or.inl rfl
  · rcases houS_ge D r 24 0 with h | h
    · exact Or.inl h
    · right; omega
theorem c_theft {S : zS} {D E T : zD} {N : Nat} {K : zR2 → zS → Prop} {x y : Int} (hC : eC S D E T) (hX : xOK D E T N) (h : cRes S D E T (cr1 (theftA D x y)) K) : wp_X11_theft [.inr (.inl 0), .inl x, .inl y] S K := by
  have h := cGood hC h
  have e1 := hC.now.rooms
  unfold theftA at h
  refine ⟨rfl, fun c => ?_, fun c => ⟨fun c2 => ?_, fun c2 => ⟨D, x.toNat, ⟨rfl, hX.now, hC.now, by omega, by omega⟩, fun c3 => ?_, fun c3 => ⟨fun c4 => ?_, fun c4 => ⟨D, x.toNat, (houD D x.toNat).toNat, ⟨rfl, hX.now, hC.now, by omega, ?_, ?_⟩, ?_⟩⟩⟩⟩⟩
  · rw [if_neg (by omega)] at h; exact h
  · rw [if_pos (by omega), if_neg (by omega)] at h; exact h
  · rw [if_pos (by omega), if_pos (by omega), if_pos (Or.inl c3)] at h; exact h
  · rw [if_pos (by omega), if_pos (by omega), if_pos (Or.inr c4)] at h; exact h
  · rcases houD_ge D x.toNat with h9 | h9
    · exact absurd h9 c3
    · omega
  · rcases houD_ge D x.toNat with h9 | h9
    · exact absurd h9 c3
    · omega
  · rw [if_pos (by omega), if_pos (by omega), if_neg (fun z => z.elim c3 c4)] at h; exact h
def B_X12_theft : List (Nat × zC) := [(7, (0, 0, 1, 1, 0, 0, 12)), (15, (0, 1, 1, 1, 0, 0, 12)), (43, (0, 2, 2, 3, 0, 0, 12))]
def O_X12_theft : zO := fun j a S K => match j with
  | 0 => wp_X12_isRoom a S K
  | 1 => wp_X12_isTwo a S K
  | 2 => wp_X12_signAt a S K
  | _ => False
theorem E_X12_theft (l : Launch) : ∀ q ∈ B_X12_theft, zcok l O_X12_theft F_X12_theft q.1 q.2 := List.forall_mem_cons.mpr ⟨⟨287, yX12_isRoom, cX12_isRoom, 2, some .boolean, by decide +kernel, C_12_287, W_X12_isRoom, I_X12_isRoom, S_X12_isRoom, rfl, rfl, R_X12_isRoom l⟩, List.forall_mem_cons.mpr ⟨⟨290, yX12_isTwo, cX12_isTwo, 2, some .boolean, by decide +kernel, C_12_290, W_X12_isTwo, I_X12_isTwo, S_X12_isTwo, rfl, rfl, R_X12_isTwo l⟩, List.forall_mem_cons.mpr ⟨⟨321, yX12_signAt, cX12_signAt, 3, some .int, by decide +kernel, C_12_321, W_X12_signAt, I_X12_signAt, S_X12_signAt, rfl, rfl, R_X12_signAt l⟩, fun _ h => by cases h⟩⟩⟩
def U_X12_theft : List (Nat × zE) := [(0, Sum.inl (4, 0, 0, 0, 1, [])), (1, Sum.inl (0, 0, 0, 0, 2, [])), (2, Sum.inl (19, 12, 0, 0, 5, [])), (5, Sum.inl (4, 0, 0, 0, 6, [])), (6, Sum.inl (2, 1, 0, 0, 7, [])), (7, Sum.inr (0, 0, 1, 1, 0, 0, 12)), (10, Sum.inl (17, 0, 21, 0, 13, [])), (13, Sum.inl (4, 0, 0, 0, 14, [])), (14, Sum.inl (2, 2, 0, 0, 15, [])), (15, Sum.inr (0, 1, 1, 1, 0, 0, 12)), (18, Sum.inl (17, 0, 21, 0, 23, [])), (21, Sum.inl (0, 0, 0, 0, 22, [])), (22, Sum.inl (27, 0, 0, 0, 23, [])), (23, Sum.inl (0, 0, 0, 0, 24, [])), (24, Sum.inl (5, 3, 0, 0, 25, [])), (25, Sum.inl (2, 3, 0, 0, 26, [])), (26, Sum.inl (0, 0, 0, 24, 28, [])), (28, Sum.inl (16, 1, 31, 0, 103, [])), (31, Sum.inl (4, 0, 0, 0, 32, [])), (32, Sum.inl (18, 12, 5, 0, 35, [])), (35, Sum.inl (2, 1, 0, 0, 36, [])), (36, Sum.inl (20, 0, 0, 0, 37, [])), (37, Sum.inl (17, 2, 40, 0, 103, [])), (40, Sum.inl (4, 0, 0, 0, 41, [])), (41, Sum.inl (2, 1, 0, 0, 42, [])), (42, Sum.inl (2, 3, 0, 0, 43, [])), (43, Sum.inr (0, 2, 2, 3, 0, 0, 12)), (46, Sum.inl (17, 0, 52, 0, 49, [])), (49, Sum.inl (15, 0, 0, 0, 97, [])), (52, Sum.inl (0, 0, 0, 0, 53, [])), (53, Sum.inl (5, 4, 0, 0, 55, [])), (55, Sum.inl (2, 4, 0, 0, 57, [])), (57, Sum.inl (4, 0, 0, 0, 58, [])), (58, Sum.inl (18, 12, 3, 0, 61, [])), (61, Sum.inl (16, 1, 64, 0, 97, [])), (64, Sum.inl (4, 0, 0, 0, 65, [])), (65, Sum.inl (18, 12, 39, 0, 68, [])), (68, Sum.inl (0, 0, 0, 24, 70, [])), (70, Sum.inl (2, 4, 0, 0, 72, [])), (72, Sum.inl (9, 2, 0, 0, 73, [])), (73, Sum.inl (2, 3, 0, 0, 74, [])), (74, Sum.inl (9, 0, 0, 0, 75, [])), (75, Sum.inl (20, 0, 0, 0, 76, [])), (76, Sum.inl (2, 1, 0, 0, 77, [])), (77, Sum.inl (16, 0, 80, 0, 91, [])), (80, Sum.inl (2, 2, 0, 0, 81, [])), (81, Sum.inl (17, 0, 84, 0, 89, [])), (84, Sum.inl (2, 4, 0, 0, 86, [])), (86, Sum.inl (15, 0, 0, 0, 90, [])), (89, Sum.inl (2, 3, 0, 0, 90, [])), (90, Sum.inl (27, 0, 0, 0, 91, [])), (91, Sum.inl (8, 4, 0, 1, 94, [])), (94, Sum.inl (15, 0, 0, 0, 55, [])), (97, Sum.inl (8, 3, 0, 1, 100, [])), (100, Sum.inl (15, 0, 0, 0, 25, [])), (103, Sum.inl (0, 0, 0, (-1), 104, [])), (104, Sum.inl (27, 0, 0, 0, 105, []))]
theorem Z_X12_theft (l : Launch) : ∀ q ∈ U_X12_theft, zTok l O_X12_theft F_X12_theft q := zU_ok rfl rfl rfl K_X12_theft (E_X12_theft l)
def wp_X12_theft (a : List zV) (S : zS) (K : zR2 → zS → Prop) : Prop := match a with
  | [.inr (.inl c), .inl x, .inl y] => ∃ (D E T : zD) (N : Nat), (c = 62 ∧ eM S D E T ∧ xOK D E T N) ∧ mRes S D E T (theftA D x y) K
  | _ => False
section
variable {l : Launch} {S : zS} {Q : zR2 → zS → Prop} {D : zD} {r : Nat} {y : Int}
theorem L2_X12_theft {lo : List (Nat × zV)} {t : Nat} (hD : dOK D) (hM : mOK S D) (ht : t < 24) (hy : 0 ≤ y ∧ y < 2) (k0 : ∀ j : Nat, zGs l 4 0 0 F_X12_theft S 97 [(0, .inr (.inl 62)), (1, .inl (r : Int)), (2, .inl y), (3, .inl (t : Int)), (4, .inl (j : Int))] [] Q ∨ finD D r t ≠ -1) (f : Nat) : ∀ j, j + f = dF D → finS D r t f j = finD D r t → (finD D r t ≠ -1 → Q (.inl (some (.inl (if y = 1 then (t : Int) else finD D r t)))) S) → zGs l 4 0 0 F_X12_theft S 55 [(0, .inr (.inl 62)), (1, .inl (r : Int)), (2, .inl y), (3, .inl (t : Int)), (4, .inl (j : Int))] [] Q := by
  have h3 := hD.finders
  have hf := hM.finders
  induction f with
  | zero =>
    intro j hj hfs h
    refine zwq_ok (Z_X12_theft l) rfl [55, 97] (fun _ _ _ _ _ _ h => h) 400 (Z_X12_theft l) ?_
    refine ⟨fun c => by omega, fun c => ?_⟩
    rcases k0 j with k | k
    · exact k
    · exact absurd hfs.symm k
  | succ f ih =>
    intro j hj hfs h
    have e := hM.looks (24 * j + t) (by omega)
    have hfs : (if dK D (24 * j + t) = r then (j : Int) else finS D r t f (j + 1)) = finD D r t := hfs
    refine zwq_ok (Z_X12_theft l) rfl [55, 97] (fun _ _ _ _ _ _ h => h) 400 (Z_X12_theft l) ?_
    refine ⟨fun c => ⟨by omega, by omega, 24 * j + t, ⟨by omega, by omega⟩, fun c2 => ⟨fun c3 => ?_, fun c3 => ?_⟩, fun c2 => ⟨by omega, ?_⟩⟩, fun c => by omega⟩
    · rw [if_pos (by omega)] at hfs
      have h := h (by omega)
      rw [if_neg (by omega), ← hfs] at h
      exact h
    · rw [if_pos (by omega)] at hfs
      have h := h (by omega)
      rw [if_pos (by omega)] at h
      exact h
    · rw [if_neg (by omega)] at hfs
      exact ih (j + 1) (by omega) hfs h
theorem L_X12_theft (hD : dOK D) (hM : mOK S D) (hr : r < dR D) (hg : 0 < dG D r) (hy : 0 ≤ y ∧ y < 2) (f : Nat) : ∀ t, t + f = 24 → Q (.inl (some (.inl (if houS D r f t = -1 ∨ y = 1 then houS D r f t else finD D r (houS D r f t).toNat)))) S → zGs l 4 0 0 F_X12_theft S 25 [(0, .inr (.inl 62)), (1, .inl (r : Int)), (2, .inl y), (3, .inl (t : Int))] [] Q := by
  have h8 := hD.rooms
  have eg := hM.goods r hr
  induction f with
  | zero =>
    intro t ht h
    have h : Q (.inl (some (.inl (if (-1 : Int) = -1 ∨ y = 1 then -1 else finD D r (-1 : Int).toNat)))) S := h
    rw [if_pos (Or.inl rfl)] at h
    refine zwq_ok (Z_X12_theft l) rfl [25, 55, 97] (fun _ _ _ _ _ _ h => h) 400 (Z_X12_theft l) ?_
    exact ⟨fun c => by omega, fun c => h⟩
  | succ f ih =>
    intro t ht h
    have hh : houS D r (f + 1) t = if sgaD D r t = 0 ∧ finD D r t ≠ -1 then (t : Int) else houS D r f (t + 1) := rfl
    rw [hh] at h
    have next : ¬ (sgaD D r t = 0 ∧ finD D r t ≠ -1) → zGs l 4 0 0 F_X12_theft S 25 [(0, .inr (.inl 62)), (1, .inl (r : Int)), (2, .inl y), (3, .inl ((t + 1 : Nat) : Int))] [] Q := fun c => by
      have e : (if sgaD D r t = 0 ∧ finD D r t ≠ -1 then (t : Int) else houS D r f (t + 1)) = houS D r f (t + 1) := if_neg c
      rw [e] at h
      exact ih (t + 1) (by omega) h
    have at97 : ∀ lo : List (Nat × zV), ¬ (sgaD D r t = 0 ∧ finD D r t ≠ -1) → zGs l 4 0 0 F_X12_theft S 97 ((0, .inr (.inl 62)) :: (1, .inl (r : Int)) :: (2, .inl y) :: (3, .inl (t : Int)) :: lo) [] Q := fun lo c => by
      refine zGs.sub (lo' := [(0, .inr (.inl 62)), (1, .inl (r : Int)), (2, .inl y), (3, .inl (t : Int))]) ?_ (fun q hq => by
        simp only [List.mem_cons, List.not_mem_nil, or_false] at hq
        rcases hq with rfl | rfl | rfl | rfl <;> simp)
      refine zwq_ok (Z_X12_theft l) rfl [25] (fun _ _ _ _ _ _ h => h) 400 (Z_X12_theft l) ?_
      exact ⟨by omega, next c⟩
    refine zwq_ok (Z_X12_theft l) rfl [25, 55, 97] (fun _ _ _ _ _ _ h => h) 400 (Z_X12_theft l) ?_
    refine ⟨fun c => ⟨r, ⟨rfl, by omega⟩, fun c2 => ⟨D, r, t, ⟨rfl, hD, hM, rfl, rfl, hr, by omega⟩, fun c3 => ?_, fun c3 => ?_⟩, fun c2 => by omega⟩, fun c => by omega⟩
    · have := L2_X12_theft (l := l) (S := S) (Q := Q) (r := r) (y := y) (lo := []) (t := t) hD hM (by omega) hy (fun j => by
        by_cases c4 : finD D r t = -1
        · exact Or.inl (at97 [(4, .inl (j : Int))] (fun z => z.2 c4))
        · exact Or.inr c4) (dF D) 0 (by omega) rfl (fun c4 => by
          have e : (if sgaD D r t = 0 ∧ finD D r t ≠ -1 then (t : Int) else houS D r f (t + 1)) = (t : Int) := if_pos ⟨by omega, c4⟩
          rw [e] at h
          by_cases c5 : y = 1
          · rw [if_pos (Or.inr c5)] at h
            rw [if_pos c5]
            exact h
          · rw [if_neg (by omega)] at h
            rw [if_neg c5]
            exact h)
      exact this
    · exact at97 [] (fun z => c3 (by omega))
end
theorem R_X12_theft (l : Launch) (a : List zV) (S : zS) (Q : zR2 → zS → Prop) (h : wp_X12_theft a S Q) : zRs l 4 0 0 yX12_theft (.code yX12_theft cX12_theft 5 (some .int)) a S Q := by
  unfold wp_X12_theft at h
  split at h
  · rename_i c x y
    obtain ⟨D, E, T, N, ⟨rfl, hM, hX⟩, h⟩ := h
    have e1 : zu S 62 0 0 62 1 = (dR D : Int) := hM.now.rooms
    unfold theftA at h
    refine zRs_of 12 (by decide) rfl rfl ?_; refine zwq_ok (Z_X12_theft l) rfl [25] (fun _ _ _ _ _ _ h => h) 400 (Z_X12_theft l) ?_
    refine ⟨⟨rfl, rfl⟩, fun c => ⟨fun c9 => by omega, fun _ => ⟨⟨rfl, rfl⟩, fun c2 => ⟨fun c9 => by omega, fun _ => ?_⟩, fun c2 => ⟨fun _ => ?_, fun c9 => absurd rfl c9⟩⟩⟩, fun c => ⟨fun _ => ?_, fun c9 => absurd rfl c9⟩⟩
    · rw [if_pos (by omega), if_pos (by omega)] at h
      have h8 := hX.now.rooms
      by_cases hg : 0 < dG D x.toNat
      · have := L_X12_theft (l := l) (S := zu S 62 0 0) (Q := Q) (y := y) hX.now (hM.now.u (Or.inl rfl)) (r := x.toNat) (by omega) hg (by omega) 24 0 (by omega) (by
          have e9 : houS D x.toNat 24 0 = houD D x.toNat := by unfold houD; rw [if_neg (by omega)]
          rw [e9]
          exact mGood hM h)
        rw [show ((x.toNat : Nat) : Int) = x by omega] at this
        exact this
      · have e9 : houD D x.toNat = -1 := by unfold houD; rw [if_pos (by omega)]
        rw [e9, if_pos (Or.inl rfl)] at h
        have eg : zu S 62 0 0 63 x.toNat = (dG D x.toNat : Int) := hM.now.goods x.toNat (by omega)
        refine zwq_ok (Z_X12_theft l) rfl [25] (fun _ _ _ _ _ _ h => h) 400 (Z_X12_theft l) ?_
        exact ⟨fun c => ⟨x.toNat, ⟨by omega, by omega⟩, fun c2 => absurd c2 (by rw [eg]; omega), fun c2 => mGood hM h⟩, fun c => by omega⟩
    · rw [if_pos (by omega), if_neg (by omega)] at h; exact mFail1 hM h
    · rw [if_neg (by omega)] at h; exact mFail1 hM h
  · exact h.elim
