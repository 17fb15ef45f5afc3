/-! the class: which case, who is where -/
def caD (D : zD) (t i l : Nat) : Nat := (heL D t l).getD (i / lP (heL D t) (dL D - l - 1) (l + 1) % (heL D t l).length) 0
def B_X1_doingIn : List (Nat × zC) := [(27, (1, 0, 1, 0, 0, 0, 0)), (44, (1, 0, 1, 0, 0, 0, 0)), (74, (3, 1, 2, 0, 0, 0, 0))]
def O_X1_doingIn : zO := fun j a S K => match j with
  | 0 => wp_J6_bitCount_0f7a4 a S K
  | 1 => wp_X11_nthBit a S K
  | _ => False
theorem E_X1_doingIn (l : Launch) : ∀ q ∈ B_X1_doingIn, zcok l O_X1_doingIn F_X1_doingIn q.1 q.2 := List.forall_mem_cons.mpr ⟨⟨53, yJ6_bitCount_0f7a4, cJ6_bitCount_0f7a4, 1, some .int, by decide +kernel, C_1_53, W_J6_bitCount_0f7a4, I_J6_bitCount_0f7a4, rfl, R_J6_bitCount_0f7a4 l⟩, List.forall_mem_cons.mpr ⟨⟨53, yJ6_bitCount_0f7a4, cJ6_bitCount_0f7a4, 1, some .int, by decide +kernel, C_1_53, W_J6_bitCount_0f7a4, I_J6_bitCount_0f7a4, rfl, R_J6_bitCount_0f7a4 l⟩, List.forall_mem_cons.mpr ⟨⟨81, yX11_nthBit, cX11_nthBit, 4, some .int, RX11, by decide +kernel, by decide +kernel, W_X11_nthBit, I_X11_nthBit, rfl, R_X11_nthBit l⟩, fun _ h => by cases h⟩⟩⟩
def U_X1_doingIn : List (Nat × zE) := [(0, Sum.inl (0, 0, 0, 1, 1, [])), (1, Sum.inl (5, 3, 0, 0, 2, [])), (2, Sum.inl (2, 2, 0, 0, 3, [])), (3, Sum.inl (0, 0, 0, 1, 4, [])), (4, Sum.inl (9, 0, 0, 0, 5, [])), (5, Sum.inl (5, 4, 0, 0, 7, [])), (7, Sum.inl (2, 4, 0, 0, 9, [])), (9, Sum.inl (4, 0, 0, 0, 10, [])), (10, Sum.inl (18, 1, 0, 0, 13, [])), (13, Sum.inl (18, 6, 8, 0, 16, [])), (16, Sum.inl (16, 1, 19, 0, 38, [])), (19, Sum.inl (2, 3, 0, 0, 20, [])), (20, Sum.inl (4, 0, 0, 0, 21, [])), (21, Sum.inl (18, 1, 3, 0, 24, [])), (24, Sum.inl (2, 4, 0, 0, 26, [])), (26, Sum.inl (20, 0, 0, 0, 27, [])), (27, Sum.inr (1, 0, 1, 0, 0, 0, 0)), (30, Sum.inl (9, 2, 0, 0, 31, [])), (31, Sum.inl (5, 3, 0, 0, 32, [])), (32, Sum.inl (8, 4, 0, 1, 35, [])), (35, Sum.inl (15, 0, 0, 0, 7, [])), (38, Sum.inl (4, 0, 0, 0, 39, [])), (39, Sum.inl (18, 1, 3, 0, 42, [])), (42, Sum.inl (2, 2, 0, 0, 43, [])), (43, Sum.inl (20, 0, 0, 0, 44, [])), (44, Sum.inr (1, 0, 1, 0, 0, 0, 0)), (47, Sum.inl (5, 4, 0, 0, 49, [])), (49, Sum.inl (2, 3, 0, 0, 50, [])), (50, Sum.inl (0, 0, 0, 1, 51, [])), (51, Sum.inl (16, 1, 60, 0, 54, [])), (54, Sum.inl (2, 4, 0, 0, 56, [])), (56, Sum.inl (0, 0, 0, 1, 57, [])), (57, Sum.inl (16, 1, 60, 0, 62, [])), (60, Sum.inl (0, 0, 0, (-1), 61, [])), (61, Sum.inl (27, 0, 0, 0, 62, [])), (62, Sum.inl (4, 0, 0, 0, 63, [])), (63, Sum.inl (18, 1, 3, 0, 66, [])), (66, Sum.inl (2, 2, 0, 0, 67, [])), (67, Sum.inl (20, 0, 0, 0, 68, [])), (68, Sum.inl (2, 1, 0, 0, 69, [])), (69, Sum.inl (2, 3, 0, 0, 70, [])), (70, Sum.inl (9, 9, 0, 0, 71, [])), (71, Sum.inl (2, 4, 0, 0, 73, [])), (73, Sum.inl (9, 10, 0, 0, 74, [])), (74, Sum.inr (3, 1, 2, 0, 0, 0, 0)), (77, Sum.inl (27, 0, 0, 0, 78, []))]
theorem Z_X1_doingIn (l : Launch) : ∀ q ∈ U_X1_doingIn, zTok l O_X1_doingIn F_X1_doingIn q := zU_ok rfl rfl rfl K_X1_doingIn (E_X1_doingIn l)
def wp_X1_doingIn (a : List zV) (S : zS) (K : zR2 → zS → Prop) : Prop := match a with
  | [.inr (.inl c), .inl x, .inl y] => ∃ (D : zD) (t i l : Nat), (c = 37 ∧ dOK D ∧ cOK S D ∧ t < 24 ∧ rkC S D t ∧ x = (i : Int) ∧ y = (l : Int) ∧ l < dL D ∧ (∀ j, j < dL D → 0 < (heL D t j).length)) ∧ K (.inl (some (.inl (tol (caD D t i l) : Int)))) S
  | _ => False
theorem lP_pos {A : Nat → List Nat} : ∀ f l, (∀ j, l ≤ j → j < l + f → 0 < (A j).length) → 0 < lP A f l := by
  intro f
  induction f with
  | zero => intro l _; exact Nat.zero_lt_one
  | succ f ih =>
    intro l h
    exact Nat.mul_pos (h l (by omega) (by omega)) (ih (l + 1) (fun j a b => h j (by omega) (by omega)))
theorem L_X1_doingIn {lc : Launch} {S : zS} {Q : zR2 → zS → Prop} {D : zD} {t i l : Nat} (hD : dOK D) (hC : cOK S D) (ht : t < 24) (hk : rkC S D t) (hl : l < dL D) (hp : ∀ j, j < dL D → 0 < (heL D t j).length) (hi : zir (i : Int)) (h : Q (.inl (some (.inl (tol (caD D t i l) : Int)))) S) (f : Nat) : ∀ k, l + 1 + k + f = dL D → zGs lc 1 0 0 F_X1_doingIn S 7 [(0, .inr (.inl 37)), (1, .inl (i : Int)), (2, .inl (l : Int)), (3, .inl (lP (heL D t) k (l + 1) : Int)), (4, .inl ((l + 1 + k : Nat) : Int))] [] Q := by
  have h6 := hD.lodgers
  have eL := hC.lodgers
  induction f with
  | zero =>
    intro k hk2
    have hm := hm_lt hD ht hl
    have hs := chkA_ok hm
    have hpl := hp l hl
    have h12 := he_12 hD ht hl
    have hrb : 0 < lP (heL D t) k (l + 1) := lP_pos k (l + 1) (fun j a b => hp j (by omega))
    have ek : k = dL D - l - 1 := by omega
    have hlt : i / lP (heL D t) k (l + 1) % (heL D t l).length < (heL D t l).length := Nat.mod_lt _ hpl
    have hget : (bl (spr (hmD D t l)))[i / lP (heL D t) k (l + 1) % (heL D t l).length]? = some (tol (caD D t i l)) := by
      rw [hs.2.1, List.getElem?_map, show bl (hmD D t l) = heL D t l from rfl, lget hlt]
      unfold caD
      rw [← ek]
      rfl
    have e9 := hk.2 l hl
    refine zwq_ok (Z_X1_doingIn lc) rfl [7] (fun _ _ _ _ _ _ h => h) 400 (Z_X1_doingIn lc) ?_
    refine ⟨fun c => by omega, fun c => ⟨l, ⟨rfl, by omega⟩, spr (hmD D t l), hmD D t l, ⟨e9, Or.inr ⟨rfl, hm⟩⟩, fun c2 => by omega, fun c2 => ⟨fun c3 => ?_, fun c3 => ⟨l, ⟨rfl, by omega⟩, ⟨by omega, by omega⟩, ⟨?_, ?_⟩, spr (hmD D t l), i / lP (heL D t) k (l + 1) % (heL D t l).length, tol (caD D t i l), ⟨e9, hs.2.2.2, rfl, hget⟩, h⟩⟩⟩⟩
    · have c3 : ((heL D t l).length : Int) < 1 := c3
      omega
    · exact Int.ediv_nonneg (by omega) (by omega)
    · show (0 : Int) < ((heL D t l).length : Int)
      omega
  | succ f ih =>
    intro k hk2
    have hm := hm_lt hD ht (show l + 1 + k < dL D by omega)
    have e9 := hk.2 (l + 1 + k) (by omega)
    have hle := lP_le (A := heL D t) (k + 1) (l + 1) (fun j a b => he_12 hD ht (by omega))
    have hp := p12 (n := k + 1) (by omega)
    have e : (lP (heL D t) k (l + 1) : Int) * ((bl (hmD D t (l + 1 + k))).length : Int) = (lP (heL D t) (k + 1) (l + 1) : Int) := by
      rw [lP_snoc, ← Int.natCast_mul]
      rfl
    have this := ih (k + 1) (by omega)
    refine zwq_ok (Z_X1_doingIn lc) rfl [7] (fun _ _ _ _ _ _ h => h) 400 (Z_X1_doingIn lc) ?_
    refine ⟨fun c => ⟨l + 1 + k, ⟨rfl, by omega⟩, spr (hmD D t (l + 1 + k)), hmD D t (l + 1 + k), ⟨e9, Or.inr ⟨rfl, hm⟩⟩, ?_, by omega, ?_⟩, fun c => by omega⟩
    · rw [e]; omega
    · rw [e]; exact this
theorem R_X1_doingIn (l : Launch) (a : List zV) (S : zS) (Q : zR2 → zS → Prop) (h : wp_X1_doingIn a S Q) : zRs l 1 0 0 yX1_doingIn (.code yX1_doingIn cX1_doingIn 5 (some .int)) a S Q := by
  unfold wp_X1_doingIn at h
  split at h
  · obtain ⟨D, t, i, j, ⟨rfl, hD, hC, ht, hk, rfl, rfl, hl, hp⟩, h⟩ := h
    have h6 := hD.lodgers
    refine zRs.rng (fun _ hr => ?_)
    have hi : zir (i : Int) := hr (.inl (i : Int)) (by simp)
    refine zRs_of 1 (by decide) rfl rfl ?_; refine zwq_ok (Z_X1_doingIn l) rfl [7] (fun _ _ _ _ _ _ h => h) 400 (Z_X1_doingIn l) ?_
    refine ⟨by omega, ?_⟩
    exact L_X1_doingIn hD hC ht hk hl hp hi h (dL D - j - 1) 0 (by omega)
  · exact h.elim
def B_X6_doingsIn : List (Nat × zC) := []
def O_X6_doingsIn : zO := fun j a S K => match j with
  | _ => False
theorem E_X6_doingsIn (l : Launch) : ∀ q ∈ B_X6_doingsIn, zcok l O_X6_doingsIn F_X6_doingsIn q.1 q.2 := fun _ h => by cases h
def U_X6_doingsIn : List (Nat × zE) := [(0, Sum.inl (4, 0, 0, 0, 1, [])), (1, Sum.inl (18, 6, 2, 0, 4, [])), (4, Sum.inl (2, 2, 0, 0, 5, [])), (5, Sum.inl (20, 0, 0, 0, 6, [])), (6, Sum.inl (2, 1, 0, 0, 7, [])), (7, Sum.inl (16, 0, 10, 0, 15, [])), (10, Sum.inl (0, 0, 0, 14, 12, [])), (12, Sum.inl (15, 0, 0, 0, 21, [])), (15, Sum.inl (0, 0, 0, 1, 16, [])), (16, Sum.inl (0, 0, 0, 10, 18, [])), (18, Sum.inl (2, 1, 0, 0, 19, [])), (19, Sum.inl (9, 0, 0, 0, 20, [])), (20, Sum.inl (9, 6, 0, 0, 21, [])), (21, Sum.inl (27, 0, 0, 0, 22, []))]
theorem Z_X6_doingsIn (l : Launch) : ∀ q ∈ U_X6_doingsIn, zTok l O_X6_doingsIn F_X6_doingsIn q := zU_ok rfl rfl rfl K_X6_doingsIn (E_X6_doingsIn l)
def wp_X6_doingsIn (a : List zV) (S : zS) (K : zR2 → zS → Prop) : Prop := match a with
  | [.inr (.inl c), .inl x, .inl y] => ∃ (D : zD) (r i : Nat), (c = 3 ∧ dOK D ∧ cOK S D ∧ x = (r : Int) ∧ y = (i : Int) ∧ r < 8 ∧ i < dL D) ∧ K (.inl (some (.inl (thx D r i : Int)))) S
  | _ => False
theorem R_X6_doingsIn (l : Launch) (a : List zV) (S : zS) (Q : zR2 → zS → Prop) (h : wp_X6_doingsIn a S Q) : zRs l 0 0 0 yX6_doingsIn (.code yX6_doingsIn cX6_doingsIn 3 (some .int)) a S Q := by
  unfold wp_X6_doingsIn at h
  split at h
  · obtain ⟨D, r, i, ⟨rfl, hD, hC, rfl, rfl, hr, hi⟩, h⟩ := h
    have h6 := hD.lodgers
    have e := hC.home i hi
    have e2 : zshl 1 (10 + (r : Int)) = ((2 ^ (10 + r) : Nat) : Int) := by
      have := zsh1_n (k := 10 + r) (by omega)
      rw [show ((10 + r : Nat) : Int) = 10 + (r : Int) by omega] at this
      exact this
    unfold thx at h
    refine zRs_of 6 (by decide) rfl rfl ?_; refine zwq_ok (Z_X6_doingsIn l) rfl [] (fun _ _ _ _ _ _ h => h) 400 (Z_X6_doingsIn l) ?_
    refine ⟨i, ⟨rfl, by omega⟩, fun c => ?_, fun c => ⟨by omega, ?_⟩⟩
    · rw [if_pos (by omega)] at h; exact h
    · rw [if_neg (by omega), ← e2] at h; exact h
  · exact h.elim
def B_X1_casesWithout : List (Nat × zC) := [(39, (0, 0, 2, 0, 0, 0, 6)), (45, (1, 1, 1, 0, 0, 0, 0))]
def O_X1_casesWithout : zO := fun j a S K => match j with
  | 0 => wp_X6_doingsIn a S K
  | 1 => wp_J6_bitCount_0f7a4 a S K
  | _ => False
theorem E_X1_casesWithout (l : Launch) : ∀ q ∈ B_X1_casesWithout, zcok l O_X1_casesWithout F_X1_casesWithout q.1 q.2 := List.forall_mem_cons.mpr ⟨⟨84, yX6_doingsIn, cX6_doingsIn, 3, some .int, by decide +kernel, C_1_84, W_X6_doingsIn, I_X6_doingsIn, S_X6_doingsIn, rfl, rfl, R_X6_doingsIn l⟩, List.forall_mem_cons.mpr ⟨⟨53, yJ6_bitCount_0f7a4, cJ6_bitCount_0f7a4, 1, some .int, by decide +kernel, C_1_53, W_J6_bitCount_0f7a4, I_J6_bitCount_0f7a4, rfl, R_J6_bitCount_0f7a4 l⟩, fun _ h => by cases h⟩⟩
def U_X1_casesWithout : List (Nat × zE) := [(0, Sum.inl (4, 0, 0, 0, 1, [])), (1, Sum.inl (18, 1, 4, 0, 4, [])), (4, Sum.inl (17, 2, 7, 0, 11, [])), (7, Sum.inl (0, 0, 0, 1, 8, [])), (8, Sum.inl (15, 0, 0, 0, 12, [])), (11, Sum.inl (0, 0, 0, 0, 12, [])), (12, Sum.inl (5, 2, 0, 0, 13, [])), (13, Sum.inl (0, 0, 0, 0, 14, [])), (14, Sum.inl (5, 3, 0, 0, 15, [])), (15, Sum.inl (2, 3, 0, 0, 16, [])), (16, Sum.inl (4, 0, 0, 0, 17, [])), (17, Sum.inl (18, 1, 0, 0, 20, [])), (20, Sum.inl (18, 6, 8, 0, 23, [])), (23, Sum.inl (16, 1, 26, 0, 56, [])), (26, Sum.inl (2, 2, 0, 0, 27, [])), (27, Sum.inl (4, 0, 0, 0, 28, [])), (28, Sum.inl (18, 1, 3, 0, 31, [])), (31, Sum.inl (2, 3, 0, 0, 32, [])), (32, Sum.inl (20, 0, 0, 0, 33, [])), (33, Sum.inl (4, 0, 0, 0, 34, [])), (34, Sum.inl (18, 1, 0, 0, 37, [])), (37, Sum.inl (2, 1, 0, 0, 38, [])), (38, Sum.inl (2, 3, 0, 0, 39, [])), (39, Sum.inr (0, 0, 2, 0, 0, 0, 6)), (42, Sum.inl (0, 0, 0, (-1), 43, [])), (43, Sum.inl (9, 5, 0, 0, 44, [])), (44, Sum.inl (9, 3, 0, 0, 45, [])), (45, Sum.inr (1, 1, 1, 0, 0, 0, 0)), (48, Sum.inl (9, 2, 0, 0, 49, [])), (49, Sum.inl (5, 2, 0, 0, 50, [])), (50, Sum.inl (8, 3, 0, 1, 53, [])), (53, Sum.inl (15, 0, 0, 0, 15, [])), (56, Sum.inl (2, 2, 0, 0, 57, [])), (57, Sum.inl (27, 0, 0, 0, 58, []))]
theorem Z_X1_casesWithout (l : Launch) : ∀ q ∈ U_X1_casesWithout, zTok l O_X1_casesWithout F_X1_casesWithout q := zU_ok rfl rfl rfl K_X1_casesWithout (E_X1_casesWithout l)
def wiL (D : zD) (t r l : Nat) : List Nat := (heL D t l).filter (fun a => !thr D r l a)
def woD (D : zD) (t r : Nat) : Nat := bif Nat.blt 0 (toD D t) then pP (wiL D t r) (dL D) else 0
def wp_X1_casesWithout (a : List zV) (S : zS) (K : zR2 → zS → Prop) : Prop := match a with
  | [.inr (.inl c), .inl x] => ∃ (D : zD) (t r : Nat), (c = 37 ∧ dOK D ∧ cOK S D ∧ t < 24 ∧ rkC S D t ∧ x = (r : Int) ∧ r < dR D) ∧ K (.inl (some (.inl (woD D t r : Int)))) S
  | _ => False
theorem L_X1_casesWithout {l : Launch} {S : zS} {Q : zR2 → zS → Prop} {D : zD} {t r b : Nat} (hD : dOK D) (hC : cOK S D) (ht : t < 24) (hk : rkC S D t) (hr : r < dR D) (hb : b ≤ 1) (h : Q (.inl (some (.inl ((b * pP (wiL D t r) (dL D) : Nat) : Int)))) S) (f : Nat) : ∀ j, j + f = dL D → zGs l 1 0 0 F_X1_casesWithout S 15 [(0, .inr (.inl 37)), (1, .inl (r : Int)), (2, .inl ((b * pP (wiL D t r) j : Nat) : Int)), (3, .inl (j : Int))] [] Q := by
  have h6 := hD.lodgers
  have h8 := hD.rooms
  have eL := hC.lodgers
  induction f with
  | zero =>
    intro j hj
    have : j = dL D := by omega
    subst this
    refine zwq_ok (Z_X1_casesWithout l) rfl [15] (fun _ _ _ _ _ _ h => h) 400 (Z_X1_casesWithout l) ?_
    exact ⟨fun c => by omega, fun c => h⟩
  | succ f ih =>
    intro j hj
    have hm := hm_lt hD ht (show j < dL D by omega)
    have hR := hm_rm hD ht (show j < dL D by omega)
    have e1 := hk.2 j (by omega)
    have e2 := sub_thx (D := D) (l := j) (r := r) (by omega) hm hR
    have hfl : (bl (fmk (hmD D t j) (fun a => !thr D r j a))) = wiL D t r j := bl_fmk hm _
    have hle : pP (wiL D t r) (j + 1) ≤ 12 ^ (j + 1) := pP_le (fun i hi => Nat.le_trans (List.length_filter_le _ _) (he_12 hD ht (by omega)))
    have hp := p12 (n := j + 1) (by omega)
    have hmul : b * pP (wiL D t r) (j + 1) ≤ pP (wiL D t r) (j + 1) := by
      have := Nat.mul_le_mul_right (pP (wiL D t r) (j + 1)) hb
      omega
    have e : ((b * pP (wiL D t r) j : Nat) : Int) * ((bl (fmk (hmD D t j) (fun a => !thr D r j a))).length : Int) = ((b * pP (wiL D t r) (j + 1) : Nat) : Int) := by
      rw [hfl, ← Int.natCast_mul, Nat.mul_assoc]
      rfl
    have this := ih (j + 1) (by omega)
    refine zwq_ok (Z_X1_casesWithout l) rfl [15] (fun _ _ _ _ _ _ h => h) 400 (Z_X1_casesWithout l) ?_
    refine ⟨fun c => ⟨j, ⟨rfl, by omega⟩, D, r, j, ⟨rfl, hD, hC, rfl, rfl, by omega, by omega⟩, spr (fmk (hmD D t j) (fun a => !thr D r j a)), fmk (hmD D t j) (fun a => !thr D r j a), ⟨by rw [e1]; exact e2, Or.inr ⟨rfl, fmk_lt _ _⟩⟩, ?_, by omega, ?_⟩, fun c => by omega⟩
    · rw [e]; omega
    · rw [e]; exact this
theorem R_X1_casesWithout (l : Launch) (a : List zV) (S : zS) (Q : zR2 → zS → Prop) (h : wp_X1_casesWithout a S Q) : zRs l 1 0 0 yX1_casesWithout (.code yX1_casesWithout cX1_casesWithout 4 (some .int)) a S Q := by
  unfold wp_X1_casesWithout at h
  split at h
  · obtain ⟨D, t, r, ⟨rfl, hD, hC, ht, hk, rfl, hr⟩, h⟩ := h
    have e := hk.1
    unfold woD at h
    refine zRs_of 1 (by decide) rfl rfl ?_; refine zwq_ok (Z_X1_casesWithout l) rfl [15] (fun _ _ _ _ _ _ h => h) 400 (Z_X1_casesWithout l) ?_
    refine ⟨fun c => ?_, fun c => ?_⟩
    · rw [show Nat.blt 0 (toD D t) = true from Nat.ble_eq.mpr (by omega)] at h
      have h : Q (.inl (some (.inl ((pP (wiL D t r) (dL D) : Nat) : Int)))) S := h
      exact L_X1_casesWithout (b := 1) hD hC ht hk hr (by omega) (by rw [Nat.one_mul]; exact h) (dL D) 0 (by omega)
    · rw [show Nat.blt 0 (toD D t) = false by rw [show toD D t = 0 by omega]; rfl] at h
      have h : Q (.inl (some (.inl ((0 : Nat) : Int)))) S := h
      exact L_X1_casesWithout (b := 0) hD hC ht hk hr (by omega) (by rw [Nat.zero_mul]; exact h) (dL D) 0 (by omega)
  · exact h.elim
theorem wo_le {D : zD} {t r : Nat} (hD : dOK D) (ht : t < 24) : woD D t r ≤ toD D t := by
  have g : ∀ n, pP (wiL D t r) n ≤ pP (heL D t) n := by
    intro n
    induction n with
    | zero => exact Nat.le_refl 1
    | succ n ih => exact Nat.mul_le_mul ih (List.length_filter_le _ _)
  unfold woD
  cases hb : Nat.blt 0 (toD D t)
  · exact Nat.zero_le _
  · show pP (wiL D t r) (dL D) ≤ toD D t
    have hpos := Nat.ble_eq.mp hb
    unfold toD at hpos ⊢
    cases he : erD D
    · rw [he] at hpos; exact absurd hpos (Nat.not_lt_zero 0)
    · exact g _
def B_X1_surelyEmpty : List (Nat × zC) := [(24, (0, 0, 1, 1, 0, 0, 1))]
def O_X1_surelyEmpty : zO := fun j a S K => match j with
  | 0 => wp_X1_casesWithout a S K
  | _ => False
theorem E_X1_surelyEmpty (l : Launch) : ∀ q ∈ B_X1_surelyEmpty, zcok l O_X1_surelyEmpty F_X1_surelyEmpty q.1 q.2 := List.forall_mem_cons.mpr ⟨⟨87, yX1_casesWithout, cX1_casesWithout, 4, some .int, by decide +kernel, C_1_87, W_X1_casesWithout, I_X1_casesWithout, S_X1_casesWithout, rfl, rfl, R_X1_casesWithout l⟩, fun _ h => by cases h⟩
def U_X1_surelyEmpty : List (Nat × zE) := [(0, Sum.inl (0, 0, 0, 0, 1, [])), (1, Sum.inl (5, 1, 0, 0, 2, [])), (2, Sum.inl (0, 0, 0, 0, 3, [])), (3, Sum.inl (5, 2, 0, 0, 4, [])), (4, Sum.inl (2, 2, 0, 0, 5, [])), (5, Sum.inl (4, 0, 0, 0, 6, [])), (6, Sum.inl (18, 1, 0, 0, 9, [])), (9, Sum.inl (18, 6, 7, 0, 12, [])), (12, Sum.inl (16, 1, 15, 0, 46, [])), (15, Sum.inl (4, 0, 0, 0, 16, [])), (16, Sum.inl (18, 1, 4, 0, 19, [])), (19, Sum.inl (17, 2, 22, 0, 40, [])), (22, Sum.inl (4, 0, 0, 0, 23, [])), (23, Sum.inl (2, 2, 0, 0, 24, [])), (24, Sum.inr (0, 0, 1, 1, 0, 0, 1)), (27, Sum.inl (4, 0, 0, 0, 28, [])), (28, Sum.inl (18, 1, 4, 0, 31, [])), (31, Sum.inl (16, 0, 34, 0, 40, [])), (34, Sum.inl (2, 1, 0, 0, 35, [])), (35, Sum.inl (0, 0, 0, 1, 36, [])), (36, Sum.inl (2, 2, 0, 0, 37, [])), (37, Sum.inl (9, 6, 0, 0, 38, [])), (38, Sum.inl (9, 4, 0, 0, 39, [])), (39, Sum.inl (5, 1, 0, 0, 40, [])), (40, Sum.inl (8, 2, 0, 1, 43, [])), (43, Sum.inl (15, 0, 0, 0, 4, [])), (46, Sum.inl (2, 1, 0, 0, 47, [])), (47, Sum.inl (27, 0, 0, 0, 48, []))]
theorem Z_X1_surelyEmpty (l : Launch) : ∀ q ∈ U_X1_surelyEmpty, zTok l O_X1_surelyEmpty F_X1_surelyEmpty q := zU_ok rfl rfl rfl K_X1_surelyEmpty (E_X1_surelyEmpty l)
def B_X1_surelyTaken : List (Nat × zC) := [(24, (0, 0, 1, 1, 0, 0, 1))]
def O_X1_surelyTaken : zO := fun j a S K => match j with
  | 0 => wp_X1_casesWithout a S K
  | _ => False
theorem E_X1_surelyTaken (l : Launch) : ∀ q ∈ B_X1_surelyTaken, zcok l O_X1_surelyTaken F_X1_surelyTaken q.1 q.2 := List.forall_mem_cons.mpr ⟨⟨87, yX1_casesWithout, cX1_casesWithout, 4, some .int, by decide +kernel, C_1_87, W_X1_casesWithout, I_X1_casesWithout, S_X1_casesWithout, rfl, rfl, R_X1_casesWithout l⟩, fun _ h => by cases h⟩
def U_X1_surelyTaken : List (Nat × zE) := [(0, Sum.inl (0, 0, 0, 0, 1, [])), (1, Sum.inl (5, 1, 0, 0, 2, [])), (2, Sum.inl (0, 0, 0, 0, 3, [])), (3, Sum.inl (5, 2, 0, 0, 4, [])), (4, Sum.inl (2, 2, 0, 0, 5, [])), (5, Sum.inl (4, 0, 0, 0, 6, [])), (6, Sum.inl (18, 1, 0, 0, 9, [])), (9, Sum.inl (18, 6, 7, 0, 12, [])), (12, Sum.inl (16, 1, 15, 0, 42, [])), (15, Sum.inl (4, 0, 0, 0, 16, [])), (16, Sum.inl (18, 1, 4, 0, 19, [])), (19, Sum.inl (17, 2, 22, 0, 36, [])), (22, Sum.inl (4, 0, 0, 0, 23, [])), (23, Sum.inl (2, 2, 0, 0, 24, [])), (24, Sum.inr (0, 0, 1, 1, 0, 0, 1)), (27, Sum.inl (17, 0, 30, 0, 36, [])), (30, Sum.inl (2, 1, 0, 0, 31, [])), (31, Sum.inl (0, 0, 0, 1, 32, [])), (32, Sum.inl (2, 2, 0, 0, 33, [])), (33, Sum.inl (9, 6, 0, 0, 34, [])), (34, Sum.inl (9, 4, 0, 0, 35, [])), (35, Sum.inl (5, 1, 0, 0, 36, [])), (36, Sum.inl (8, 2, 0, 1, 39, [])), (39, Sum.inl (15, 0, 0, 0, 4, [])), (42, Sum.inl (2, 1, 0, 0, 43, [])), (43, Sum.inl (27, 0, 0, 0, 44, []))]
theorem Z_X1_surelyTaken (l : Launch) : ∀ q ∈ U_X1_surelyTaken, zTok l O_X1_surelyTaken F_X1_surelyTaken q := zU_ok rfl rfl rfl K_X1_surelyTaken (E_X1_surelyTaken l)
def B_X1_doorToKnockAt : List (Nat × zC) := [(29, (0, 0, 1, 1, 0, 0, 1)), (43, (6, 0, 0, 0, 0, 0, 0))]
def O_X1_doorToKnockAt : zO := fun j a S K => match j with
  | 0 => wp_X1_casesWithout a S K
  | _ => False
theorem E_X1_doorToKnockAt (l : Launch) : ∀ q ∈ B_X1_doorToKnockAt, zcok l O_X1_doorToKnockAt F_X1_doorToKnockAt q.1 q.2 := List.forall_mem_cons.mpr ⟨⟨87, yX1_casesWithout, cX1_casesWithout, 4, some .int, by decide +kernel, C_1_87, W_X1_casesWithout, I_X1_casesWithout, S_X1_casesWithout, rfl, rfl, R_X1_casesWithout l⟩, List.forall_mem_cons.mpr ⟨⟨90, by decide +kernel, z_at 984 (by decide +kernel) (by decide +kernel)⟩, fun _ h => by cases h⟩⟩
def U_X1_doorToKnockAt : List (Nat × zE) := [(0, Sum.inl (0, 0, 0, (-1), 1, [])), (1, Sum.inl (5, 1, 0, 0, 2, [])), (2, Sum.inl (4, 0, 0, 0, 3, [])), (3, Sum.inl (18, 1, 4, 0, 6, [])), (6, Sum.inl (5, 2, 0, 0, 7, [])), (7, Sum.inl (0, 0, 0, 0, 8, [])), (8, Sum.inl (5, 3, 0, 0, 9, [])), (9, Sum.inl (2, 3, 0, 0, 10, [])), (10, Sum.inl (4, 0, 0, 0, 11, [])), (11, Sum.inl (18, 1, 0, 0, 14, [])), (14, Sum.inl (18, 6, 7, 0, 17, [])), (17, Sum.inl (16, 1, 20, 0, 70, [])), (20, Sum.inl (4, 0, 0, 0, 21, [])), (21, Sum.inl (18, 1, 4, 0, 24, [])), (24, Sum.inl (17, 2, 27, 0, 70, [])), (27, Sum.inl (4, 0, 0, 0, 28, [])), (28, Sum.inl (2, 3, 0, 0, 29, [])), (29, Sum.inr (0, 0, 1, 1, 0, 0, 1)), (32, Sum.inl (5, 4, 0, 0, 34, [])), (34, Sum.inl (2, 4, 0, 0, 36, [])), (36, Sum.inl (4, 0, 0, 0, 37, [])), (37, Sum.inl (18, 1, 4, 0, 40, [])), (40, Sum.inl (2, 4, 0, 0, 42, [])), (42, Sum.inl (9, 1, 0, 0, 43, [])), (43, Sum.inr (6, 0, 0, 0, 0, 0, 0)), (46, Sum.inl (5, 5, 0, 0, 48, [])), (48, Sum.inl (2, 1, 0, 0, 49, [])), (49, Sum.inl (0, 0, 0, (-1), 50, [])), (50, Sum.inl (16, 0, 59, 0, 53, [])), (53, Sum.inl (2, 5, 0, 0, 55, [])), (55, Sum.inl (2, 2, 0, 0, 56, [])), (56, Sum.inl (16, 1, 59, 0, 64, [])), (59, Sum.inl (2, 3, 0, 0, 60, [])), (60, Sum.inl (5, 1, 0, 0, 61, [])), (61, Sum.inl (2, 5, 0, 0, 63, [])), (63, Sum.inl (5, 2, 0, 0, 64, [])), (64, Sum.inl (8, 3, 0, 1, 67, [])), (67, Sum.inl (15, 0, 0, 0, 9, [])), (70, Sum.inl (2, 1, 0, 0, 71, [])), (71, Sum.inl (27, 0, 0, 0, 72, []))]
theorem Z_X1_doorToKnockAt (l : Launch) : ∀ q ∈ U_X1_doorToKnockAt, zTok l O_X1_doorToKnockAt F_X1_doorToKnockAt q := zU_ok rfl rfl rfl K_X1_doorToKnockAt (E_X1_doorToKnockAt l)
def B_X1_roomsOf : List (Nat × zC) := [(27, (0, 0, 2, 0, 0, 0, 6))]
def O_X1_roomsOf : zO := fun j a S K => match j with
  | 0 => wp_X6_doingsIn a S K
  | _ => False
theorem E_X1_roomsOf (l : Launch) : ∀ q ∈ B_X1_roomsOf, zcok l O_X1_roomsOf F_X1_roomsOf q.1 q.2 := List.forall_mem_cons.mpr ⟨⟨84, yX6_doingsIn, cX6_doingsIn, 3, some .int, by decide +kernel, C_1_84, W_X6_doingsIn, I_X6_doingsIn, S_X6_doingsIn, rfl, rfl, R_X6_doingsIn l⟩, fun _ h => by cases h⟩
def U_X1_roomsOf : List (Nat × zE) := [(0, Sum.inl (0, 0, 0, 0, 1, [])), (1, Sum.inl (5, 2, 0, 0, 2, [])), (2, Sum.inl (0, 0, 0, 0, 3, [])), (3, Sum.inl (5, 3, 0, 0, 4, [])), (4, Sum.inl (2, 3, 0, 0, 5, [])), (5, Sum.inl (4, 0, 0, 0, 6, [])), (6, Sum.inl (18, 1, 0, 0, 9, [])), (9, Sum.inl (18, 6, 7, 0, 12, [])), (12, Sum.inl (16, 1, 15, 0, 46, [])), (15, Sum.inl (4, 0, 0, 0, 16, [])), (16, Sum.inl (18, 1, 3, 0, 19, [])), (19, Sum.inl (2, 1, 0, 0, 20, [])), (20, Sum.inl (20, 0, 0, 0, 21, [])), (21, Sum.inl (4, 0, 0, 0, 22, [])), (22, Sum.inl (18, 1, 0, 0, 25, [])), (25, Sum.inl (2, 3, 0, 0, 26, [])), (26, Sum.inl (2, 1, 0, 0, 27, [])), (27, Sum.inr (0, 0, 2, 0, 0, 0, 6)), (30, Sum.inl (9, 3, 0, 0, 31, [])), (31, Sum.inl (17, 0, 40, 0, 34, [])), (34, Sum.inl (2, 2, 0, 0, 35, [])), (35, Sum.inl (0, 0, 0, 1, 36, [])), (36, Sum.inl (2, 3, 0, 0, 37, [])), (37, Sum.inl (9, 6, 0, 0, 38, [])), (38, Sum.inl (9, 4, 0, 0, 39, [])), (39, Sum.inl (5, 2, 0, 0, 40, [])), (40, Sum.inl (8, 3, 0, 1, 43, [])), (43, Sum.inl (15, 0, 0, 0, 4, [])), (46, Sum.inl (2, 2, 0, 0, 47, [])), (47, Sum.inl (27, 0, 0, 0, 48, []))]
theorem Z_X1_roomsOf (l : Launch) : ∀ q ∈ U_X1_roomsOf, zTok l O_X1_roomsOf F_X1_roomsOf q := zU_ok rfl rfl rfl K_X1_roomsOf (E_X1_roomsOf l)
def seF (D : zD) (t r : Nat) : Bool := Nat.blt 0 (toD D t) && Nat.beq (woD D t r) (toD D t)
def stF (D : zD) (t r : Nat) : Bool := Nat.blt 0 (toD D t) && Nat.beq (woD D t r) 0
theorem bltT {a b : Nat} (h : a < b) : Nat.blt a b = true := Nat.ble_eq.mpr h
theorem bltF {a b : Nat} (h : ¬ a < b) : Nat.blt a b = false := by
  cases hb : Nat.blt a b
  · rfl
  · exact absurd (Nat.ble_eq.mp hb) h
def wp_X1_surelyEmpty (a : List zV) (S : zS) (K : zR2 → zS → Prop) : Prop := match a with
  | [.inr (.inl c)] => ∃ (D : zD) (t : Nat), (c = 37 ∧ dOK D ∧ cOK S D ∧ t < 24 ∧ rkC S D t) ∧ K (.inl (some (.inl (msk (seF D t) (dR D) : Int)))) S
  | _ => False
def wp_X1_surelyTaken (a : List zV) (S : zS) (K : zR2 → zS → Prop) : Prop := match a with
  | [.inr (.inl c)] => ∃ (D : zD) (t : Nat), (c = 37 ∧ dOK D ∧ cOK S D ∧ t < 24 ∧ rkC S D t) ∧ K (.inl (some (.inl (msk (stF D t) (dR D) : Int)))) S
  | _ => False
theorem zor_msk {F : Nat → Bool} {j : Nat} (hj : j < 8) (h : F j = true) : zor (msk F j : Int) (zshl 1 (j : Int)) = (msk F (j + 1) : Int) := by
  have hlt := msk_lt F j
  have hp : 2 ^ j ≤ 2 ^ 7 := Nat.pow_le_pow_right (by decide) (by omega)
  rw [zsh1_n (by omega), zor_n (by omega) (by omega), msk_or _ _ h]
theorem L_X1_surelyEmpty {l : Launch} {S : zS} {Q : zR2 → zS → Prop} {D : zD} {t : Nat} (hD : dOK D) (hC : cOK S D) (ht : t < 24) (hk : rkC S D t) (h : Q (.inl (some (.inl (msk (seF D t) (dR D) : Int)))) S) (f : Nat) : ∀ j, j + f = dR D → zGs l 2 0 0 F_X1_surelyEmpty S 4 [(0, .inr (.inl 37)), (1, .inl (msk (seF D t) j : Int)), (2, .inl (j : Int))] [] Q := by
  have h8 := hD.rooms
  have eR := hC.rooms
  have eT := hk.1
  induction f with
  | zero =>
    intro j hj
    have : j = dR D := by omega
    subst this
    refine zwq_ok (Z_X1_surelyEmpty l) rfl [4] (fun _ _ _ _ _ _ h => h) 400 (Z_X1_surelyEmpty l) ?_
    exact ⟨fun c => by omega, fun c => h⟩
  | succ f ih =>
    intro j hj
    have this := ih (j + 1) (by omega)
    refine zwq_ok (Z_X1_surelyEmpty l) rfl [4] (fun _ _ _ _ _ _ h => h) 400 (Z_X1_surelyEmpty l) ?_
    refine ⟨fun c => ⟨fun c2 => ⟨D, t, j, ⟨rfl, hD, hC, ht, hk, rfl, by omega⟩, fun c3 => ⟨by omega, ?_⟩, fun c3 => ⟨by omega, ?_⟩⟩, fun c2 => ⟨by omega, ?_⟩⟩, fun c => by omega⟩
    · have hf : seF D t j = true := by
        unfold seF
        rw [bltT (by omega), show woD D t j = toD D t by omega, Nat.beq_refl]
        rfl
      rw [zor_msk (by omega) hf]
      exact this
    · have hf : seF D t j = false := by
        unfold seF
        rw [beqN (show woD D t j ≠ toD D t by omega), Bool.and_false]
      rw [msk_no _ _ hf] at this
      exact this
    · have hf : seF D t j = false := by
        unfold seF
        rw [bltF (by omega), Bool.false_and]
      rw [msk_no _ _ hf] at this
      exact this
theorem L_X1_surelyTaken {l : Launch} {S : zS} {Q : zR2 → zS → Prop} {D : zD} {t : Nat} (hD : dOK D) (hC : cOK S D) (ht : t < 24) (hk : rkC S D t) (h : Q (.inl (some (.inl (msk (stF D t) (dR D) : Int)))) S) (f : Nat) : ∀ j, j + f = dR D → zGs l 2 0 0 F_X1_surelyTaken S 4 [(0, .inr (.inl 37)), (1, .inl (msk (stF D t) j : Int)), (2, .inl (j : Int))] [] Q := by
  have h8 := hD.rooms
  have eR := hC.rooms
  have eT := hk.1
  induction f with
  | zero =>
    intro j hj
    have : j = dR D := by omega
    subst this
    refine zwq_ok (Z_X1_surelyTaken l) rfl [4] (fun _ _ _ _ _ _ h => h) 400 (Z_X1_surelyTaken l) ?_
    exact ⟨fun c => by omega, fun c => h⟩
  | succ f ih =>
    intro j hj
    have this := ih (j + 1) (by omega)
    refine zwq_ok (Z_X1_surelyTaken l) rfl [4] (fun _ _ _ _ _ _ h => h) 400 (Z_X1_surelyTaken l) ?_
    refine ⟨fun c => ⟨fun c2 => ⟨D, t, j, ⟨rfl, hD, hC, ht, hk, rfl, by omega⟩, fun c3 => ⟨by omega, ?_⟩, fun c3 => ⟨by omega, ?_⟩⟩, fun c2 => ⟨by omega, ?_⟩⟩, fun c => by omega⟩
    · have hf : stF D t j = true := by
        unfold stF
        rw [bltT (by omega), show woD D t j = 0 by omega]
        rfl
      rw [zor_msk (by omega) hf]
      exact this
    · have hf : stF D t j = false := by
        unfold stF
        rw [beqN (show woD D t j ≠ 0 by omega), Bool.and_false]
      rw [msk_no _ _ hf] at this
      exact this
    · have hf : stF D t j = false := by
        unfold stF
        rw [bltF (by omega), Bool.false_and]
      rw [msk_no _ _ hf] at this
      exact this
theorem R_X1_surelyEmpty (l : Launch) (a : List zV) (S : zS) (Q : zR2 → zS → Prop) (h : wp_X1_surelyEmpty a S Q) : zRs l 2 0 0 yX1_surelyEmpty (.code yX1_surelyEmpty cX1_surelyEmpty 3 (some .int)) a S Q := by
  unfold wp_X1_surelyEmpty at h
  split at h
  · obtain ⟨D, t, ⟨rfl, hD, hC, ht, hk⟩, h⟩ := h
    refine zRs_of 1 (by decide) rfl rfl ?_; refine zwq_ok (Z_X1_surelyEmpty l) rfl [4] (fun _ _ _ _ _ _ h => h) 400 (Z_X1_surelyEmpty l) ?_
    exact L_X1_surelyEmpty hD hC ht hk h (dR D) 0 (by omega)
  · exact h.elim
theorem R_X1_surelyTaken (l : Launch) (a : List zV) (S : zS) (Q : zR2 → zS → Prop) (h : wp_X1_surelyTaken a S Q) : zRs l 2 0 0 yX1_surelyTaken (.code yX1_surelyTaken cX1_surelyTaken 3 (some .int)) a S Q := by
  unfold wp_X1_surelyTaken at h
  split at h
  · obtain ⟨D, t, ⟨rfl, hD, hC, ht, hk⟩, h⟩ := h
    refine zRs_of 1 (by decide) rfl rfl ?_; refine zwq_ok (Z_X1_surelyTaken l) rfl [4] (fun _ _ _ _ _ _ h => h) 400 (Z_X1_surelyTaken l) ?_
    exact L_X1_surelyTaken hD hC ht hk h (dR D) 0 (by omega)
  · exact h.elim
/-- the door to knock at: the first least of the greater halves -/
def knS (D : zD) (t : Nat) : Nat → Nat → Int → Nat → Int
  | 0, _, best, _ => best
  | f + 1, r, best, least => if best = -1 ∨ max (woD D t r) (toD D t - woD D t r) < least then knS D t f (r + 1) (r : Int) (max (woD D t r) (toD D t - woD D t r)) else knS D t f (r + 1) best least
def knD (D : zD) (t : Nat) : Int := if 0 < toD D t then knS D t (dR D) 0 (-1) 0 else -1
theorem knS_least (D : zD) (t : Nat) : ∀ f r m n, knS D t f r (-1) m = knS D t f r (-1) n := by
  intro f r m n
  cases f with
  | zero => rfl
  | succ f =>
    show (if (-1 : Int) = -1 ∨ _ then _ else _) = (if (-1 : Int) = -1 ∨ _ then _ else _)
    rw [if_pos (Or.inl rfl), if_pos (Or.inl rfl)]
def wp_X1_doorToKnockAt (a : List zV) (S : zS) (K : zR2 → zS → Prop) : Prop := match a with
  | [.inr (.inl c)] => ∃ (D : zD) (t : Nat), (c = 37 ∧ dOK D ∧ cOK S D ∧ t < 24 ∧ rkC S D t) ∧ K (.inl (some (.inl (knD D t)))) S
  | _ => False
theorem L_X1_doorToKnockAt {l : Launch} {S : zS} {Q : zR2 → zS → Prop} {D : zD} {t : Nat} (hD : dOK D) (hC : cOK S D) (ht : t < 24) (hk : rkC S D t) (h0 : 0 < toD D t) (f : Nat) : ∀ r best least, r + f = dR D → Q (.inl (some (.inl (knS D t f r best least)))) S → zGs l 2 0 0 F_X1_doorToKnockAt S 9 [(0, .inr (.inl 37)), (1, .inl best), (2, .inl (least : Int)), (3, .inl (r : Int))] [] Q := by
  have h8 := hD.rooms
  have eR := hC.rooms
  have eT := hk.1
  induction f with
  | zero =>
    intro r best least hr h
    refine zwq_ok (Z_X1_doorToKnockAt l) rfl [9] (fun _ _ _ _ _ _ h => h) 400 (Z_X1_doorToKnockAt l) ?_
    exact ⟨fun c => by omega, fun c => h⟩
  | succ f ih =>
    intro r best least hr h
    have hle := wo_le (r := r) hD ht
    have h : Q (.inl (some (.inl (if best = -1 ∨ max (woD D t r) (toD D t - woD D t r) < least then knS D t f (r + 1) (r : Int) (max (woD D t r) (toD D t - woD D t r)) else knS D t f (r + 1) best least)))) S := h
    have em : max (woD D t r : Int) (S 37 4 - (woD D t r : Int)) = ((max (woD D t r) (toD D t - woD D t r) : Nat) : Int) := by omega
    have yes : best = -1 ∨ max (woD D t r) (toD D t - woD D t r) < least → zGs l 2 0 0 F_X1_doorToKnockAt S 9 [(0, .inr (.inl 37)), (1, .inl (r : Int)), (2, .inl ((max (woD D t r) (toD D t - woD D t r) : Nat) : Int)), (3, .inl ((r : Int) + 1))] [] Q := fun c => by
      rw [if_pos c] at h
      exact ih (r + 1) _ _ (by omega) h
    have hT : (toD D t : Int) ≤ 2147483647 := by
      have hb : pP (heL D t) (dL D) ≤ 12 ^ dL D := pP_le (fun i hi => he_12 hD ht hi)
      have h9 := p12 hD.lodgers
      have : toD D t ≤ pP (heL D t) (dL D) := by
        unfold toD
        cases erD D
        · exact Nat.zero_le _
        · exact Nat.le_refl _
      omega
    refine zwq_ok (Z_X1_doorToKnockAt l) rfl [9] (fun _ _ _ _ _ _ h => h) 400 (Z_X1_doorToKnockAt l) ?_
    refine ⟨fun c => ⟨fun c2 => ⟨D, t, r, ⟨rfl, hD, hC, ht, hk, rfl, by omega⟩, by omega, ?_⟩, fun c2 => by omega⟩, fun c => by omega⟩
    rw [← em] at yes
    refine ⟨fun c3 => ⟨by omega, ?_⟩, fun c3 => ⟨fun c4 => ⟨by omega, ?_⟩, fun c4 => ⟨by omega, ?_⟩⟩⟩
    · exact zGs.sub (lo := [(0, _), (1, _), (2, _), (3, _), (4, _), (5, _)]) (yes (Or.inl c3)) (fun q hq => by simp only [List.mem_cons, List.not_mem_nil, or_false] at hq; rcases hq with rfl | rfl | rfl | rfl <;> first | exact .head _ | exact .tail _ (.head _) | exact .tail _ (.tail _ (.head _)) | exact .tail _ (.tail _ (.tail _ (.head _))) | exact .tail _ (.tail _ (.tail _ (.tail _ (.head _)))) | exact .tail _ (.tail _ (.tail _ (.tail _ (.tail _ (.head _))))) | exact .tail _ (.tail _ (.tail _ (.tail _ (.tail _ (.tail _ (.head _)))))) | exact .tail _ (.tail _ (.tail _ (.tail _ (.tail _ (.tail _ (.tail _ (.head _))))))) | exact .tail _ (.tail _ (.tail _ (.tail _ (.tail _ (.tail _ (.tail _ (.tail _ (.head _)))))))) | exact .tail _ (.tail _ (.tail _ (.tail _ (.tail _ (.tail _ (.tail _ (.tail _ (.tail _ (.head _))))))))) | exact .tail _ (.tail _ (.tail _ (.tail _ (.tail _ (.tail _ (.tail _ (.tail _ (.tail _ (.tail _ (.head _)))))))))) | exact .tail _ (.tail _ (.tail _ (.tail _ (.tail _ (.tail _ (.tail _ (.tail _ (.tail _ (.tail _ (.tail _ (.head _))))))))))) | exact .tail _ (.tail _ (.tail _ (.tail _ (.tail _ (.tail _ (.tail _ (.tail _ (.tail _ (.tail _ (.tail _ (.tail _ (.head _)))))))))))) | exact .tail _ (.tail _ (.tail _ (.tail _ (.tail _ (.tail _ (.tail _ (.tail _ (.tail _ (.tail _ (.tail _ (.tail _ (.tail _ (.head _))))))))))))))
    · exact zGs.sub (lo := [(0, _), (1, _), (2, _), (3, _), (4, _), (5, _)]) (yes (Or.inr (by omega))) (fun q hq => by simp only [List.mem_cons, List.not_mem_nil, or_false] at hq; rcases hq with rfl | rfl | rfl | rfl <;> first | exact .head _ | exact .tail _ (.head _) | exact .tail _ (.tail _ (.head _)) | exact .tail _ (.tail _ (.tail _ (.head _))) | exact .tail _ (.tail _ (.tail _ (.tail _ (.head _)))) | exact .tail _ (.tail _ (.tail _ (.tail _ (.tail _ (.head _))))) | exact .tail _ (.tail _ (.tail _ (.tail _ (.tail _ (.tail _ (.head _)))))) | exact .tail _ (.tail _ (.tail _ (.tail _ (.tail _ (.tail _ (.tail _ (.head _))))))) | exact .tail _ (.tail _ (.tail _ (.tail _ (.tail _ (.tail _ (.tail _ (.tail _ (.head _)))))))) | exact .tail _ (.tail _ (.tail _ (.tail _ (.tail _ (.tail _ (.tail _ (.tail _ (.tail _ (.head _))))))))) | exact .tail _ (.tail _ (.tail _ (.tail _ (.tail _ (.tail _ (.tail _ (.tail _ (.tail _ (.tail _ (.head _)))))))))) | exact .tail _ (.tail _ (.tail _ (.tail _ (.tail _ (.tail _ (.tail _ (.tail _ (.tail _ (.tail _ (.tail _ (.head _))))))))))) | exact .tail _ (.tail _ (.tail _ (.tail _ (.tail _ (.tail _ (.tail _ (.tail _ (.tail _ (.tail _ (.tail _ (.tail _ (.head _)))))))))))) | exact .tail _ (.tail _ (.tail _ (.tail _ (.tail _ (.tail _ (.tail _ (.tail _ (.tail _ (.tail _ (.tail _ (.tail _ (.tail _ (.head _))))))))))))))
    · rw [if_neg (by omega)] at h
      exact zGs.sub (lo := [(0, _), (1, _), (2, _), (3, _), (4, _), (5, _)]) (ih (r + 1) best least (by omega) h) (fun q hq => by simp only [List.mem_cons, List.not_mem_nil, or_false] at hq; rcases hq with rfl | rfl | rfl | rfl <;> first | exact .head _ | exact .tail _ (.head _) | exact .tail _ (.tail _ (.head _)) | exact .tail _ (.tail _ (.tail _ (.head _))) | exact .tail _ (.tail _ (.tail _ (.tail _ (.head _)))) | exact .tail _ (.tail _ (.tail _ (.tail _ (.tail _ (.head _))))) | exact .tail _ (.tail _ (.tail _ (.tail _ (.tail _ (.tail _ (.head _)))))) | exact .tail _ (.tail _ (.tail _ (.tail _ (.tail _ (.tail _ (.tail _ (.head _))))))) | exact .tail _ (.tail _ (.tail _ (.tail _ (.tail _ (.tail _ (.tail _ (.tail _ (.head _)))))))) | exact .tail _ (.tail _ (.tail _ (.tail _ (.tail _ (.tail _ (.tail _ (.tail _ (.tail _ (.head _))))))))) | exact .tail _ (.tail _ (.tail _ (.tail _ (.tail _ (.tail _ (.tail _ (.tail _ (.tail _ (.tail _ (.head _)))))))))) | exact .tail _ (.tail _ (.tail _ (.tail _ (.tail _ (.tail _ (.tail _ (.tail _ (.tail _ (.tail _ (.tail _ (.head _))))))))))) | exact .tail _ (.tail _ (.tail _ (.tail _ (.tail _ (.tail _ (.tail _ (.tail _ (.tail _ (.tail _ (.tail _ (.tail _ (.head _)))))))))))) | exact .tail _ (.tail _ (.tail _ (.tail _ (.tail _ (.tail _ (.tail _ (.tail _ (.tail _ (.tail _ (.tail _ (.tail _ (.tail _ (.head _))))))))))))))
theorem R_X1_doorToKnockAt (l : Launch) (a : List zV) (S : zS) (Q : zR2 → zS → Prop) (h : wp_X1_doorToKnockAt a S Q) : zRs l 2 0 0 yX1_doorToKnockAt (.code yX1_doorToKnockAt cX1_doorToKnockAt 6 (some .int)) a S Q := by
  unfold wp_X1_doorToKnockAt at h
  split at h
  · obtain ⟨D, t, ⟨rfl, hD, hC, ht, hk⟩, h⟩ := h
    have e := hk.1
    unfold knD at h
    refine zRs_of 1 (by decide) rfl rfl ?_; refine zwq_ok (Z_X1_doorToKnockAt l) rfl [9] (fun _ _ _ _ _ _ h => h) 400 (Z_X1_doorToKnockAt l) ?_
    by_cases h0 : 0 < toD D t
    · rw [if_pos h0, knS_least D t _ _ 0 (toD D t)] at h
      have := L_X1_doorToKnockAt (l := l) hD hC ht hk h0 (dR D) 0 (-1) (toD D t) (by omega) h
      rw [← e] at this
      exact this
    · rw [if_neg h0] at h
      refine zwq_ok (Z_X1_doorToKnockAt l) rfl [9] (fun _ _ _ _ _ _ h => h) 400 (Z_X1_doorToKnockAt l) ?_
      exact ⟨fun c => ⟨fun c2 => by omega, fun c2 => h⟩, fun c => h⟩
  · exact h.elim
def roF (D : zD) (t l r : Nat) : Bool := (heL D t l).any (thr D r l)
def wp_X1_roomsOf (a : List zV) (S : zS) (K : zR2 → zS → Prop) : Prop := match a with
  | [.inr (.inl c), .inl x] => ∃ (D : zD) (t i : Nat), (c = 37 ∧ dOK D ∧ cOK S D ∧ t < 24 ∧ rkC S D t ∧ x = (i : Int) ∧ i < dL D) ∧ K (.inl (some (.inl (msk (roF D t i) (dR D) : Int)))) S
  | _ => False
theorem any_fil {xs : List Nat} {p : Nat → Bool} : xs.any p = false ↔ xs.filter p = [] := by
  rw [List.filter_eq_nil_iff, List.any_eq_false]
theorem any_spr {D : zD} {r l m : Nat} (hm : m < 4096) : spr (fmk m (thr D r l)) = 0 ↔ (bl m).any (thr D r l) = false := by
  rw [spr_0 (fmk_lt _ _), bl_fmk hm, any_fil]
theorem L_X1_roomsOf {l : Launch} {S : zS} {Q : zR2 → zS → Prop} {D : zD} {t i : Nat} (hD : dOK D) (hC : cOK S D) (ht : t < 24) (hk : rkC S D t) (hi : i < dL D) (h : Q (.inl (some (.inl (msk (roF D t i) (dR D) : Int)))) S) (f : Nat) : ∀ j, j + f = dR D → zGs l 1 0 0 F_X1_roomsOf S 4 [(0, .inr (.inl 37)), (1, .inl (i : Int)), (2, .inl (msk (roF D t i) j : Int)), (3, .inl (j : Int))] [] Q := by
  have h8 := hD.rooms
  have h6 := hD.lodgers
  have eR := hC.rooms
  have hm := hm_lt hD ht hi
  have hR := hm_rm hD ht hi
  have e1 := hk.2 i hi
  induction f with
  | zero =>
    intro j hj
    have : j = dR D := by omega
    subst this
    refine zwq_ok (Z_X1_roomsOf l) rfl [4] (fun _ _ _ _ _ _ h => h) 400 (Z_X1_roomsOf l) ?_
    exact ⟨fun c => by omega, fun c => h⟩
  | succ f ih =>
    intro j hj
    have this := ih (j + 1) (by omega)
    have e2 := and_thx (D := D) (l := i) (r := j) (by omega) hm hR
    have e3 := any_spr (D := D) (r := j) (l := i) hm
    refine zwq_ok (Z_X1_roomsOf l) rfl [4] (fun _ _ _ _ _ _ h => h) 400 (Z_X1_roomsOf l) ?_
    refine ⟨fun c => ⟨i, ⟨rfl, by omega⟩, D, j, i, ⟨rfl, hD, hC, rfl, rfl, by omega, hi⟩, fun c2 => ⟨by omega, ?_⟩, fun c2 => ⟨by omega, ?_⟩⟩, fun c => by omega⟩
    · rw [e1, e2] at c2
      have hf : roF D t i j = false := e3.mp (by omega)
      rw [msk_no _ _ hf] at this
      exact this
    · rw [e1, e2] at c2
      have hf : roF D t i j = true := by
        cases hb : roF D t i j
        · have := e3.mpr hb; omega
        · rfl
      rw [zor_msk (by omega) hf]
      exact this
theorem R_X1_roomsOf (l : Launch) (a : List zV) (S : zS) (Q : zR2 → zS → Prop) (h : wp_X1_roomsOf a S Q) : zRs l 1 0 0 yX1_roomsOf (.code yX1_roomsOf cX1_roomsOf 4 (some .int)) a S Q := by
  unfold wp_X1_roomsOf at h
  split at h
  · obtain ⟨D, t, i, ⟨rfl, hD, hC, ht, hk, rfl, hi⟩, h⟩ := h
    refine zRs_of 1 (by decide) rfl rfl ?_; refine zwq_ok (Z_X1_roomsOf l) rfl [4] (fun _ _ _ _ _ _ h => h) 400 (Z_X1_roomsOf l) ?_
    exact L_X1_roomsOf hD hC ht hk hi h (dR D) 0 (by omega)
  · exact h.elim
def B_X11_cases : List (Nat × zC) := [(4, (0, 0, 0, 3, 0, 0, 1))]
def O_X11_cases : zO := fun j a S K => match j with
  | 0 => wp_X1_reckon a S K
  | _ => False
theorem E_X11_cases (l : Launch) : ∀ q ∈ B_X11_cases, zcok l O_X11_cases F_X11_cases q.1 q.2 := List.forall_mem_cons.mpr ⟨⟨263, yX1_reckon, cX1_reckon, 3, some .int, by decide +kernel, C_11_263, W_X1_reckon, I_X1_reckon, S_X1_reckon, rfl, rfl, R_X1_reckon l⟩, fun _ h => by cases h⟩
def U_X11_cases : List (Nat × zE) := [(0, Sum.inl (4, 0, 0, 0, 1, [])), (1, Sum.inl (18, 11, 7, 0, 4, [])), (4, Sum.inr (0, 0, 0, 3, 0, 0, 1)), (7, Sum.inl (27, 0, 0, 0, 8, []))]
theorem Z_X11_cases (l : Launch) : ∀ q ∈ U_X11_cases, zTok l O_X11_cases F_X11_cases q := zU_ok rfl rfl rfl K_X11_cases (E_X11_cases l)
def wp_X11_cases (a : List zV) (S : zS) (K : zR2 → zS → Prop) : Prop := zif (Nat.ble (zsum a) 1) (zwq 4 F_X11_cases U_X11_cases O_X11_cases [] (fun _ _ _ _ _ _ => False) K 5 U_X11_cases 0 0 S 0 (zar 0 a) [])
theorem R_X11_cases (l : Launch) (a : List zV) (S : zS) (Q : zR2 → zS → Prop) (h : wp_X11_cases a S Q) : zRs l 4 0 0 yX11_cases (.code yX11_cases cX11_cases 1 (some .int)) a S Q := by
  obtain ⟨h1, h⟩ := zif_ok h
  exact zRs_of 11 (by decide) rfl h1 (zwq_ok (Z_X11_cases l) rfl [] (fun _ _ _ _ _ _ h => h.elim) 5 (Z_X11_cases l) h)
def B_X11_inCase : List (Nat × zC) := [(2, (2, 0, 1, 6, 0, 0, 11)), (10, (0, 1, 0, 3, 0, 0, 1)), (13, (4, 2, 2, 6, 0, 0, 0)), (22, (0, 3, 2, 1, 0, 0, 1))]
def O_X11_inCase : zO := fun j a S K => match j with
  | 0 => wp_X11_needLodger a S K
  | 1 => wp_X1_reckon a S K
  | 2 => wp_X11_needOneOf a S K
  | 3 => wp_X1_doingIn a S K
  | _ => False
theorem E_X11_inCase (l : Launch) : ∀ q ∈ B_X11_inCase, zcok l O_X11_inCase F_X11_inCase q.1 q.2 := List.forall_mem_cons.mpr ⟨⟨192, yX11_needLodger, cX11_needLodger, 2, none, by decide +kernel, C_11_192, W_X11_needLodger, I_X11_needLodger, S_X11_needLodger, rfl, rfl, R_X11_needLodger l⟩, List.forall_mem_cons.mpr ⟨⟨263, yX1_reckon, cX1_reckon, 3, some .int, by decide +kernel, C_11_263, W_X1_reckon, I_X1_reckon, S_X1_reckon, rfl, rfl, R_X1_reckon l⟩, List.forall_mem_cons.mpr ⟨⟨182, yX11_needOneOf, cX11_needOneOf, 2, none, by decide +kernel, C_11_182, W_X11_needOneOf, I_X11_needOneOf, rfl, R_X11_needOneOf l⟩, List.forall_mem_cons.mpr ⟨⟨267, yX1_doingIn, cX1_doingIn, 5, some .int, by decide +kernel, C_11_267, W_X1_doingIn, I_X1_doingIn, S_X1_doingIn, rfl, rfl, R_X1_doingIn l⟩, fun _ h => by cases h⟩⟩⟩⟩
def U_X11_inCase : List (Nat × zE) := [(0, Sum.inl (4, 0, 0, 0, 1, [])), (1, Sum.inl (2, 2, 0, 0, 2, [])), (2, Sum.inr (2, 0, 1, 6, 0, 0, 11)), (5, Sum.inl (2, 1, 0, 0, 6, [])), (6, Sum.inl (4, 0, 0, 0, 7, [])), (7, Sum.inl (18, 11, 7, 0, 10, [])), (10, Sum.inr (0, 1, 0, 3, 0, 0, 1)), (13, Sum.inr (4, 2, 2, 6, 0, 0, 0)), (16, Sum.inl (4, 0, 0, 0, 17, [])), (17, Sum.inl (18, 11, 7, 0, 20, [])), (20, Sum.inl (2, 1, 0, 0, 21, [])), (21, Sum.inl (2, 2, 0, 0, 22, [])), (22, Sum.inr (0, 3, 2, 1, 0, 0, 1)), (25, Sum.inl (27, 0, 0, 0, 26, []))]
theorem Z_X11_inCase (l : Launch) : ∀ q ∈ U_X11_inCase, zTok l O_X11_inCase F_X11_inCase q := zU_ok rfl rfl rfl K_X11_inCase (E_X11_inCase l)
def wp_X11_inCase (a : List zV) (S : zS) (K : zR2 → zS → Prop) : Prop := zif (Nat.ble (zsum a) 3) (zwq 7 F_X11_inCase U_X11_inCase O_X11_inCase [] (fun _ _ _ _ _ _ => False) K 15 U_X11_inCase 1 6 S 0 (zar 0 a) [])
theorem R_X11_inCase (l : Launch) (a : List zV) (S : zS) (Q : zR2 → zS → Prop) (h : wp_X11_inCase a S Q) : zRs l 7 1 6 yX11_inCase (.code yX11_inCase cX11_inCase 3 (some .int)) a S Q := by
  obtain ⟨h1, h⟩ := zif_ok h
  exact zRs_of 11 (by decide) rfl h1 (zwq_ok (Z_X11_inCase l) rfl [] (fun _ _ _ _ _ _ h => h.elim) 15 (Z_X11_inCase l) h)
def B_X11_sure : List (Nat × zC) := [(2, (4, 0, 2, 6, 0, 0, 0)), (9, (0, 1, 0, 3, 0, 0, 1)), (29, (0, 2, 0, 2, 0, 0, 1)), (41, (0, 3, 0, 2, 0, 0, 1)), (51, (0, 4, 0, 2, 0, 0, 1))]
def O_X11_sure : zO := fun j a S K => match j with
  | 0 => wp_X11_needOneOf a S K
  | 1 => wp_X1_reckon a S K
  | 2 => wp_X1_doorToKnockAt a S K
  | 3 => wp_X1_surelyEmpty a S K
  | 4 => wp_X1_surelyTaken a S K
  | _ => False
theorem E_X11_sure (l : Launch) : ∀ q ∈ B_X11_sure, zcok l O_X11_sure F_X11_sure q.1 q.2 := List.forall_mem_cons.mpr ⟨⟨182, yX11_needOneOf, cX11_needOneOf, 2, none, by decide +kernel, C_11_182, W_X11_needOneOf, I_X11_needOneOf, rfl, R_X11_needOneOf l⟩, List.forall_mem_cons.mpr ⟨⟨263, yX1_reckon, cX1_reckon, 3, some .int, by decide +kernel, C_11_263, W_X1_reckon, I_X1_reckon, S_X1_reckon, rfl, rfl, R_X1_reckon l⟩, List.forall_mem_cons.mpr ⟨⟨270, yX1_doorToKnockAt, cX1_doorToKnockAt, 6, some .int, by decide +kernel, C_11_270, W_X1_doorToKnockAt, I_X1_doorToKnockAt, S_X1_doorToKnockAt, rfl, rfl, R_X1_doorToKnockAt l⟩, List.forall_mem_cons.mpr ⟨⟨273, yX1_surelyEmpty, cX1_surelyEmpty, 3, some .int, by decide +kernel, C_11_273, W_X1_surelyEmpty, I_X1_surelyEmpty, S_X1_surelyEmpty, rfl, rfl, R_X1_surelyEmpty l⟩, List.forall_mem_cons.mpr ⟨⟨276, yX1_surelyTaken, cX1_surelyTaken, 3, some .int, by decide +kernel, C_11_276, W_X1_surelyTaken, I_X1_surelyTaken, S_X1_surelyTaken, rfl, rfl, R_X1_surelyTaken l⟩, fun _ h => by cases h⟩⟩⟩⟩⟩
def U_X11_sure : List (Nat × zE) := [(0, Sum.inl (2, 1, 0, 0, 1, [])), (1, Sum.inl (0, 0, 0, 3, 2, [])), (2, Sum.inr (4, 0, 2, 6, 0, 0, 0)), (5, Sum.inl (4, 0, 0, 0, 6, [])), (6, Sum.inl (18, 11, 7, 0, 9, [])), (9, Sum.inr (0, 1, 0, 3, 0, 0, 1)), (12, Sum.inl (0, 0, 0, (-2), 14, [])), (14, Sum.inl (16, 0, 17, 0, 20, [])), (17, Sum.inl (0, 0, 0, (-2), 19, [])), (19, Sum.inl (27, 0, 0, 0, 20, [])), (20, Sum.inl (2, 1, 0, 0, 21, [])), (21, Sum.inl (0, 0, 0, 2, 22, [])), (22, Sum.inl (16, 0, 25, 0, 33, [])), (25, Sum.inl (4, 0, 0, 0, 26, [])), (26, Sum.inl (18, 11, 7, 0, 29, [])), (29, Sum.inr (0, 2, 0, 2, 0, 0, 1)), (32, Sum.inl (27, 0, 0, 0, 33, [])), (33, Sum.inl (2, 1, 0, 0, 34, [])), (34, Sum.inl (17, 0, 37, 0, 47, [])), (37, Sum.inl (4, 0, 0, 0, 38, [])), (38, Sum.inl (18, 11, 7, 0, 41, [])), (41, Sum.inr (0, 3, 0, 2, 0, 0, 1)), (44, Sum.inl (15, 0, 0, 0, 54, [])), (47, Sum.inl (4, 0, 0, 0, 48, [])), (48, Sum.inl (18, 11, 7, 0, 51, [])), (51, Sum.inr (0, 4, 0, 2, 0, 0, 1)), (54, Sum.inl (27, 0, 0, 0, 55, []))]
theorem Z_X11_sure (l : Launch) : ∀ q ∈ U_X11_sure, zTok l O_X11_sure F_X11_sure q := zU_ok rfl rfl rfl K_X11_sure (E_X11_sure l)
def wp_X11_sure (a : List zV) (S : zS) (K : zR2 → zS → Prop) : Prop := zif (Nat.ble (zsum a) 2) (zwq 7 F_X11_sure U_X11_sure O_X11_sure [] (fun _ _ _ _ _ _ => False) K 28 U_X11_sure 1 6 S 0 (zar 0 a) [])
theorem R_X11_sure (l : Launch) (a : List zV) (S : zS) (Q : zR2 → zS → Prop) (h : wp_X11_sure a S Q) : zRs l 7 1 6 yX11_sure (.code yX11_sure cX11_sure 2 (some .int)) a S Q := by
  obtain ⟨h1, h⟩ := zif_ok h
  exact zRs_of 11 (by decide) rfl h1 (zwq_ok (Z_X11_sure l) rfl [] (fun _ _ _ _ _ _ h => h.elim) 28 (Z_X11_sure l) h)
def B_X11_where : List (Nat × zC) := [(2, (2, 0, 1, 6, 0, 0, 11)), (9, (0, 1, 0, 3, 0, 0, 1)), (24, (0, 2, 1, 1, 0, 0, 1))]
def O_X11_where : zO := fun j a S K => match j with
  | 0 => wp_X11_needLodger a S K
  | 1 => wp_X1_reckon a S K
  | 2 => wp_X1_roomsOf a S K
  | _ => False
theorem E_X11_where (l : Launch) : ∀ q ∈ B_X11_where, zcok l O_X11_where F_X11_where q.1 q.2 := List.forall_mem_cons.mpr ⟨⟨192, yX11_needLodger, cX11_needLodger, 2, none, by decide +kernel, C_11_192, W_X11_needLodger, I_X11_needLodger, S_X11_needLodger, rfl, rfl, R_X11_needLodger l⟩, List.forall_mem_cons.mpr ⟨⟨263, yX1_reckon, cX1_reckon, 3, some .int, by decide +kernel, C_11_263, W_X1_reckon, I_X1_reckon, S_X1_reckon, rfl, rfl, R_X1_reckon l⟩, List.forall_mem_cons.mpr ⟨⟨279, yX1_roomsOf, cX1_roomsOf, 4, some .int, by decide +kernel, C_11_279, W_X1_roomsOf, I_X1_roomsOf, S_X1_roomsOf, rfl, rfl, R_X1_roomsOf l⟩, fun _ h => by cases h⟩⟩⟩
def U_X11_where : List (Nat × zE) := [(0, Sum.inl (4, 0, 0, 0, 1, [])), (1, Sum.inl (2, 1, 0, 0, 2, [])), (2, Sum.inr (2, 0, 1, 6, 0, 0, 11)), (5, Sum.inl (4, 0, 0, 0, 6, [])), (6, Sum.inl (18, 11, 7, 0, 9, [])), (9, Sum.inr (0, 1, 0, 3, 0, 0, 1)), (12, Sum.inl (5, 2, 0, 0, 13, [])), (13, Sum.inl (2, 2, 0, 0, 14, [])), (14, Sum.inl (17, 2, 19, 0, 17, [])), (17, Sum.inl (2, 2, 0, 0, 18, [])), (18, Sum.inl (27, 0, 0, 0, 19, [])), (19, Sum.inl (4, 0, 0, 0, 20, [])), (20, Sum.inl (18, 11, 7, 0, 23, [])), (23, Sum.inl (2, 1, 0, 0, 24, [])), (24, Sum.inr (0, 2, 1, 1, 0, 0, 1)), (27, Sum.inl (27, 0, 0, 0, 28, []))]
theorem Z_X11_where (l : Launch) : ∀ q ∈ U_X11_where, zTok l O_X11_where F_X11_where q := zU_ok rfl rfl rfl K_X11_where (E_X11_where l)
def wp_X11_where (a : List zV) (S : zS) (K : zR2 → zS → Prop) : Prop := zif (Nat.ble (zsum a) 3) (zwq 7 F_X11_where U_X11_where O_X11_where [] (fun _ _ _ _ _ _ => False) K 17 U_X11_where 1 6 S 0 (zar 0 a) [])
theorem R_X11_where (l : Launch) (a : List zV) (S : zS) (Q : zR2 → zS → Prop) (h : wp_X11_where a S Q) : zRs l 7 1 6 yX11_where (.code yX11_where cX11_where 3 (some .int)) a S Q := by
  obtain ⟨h1, h⟩ := zif_ok h
  exact zRs_of 11 (by decide) rfl h1 (zwq_ok (Z_X11_where l) rfl [] (fun _ _ _ _ _ _ h => h.elim) 17 (Z_X11_where l) h)
def spD (D : zD) : Prop := 4000 < rowD D (hrD D) (dL D)
def casesA (D : zD) : Nat × Int := if 4000 < rowD D (hrD D) (dL D) then (0, -2) else (0, (toD D (hrD D) : Int))
def inCaseA (D : zD) (x y : Int) : Nat × Int := if 0 ≤ y ∧ y < dL D then (if 4000 < rowD D (hrD D) (dL D) then (1, 0) else if 0 ≤ x ∧ x < (toD D (hrD D) : Int) then (0, (tol (caD D (hrD D) x.toNat y.toNat) : Int)) else (1, 0)) else (1, 0)
def sureA (D : zD) (x : Int) : Nat × Int := if 0 ≤ x ∧ x < 3 then (if 4000 < rowD D (hrD D) (dL D) then (0, -2) else if x = 2 then (0, knD D (hrD D)) else if x = 0 then (0, (msk (seF D (hrD D)) (dR D) : Int)) else (0, (msk (stF D (hrD D)) (dR D) : Int))) else (1, 0)
def whereA (D : zD) (x : Int) : Nat × Int := if 0 ≤ x ∧ x < dL D then (if 4000 < rowD D (hrD D) (dL D) then (0, -2) else if toD D (hrD D) = 0 then (0, 0) else (0, (msk (roF D (hrD D) x.toNat) (dR D) : Int))) else (1, 0)
section
variable {S S' : zS} {D D' E T : zD} {N : Nat} {K : zR2 → zS → Prop} {x y z u w : Int}
theorem cHe (hC : eC S D E T) (hf : ∀ c, c ≠ 37 → c ≠ 38 → S' c = S c) : eC S' D E T ∧ frC S S' :=
  ⟨hC.fr (fun c _ b => hf c (fun z => b (by unfold cScr; omega)) (fun z => b (by unfold cScr; omega))), fun c hc => hf c (by omega) (by omega)⟩
theorem he_pos {t : Nat} (h : 0 < toD D t) : ∀ j, j < dL D → 0 < (heL D t j).length := by
  intro j hj
  unfold toD at h
  cases he : erD D
  · rw [he] at h; exact absurd h (Nat.not_lt_zero 0)
  · rw [he] at h
    have h : 0 < pP (heL D t) (dL D) := h
    have g : ∀ n, 0 < pP (heL D t) n → ∀ j, j < n → 0 < (heL D t j).length := by
      intro n
      induction n with
      | zero => intro _ j hj; omega
      | succ n ih =>
        intro h j hj
        have h : 0 < pP (heL D t) n * (heL D t n).length := h
        by_cases e : j = n
        · rw [e]; exact Nat.pos_of_mul_pos_left h
        · exact ih (Nat.pos_of_mul_pos_right h) j (by omega)
    exact g _ h j hj
theorem c_cases (hC : eC S D E T) (hX : xOK D E T N) (h : cRes S D E T (cr1 (casesA D)) K) : wp_X11_cases [.inr (.inl 0)] S K := by
  unfold casesA at h
  refine ⟨D, ⟨rfl, hX.now, hC.now⟩, fun c S' hf => ?_, fun c S' hk hf => ?_⟩
  · rw [if_pos c] at h
    exact h S' (cHe hC hf).1 (cHe hC hf).2
  · rw [if_neg c] at h
    exact h S' (cHe hC hf).1 (cHe hC hf).2
theorem c_inCase (hC : eC S D E T) (hX : xOK D E T N) (h : cRes S D E T (cr1 (inCaseA D x y)) K) : wp_X11_inCase [.inr (.inl 0), .inl x, .inl y] S K := by
  have e1 := hC.now.lodgers
  unfold inCaseA at h
  refine ⟨rfl, fun c => ?_, fun c => ⟨D, ⟨rfl, hX.now, hC.now⟩, fun c4 S' hf => ⟨fun _ => ?_, fun c9 => by omega⟩, fun c4 S' hk hf => ⟨fun c5 => ?_, fun c5 => ?_⟩⟩⟩
  · rw [if_neg (by omega)] at h
    exact h S hC (frC.r S)
  · rw [if_pos (by omega), if_pos c4] at h
    exact h S' (cHe hC hf).1 (cHe hC hf).2
  · rw [if_pos (by omega), if_neg c4, if_neg c5] at h
    exact h S' (cHe hC hf).1 (cHe hC hf).2
  · rw [if_pos (by omega), if_neg c4, if_pos c5] at h
    refine ⟨D, hrD D, x.toNat, y.toNat, ⟨rfl, hX.now, (cHe hC hf).1.now, hr_lt hX.now, hk, by omega, by omega, by omega, ?_⟩, h S' (cHe hC hf).1 (cHe hC hf).2⟩
    exact he_pos (by omega)
theorem c_sure (hC : eC S D E T) (hX : xOK D E T N) (h : cRes S D E T (cr1 (sureA D x)) K) : wp_X11_sure [.inr (.inl 0), .inl x] S K := by
  unfold sureA at h
  refine ⟨fun c => ?_, fun c => ⟨D, ⟨rfl, hX.now, hC.now⟩, fun c4 S' hf => ⟨fun _ => ?_, fun c9 => absurd rfl c9⟩, fun c4 S' hk hf => ⟨fun c9 => by omega, fun _ => ?_⟩⟩⟩
  · rw [if_neg (by omega)] at h
    exact h S hC (frC.r S)
  · rw [if_pos (by omega), if_pos c4] at h
    exact h S' (cHe hC hf).1 (cHe hC hf).2
  · rw [if_pos (by omega), if_neg c4] at h
    have hE := (cHe hC hf).1
    have hF := (cHe hC hf).2
    refine ⟨fun c5 => ?_, fun c5 => ⟨fun c6 => ?_, fun c6 => ?_⟩⟩
    · rw [if_pos c5] at h
      exact ⟨D, hrD D, ⟨rfl, hX.now, hE.now, hr_lt hX.now, hk⟩, h S' hE hF⟩
    · rw [if_neg c5, if_pos c6] at h
      exact ⟨D, hrD D, ⟨rfl, hX.now, hE.now, hr_lt hX.now, hk⟩, h S' hE hF⟩
    · rw [if_neg c5, if_neg c6] at h
      exact ⟨D, hrD D, ⟨rfl, hX.now, hE.now, hr_lt hX.now, hk⟩, h S' hE hF⟩
theorem c_where (hC : eC S D E T) (hX : xOK D E T N) (h : cRes S D E T (cr1 (whereA D x)) K) : wp_X11_where [.inr (.inl 0), .inl x] S K := by
  have e1 := hC.now.lodgers
  unfold whereA at h
  refine ⟨rfl, fun c => ?_, fun c => ⟨D, ⟨rfl, hX.now, hC.now⟩, fun c4 S' hf => ⟨fun c9 => absurd c9 (by decide), fun _ => ?_⟩, fun c4 S' hk hf => ⟨fun c5 => ?_, fun c5 => ?_⟩⟩⟩
  · rw [if_neg (by omega)] at h
    exact h S hC (frC.r S)
  · rw [if_pos (by omega), if_pos c4] at h
    exact h S' (cHe hC hf).1 (cHe hC hf).2
  · rw [if_pos (by omega), if_neg c4, if_neg (by omega)] at h
    exact ⟨D, hrD D, x.toNat, ⟨rfl, hX.now, (cHe hC hf).1.now, hr_lt hX.now, hk, by omega, by omega⟩, h S' (cHe hC hf).1 (cHe hC hf).2⟩
  · rw [if_pos (by omega), if_neg c4, if_pos (by omega)] at h
    rw [show toD D (hrD D) = 0 by omega]
    exact h S' (cHe hC hf).1 (cHe hC hf).2
end
