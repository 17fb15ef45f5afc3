/-! misled: the model, all doors -/
theorem bt_all {R k : Nat} (h : k < R) : bt1 (2 ^ R - 1) k = 1 := by
  have := Nat.testBit_two_pow_sub_one R k
  rw [tbt, decide_eq_true h] at this
  exact nbeq.mp this
theorem pP_pos {A : Nat → List Nat} : ∀ n, 0 < pP A n ↔ ∀ l, l < n → 0 < (A l).length := by
  intro n
  induction n with
  | zero => exact ⟨fun _ l hl => absurd hl (Nat.not_lt_zero l), fun _ => Nat.zero_lt_one⟩
  | succ n ih =>
    show 0 < pP A n * (A n).length ↔ _
    constructor
    · intro h l hl
      by_cases e : l = n
      · rw [e]; exact Nat.pos_of_mul_pos_left h
      · exact ih.mp (Nat.pos_of_mul_pos_right h) l (by omega)
    · intro h
      exact Nat.mul_pos (ih.mpr (fun l hl => h l (by omega))) (h n (by omega))
theorem pP_lt {A W : Nat → List Nat} (hle : ∀ l, (W l).length ≤ (A l).length) : ∀ n, 0 < pP W n → (pP W n < pP A n ↔ ∃ l, l < n ∧ (W l).length < (A l).length) := by
  have gle : ∀ n, pP W n ≤ pP A n := by
    intro n
    induction n with
    | zero => exact Nat.le_refl 1
    | succ n ih => exact Nat.mul_le_mul ih (hle n)
  intro n
  induction n with
  | zero => intro _; exact ⟨fun h => absurd h (Nat.lt_irrefl 1), fun ⟨l, hl, _⟩ => absurd hl (Nat.not_lt_zero l)⟩
  | succ n ih =>
    intro h
    have h : 0 < pP W n * (W n).length := h
    have p1 := Nat.pos_of_mul_pos_right h
    have p2 := Nat.pos_of_mul_pos_left h
    show pP W n * (W n).length < pP A n * (A n).length ↔ _
    constructor
    · intro hlt
      by_cases c : (W n).length < (A n).length
      · exact ⟨n, by omega, c⟩
      · have e : (W n).length = (A n).length := by have := hle n; omega
        rw [← e] at hlt
        obtain ⟨l, hl, hq⟩ := (ih p1).mp (Nat.lt_of_mul_lt_mul_right hlt)
        exact ⟨l, by omega, hq⟩
    · rintro ⟨l, hl, hq⟩
      by_cases e : l = n
      · subst e
        exact Nat.lt_of_lt_of_le (Nat.mul_lt_mul_of_pos_left hq p1) (Nat.mul_le_mul_right _ (gle l))
      · have := (ih p1).mpr ⟨l, by omega, hq⟩
        exact Nat.lt_of_lt_of_le (Nat.mul_lt_mul_of_pos_right this p2) (Nat.mul_le_mul_left _ (hle n))
theorem any_len {xs : List Nat} {p : Nat → Bool} : xs.any p = true ↔ 0 < (xs.filter p).length := by
  have := any_fil (xs := xs) (p := p)
  constructor
  · intro h
    refine Nat.pos_of_ne_zero (fun z => ?_)
    have := this.mpr (List.eq_nil_of_length_eq_zero z)
    rw [h] at this
    cases this
  · intro h
    cases hq : xs.any p
    · rw [this.mp hq] at h; cases h
    · rfl
theorem cs_door {D : zD} (hD : dOK D) {t r : Nat} (ht : t < 24) {act sg : Nat → Nat} (h1 : ∀ i, i < dL D → sg (dH D i) = act i) (h2 : ∀ q, q < dR D → dW D q = 0 → sg q = 3) : (0 < ((csL D t (2 ^ dR D - 1) sg).filter (smL D r)).length ∧ ((csL D t (2 ^ dR D - 1) sg).filter (smL D r)).length < (csL D t (2 ^ dR D - 1) sg).length) ↔ Cb D t r (rowN act (dL D) 0) = true := by
  have er : erG D (2 ^ dR D - 1) sg (dR D) 0 = true := (erG_iff D _ _ _ _).mpr (fun k _ b _ d => h2 k (by omega) d)
  have eA : ∀ l, l < dL D → hgL D t (2 ^ dR D - 1) sg l = bl (grM D t l (act l)) := fun l hl => by
    have hm := hD.may (24 * l + t) (by omega)
    unfold hgL grM
    rw [bl_gm hm.2]
    have : sGb D (2 ^ dR D - 1) sg l = fun a => Nat.beq (sigD D l a) (act l) := by
      funext a
      unfold sGb
      rw [bt_all (hD.home l hl), h1 l hl]
      rfl
    rw [this]
    rfl
  have ec : csL D t (2 ^ dR D - 1) sg = pL (fun l => bl (grM D t l (act l))) (dL D) 0 := by
    rw [csL_eq hD, er]
    show pL (hgL D t (2 ^ dR D - 1) sg) (dL D) 0 = _
    exact pL_congr _ _ (fun j _ hj => eA j (by omega))
  rw [ec]
  have e := len_fil (pL (fun l => bl (grM D t l (act l))) (dL D) 0) (aP (fun l a => !thr D r l a) 0)
  rw [pL_fil, pL_len, pL_len, lP_pP, lP_pP] at e
  have e3 : (pL (fun l => bl (grM D t l (act l))) (dL D) 0).length = pP (fun l => bl (grM D t l (act l))) (dL D) := by rw [pL_len, lP_pP]
  have e : ((pL (fun l => bl (grM D t l (act l))) (dL D) 0).filter (smL D r)).length + pP (fun l => (bl (grM D t l (act l))).filter (fun a => !thr D r l a)) (dL D) = pP (fun l => bl (grM D t l (act l))) (dL D) := e
  rw [e3]
  have pp := pP_pos (A := fun l => (bl (grM D t l (act l))).filter (fun a => !thr D r l a)) (dL D)
  have pl := pP_lt (A := fun l => bl (grM D t l (act l))) (W := fun l => (bl (grM D t l (act l))).filter (fun a => !thr D r l a)) (fun l => List.length_filter_le _ _) (dL D)
  rw [Cb_iff, rowN_len]
  have aw : ∀ k, k < dL D → (awB D t r k ((rowN act (dL D) 0).getD k 0) = true ↔ 0 < ((bl (grM D t k (act k))).filter (fun a => !thr D r k a)).length) := fun k hk => by
    rw [rowN_get _ _ _ _ hk, Nat.zero_add]
    exact any_len
  have th : ∀ k, k < dL D → (thB D t r k ((rowN act (dL D) 0).getD k 0) = true ↔ ((bl (grM D t k (act k))).filter (fun a => !thr D r k a)).length < (bl (grM D t k (act k))).length) := fun k hk => by
    rw [rowN_get _ _ _ _ hk, Nat.zero_add]
    have := len_fil (bl (grM D t k (act k))) (thr D r k)
    unfold thB
    rw [any_len]
    omega
  constructor
  · rintro ⟨a1, a2⟩
    have p0 : 0 < pP (fun l => (bl (grM D t l (act l))).filter (fun a => !thr D r l a)) (dL D) := by omega
    obtain ⟨k, hk, hq⟩ := (pl p0).mp (by omega)
    exact ⟨fun k hk => (aw k hk).mpr (pp.mp p0 k hk), k, hk, (th k hk).mpr hq⟩
  · rintro ⟨a1, k, hk, hq⟩
    have p0 := pp.mpr (fun l hl => (aw l hl).mp (a1 l hl))
    have := (pl p0).mpr ⟨k, hk, (th k hk).mp hq⟩
    omega
def frK (S S0 : zS) : Prop := ∀ c j, c ≠ 83 → c ≠ 84 → c ≠ 85 → (c ≠ 62 ∨ j ≠ 45) → S c j = S0 c j
theorem mOK.fk {S S0 : zS} {D : zD} (h : mOK S0 D) (hf : frK S S0) : mOK S D :=
  h.fr (fun j h1 _ => hf 62 j (by omega) (by omega) (by omega) (Or.inr (by omega))) (fun c hc => funext fun j => hf c j (by omega) (by omega) (by omega) (Or.inl (by omega)))
def B_X12_misleads : List (Nat × zC) := [(9, (0, 0, 2, 0, 0, 0, 12)), (51, (0, 1, 2, 2, 0, 0, 12)), (101, (0, 2, 3, 4, 0, 0, 12)), (106, (0, 3, 1, 2, 0, 0, 12)), (129, (0, 4, 1, 3, 0, 0, 12))]
def O_X12_misleads : zO := fun j a S K => match j with
  | 0 => wp_X12_copies a S K
  | 1 => wp_X12_another a S K
  | 2 => wp_X12_seeks a S K
  | 3 => wp_X12_with a S K
  | 4 => wp_X12_turnsDoors a S K
  | _ => False
theorem E_X12_misleads (l : Launch) : ∀ q ∈ B_X12_misleads, zcok l O_X12_misleads F_X12_misleads q.1 q.2 := List.forall_mem_cons.mpr ⟨⟨260, yX12_copies, cX12_copies, 4, none, by decide +kernel, C_12_260, W_X12_copies, I_X12_copies, S_X12_copies, rfl, rfl, R_X12_copies l⟩, List.forall_mem_cons.mpr ⟨⟨362, yX12_another, cX12_another, 4, some .int, by decide +kernel, C_12_362, W_X12_another, I_X12_another, S_X12_another, rfl, rfl, R_X12_another l⟩, List.forall_mem_cons.mpr ⟨⟨348, yX12_seeks, cX12_seeks, 6, none, by decide +kernel, C_12_348, W_X12_seeks, I_X12_seeks, S_X12_seeks, rfl, rfl, R_X12_seeks l⟩, List.forall_mem_cons.mpr ⟨⟨359, yX12_with, cX12_with, 4, some .int, by decide +kernel, C_12_359, W_X12_with, I_X12_with, S_X12_with, rfl, rfl, R_X12_with l⟩, List.forall_mem_cons.mpr ⟨⟨365, yX12_turnsDoors, cX12_turnsDoors, 4, some .boolean, by decide +kernel, C_12_365, W_X12_turnsDoors, I_X12_turnsDoors, S_X12_turnsDoors, rfl, rfl, R_X12_turnsDoors l⟩, fun _ h => by cases h⟩⟩⟩⟩⟩
def U_X12_misleads : List (Nat × zE) := [(0, Sum.inl (4, 0, 0, 0, 1, [])), (1, Sum.inl (4, 0, 0, 0, 2, [])), (2, Sum.inl (18, 12, 47, 0, 5, [])), (5, Sum.inl (4, 0, 0, 0, 6, [])), (6, Sum.inl (18, 12, 46, 0, 9, [])), (9, Sum.inr (0, 0, 2, 0, 0, 0, 12)), (12, Sum.inl (0, 0, 0, 0, 13, [])), (13, Sum.inl (5, 4, 0, 0, 15, [])), (15, Sum.inl (2, 4, 0, 0, 17, [])), (17, Sum.inl (4, 0, 0, 0, 18, [])), (18, Sum.inl (18, 12, 2, 0, 21, [])), (21, Sum.inl (16, 1, 24, 0, 79, [])), (24, Sum.inl (2, 3, 0, 0, 25, [])), (25, Sum.inl (2, 4, 0, 0, 27, [])), (27, Sum.inl (9, 7, 0, 0, 28, [])), (28, Sum.inl (0, 0, 0, 1, 29, [])), (29, Sum.inl (9, 3, 0, 0, 30, [])), (30, Sum.inl (17, 0, 33, 0, 36, [])), (33, Sum.inl (15, 0, 0, 0, 73, [])), (36, Sum.inl (4, 0, 0, 0, 37, [])), (37, Sum.inl (18, 12, 46, 0, 40, [])), (40, Sum.inl (4, 0, 0, 0, 41, [])), (41, Sum.inl (18, 12, 7, 0, 44, [])), (44, Sum.inl (2, 4, 0, 0, 46, [])), (46, Sum.inl (20, 0, 0, 0, 47, [])), (47, Sum.inl (4, 0, 0, 0, 48, [])), (48, Sum.inl (2, 4, 0, 0, 50, [])), (50, Sum.inl (0, 0, 0, (-1), 51, [])), (51, Sum.inr (0, 1, 2, 2, 0, 0, 12)), (54, Sum.inl (21, 0, 0, 0, 55, [])), (55, Sum.inl (4, 0, 0, 0, 56, [])), (56, Sum.inl (18, 12, 46, 0, 59, [])), (59, Sum.inl (4, 0, 0, 0, 60, [])), (60, Sum.inl (18, 12, 7, 0, 63, [])), (63, Sum.inl (2, 4, 0, 0, 65, [])), (65, Sum.inl (20, 0, 0, 0, 66, [])), (66, Sum.inl (20, 0, 0, 0, 67, [])), (67, Sum.inl (0, 0, 0, (-1), 68, [])), (68, Sum.inl (16, 0, 71, 0, 73, [])), (71, Sum.inl (0, 0, 0, 0, 72, [])), (72, Sum.inl (27, 0, 0, 0, 73, [])), (73, Sum.inl (8, 4, 0, 1, 76, [])), (76, Sum.inl (15, 0, 0, 0, 15, [])), (79, Sum.inl (0, 0, 0, 1, 80, [])), (80, Sum.inl (5, 4, 0, 0, 82, [])), (82, Sum.inl (2, 4, 0, 0, 84, [])), (84, Sum.inl (17, 0, 137, 0, 87, [])), (87, Sum.inl (4, 0, 0, 0, 88, [])), (88, Sum.inl (2, 2, 0, 0, 89, [])), (89, Sum.inl (0, 0, 0, 1, 90, [])), (90, Sum.inl (4, 0, 0, 0, 91, [])), (91, Sum.inl (18, 12, 1, 0, 94, [])), (94, Sum.inl (9, 6, 0, 0, 95, [])), (95, Sum.inl (0, 0, 0, 1, 96, [])), (96, Sum.inl (9, 1, 0, 0, 97, [])), (97, Sum.inl (4, 0, 0, 0, 98, [])), (98, Sum.inl (18, 12, 46, 0, 101, [])), (101, Sum.inr (0, 2, 3, 4, 0, 0, 12)), (104, Sum.inl (4, 0, 0, 0, 105, [])), (105, Sum.inl (2, 1, 0, 0, 106, [])), (106, Sum.inr (0, 3, 1, 2, 0, 0, 12)), (109, Sum.inl (5, 5, 0, 0, 111, [])), (111, Sum.inl (2, 5, 0, 0, 113, [])), (113, Sum.inl (17, 2, 116, 0, 127, [])), (116, Sum.inl (2, 5, 0, 0, 118, [])), (118, Sum.inl (4, 0, 0, 0, 119, [])), (119, Sum.inl (18, 12, 45, 0, 122, [])), (122, Sum.inl (16, 1, 125, 0, 127, [])), (125, Sum.inl (0, 0, 0, 1, 126, [])), (126, Sum.inl (27, 0, 0, 0, 127, [])), (127, Sum.inl (4, 0, 0, 0, 128, [])), (128, Sum.inl (2, 3, 0, 0, 129, [])), (129, Sum.inr (0, 4, 1, 3, 0, 0, 12)), (132, Sum.inl (5, 4, 0, 0, 134, [])), (134, Sum.inl (15, 0, 0, 0, 82, [])), (137, Sum.inl (0, 0, 0, 0, 138, [])), (138, Sum.inl (27, 0, 0, 0, 139, []))]
theorem Z_X12_misleads (l : Launch) : ∀ q ∈ U_X12_misleads, zTok l O_X12_misleads F_X12_misleads q := zU_ok rfl rfl rfl K_X12_misleads (E_X12_misleads l)
def wp_X12_misleads (a : List zV) (S : zS) (K : zR2 → zS → Prop) : Prop := match a with
  | [.inr (.inl c), .inl x, .inl y, .inl z] => ∃ (D : zD) (t r set : Nat), (c = 62 ∧ dOK D ∧ mOK S D ∧ reM S D t ∧ x = (r : Int) ∧ r < dR D ∧ y = (t : Int) ∧ t < 24 ∧ z = (set : Int) ∧ set < 256 ∧ rowD D t (dL D) ≤ 4000) ∧ ∀ S', frK S' S → K (.inl (some (.inl (bti (mlM D t r set) : Int)))) S'
  | _ => False
section
variable {l : Launch} {S0 : zS} {Q : zR2 → zS → Prop} {D : zD} {t r set : Nat}
theorem L1_X12_misleads (hD : dOK D) (hM : mOK S0 D) (hre : reM S0 D t) (ht : t < 24) (hr : r < dR D) (hs : set < 256) (hrow : rowD D t (dL D) ≤ 4000) (h : ∀ S', frK S' S0 → Q (.inl (some (.inl (bti (mlM D t r set) : Int)))) S') (f : Nat) : ∀ S act, (sL (amD D t set) act (dL D) 0).length = f → doM S D t set act → mlM D t r set = (sL (amD D t set) act (dL D) 0).any (Cb D t r) → frK S S0 → zGs l 5 0 0 F_X12_misleads S 82 [(0, .inr (.inl 62)), (1, .inl (r : Int)), (2, .inl (t : Int)), (3, .inl (set : Int)), (4, .inl 1)] [] Q := by
  have h6 := hD.lodgers
  have h8 := hD.rooms
  induction f with
  | zero =>
    intro S act hl
    obtain ⟨q, hq⟩ := sL_hd (amD D t set) act (dL D) 0
    rw [hq] at hl
    cases hl
  | succ f ih =>
    intro S act hl hac heq hf
    obtain ⟨q, hq⟩ := sL_hd (amD D t set) act (dL D) 0
    have hMS := hM.fk hf
    have eR := hMS.rooms
    have hp : 2 ^ dR D ≤ 2 ^ 8 := Nat.pow_le_pow_right (by decide) h8
    have hp1 := Nat.two_pow_pos (dR D)
    have e1 : zshl 1 (S 62 1) = ((2 ^ dR D : Nat) : Int) := by rw [eR]; exact zsh1_n (by omega)
    obtain ⟨sg, hsd⟩ : ∃ sg : Nat → Nat, ∀ k, sg k = if dW D k = 0 then 3 else act (dW D k - 1) := ⟨fun k => if dW D k = 0 then 3 else act (dW D k - 1), fun _ => rfl⟩
    have sg1 : ∀ k, k < dR D → S 85 k = (sg k : Int) := fun k hk => by
      rw [hsd]
      by_cases c : dW D k = 0
      · rw [if_pos c]; exact hac.2 k hk c
      · rw [if_neg c]
        have hW := hD.whose k hk
        have := (hac.1 (dW D k - 1) (by omega)).1
        rw [hD.livesIn k hk c] at this
        exact this
    have cd := cs_door hD (r := r) ht (act := act) (sg := sg) (fun i hi => by
      have hw := hD.whoseHome i hi
      rw [hsd, if_neg (by omega), hw, Nat.add_sub_cancel]) (fun k _ hw => by
      rw [hsd, if_pos hw])
    have hro := rwO_cs (D := D) (t := t) (set := 2 ^ dR D - 1) (sg := sg) hrow
    have hlq : q.length = f := by
      rw [hq] at hl
      exact Nat.succ.inj hl
    rw [hq] at heq
    have heq : mlM D t r set = (Cb D t r (rowN act (dL D) 0) || q.any (Cb D t r)) := heq
    refine zwq_ok (Z_X12_misleads l) rfl [82, 127] (fun _ _ _ _ _ _ h => h) 400 (Z_X12_misleads l) ?_
    refine ⟨fun c9 => absurd c9 (by decide), fun _ => ⟨by rw [e1]; omega, D, t, 2 ^ dR D - 1, sg, ⟨rfl, Or.inr rfl, hD, hMS, rfl, ht, by rw [e1]; omega, by omega, sg1, hrow⟩, fun S1 c1 f1 => ?_⟩⟩
    have hf1 : frK S1 S0 := fun c j a1 a2 a3 a4 => (f1 c j a1 a2 a4).trans (hf c j a1 a2 a3 a4)
    have hM1 := hM.fk hf1
    have hre1 : reM S1 D t := fun k hk => by rw [hf1 86 k (by omega) (by omega) (by omega) (Or.inl (by omega))]; exact hre k hk
    have hac1 : doM S1 D t set act := ⟨fun i hi => by rw [f1 85 _ (by omega) (by omega) (Or.inl (by omega))]; exact hac.1 i hi, fun k hk hw => by rw [f1 85 _ (by omega) (by omega) (Or.inl (by omega))]; exact hac.2 k hk hw⟩
    have eC := c1.1
    have go : Cb D t r (rowN act (dL D) 0) = false → ∀ n : Int, zGs l 5 0 0 F_X12_misleads S1 127 [(0, .inr (.inl 62)), (1, .inl (r : Int)), (2, .inl (t : Int)), (3, .inl (set : Int)), (4, .inl 1), (5, .inl n)] [] Q := fun hcb n => by
      rw [hcb, Bool.false_or] at heq
      refine zwq_ok (Z_X12_misleads l) rfl [82] (fun _ _ _ _ _ _ h => h) 400 (Z_X12_misleads l) ?_
      refine ⟨D, t, set, act, ⟨rfl, hD, hM1, hre1, rfl, hs, hac1⟩, fun S2 act2 d1 d2 d3 => ?_, fun S2 d2 d3 => ?_⟩
      · rw [hq] at d3
        have d3 : sL (amD D t set) act2 (dL D) 0 = q := d3
        have := ih S2 act2 (by rw [d3]; exact hlq) d1 (by rw [d3]; exact heq) (fun c j a1 a2 a3 a4 => by rw [d2 c a3]; exact hf1 c j a1 a2 a3 a4)
        exact zGs.sub (lo := [(0, _), (1, _), (2, _), (3, _), (4, _), (5, _)]) this (fun q hq => by simp only [List.mem_cons, List.not_mem_nil, or_false] at hq; rcases hq with rfl | rfl | rfl | rfl | rfl <;> first | exact .head _ | exact .tail _ (.head _) | exact .tail _ (.tail _ (.head _)) | exact .tail _ (.tail _ (.tail _ (.head _))) | exact .tail _ (.tail _ (.tail _ (.tail _ (.head _)))) | exact .tail _ (.tail _ (.tail _ (.tail _ (.tail _ (.head _))))) | exact .tail _ (.tail _ (.tail _ (.tail _ (.tail _ (.tail _ (.head _)))))) | exact .tail _ (.tail _ (.tail _ (.tail _ (.tail _ (.tail _ (.tail _ (.head _))))))) | exact .tail _ (.tail _ (.tail _ (.tail _ (.tail _ (.tail _ (.tail _ (.tail _ (.head _)))))))) | exact .tail _ (.tail _ (.tail _ (.tail _ (.tail _ (.tail _ (.tail _ (.tail _ (.tail _ (.head _))))))))) | exact .tail _ (.tail _ (.tail _ (.tail _ (.tail _ (.tail _ (.tail _ (.tail _ (.tail _ (.tail _ (.head _)))))))))) | exact .tail _ (.tail _ (.tail _ (.tail _ (.tail _ (.tail _ (.tail _ (.tail _ (.tail _ (.tail _ (.tail _ (.head _))))))))))) | exact .tail _ (.tail _ (.tail _ (.tail _ (.tail _ (.tail _ (.tail _ (.tail _ (.tail _ (.tail _ (.tail _ (.tail _ (.head _)))))))))))) | exact .tail _ (.tail _ (.tail _ (.tail _ (.tail _ (.tail _ (.tail _ (.tail _ (.tail _ (.tail _ (.tail _ (.tail _ (.tail _ (.head _))))))))))))))
      · rw [hq] at d3
        have d3 : q = [] := d3
        rw [d3] at heq
        have hfin := h S2 (fun c j a1 a2 a3 a4 => by rw [d2 c a3]; exact hf1 c j a1 a2 a3 a4)
        rw [heq] at hfin
        refine zwq_ok (Z_X12_misleads l) rfl [82] (fun _ _ _ _ _ _ h => h) 400 (Z_X12_misleads l) ?_
        exact ⟨fun _ => ⟨Or.inl rfl, hfin⟩, fun c9 => absurd rfl c9⟩
    refine ⟨D, _, r, ⟨rfl, hD, hM1, c1, hro, rfl⟩, ?_⟩
    refine ⟨fun c => ⟨fun c2 => ⟨Or.inr rfl, ?_⟩, fun c2 => ?_⟩, fun c => ?_⟩
    · have hcb := cd.mp ⟨by omega, by omega⟩
      have := h S1 hf1
      rw [heq, hcb] at this
      exact this
    · refine go ?_ _
      cases hb : Cb D t r (rowN act (dL D) 0)
      · rfl
      · have := cd.mpr hb; omega
    · refine go ?_ _
      cases hb : Cb D t r (rowN act (dL D) 0)
      · rfl
      · have := cd.mpr hb; omega
theorem mlM_no {i : Nat} (hi : i < dL D) (h : bl (amD D t set i) = []) : mlM D t r set = false := by
  unfold mlM
  rw [List.any_eq_false]
  intro row hr
  have := ((pL_mem _ _ _ _).mp hr).2 i hi
  rw [Nat.zero_add, h] at this
  cases this
theorem L0_X12_misleads (hD : dOK D) (hM : mOK S0 D) (hre : reM S0 D t) (ht : t < 24) (hr : r < dR D) (hs : set < 256) (hrow : rowD D t (dL D) ≤ 4000) (h : ∀ S', frK S' S0 → Q (.inl (some (.inl (bti (mlM D t r set) : Int)))) S') (f : Nat) : ∀ j S, j + f = dL D → (∀ i, i < dL D → S 85 (dH D i) = ((if i < j then (bl (amD D t set i)).getD 0 0 else sgL D t i : Nat) : Int)) → (∀ i, i < j → bl (amD D t set i) ≠ []) → (∀ q, q < dR D → dW D q = 0 → S 85 q = 3) → frK S S0 → zGs l 5 0 0 F_X12_misleads S 15 [(0, .inr (.inl 62)), (1, .inl (r : Int)), (2, .inl (t : Int)), (3, .inl (set : Int)), (4, .inl (j : Int))] [] Q := by
  have h6 := hD.lodgers
  have h8 := hD.rooms
  induction f with
  | zero =>
    intro j S hj a1 a2 a3 hf
    have : j = dL D := by omega
    subst this
    have eL := (hM.fk hf).lodgers
    have hg : ∀ i, i < dL D → (bl (amD D t set i))[0]? = some ((bl (amD D t set i)).getD 0 0) := fun i hi => lget (by
      have := a2 i hi
      cases hq : bl (amD D t set i) with
      | nil => exact absurd hq this
      | cons v rr => exact Nat.succ_pos _)
    have hall := sL_all (M := amD D t set) (act := fun i => (bl (amD D t set i)).getD 0 0) (dL D) 0 (fun i _ hi => hg i (by omega))
    have go := L1_X12_misleads (l := l) hD hM hre ht hr hs hrow h _ S (fun i => (bl (amD D t set i)).getD 0 0) rfl ⟨fun i hi => ⟨by rw [a1 i hi, if_pos hi], List.mem_of_getElem? (hg i hi)⟩, a3⟩ (by rw [hall]; rfl) hf
    refine zwq_ok (Z_X12_misleads l) rfl [15, 82] (fun _ _ _ _ _ _ h => h) 400 (Z_X12_misleads l) ?_
    refine ⟨fun c => by omega, fun c => ?_⟩
    exact go
  | succ f ih =>
    intro j S hj a1 a2 a3 hf
    have hMS := hM.fk hf
    have eL := hMS.lodgers
    have hreS : reM S D t := fun k hk => by rw [hf 86 k (by omega) (by omega) (by omega) (Or.inl (by omega))]; exact hre k hk
    have eh := hMS.home j (by omega)
    have hh := hD.home j (by omega)
    have e := zbit_n (a := set) (j := j) (by omega) (by omega)
    have hb2 := bt1_lt set j
    by_cases hset : bt1 set j = 1
    · have eam := am_1 (D := D) (t := t) hset
      have hhd : hdI (blS (alM D t j) (18 - 0) 0) = hdI (bl (alM D t j)) := rfl
      cases hq : bl (alM D t j) with
      | nil =>
        have hv : hdI (blS (alM D t j) (18 - 0) 0) = -1 := by rw [hhd, hq]; rfl
        have hfin := h (zu S 85 (dH D j) (-1)) (fun c i b1 b2 b3 b4 => (zuN (Or.inl b3)).trans (hf c i b1 b2 b3 b4))
        rw [mlM_no (i := j) (by omega) (by rw [eam]; exact hq)] at hfin
        refine zwq_ok (Z_X12_misleads l) rfl [15, 82] (fun _ _ _ _ _ _ h => h) 400 (Z_X12_misleads l) ?_
        refine ⟨fun c => ⟨fun c2 => ?_, fun c2 => ⟨j, ⟨rfl, by omega⟩, D, t, j, 0, ⟨rfl, hD, hMS, hreS, rfl, by omega, by omega, by omega⟩, dH D j, ⟨eh, by omega⟩, j, ⟨rfl, by omega⟩, dH D j, ⟨eh, by omega⟩, fun c3 => ⟨Or.inl rfl, ?_⟩, fun c3 => ?_⟩⟩, fun c => by omega⟩
        · rw [e] at c2; omega
        · rw [hv]; exact hfin
        · exact absurd (zuE.trans hv) c3
      | cons v rr =>
        have hv : hdI (blS (alM D t j) (18 - 0) 0) = (v : Int) := by rw [hhd, hq]; rfl
        have this := ih (j + 1) (zu S 85 (dH D j) (v : Int)) (by omega) (fun i hi => by
          by_cases ei : i = j
          · subst ei
            rw [zuE, if_pos (by omega), eam, hq]
            rfl
          · rw [zuN (Or.inr (home_ne hD hi (by omega) ei)), a1 i hi]
            by_cases ej : i < j
            · rw [if_pos ej, if_pos (by omega)]
            · rw [if_neg ej, if_neg (by omega)]) (fun i hi => by
          by_cases ei : i = j
          · subst ei; rw [eam, hq]; exact List.cons_ne_nil _ _
          · exact a2 i (by omega)) (fun q hq2 hw => by
          rw [zuN (Or.inr (fun z => by have := hD.whoseHome j (by omega); rw [← z] at this; omega))]
          exact a3 q hq2 hw) (fun c i b1 b2 b3 b4 => (zuN (Or.inl b3)).trans (hf c i b1 b2 b3 b4))
        refine zwq_ok (Z_X12_misleads l) rfl [15, 82] (fun _ _ _ _ _ _ h => h) 400 (Z_X12_misleads l) ?_
        refine ⟨fun c => ⟨fun c2 => ?_, fun c2 => ⟨j, ⟨rfl, by omega⟩, D, t, j, 0, ⟨rfl, hD, hMS, hreS, rfl, by omega, by omega, by omega⟩, dH D j, ⟨eh, by omega⟩, j, ⟨rfl, by omega⟩, dH D j, ⟨eh, by omega⟩, fun c3 => ?_, fun c3 => ⟨by omega, ?_⟩⟩⟩, fun c => by omega⟩
        · rw [e] at c2; omega
        · have := (zuE (S := S) (c := 85) (k := dH D j) (v := hdI (blS (alM D t j) (18 - 0) 0))).symm.trans c3
          rw [hv] at this
          omega
        · rw [hv]; exact this
    · have h0s : bt1 set j = 0 := by omega
      have eam := am_0 (D := D) (t := t) h0s
      obtain ⟨b1, b2⟩ := bl_p2 (sgL_lt D t j)
      have this := ih (j + 1) S (by omega) (fun i hi => by
        rw [a1 i hi]
        by_cases ei : i = j
        · subst ei
          rw [if_neg (by omega), if_pos (by omega), eam, b1]
          rfl
        · by_cases ej : i < j
          · rw [if_pos ej, if_pos (by omega)]
          · rw [if_neg ej, if_neg (by omega)]) (fun i hi => by
        by_cases ei : i = j
        · subst ei; rw [eam, b1]; exact List.cons_ne_nil _ _
        · exact a2 i (by omega)) a3 hf
      refine zwq_ok (Z_X12_misleads l) rfl [15, 82] (fun _ _ _ _ _ _ h => h) 400 (Z_X12_misleads l) ?_
      refine ⟨fun c => ⟨fun c2 => ⟨by omega, ?_⟩, fun c2 => ?_⟩, fun c => by omega⟩
      · exact this
      · rw [e] at c2; omega
end
theorem R_X12_misleads (l : Launch) (a : List zV) (S : zS) (Q : zR2 → zS → Prop) (h : wp_X12_misleads a S Q) : zRs l 5 0 0 yX12_misleads (.code yX12_misleads cX12_misleads 6 (some .boolean)) a S Q := by
  unfold wp_X12_misleads at h
  split at h
  · obtain ⟨D, t, r, set, ⟨rfl, hD, hM, hre, rfl, hr, rfl, ht, rfl, hs, hrow⟩, h⟩ := h
    have h8 := hD.rooms
    refine zRs_of 12 (by decide) rfl rfl ?_; refine zwq_ok (Z_X12_misleads l) rfl [15] (fun _ _ _ _ _ _ h => h) 400 (Z_X12_misleads l) ?_
    exact L0_X12_misleads (S0 := S) hD hM hre ht hr hs hrow h (dL D) 0 _ (by omega) (fun i hi => by
      have hh := hD.home i hi
      rw [if_neg (by omega)]
      exact (zcp_at (by omega)).trans ((hre _ hh).trans (by rw [sga_h hD hi]))) (fun i hi => absurd hi (Nat.not_lt_zero i)) (fun q hq hw => (zcp_at (by omega)).trans ((hre q hq).trans (by unfold sgaD; rw [if_pos hw]; rfl))) (fun c j a1 a2 a3 a4 => zcp_n a3)
  · exact h.elim
def B_X12_misled : List (Nat × zC) := [(7, (0, 0, 1, 1, 0, 0, 12)), (15, (0, 1, 1, 1, 0, 0, 12)), (23, (0, 2, 1, 1, 0, 0, 12)), (33, (0, 3, 1, 1, 0, 0, 12)), (64, (0, 4, 2, 3, 0, 0, 12)), (99, (1, 5, 1, 0, 0, 0, 0)), (104, (1, 5, 1, 0, 0, 0, 0)), (115, (0, 6, 3, 5, 0, 0, 12)), (149, (1, 5, 1, 0, 0, 0, 0))]
def O_X12_misled : zO := fun j a S K => match j with
  | 0 => wp_X12_isRoom a S K
  | 1 => wp_X12_isHour a S K
  | 2 => wp_X12_isTwo a S K
  | 3 => wp_X12_isSpent a S K
  | 4 => wp_X12_signAt a S K
  | 5 => wp_X12_bits a S K
  | 6 => wp_X12_misleads a S K
  | _ => False
theorem E_X12_misled (l : Launch) : ∀ q ∈ B_X12_misled, zcok l O_X12_misled F_X12_misled q.1 q.2 := List.forall_mem_cons.mpr ⟨⟨287, yX12_isRoom, cX12_isRoom, 2, some .boolean, by decide +kernel, C_12_287, W_X12_isRoom, I_X12_isRoom, S_X12_isRoom, rfl, rfl, R_X12_isRoom l⟩, List.forall_mem_cons.mpr ⟨⟨305, yX12_isHour, cX12_isHour, 2, some .boolean, by decide +kernel, C_12_305, W_X12_isHour, I_X12_isHour, S_X12_isHour, rfl, rfl, R_X12_isHour l⟩, List.forall_mem_cons.mpr ⟨⟨290, yX12_isTwo, cX12_isTwo, 2, some .boolean, by decide +kernel, C_12_290, W_X12_isTwo, I_X12_isTwo, S_X12_isTwo, rfl, rfl, R_X12_isTwo l⟩, List.forall_mem_cons.mpr ⟨⟨345, yX12_isSpent, cX12_isSpent, 4, some .boolean, by decide +kernel, C_12_345, W_X12_isSpent, I_X12_isSpent, S_X12_isSpent, rfl, rfl, R_X12_isSpent l⟩, List.forall_mem_cons.mpr ⟨⟨321, yX12_signAt, cX12_signAt, 3, some .int, by decide +kernel, C_12_321, W_X12_signAt, I_X12_signAt, S_X12_signAt, rfl, rfl, R_X12_signAt l⟩, List.forall_mem_cons.mpr ⟨⟨308, yX12_bits, cX12_bits, 3, some .int, by decide +kernel, C_12_308, W_X12_bits, I_X12_bits, rfl, R_X12_bits l⟩, List.forall_mem_cons.mpr ⟨⟨308, yX12_bits, cX12_bits, 3, some .int, by decide +kernel, C_12_308, W_X12_bits, I_X12_bits, rfl, R_X12_bits l⟩, List.forall_mem_cons.mpr ⟨⟨368, yX12_misleads, cX12_misleads, 6, some .boolean, by decide +kernel, C_12_368, W_X12_misleads, I_X12_misleads, S_X12_misleads, rfl, rfl, R_X12_misleads l⟩, List.forall_mem_cons.mpr ⟨⟨308, yX12_bits, cX12_bits, 3, some .int, by decide +kernel, C_12_308, W_X12_bits, I_X12_bits, rfl, R_X12_bits l⟩, fun _ h => by cases h⟩⟩⟩⟩⟩⟩⟩⟩⟩
def U_X12_misled : List (Nat × zE) := [(0, Sum.inl (4, 0, 0, 0, 1, [])), (1, Sum.inl (0, 0, 0, 0, 2, [])), (2, Sum.inl (19, 12, 0, 0, 5, [])), (5, Sum.inl (4, 0, 0, 0, 6, [])), (6, Sum.inl (2, 1, 0, 0, 7, [])), (7, Sum.inr (0, 0, 1, 1, 0, 0, 12)), (10, Sum.inl (17, 0, 29, 0, 13, [])), (13, Sum.inl (4, 0, 0, 0, 14, [])), (14, Sum.inl (2, 2, 0, 0, 15, [])), (15, Sum.inr (0, 1, 1, 1, 0, 0, 12)), (18, Sum.inl (17, 0, 29, 0, 21, [])), (21, Sum.inl (4, 0, 0, 0, 22, [])), (22, Sum.inl (2, 3, 0, 0, 23, [])), (23, Sum.inr (0, 2, 1, 1, 0, 0, 12)), (26, Sum.inl (17, 0, 29, 0, 31, [])), (29, Sum.inl (0, 0, 0, 0, 30, [])), (30, Sum.inl (27, 0, 0, 0, 31, [])), (31, Sum.inl (4, 0, 0, 0, 32, [])), (32, Sum.inl (2, 2, 0, 0, 33, [])), (33, Sum.inr (0, 3, 1, 1, 0, 0, 12)), (36, Sum.inl (17, 0, 42, 0, 39, [])), (39, Sum.inl (0, 0, 0, (-2), 41, [])), (41, Sum.inl (27, 0, 0, 0, 42, [])), (42, Sum.inl (0, 0, 0, 0, 43, [])), (43, Sum.inl (5, 4, 0, 0, 45, [])), (45, Sum.inl (2, 4, 0, 0, 47, [])), (47, Sum.inl (4, 0, 0, 0, 48, [])), (48, Sum.inl (18, 12, 1, 0, 51, [])), (51, Sum.inl (16, 1, 54, 0, 74, [])), (54, Sum.inl (4, 0, 0, 0, 55, [])), (55, Sum.inl (18, 12, 47, 0, 58, [])), (58, Sum.inl (2, 4, 0, 0, 60, [])), (60, Sum.inl (4, 0, 0, 0, 61, [])), (61, Sum.inl (2, 4, 0, 0, 63, [])), (63, Sum.inl (2, 2, 0, 0, 64, [])), (64, Sum.inr (0, 4, 2, 3, 0, 0, 12)), (67, Sum.inl (21, 0, 0, 0, 68, [])), (68, Sum.inl (8, 4, 0, 1, 71, [])), (71, Sum.inl (15, 0, 0, 0, 45, [])), (74, Sum.inl (0, 0, 0, (-1), 75, [])), (75, Sum.inl (5, 4, 0, 0, 77, [])), (77, Sum.inl (0, 0, 0, 0, 78, [])), (78, Sum.inl (5, 5, 0, 0, 80, [])), (80, Sum.inl (2, 5, 0, 0, 82, [])), (82, Sum.inl (0, 0, 0, 1, 83, [])), (83, Sum.inl (4, 0, 0, 0, 84, [])), (84, Sum.inl (18, 12, 2, 0, 87, [])), (87, Sum.inl (9, 6, 0, 0, 88, [])), (88, Sum.inl (16, 1, 91, 0, 131, [])), (91, Sum.inl (2, 4, 0, 0, 93, [])), (93, Sum.inl (0, 0, 0, (-1), 94, [])), (94, Sum.inl (16, 0, 110, 0, 97, [])), (97, Sum.inl (2, 5, 0, 0, 99, [])), (99, Sum.inr (1, 5, 1, 0, 0, 0, 0)), (102, Sum.inl (2, 4, 0, 0, 104, [])), (104, Sum.inr (1, 5, 1, 0, 0, 0, 0)), (107, Sum.inl (16, 1, 110, 0, 125, [])), (110, Sum.inl (4, 0, 0, 0, 111, [])), (111, Sum.inl (2, 1, 0, 0, 112, [])), (112, Sum.inl (2, 2, 0, 0, 113, [])), (113, Sum.inl (2, 5, 0, 0, 115, [])), (115, Sum.inr (0, 6, 3, 5, 0, 0, 12)), (118, Sum.inl (17, 0, 125, 0, 121, [])), (121, Sum.inl (2, 5, 0, 0, 123, [])), (123, Sum.inl (5, 4, 0, 0, 125, [])), (125, Sum.inl (8, 5, 0, 1, 128, [])), (128, Sum.inl (15, 0, 0, 0, 80, [])), (131, Sum.inl (2, 4, 0, 0, 133, [])), (133, Sum.inl (0, 0, 0, (-1), 134, [])), (134, Sum.inl (16, 0, 142, 0, 137, [])), (137, Sum.inl (2, 3, 0, 0, 138, [])), (138, Sum.inl (0, 0, 0, 1, 139, [])), (139, Sum.inl (16, 0, 142, 0, 147, [])), (142, Sum.inl (2, 4, 0, 0, 144, [])), (144, Sum.inl (15, 0, 0, 0, 152, [])), (147, Sum.inl (2, 4, 0, 0, 149, [])), (149, Sum.inr (1, 5, 1, 0, 0, 0, 0)), (152, Sum.inl (27, 0, 0, 0, 153, []))]
theorem Z_X12_misled (l : Launch) : ∀ q ∈ U_X12_misled, zTok l O_X12_misled F_X12_misled q := zU_ok rfl rfl rfl K_X12_misled (E_X12_misled l)
def wp_X12_misled (a : List zV) (S : zS) (K : zR2 → zS → Prop) : Prop := match a with
  | [.inr (.inl c), .inl x, .inl y, .inl z] => ∃ (D E T : zD) (N : Nat), (c = 62 ∧ eM S D E T ∧ xOK D E T N) ∧ mRes S D E T (misledA D x y z) K
  | _ => False
theorem flS_congr {ml ml' : Nat → Bool} (h : ∀ s, ml s = ml' s) : ∀ (f s : Nat) (b : Int), flS ml f s b = flS ml' f s b := by
  have : ml = ml' := funext h
  subst this
  intros
  rfl
def frL (S S0 : zS) : Prop := ∀ c j, c ≠ 83 → c ≠ 84 → c ≠ 85 → c ≠ 86 → (c ≠ 62 ∨ j ≠ 45) → S c j = S0 c j
theorem mOK.fl {S S0 : zS} {D : zD} (h : mOK S0 D) (hf : frL S S0) : mOK S D :=
  h.fr (fun j h1 _ => hf 62 j (by omega) (by omega) (by omega) (by omega) (Or.inr (by omega))) (fun c hc => funext fun j => hf c j (by omega) (by omega) (by omega) (by omega) (Or.inl (by omega)))
section
variable {l : Launch} {S0 : zS} {Q : zR2 → zS → Prop} {D : zD} {t r : Nat} {z : Int}
theorem L1_X12_misled (hD : dOK D) (hM : mOK S0 D) (ht : t < 24) (hr : r < dR D) (hz : 0 ≤ z ∧ z < 2) (hrow : rowD D t (dL D) ≤ 4000) {fin : Int} (hfin : fin = -1 ∨ (0 ≤ fin ∧ fin < 64)) (h : ∀ S', frL S' S0 → Q (.inl (some (.inl (if fin = -1 ∨ z = 1 then fin else ((bl fin.toNat).length : Int))))) S') (f : Nat) : ∀ (s : Nat) (b : Int) (S : zS), s + f = 2 ^ dL D → (b = -1 ∨ (0 ≤ b ∧ b < 64)) → reM S D t → frL S S0 → flS (mlM D t r) f s b = fin → zGs l 6 0 0 F_X12_misled S 80 [(0, .inr (.inl 62)), (1, .inl (r : Int)), (2, .inl (t : Int)), (3, .inl z), (4, .inl b), (5, .inl (s : Int))] [] Q := by
  have h6 := hD.lodgers
  have h64 := two_L hD
  induction f with
  | zero =>
    intro s b S hs hb hre hf he
    have he : b = fin := he
    subst he
    have eL := (hM.fl hf).lodgers
    have e1 : zshl 1 (S 62 2) = ((2 ^ dL D : Nat) : Int) := by rw [eL]; exact zsh1_n (by omega)
    have h := h S hf
    refine zwq_ok (Z_X12_misled l) rfl [80] (fun _ _ _ _ _ _ h => h) 400 (Z_X12_misled l) ?_
    refine ⟨fun c => ?_, fun c => ⟨fun c2 => ?_, fun c2 => ⟨fun c3 => ?_, fun c3 => ⟨b.toNat, ⟨by omega, by omega⟩, ?_⟩⟩⟩⟩
    · rw [e1] at c; omega
    · rw [if_pos (Or.inl c2)] at h; exact h
    · rw [if_pos (Or.inr c3)] at h; exact h
    · rw [if_neg (fun q => q.elim c2 c3)] at h; exact h
  | succ f ih =>
    intro s b S hs hb hre hf he
    have hMS := hM.fl hf
    have eL := hMS.lodgers
    have e1 : zshl 1 (S 62 2) = ((2 ^ dL D : Nat) : Int) := by rw [eL]; exact zsh1_n (by omega)
    have he : (if (b = -1 ∨ (bl s).length < (bl b.toNat).length) ∧ mlM D t r s = true then flS (mlM D t r) f (s + 1) (s : Int) else flS (mlM D t r) f (s + 1) b) = fin := he
    have try1 : (b = -1 ∨ (bl s).length < (bl b.toNat).length) → zGs l 6 0 0 F_X12_misled S 110 [(0, .inr (.inl 62)), (1, .inl (r : Int)), (2, .inl (t : Int)), (3, .inl z), (4, .inl b), (5, .inl (s : Int))] [] Q := fun c => by
      refine zwq_ok (Z_X12_misled l) rfl [80] (fun _ _ _ _ _ _ h => h) 400 (Z_X12_misled l) ?_
      refine ⟨D, t, r, s, ⟨rfl, hD, hMS, hre, rfl, hr, rfl, ht, rfl, by omega, hrow⟩, fun S1 f1 => ?_⟩
      have hf1 : frL S1 S0 := fun c j a1 a2 a3 a4 a5 => (f1 c j a1 a2 a3 a5).trans (hf c j a1 a2 a3 a4 a5)
      have hre1 : reM S1 D t := fun k hk => by rw [f1 86 k (by omega) (by omega) (by omega) (Or.inl (by omega))]; exact hre k hk
      refine ⟨fun c2 => ⟨by omega, ?_⟩, fun c2 => ⟨by omega, ?_⟩⟩
      · have hm : mlM D t r s = false := by
          cases hq : mlM D t r s
          · rfl
          · rw [hq] at c2; exact absurd c2 (by decide)
        rw [if_neg (fun q => by rw [hm] at q; exact absurd q.2 (by decide))] at he
        exact ih (s + 1) b S1 (by omega) hb hre1 hf1 he
      · have hm : mlM D t r s = true := by
          cases hq : mlM D t r s
          · rw [hq] at c2; exact absurd rfl c2
          · rfl
        rw [if_pos ⟨c, hm⟩] at he
        exact ih (s + 1) (s : Int) S1 (by omega) (by omega) hre1 hf1 he
    refine zwq_ok (Z_X12_misled l) rfl [80, 110] (fun _ _ _ _ _ _ h => h) 400 (Z_X12_misled l) ?_
    refine ⟨fun c => ⟨fun c2 => try1 (Or.inl c2), fun c2 => ⟨s, ⟨rfl, by omega⟩, b.toNat, ⟨by omega, by omega⟩, fun c3 => try1 (Or.inr (by omega)), fun c3 => ⟨by omega, ?_⟩⟩⟩, fun c => ?_⟩
    · rw [if_neg (fun q => q.1.elim c2 (fun q => by omega))] at he
      exact ih (s + 1) b S (by omega) hb hre hf he
    · rw [e1] at c; omega
theorem L0_X12_misled (hD : dOK D) (hM : mOK S0 D) (ht : t < 24) (h : ∀ S, reM S D t → frL S S0 → zGs l 6 0 0 F_X12_misled S 74 [(0, .inr (.inl 62)), (1, .inl (r : Int)), (2, .inl (t : Int)), (3, .inl z)] [] Q) (f : Nat) : ∀ k S, k + f = dR D → (∀ i, i < k → S 86 i = (sgaD D i t : Int)) → frL S S0 → zGs l 6 0 0 F_X12_misled S 45 [(0, .inr (.inl 62)), (1, .inl (r : Int)), (2, .inl (t : Int)), (3, .inl z), (4, .inl (k : Int))] [] Q := by
  have h8 := hD.rooms
  induction f with
  | zero =>
    intro k S hk hw hf
    have : k = dR D := by omega
    subst this
    have eR := (hM.fl hf).rooms
    refine zwq_ok (Z_X12_misled l) rfl [45, 74] (fun _ _ _ _ _ _ h => h) 400 (Z_X12_misled l) ?_
    refine ⟨fun c => by omega, fun c => ?_⟩
    exact zGs.sub (lo := [(0, _), (1, _), (2, _), (3, _), (4, _)]) (h S hw hf) (fun q hq => by simp only [List.mem_cons, List.not_mem_nil, or_false] at hq; rcases hq with rfl | rfl | rfl | rfl <;> first | exact .head _ | exact .tail _ (.head _) | exact .tail _ (.tail _ (.head _)) | exact .tail _ (.tail _ (.tail _ (.head _))) | exact .tail _ (.tail _ (.tail _ (.tail _ (.head _)))) | exact .tail _ (.tail _ (.tail _ (.tail _ (.tail _ (.head _))))) | exact .tail _ (.tail _ (.tail _ (.tail _ (.tail _ (.tail _ (.head _)))))) | exact .tail _ (.tail _ (.tail _ (.tail _ (.tail _ (.tail _ (.tail _ (.head _))))))) | exact .tail _ (.tail _ (.tail _ (.tail _ (.tail _ (.tail _ (.tail _ (.tail _ (.head _)))))))) | exact .tail _ (.tail _ (.tail _ (.tail _ (.tail _ (.tail _ (.tail _ (.tail _ (.tail _ (.head _))))))))) | exact .tail _ (.tail _ (.tail _ (.tail _ (.tail _ (.tail _ (.tail _ (.tail _ (.tail _ (.tail _ (.head _)))))))))) | exact .tail _ (.tail _ (.tail _ (.tail _ (.tail _ (.tail _ (.tail _ (.tail _ (.tail _ (.tail _ (.tail _ (.head _))))))))))) | exact .tail _ (.tail _ (.tail _ (.tail _ (.tail _ (.tail _ (.tail _ (.tail _ (.tail _ (.tail _ (.tail _ (.tail _ (.head _)))))))))))) | exact .tail _ (.tail _ (.tail _ (.tail _ (.tail _ (.tail _ (.tail _ (.tail _ (.tail _ (.tail _ (.tail _ (.tail _ (.tail _ (.head _))))))))))))))
  | succ f ih =>
    intro k S hk hw hf
    have hMS := hM.fl hf
    have eR := hMS.rooms
    have this := ih (k + 1) (zu S 86 k (sgaD D k t : Int)) (by omega) (fun i hi => by
      rw [zu_if]
      by_cases e : i = k
      · rw [if_pos e, e]
      · rw [if_neg e]; exact hw i (by omega)) (fun c j a1 a2 a3 a4 a5 => (zuN (Or.inl a4)).trans (hf c j a1 a2 a3 a4 a5))
    refine zwq_ok (Z_X12_misled l) rfl [45, 74] (fun _ _ _ _ _ _ h => h) 400 (Z_X12_misled l) ?_
    refine ⟨fun c => ⟨D, k, t, ⟨rfl, hD, hMS, rfl, rfl, by omega, ht⟩, k, ⟨rfl, by omega⟩, by omega, ?_⟩, fun c => by omega⟩
    exact this
end
theorem R_X12_misled (l : Launch) (a : List zV) (S : zS) (Q : zR2 → zS → Prop) (h : wp_X12_misled a S Q) : zRs l 6 0 0 yX12_misled (.code yX12_misled cX12_misled 6 (some .int)) a S Q := by
  unfold wp_X12_misled at h
  split at h
  · rename_i c x y z
    obtain ⟨D, E, T, N, ⟨rfl, hM, hX⟩, h⟩ := h
    have hM0 : mOK (zu S 62 0 0) D := hM.now.u (Or.inl rfl)
    have e1 : zu S 62 0 0 62 1 = (dR D : Int) := hM.now.rooms
    unfold misledA at h
    by_cases hp : misP D x y z
    · rw [if_pos hp] at h
      obtain ⟨⟨x1, x2⟩, ⟨y1, y2⟩, z1, z2⟩ := hp
      have hfg := fl_ge hX.now y.toNat x.toNat
      have efl : flS (mlM D y.toNat x.toNat) (2 ^ dL D) 0 (-1) = flD D y.toNat x.toNat := flS_congr (fun s => (mlC_mlM hX.now (by omega)).symm) _ _ _
      have fr : ∀ S', frL S' (zu S 62 0 0) → eM S' D E T ∧ frM S S' ∧ S' 62 0 = 0 := fun S' hf => by
        refine ⟨(hM.u (k := 0) (v := 0) (Or.inl rfl)).fr (fun c j a b => hf c j ?_ ?_ ?_ ?_ ?_), fun c hc => funext fun j => (hf c j (by omega) (by omega) (by omega) (by omega) (Or.inl (by omega))).trans (zuN (Or.inl (by omega))), (hf 62 0 (by omega) (by omega) (by omega) (by omega) (Or.inr (by omega))).trans zuE⟩
        · unfold mScr at b; omega
        · unfold mScr at b; omega
        · unfold mScr at b; omega
        · unfold mScr at b; omega
        · unfold mScr at b; omega
      refine zRs_of 12 (by decide) rfl rfl ?_; refine zwq_ok (Z_X12_misled l) rfl [45] (fun _ _ _ _ _ _ h => h) 400 (Z_X12_misled l) ?_
      refine ⟨⟨rfl, rfl⟩, fun _ => ⟨fun c9 => absurd c9 (by decide), fun _ => ⟨⟨rfl, rfl⟩, fun _ => ⟨fun c9 => absurd c9 (by decide), fun _ => ⟨⟨rfl, rfl⟩, fun _ => ⟨fun c9 => absurd c9 (by decide), fun _ => ⟨D, y.toNat, ⟨rfl, hX.now, hM0, by omega, by omega⟩, fun c => ⟨fun c9 => absurd c9 (by decide), fun _ => ?_⟩, fun c => ⟨fun _ => ?_, fun c9 => absurd rfl c9⟩⟩⟩, fun c9 => by omega⟩⟩, fun c9 => by omega⟩⟩, fun c9 => by omega⟩
      · rw [if_pos c] at h
        exact mGood hM h
      · rw [if_neg c] at h
        have main := L0_X12_misled (l := l) (Q := Q) (S0 := zu S 62 0 0) (D := D) (t := y.toNat) (r := x.toNat) (z := z) hX.now hM0 (by omega) (fun S1 r1 f1 => by
          have go := L1_X12_misled (l := l) (Q := Q) (S0 := zu S 62 0 0) (D := D) (t := y.toNat) (r := x.toNat) (z := z) hX.now hM0 (by omega) (by omega) (by omega) (by omega) hfg (fun S2 f2 => by
            obtain ⟨g1, g2, g3⟩ := fr S2 f2
            by_cases cc : flD D y.toNat x.toNat = -1 ∨ z = 1
            · rw [if_pos cc] at h ⊢
              exact h S2 _ g1 g2 g3 (fun _ => rfl)
            · rw [if_neg cc] at h ⊢
              exact h S2 _ g1 g2 g3 (fun _ => rfl)) (2 ^ dL D) 0 (-1) S1 (by omega) (Or.inl rfl) r1 f1 efl
          refine zwq_ok (Z_X12_misled l) rfl [80] (fun _ _ _ _ _ _ h => h) 400 (Z_X12_misled l) ?_
          exact go) (dR D) 0 (zu S 62 0 0) (by omega) (fun i hi => absurd hi (Nat.not_lt_zero i)) (fun _ _ _ _ _ _ _ => rfl)
        rw [show ((x.toNat : Nat) : Int) = x by omega, show ((y.toNat : Nat) : Int) = y by omega] at main
        exact main
    · rw [if_neg hp] at h
      unfold misP at hp
      have h := mFail1 hM h
      refine zRs_of 12 (by decide) rfl rfl ?_; refine zwq_ok (Z_X12_misled l) rfl [45] (fun _ _ _ _ _ _ h => h) 400 (Z_X12_misled l) ?_
      repeat' (first | refine And.intro ?_ ?_ | (intro _; try omega) | omega | rfl | refine ⟨_, ⟨rfl, by omega⟩, ?_⟩ | fail)
      all_goals exact h
  · exact h.elim
theorem m_misled {S : zS} {D E T : zD} {N : Nat} {K : zR2 → zS → Prop} {x y z : Int} (hM : eM S D E T) (hX : xOK D E T N) (h : mRes S D E T (misledA D x y z) K) : wp_X12_misled [.inr (.inl 62), .inl x, .inl y, .inl z] S K := ⟨D, E, T, N, ⟨rfl, hM, hX⟩, h⟩
