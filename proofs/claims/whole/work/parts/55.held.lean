/-! the class: what is held by what is seen -/
def hrD (D : zD) : Nat := if dQ D = 0 then 0 else dQ D - 1
def hmD (D : zD) (t l : Nat) : Nat := if bt1 (dP D) (dH D l) = 0 then dM D (24 * l + t) else gmD D l (24 * l + t) (dS D (dH D l))
def heL (D : zD) (t l : Nat) : List Nat := bl (hmD D t l)
def erS (D : zD) : Nat → Nat → Bool
  | 0, _ => true
  | f + 1, r => bif Nat.beq (bt1 (dP D) r) 1 && (Nat.beq (dW D r) 0 && !(Nat.beq (dS D r) 3)) then false else erS D f (r + 1)
def erD (D : zD) : Bool := erS D (dR D) 0
def pP (A : Nat → List Nat) : Nat → Nat
  | 0 => 1
  | n + 1 => pP A n * (A n).length
theorem pP_lP (A : Nat → List Nat) : ∀ f n, pP A n * lP A f n = pP A (n + f) := by
  intro f
  induction f with
  | zero => intro n; exact Nat.mul_one _
  | succ f ih =>
    intro n
    show pP A n * ((A n).length * lP A f (n + 1)) = _
    rw [← Nat.mul_assoc, show pP A n * (A n).length = pP A (n + 1) from rfl, ih, show n + 1 + f = n + (f + 1) by omega]
theorem lP_pP (A : Nat → List Nat) (n : Nat) : lP A n 0 = pP A n := by
  have := pP_lP A n 0
  rw [Nat.zero_add, show pP A 0 = 1 from rfl, Nat.one_mul] at this
  exact this
theorem lP_snoc (A : Nat → List Nat) : ∀ k l, lP A (k + 1) l = lP A k l * (A (l + k)).length := by
  intro k
  induction k with
  | zero => intro l; show (A l).length * 1 = 1 * (A l).length; omega
  | succ k ih =>
    intro l
    show (A l).length * lP A (k + 1) (l + 1) = (A l).length * lP A k (l + 1) * (A (l + (k + 1))).length
    rw [ih, show l + 1 + k = l + (k + 1) by omega, Nat.mul_assoc]
theorem pP_le {A : Nat → List Nat} {n : Nat} (h : ∀ l, l < n → (A l).length ≤ 12) : pP A n ≤ 12 ^ n := by
  induction n with
  | zero => exact Nat.le_refl 1
  | succ n ih =>
    show pP A n * (A n).length ≤ _
    rw [Nat.pow_succ]
    exact Nat.mul_le_mul (ih (fun l hl => h l (by omega))) (h n (by omega))
theorem lP_le {A : Nat → List Nat} : ∀ f l, (∀ j, l ≤ j → j < l + f → (A j).length ≤ 12) → lP A f l ≤ 12 ^ f := by
  intro f
  induction f with
  | zero => intro l _; exact Nat.le_refl 1
  | succ f ih =>
    intro l h
    show (A l).length * lP A f (l + 1) ≤ _
    rw [Nat.pow_succ, Nat.mul_comm]
    exact Nat.mul_le_mul (ih (l + 1) (fun j a b => h j (by omega) (by omega))) (h l (by omega) (by omega))
/-- how many cases -/
def toD (D : zD) (t : Nat) : Nat := bif erD D then pP (heL D t) (dL D) else 0
section
variable {D : zD} {t l : Nat}
theorem hm_lt (hD : dOK D) (ht : t < 24) (hl : l < dL D) : hmD D t l < 4096 := by
  unfold hmD
  split
  · exact (hD.may (24 * l + t) (by omega)).2
  · exact gm_lt _ _ _ _
theorem he_12 (hD : dOK D) (ht : t < 24) (hl : l < dL D) : (heL D t l).length ≤ 12 := bl_12 (hm_lt hD ht hl)
theorem hr_lt (hD : dOK D) : hrD D < 24 := by
  have := hD.seenHour
  unfold hrD
  split <;> omega
theorem p12 {n : Nat} (h : n ≤ 6) : 12 ^ n ≤ 2985984 := by
  have : 12 ^ n ≤ 12 ^ 6 := Nat.pow_le_pow_right (by decide) h
  omega
theorem hm_rm (hD : dOK D) (ht : t < 24) (hl : l < dL D) : mRm D l (hmD D t l) := by
  intro a h
  refine hD.mayRoom l t a hl ht ?_
  unfold hmD at h
  split at h
  · exact h
  · unfold gmD at h
    rw [bt1_msk] at h
    split at h
    · rename_i c
      have := c.2
      unfold gmF at this
      rw [Bool.and_eq_true] at this
      exact Nat.eq_of_beq_eq_true this.1
    · cases h
end
def B_X1_emptyRoomsHold : List (Nat × zC) := []
def O_X1_emptyRoomsHold : zO := fun j a S K => match j with
  | _ => False
theorem E_X1_emptyRoomsHold (l : Launch) : ∀ q ∈ B_X1_emptyRoomsHold, zcok l O_X1_emptyRoomsHold F_X1_emptyRoomsHold q.1 q.2 := fun _ h => by cases h
def U_X1_emptyRoomsHold : List (Nat × zE) := [(0, Sum.inl (0, 0, 0, 0, 1, [])), (1, Sum.inl (5, 1, 0, 0, 2, [])), (2, Sum.inl (2, 1, 0, 0, 3, [])), (3, Sum.inl (4, 0, 0, 0, 4, [])), (4, Sum.inl (18, 1, 0, 0, 7, [])), (7, Sum.inl (18, 6, 7, 0, 10, [])), (10, Sum.inl (16, 1, 13, 0, 72, [])), (13, Sum.inl (4, 0, 0, 0, 14, [])), (14, Sum.inl (18, 1, 1, 0, 17, [])), (17, Sum.inl (18, 0, 9, 0, 20, [])), (20, Sum.inl (2, 1, 0, 0, 21, [])), (21, Sum.inl (9, 7, 0, 0, 22, [])), (22, Sum.inl (0, 0, 0, 1, 23, [])), (23, Sum.inl (9, 3, 0, 0, 24, [])), (24, Sum.inl (0, 0, 0, 1, 25, [])), (25, Sum.inl (16, 0, 28, 0, 32, [])), (28, Sum.inl (0, 0, 0, 1, 29, [])), (29, Sum.inl (15, 0, 0, 0, 33, [])), (32, Sum.inl (0, 0, 0, 0, 33, [])), (33, Sum.inl (5, 2, 0, 0, 34, [])), (34, Sum.inl (2, 2, 0, 0, 35, [])), (35, Sum.inl (17, 0, 66, 0, 38, [])), (38, Sum.inl (4, 0, 0, 0, 39, [])), (39, Sum.inl (18, 1, 0, 0, 42, [])), (42, Sum.inl (18, 6, 1, 0, 45, [])), (45, Sum.inl (2, 1, 0, 0, 46, [])), (46, Sum.inl (20, 0, 0, 0, 47, [])), (47, Sum.inl (0, 0, 0, (-1), 48, [])), (48, Sum.inl (16, 0, 51, 0, 66, [])), (51, Sum.inl (4, 0, 0, 0, 52, [])), (52, Sum.inl (18, 1, 1, 0, 55, [])), (55, Sum.inl (18, 0, 6, 0, 58, [])), (58, Sum.inl (2, 1, 0, 0, 59, [])), (59, Sum.inl (20, 0, 0, 0, 60, [])), (60, Sum.inl (0, 0, 0, 3, 61, [])), (61, Sum.inl (16, 0, 66, 0, 64, [])), (64, Sum.inl (0, 0, 0, 0, 65, [])), (65, Sum.inl (27, 0, 0, 0, 66, [])), (66, Sum.inl (8, 1, 0, 1, 69, [])), (69, Sum.inl (15, 0, 0, 0, 2, [])), (72, Sum.inl (0, 0, 0, 1, 73, [])), (73, Sum.inl (27, 0, 0, 0, 74, []))]
theorem Z_X1_emptyRoomsHold (l : Launch) : ∀ q ∈ U_X1_emptyRoomsHold, zTok l O_X1_emptyRoomsHold F_X1_emptyRoomsHold q := zU_ok rfl rfl rfl K_X1_emptyRoomsHold (E_X1_emptyRoomsHold l)
def wp_X1_emptyRoomsHold (a : List zV) (S : zS) (K : zR2 → zS → Prop) : Prop := match a with
  | [.inr (.inl c)] => ∃ D : zD, (c = 37 ∧ dOK D ∧ cOK S D) ∧ K (.inl (some (.inl (bti (erD D) : Int)))) S
  | _ => False
theorem L_X1_emptyRoomsHold {l : Launch} {S : zS} {Q : zR2 → zS → Prop} {D : zD} (hD : dOK D) (hC : cOK S D) (f : Nat) : ∀ r, r + f = dR D → Q (.inl (some (.inl (bti (erS D f r) : Int)))) S → zGs l 0 0 0 F_X1_emptyRoomsHold S 2 [(0, .inr (.inl 37)), (1, .inl (r : Int))] [] Q := by
  have h8 := hD.rooms
  have eR := hC.rooms
  have eP := hC.seenRooms
  have hP := p_lt hD
  induction f with
  | zero =>
    intro r hr h
    refine zwq_ok (Z_X1_emptyRoomsHold l) rfl [2] (fun _ _ _ _ _ _ h => h) 400 (Z_X1_emptyRoomsHold l) ?_
    exact ⟨fun c => by omega, fun c => ⟨Or.inr rfl, h⟩⟩
  | succ f ih =>
    intro r hr h
    have e := zbit_n (a := dP D) (j := r) (by omega) (by omega)
    have hb := bt1_lt (dP D) r
    have eW := hC.tenant r (by omega)
    have eS := hC.seen r (by omega)
    have h : Q (.inl (some (.inl (bti (bif Nat.beq (bt1 (dP D) r) 1 && (Nat.beq (dW D r) 0 && !(Nat.beq (dS D r) 3)) then false else erS D f (r + 1)) : Int)))) S := h
    have nx : (Nat.beq (bt1 (dP D) r) 1 && (Nat.beq (dW D r) 0 && !(Nat.beq (dS D r) 3))) = false → zGs l 0 0 0 F_X1_emptyRoomsHold S 2 [(0, .inr (.inl 37)), (1, .inl ((r : Int) + 1))] [] Q := fun c => by
      rw [c] at h
      exact ih (r + 1) (by omega) h
    refine zwq_ok (Z_X1_emptyRoomsHold l) rfl [2] (fun _ _ _ _ _ _ h => h) 400 (Z_X1_emptyRoomsHold l) ?_
    refine ⟨fun c => ⟨fun c2 => ⟨fun c9 => absurd c9 (by decide), fun _ => ⟨r, ⟨rfl, by omega⟩, fun c3 => ⟨r, ⟨rfl, by omega⟩, fun c4 => ⟨by omega, ?_⟩, fun c4 => ⟨Or.inl rfl, ?_⟩⟩, fun c3 => ⟨by omega, ?_⟩⟩⟩, fun c2 => ⟨fun _ => ⟨by omega, ?_⟩, fun c9 => absurd rfl c9⟩⟩, fun c => by omega⟩
    · refine zGs.sub (lo := [(0, _), (1, _), (2, _)]) (nx ?_) (fun q hq => by simp only [List.mem_cons, List.not_mem_nil, or_false] at hq; rcases hq with rfl | rfl <;> first | exact .head _ | exact .tail _ (.head _) | exact .tail _ (.tail _ (.head _)) | exact .tail _ (.tail _ (.tail _ (.head _))) | exact .tail _ (.tail _ (.tail _ (.tail _ (.head _)))) | exact .tail _ (.tail _ (.tail _ (.tail _ (.tail _ (.head _))))) | exact .tail _ (.tail _ (.tail _ (.tail _ (.tail _ (.tail _ (.head _)))))) | exact .tail _ (.tail _ (.tail _ (.tail _ (.tail _ (.tail _ (.tail _ (.head _))))))) | exact .tail _ (.tail _ (.tail _ (.tail _ (.tail _ (.tail _ (.tail _ (.tail _ (.head _)))))))) | exact .tail _ (.tail _ (.tail _ (.tail _ (.tail _ (.tail _ (.tail _ (.tail _ (.tail _ (.head _))))))))) | exact .tail _ (.tail _ (.tail _ (.tail _ (.tail _ (.tail _ (.tail _ (.tail _ (.tail _ (.tail _ (.head _)))))))))) | exact .tail _ (.tail _ (.tail _ (.tail _ (.tail _ (.tail _ (.tail _ (.tail _ (.tail _ (.tail _ (.tail _ (.head _))))))))))) | exact .tail _ (.tail _ (.tail _ (.tail _ (.tail _ (.tail _ (.tail _ (.tail _ (.tail _ (.tail _ (.tail _ (.tail _ (.head _)))))))))))) | exact .tail _ (.tail _ (.tail _ (.tail _ (.tail _ (.tail _ (.tail _ (.tail _ (.tail _ (.tail _ (.tail _ (.tail _ (.tail _ (.head _))))))))))))))
      rw [show dS D r = 3 by omega]
      simp
    · rw [eP, e] at c2
      rw [show bt1 (dP D) r = 1 by omega, show dW D r = 0 by omega, beqN (show dS D r ≠ 3 by omega)] at h
      exact h
    · refine zGs.sub (lo := [(0, _), (1, _), (2, _)]) (nx ?_) (fun q hq => by simp only [List.mem_cons, List.not_mem_nil, or_false] at hq; rcases hq with rfl | rfl <;> first | exact .head _ | exact .tail _ (.head _) | exact .tail _ (.tail _ (.head _)) | exact .tail _ (.tail _ (.tail _ (.head _))) | exact .tail _ (.tail _ (.tail _ (.tail _ (.head _)))) | exact .tail _ (.tail _ (.tail _ (.tail _ (.tail _ (.head _))))) | exact .tail _ (.tail _ (.tail _ (.tail _ (.tail _ (.tail _ (.head _)))))) | exact .tail _ (.tail _ (.tail _ (.tail _ (.tail _ (.tail _ (.tail _ (.head _))))))) | exact .tail _ (.tail _ (.tail _ (.tail _ (.tail _ (.tail _ (.tail _ (.tail _ (.head _)))))))) | exact .tail _ (.tail _ (.tail _ (.tail _ (.tail _ (.tail _ (.tail _ (.tail _ (.tail _ (.head _))))))))) | exact .tail _ (.tail _ (.tail _ (.tail _ (.tail _ (.tail _ (.tail _ (.tail _ (.tail _ (.tail _ (.head _)))))))))) | exact .tail _ (.tail _ (.tail _ (.tail _ (.tail _ (.tail _ (.tail _ (.tail _ (.tail _ (.tail _ (.tail _ (.head _))))))))))) | exact .tail _ (.tail _ (.tail _ (.tail _ (.tail _ (.tail _ (.tail _ (.tail _ (.tail _ (.tail _ (.tail _ (.tail _ (.head _)))))))))))) | exact .tail _ (.tail _ (.tail _ (.tail _ (.tail _ (.tail _ (.tail _ (.tail _ (.tail _ (.tail _ (.tail _ (.tail _ (.tail _ (.head _))))))))))))))
      rw [beqN (show dW D r ≠ 0 by omega)]
      simp
    · rw [eP, e] at c2
      refine zGs.sub (lo := [(0, _), (1, _), (2, _)]) (nx ?_) (fun q hq => by simp only [List.mem_cons, List.not_mem_nil, or_false] at hq; rcases hq with rfl | rfl <;> first | exact .head _ | exact .tail _ (.head _) | exact .tail _ (.tail _ (.head _)) | exact .tail _ (.tail _ (.tail _ (.head _))) | exact .tail _ (.tail _ (.tail _ (.tail _ (.head _)))) | exact .tail _ (.tail _ (.tail _ (.tail _ (.tail _ (.head _))))) | exact .tail _ (.tail _ (.tail _ (.tail _ (.tail _ (.tail _ (.head _)))))) | exact .tail _ (.tail _ (.tail _ (.tail _ (.tail _ (.tail _ (.tail _ (.head _))))))) | exact .tail _ (.tail _ (.tail _ (.tail _ (.tail _ (.tail _ (.tail _ (.tail _ (.head _)))))))) | exact .tail _ (.tail _ (.tail _ (.tail _ (.tail _ (.tail _ (.tail _ (.tail _ (.tail _ (.head _))))))))) | exact .tail _ (.tail _ (.tail _ (.tail _ (.tail _ (.tail _ (.tail _ (.tail _ (.tail _ (.tail _ (.head _)))))))))) | exact .tail _ (.tail _ (.tail _ (.tail _ (.tail _ (.tail _ (.tail _ (.tail _ (.tail _ (.tail _ (.tail _ (.head _))))))))))) | exact .tail _ (.tail _ (.tail _ (.tail _ (.tail _ (.tail _ (.tail _ (.tail _ (.tail _ (.tail _ (.tail _ (.tail _ (.head _)))))))))))) | exact .tail _ (.tail _ (.tail _ (.tail _ (.tail _ (.tail _ (.tail _ (.tail _ (.tail _ (.tail _ (.tail _ (.tail _ (.tail _ (.head _))))))))))))))
      rw [beqN (show bt1 (dP D) r ≠ 1 by omega)]
      rfl
theorem R_X1_emptyRoomsHold (l : Launch) (a : List zV) (S : zS) (Q : zR2 → zS → Prop) (h : wp_X1_emptyRoomsHold a S Q) : zRs l 0 0 0 yX1_emptyRoomsHold (.code yX1_emptyRoomsHold cX1_emptyRoomsHold 3 (some .boolean)) a S Q := by
  unfold wp_X1_emptyRoomsHold at h
  split at h
  · obtain ⟨D, ⟨rfl, hD, hC⟩, h⟩ := h
    refine zRs_of 1 (by decide) rfl rfl ?_; refine zwq_ok (Z_X1_emptyRoomsHold l) rfl [2] (fun _ _ _ _ _ _ h => h) 400 (Z_X1_emptyRoomsHold l) ?_
    exact L_X1_emptyRoomsHold hD hC (dR D) 0 (by omega) h
  · exact h.elim
def B_X1_doingsHeld : List (Nat × zC) := [(30, (0, 0, 2, 0, 0, 0, 6)), (49, (0, 1, 3, 1, 0, 0, 3))]
def O_X1_doingsHeld : zO := fun j a S K => match j with
  | 0 => wp_X6_doings a S K
  | 1 => wp_X3_doingsBySign a S K
  | _ => False
theorem E_X1_doingsHeld (l : Launch) : ∀ q ∈ B_X1_doingsHeld, zcok l O_X1_doingsHeld F_X1_doingsHeld q.1 q.2 := List.forall_mem_cons.mpr ⟨⟨73, yX6_doings, cX6_doings, 4, some .int, by decide +kernel, C_1_73, W_X6_doings, I_X6_doings, S_X6_doings, rfl, rfl, R_X6_doings l⟩, List.forall_mem_cons.mpr ⟨⟨75, yX3_doingsBySign, cX3_doingsBySign, 8, some .int, by decide +kernel, C_1_75, W_X3_doingsBySign, I_X3_doingsBySign, S_X3_doingsBySign, rfl, rfl, R_X3_doingsBySign l⟩, fun _ h => by cases h⟩⟩
def U_X1_doingsHeld : List (Nat × zE) := [(0, Sum.inl (4, 0, 0, 0, 1, [])), (1, Sum.inl (18, 1, 0, 0, 4, [])), (4, Sum.inl (18, 6, 2, 0, 7, [])), (7, Sum.inl (2, 1, 0, 0, 8, [])), (8, Sum.inl (20, 0, 0, 0, 9, [])), (9, Sum.inl (5, 3, 0, 0, 10, [])), (10, Sum.inl (4, 0, 0, 0, 11, [])), (11, Sum.inl (18, 1, 1, 0, 14, [])), (14, Sum.inl (18, 0, 9, 0, 17, [])), (17, Sum.inl (2, 3, 0, 0, 18, [])), (18, Sum.inl (9, 7, 0, 0, 19, [])), (19, Sum.inl (0, 0, 0, 1, 20, [])), (20, Sum.inl (9, 3, 0, 0, 21, [])), (21, Sum.inl (17, 0, 24, 0, 34, [])), (24, Sum.inl (4, 0, 0, 0, 25, [])), (25, Sum.inl (18, 1, 0, 0, 28, [])), (28, Sum.inl (2, 1, 0, 0, 29, [])), (29, Sum.inl (2, 2, 0, 0, 30, [])), (30, Sum.inr (0, 0, 2, 0, 0, 0, 6)), (33, Sum.inl (27, 0, 0, 0, 34, [])), (34, Sum.inl (4, 0, 0, 0, 35, [])), (35, Sum.inl (18, 1, 2, 0, 38, [])), (38, Sum.inl (2, 1, 0, 0, 39, [])), (39, Sum.inl (2, 2, 0, 0, 40, [])), (40, Sum.inl (4, 0, 0, 0, 41, [])), (41, Sum.inl (18, 1, 1, 0, 44, [])), (44, Sum.inl (18, 0, 6, 0, 47, [])), (47, Sum.inl (2, 3, 0, 0, 48, [])), (48, Sum.inl (20, 0, 0, 0, 49, [])), (49, Sum.inr (0, 1, 3, 1, 0, 0, 3)), (52, Sum.inl (27, 0, 0, 0, 53, []))]
theorem Z_X1_doingsHeld (l : Launch) : ∀ q ∈ U_X1_doingsHeld, zTok l O_X1_doingsHeld F_X1_doingsHeld q := zU_ok rfl rfl rfl K_X1_doingsHeld (E_X1_doingsHeld l)
def wp_X1_doingsHeld (a : List zV) (S : zS) (K : zR2 → zS → Prop) : Prop := match a with
  | [.inr (.inl c), .inl x, .inl y] => ∃ (D : zD) (i t : Nat), (c = 37 ∧ dOK D ∧ cOK S D ∧ x = (i : Int) ∧ y = (t : Int) ∧ i < dL D ∧ t < 24) ∧ K (.inl (some (.inl (spr (hmD D t i) : Int)))) S
  | _ => False
theorem R_X1_doingsHeld (l : Launch) (a : List zV) (S : zS) (Q : zR2 → zS → Prop) (h : wp_X1_doingsHeld a S Q) : zRs l 2 0 0 yX1_doingsHeld (.code yX1_doingsHeld cX1_doingsHeld 4 (some .int)) a S Q := by
  unfold wp_X1_doingsHeld at h
  split at h
  · obtain ⟨D, i, t, ⟨rfl, hD, hC, rfl, rfl, hi, ht⟩, h⟩ := h
    have h6 := hD.lodgers
    have h8 := hD.rooms
    have eH := hC.home i hi
    have hH := hD.home i hi
    have eP := hC.seenRooms
    have hP := p_lt hD
    have e := zbit_n (a := dP D) (j := dH D i) (by omega) (by omega)
    have eS := hC.seen (dH D i) (by omega)
    unfold hmD at h
    refine zRs_of 1 (by decide) rfl rfl ?_; refine zwq_ok (Z_X1_doingsHeld l) rfl [] (fun _ _ _ _ _ _ h => h) 400 (Z_X1_doingsHeld l) ?_
    refine ⟨i, ⟨rfl, by omega⟩, fun c => ?_, fun c => ?_⟩
    · rw [eP, eH, e] at c
      rw [if_pos (by omega)] at h
      exact ⟨D, i, t, ⟨rfl, hD, hC, rfl, rfl, hi, ht⟩, h⟩
    · rw [eP, eH, e] at c
      rw [if_neg (by omega)] at h
      exact ⟨dH D i, ⟨eH, by omega⟩, D, i, t, dS D (dH D i), ⟨rfl, hD, hC, rfl, rfl, eS, hi, ht⟩, h⟩
  · exact h.elim
def B_X1_reckon : List (Nat × zC) := [(28, (0, 0, 1, 1, 0, 0, 6)), (46, (0, 1, 0, 0, 0, 0, 1)), (81, (0, 2, 2, 2, 0, 0, 1)), (96, (1, 3, 1, 0, 0, 0, 0))]
def O_X1_reckon : zO := fun j a S K => match j with
  | 0 => wp_X6_rowsOf a S K
  | 1 => wp_X1_emptyRoomsHold a S K
  | 2 => wp_X1_doingsHeld a S K
  | 3 => wp_J6_bitCount_0f7a4 a S K
  | _ => False
theorem E_X1_reckon (l : Launch) : ∀ q ∈ B_X1_reckon, zcok l O_X1_reckon F_X1_reckon q.1 q.2 := List.forall_mem_cons.mpr ⟨⟨33, yX6_rowsOf, cX6_rowsOf, 4, some .int, by decide +kernel, C_1_33, W_X6_rowsOf, I_X6_rowsOf, S_X6_rowsOf, rfl, rfl, R_X6_rowsOf l⟩, List.forall_mem_cons.mpr ⟨⟨42, yX1_emptyRoomsHold, cX1_emptyRoomsHold, 3, some .boolean, by decide +kernel, C_1_42, W_X1_emptyRoomsHold, I_X1_emptyRoomsHold, S_X1_emptyRoomsHold, rfl, rfl, R_X1_emptyRoomsHold l⟩, List.forall_mem_cons.mpr ⟨⟨49, yX1_doingsHeld, cX1_doingsHeld, 4, some .int, by decide +kernel, C_1_49, W_X1_doingsHeld, I_X1_doingsHeld, S_X1_doingsHeld, rfl, rfl, R_X1_doingsHeld l⟩, List.forall_mem_cons.mpr ⟨⟨53, yJ6_bitCount_0f7a4, cJ6_bitCount_0f7a4, 1, some .int, by decide +kernel, C_1_53, W_J6_bitCount_0f7a4, I_J6_bitCount_0f7a4, rfl, R_J6_bitCount_0f7a4 l⟩, fun _ h => by cases h⟩⟩⟩⟩
def U_X1_reckon : List (Nat × zE) := [(0, Sum.inl (4, 0, 0, 0, 1, [])), (1, Sum.inl (18, 1, 1, 0, 4, [])), (4, Sum.inl (18, 0, 8, 0, 7, [])), (7, Sum.inl (0, 0, 0, (-1), 8, [])), (8, Sum.inl (16, 0, 11, 0, 15, [])), (11, Sum.inl (0, 0, 0, 0, 12, [])), (12, Sum.inl (15, 0, 0, 0, 22, [])), (15, Sum.inl (4, 0, 0, 0, 16, [])), (16, Sum.inl (18, 1, 1, 0, 19, [])), (19, Sum.inl (18, 0, 8, 0, 22, [])), (22, Sum.inl (5, 1, 0, 0, 23, [])), (23, Sum.inl (4, 0, 0, 0, 24, [])), (24, Sum.inl (18, 1, 0, 0, 27, [])), (27, Sum.inl (2, 1, 0, 0, 28, [])), (28, Sum.inr (0, 0, 1, 1, 0, 0, 6)), (31, Sum.inl (0, 0, 0, (-2), 33, [])), (33, Sum.inl (16, 0, 36, 0, 44, [])), (36, Sum.inl (4, 0, 0, 0, 37, [])), (37, Sum.inl (0, 0, 0, 0, 38, [])), (38, Sum.inl (19, 1, 4, 0, 41, [])), (41, Sum.inl (0, 0, 0, (-2), 43, [])), (43, Sum.inl (27, 0, 0, 0, 44, [])), (44, Sum.inl (4, 0, 0, 0, 45, [])), (45, Sum.inl (4, 0, 0, 0, 46, [])), (46, Sum.inr (0, 1, 0, 0, 0, 0, 1)), (49, Sum.inl (17, 0, 56, 0, 52, [])), (52, Sum.inl (0, 0, 0, 1, 53, [])), (53, Sum.inl (15, 0, 0, 0, 57, [])), (56, Sum.inl (0, 0, 0, 0, 57, [])), (57, Sum.inl (19, 1, 4, 0, 60, [])), (60, Sum.inl (0, 0, 0, 0, 61, [])), (61, Sum.inl (5, 2, 0, 0, 62, [])), (62, Sum.inl (2, 2, 0, 0, 63, [])), (63, Sum.inl (4, 0, 0, 0, 64, [])), (64, Sum.inl (18, 1, 0, 0, 67, [])), (67, Sum.inl (18, 6, 8, 0, 70, [])), (70, Sum.inl (16, 1, 73, 0, 109, [])), (73, Sum.inl (4, 0, 0, 0, 74, [])), (74, Sum.inl (18, 1, 3, 0, 77, [])), (77, Sum.inl (2, 2, 0, 0, 78, [])), (78, Sum.inl (4, 0, 0, 0, 79, [])), (79, Sum.inl (2, 2, 0, 0, 80, [])), (80, Sum.inl (2, 1, 0, 0, 81, [])), (81, Sum.inr (0, 2, 2, 2, 0, 0, 1)), (84, Sum.inl (21, 0, 0, 0, 85, [])), (85, Sum.inl (4, 0, 0, 0, 86, [])), (86, Sum.inl (12, 0, 0, 0, 87, [])), (87, Sum.inl (18, 1, 4, 0, 90, [])), (90, Sum.inl (4, 0, 0, 0, 91, [])), (91, Sum.inl (18, 1, 3, 0, 94, [])), (94, Sum.inl (2, 2, 0, 0, 95, [])), (95, Sum.inl (20, 0, 0, 0, 96, [])), (96, Sum.inr (1, 3, 1, 0, 0, 0, 0)), (99, Sum.inl (9, 2, 0, 0, 100, [])), (100, Sum.inl (19, 1, 4, 0, 103, [])), (103, Sum.inl (8, 2, 0, 1, 106, [])), (106, Sum.inl (15, 0, 0, 0, 62, [])), (109, Sum.inl (4, 0, 0, 0, 110, [])), (110, Sum.inl (18, 1, 4, 0, 113, [])), (113, Sum.inl (27, 0, 0, 0, 114, []))]
theorem Z_X1_reckon (l : Launch) : ∀ q ∈ U_X1_reckon, zTok l O_X1_reckon F_X1_reckon q := zU_ok rfl rfl rfl K_X1_reckon (E_X1_reckon l)
/-- the class's cases as they are reckoned -/
def rkC (S : zS) (D : zD) (t : Nat) : Prop := S 37 4 = (toD D t : Int) ∧ ∀ l, l < dL D → S 38 l = (spr (hmD D t l) : Int)
def wp_X1_reckon (a : List zV) (S : zS) (K : zR2 → zS → Prop) : Prop := match a with
  | [.inr (.inl c)] => ∃ D : zD, (c = 37 ∧ dOK D ∧ cOK S D) ∧ (4000 < rowD D (hrD D) (dL D) → ∀ S', (∀ c, c ≠ 37 → c ≠ 38 → S' c = S c) → K (.inl (some (.inl (-2)))) S') ∧ (¬ 4000 < rowD D (hrD D) (dL D) → ∀ S', rkC S' D (hrD D) → (∀ c, c ≠ 37 → c ≠ 38 → S' c = S c) → K (.inl (some (.inl (toD D (hrD D) : Int)))) S')
  | _ => False
theorem L_X1_reckon {l : Launch} {S0 : zS} {Q : zR2 → zS → Prop} {D : zD} {t : Nat} (hD : dOK D) (hC : cOK S0 D) (ht : t < 24) (h : ∀ S', rkC S' D t → (∀ c, c ≠ 37 → c ≠ 38 → S' c = S0 c) → Q (.inl (some (.inl (toD D t : Int)))) S') (f : Nat) : ∀ j S, j + f = dL D → S 37 4 = ((bti (erD D) * pP (heL D t) j : Nat) : Int) → (∀ i, i < j → S 38 i = (spr (hmD D t i) : Int)) → (∀ c, c ≠ 37 → c ≠ 38 → S c = S0 c) → zGs l 3 0 0 F_X1_reckon S 62 [(0, .inr (.inl 37)), (1, .inl (t : Int)), (2, .inl (j : Int))] [] Q := by
  have h6 := hD.lodgers
  induction f with
  | zero =>
    intro j S hj h1 h2 hf
    have : j = dL D := by omega
    subst this
    have eL : S 3 8 = (dL D : Int) := by rw [hf 3 (by omega) (by omega)]; exact hC.lodgers
    have et : bti (erD D) * pP (heL D t) (dL D) = toD D t := by
      unfold toD
      cases erD D
      · exact Nat.zero_mul _
      · exact Nat.one_mul _
    rw [et] at h1
    have h := h S ⟨h1, h2⟩ hf
    rw [← h1] at h
    refine zwq_ok (Z_X1_reckon l) rfl [62] (fun _ _ _ _ _ _ h => h) 400 (Z_X1_reckon l) ?_
    exact ⟨fun c => by omega, fun c => h⟩
  | succ f ih =>
    intro j S hj h1 h2 hf
    have hCS : cOK S D := hC.fr (fun c a b => hf c (by omega) (by omega)) (fun c a b => hf c (by omega) (by omega))
    have eL := hCS.lodgers
    have hm := hm_lt hD ht (show j < dL D by omega)
    have hle : pP (heL D t) (j + 1) ≤ 12 ^ (j + 1) := pP_le (fun i hi => he_12 hD ht (by omega))
    have hp := p12 (n := j + 1) (by omega)
    have hb := bti_le (erD D)
    have hmul : bti (erD D) * pP (heL D t) (j + 1) ≤ pP (heL D t) (j + 1) := by
      have := Nat.mul_le_mul_right (pP (heL D t) (j + 1)) hb
      omega
    have e : ((bti (erD D) * pP (heL D t) j : Nat) : Int) * ((bl (hmD D t j)).length : Int) = ((bti (erD D) * pP (heL D t) (j + 1) : Nat) : Int) := by
      rw [← Int.natCast_mul, Nat.mul_assoc]
      rfl
    refine zwq_ok (Z_X1_reckon l) rfl [62] (fun _ _ _ _ _ _ h => h) 400 (Z_X1_reckon l) ?_
    refine ⟨fun c => ⟨D, j, t, ⟨rfl, hD, hCS, rfl, rfl, by omega, ht⟩, j, ⟨rfl, by omega⟩, j, ⟨rfl, by omega⟩, spr (hmD D t j), hmD D t j, ⟨zuE, Or.inr ⟨rfl, hm⟩⟩, ?_, by omega, ?_⟩, fun c => by omega⟩
    · show -2147483648 ≤ S 37 4 * ((bl (hmD D t j)).length : Int) ∧ S 37 4 * ((bl (hmD D t j)).length : Int) < 2147483648
      rw [h1, e]
      omega
    · refine ih (j + 1) _ (by omega) ?_ (fun i hi => ?_) (fun c a b => (zu_c a).trans ((zu_c b).trans (hf c a b)))
      · show S 37 4 * ((bl (hmD D t j)).length : Int) = _
        rw [h1, e]
      · show zu S 38 j (spr (hmD D t j) : Int) 38 i = _
        rw [zu_if]
        by_cases ei : i = j
        · rw [if_pos ei, ei]
        · rw [if_neg ei]; exact h2 i (by omega)
theorem R_X1_reckon (l : Launch) (a : List zV) (S : zS) (Q : zR2 → zS → Prop) (h : wp_X1_reckon a S Q) : zRs l 3 0 0 yX1_reckon (.code yX1_reckon cX1_reckon 3 (some .int)) a S Q := by
  unfold wp_X1_reckon at h
  split at h
  · obtain ⟨D, ⟨rfl, hD, hC⟩, hs, h⟩ := h
    have eQ := hC.seenHour
    have hQ := hD.seenHour
    have ht := hr_lt hD
    have hrow := (row_le hD ht (dL D) (Nat.le_refl _)).1
    have go : ∀ x : Int, x = (hrD D : Int) → zGs l 3 0 0 F_X1_reckon S 23 [(0, .inr (.inl 37)), (1, .inl x)] [] Q := by
      intro x hx
      subst hx
      refine zwq_ok (Z_X1_reckon l) rfl [62] (fun _ _ _ _ _ _ h => h) 400 (Z_X1_reckon l) ?_
      refine ⟨D, hrD D, ⟨rfl, hD, hC, rfl, ht⟩, fun c => ?_, fun c => ?_⟩
      · unfold spnD at c
        by_cases c4 : 4000 < rowD D (hrD D) (dL D)
        · exact hs c4 _ (fun c a b => zu_c a)
        · rw [if_neg c4] at c; omega
      · unfold spnD at c
        have c4 : ¬ 4000 < rowD D (hrD D) (dL D) := fun c4 => c (by rw [if_pos c4])
        refine ⟨D, ⟨rfl, hD, hC⟩, fun c5 => ?_, fun c5 => ?_⟩
        · have e0 : erD D = false := by
            cases he : erD D
            · rfl
            · rw [he] at c5; exact absurd c5 (by decide)
          exact L_X1_reckon hD hC ht (h c4) (dL D) 0 _ (by omega) (by rw [e0]; rfl) (fun i hi => absurd hi (Nat.not_lt_zero i)) (fun c a b => zu_c a)
        · have e0 : erD D = true := by
            cases he : erD D
            · rw [he] at c5; exact absurd rfl c5
            · rfl
          exact L_X1_reckon hD hC ht (h c4) (dL D) 0 _ (by omega) (by rw [e0]; rfl) (fun i hi => absurd hi (Nat.not_lt_zero i)) (fun c a b => zu_c a)
    have eh : hrD D = if dQ D = 0 then 0 else dQ D - 1 := rfl
    refine zRs_of 1 (by decide) rfl rfl ?_; refine zwq_ok (Z_X1_reckon l) rfl [23] (fun _ _ _ _ _ _ h => h) 400 (Z_X1_reckon l) ?_
    refine ⟨fun c => ?_, fun c => ?_⟩
    · exact go 0 (by rw [eh, if_pos (by omega)]; rfl)
    · exact go _ (by rw [eh, if_neg (by omega)]; omega)
  · exact h.elim
