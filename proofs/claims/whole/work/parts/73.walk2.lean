/-! round: the class's best walk -/
def B_X10_worthAt : List (Nat × zC) := []
def O_X10_worthAt : zO := fun j a S K => match j with
  | _ => False
theorem E_X10_worthAt (l : Launch) : ∀ q ∈ B_X10_worthAt, zcok l O_X10_worthAt F_X10_worthAt q.1 q.2 := fun _ h => by cases h
def U_X10_worthAt : List (Nat × zE) := [(0, Sum.inl (4, 0, 0, 0, 1, [])), (1, Sum.inl (18, 10, 2, 0, 4, [])), (4, Sum.inl (2, 1, 0, 0, 5, [])), (5, Sum.inl (0, 0, 0, 8, 7, [])), (7, Sum.inl (9, 2, 0, 0, 8, [])), (8, Sum.inl (4, 0, 0, 0, 9, [])), (9, Sum.inl (18, 10, 3, 0, 12, [])), (12, Sum.inl (2, 1, 0, 0, 13, [])), (13, Sum.inl (20, 0, 0, 0, 14, [])), (14, Sum.inl (9, 0, 0, 0, 15, [])), (15, Sum.inl (20, 0, 0, 0, 16, [])), (16, Sum.inl (27, 0, 0, 0, 17, []))]
theorem Z_X10_worthAt (l : Launch) : ∀ q ∈ U_X10_worthAt, zTok l O_X10_worthAt F_X10_worthAt q := zU_ok rfl rfl rfl K_X10_worthAt (E_X10_worthAt l)
/-- the weights and a row -/
def rvC (S : zS) (D : zD) (h n : Nat) (row : Nat → Nat) : Prop := weC S D h n ∧ rwC S D n row
def wp_X10_worthAt (a : List zV) (S : zS) (K : zR2 → zS → Prop) : Prop := match a with
  | [.inr (.inl c), .inl x] => ∃ (D : zD) (h n s : Nat) (row : Nat → Nat), (c = 42 ∧ dR D ≤ 8 ∧ rvC S D h n row ∧ n ≤ 6 ∧ x = (s : Int) ∧ s < n) ∧ K (.inl (some (.inl (GnD D h row s : Int)))) S
  | _ => False
theorem R_X10_worthAt (l : Launch) (a : List zV) (S : zS) (Q : zR2 → zS → Prop) (h : wp_X10_worthAt a S Q) : zRs l 0 0 0 yX10_worthAt (.code yX10_worthAt cX10_worthAt 2 (some .int)) a S Q := by
  unfold wp_X10_worthAt at h
  split at h
  · obtain ⟨D, h, n, s, row, ⟨rfl, h8, ⟨hw, hr⟩, hn, rfl, hs⟩, k⟩ := h
    obtain ⟨r1, r2⟩ := hr s hs
    have e := hw s hs (row s) r2
    have k : Q (.inl (some (.inl (worD D (row s) (h + s) : Int)))) S := k
    rw [← e] at k
    refine zRs_of 10 (by decide) rfl rfl ?_; refine zwq_ok (Z_X10_worthAt l) rfl [] (fun _ _ _ _ _ _ h => h) 400 (Z_X10_worthAt l) ?_
    exact ⟨by omega, s, ⟨rfl, by omega⟩, by omega, 8 * s + row s, ⟨by omega, by omega⟩, k⟩
  · exact h.elim
def B_X10_isLook : List (Nat × zC) := [(2, (0, 0, 1, 0, 0, 0, 10)), (46, (0, 0, 1, 0, 0, 0, 10))]
def O_X10_isLook : zO := fun j a S K => match j with
  | 0 => wp_X10_worthAt a S K
  | _ => False
theorem E_X10_isLook (l : Launch) : ∀ q ∈ B_X10_isLook, zcok l O_X10_isLook F_X10_isLook q.1 q.2 := List.forall_mem_cons.mpr ⟨⟨63, yX10_worthAt, cX10_worthAt, 2, some .int, by decide +kernel, C_10_63, W_X10_worthAt, I_X10_worthAt, S_X10_worthAt, rfl, rfl, R_X10_worthAt l⟩, List.forall_mem_cons.mpr ⟨⟨63, yX10_worthAt, cX10_worthAt, 2, some .int, by decide +kernel, C_10_63, W_X10_worthAt, I_X10_worthAt, S_X10_worthAt, rfl, rfl, R_X10_worthAt l⟩, fun _ h => by cases h⟩⟩
def U_X10_isLook : List (Nat × zE) := [(0, Sum.inl (4, 0, 0, 0, 1, [])), (1, Sum.inl (2, 1, 0, 0, 2, [])), (2, Sum.inr (0, 0, 1, 0, 0, 0, 10)), (5, Sum.inl (5, 3, 0, 0, 6, [])), (6, Sum.inl (2, 3, 0, 0, 7, [])), (7, Sum.inl (17, 0, 10, 0, 12, [])), (10, Sum.inl (0, 0, 0, 0, 11, [])), (11, Sum.inl (27, 0, 0, 0, 12, [])), (12, Sum.inl (0, 0, 0, 0, 13, [])), (13, Sum.inl (5, 4, 0, 0, 15, [])), (15, Sum.inl (2, 4, 0, 0, 17, [])), (17, Sum.inl (2, 2, 0, 0, 18, [])), (18, Sum.inl (16, 1, 21, 0, 77, [])), (21, Sum.inl (2, 4, 0, 0, 23, [])), (23, Sum.inl (2, 1, 0, 0, 24, [])), (24, Sum.inl (16, 0, 71, 0, 27, [])), (27, Sum.inl (4, 0, 0, 0, 28, [])), (28, Sum.inl (18, 10, 3, 0, 31, [])), (31, Sum.inl (2, 4, 0, 0, 33, [])), (33, Sum.inl (20, 0, 0, 0, 34, [])), (34, Sum.inl (4, 0, 0, 0, 35, [])), (35, Sum.inl (18, 10, 3, 0, 38, [])), (38, Sum.inl (2, 1, 0, 0, 39, [])), (39, Sum.inl (20, 0, 0, 0, 40, [])), (40, Sum.inl (16, 0, 43, 0, 71, [])), (43, Sum.inl (4, 0, 0, 0, 44, [])), (44, Sum.inl (2, 4, 0, 0, 46, [])), (46, Sum.inr (0, 0, 1, 0, 0, 0, 10)), (49, Sum.inl (5, 5, 0, 0, 51, [])), (51, Sum.inl (2, 5, 0, 0, 53, [])), (53, Sum.inl (2, 3, 0, 0, 54, [])), (54, Sum.inl (16, 2, 69, 0, 57, [])), (57, Sum.inl (2, 5, 0, 0, 59, [])), (59, Sum.inl (2, 3, 0, 0, 60, [])), (60, Sum.inl (16, 0, 63, 0, 71, [])), (63, Sum.inl (2, 4, 0, 0, 65, [])), (65, Sum.inl (2, 1, 0, 0, 66, [])), (66, Sum.inl (16, 1, 69, 0, 71, [])), (69, Sum.inl (0, 0, 0, 0, 70, [])), (70, Sum.inl (27, 0, 0, 0, 71, [])), (71, Sum.inl (8, 4, 0, 1, 74, [])), (74, Sum.inl (15, 0, 0, 0, 15, [])), (77, Sum.inl (0, 0, 0, 1, 78, [])), (78, Sum.inl (27, 0, 0, 0, 79, []))]
theorem Z_X10_isLook (l : Launch) : ∀ q ∈ U_X10_isLook, zTok l O_X10_isLook F_X10_isLook q := zU_ok rfl rfl rfl K_X10_isLook (E_X10_isLook l)
def wp_X10_isLook (a : List zV) (S : zS) (K : zR2 → zS → Prop) : Prop := match a with
  | [.inr (.inl c), .inl x, .inl y] => ∃ (D : zD) (h n s : Nat) (row : Nat → Nat), (c = 42 ∧ dR D ≤ 8 ∧ rvC S D h n row ∧ n ≤ 6 ∧ x = (s : Int) ∧ s < n ∧ y = (n : Int)) ∧ K (.inl (some (.inl (bti (lkB (GnD D h row) row n s) : Int)))) S
  | _ => False
theorem L_X10_isLook {l : Launch} {S : zS} {Q : zR2 → zS → Prop} {D : zD} {h n s : Nat} {row : Nat → Nat} (h8 : dR D ≤ 8) (hv : rvC S D h n row) (hn : n ≤ 6) (hs : s < n) (f : Nat) : ∀ o, o + f = n → Q (.inl (some (.inl (bti (lkS (GnD D h row) row s f o) : Int)))) S → zGs l 1 0 0 F_X10_isLook S 15 [(0, .inr (.inl 42)), (1, .inl (s : Int)), (2, .inl (n : Int)), (3, .inl (GnD D h row s : Int)), (4, .inl (o : Int))] [] Q := by
  obtain ⟨rs1, rs2⟩ := hv.2 s hs
  induction f with
  | zero =>
    intro o ho k
    refine zwq_ok (Z_X10_isLook l) rfl [15] (fun _ _ _ _ _ _ h => h) 400 (Z_X10_isLook l) ?_
    exact ⟨fun c => by omega, fun c => ⟨Or.inr rfl, k⟩⟩
  | succ f ih =>
    intro o ho k
    obtain ⟨ro1, ro2⟩ := hv.2 o (by omega)
    have k : Q (.inl (some (.inl (bti (bif !(Nat.beq o s) && (Nat.beq (row o) (row s) && (Nat.blt (GnD D h row s) (GnD D h row o) || (Nat.beq (GnD D h row o) (GnD D h row s) && Nat.blt o s))) then false else lkS (GnD D h row) row s f (o + 1)) : Int)))) S := k
    have nx : (!(Nat.beq o s) && (Nat.beq (row o) (row s) && (Nat.blt (GnD D h row s) (GnD D h row o) || (Nat.beq (GnD D h row o) (GnD D h row s) && Nat.blt o s)))) = false → zGs l 1 0 0 F_X10_isLook S 15 [(0, .inr (.inl 42)), (1, .inl (s : Int)), (2, .inl (n : Int)), (3, .inl (GnD D h row s : Int)), (4, .inl ((o : Int) + 1))] [] Q := fun c => by
      rw [c] at k
      exact ih (o + 1) (by omega) k
    refine zwq_ok (Z_X10_isLook l) rfl [15] (fun _ _ _ _ _ _ h => h) 400 (Z_X10_isLook l) ?_
    refine ⟨fun c => ⟨fun c2 => ⟨by omega, ?_⟩, fun c2 => ⟨o, ⟨rfl, by omega⟩, s, ⟨rfl, by omega⟩, fun c3 => ⟨D, h, n, o, row, ⟨rfl, h8, hv, hn, rfl, by omega⟩, fun c4 => ⟨Or.inl rfl, ?_⟩, fun c4 => ⟨fun c5 => ⟨fun c6 => ⟨Or.inl rfl, ?_⟩, fun c6 => ⟨by omega, ?_⟩⟩, fun c5 => ⟨by omega, ?_⟩⟩⟩, fun c3 => ⟨by omega, ?_⟩⟩⟩, fun c => by omega⟩
    · exact nx (by rw [show o = s by omega, Nat.beq_refl]; rfl)
    · rw [beqN (show o ≠ s by omega), show row o = row s by omega, Nat.beq_refl, bltT (by omega)] at k
      exact k
    · rw [beqN (show o ≠ s by omega), show row o = row s by omega, Nat.beq_refl, show GnD D h row o = GnD D h row s by omega, Nat.beq_refl, bltT (show o < s by omega), Bool.and_true, Bool.or_true] at k
      exact k
    · refine zGs.sub (lo := [(0, _), (1, _), (2, _), (3, _), (4, _), (5, _)]) (nx ?_) (fun q hq => by simp only [List.mem_cons, List.not_mem_nil, or_false] at hq; rcases hq with rfl | rfl | rfl | rfl | rfl <;> first | exact .head _ | exact .tail _ (.head _) | exact .tail _ (.tail _ (.head _)) | exact .tail _ (.tail _ (.tail _ (.head _))) | exact .tail _ (.tail _ (.tail _ (.tail _ (.head _)))) | exact .tail _ (.tail _ (.tail _ (.tail _ (.tail _ (.head _))))) | exact .tail _ (.tail _ (.tail _ (.tail _ (.tail _ (.tail _ (.head _)))))) | exact .tail _ (.tail _ (.tail _ (.tail _ (.tail _ (.tail _ (.tail _ (.head _))))))) | exact .tail _ (.tail _ (.tail _ (.tail _ (.tail _ (.tail _ (.tail _ (.tail _ (.head _)))))))) | exact .tail _ (.tail _ (.tail _ (.tail _ (.tail _ (.tail _ (.tail _ (.tail _ (.tail _ (.head _))))))))) | exact .tail _ (.tail _ (.tail _ (.tail _ (.tail _ (.tail _ (.tail _ (.tail _ (.tail _ (.tail _ (.head _)))))))))) | exact .tail _ (.tail _ (.tail _ (.tail _ (.tail _ (.tail _ (.tail _ (.tail _ (.tail _ (.tail _ (.tail _ (.head _))))))))))) | exact .tail _ (.tail _ (.tail _ (.tail _ (.tail _ (.tail _ (.tail _ (.tail _ (.tail _ (.tail _ (.tail _ (.tail _ (.head _)))))))))))) | exact .tail _ (.tail _ (.tail _ (.tail _ (.tail _ (.tail _ (.tail _ (.tail _ (.tail _ (.tail _ (.tail _ (.tail _ (.tail _ (.head _))))))))))))))
      rw [bltF (show ¬ GnD D h row s < GnD D h row o by omega), bltF (show ¬ o < s by omega)]
      simp
    · refine zGs.sub (lo := [(0, _), (1, _), (2, _), (3, _), (4, _), (5, _)]) (nx ?_) (fun q hq => by simp only [List.mem_cons, List.not_mem_nil, or_false] at hq; rcases hq with rfl | rfl | rfl | rfl | rfl <;> first | exact .head _ | exact .tail _ (.head _) | exact .tail _ (.tail _ (.head _)) | exact .tail _ (.tail _ (.tail _ (.head _))) | exact .tail _ (.tail _ (.tail _ (.tail _ (.head _)))) | exact .tail _ (.tail _ (.tail _ (.tail _ (.tail _ (.head _))))) | exact .tail _ (.tail _ (.tail _ (.tail _ (.tail _ (.tail _ (.head _)))))) | exact .tail _ (.tail _ (.tail _ (.tail _ (.tail _ (.tail _ (.tail _ (.head _))))))) | exact .tail _ (.tail _ (.tail _ (.tail _ (.tail _ (.tail _ (.tail _ (.tail _ (.head _)))))))) | exact .tail _ (.tail _ (.tail _ (.tail _ (.tail _ (.tail _ (.tail _ (.tail _ (.tail _ (.head _))))))))) | exact .tail _ (.tail _ (.tail _ (.tail _ (.tail _ (.tail _ (.tail _ (.tail _ (.tail _ (.tail _ (.head _)))))))))) | exact .tail _ (.tail _ (.tail _ (.tail _ (.tail _ (.tail _ (.tail _ (.tail _ (.tail _ (.tail _ (.tail _ (.head _))))))))))) | exact .tail _ (.tail _ (.tail _ (.tail _ (.tail _ (.tail _ (.tail _ (.tail _ (.tail _ (.tail _ (.tail _ (.tail _ (.head _)))))))))))) | exact .tail _ (.tail _ (.tail _ (.tail _ (.tail _ (.tail _ (.tail _ (.tail _ (.tail _ (.tail _ (.tail _ (.tail _ (.tail _ (.head _))))))))))))))
      rw [bltF (show ¬ GnD D h row s < GnD D h row o by omega), beqN (show GnD D h row o ≠ GnD D h row s by omega)]
      simp
    · exact nx (by rw [beqN (show row o ≠ row s by omega)]; simp)
theorem R_X10_isLook (l : Launch) (a : List zV) (S : zS) (Q : zR2 → zS → Prop) (h : wp_X10_isLook a S Q) : zRs l 1 0 0 yX10_isLook (.code yX10_isLook cX10_isLook 6 (some .boolean)) a S Q := by
  unfold wp_X10_isLook at h
  split at h
  · obtain ⟨D, h, n, s, row, ⟨rfl, h8, hv, hn, rfl, hs, rfl⟩, k⟩ := h
    unfold lkB at k
    refine zRs_of 10 (by decide) rfl rfl ?_; refine zwq_ok (Z_X10_isLook l) rfl [15] (fun _ _ _ _ _ _ h => h) 400 (Z_X10_isLook l) ?_
    refine ⟨D, h, n, s, row, ⟨rfl, h8, hv, hn, rfl, hs⟩, fun c => ⟨Or.inl rfl, ?_⟩, fun c => ?_⟩
    · rw [show GnD D h row s = 0 by omega] at k
      exact k
    · rw [beqN (show GnD D h row s ≠ 0 by omega)] at k
      exact L_X10_isLook h8 hv hn hs n 0 (by omega) k
  · exact h.elim
def B_X10_worthOfRow : List (Nat × zC) := [(12, (0, 0, 2, 1, 0, 0, 10)), (21, (0, 1, 1, 0, 0, 0, 10))]
def O_X10_worthOfRow : zO := fun j a S K => match j with
  | 0 => wp_X10_isLook a S K
  | 1 => wp_X10_worthAt a S K
  | _ => False
theorem E_X10_worthOfRow (l : Launch) : ∀ q ∈ B_X10_worthOfRow, zcok l O_X10_worthOfRow F_X10_worthOfRow q.1 q.2 := List.forall_mem_cons.mpr ⟨⟨59, yX10_isLook, cX10_isLook, 6, some .boolean, by decide +kernel, C_10_59, W_X10_isLook, I_X10_isLook, S_X10_isLook, rfl, rfl, R_X10_isLook l⟩, List.forall_mem_cons.mpr ⟨⟨63, yX10_worthAt, cX10_worthAt, 2, some .int, by decide +kernel, C_10_63, W_X10_worthAt, I_X10_worthAt, S_X10_worthAt, rfl, rfl, R_X10_worthAt l⟩, fun _ h => by cases h⟩⟩
def U_X10_worthOfRow : List (Nat × zE) := [(0, Sum.inl (0, 0, 0, 0, 1, [])), (1, Sum.inl (5, 2, 0, 0, 2, [])), (2, Sum.inl (0, 0, 0, 0, 3, [])), (3, Sum.inl (5, 3, 0, 0, 4, [])), (4, Sum.inl (2, 3, 0, 0, 5, [])), (5, Sum.inl (2, 1, 0, 0, 6, [])), (6, Sum.inl (16, 1, 9, 0, 32, [])), (9, Sum.inl (4, 0, 0, 0, 10, [])), (10, Sum.inl (2, 3, 0, 0, 11, [])), (11, Sum.inl (2, 1, 0, 0, 12, [])), (12, Sum.inr (0, 0, 2, 1, 0, 0, 10)), (15, Sum.inl (17, 0, 26, 0, 18, [])), (18, Sum.inl (2, 2, 0, 0, 19, [])), (19, Sum.inl (4, 0, 0, 0, 20, [])), (20, Sum.inl (2, 3, 0, 0, 21, [])), (21, Sum.inr (0, 1, 1, 0, 0, 0, 10)), (24, Sum.inl (9, 0, 0, 0, 25, [])), (25, Sum.inl (5, 2, 0, 0, 26, [])), (26, Sum.inl (8, 3, 0, 1, 29, [])), (29, Sum.inl (15, 0, 0, 0, 4, [])), (32, Sum.inl (2, 2, 0, 0, 33, [])), (33, Sum.inl (27, 0, 0, 0, 34, []))]
theorem Z_X10_worthOfRow (l : Launch) : ∀ q ∈ U_X10_worthOfRow, zTok l O_X10_worthOfRow F_X10_worthOfRow q := zU_ok rfl rfl rfl K_X10_worthOfRow (E_X10_worthOfRow l)
theorem Gn_le {D : zD} (hD : dOK D) {h n s : Nat} {row : Nat → Nat} (hr : row s < dR D) (hh : h + n ≤ 24) (hs : s < n) : GnD D h row s ≤ 49397040 := wor_le hD hr (by omega)
def wp_X10_worthOfRow (a : List zV) (S : zS) (K : zR2 → zS → Prop) : Prop := match a with
  | [.inr (.inl c), .inl y] => ∃ (D : zD) (h n : Nat) (row : Nat → Nat), (c = 42 ∧ dOK D ∧ rvC S D h n row ∧ n ≤ 6 ∧ h + n ≤ 24 ∧ y = (n : Int)) ∧ K (.inl (some (.inl (vaC D h n row : Int)))) S
  | _ => False
theorem va_le {D : zD} (hD : dOK D) {h n : Nat} {row : Nat → Nat} (hr : ∀ s, s < n → row s < dR D) (hh : h + n ≤ 24) : ∀ j, j ≤ n → suN (fun s => bif lkB (GnD D h row) row n s then GnD D h row s else 0) j ≤ j * 49397040 := by
  intro j hj
  refine suN_le j (fun s hs => ?_)
  cases lkB (GnD D h row) row n s
  · exact Nat.zero_le _
  · exact Gn_le hD (hr s (by omega)) hh (by omega)
theorem L_X10_worthOfRow {l : Launch} {S : zS} {Q : zR2 → zS → Prop} {D : zD} {h n : Nat} {row : Nat → Nat} (hD : dOK D) (hv : rvC S D h n row) (hn : n ≤ 6) (hh : h + n ≤ 24) (k : Q (.inl (some (.inl (vaC D h n row : Int)))) S) (f : Nat) : ∀ s, s + f = n → zGs l 2 0 0 F_X10_worthOfRow S 4 [(0, .inr (.inl 42)), (1, .inl (n : Int)), (2, .inl (suN (fun s => bif lkB (GnD D h row) row n s then GnD D h row s else 0) s : Int)), (3, .inl (s : Int))] [] Q := by
  have h8 := hD.rooms
  induction f with
  | zero =>
    intro s hs
    have : s = n := by omega
    subst this
    refine zwq_ok (Z_X10_worthOfRow l) rfl [4] (fun _ _ _ _ _ _ h => h) 400 (Z_X10_worthOfRow l) ?_
    exact ⟨fun c => by omega, fun c => k⟩
  | succ f ih =>
    intro s hs
    have hle := va_le hD (h := h) (row := row) (fun s hs => (hv.2 s hs).2) hh s (by omega)
    have hG := Gn_le hD (hv.2 s (by omega)).2 hh (show s < n by omega)
    have this := ih (s + 1) (by omega)
    have es : suN (fun s => bif lkB (GnD D h row) row n s then GnD D h row s else 0) (s + 1) = suN (fun s => bif lkB (GnD D h row) row n s then GnD D h row s else 0) s + (bif lkB (GnD D h row) row n s then GnD D h row s else 0) := rfl
    rw [es] at this
    refine zwq_ok (Z_X10_worthOfRow l) rfl [4] (fun _ _ _ _ _ _ h => h) 400 (Z_X10_worthOfRow l) ?_
    refine ⟨fun c => ⟨D, h, n, s, row, ⟨rfl, h8, hv, hn, rfl, by omega, rfl⟩, fun c2 => ⟨by omega, ?_⟩, fun c2 => ⟨D, h, n, s, row, ⟨rfl, h8, hv, hn, rfl, by omega⟩, by omega, by omega, ?_⟩⟩, fun c => by omega⟩
    · have e : lkB (GnD D h row) row n s = false := by
        cases hb : lkB (GnD D h row) row n s
        · rfl
        · rw [hb] at c2; exact absurd c2 (by decide)
      rw [e] at this
      exact this
    · have e : lkB (GnD D h row) row n s = true := by
        cases hb : lkB (GnD D h row) row n s
        · rw [hb] at c2; exact absurd rfl c2
        · rfl
      rw [e] at this
      exact this
theorem R_X10_worthOfRow (l : Launch) (a : List zV) (S : zS) (Q : zR2 → zS → Prop) (h : wp_X10_worthOfRow a S Q) : zRs l 2 0 0 yX10_worthOfRow (.code yX10_worthOfRow cX10_worthOfRow 4 (some .int)) a S Q := by
  unfold wp_X10_worthOfRow at h
  split at h
  · obtain ⟨D, h, n, row, ⟨rfl, hD, hv, hn, hh, rfl⟩, k⟩ := h
    refine zRs_of 10 (by decide) rfl rfl ?_; refine zwq_ok (Z_X10_worthOfRow l) rfl [4] (fun _ _ _ _ _ _ h => h) 400 (Z_X10_worthOfRow l) ?_
    exact L_X10_worthOfRow hD hv hn hh k n 0 (by omega)
  · exact h.elim
def B_X10_keepRow : List (Nat × zC) := [(27, (0, 0, 2, 1, 0, 0, 10))]
def O_X10_keepRow : zO := fun j a S K => match j with
  | 0 => wp_X10_isLook a S K
  | _ => False
theorem E_X10_keepRow (l : Launch) : ∀ q ∈ B_X10_keepRow, zcok l O_X10_keepRow F_X10_keepRow q.1 q.2 := List.forall_mem_cons.mpr ⟨⟨59, yX10_isLook, cX10_isLook, 6, some .boolean, by decide +kernel, C_10_59, W_X10_isLook, I_X10_isLook, S_X10_isLook, rfl, rfl, R_X10_isLook l⟩, fun _ h => by cases h⟩
def U_X10_keepRow : List (Nat × zE) := [(0, Sum.inl (0, 0, 0, 0, 1, [])), (1, Sum.inl (5, 2, 0, 0, 2, [])), (2, Sum.inl (2, 2, 0, 0, 3, [])), (3, Sum.inl (2, 1, 0, 0, 4, [])), (4, Sum.inl (16, 1, 7, 0, 45, [])), (7, Sum.inl (4, 0, 0, 0, 8, [])), (8, Sum.inl (18, 10, 4, 0, 11, [])), (11, Sum.inl (2, 2, 0, 0, 12, [])), (12, Sum.inl (4, 0, 0, 0, 13, [])), (13, Sum.inl (18, 10, 3, 0, 16, [])), (16, Sum.inl (2, 2, 0, 0, 17, [])), (17, Sum.inl (20, 0, 0, 0, 18, [])), (18, Sum.inl (21, 0, 0, 0, 19, [])), (19, Sum.inl (4, 0, 0, 0, 20, [])), (20, Sum.inl (18, 10, 5, 0, 23, [])), (23, Sum.inl (2, 2, 0, 0, 24, [])), (24, Sum.inl (4, 0, 0, 0, 25, [])), (25, Sum.inl (2, 2, 0, 0, 26, [])), (26, Sum.inl (2, 1, 0, 0, 27, [])), (27, Sum.inr (0, 0, 2, 1, 0, 0, 10)), (30, Sum.inl (17, 0, 37, 0, 33, [])), (33, Sum.inl (0, 0, 0, 1, 34, [])), (34, Sum.inl (15, 0, 0, 0, 38, [])), (37, Sum.inl (0, 0, 0, 0, 38, [])), (38, Sum.inl (21, 0, 0, 0, 39, [])), (39, Sum.inl (8, 2, 0, 1, 42, [])), (42, Sum.inl (15, 0, 0, 0, 2, [])), (45, Sum.inl (4, 0, 0, 0, 46, [])), (46, Sum.inl (2, 1, 0, 0, 47, [])), (47, Sum.inl (19, 10, 6, 0, 50, [])), (50, Sum.inl (29, 0, 0, 0, 51, []))]
theorem Z_X10_keepRow (l : Launch) : ∀ q ∈ U_X10_keepRow, zTok l O_X10_keepRow F_X10_keepRow q := zU_ok rfl rfl rfl K_X10_keepRow (E_X10_keepRow l)
/-- the walk that is kept -/
def kpC (S : zS) (D : zD) (h n : Nat) (row : Nat → Nat) (j : Nat) : Prop := ∀ s, s < j → S 45 s = (row s : Int) ∧ S 46 s = (bti (lkB (GnD D h row) row n s) : Int)
def frW (S S0 : zS) : Prop := ∀ c i, c ≠ 45 → c ≠ 46 → (c ≠ 42 ∨ i ≠ 6) → S c i = S0 c i
def wp_X10_keepRow (a : List zV) (S : zS) (K : zR2 → zS → Prop) : Prop := match a with
  | [.inr (.inl c), .inl y] => ∃ (D : zD) (h n : Nat) (row : Nat → Nat), (c = 42 ∧ dR D ≤ 8 ∧ rvC S D h n row ∧ n ≤ 6 ∧ y = (n : Int)) ∧ ∀ S', kpC S' D h n row n → S' 42 6 = (n : Int) → frW S' S → K (.inl none) S'
  | _ => False
theorem L_X10_keepRow {l : Launch} {S0 : zS} {Q : zR2 → zS → Prop} {D : zD} {h n : Nat} {row : Nat → Nat} (h8 : dR D ≤ 8) (hv : rvC S0 D h n row) (hn : n ≤ 6) (k : ∀ S', kpC S' D h n row n → S' 42 6 = (n : Int) → frW S' S0 → Q (.inl none) S') (f : Nat) : ∀ s S, s + f = n → kpC S D h n row s → frW S S0 → zGs l 2 0 0 F_X10_keepRow S 2 [(0, .inr (.inl 42)), (1, .inl (n : Int)), (2, .inl (s : Int))] [] Q := by
  induction f with
  | zero =>
    intro s S hs hk hf
    have : s = n := by omega
    subst this
    have := k (zu S 42 6 (s : Int)) (fun i hi => hk i hi) rfl (fun c i a b d => (zuN d).trans (hf c i a b d))
    refine zwq_ok (Z_X10_keepRow l) rfl [2] (fun _ _ _ _ _ _ h => h) 400 (Z_X10_keepRow l) ?_
    exact ⟨fun c => by omega, fun c => this⟩
  | succ f ih =>
    intro s S hs hk hf
    have hvS : rvC S D h n row := ⟨fun i hi q hq => by rw [hf 43 _ (by omega) (by omega) (Or.inl (by omega))]; exact hv.1 i hi q hq, fun i hi => by rw [hf 44 _ (by omega) (by omega) (Or.inl (by omega))]; exact hv.2 i hi⟩
    have hrs := (hvS.2 s (by omega)).1
    have hv2 : rvC (zu S 45 s (S 44 s)) D h n row := hvS
    have nx : ∀ v : Int, v = (bti (lkB (GnD D h row) row n s) : Int) → zGs l 2 0 0 F_X10_keepRow (zu (zu S 45 s (S 44 s)) 46 s v) 2 [(0, .inr (.inl 42)), (1, .inl (n : Int)), (2, .inl ((s : Int) + 1))] [] Q := fun v hv => by
      subst hv
      refine ih (s + 1) _ (by omega) (fun i hi => ?_) (fun c i a b d => (zuN (Or.inl b)).trans ((zuN (Or.inl a)).trans (hf c i a b d)))
      by_cases e : i = s
      · subst e
        refine ⟨?_, zuE⟩
        show zu S 45 i (S 44 i) 45 i = _
        rw [zuE]; exact hrs
      · refine ⟨?_, ?_⟩
        · show zu S 45 s (S 44 s) 45 i = _
          rw [zuN (Or.inr e)]; exact (hk i (by omega)).1
        · rw [zuN (Or.inr e)]; exact (hk i (by omega)).2
    refine zwq_ok (Z_X10_keepRow l) rfl [2] (fun _ _ _ _ _ _ h => h) 400 (Z_X10_keepRow l) ?_
    refine ⟨fun c => ⟨s, ⟨rfl, by omega⟩, s, ⟨rfl, by omega⟩, D, h, n, s, row, ⟨rfl, h8, hv2, hn, rfl, by omega, rfl⟩, fun c2 => ⟨s, ⟨rfl, by omega⟩, by omega, ?_⟩, fun c2 => ⟨s, ⟨rfl, by omega⟩, by omega, ?_⟩⟩, fun c => by omega⟩
    · exact nx 0 c2.symm
    · refine nx 1 ?_
      have := bti_le (lkB (GnD D h row) row n s)
      omega
theorem R_X10_keepRow (l : Launch) (a : List zV) (S : zS) (Q : zR2 → zS → Prop) (h : wp_X10_keepRow a S Q) : zRs l 2 0 0 yX10_keepRow (.code yX10_keepRow cX10_keepRow 3 (none)) a S Q := by
  unfold wp_X10_keepRow at h
  split at h
  · obtain ⟨D, h, n, row, ⟨rfl, h8, hv, hn, rfl⟩, k⟩ := h
    refine zRs_of 10 (by decide) rfl rfl ?_; refine zwq_ok (Z_X10_keepRow l) rfl [2] (fun _ _ _ _ _ _ h => h) 400 (Z_X10_keepRow l) ?_
    exact L_X10_keepRow (S0 := S) h8 hv hn k n 0 S (by omega) (fun i hi => absurd hi (Nat.not_lt_zero i)) (fun _ _ _ _ _ => rfl)
  · exact h.elim
def B_X10_keepBest : List (Nat × zC) := [(3, (0, 0, 2, 4, 0, 0, 10)), (48, (0, 1, 3, 0, 0, 0, 10)), (56, (0, 2, 1, 2, 0, 0, 10)), (74, (0, 3, 1, 2, 0, 0, 10))]
def O_X10_keepBest : zO := fun j a S K => match j with
  | 0 => wp_X10_weigh a S K
  | 1 => wp_X10_layRow a S K
  | 2 => wp_X10_worthOfRow a S K
  | 3 => wp_X10_keepRow a S K
  | _ => False
theorem E_X10_keepBest (l : Launch) : ∀ q ∈ B_X10_keepBest, zcok l O_X10_keepBest F_X10_keepBest q.1 q.2 := List.forall_mem_cons.mpr ⟨⟨32, yX10_weigh, cX10_weigh, 5, none, by decide +kernel, C_10_32, W_X10_weigh, I_X10_weigh, S_X10_weigh, rfl, rfl, R_X10_weigh l⟩, List.forall_mem_cons.mpr ⟨⟨36, yX10_layRow, cX10_layRow, 6, some .boolean, by decide +kernel, C_10_36, W_X10_layRow, I_X10_layRow, S_X10_layRow, rfl, rfl, R_X10_layRow l⟩, List.forall_mem_cons.mpr ⟨⟨40, yX10_worthOfRow, cX10_worthOfRow, 4, some .int, by decide +kernel, C_10_40, W_X10_worthOfRow, I_X10_worthOfRow, S_X10_worthOfRow, rfl, rfl, R_X10_worthOfRow l⟩, List.forall_mem_cons.mpr ⟨⟨44, yX10_keepRow, cX10_keepRow, 3, none, by decide +kernel, C_10_44, W_X10_keepRow, I_X10_keepRow, S_X10_keepRow, rfl, rfl, R_X10_keepRow l⟩, fun _ h => by cases h⟩⟩⟩⟩
def U_X10_keepBest : List (Nat × zE) := [(0, Sum.inl (4, 0, 0, 0, 1, [])), (1, Sum.inl (2, 2, 0, 0, 2, [])), (2, Sum.inl (2, 3, 0, 0, 3, [])), (3, Sum.inr (0, 0, 2, 4, 0, 0, 10)), (6, Sum.inl (0, 0, 0, 1, 7, [])), (7, Sum.inl (5, 4, 0, 0, 9, [])), (9, Sum.inl (0, 0, 0, 1, 10, [])), (10, Sum.inl (5, 5, 0, 0, 12, [])), (12, Sum.inl (2, 5, 0, 0, 14, [])), (14, Sum.inl (2, 3, 0, 0, 15, [])), (15, Sum.inl (16, 1, 18, 0, 30, [])), (18, Sum.inl (2, 4, 0, 0, 20, [])), (20, Sum.inl (0, 0, 0, 3, 21, [])), (21, Sum.inl (9, 2, 0, 0, 22, [])), (22, Sum.inl (5, 4, 0, 0, 24, [])), (24, Sum.inl (8, 5, 0, 1, 27, [])), (27, Sum.inl (15, 0, 0, 0, 12, [])), (30, Sum.inl (0, 0, 0, (-1), 31, [])), (31, Sum.inl (5, 5, 0, 0, 33, [])), (33, Sum.inl (0, 0, 0, 0, 34, [])), (34, Sum.inl (5, 6, 0, 0, 36, [])), (36, Sum.inl (2, 6, 0, 0, 38, [])), (38, Sum.inl (2, 4, 0, 0, 40, [])), (40, Sum.inl (16, 1, 43, 0, 83, [])), (43, Sum.inl (4, 0, 0, 0, 44, [])), (44, Sum.inl (2, 6, 0, 0, 46, [])), (46, Sum.inl (2, 1, 0, 0, 47, [])), (47, Sum.inl (2, 3, 0, 0, 48, [])), (48, Sum.inr (0, 1, 3, 0, 0, 0, 10)), (51, Sum.inl (17, 0, 77, 0, 54, [])), (54, Sum.inl (4, 0, 0, 0, 55, [])), (55, Sum.inl (2, 3, 0, 0, 56, [])), (56, Sum.inr (0, 2, 1, 2, 0, 0, 10)), (59, Sum.inl (5, 7, 0, 0, 61, [])), (61, Sum.inl (2, 7, 0, 0, 63, [])), (63, Sum.inl (2, 5, 0, 0, 65, [])), (65, Sum.inl (16, 2, 68, 0, 77, [])), (68, Sum.inl (2, 7, 0, 0, 70, [])), (70, Sum.inl (5, 5, 0, 0, 72, [])), (72, Sum.inl (4, 0, 0, 0, 73, [])), (73, Sum.inl (2, 3, 0, 0, 74, [])), (74, Sum.inr (0, 3, 1, 2, 0, 0, 10)), (77, Sum.inl (8, 6, 0, 1, 80, [])), (80, Sum.inl (15, 0, 0, 0, 36, [])), (83, Sum.inl (2, 5, 0, 0, 85, [])), (85, Sum.inl (27, 0, 0, 0, 86, []))]
theorem Z_X10_keepBest (l : Launch) : ∀ q ∈ U_X10_keepBest, zTok l O_X10_keepBest F_X10_keepBest q := zU_ok rfl rfl rfl K_X10_keepBest (E_X10_keepBest l)
theorem foS_ge (V : List Nat → Nat) : ∀ rs b kr, b ≤ (foS V rs b kr).1 := by
  intro rs
  induction rs with
  | nil => intro b kr; exact Int.le_refl b
  | cons x rs ih =>
    intro b kr
    show b ≤ (if b < (V x : Int) then foS V rs (V x : Int) x else foS V rs b kr).1
    split
    · have := ih (V x : Int) x; omega
    · exact ih b kr
theorem wN_ne (R : Nat) : ∀ f p, wN R f p ≠ [] := by
  intro f
  induction f with
  | zero => intro p; exact List.cons_ne_nil _ _
  | succ f ih =>
    intro p h
    have h : (wN R f (lowR p)).map (fun r => lowR p :: r) ++ (aftR R p (lowR p)).flatMap (fun a => (wN R f a).map (fun r => a :: r)) = [] := h
    have := (List.append_eq_nil_iff.mp h).1
    exact ih _ (List.map_eq_nil_iff.mp this)
theorem ro_ge (D : zD) (r h n : Nat) : 0 ≤ (roD D r h n).1 := by
  unfold roD roL
  cases e : wN (dR D) (n - 1) r with
  | nil => exact absurd e (wN_ne _ _ _)
  | cons x rs =>
    show 0 ≤ (if (-1 : Int) < (vaR D h n (r :: x) : Int) then foS (vaR D h n) (rs.map (fun w => r :: w)) (vaR D h n (r :: x) : Int) (r :: x) else _).1
    rw [if_pos (by omega)]
    have := foS_ge (vaR D h n) (rs.map (fun w => r :: w)) (vaR D h n (r :: x) : Int) (r :: x)
    omega
def frV (S S0 : zS) : Prop := ∀ c i, c ≠ 43 → c ≠ 44 → c ≠ 45 → c ≠ 46 → (c ≠ 42 ∨ i ≠ 6) → S c i = S0 c i
theorem cOK.wv {S S0 : zS} {D : zD} (h : cOK S0 D) (hf : frV S S0) : cOK S D := h.fr (fun c a b => funext fun i => hf c i (by omega) (by omega) (by omega) (by omega) (Or.inl (by omega))) (fun c a b => funext fun i => hf c i (by omega) (by omega) (by omega) (by omega) (Or.inl (by omega)))
def wp_X10_keepBest (a : List zV) (S : zS) (K : zR2 → zS → Prop) : Prop := match a with
  | [.inr (.inl c), .inl x, .inl y, .inl z] => ∃ (D : zD) (r h n : Nat), (c = 42 ∧ dOK D ∧ cOK S D ∧ x = (r : Int) ∧ r < dR D ∧ y = (h : Int) ∧ z = (n : Int) ∧ 1 ≤ n ∧ n ≤ 6 ∧ h + n ≤ 24) ∧ ∀ S', kpC S' D h n (fun s => (roD D r h n).2.getD s 0) n → S' 42 6 = (n : Int) → frV S' S → K (.inl (some (.inl (roD D r h n).1))) S'
  | _ => False
section
variable {l : Launch} {S0 : zS} {Q : zR2 → zS → Prop} {D : zD} {r h n : Nat}
theorem L2_X10_keepBest (hD : dOK D) (hC : cOK S0 D) (hr : r < dR D) (hn1 : 1 ≤ n) (hn : n ≤ 6) (hh : h + n ≤ 24) (k : ∀ S', kpC S' D h n (fun s => (roD D r h n).2.getD s 0) n → S' 42 6 = (n : Int) → frV S' S0 → Q (.inl (some (.inl (roD D r h n).1))) S') (f : Nat) : ∀ (w : Nat) (b : Int) (kr : List Nat) (S : zS), w + f = 3 ^ (n - 1) → weC S D h n → -1 ≤ b → (0 ≤ b → kpC S D h n (fun s => kr.getD s 0) n ∧ S 42 6 = (n : Int)) → foS (vaR D h n) ((enW (dR D) (n - 1) r f w).map (fun t => r :: t)) b kr = roD D r h n → frV S S0 → zGs l 5 0 0 F_X10_keepBest S 36 [(0, .inr (.inl 42)), (1, .inl (r : Int)), (2, .inl (h : Int)), (3, .inl (n : Int)), (4, .inl ((3 ^ (n - 1) : Nat) : Int)), (5, .inl b), (6, .inl (w : Int))] [] Q := by
  have h8 := hD.rooms
  have h3 : 3 ^ (n - 1) ≤ 3 ^ 5 := Nat.pow_le_pow_right (by decide) (by omega)
  induction f with
  | zero =>
    intro w b kr S hw hwe hb hk he hf
    have he : (b, kr) = roD D r h n := he
    have hge := ro_ge D r h n
    rw [← he] at k hge
    have hge : 0 ≤ b := hge
    obtain ⟨k1, k2⟩ := hk hge
    have := k S k1 k2 hf
    refine zwq_ok (Z_X10_keepBest l) rfl [36] (fun _ _ _ _ _ _ h => h) 400 (Z_X10_keepBest l) ?_
    exact ⟨fun c => by omega, fun c => this⟩
  | succ f ih =>
    intro w b kr S hw hwe hb hk he hf
    have hCS := hC.wv hf
    have he : foS (vaR D h n) (((wz (dR D) (n - 1) r w).toList ++ enW (dR D) (n - 1) r f (w + 1)).map (fun t => r :: t)) b kr = roD D r h n := he
    refine zwq_ok (Z_X10_keepBest l) rfl [36] (fun _ _ _ _ _ _ h => h) 400 (Z_X10_keepBest l) ?_
    refine ⟨fun c => ⟨D, w, r, n, ⟨rfl, hD, hCS, rfl, rfl, hr, rfl, hn1, hn⟩, fun tl ht S1 r1 f1 => ?_, fun ht S1 f1 => ?_⟩, fun c => by omega⟩
    · rw [ht] at he
      have he : (if b < (vaR D h n (r :: tl) : Int) then foS (vaR D h n) ((enW (dR D) (n - 1) r f (w + 1)).map (fun t => r :: t)) (vaR D h n (r :: tl) : Int) (r :: tl) else foS (vaR D h n) ((enW (dR D) (n - 1) r f (w + 1)).map (fun t => r :: t)) b kr) = roD D r h n := he
      have hwe1 : weC S1 D h n := fun s hs q hq => by rw [f1 43 (by omega)]; exact hwe s hs q hq
      have hf1 : frV S1 S0 := fun c i a1 a2 a3 a4 a5 => by rw [f1 c a2]; exact hf c i a1 a2 a3 a4 a5
      have hC1 := hC.wv hf1
      refine ⟨fun c9 => absurd c9 (by decide), fun _ => ⟨D, h, n, _, ⟨rfl, hD, ⟨hwe1, r1⟩, hn, hh, rfl⟩, fun c2 => ⟨D, h, n, _, ⟨rfl, h8, ⟨hwe1, r1⟩, hn, rfl⟩, fun S2 k1 k2 f2 => ⟨by omega, ?_⟩⟩, fun c2 => ⟨by omega, ?_⟩⟩⟩
      · rw [if_pos (show b < (vaR D h n (r :: tl) : Int) from c2)] at he
        have := ih (w + 1) (vaR D h n (r :: tl) : Int) (r :: tl) S2 (by omega) (fun s hs q hq => by rw [f2 43 _ (by omega) (by omega) (Or.inl (by omega))]; exact hwe1 s hs q hq) (by omega) (fun _ => ⟨k1, k2⟩) he (fun c i a1 a2 a3 a4 a5 => (f2 c i a3 a4 a5).trans (hf1 c i a1 a2 a3 a4 a5))
        exact zGs.sub (lo := [(0, _), (1, _), (2, _), (3, _), (4, _), (5, _), (6, _), (7, _)]) this (fun q hq => by simp only [List.mem_cons, List.not_mem_nil, or_false] at hq; rcases hq with rfl | rfl | rfl | rfl | rfl | rfl | rfl <;> first | exact .head _ | exact .tail _ (.head _) | exact .tail _ (.tail _ (.head _)) | exact .tail _ (.tail _ (.tail _ (.head _))) | exact .tail _ (.tail _ (.tail _ (.tail _ (.head _)))) | exact .tail _ (.tail _ (.tail _ (.tail _ (.tail _ (.head _))))) | exact .tail _ (.tail _ (.tail _ (.tail _ (.tail _ (.tail _ (.head _)))))) | exact .tail _ (.tail _ (.tail _ (.tail _ (.tail _ (.tail _ (.tail _ (.head _))))))) | exact .tail _ (.tail _ (.tail _ (.tail _ (.tail _ (.tail _ (.tail _ (.tail _ (.head _)))))))) | exact .tail _ (.tail _ (.tail _ (.tail _ (.tail _ (.tail _ (.tail _ (.tail _ (.tail _ (.head _))))))))) | exact .tail _ (.tail _ (.tail _ (.tail _ (.tail _ (.tail _ (.tail _ (.tail _ (.tail _ (.tail _ (.head _)))))))))) | exact .tail _ (.tail _ (.tail _ (.tail _ (.tail _ (.tail _ (.tail _ (.tail _ (.tail _ (.tail _ (.tail _ (.head _))))))))))) | exact .tail _ (.tail _ (.tail _ (.tail _ (.tail _ (.tail _ (.tail _ (.tail _ (.tail _ (.tail _ (.tail _ (.tail _ (.head _)))))))))))) | exact .tail _ (.tail _ (.tail _ (.tail _ (.tail _ (.tail _ (.tail _ (.tail _ (.tail _ (.tail _ (.tail _ (.tail _ (.tail _ (.head _))))))))))))))
      · rw [if_neg (show ¬ b < (vaR D h n (r :: tl) : Int) from c2)] at he
        have := ih (w + 1) b kr S1 (by omega) hwe1 hb (fun hb0 => by
          obtain ⟨k1, k2⟩ := hk hb0
          refine ⟨fun s hs => ?_, by rw [f1 42 (by omega)]; exact k2⟩
          rw [f1 45 (by omega), f1 46 (by omega)]
          exact k1 s hs) he hf1
        exact zGs.sub (lo := [(0, _), (1, _), (2, _), (3, _), (4, _), (5, _), (6, _), (7, _)]) this (fun q hq => by simp only [List.mem_cons, List.not_mem_nil, or_false] at hq; rcases hq with rfl | rfl | rfl | rfl | rfl | rfl | rfl <;> first | exact .head _ | exact .tail _ (.head _) | exact .tail _ (.tail _ (.head _)) | exact .tail _ (.tail _ (.tail _ (.head _))) | exact .tail _ (.tail _ (.tail _ (.tail _ (.head _)))) | exact .tail _ (.tail _ (.tail _ (.tail _ (.tail _ (.head _))))) | exact .tail _ (.tail _ (.tail _ (.tail _ (.tail _ (.tail _ (.head _)))))) | exact .tail _ (.tail _ (.tail _ (.tail _ (.tail _ (.tail _ (.tail _ (.head _))))))) | exact .tail _ (.tail _ (.tail _ (.tail _ (.tail _ (.tail _ (.tail _ (.tail _ (.head _)))))))) | exact .tail _ (.tail _ (.tail _ (.tail _ (.tail _ (.tail _ (.tail _ (.tail _ (.tail _ (.head _))))))))) | exact .tail _ (.tail _ (.tail _ (.tail _ (.tail _ (.tail _ (.tail _ (.tail _ (.tail _ (.tail _ (.head _)))))))))) | exact .tail _ (.tail _ (.tail _ (.tail _ (.tail _ (.tail _ (.tail _ (.tail _ (.tail _ (.tail _ (.tail _ (.head _))))))))))) | exact .tail _ (.tail _ (.tail _ (.tail _ (.tail _ (.tail _ (.tail _ (.tail _ (.tail _ (.tail _ (.tail _ (.tail _ (.head _)))))))))))) | exact .tail _ (.tail _ (.tail _ (.tail _ (.tail _ (.tail _ (.tail _ (.tail _ (.tail _ (.tail _ (.tail _ (.tail _ (.tail _ (.head _))))))))))))))
    · rw [ht] at he
      refine ⟨fun _ => ⟨by omega, ?_⟩, fun c9 => absurd rfl c9⟩
      exact ih (w + 1) b kr S1 (by omega) (fun s hs q hq => by rw [f1 43 (by omega)]; exact hwe s hs q hq) hb (fun hb0 => by
          obtain ⟨k1, k2⟩ := hk hb0
          refine ⟨fun s hs => ?_, by rw [f1 42 (by omega)]; exact k2⟩
          rw [f1 45 (by omega), f1 46 (by omega)]
          exact k1 s hs) he (fun c i a1 a2 a3 a4 a5 => by rw [f1 c a2]; exact hf c i a1 a2 a3 a4 a5)
theorem L1_X10_keepBest {S : zS} (hn : n ≤ 6) (k : zGs l 5 0 0 F_X10_keepBest S 30 [(0, .inr (.inl 42)), (1, .inl (r : Int)), (2, .inl (h : Int)), (3, .inl (n : Int)), (4, .inl ((3 ^ (n - 1) : Nat) : Int))] [] Q) (f : Nat) : ∀ j, 1 ≤ j → j + f = n → zGs l 5 0 0 F_X10_keepBest S 12 [(0, .inr (.inl 42)), (1, .inl (r : Int)), (2, .inl (h : Int)), (3, .inl (n : Int)), (4, .inl ((3 ^ (j - 1) : Nat) : Int)), (5, .inl (j : Int))] [] Q := by
  induction f with
  | zero =>
    intro j h1 hj
    have : j = n := by omega
    subst this
    refine zwq_ok (Z_X10_keepBest l) rfl [12, 30] (fun _ _ _ _ _ _ h => h) 400 (Z_X10_keepBest l) ?_
    refine ⟨fun c => by omega, fun c => ?_⟩
    exact zGs.sub (lo := [(0, _), (1, _), (2, _), (3, _), (4, _), (5, _)]) k (fun q hq => by simp only [List.mem_cons, List.not_mem_nil, or_false] at hq; rcases hq with rfl | rfl | rfl | rfl | rfl <;> first | exact .head _ | exact .tail _ (.head _) | exact .tail _ (.tail _ (.head _)) | exact .tail _ (.tail _ (.tail _ (.head _))) | exact .tail _ (.tail _ (.tail _ (.tail _ (.head _)))) | exact .tail _ (.tail _ (.tail _ (.tail _ (.tail _ (.head _))))) | exact .tail _ (.tail _ (.tail _ (.tail _ (.tail _ (.tail _ (.head _)))))) | exact .tail _ (.tail _ (.tail _ (.tail _ (.tail _ (.tail _ (.tail _ (.head _))))))) | exact .tail _ (.tail _ (.tail _ (.tail _ (.tail _ (.tail _ (.tail _ (.tail _ (.head _)))))))) | exact .tail _ (.tail _ (.tail _ (.tail _ (.tail _ (.tail _ (.tail _ (.tail _ (.tail _ (.head _))))))))) | exact .tail _ (.tail _ (.tail _ (.tail _ (.tail _ (.tail _ (.tail _ (.tail _ (.tail _ (.tail _ (.head _)))))))))) | exact .tail _ (.tail _ (.tail _ (.tail _ (.tail _ (.tail _ (.tail _ (.tail _ (.tail _ (.tail _ (.tail _ (.head _))))))))))) | exact .tail _ (.tail _ (.tail _ (.tail _ (.tail _ (.tail _ (.tail _ (.tail _ (.tail _ (.tail _ (.tail _ (.tail _ (.head _)))))))))))) | exact .tail _ (.tail _ (.tail _ (.tail _ (.tail _ (.tail _ (.tail _ (.tail _ (.tail _ (.tail _ (.tail _ (.tail _ (.tail _ (.head _))))))))))))))
  | succ f ih =>
    intro j h1 hj
    have h3 : 3 ^ (j - 1) ≤ 3 ^ 5 := Nat.pow_le_pow_right (by decide) (by omega)
    have this := ih (j + 1) (by omega) (by omega)
    have e : ((3 ^ (j - 1) : Nat) : Int) * 3 = ((3 ^ (j + 1 - 1) : Nat) : Int) := by
      rw [show j + 1 - 1 = (j - 1) + 1 by omega, Nat.pow_succ]
      omega
    rw [← e] at this
    clear e
    generalize 3 ^ (j - 1) = p at *
    refine zwq_ok (Z_X10_keepBest l) rfl [12, 30] (fun _ _ _ _ _ _ h => h) 400 (Z_X10_keepBest l) ?_
    refine ⟨fun c => ⟨by omega, by omega, ?_⟩, fun c => by omega⟩
    exact this
end
theorem R_X10_keepBest (l : Launch) (a : List zV) (S : zS) (Q : zR2 → zS → Prop) (h : wp_X10_keepBest a S Q) : zRs l 5 0 0 yX10_keepBest (.code yX10_keepBest cX10_keepBest 8 (some .int)) a S Q := by
  unfold wp_X10_keepBest at h
  split at h
  · obtain ⟨D, r, h, n, ⟨rfl, hD, hC, rfl, hr, rfl, rfl, hn1, hn, hh⟩, k⟩ := h
    refine zRs_of 10 (by decide) rfl rfl ?_; refine zwq_ok (Z_X10_keepBest l) rfl [12] (fun _ _ _ _ _ _ h => h) 400 (Z_X10_keepBest l) ?_
    refine ⟨D, h, n, ⟨rfl, hD, hC, rfl, rfl, hn, hh⟩, fun S1 w1 f1 => ?_⟩
    have en := enW_wN (dR D) (n - 1) r 0 hr
    rw [Nat.zero_mul] at en
    have go2 := L2_X10_keepBest (l := l) (S0 := S) hD hC hr hn1 hn hh k (3 ^ (n - 1)) 0 (-1) [] S1 (by omega) w1 (by omega) (fun z => absurd z (by decide)) (by rw [en]; rfl) (fun c i a _ _ _ _ => congrFun (f1 c a) i)
    exact L1_X10_keepBest (l := l) hn (by
      refine zwq_ok (Z_X10_keepBest l) rfl [36] (fun _ _ _ _ _ _ h => h) 400 (Z_X10_keepBest l) ?_
      exact go2) (n - 1) 1 (by omega) (by omega)
  · exact h.elim
def B_X11_round : List (Nat × zC) := [(2, (2, 0, 1, 6, 0, 0, 11)), (6, (4, 1, 1, 6, 0, 0, 0)), (28, (9, 0, 1, 127, 291, 131, 0)), (46, (0, 2, 3, 5, 0, 0, 10))]
def O_X11_round : zO := fun j a S K => match j with
  | 0 => wp_X11_needRoom a S K
  | 1 => wp_X11_needHour a S K
  | 2 => wp_X10_keepBest a S K
  | _ => False
theorem E_X11_round (l : Launch) : ∀ q ∈ B_X11_round, zcok l O_X11_round F_X11_round q.1 q.2 := List.forall_mem_cons.mpr ⟨⟨179, yX11_needRoom, cX11_needRoom, 2, none, by decide +kernel, C_11_179, W_X11_needRoom, I_X11_needRoom, S_X11_needRoom, rfl, rfl, R_X11_needRoom l⟩, List.forall_mem_cons.mpr ⟨⟨202, yX11_needHour, cX11_needHour, 1, none, by decide +kernel, C_11_202, W_X11_needHour, I_X11_needHour, rfl, R_X11_needHour l⟩, List.forall_mem_cons.mpr ⟨⟨rfl, rfl, z_at 547 (by decide +kernel) (by decide +kernel), ⟨21, _, rfl, rfl, rfl⟩, by decide +kernel, by decide +kernel, Or.inr ⟨rfl, by decide +kernel, by decide +kernel, by decide +kernel⟩, Or.inl ⟨rfl, rfl⟩⟩, List.forall_mem_cons.mpr ⟨⟨293, yX10_keepBest, cX10_keepBest, 8, some .int, by decide +kernel, C_11_293, W_X10_keepBest, I_X10_keepBest, S_X10_keepBest, rfl, rfl, R_X10_keepBest l⟩, fun _ h => by cases h⟩⟩⟩⟩
def U_X11_round : List (Nat × zE) := [(0, Sum.inl (4, 0, 0, 0, 1, [])), (1, Sum.inl (2, 1, 0, 0, 2, [])), (2, Sum.inr (2, 0, 1, 6, 0, 0, 11)), (5, Sum.inl (2, 2, 0, 0, 6, [])), (6, Sum.inr (4, 1, 1, 6, 0, 0, 0)), (9, Sum.inl (2, 3, 0, 0, 10, [])), (10, Sum.inl (0, 0, 0, 1, 11, [])), (11, Sum.inl (16, 1, 28, 0, 14, [])), (14, Sum.inl (2, 3, 0, 0, 15, [])), (15, Sum.inl (0, 0, 0, 6, 17, [])), (17, Sum.inl (16, 2, 28, 0, 20, [])), (20, Sum.inl (2, 2, 0, 0, 21, [])), (21, Sum.inl (2, 3, 0, 0, 22, [])), (22, Sum.inl (9, 0, 0, 0, 23, [])), (23, Sum.inl (0, 0, 0, 24, 25, [])), (25, Sum.inl (16, 2, 28, 0, 39, [])), (28, Sum.inr (9, 0, 1, 127, 291, 131, 0)), (31, Sum.inl (12, 0, 0, 0, 32, [])), (39, Sum.inl (4, 0, 0, 0, 40, [])), (40, Sum.inl (18, 11, 9, 0, 43, [])), (43, Sum.inl (2, 1, 0, 0, 44, [])), (44, Sum.inl (2, 2, 0, 0, 45, [])), (45, Sum.inl (2, 3, 0, 0, 46, [])), (46, Sum.inr (0, 2, 3, 5, 0, 0, 10)), (49, Sum.inl (27, 0, 0, 0, 50, []))]
theorem Z_X11_round (l : Launch) : ∀ q ∈ U_X11_round, zTok l O_X11_round F_X11_round q := zU_ok rfl rfl rfl K_X11_round (E_X11_round l)
def wp_X11_round (a : List zV) (S : zS) (K : zR2 → zS → Prop) : Prop := zif (Nat.ble (zsum a) 4) (zwq 7 F_X11_round U_X11_round O_X11_round [] (fun _ _ _ _ _ _ => False) K 29 U_X11_round 1 6 S 0 (zar 0 a) [])
theorem R_X11_round (l : Launch) (a : List zV) (S : zS) (Q : zR2 → zS → Prop) (h : wp_X11_round a S Q) : zRs l 7 1 6 yX11_round (.code yX11_round cX11_round 4 (some .int)) a S Q := by
  obtain ⟨h1, h⟩ := zif_ok h
  exact zRs_of 11 (by decide) rfl h1 (zwq_ok (Z_X11_round l) rfl [] (fun _ _ _ _ _ _ h => h.elim) 29 (Z_X11_round l) h)
/-- the walk that is kept -/
def setR (T : zD) (n : Nat) (row look : Nat → Nat) : zD := fun c j => if c = 5 then n else if c = 6 then row j else if c = 7 then look j else T c j
abbrev rouP (D : zD) (x y : Int) : Prop := (0 ≤ x ∧ x < dR D) ∧ (0 ≤ y ∧ y < 24)
abbrev rouQ (y z : Int) : Prop := (1 ≤ z ∧ z ≤ 6) ∧ y + z ≤ 24
def roundA (D : zD) (x y z : Int) : Nat × Int := if rouP D x y then (if rouQ y z then (0, (roD D x.toNat y.toNat z.toNat).1) else (2, 0)) else (1, 0)
def roR (D : zD) (r h n s : Nat) : Nat := (roD D r h n).2.getD s 0
def roK (D : zD) (r h n s : Nat) : Nat := bti (lkB (GnD D h (roR D r h n)) (roR D r h n) n s)
def roundT (D T : zD) (x y z : Int) : zD := if rouP D x y ∧ rouQ y z then setR T z.toNat (roR D x.toNat y.toNat z.toNat) (roK D x.toNat y.toNat z.toNat) else T
section
variable {S S' : zS} {D E T : zD} {N : Nat} {K : zR2 → zS → Prop} {x y z : Int}
theorem setR_c {n : Nat} {row look : Nat → Nat} {c : Nat} (h : c ≠ 5 ∧ c ≠ 6 ∧ c ≠ 7) : setR T n row look c = T c := by
  funext j
  show (if c = 5 then n else if c = 6 then row j else if c = 7 then look j else T c j) = T c j
  rw [if_neg h.1, if_neg h.2.1, if_neg h.2.2]
theorem x_round (hX : xOK D E T N) (hN : N < 99999) : xOK D E (roundT D T x y z) (N + 1) := by
  unfold roundT
  by_cases c : rouP D x y ∧ rouQ y z
  · rw [if_pos c]
    obtain ⟨_, ⟨z1, z2⟩, _⟩ := c
    unfold xOK
    rw [setR_c (c := 0) (by omega), setR_c (c := 1) (by omega), setR_c (c := 2) (by omega), setR_c (c := 3) (by omega), setR_c (c := 4) (by omega), setR_c (c := 8) (by omega)]
    exact ⟨hX.now, hX.tape, hX.bytes, hX.fault, (fun i => Nat.le_succ_of_le (hX.refused i)), hX.isKept, hX.kept, (by show z.toNat ≤ 6; omega), hX.lends, (by omega)⟩
  · rw [if_neg c]; exact hX.up hN
theorem eC.pt {n : Nat} {row look : Nat → Nat} (h : eC S D E T) (hf : frV S' S) (h1 : S' 42 6 = (n : Int)) (h2 : ∀ s, s < n → S' 45 s = (row s : Int) ∧ S' 46 s = (look s : Int)) : eC S' D E (setR T n row look) := by
  have g : ∀ c, c ≠ 42 → c ≠ 43 → c ≠ 44 → c ≠ 45 → c ≠ 46 → S' c = S c := fun c a b d e f => funext fun i => hf c i b d e f (Or.inl a)
  have hn := h.now.wv hf
  have hk := h.kept
  unfold kOK at hk
  have hk2 : T 4 0 = 1 → kOK S' E := by
    unfold kOK
    rw [g 28 (by omega) (by omega) (by omega) (by omega) (by omega), g 29 (by omega) (by omega) (by omega) (by omega) (by omega), g 30 (by omega) (by omega) (by omega) (by omega) (by omega), g 31 (by omega) (by omega) (by omega) (by omega) (by omega), g 32 (by omega) (by omega) (by omega) (by omega) (by omega), g 33 (by omega) (by omega) (by omega) (by omega) (by omega), g 34 (by omega) (by omega) (by omega) (by omega) (by omega), g 35 (by omega) (by omega) (by omega) (by omega) (by omega)]
    exact hk
  unfold eC at h ⊢
  rw [setR_c (c := 0) (by omega), setR_c (c := 1) (by omega), setR_c (c := 2) (by omega), setR_c (c := 3) (by omega), setR_c (c := 4) (by omega), setR_c (c := 8) (by omega), setR_c (c := 9) (by omega), g 0 (by omega) (by omega) (by omega) (by omega) (by omega), g 1 (by omega) (by omega) (by omega) (by omega) (by omega), g 2 (by omega) (by omega) (by omega) (by omega) (by omega), g 61 (by omega) (by omega) (by omega) (by omega) (by omega), g 52 (by omega) (by omega) (by omega) (by omega) (by omega), g 58 (by omega) (by omega) (by omega) (by omega) (by omega), g 59 (by omega) (by omega) (by omega) (by omega) (by omega), g 60 (by omega) (by omega) (by omega) (by omega) (by omega)]
  exact ⟨hn, h.2.1, h.2.2.1, h.2.2.2.1, h.2.2.2.2.1, h.2.2.2.2.2.1, hk2, h1, fun i hi => (h2 i hi).1, fun i hi => (h2 i hi).2, h.2.2.2.2.2.2.2.2.2.2⟩
theorem c_round (hC : eC S D E T) (hX : xOK D E T N) (hz : zir z) (h : cRes S D E (roundT D T x y z) (cr3 (roundA D x y z)) K) : wp_X11_round [.inr (.inl 0), .inl x, .inl y, .inl z] S K := by
  have e1 := hC.now.rooms
  obtain ⟨hz1, hz2⟩ := hz
  unfold roundA roundT at h
  by_cases hp : rouP D x y
  · by_cases hq : rouQ y z
    · rw [if_pos ⟨hp, hq⟩, if_pos hp, if_pos hq] at h
      obtain ⟨⟨x1, x2⟩, y1, y2⟩ := hp
      obtain ⟨⟨z1, z2⟩, z3⟩ := hq
      refine ⟨rfl, fun c9 => by omega, fun _ => ⟨fun c9 => by omega, fun _ => ⟨fun c9 => by omega, fun _ => ⟨fun c9 => by omega, fun _ => ⟨by omega, fun c9 => by omega, fun _ => ?_⟩⟩⟩⟩⟩
      refine ⟨D, x.toNat, y.toNat, z.toNat, ⟨rfl, hX.now, hC.now, by omega, by omega, by omega, by omega, by omega, by omega, by omega⟩, fun S' k1 k2 f1 => ?_⟩
      exact h S' (hC.pt f1 k2 (fun s hs => k1 s hs)) (fun c hc => funext fun i => f1 c i (by omega) (by omega) (by omega) (by omega) (Or.inl (by omega)))
    · rw [if_neg (fun c => hq c.2), if_pos hp, if_neg hq] at h
      unfold rouQ at hq
      obtain ⟨⟨x1, x2⟩, y1, y2⟩ := hp
      have h := cGood hC h
      repeat' (first | refine And.intro ?_ ?_ | (intro _; try omega) | omega | rfl | refine ⟨_, ⟨rfl, by omega⟩, ?_⟩ | fail)
      all_goals exact h
  · rw [if_neg (fun c => hp c.1), if_neg hp] at h
    unfold rouP at hp
    have h := cGood hC h
    repeat' (first | refine And.intro ?_ ?_ | (intro _; try omega) | omega | rfl | refine ⟨_, ⟨rfl, by omega⟩, ?_⟩ | fail)
    all_goals exact h
end
