/-! rests: the class's answer; the model -/
def B_X11_rests : List (Nat × zC) := [(1, (4, 0, 1, 6, 0, 0, 0)), (14, (9, 0, 1, 127, 302, 131, 0)), (32, (4, 1, 2, 6, 0, 0, 0)), (41, (0, 2, 2, 4, 0, 0, 4)), (59, (9, 1, 1, 174, 307, 178, 0))]
def O_X11_rests : zO := fun j a S K => match j with
  | 0 => wp_X11_needHour a S K
  | 1 => wp_X11_needOneOf a S K
  | 2 => wp_X4_play a S K
  | _ => False
theorem E_X11_rests (l : Launch) : ∀ q ∈ B_X11_rests, zcok l O_X11_rests F_X11_rests q.1 q.2 := List.forall_mem_cons.mpr ⟨⟨202, yX11_needHour, cX11_needHour, 1, none, by decide +kernel, C_11_202, W_X11_needHour, I_X11_needHour, rfl, R_X11_needHour l⟩, List.forall_mem_cons.mpr ⟨⟨rfl, rfl, z_at 547 (by decide +kernel) (by decide +kernel), ⟨22, _, rfl, rfl, rfl⟩, by decide +kernel, by decide +kernel, Or.inr ⟨rfl, by decide +kernel, by decide +kernel, by decide +kernel⟩, Or.inl ⟨rfl, rfl⟩⟩, List.forall_mem_cons.mpr ⟨⟨182, yX11_needOneOf, cX11_needOneOf, 2, none, by decide +kernel, C_11_182, W_X11_needOneOf, I_X11_needOneOf, rfl, R_X11_needOneOf l⟩, List.forall_mem_cons.mpr ⟨⟨304, yX4_play, cX4_play, 6, some .int, by decide +kernel, C_11_304, W_X4_play, I_X4_play, S_X4_play, rfl, rfl, R_X4_play l⟩, List.forall_mem_cons.mpr ⟨⟨rfl, rfl, z_at 799 (by decide +kernel) (by decide +kernel), ⟨23, _, rfl, rfl, rfl⟩, by decide +kernel, by decide +kernel, Or.inr ⟨rfl, by decide +kernel, by decide +kernel, by decide +kernel⟩, Or.inr ⟨rfl, rfl⟩⟩, fun _ h => by cases h⟩⟩⟩⟩⟩
def U_X11_rests : List (Nat × zE) := [(0, Sum.inl (2, 1, 0, 0, 1, [])), (1, Sum.inr (4, 0, 1, 6, 0, 0, 0)), (4, Sum.inl (2, 2, 0, 0, 5, [])), (5, Sum.inl (0, 0, 0, 1, 6, [])), (6, Sum.inl (16, 1, 14, 0, 9, [])), (9, Sum.inl (2, 2, 0, 0, 10, [])), (10, Sum.inl (0, 0, 0, 3, 11, [])), (11, Sum.inl (16, 2, 14, 0, 25, [])), (14, Sum.inr (9, 0, 1, 127, 302, 131, 0)), (17, Sum.inl (12, 0, 0, 0, 18, [])), (25, Sum.inl (2, 3, 0, 0, 26, [])), (26, Sum.inl (0, 0, 0, (-1), 27, [])), (27, Sum.inl (16, 0, 35, 0, 30, [])), (30, Sum.inl (2, 3, 0, 0, 31, [])), (31, Sum.inl (2, 2, 0, 0, 32, [])), (32, Sum.inr (4, 1, 2, 6, 0, 0, 0)), (35, Sum.inl (4, 0, 0, 0, 36, [])), (36, Sum.inl (18, 11, 10, 0, 39, [])), (39, Sum.inl (2, 1, 0, 0, 40, [])), (40, Sum.inl (2, 2, 0, 0, 41, [])), (41, Sum.inr (0, 2, 2, 4, 0, 0, 4)), (44, Sum.inl (5, 4, 0, 0, 46, [])), (46, Sum.inl (2, 3, 0, 0, 47, [])), (47, Sum.inl (0, 0, 0, (-1), 48, [])), (48, Sum.inl (16, 0, 51, 0, 54, [])), (51, Sum.inl (2, 4, 0, 0, 53, [])), (53, Sum.inl (27, 0, 0, 0, 54, [])), (54, Sum.inl (2, 4, 0, 0, 56, [])), (56, Sum.inl (17, 0, 59, 0, 70, [])), (59, Sum.inr (9, 1, 1, 174, 307, 178, 0)), (62, Sum.inl (12, 0, 0, 0, 63, [])), (70, Sum.inl (4, 0, 0, 0, 71, [])), (71, Sum.inl (18, 11, 10, 0, 74, [])), (74, Sum.inl (18, 4, 5, 0, 77, [])), (77, Sum.inl (2, 3, 0, 0, 78, [])), (78, Sum.inl (20, 0, 0, 0, 79, [])), (79, Sum.inl (27, 0, 0, 0, 80, []))]
theorem Z_X11_rests (l : Launch) : ∀ q ∈ U_X11_rests, zTok l O_X11_rests F_X11_rests q := zU_ok rfl rfl rfl K_X11_rests (E_X11_rests l)
def wp_X11_rests (a : List zV) (S : zS) (K : zR2 → zS → Prop) : Prop := zif (Nat.ble (zsum a) 5) (zwq 7 F_X11_rests U_X11_rests O_X11_rests [] (fun _ _ _ _ _ _ => False) K 44 U_X11_rests 1 6 S 0 (zar 0 a) [])
theorem R_X11_rests (l : Launch) (a : List zV) (S : zS) (Q : zR2 → zS → Prop) (h : wp_X11_rests a S Q) : zRs l 7 1 6 yX11_rests (.code yX11_rests cX11_rests 5 (some .int)) a S Q := by
  obtain ⟨h1, h⟩ := zif_ok h
  exact zRs_of 11 (by decide) rfl h1 (zwq_ok (Z_X11_rests l) rfl [] (fun _ _ _ _ _ _ h => h.elim) 44 (Z_X11_rests l) h)
def restsA (D : zD) (x y z : Int) : Nat × Int := if 0 ≤ x ∧ x < 24 then (if 1 ≤ y ∧ y ≤ 3 then (if -1 ≤ z ∧ z < y then (if z = -1 then (0, ((plD D x.toNat y.toNat).1 : Int)) else if (plD D x.toNat y.toNat).1 = 0 then (1, 0) else (0, (dgN (dR D) y.toNat (plD D x.toNat y.toNat).2 z.toNat : Int))) else (1, 0)) else (2, 0)) else (1, 0)
theorem c_rests {S : zS} {D E T : zD} {N : Nat} {K : zR2 → zS → Prop} {x y z : Int} (hC : eC S D E T) (hX : xOK D E T N) (h : cRes S D E T (cr3 (restsA D x y z)) K) : wp_X11_rests [.inr (.inl 0), .inl x, .inl y, .inl z] S K := by
  unfold restsA at h
  by_cases hx : 0 ≤ x ∧ x < 24
  · rw [if_pos hx] at h
    by_cases hy : 1 ≤ y ∧ y ≤ 3
    · rw [if_pos hy] at h
      by_cases hz : -1 ≤ z ∧ z < y
      · rw [if_pos hz] at h
        obtain ⟨x1, x2⟩ := hx
        obtain ⟨y1, y2⟩ := hy
        obtain ⟨z1, z2⟩ := hz
        have fr : ∀ S', (∀ c, (c < 48 ∨ 51 < c) → S' c = S c) → eC S' D E T ∧ frC S S' := fun S' hf => ⟨hC.fr (fun c _ b => hf c (Decidable.byContradiction fun z => b (by unfold cScr; omega))), fun c hc => hf c (by omega)⟩
        refine ⟨fun c9 => by omega, fun _ => ⟨fun c9 => by omega, fun _ => ⟨fun c9 => by omega, fun _ => ⟨fun c => ?_, fun c => ⟨fun c9 => by omega, fun _ => ?_⟩⟩⟩⟩⟩
        · rw [if_pos c] at h
          exact ⟨D, x.toNat, y.toNat, ⟨rfl, hX.now, hC.now, by omega, by omega, by omega, by omega, by omega⟩, fun S' _ hf => ⟨fun _ => h S' (fr S' hf).1 (fr S' hf).2, fun c9 => absurd c c9⟩⟩
        · rw [if_neg c] at h
          refine ⟨D, x.toNat, y.toNat, ⟨rfl, hX.now, hC.now, by omega, by omega, by omega, by omega, by omega⟩, fun S' hp hf => ⟨fun c9 => absurd c9 c, fun _ => ⟨fun c2 => ?_, fun c2 => ⟨z.toNat, ⟨by omega, by omega⟩, ?_⟩⟩⟩⟩
          · rw [if_pos (by omega)] at h
            exact h S' (fr S' hf).1 (fr S' hf).2
          · rw [if_neg (by omega), ← hp (by omega) z.toNat (by omega)] at h
            exact h S' (fr S' hf).1 (fr S' hf).2
      · rw [if_neg hz] at h
        have h := cGood hC h
        repeat' (first | refine And.intro ?_ ?_ | (intro _; try omega) | omega | rfl | refine ⟨_, ⟨rfl, by omega⟩, ?_⟩ | fail)
        all_goals exact h
    · rw [if_neg hy] at h
      have h := cGood hC h
      repeat' (first | refine And.intro ?_ ?_ | (intro _; try omega) | omega | rfl | refine ⟨_, ⟨rfl, by omega⟩, ?_⟩ | fail)
      all_goals exact h
  · rw [if_neg hx] at h
    have h := cGood hC h
    repeat' (first | refine And.intro ?_ ?_ | (intro _; try omega) | omega | rfl | refine ⟨_, ⟨rfl, by omega⟩, ?_⟩ | fail)
    all_goals exact h
def gaM (S : zS) (k : Nat) (dg : Nat → Nat) : Prop := ∀ p, p < k → S 91 p = (dg p : Int)
def woM (S : zS) (D : zD) (t : Nat) : Prop := ∀ r, r < dR D → S 93 r = (worD D r t : Int)
def B_X12_there : List (Nat × zC) := []
def O_X12_there : zO := fun j a S K => match j with
  | _ => False
theorem E_X12_there (l : Launch) : ∀ q ∈ B_X12_there, zcok l O_X12_there F_X12_there q.1 q.2 := fun _ h => by cases h
def U_X12_there : List (Nat × zE) := [(0, Sum.inl (0, 0, 0, 0, 1, [])), (1, Sum.inl (5, 3, 0, 0, 2, [])), (2, Sum.inl (0, 0, 0, 0, 3, [])), (3, Sum.inl (5, 4, 0, 0, 5, [])), (5, Sum.inl (2, 4, 0, 0, 7, [])), (7, Sum.inl (2, 2, 0, 0, 8, [])), (8, Sum.inl (16, 1, 11, 0, 36, [])), (11, Sum.inl (2, 3, 0, 0, 12, [])), (12, Sum.inl (4, 0, 0, 0, 13, [])), (13, Sum.inl (18, 12, 53, 0, 16, [])), (16, Sum.inl (2, 4, 0, 0, 18, [])), (18, Sum.inl (20, 0, 0, 0, 19, [])), (19, Sum.inl (2, 1, 0, 0, 20, [])), (20, Sum.inl (16, 0, 23, 0, 27, [])), (23, Sum.inl (0, 0, 0, 1, 24, [])), (24, Sum.inl (15, 0, 0, 0, 28, [])), (27, Sum.inl (0, 0, 0, 0, 28, [])), (28, Sum.inl (9, 0, 0, 0, 29, [])), (29, Sum.inl (5, 3, 0, 0, 30, [])), (30, Sum.inl (8, 4, 0, 1, 33, [])), (33, Sum.inl (15, 0, 0, 0, 5, [])), (36, Sum.inl (2, 3, 0, 0, 37, [])), (37, Sum.inl (27, 0, 0, 0, 38, []))]
theorem Z_X12_there (l : Launch) : ∀ q ∈ U_X12_there, zTok l O_X12_there F_X12_there q := zU_ok rfl rfl rfl K_X12_there (E_X12_there l)
def wp_X12_there (a : List zV) (S : zS) (K : zR2 → zS → Prop) : Prop := match a with
  | [.inr (.inl c), .inl x, .inl y] => ∃ (r k : Nat) (dg : Nat → Nat), (c = 62 ∧ x = (r : Int) ∧ y = (k : Int) ∧ k ≤ 3 ∧ gaM S k dg) ∧ K (.inl (some (.inl (cnN dg r k : Int)))) S
  | _ => False
theorem L_X12_there {l : Launch} {S : zS} {Q : zR2 → zS → Prop} {r k : Nat} {dg : Nat → Nat} (hk : k ≤ 3) (hg : gaM S k dg) (h : Q (.inl (some (.inl (cnN dg r k : Int)))) S) (f : Nat) : ∀ j, j + f = k → zGs l 0 0 0 F_X12_there S 5 [(0, .inr (.inl 62)), (1, .inl (r : Int)), (2, .inl (k : Int)), (3, .inl (cnN dg r j : Int)), (4, .inl (j : Int))] [] Q := by
  induction f with
  | zero =>
    intro j hj
    have : j = k := by omega
    subst this
    refine zwq_ok (Z_X12_there l) rfl [5] (fun _ _ _ _ _ _ h => h) 400 (Z_X12_there l) ?_
    exact ⟨fun c => by omega, fun c => h⟩
  | succ f ih =>
    intro j hj
    have e := hg j (by omega)
    have hle := cnN_le dg r j
    have ec : cnN dg r (j + 1) = cnN dg r j + (if dg j = r then 1 else 0) := rfl
    have this := ih (j + 1) (by omega)
    rw [ec] at this
    refine zwq_ok (Z_X12_there l) rfl [5] (fun _ _ _ _ _ _ h => h) 400 (Z_X12_there l) ?_
    refine ⟨fun c => ⟨j, ⟨rfl, by omega⟩, fun c2 => ⟨by omega, by omega, ?_⟩, fun c2 => ⟨by omega, by omega, ?_⟩⟩, fun c => by omega⟩
    · rw [if_pos (by omega)] at this
      exact this
    · rw [if_neg (by omega)] at this
      exact this
theorem R_X12_there (l : Launch) (a : List zV) (S : zS) (Q : zR2 → zS → Prop) (h : wp_X12_there a S Q) : zRs l 0 0 0 yX12_there (.code yX12_there cX12_there 5 (some .int)) a S Q := by
  unfold wp_X12_there at h
  split at h
  · obtain ⟨r, k, dg, ⟨rfl, rfl, rfl, hk, hg⟩, h⟩ := h
    refine zRs_of 12 (by decide) rfl rfl ?_; refine zwq_ok (Z_X12_there l) rfl [5] (fun _ _ _ _ _ _ h => h) 400 (Z_X12_there l) ?_
    exact L_X12_there hk hg h k 0 (by omega)
  · exact h.elim
def B_X12_isRest : List (Nat × zC) := [(26, (0, 0, 2, 0, 0, 0, 12)), (65, (0, 0, 2, 0, 0, 0, 12))]
def O_X12_isRest : zO := fun j a S K => match j with
  | 0 => wp_X12_there a S K
  | _ => False
theorem E_X12_isRest (l : Launch) : ∀ q ∈ B_X12_isRest, zcok l O_X12_isRest F_X12_isRest q.1 q.2 := List.forall_mem_cons.mpr ⟨⟨383, yX12_there, cX12_there, 5, some .int, by decide +kernel, C_12_383, W_X12_there, I_X12_there, S_X12_there, rfl, rfl, R_X12_there l⟩, List.forall_mem_cons.mpr ⟨⟨383, yX12_there, cX12_there, 5, some .int, by decide +kernel, C_12_383, W_X12_there, I_X12_there, S_X12_there, rfl, rfl, R_X12_there l⟩, fun _ h => by cases h⟩⟩
def U_X12_isRest : List (Nat × zE) := [(0, Sum.inl (0, 0, 0, 0, 1, [])), (1, Sum.inl (5, 2, 0, 0, 2, [])), (2, Sum.inl (2, 2, 0, 0, 3, [])), (3, Sum.inl (2, 1, 0, 0, 4, [])), (4, Sum.inl (16, 1, 7, 0, 89, [])), (7, Sum.inl (4, 0, 0, 0, 8, [])), (8, Sum.inl (18, 12, 55, 0, 11, [])), (11, Sum.inl (4, 0, 0, 0, 12, [])), (12, Sum.inl (18, 12, 53, 0, 15, [])), (15, Sum.inl (2, 2, 0, 0, 16, [])), (16, Sum.inl (20, 0, 0, 0, 17, [])), (17, Sum.inl (20, 0, 0, 0, 18, [])), (18, Sum.inl (4, 0, 0, 0, 19, [])), (19, Sum.inl (4, 0, 0, 0, 20, [])), (20, Sum.inl (18, 12, 53, 0, 23, [])), (23, Sum.inl (2, 2, 0, 0, 24, [])), (24, Sum.inl (20, 0, 0, 0, 25, [])), (25, Sum.inl (2, 1, 0, 0, 26, [])), (26, Sum.inr (0, 0, 2, 0, 0, 0, 12)), (29, Sum.inl (9, 9, 0, 0, 30, [])), (30, Sum.inl (5, 3, 0, 0, 31, [])), (31, Sum.inl (0, 0, 0, 0, 32, [])), (32, Sum.inl (5, 4, 0, 0, 34, [])), (34, Sum.inl (2, 4, 0, 0, 36, [])), (36, Sum.inl (4, 0, 0, 0, 37, [])), (37, Sum.inl (18, 12, 1, 0, 40, [])), (40, Sum.inl (16, 1, 43, 0, 83, [])), (43, Sum.inl (2, 4, 0, 0, 45, [])), (45, Sum.inl (4, 0, 0, 0, 46, [])), (46, Sum.inl (18, 12, 53, 0, 49, [])), (49, Sum.inl (2, 2, 0, 0, 50, [])), (50, Sum.inl (20, 0, 0, 0, 51, [])), (51, Sum.inl (16, 0, 77, 0, 54, [])), (54, Sum.inl (4, 0, 0, 0, 55, [])), (55, Sum.inl (18, 12, 55, 0, 58, [])), (58, Sum.inl (2, 4, 0, 0, 60, [])), (60, Sum.inl (20, 0, 0, 0, 61, [])), (61, Sum.inl (4, 0, 0, 0, 62, [])), (62, Sum.inl (2, 4, 0, 0, 64, [])), (64, Sum.inl (2, 1, 0, 0, 65, [])), (65, Sum.inr (0, 0, 2, 0, 0, 0, 12)), (68, Sum.inl (0, 0, 0, 1, 69, [])), (69, Sum.inl (9, 0, 0, 0, 70, [])), (70, Sum.inl (9, 9, 0, 0, 71, [])), (71, Sum.inl (2, 3, 0, 0, 72, [])), (72, Sum.inl (16, 2, 75, 0, 77, [])), (75, Sum.inl (0, 0, 0, 0, 76, [])), (76, Sum.inl (27, 0, 0, 0, 77, [])), (77, Sum.inl (8, 4, 0, 1, 80, [])), (80, Sum.inl (15, 0, 0, 0, 34, [])), (83, Sum.inl (8, 2, 0, 1, 86, [])), (86, Sum.inl (15, 0, 0, 0, 2, [])), (89, Sum.inl (0, 0, 0, 1, 90, [])), (90, Sum.inl (27, 0, 0, 0, 91, []))]
theorem Z_X12_isRest (l : Launch) : ∀ q ∈ U_X12_isRest, zTok l O_X12_isRest F_X12_isRest q := zU_ok rfl rfl rfl K_X12_isRest (E_X12_isRest l)
def wp_X12_isRest (a : List zV) (S : zS) (K : zR2 → zS → Prop) : Prop := match a with
  | [.inr (.inl c), .inl y] => ∃ (D : zD) (t w k : Nat), (c = 62 ∧ dOK D ∧ mOK S D ∧ woM S D t ∧ y = (k : Int) ∧ k ≤ 3 ∧ 0 < dR D ∧ gaM S k (dgN (dR D) k w)) ∧ K (.inl (some (.inl (bti (reB D t k w) : Int)))) S
  | _ => False
section
variable {l : Launch} {S : zS} {Q : zR2 → zS → Prop} {D : zD} {t w k : Nat}
theorem L0_X12_isRest (hD : dOK D) (hM : mOK S D) (hw : woM S D t) (hk : k ≤ 3) (hR : 0 < dR D) (hg : gaM S k (dgN (dR D) k w)) {p gain : Nat} (hp : p < k) (k1 : riS D t k (dgN (dR D) k w) (dgN (dR D) k w p) gain (dR D) 0 = true → zGs l 1 0 0 F_X12_isRest S 83 [(0, .inr (.inl 62)), (1, .inl (k : Int)), (2, .inl (p : Int))] [] Q) (k0 : riS D t k (dgN (dR D) k w) (dgN (dR D) k w p) gain (dR D) 0 = false → Q (.inl (some (.inl 0))) S) (f : Nat) : ∀ r, r + f = dR D → riS D t k (dgN (dR D) k w) (dgN (dR D) k w p) gain (dR D) 0 = riS D t k (dgN (dR D) k w) (dgN (dR D) k w p) gain f r → zGs l 1 0 0 F_X12_isRest S 34 [(0, .inr (.inl 62)), (1, .inl (k : Int)), (2, .inl (p : Int)), (3, .inl (gain : Int)), (4, .inl (r : Int))] [] Q := by
  have h8 := hD.rooms
  have eR := hM.rooms
  have hlt := dg_lt (k := k) (w := w) (p := p) hR
  have er := hg p hp
  induction f with
  | zero =>
    intro r hr he
    refine zwq_ok (Z_X12_isRest l) rfl [34, 83] (fun _ _ _ _ _ _ h => h) 400 (Z_X12_isRest l) ?_
    refine ⟨fun c => by omega, fun c => ?_⟩
    exact zGs.sub (lo := [(0, _), (1, _), (2, _), (3, _), (4, _)]) (k1 he) (fun q hq => by simp only [List.mem_cons, List.not_mem_nil, or_false] at hq; rcases hq with rfl | rfl | rfl <;> first | exact .head _ | exact .tail _ (.head _) | exact .tail _ (.tail _ (.head _)) | exact .tail _ (.tail _ (.tail _ (.head _))) | exact .tail _ (.tail _ (.tail _ (.tail _ (.head _)))) | exact .tail _ (.tail _ (.tail _ (.tail _ (.tail _ (.head _))))) | exact .tail _ (.tail _ (.tail _ (.tail _ (.tail _ (.tail _ (.head _)))))) | exact .tail _ (.tail _ (.tail _ (.tail _ (.tail _ (.tail _ (.tail _ (.head _))))))) | exact .tail _ (.tail _ (.tail _ (.tail _ (.tail _ (.tail _ (.tail _ (.tail _ (.head _)))))))) | exact .tail _ (.tail _ (.tail _ (.tail _ (.tail _ (.tail _ (.tail _ (.tail _ (.tail _ (.head _))))))))) | exact .tail _ (.tail _ (.tail _ (.tail _ (.tail _ (.tail _ (.tail _ (.tail _ (.tail _ (.tail _ (.head _)))))))))) | exact .tail _ (.tail _ (.tail _ (.tail _ (.tail _ (.tail _ (.tail _ (.tail _ (.tail _ (.tail _ (.tail _ (.head _))))))))))) | exact .tail _ (.tail _ (.tail _ (.tail _ (.tail _ (.tail _ (.tail _ (.tail _ (.tail _ (.tail _ (.tail _ (.tail _ (.head _)))))))))))) | exact .tail _ (.tail _ (.tail _ (.tail _ (.tail _ (.tail _ (.tail _ (.tail _ (.tail _ (.tail _ (.tail _ (.tail _ (.tail _ (.head _))))))))))))))
  | succ f ih =>
    intro r hr he
    have hc2 := cnN_le (dgN (dR D) k w) r k
    have ew := hw r (by omega)
    have he : riS D t k (dgN (dR D) k w) (dgN (dR D) k w p) gain (dR D) 0 = (bif !(Nat.beq r (dgN (dR D) k w p)) && Nat.blt gain (worD D r t / (cnN (dgN (dR D) k w) r k + 1)) then false else riS D t k (dgN (dR D) k w) (dgN (dR D) k w p) gain f (r + 1)) := he
    have ed : S 93 r / ((cnN (dgN (dR D) k w) r k : Int) + 1) = ((worD D r t / (cnN (dgN (dR D) k w) r k + 1) : Nat) : Int) := by rw [ew]; rfl
    refine zwq_ok (Z_X12_isRest l) rfl [34, 83] (fun _ _ _ _ _ _ h => h) 400 (Z_X12_isRest l) ?_
    refine ⟨fun c => ⟨p, ⟨rfl, by omega⟩, fun c2 => ⟨by omega, ?_⟩, fun c2 => ⟨r, ⟨rfl, by omega⟩, r, k, dgN (dR D) k w, ⟨rfl, rfl, rfl, hk, hg⟩, by omega, ⟨by omega, by omega⟩, fun c3 => ⟨Or.inl rfl, ?_⟩, fun c3 => ⟨by omega, ?_⟩⟩⟩, fun c => by omega⟩
    · have e9 : r = dgN (dR D) k w p := by omega
      rw [← e9, Nat.beq_refl] at he
      exact ih (r + 1) (by omega) (by rw [← e9]; exact he)
    · rw [ed] at c3
      rw [beqN (show r ≠ dgN (dR D) k w p by omega), bltT (by omega)] at he
      exact k0 he
    · rw [ed] at c3
      rw [bltF (by omega), Bool.and_false] at he
      exact ih (r + 1) (by omega) he
theorem L1_X12_isRest (hD : dOK D) (hM : mOK S D) (hw : woM S D t) (hk : k ≤ 3) (hR : 0 < dR D) (hg : gaM S k (dgN (dR D) k w)) (f : Nat) : ∀ p, p + f = k → Q (.inl (some (.inl (bti (rsS D t k (dgN (dR D) k w) f p) : Int)))) S → zGs l 1 0 0 F_X12_isRest S 2 [(0, .inr (.inl 62)), (1, .inl (k : Int)), (2, .inl (p : Int))] [] Q := by
  have h8 := hD.rooms
  induction f with
  | zero =>
    intro p hp h
    refine zwq_ok (Z_X12_isRest l) rfl [2, 34] (fun _ _ _ _ _ _ h => h) 400 (Z_X12_isRest l) ?_
    exact ⟨fun c => by omega, fun c => ⟨Or.inr rfl, h⟩⟩
  | succ f ih =>
    intro p hp h
    have hlt := dg_lt (k := k) (w := w) (p := p) hR
    have er := hg p (by omega)
    have ew := hw (dgN (dR D) k w p) hlt
    have hpos := cnN_pos (dg := dgN (dR D) k w) (p := p) (k := k) (by omega)
    have h : Q (.inl (some (.inl (bti (bif riS D t k (dgN (dR D) k w) (dgN (dR D) k w p) (worD D (dgN (dR D) k w p) t / cnN (dgN (dR D) k w) (dgN (dR D) k w p) k) (dR D) 0 then rsS D t k (dgN (dR D) k w) f (p + 1) else false) : Int)))) S := h
    have go := L0_X12_isRest (l := l) (Q := Q) (S := S) (p := p) (gain := worD D (dgN (dR D) k w p) t / cnN (dgN (dR D) k w) (dgN (dR D) k w p) k) hD hM hw hk hR hg (by omega) (fun e => by
      rw [e] at h
      have := ih (p + 1) (by omega) h
      refine zwq_ok (Z_X12_isRest l) rfl [2] (fun _ _ _ _ _ _ h => h) 400 (Z_X12_isRest l) ?_
      exact ⟨by omega, this⟩) (fun e => by
      rw [e] at h
      exact h) (dR D) 0 (by omega) rfl
    have ed : S 93 (dgN (dR D) k w p) / (cnN (dgN (dR D) k w) (dgN (dR D) k w p) k : Int) = ((worD D (dgN (dR D) k w p) t / cnN (dgN (dR D) k w) (dgN (dR D) k w p) k : Nat) : Int) := by rw [ew]; rfl
    rw [← ed] at go
    refine zwq_ok (Z_X12_isRest l) rfl [2, 34] (fun _ _ _ _ _ _ h => h) 400 (Z_X12_isRest l) ?_
    refine ⟨fun c => ⟨p, ⟨rfl, by omega⟩, dgN (dR D) k w p, ⟨er, by omega⟩, p, ⟨rfl, by omega⟩, dgN (dR D) k w p, k, dgN (dR D) k w, ⟨rfl, er, rfl, hk, hg⟩, ⟨by omega, by omega⟩, ?_⟩, fun c => by omega⟩
    exact go
end
theorem R_X12_isRest (l : Launch) (a : List zV) (S : zS) (Q : zR2 → zS → Prop) (h : wp_X12_isRest a S Q) : zRs l 1 0 0 yX12_isRest (.code yX12_isRest cX12_isRest 5 (some .boolean)) a S Q := by
  unfold wp_X12_isRest at h
  split at h
  · obtain ⟨D, t, w, k, ⟨rfl, hD, hM, hw, rfl, hk, hR, hg⟩, h⟩ := h
    refine zRs_of 12 (by decide) rfl rfl ?_; refine zwq_ok (Z_X12_isRest l) rfl [2] (fun _ _ _ _ _ _ h => h) 400 (Z_X12_isRest l) ?_
    exact L1_X12_isRest hD hM hw hk hR hg k 0 (by omega) h
  · exact h.elim
