/-! the model: all rows, and which of them fit -/
def B_X12_behind : List (Nat × zC) := []
def O_X12_behind : zO := fun j a S K => match j with
  | _ => False
theorem E_X12_behind (l : Launch) : ∀ q ∈ B_X12_behind, zcok l O_X12_behind F_X12_behind q.1 q.2 := fun _ h => by cases h
def U_X12_behind : List (Nat × zE) := [(0, Sum.inl (2, 3, 0, 0, 1, [])), (1, Sum.inl (0, 0, 0, 1, 2, [])), (2, Sum.inl (9, 0, 0, 0, 3, [])), (3, Sum.inl (5, 4, 0, 0, 5, [])), (5, Sum.inl (2, 4, 0, 0, 7, [])), (7, Sum.inl (0, 0, 0, 18, 9, [])), (9, Sum.inl (16, 1, 12, 0, 41, [])), (12, Sum.inl (4, 0, 0, 0, 13, [])), (13, Sum.inl (18, 12, 11, 0, 16, [])), (16, Sum.inl (0, 0, 0, 24, 18, [])), (18, Sum.inl (2, 1, 0, 0, 19, [])), (19, Sum.inl (9, 2, 0, 0, 20, [])), (20, Sum.inl (2, 2, 0, 0, 21, [])), (21, Sum.inl (9, 0, 0, 0, 22, [])), (22, Sum.inl (20, 0, 0, 0, 23, [])), (23, Sum.inl (2, 4, 0, 0, 25, [])), (25, Sum.inl (9, 7, 0, 0, 26, [])), (26, Sum.inl (0, 0, 0, 1, 27, [])), (27, Sum.inl (9, 3, 0, 0, 28, [])), (28, Sum.inl (0, 0, 0, 1, 29, [])), (29, Sum.inl (16, 0, 32, 0, 35, [])), (32, Sum.inl (2, 4, 0, 0, 34, [])), (34, Sum.inl (27, 0, 0, 0, 35, [])), (35, Sum.inl (8, 4, 0, 1, 38, [])), (38, Sum.inl (15, 0, 0, 0, 5, [])), (41, Sum.inl (0, 0, 0, (-1), 42, [])), (42, Sum.inl (27, 0, 0, 0, 43, []))]
theorem Z_X12_behind (l : Launch) : ∀ q ∈ U_X12_behind, zTok l O_X12_behind F_X12_behind q := zU_ok rfl rfl rfl K_X12_behind (E_X12_behind l)
/-- the place of a set behind a, or none -/
def beN (m a : Nat) : Int := match aft m a with
  | [] => -1
  | b :: _ => (b : Int)
def wp_X12_behind (a : List zV) (S : zS) (K : zR2 → zS → Prop) : Prop := match a with
  | [.inr (.inl c), .inl x, .inl y, .inl z] => ∃ (D : zD) (i t a : Nat), (c = 62 ∧ dOK D ∧ mOK S D ∧ x = (i : Int) ∧ y = (t : Int) ∧ z = (a : Int) ∧ i < dL D ∧ t < 24 ∧ a < 18) ∧ K (.inl (some (.inl (beN (dM D (24 * i + t)) a)))) S
  | _ => False
def hdI (l : List Nat) : Int := match l with
  | [] => -1
  | b :: _ => (b : Int)
theorem L_X12_behind {l : Launch} {S : zS} {Q : zR2 → zS → Prop} {D : zD} {i t a : Nat} (hD : dOK D) (hM : mOK S D) (hi : i < dL D) (ht : t < 24) (f : Nat) : ∀ k, k + f = 18 → Q (.inl (some (.inl (hdI (blS (dM D (24 * i + t)) f k))))) S → zGs l 0 0 0 F_X12_behind S 5 [(0, .inr (.inl 62)), (1, .inl (i : Int)), (2, .inl (t : Int)), (3, .inl (a : Int)), (4, .inl (k : Int))] [] Q := by
  have h6 := hD.lodgers
  have hm := hD.may (24 * i + t) (by omega)
  have em := hM.may (24 * i + t) (by omega)
  induction f with
  | zero =>
    intro k hk h
    refine zwq_ok (Z_X12_behind l) rfl [5] (fun _ _ _ _ _ _ h => h) 400 (Z_X12_behind l) ?_
    exact ⟨fun c => by omega, fun c => h⟩
  | succ f ih =>
    intro k hk h
    have e := zbit_n (a := dM D (24 * i + t)) (j := k) (by omega) (by omega)
    refine zwq_ok (Z_X12_behind l) rfl [5] (fun _ _ _ _ _ _ h => h) 400 (Z_X12_behind l) ?_
    refine ⟨fun c => ⟨by omega, by omega, 24 * i + t, ⟨by omega, by omega⟩, fun c2 => ?_, fun c2 => ⟨by omega, ?_⟩⟩, fun c => by omega⟩
    · rw [em, e] at c2
      rw [blS_1 (by omega)] at h
      exact h
    · rw [em, e] at c2
      rw [blS_0 (by omega)] at h
      exact ih (k + 1) (by omega) h
theorem beN_hd (m a : Nat) : beN m a = hdI (blS m (17 - a) (a + 1)) := by
  unfold beN hdI aft
  rfl
theorem R_X12_behind (l : Launch) (a : List zV) (S : zS) (Q : zR2 → zS → Prop) (h : wp_X12_behind a S Q) : zRs l 0 0 0 yX12_behind (.code yX12_behind cX12_behind 5 (some .int)) a S Q := by
  unfold wp_X12_behind at h
  split at h
  · obtain ⟨D, i, t, a, ⟨rfl, hD, hM, rfl, rfl, rfl, hi, ht, ha⟩, h⟩ := h
    rw [beN_hd] at h
    refine zRs_of 12 (by decide) rfl rfl ?_; refine zwq_ok (Z_X12_behind l) rfl [5] (fun _ _ _ _ _ _ h => h) 400 (Z_X12_behind l) ?_
    refine ⟨by omega, ?_⟩
    exact L_X12_behind hD hM hi ht (17 - a) (a + 1) (by omega) h
  · exact h.elim
theorem beN_0 {m a : Nat} (h : beN m a = -1) : aft m a = [] := by
  unfold beN at h
  split at h
  · assumption
  · omega
theorem beN_1 {m a : Nat} (h : beN m a ≠ -1) : ∃ b r, aft m a = b :: r ∧ beN m a = (b : Int) := by
  unfold beN at h ⊢
  split at h
  · exact absurd rfl h
  · rename_i b r e
    exact ⟨b, r, e, rfl⟩
/-- what the model's row of doings holds -/
def acM (S : zS) (D : zD) (t : Nat) (act : Nat → Nat) : Prop := ∀ i, i < dL D → S 83 i = (act i : Int) ∧ act i ∈ bl (dM D (24 * i + t))
def mxD (D : zD) (t : Nat) : Nat → Nat := fun i => dM D (24 * i + t)
def B_X12_counts : List (Nat × zC) := [(20, (0, 0, 3, 0, 0, 0, 12)), (43, (1, 1, 1, 0, 0, 0, 0)), (71, (0, 0, 3, 0, 0, 0, 12))]
def O_X12_counts : zO := fun j a S K => match j with
  | 0 => wp_X12_behind a S K
  | 1 => wp_X12_lowest a S K
  | _ => False
theorem E_X12_counts (l : Launch) : ∀ q ∈ B_X12_counts, zcok l O_X12_counts F_X12_counts q.1 q.2 := List.forall_mem_cons.mpr ⟨⟨327, yX12_behind, cX12_behind, 5, some .int, by decide +kernel, C_12_327, W_X12_behind, I_X12_behind, S_X12_behind, rfl, rfl, R_X12_behind l⟩, List.forall_mem_cons.mpr ⟨⟨280, yX12_lowest, cX12_lowest, 2, some .int, by decide +kernel, C_12_280, W_X12_lowest, I_X12_lowest, rfl, R_X12_lowest l⟩, List.forall_mem_cons.mpr ⟨⟨327, yX12_behind, cX12_behind, 5, some .int, by decide +kernel, C_12_327, W_X12_behind, I_X12_behind, S_X12_behind, rfl, rfl, R_X12_behind l⟩, fun _ h => by cases h⟩⟩⟩
def U_X12_counts : List (Nat × zE) := [(0, Sum.inl (4, 0, 0, 0, 1, [])), (1, Sum.inl (18, 12, 2, 0, 4, [])), (4, Sum.inl (0, 0, 0, 1, 5, [])), (5, Sum.inl (9, 1, 0, 0, 6, [])), (6, Sum.inl (5, 2, 0, 0, 7, [])), (7, Sum.inl (2, 2, 0, 0, 8, [])), (8, Sum.inl (17, 1, 53, 0, 11, [])), (11, Sum.inl (4, 0, 0, 0, 12, [])), (12, Sum.inl (2, 2, 0, 0, 13, [])), (13, Sum.inl (2, 1, 0, 0, 14, [])), (14, Sum.inl (4, 0, 0, 0, 15, [])), (15, Sum.inl (18, 12, 43, 0, 18, [])), (18, Sum.inl (2, 2, 0, 0, 19, [])), (19, Sum.inl (20, 0, 0, 0, 20, [])), (20, Sum.inr (0, 0, 3, 0, 0, 0, 12)), (23, Sum.inl (0, 0, 0, (-1), 24, [])), (24, Sum.inl (16, 0, 27, 0, 53, [])), (27, Sum.inl (4, 0, 0, 0, 28, [])), (28, Sum.inl (18, 12, 43, 0, 31, [])), (31, Sum.inl (2, 2, 0, 0, 32, [])), (32, Sum.inl (4, 0, 0, 0, 33, [])), (33, Sum.inl (18, 12, 11, 0, 36, [])), (36, Sum.inl (0, 0, 0, 24, 38, [])), (38, Sum.inl (2, 2, 0, 0, 39, [])), (39, Sum.inl (9, 2, 0, 0, 40, [])), (40, Sum.inl (2, 1, 0, 0, 41, [])), (41, Sum.inl (9, 0, 0, 0, 42, [])), (42, Sum.inl (20, 0, 0, 0, 43, [])), (43, Sum.inr (1, 1, 1, 0, 0, 0, 0)), (46, Sum.inl (21, 0, 0, 0, 47, [])), (47, Sum.inl (8, 2, 0, (-1), 50, [])), (50, Sum.inl (15, 0, 0, 0, 7, [])), (53, Sum.inl (2, 2, 0, 0, 54, [])), (54, Sum.inl (17, 1, 75, 0, 57, [])), (57, Sum.inl (4, 0, 0, 0, 58, [])), (58, Sum.inl (18, 12, 43, 0, 61, [])), (61, Sum.inl (2, 2, 0, 0, 62, [])), (62, Sum.inl (4, 0, 0, 0, 63, [])), (63, Sum.inl (2, 2, 0, 0, 64, [])), (64, Sum.inl (2, 1, 0, 0, 65, [])), (65, Sum.inl (4, 0, 0, 0, 66, [])), (66, Sum.inl (18, 12, 43, 0, 69, [])), (69, Sum.inl (2, 2, 0, 0, 70, [])), (70, Sum.inl (20, 0, 0, 0, 71, [])), (71, Sum.inr (0, 0, 3, 0, 0, 0, 12)), (74, Sum.inl (21, 0, 0, 0, 75, [])), (75, Sum.inl (2, 2, 0, 0, 76, [])), (76, Sum.inl (17, 1, 83, 0, 79, [])), (79, Sum.inl (0, 0, 0, 1, 80, [])), (80, Sum.inl (15, 0, 0, 0, 84, [])), (83, Sum.inl (0, 0, 0, 0, 84, [])), (84, Sum.inl (27, 0, 0, 0, 85, []))]
theorem Z_X12_counts (l : Launch) : ∀ q ∈ U_X12_counts, zTok l O_X12_counts F_X12_counts q := zU_ok rfl rfl rfl K_X12_counts (E_X12_counts l)
def wp_X12_counts (a : List zV) (S : zS) (K : zR2 → zS → Prop) : Prop := match a with
  | [.inr (.inl c), .inl y] => ∃ (D : zD) (t : Nat) (act : Nat → Nat), (c = 62 ∧ dOK D ∧ mOK S D ∧ y = (t : Int) ∧ t < 24 ∧ acM S D t act) ∧ (∀ S' act', acM S' D t act' → (∀ c, c ≠ 83 → S' c = S c) → sL (mxD D t) act' (dL D) 0 = (sL (mxD D t) act (dL D) 0).tail → K (.inl (some (.inl 1))) S') ∧ (∀ S', (∀ c, c ≠ 83 → S' c = S c) → (sL (mxD D t) act (dL D) 0).tail = [] → K (.inl (some (.inl 0))) S')
  | _ => False
theorem mOK.ac {S S' : zS} {D : zD} (h : mOK S D) (hf : ∀ c, c ≠ 83 → S' c = S c) : mOK S' D :=
  h.fr (fun j _ _ => by rw [hf 62 (by omega)]) (fun c hc => hf c (by omega))
theorem L_X12_counts {l : Launch} {S0 : zS} {Q : zR2 → zS → Prop} {D : zD} {t : Nat} {act : Nat → Nat} (hD : dOK D) (hM : mOK S0 D) (ht : t < 24) (ha : ∀ i, i < dL D → act i ∈ bl (dM D (24 * i + t)))
    (h1 : ∀ S' act', acM S' D t act' → (∀ c, c ≠ 83 → S' c = S0 c) → sL (mxD D t) act' (dL D) 0 = (sL (mxD D t) act (dL D) 0).tail → Q (.inl (some (.inl 1))) S') (h0 : ∀ S', (∀ c, c ≠ 83 → S' c = S0 c) → (sL (mxD D t) act (dL D) 0).tail = [] → Q (.inl (some (.inl 0))) S') : ∀ j f S cur, j + f = dL D → acM S D t cur → (∀ c, c ≠ 83 → S c = S0 c) → (∀ i, i < j → cur i = act i) → (sL (mxD D t) act f j).tail = [] → (∀ i, j ≤ i → i < dL D → (bl (mxD D t i))[0]? = some (cur i)) → zGs l 1 0 0 F_X12_counts S 7 [(0, .inr (.inl 62)), (1, .inl (t : Int)), (2, .inl ((j : Int) - 1))] [] Q := by
  have h6 := hD.lodgers
  intro j
  induction j with
  | zero =>
    intro f S cur hj hac hf heq htl hlo
    have : f = dL D := by omega
    subst this
    refine zwq_ok (Z_X12_counts l) rfl [7] (fun _ _ _ _ _ _ h => h) 400 (Z_X12_counts l) ?_
    refine ⟨fun c => ⟨fun c2 => ⟨fun c3 => ⟨Or.inl rfl, h0 S hf htl⟩, fun c3 => by omega⟩, fun c2 => by omega⟩, fun c => by omega⟩
  | succ j ih =>
    intro f S cur hj hac hf heq htl hlo
    have hMS := hM.ac hf
    have hm := hD.may (24 * j + t) (by omega)
    have em := hMS.may (24 * j + t) (by omega)
    obtain ⟨ec, hc⟩ := hac j (by omega)
    have hc18 := (bl_mem.mp hc).1
    have ecj := heq j (by omega)
    have ej : ((j + 1 : Nat) : Int) - 1 = (j : Int) := by omega
    rw [ej]
    by_cases hb : beN (dM D (24 * j + t)) (cur j) = -1
    · -- the last one here: back to the first
      have hne := bl_pos hm.1 hm.2
      have hlow := lget (l := bl (dM D (24 * j + t))) (n := 0) hne
      have hlt := (bl_mem.mp (lget_mem (l := bl (dM D (24 * j + t))) (n := 0) hne)).1
      generalize hv : (bl (dM D (24 * j + t))).getD 0 0 = v at hlow hlt
      have haft := beN_0 hb
      have this := ih (f + 1) (zu S 83 j (v : Int)) (fun i => if i = j then v else cur i) (by omega) (fun i hi => by
          by_cases e : i = j
          · subst e
            refine ⟨by rw [zuE]; show (v : Int) = ((if i = i then v else cur i : Nat) : Int); rw [if_pos rfl], ?_⟩
            show (if i = i then v else cur i) ∈ _
            rw [if_pos rfl]
            exact List.mem_of_getElem? hlow
          · refine ⟨by rw [zuN (Or.inr e)]; show _ = ((if i = j then v else cur i : Nat) : Int); rw [if_neg e]; exact (hac i hi).1, ?_⟩
            show (if i = j then v else cur i) ∈ _
            rw [if_neg e]
            exact (hac i hi).2) (fun c hc => (zu_c hc).trans (hf c hc)) (fun i hi => by rw [if_neg (by omega)]; exact heq i (by omega)) (sL_last htl (by rw [← ecj]; exact haft)) (fun i a b => by
          by_cases e : i = j
          · subst e; rw [if_pos rfl]; exact hlow
          · rw [if_neg e]; exact hlo i (by omega) b)
      refine zwq_ok (Z_X12_counts l) rfl [7] (fun _ _ _ _ _ _ h => h) 400 (Z_X12_counts l) ?_
      refine ⟨fun c => by omega, fun c => ⟨j, ⟨rfl, by omega⟩, D, j, t, cur j, ⟨rfl, hD, hMS, rfl, rfl, ec, by omega, ht, hc18⟩, fun c2 => ⟨by omega, by omega, 24 * j + t, ⟨by omega, by omega⟩, dM D (24 * j + t), v, ⟨em, by omega, hlow⟩, j, ⟨rfl, by omega⟩, by omega, ?_⟩, fun c2 => absurd hb c2⟩⟩
      exact this
    · obtain ⟨b, r, haft, hbe⟩ := beN_1 hb
      have hbm : b ∈ bl (dM D (24 * j + t)) := aft_mem (a := cur j) (by rw [haft]; exact List.mem_cons_self)
      have hfin := h1 (zu S 83 j (b : Int)) (fun i => if i = j then b else cur i) (fun i hi => by
          by_cases e : i = j
          · subst e
            refine ⟨by rw [zuE]; show (b : Int) = ((if i = i then b else cur i : Nat) : Int); rw [if_pos rfl], ?_⟩
            show (if i = i then b else cur i) ∈ _
            rw [if_pos rfl]
            exact hbm
          · refine ⟨by rw [zuN (Or.inr e)]; show _ = ((if i = j then b else cur i : Nat) : Int); rw [if_neg e]; exact (hac i hi).1, ?_⟩
            show (if i = j then b else cur i) ∈ _
            rw [if_neg e]
            exact (hac i hi).2) (fun c hc => (zu_c hc).trans (hf c hc)) (by
          have hn := sL_next (M := mxD D t) (act := act) (act' := fun i => if i = j then b else cur i) (f := f) (l := j) (b := b) (r := r) (by rw [← ecj]; exact hc18) htl (by rw [← ecj]; exact haft) (if_pos rfl) (fun i a c => by rw [if_neg (by omega)]; exact hlo i (by omega) (by omega))
          have hu := sL_up (M := mxD D t) (act := act) (act' := fun i => if i = j then b else cur i) j (f + 1) 0 (fun i _ hi => by rw [if_neg (by omega)]; exact heq i (by omega)) (by rw [Nat.zero_add]; exact hn)
          rw [show j + (f + 1) = dL D by omega] at hu
          exact hu)
      refine zwq_ok (Z_X12_counts l) rfl [7] (fun _ _ _ _ _ _ h => h) 400 (Z_X12_counts l) ?_
      refine ⟨fun c => by omega, fun c => ⟨j, ⟨rfl, by omega⟩, D, j, t, cur j, ⟨rfl, hD, hMS, rfl, rfl, ec, by omega, ht, hc18⟩, fun c2 => absurd c2 hb, fun c2 => ⟨fun c9 => by omega, fun _ => ⟨j, ⟨rfl, by omega⟩, D, j, t, cur j, ⟨rfl, hD, hMS, rfl, rfl, ec, by omega, ht, hc18⟩, j, ⟨rfl, by omega⟩, fun c9 => by omega, fun _ => ⟨Or.inr rfl, ?_⟩⟩⟩⟩⟩
      rw [hbe]
      exact hfin
theorem R_X12_counts (l : Launch) (a : List zV) (S : zS) (Q : zR2 → zS → Prop) (h : wp_X12_counts a S Q) : zRs l 1 0 0 yX12_counts (.code yX12_counts cX12_counts 3 (some .boolean)) a S Q := by
  unfold wp_X12_counts at h
  split at h
  · obtain ⟨D, t, act, ⟨rfl, hD, hM, rfl, ht, hac⟩, h1, h0⟩ := h
    have h6 := hD.lodgers
    have e := hM.lodgers
    refine zRs_of 12 (by decide) rfl rfl ?_; refine zwq_ok (Z_X12_counts l) rfl [7] (fun _ _ _ _ _ _ h => h) 400 (Z_X12_counts l) ?_
    refine ⟨by omega, ?_⟩
    rw [e]
    exact L_X12_counts (S0 := S) hD hM ht (fun i hi => (hac i hi).2) h1 h0 (dL D) 0 S act (by omega) hac (fun _ _ => rfl) (fun _ _ => rfl) rfl (fun i a b => by omega)
  · exact h.elim
/-- does a row fit what is seen -/
def sgR (D : zD) (row : Nat → Nat) (r : Nat) : Nat := if dW D r = 0 then 3 else sigD D (dW D r - 1) (row (dW D r - 1))
def fiS (D : zD) (set : Nat) (sg row : Nat → Nat) : Nat → Nat → Bool
  | 0, _ => true
  | f + 1, r => bif Nat.beq (bt1 set r) 1 && !(Nat.beq (sgR D row r) (sg r)) then false else fiS D set sg row f (r + 1)
def B_X12_fits : List (Nat × zC) := [(53, (0, 0, 2, 2, 0, 0, 12))]
def O_X12_fits : zO := fun j a S K => match j with
  | 0 => wp_X12_signOf a S K
  | _ => False
theorem E_X12_fits (l : Launch) : ∀ q ∈ B_X12_fits, zcok l O_X12_fits F_X12_fits q.1 q.2 := List.forall_mem_cons.mpr ⟨⟨314, yX12_signOf, cX12_signOf, 3, some .int, by decide +kernel, C_12_314, W_X12_signOf, I_X12_signOf, S_X12_signOf, rfl, rfl, R_X12_signOf l⟩, fun _ h => by cases h⟩
def U_X12_fits : List (Nat × zE) := [(0, Sum.inl (0, 0, 0, 0, 1, [])), (1, Sum.inl (5, 3, 0, 0, 2, [])), (2, Sum.inl (2, 3, 0, 0, 3, [])), (3, Sum.inl (4, 0, 0, 0, 4, [])), (4, Sum.inl (18, 12, 1, 0, 7, [])), (7, Sum.inl (16, 1, 10, 0, 74, [])), (10, Sum.inl (2, 1, 0, 0, 11, [])), (11, Sum.inl (2, 3, 0, 0, 12, [])), (12, Sum.inl (9, 7, 0, 0, 13, [])), (13, Sum.inl (0, 0, 0, 1, 14, [])), (14, Sum.inl (9, 3, 0, 0, 15, [])), (15, Sum.inl (17, 0, 18, 0, 21, [])), (18, Sum.inl (15, 0, 0, 0, 68, [])), (21, Sum.inl (4, 0, 0, 0, 22, [])), (22, Sum.inl (18, 12, 6, 0, 25, [])), (25, Sum.inl (2, 3, 0, 0, 26, [])), (26, Sum.inl (20, 0, 0, 0, 27, [])), (27, Sum.inl (0, 0, 0, (-1), 28, [])), (28, Sum.inl (16, 0, 31, 0, 35, [])), (31, Sum.inl (0, 0, 0, 3, 32, [])), (32, Sum.inl (15, 0, 0, 0, 56, [])), (35, Sum.inl (4, 0, 0, 0, 36, [])), (36, Sum.inl (4, 0, 0, 0, 37, [])), (37, Sum.inl (18, 12, 6, 0, 40, [])), (40, Sum.inl (2, 3, 0, 0, 41, [])), (41, Sum.inl (20, 0, 0, 0, 42, [])), (42, Sum.inl (4, 0, 0, 0, 43, [])), (43, Sum.inl (18, 12, 43, 0, 46, [])), (46, Sum.inl (4, 0, 0, 0, 47, [])), (47, Sum.inl (18, 12, 6, 0, 50, [])), (50, Sum.inl (2, 3, 0, 0, 51, [])), (51, Sum.inl (20, 0, 0, 0, 52, [])), (52, Sum.inl (20, 0, 0, 0, 53, [])), (53, Sum.inr (0, 0, 2, 2, 0, 0, 12)), (56, Sum.inl (5, 4, 0, 0, 58, [])), (58, Sum.inl (2, 4, 0, 0, 60, [])), (60, Sum.inl (4, 2, 0, 0, 61, [])), (61, Sum.inl (2, 3, 0, 0, 62, [])), (62, Sum.inl (20, 0, 0, 0, 63, [])), (63, Sum.inl (16, 0, 68, 0, 66, [])), (66, Sum.inl (0, 0, 0, 0, 67, [])), (67, Sum.inl (27, 0, 0, 0, 68, [])), (68, Sum.inl (8, 3, 0, 1, 71, [])), (71, Sum.inl (15, 0, 0, 0, 2, [])), (74, Sum.inl (0, 0, 0, 1, 75, [])), (75, Sum.inl (27, 0, 0, 0, 76, []))]
theorem Z_X12_fits (l : Launch) : ∀ q ∈ U_X12_fits, zTok l O_X12_fits F_X12_fits q := zU_ok rfl rfl rfl K_X12_fits (E_X12_fits l)
def wp_X12_fits (a : List zV) (S : zS) (K : zR2 → zS → Prop) : Prop := match a with
  | [.inr (.inl c), .inl x, .inr (.inl q)] => ∃ (D : zD) (t set : Nat) (act sg : Nat → Nat), (c = 62 ∧ (q = 82 ∨ q = 85) ∧ dOK D ∧ mOK S D ∧ t < 24 ∧ acM S D t act ∧ x = (set : Int) ∧ set < 256 ∧ ∀ r, r < dR D → S q r = (sg r : Int)) ∧ K (.inl (some (.inl (bti (fiS D set sg act (dR D) 0) : Int)))) S
  | _ => False
theorem L_X12_fits_82 {l : Launch} {S : zS} {Q : zR2 → zS → Prop} {D : zD} {t set : Nat} {act sg : Nat → Nat} (hD : dOK D) (hM : mOK S D) (ht : t < 24) (hac : acM S D t act) (hs : set < 256) (hq : ∀ r, r < dR D → S 82 r = (sg r : Int)) (f : Nat) : ∀ r, r + f = dR D → Q (.inl (some (.inl (bti (fiS D set sg act f r) : Int)))) S → zGs l 3 0 0 F_X12_fits S 2 [(0, .inr (.inl 62)), (1, .inl (set : Int)), (2, .inr (.inl 82)), (3, .inl (r : Int))] [] Q := by
  have h8 := hD.rooms
  have h6 := hD.lodgers
  have eR := hM.rooms
  induction f with
  | zero =>
    intro r hr h
    refine zwq_ok (Z_X12_fits l) rfl [2] (fun _ _ _ _ _ _ h => h) 400 (Z_X12_fits l) ?_
    exact ⟨fun c => by omega, fun c => ⟨Or.inr rfl, h⟩⟩
  | succ f ih =>
    intro r hr h
    have e := zbit_n (a := set) (j := r) (by omega) (by omega)
    have hb := bt1_lt set r
    have eW := hM.whose r (by omega)
    have hW := hD.whose r (by omega)
    have eq := hq r (by omega)
    have h : Q (.inl (some (.inl (bti (bif Nat.beq (bt1 set r) 1 && !(Nat.beq (sgR D act r) (sg r)) then false else fiS D set sg act f (r + 1)) : Int)))) S := h
    have nx : (Nat.beq (bt1 set r) 1 && !(Nat.beq (sgR D act r) (sg r))) = false → zGs l 3 0 0 F_X12_fits S 2 [(0, .inr (.inl 62)), (1, .inl (set : Int)), (2, .inr (.inl 82)), (3, .inl ((r : Int) + 1))] [] Q := fun c => by
      rw [c] at h
      exact ih (r + 1) (by omega) h
    have two : bt1 set r = 1 → ∀ v : Int, v = (sgR D act r : Int) → zGs l 3 0 0 F_X12_fits S 56 [(0, .inr (.inl 62)), (1, .inl (set : Int)), (2, .inr (.inl 82)), (3, .inl (r : Int))] [.inl v] Q := fun hb1 v hv => by
      subst hv
      refine zwq_ok (Z_X12_fits l) rfl [2] (fun _ _ _ _ _ _ h => h) 400 (Z_X12_fits l) ?_
      refine ⟨r, ⟨rfl, by omega⟩, fun c => ⟨by omega, ?_⟩, fun c => ⟨Or.inl rfl, ?_⟩⟩
      · refine zGs.sub (lo := [(0, _), (1, _), (2, _), (3, _), (4, _)]) (nx ?_) (fun q hq => by simp only [List.mem_cons, List.not_mem_nil, or_false] at hq; rcases hq with rfl | rfl | rfl | rfl <;> first | exact .head _ | exact .tail _ (.head _) | exact .tail _ (.tail _ (.head _)) | exact .tail _ (.tail _ (.tail _ (.head _))) | exact .tail _ (.tail _ (.tail _ (.tail _ (.head _)))) | exact .tail _ (.tail _ (.tail _ (.tail _ (.tail _ (.head _))))) | exact .tail _ (.tail _ (.tail _ (.tail _ (.tail _ (.tail _ (.head _)))))) | exact .tail _ (.tail _ (.tail _ (.tail _ (.tail _ (.tail _ (.tail _ (.head _))))))) | exact .tail _ (.tail _ (.tail _ (.tail _ (.tail _ (.tail _ (.tail _ (.tail _ (.head _)))))))) | exact .tail _ (.tail _ (.tail _ (.tail _ (.tail _ (.tail _ (.tail _ (.tail _ (.tail _ (.head _))))))))) | exact .tail _ (.tail _ (.tail _ (.tail _ (.tail _ (.tail _ (.tail _ (.tail _ (.tail _ (.tail _ (.head _)))))))))) | exact .tail _ (.tail _ (.tail _ (.tail _ (.tail _ (.tail _ (.tail _ (.tail _ (.tail _ (.tail _ (.tail _ (.head _))))))))))) | exact .tail _ (.tail _ (.tail _ (.tail _ (.tail _ (.tail _ (.tail _ (.tail _ (.tail _ (.tail _ (.tail _ (.tail _ (.head _)))))))))))) | exact .tail _ (.tail _ (.tail _ (.tail _ (.tail _ (.tail _ (.tail _ (.tail _ (.tail _ (.tail _ (.tail _ (.tail _ (.tail _ (.head _))))))))))))))
        rw [show sgR D act r = sg r by omega, Nat.beq_refl]
        simp
      · rw [hb1, beqN (show sgR D act r ≠ sg r by omega)] at h
        exact h
    have sgr : sgR D act r = if dW D r = 0 then 3 else sigD D (dW D r - 1) (act (dW D r - 1)) := rfl
    refine zwq_ok (Z_X12_fits l) rfl [2, 56] (fun _ _ _ _ _ _ h => h) 400 (Z_X12_fits l) ?_
    refine ⟨fun c => ⟨fun c2 => ⟨by omega, ?_⟩, fun c2 => ⟨r, ⟨rfl, by omega⟩, fun c3 => ?_, fun c3 => ?_⟩⟩, fun c => by omega⟩
    · rw [e] at c2
      refine nx ?_
      rw [beqN (show bt1 set r ≠ 1 by omega)]
      rfl
    · rw [e] at c2
      exact two (by omega) 3 (by rw [sgr, if_pos (by omega)]; rfl)
    · rw [e] at c2
      obtain ⟨ea, hma⟩ := hac (dW D r - 1) (by omega)
      refine ⟨r, ⟨rfl, by omega⟩, r, ⟨rfl, by omega⟩, dW D r - 1, ⟨by omega, by omega⟩, D, dW D r - 1, act (dW D r - 1), ⟨rfl, hD, hM, by omega, ea, by omega⟩, ?_⟩
      exact two (by omega) _ (by rw [sgr, if_neg (by omega)])
theorem L_X12_fits_85 {l : Launch} {S : zS} {Q : zR2 → zS → Prop} {D : zD} {t set : Nat} {act sg : Nat → Nat} (hD : dOK D) (hM : mOK S D) (ht : t < 24) (hac : acM S D t act) (hs : set < 256) (hq : ∀ r, r < dR D → S 85 r = (sg r : Int)) (f : Nat) : ∀ r, r + f = dR D → Q (.inl (some (.inl (bti (fiS D set sg act f r) : Int)))) S → zGs l 3 0 0 F_X12_fits S 2 [(0, .inr (.inl 62)), (1, .inl (set : Int)), (2, .inr (.inl 85)), (3, .inl (r : Int))] [] Q := by
  have h8 := hD.rooms
  have h6 := hD.lodgers
  have eR := hM.rooms
  induction f with
  | zero =>
    intro r hr h
    refine zwq_ok (Z_X12_fits l) rfl [2] (fun _ _ _ _ _ _ h => h) 400 (Z_X12_fits l) ?_
    exact ⟨fun c => by omega, fun c => ⟨Or.inr rfl, h⟩⟩
  | succ f ih =>
    intro r hr h
    have e := zbit_n (a := set) (j := r) (by omega) (by omega)
    have hb := bt1_lt set r
    have eW := hM.whose r (by omega)
    have hW := hD.whose r (by omega)
    have eq := hq r (by omega)
    have h : Q (.inl (some (.inl (bti (bif Nat.beq (bt1 set r) 1 && !(Nat.beq (sgR D act r) (sg r)) then false else fiS D set sg act f (r + 1)) : Int)))) S := h
    have nx : (Nat.beq (bt1 set r) 1 && !(Nat.beq (sgR D act r) (sg r))) = false → zGs l 3 0 0 F_X12_fits S 2 [(0, .inr (.inl 62)), (1, .inl (set : Int)), (2, .inr (.inl 85)), (3, .inl ((r : Int) + 1))] [] Q := fun c => by
      rw [c] at h
      exact ih (r + 1) (by omega) h
    have two : bt1 set r = 1 → ∀ v : Int, v = (sgR D act r : Int) → zGs l 3 0 0 F_X12_fits S 56 [(0, .inr (.inl 62)), (1, .inl (set : Int)), (2, .inr (.inl 85)), (3, .inl (r : Int))] [.inl v] Q := fun hb1 v hv => by
      subst hv
      refine zwq_ok (Z_X12_fits l) rfl [2] (fun _ _ _ _ _ _ h => h) 400 (Z_X12_fits l) ?_
      refine ⟨r, ⟨rfl, by omega⟩, fun c => ⟨by omega, ?_⟩, fun c => ⟨Or.inl rfl, ?_⟩⟩
      · refine zGs.sub (lo := [(0, _), (1, _), (2, _), (3, _), (4, _)]) (nx ?_) (fun q hq => by simp only [List.mem_cons, List.not_mem_nil, or_false] at hq; rcases hq with rfl | rfl | rfl | rfl <;> first | exact .head _ | exact .tail _ (.head _) | exact .tail _ (.tail _ (.head _)) | exact .tail _ (.tail _ (.tail _ (.head _))) | exact .tail _ (.tail _ (.tail _ (.tail _ (.head _)))) | exact .tail _ (.tail _ (.tail _ (.tail _ (.tail _ (.head _))))) | exact .tail _ (.tail _ (.tail _ (.tail _ (.tail _ (.tail _ (.head _)))))) | exact .tail _ (.tail _ (.tail _ (.tail _ (.tail _ (.tail _ (.tail _ (.head _))))))) | exact .tail _ (.tail _ (.tail _ (.tail _ (.tail _ (.tail _ (.tail _ (.tail _ (.head _)))))))) | exact .tail _ (.tail _ (.tail _ (.tail _ (.tail _ (.tail _ (.tail _ (.tail _ (.tail _ (.head _))))))))) | exact .tail _ (.tail _ (.tail _ (.tail _ (.tail _ (.tail _ (.tail _ (.tail _ (.tail _ (.tail _ (.head _)))))))))) | exact .tail _ (.tail _ (.tail _ (.tail _ (.tail _ (.tail _ (.tail _ (.tail _ (.tail _ (.tail _ (.tail _ (.head _))))))))))) | exact .tail _ (.tail _ (.tail _ (.tail _ (.tail _ (.tail _ (.tail _ (.tail _ (.tail _ (.tail _ (.tail _ (.tail _ (.head _)))))))))))) | exact .tail _ (.tail _ (.tail _ (.tail _ (.tail _ (.tail _ (.tail _ (.tail _ (.tail _ (.tail _ (.tail _ (.tail _ (.tail _ (.head _))))))))))))))
        rw [show sgR D act r = sg r by omega, Nat.beq_refl]
        simp
      · rw [hb1, beqN (show sgR D act r ≠ sg r by omega)] at h
        exact h
    have sgr : sgR D act r = if dW D r = 0 then 3 else sigD D (dW D r - 1) (act (dW D r - 1)) := rfl
    refine zwq_ok (Z_X12_fits l) rfl [2, 56] (fun _ _ _ _ _ _ h => h) 400 (Z_X12_fits l) ?_
    refine ⟨fun c => ⟨fun c2 => ⟨by omega, ?_⟩, fun c2 => ⟨r, ⟨rfl, by omega⟩, fun c3 => ?_, fun c3 => ?_⟩⟩, fun c => by omega⟩
    · rw [e] at c2
      refine nx ?_
      rw [beqN (show bt1 set r ≠ 1 by omega)]
      rfl
    · rw [e] at c2
      exact two (by omega) 3 (by rw [sgr, if_pos (by omega)]; rfl)
    · rw [e] at c2
      obtain ⟨ea, hma⟩ := hac (dW D r - 1) (by omega)
      refine ⟨r, ⟨rfl, by omega⟩, r, ⟨rfl, by omega⟩, dW D r - 1, ⟨by omega, by omega⟩, D, dW D r - 1, act (dW D r - 1), ⟨rfl, hD, hM, by omega, ea, by omega⟩, ?_⟩
      exact two (by omega) _ (by rw [sgr, if_neg (by omega)])
theorem R_X12_fits (l : Launch) (a : List zV) (S : zS) (Q : zR2 → zS → Prop) (h : wp_X12_fits a S Q) : zRs l 3 0 0 yX12_fits (.code yX12_fits cX12_fits 5 (some .boolean)) a S Q := by
  unfold wp_X12_fits at h
  split at h
  · obtain ⟨D, t, set, act, sg, ⟨rfl, hq, hD, hM, ht, hac, rfl, hs, hsg⟩, h⟩ := h
    rcases hq with rfl | rfl
    · refine zRs_of 12 (by decide) rfl rfl ?_; refine zwq_ok (Z_X12_fits l) rfl [2] (fun _ _ _ _ _ _ h => h) 400 (Z_X12_fits l) ?_
      exact L_X12_fits_82 hD hM ht hac hs hsg (dR D) 0 (by omega) h
    · refine zRs_of 12 (by decide) rfl rfl ?_; refine zwq_ok (Z_X12_fits l) rfl [2] (fun _ _ _ _ _ _ h => h) 400 (Z_X12_fits l) ?_
      exact L_X12_fits_85 hD hM ht hac hs hsg (dR D) 0 (by omega) h
  · exact h.elim
