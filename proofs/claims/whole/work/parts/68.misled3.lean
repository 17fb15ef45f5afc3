/-! misled: the model -/
def reM (S : zS) (D : zD) (t : Nat) : Prop := ∀ r, r < dR D → S 86 r = (sgaD D r t : Int)
theorem sub4 : ∀ v, v < 4 → ∀ k, k < 4 → (msk (fun j => v.testBit j && !k.testBit j) 18 = 0 ↔ v &&& k = v) := by decide +kernel
theorem sga_h {D : zD} (hD : dOK D) {t i : Nat} (hi : i < dL D) : sgaD D (dH D i) t = sgL D t i := by
  have hw := hD.whoseHome i hi
  unfold sgaD sgL
  rw [if_neg (by omega), hw, Nat.add_sub_cancel]
def B_X12_another : List (Nat × zC) := [(12, (0, 0, 1, 1, 0, 0, 12))]
def O_X12_another : zO := fun j a S K => match j with
  | 0 => wp_X12_both a S K
  | _ => False
theorem E_X12_another (l : Launch) : ∀ q ∈ B_X12_another, zcok l O_X12_another F_X12_another q.1 q.2 := List.forall_mem_cons.mpr ⟨⟨299, yX12_both, cX12_both, 2, some .int, by decide +kernel, C_12_299, W_X12_both, I_X12_both, S_X12_both, rfl, rfl, R_X12_both l⟩, fun _ h => by cases h⟩
def U_X12_another : List (Nat × zE) := [(0, Sum.inl (2, 2, 0, 0, 1, [])), (1, Sum.inl (0, 0, 0, 1, 2, [])), (2, Sum.inl (9, 0, 0, 0, 3, [])), (3, Sum.inl (5, 3, 0, 0, 4, [])), (4, Sum.inl (2, 3, 0, 0, 5, [])), (5, Sum.inl (0, 0, 0, 4, 6, [])), (6, Sum.inl (16, 1, 9, 0, 44, [])), (9, Sum.inl (2, 3, 0, 0, 10, [])), (10, Sum.inl (4, 0, 0, 0, 11, [])), (11, Sum.inl (2, 1, 0, 0, 12, [])), (12, Sum.inr (0, 0, 1, 1, 0, 0, 12)), (15, Sum.inl (0, 0, 0, (-1), 16, [])), (16, Sum.inl (9, 5, 0, 0, 17, [])), (17, Sum.inl (9, 3, 0, 0, 18, [])), (18, Sum.inl (17, 0, 21, 0, 38, [])), (21, Sum.inl (2, 3, 0, 0, 22, [])), (22, Sum.inl (4, 0, 0, 0, 23, [])), (23, Sum.inl (18, 12, 47, 0, 26, [])), (26, Sum.inl (4, 0, 0, 0, 27, [])), (27, Sum.inl (18, 12, 7, 0, 30, [])), (30, Sum.inl (2, 1, 0, 0, 31, [])), (31, Sum.inl (20, 0, 0, 0, 32, [])), (32, Sum.inl (20, 0, 0, 0, 33, [])), (33, Sum.inl (16, 0, 38, 0, 36, [])), (36, Sum.inl (2, 3, 0, 0, 37, [])), (37, Sum.inl (27, 0, 0, 0, 38, [])), (38, Sum.inl (8, 3, 0, 1, 41, [])), (41, Sum.inl (15, 0, 0, 0, 4, [])), (44, Sum.inl (0, 0, 0, (-1), 45, [])), (45, Sum.inl (27, 0, 0, 0, 46, []))]
theorem Z_X12_another (l : Launch) : ∀ q ∈ U_X12_another, zTok l O_X12_another F_X12_another q := zU_ok rfl rfl rfl K_X12_another (E_X12_another l)
def wp_X12_another (a : List zV) (S : zS) (K : zR2 → zS → Prop) : Prop := match a with
  | [.inr (.inl c), .inl x, .inl y] => ∃ (D : zD) (t i k : Nat), (c = 62 ∧ dOK D ∧ mOK S D ∧ reM S D t ∧ x = (i : Int) ∧ i < dL D ∧ y = (k : Int) - 1 ∧ k ≤ 4) ∧ K (.inl (some (.inl (hdI (blS (alM D t i) (18 - k) k))))) S
  | _ => False
theorem L_X12_another {l : Launch} {S : zS} {Q : zR2 → zS → Prop} {D : zD} {t i : Nat} {y : Int} (hD : dOK D) (hM : mOK S D) (hr : reM S D t) (hi : i < dL D) (f : Nat) : ∀ v, v + f = 4 → Q (.inl (some (.inl (hdI (blS (alM D t i) (f + 14) v))))) S → zGs l 2 0 0 F_X12_another S 4 [(0, .inr (.inl 62)), (1, .inl (i : Int)), (2, .inl y), (3, .inl (v : Int))] [] Q := by
  have h6 := hD.lodgers
  have h8 := hD.rooms
  have hal : alM D t i < 2 ^ 4 := msk_lt _ 4
  have eh := hM.home i hi
  have hh := hD.home i hi
  have er := hr (dH D i) hh
  rw [sga_h hD hi] at er
  have hkin := kin_lt D i
  induction f with
  | zero =>
    intro v hv h
    rw [blS_hi hal _ _ (by omega)] at h
    refine zwq_ok (Z_X12_another l) rfl [4] (fun _ _ _ _ _ _ h => h) 400 (Z_X12_another l) ?_
    exact ⟨fun c => by omega, fun c => h⟩
  | succ f ih =>
    intro v hv h
    have ez := zandn (a := v) (b := kinD D i) (by omega)
    have e4 := sub4 v (by omega) (kinD D i) hkin
    have eb : bt1 (alM D t i) v = if v < 4 ∧ (Nat.beq (v &&& kinD D i) v && !(Nat.beq v (sgL D t i))) = true then 1 else 0 := bt1_msk _ 4 v
    rw [show f + 1 + 14 = (f + 14) + 1 by omega] at h
    have nx : bt1 (alM D t i) v = 0 → zGs l 2 0 0 F_X12_another S 4 [(0, .inr (.inl 62)), (1, .inl (i : Int)), (2, .inl y), (3, .inl ((v : Int) + 1))] [] Q := fun c => by
      rw [blS_0 (by omega)] at h
      exact ih (v + 1) (by omega) h
    refine zwq_ok (Z_X12_another l) rfl [4] (fun _ _ _ _ _ _ h => h) 400 (Z_X12_another l) ?_
    refine ⟨fun c => ⟨D, i, ⟨rfl, hD, hM, rfl, hi⟩, fun c2 => ⟨i, ⟨rfl, by omega⟩, dH D i, ⟨eh, by omega⟩, fun c3 => ⟨by omega, nx ?_⟩, fun c3 => ?_⟩, fun c2 => ⟨by omega, nx ?_⟩⟩, fun c => by omega⟩
    · rw [eb, show v = sgL D t i by omega, Nat.beq_refl, if_neg (fun q => by have := (Bool.and_eq_true_iff.mp q.2).2; cases this)]
    · rw [ez] at c2
      have : bt1 (alM D t i) v = 1 := by
        rw [eb, if_pos ⟨by omega, Bool.and_eq_true_iff.mpr ⟨nbeq.mpr (e4.mp (by omega)), by rw [beqN (show v ≠ sgL D t i by omega)]; rfl⟩⟩]
      rw [blS_1 this] at h
      exact h
    · rw [ez] at c2
      rw [eb, if_neg (fun q => c2 (by rw [e4.mpr (nbeq.mp (Bool.and_eq_true_iff.mp q.2).1)]; rfl))]
theorem R_X12_another (l : Launch) (a : List zV) (S : zS) (Q : zR2 → zS → Prop) (h : wp_X12_another a S Q) : zRs l 2 0 0 yX12_another (.code yX12_another cX12_another 4 (some .int)) a S Q := by
  unfold wp_X12_another at h
  split at h
  · obtain ⟨D, t, i, k, ⟨rfl, hD, hM, hr, rfl, hi, rfl, hk⟩, h⟩ := h
    refine zRs_of 12 (by decide) rfl rfl ?_; refine zwq_ok (Z_X12_another l) rfl [4] (fun _ _ _ _ _ _ h => h) 400 (Z_X12_another l) ?_
    refine ⟨by omega, ?_⟩
    rw [show (k : Int) - 1 + 1 = (k : Int) by omega]
    exact L_X12_another hD hM hr hi (4 - k) k (by omega) (by rw [show 4 - k + 14 = 18 - k by omega]; exact h)
  · exact h.elim
/-- what the doors show -/
def doM (S : zS) (D : zD) (t set : Nat) (act : Nat → Nat) : Prop := (∀ i, i < dL D → S 85 (dH D i) = (act i : Int) ∧ act i ∈ bl (amD D t set i)) ∧ ∀ r, r < dR D → dW D r = 0 → S 85 r = 3
theorem home_ne {D : zD} (hD : dOK D) {i j : Nat} (hi : i < dL D) (hj : j < dL D) (h : i ≠ j) : dH D i ≠ dH D j := by
  intro e
  have a := hD.whoseHome i hi
  have b := hD.whoseHome j hj
  rw [e] at a
  omega
theorem doM.set {S : zS} {D : zD} {t set : Nat} {act : Nat → Nat} (hD : dOK D) (h : doM S D t set act) {j v : Nat} (hj : j < dL D) (hv : v ∈ bl (amD D t set j)) : doM (zu S 85 (dH D j) (v : Int)) D t set (fun i => if i = j then v else act i) := by
  refine ⟨fun i hi => ?_, fun r hr hw => ?_⟩
  · by_cases e : i = j
    · subst e
      refine ⟨?_, ?_⟩
      · rw [zuE]; show (v : Int) = ((if i = i then v else act i : Nat) : Int); rw [if_pos rfl]
      · show (if i = i then v else act i) ∈ _; rw [if_pos rfl]; exact hv
    · refine ⟨?_, ?_⟩
      · rw [zuN (Or.inr (home_ne hD hi hj e))]; show _ = ((if i = j then v else act i : Nat) : Int); rw [if_neg e]; exact (h.1 i hi).1
      · show (if i = j then v else act i) ∈ _; rw [if_neg e]; exact (h.1 i hi).2
  · rw [zuN (Or.inr (fun q => by have := hD.whoseHome j hj; rw [q] at hw; omega))]
    exact h.2 r hr hw
theorem mOK.dr {S S' : zS} {D : zD} (h : mOK S D) (hf : ∀ c, c ≠ 85 → S' c = S c) : mOK S' D :=
  h.fr (fun j _ _ => by rw [hf 62 (by omega)]) (fun c hc => hf c (by omega))
theorem am_1 {D : zD} {t set l : Nat} (h : bt1 set l = 1) : amD D t set l = alM D t l := by unfold amD; rw [h]; rfl
theorem am_0 {D : zD} {t set l : Nat} (h : bt1 set l = 0) : amD D t set l = 2 ^ sgL D t l := by unfold amD; rw [h]; rfl
theorem bl_p2 {k : Nat} (h : k < 4) : bl (2 ^ k) = [k] ∧ aft (2 ^ k) k = [] := by
  have : k = 0 ∨ k = 1 ∨ k = 2 ∨ k = 3 := by omega
  rcases this with rfl | rfl | rfl | rfl <;> exact ⟨by decide +kernel, by decide +kernel⟩
def B_X12_turnsDoors : List (Nat × zC) := [(35, (0, 0, 2, 2, 0, 0, 12)), (71, (0, 0, 2, 2, 0, 0, 12))]
def O_X12_turnsDoors : zO := fun j a S K => match j with
  | 0 => wp_X12_another a S K
  | _ => False
theorem E_X12_turnsDoors (l : Launch) : ∀ q ∈ B_X12_turnsDoors, zcok l O_X12_turnsDoors F_X12_turnsDoors q.1 q.2 := List.forall_mem_cons.mpr ⟨⟨362, yX12_another, cX12_another, 4, some .int, by decide +kernel, C_12_362, W_X12_another, I_X12_another, S_X12_another, rfl, rfl, R_X12_another l⟩, List.forall_mem_cons.mpr ⟨⟨362, yX12_another, cX12_another, 4, some .int, by decide +kernel, C_12_362, W_X12_another, I_X12_another, S_X12_another, rfl, rfl, R_X12_another l⟩, fun _ h => by cases h⟩⟩
def U_X12_turnsDoors : List (Nat × zE) := [(0, Sum.inl (4, 0, 0, 0, 1, [])), (1, Sum.inl (18, 12, 2, 0, 4, [])), (4, Sum.inl (0, 0, 0, 1, 5, [])), (5, Sum.inl (9, 1, 0, 0, 6, [])), (6, Sum.inl (5, 2, 0, 0, 7, [])), (7, Sum.inl (2, 2, 0, 0, 8, [])), (8, Sum.inl (17, 1, 81, 0, 11, [])), (11, Sum.inl (2, 1, 0, 0, 12, [])), (12, Sum.inl (2, 2, 0, 0, 13, [])), (13, Sum.inl (9, 7, 0, 0, 14, [])), (14, Sum.inl (0, 0, 0, 1, 15, [])), (15, Sum.inl (9, 3, 0, 0, 16, [])), (16, Sum.inl (17, 0, 19, 0, 22, [])), (19, Sum.inl (15, 0, 0, 0, 75, [])), (22, Sum.inl (4, 0, 0, 0, 23, [])), (23, Sum.inl (2, 2, 0, 0, 24, [])), (24, Sum.inl (4, 0, 0, 0, 25, [])), (25, Sum.inl (18, 12, 46, 0, 28, [])), (28, Sum.inl (4, 0, 0, 0, 29, [])), (29, Sum.inl (18, 12, 7, 0, 32, [])), (32, Sum.inl (2, 2, 0, 0, 33, [])), (33, Sum.inl (20, 0, 0, 0, 34, [])), (34, Sum.inl (20, 0, 0, 0, 35, [])), (35, Sum.inr (0, 0, 2, 2, 0, 0, 12)), (38, Sum.inl (5, 3, 0, 0, 39, [])), (39, Sum.inl (2, 3, 0, 0, 40, [])), (40, Sum.inl (0, 0, 0, (-1), 41, [])), (41, Sum.inl (16, 0, 58, 0, 44, [])), (44, Sum.inl (4, 0, 0, 0, 45, [])), (45, Sum.inl (18, 12, 46, 0, 48, [])), (48, Sum.inl (4, 0, 0, 0, 49, [])), (49, Sum.inl (18, 12, 7, 0, 52, [])), (52, Sum.inl (2, 2, 0, 0, 53, [])), (53, Sum.inl (20, 0, 0, 0, 54, [])), (54, Sum.inl (2, 3, 0, 0, 55, [])), (55, Sum.inl (21, 0, 0, 0, 56, [])), (56, Sum.inl (0, 0, 0, 1, 57, [])), (57, Sum.inl (27, 0, 0, 0, 58, [])), (58, Sum.inl (4, 0, 0, 0, 59, [])), (59, Sum.inl (18, 12, 46, 0, 62, [])), (62, Sum.inl (4, 0, 0, 0, 63, [])), (63, Sum.inl (18, 12, 7, 0, 66, [])), (66, Sum.inl (2, 2, 0, 0, 67, [])), (67, Sum.inl (20, 0, 0, 0, 68, [])), (68, Sum.inl (4, 0, 0, 0, 69, [])), (69, Sum.inl (2, 2, 0, 0, 70, [])), (70, Sum.inl (0, 0, 0, (-1), 71, [])), (71, Sum.inr (0, 0, 2, 2, 0, 0, 12)), (74, Sum.inl (21, 0, 0, 0, 75, [])), (75, Sum.inl (8, 2, 0, (-1), 78, [])), (78, Sum.inl (15, 0, 0, 0, 7, [])), (81, Sum.inl (0, 0, 0, 0, 82, [])), (82, Sum.inl (27, 0, 0, 0, 83, []))]
theorem Z_X12_turnsDoors (l : Launch) : ∀ q ∈ U_X12_turnsDoors, zTok l O_X12_turnsDoors F_X12_turnsDoors q := zU_ok rfl rfl rfl K_X12_turnsDoors (E_X12_turnsDoors l)
def wp_X12_turnsDoors (a : List zV) (S : zS) (K : zR2 → zS → Prop) : Prop := match a with
  | [.inr (.inl c), .inl x] => ∃ (D : zD) (t set : Nat) (act : Nat → Nat), (c = 62 ∧ dOK D ∧ mOK S D ∧ reM S D t ∧ x = (set : Int) ∧ set < 256 ∧ doM S D t set act) ∧ (∀ S' act', doM S' D t set act' → (∀ c, c ≠ 85 → S' c = S c) → sL (amD D t set) act' (dL D) 0 = (sL (amD D t set) act (dL D) 0).tail → K (.inl (some (.inl 1))) S') ∧ (∀ S', (∀ c, c ≠ 85 → S' c = S c) → (sL (amD D t set) act (dL D) 0).tail = [] → K (.inl (some (.inl 0))) S')
  | _ => False
theorem L_X12_turnsDoors {l : Launch} {S0 : zS} {Q : zR2 → zS → Prop} {D : zD} {t set : Nat} {act : Nat → Nat} {x3 : Int} (hD : dOK D) (hM : mOK S0 D) (hr : reM S0 D t) (hs : set < 256)
    (h1 : ∀ S' act', doM S' D t set act' → (∀ c, c ≠ 85 → S' c = S0 c) → sL (amD D t set) act' (dL D) 0 = (sL (amD D t set) act (dL D) 0).tail → Q (.inl (some (.inl 1))) S') (h0 : ∀ S', (∀ c, c ≠ 85 → S' c = S0 c) → (sL (amD D t set) act (dL D) 0).tail = [] → Q (.inl (some (.inl 0))) S') : ∀ j f S cur, j + f = dL D → doM S D t set cur → (∀ c, c ≠ 85 → S c = S0 c) → (∀ i, i < j → cur i = act i) → (sL (amD D t set) act f j).tail = [] → (∀ i, j ≤ i → i < dL D → (bl (amD D t set i))[0]? = some (cur i)) → zGs l 3 0 0 F_X12_turnsDoors S 7 [(0, .inr (.inl 62)), (1, .inl (set : Int)), (2, .inl ((j : Int) - 1))] [] Q := by
  have h6 := hD.lodgers
  have h8 := hD.rooms
  intro j
  induction j with
  | zero =>
    intro f S cur hj hac hf heq htl hlo
    have : f = dL D := by omega
    subst this
    refine zwq_ok (Z_X12_turnsDoors l) rfl [7] (fun _ _ _ _ _ _ h => h) 400 (Z_X12_turnsDoors l) ?_
    exact ⟨fun c => ⟨Or.inl rfl, h0 S hf htl⟩, fun c => absurd c (by decide)⟩
  | succ j ih =>
    intro f S cur hj hac hf heq htl hlo
    have hMS := hM.dr hf
    have hrS : reM S D t := fun r hr' => by rw [hf 86 (by omega)]; exact hr r hr'
    obtain ⟨ec, hc⟩ := hac.1 j (by omega)
    have hc4 := (am_mem.mp hc).1
    have ecj := heq j (by omega)
    have ej : ((j + 1 : Nat) : Int) - 1 = (j : Int) := by omega
    have eh := hMS.home j (by omega)
    have hh := hD.home j (by omega)
    have e := zbit_n (a := set) (j := j) (by omega) (by omega)
    have hb2 := bt1_lt set j
    rw [ej]
    by_cases hset : bt1 set j = 1
    · have eam := am_1 (D := D) (t := t) hset
      by_cases hb : beN (alM D t j) (cur j) = -1
      · have haft := beN_0 hb
        have hne : bl (alM D t j) ≠ [] := by
          intro z
          rw [eam, z] at hc
          cases hc
        obtain ⟨v, rr, hv⟩ : ∃ v rr, bl (alM D t j) = v :: rr := by
          cases hq : bl (alM D t j) with
          | nil => exact absurd hq hne
          | cons v rr => exact ⟨v, rr, rfl⟩
        have hlow : (bl (alM D t j))[0]? = some v := by rw [hv]; rfl
        have hhd : hdI (blS (alM D t j) (18 - 0) 0) = (v : Int) := by
          show hdI (bl (alM D t j)) = _
          rw [hv]; rfl
        have this := ih (f + 1) (zu S 85 (dH D j) (v : Int)) (fun i => if i = j then v else cur i) (by omega) (hac.set hD (by omega) (by rw [eam]; exact List.mem_of_getElem? hlow)) (fun c hc => (zu_c hc).trans (hf c hc)) (fun i hi => by rw [if_neg (by omega)]; exact heq i (by omega)) (sL_last htl (by rw [← ecj, eam]; exact haft)) (fun i a b => by
          by_cases e : i = j
          · subst e; rw [if_pos rfl, eam]; exact hlow
          · rw [if_neg e]; exact hlo i (by omega) b)
        refine zwq_ok (Z_X12_turnsDoors l) rfl [7] (fun _ _ _ _ _ _ h => h) 400 (Z_X12_turnsDoors l) ?_
        refine ⟨fun c => by omega, fun c => ⟨fun c2 => ?_, fun c2 => ⟨j, ⟨rfl, by omega⟩, dH D j, ⟨eh, by omega⟩, D, t, j, cur j + 1, ⟨rfl, hD, hMS, hrS, rfl, by omega, by omega, by omega⟩, fun c3 => ⟨j, ⟨rfl, by omega⟩, D, t, j, 0, ⟨rfl, hD, hMS, hrS, rfl, by omega, by omega, by omega⟩, dH D j, ⟨eh, by omega⟩, by omega, ?_⟩, fun c3 => ?_⟩⟩⟩
        · rw [e] at c2; omega
        · rw [hhd]
          exact zGs.sub (lo := [(0, _), (1, _), (2, _), (3, _)]) this (fun q hq => by simp only [List.mem_cons, List.not_mem_nil, or_false] at hq; rcases hq with rfl | rfl | rfl <;> first | exact .head _ | exact .tail _ (.head _) | exact .tail _ (.tail _ (.head _)) | exact .tail _ (.tail _ (.tail _ (.head _))) | exact .tail _ (.tail _ (.tail _ (.tail _ (.head _)))) | exact .tail _ (.tail _ (.tail _ (.tail _ (.tail _ (.head _))))) | exact .tail _ (.tail _ (.tail _ (.tail _ (.tail _ (.tail _ (.head _)))))) | exact .tail _ (.tail _ (.tail _ (.tail _ (.tail _ (.tail _ (.tail _ (.head _))))))) | exact .tail _ (.tail _ (.tail _ (.tail _ (.tail _ (.tail _ (.tail _ (.tail _ (.head _)))))))) | exact .tail _ (.tail _ (.tail _ (.tail _ (.tail _ (.tail _ (.tail _ (.tail _ (.tail _ (.head _))))))))) | exact .tail _ (.tail _ (.tail _ (.tail _ (.tail _ (.tail _ (.tail _ (.tail _ (.tail _ (.tail _ (.head _)))))))))) | exact .tail _ (.tail _ (.tail _ (.tail _ (.tail _ (.tail _ (.tail _ (.tail _ (.tail _ (.tail _ (.tail _ (.head _))))))))))) | exact .tail _ (.tail _ (.tail _ (.tail _ (.tail _ (.tail _ (.tail _ (.tail _ (.tail _ (.tail _ (.tail _ (.tail _ (.head _)))))))))))) | exact .tail _ (.tail _ (.tail _ (.tail _ (.tail _ (.tail _ (.tail _ (.tail _ (.tail _ (.tail _ (.tail _ (.tail _ (.tail _ (.head _))))))))))))))
        · exfalso
          refine c3 ?_
          rw [beN_hd] at hb
          rw [show 18 - (cur j + 1) = 17 - cur j by omega]
          exact hb
      · obtain ⟨b, rr, haft, hbe⟩ := beN_1 hb
        have hbm : b ∈ bl (alM D t j) := aft_mem (a := cur j) (by rw [haft]; exact List.mem_cons_self)
        have hfin := h1 (zu S 85 (dH D j) (b : Int)) (fun i => if i = j then b else cur i) (hac.set hD (by omega) (by rw [eam]; exact hbm)) (fun c hc => (zu_c hc).trans (hf c hc)) (by
          have hn := sL_next (M := amD D t set) (act := act) (act' := fun i => if i = j then b else cur i) (f := f) (l := j) (b := b) (r := rr) (by omega) htl (by rw [← ecj, eam]; exact haft) (if_pos rfl) (fun i a c => by rw [if_neg (by omega)]; exact hlo i (by omega) (by omega))
          have hu := sL_up (M := amD D t set) (act := act) (act' := fun i => if i = j then b else cur i) j (f + 1) 0 (fun i _ hi => by rw [if_neg (by omega)]; exact heq i (by omega)) (by rw [Nat.zero_add]; exact hn)
          rw [show j + (f + 1) = dL D by omega] at hu
          exact hu)
        have hv : hdI (blS (alM D t j) (18 - (cur j + 1)) (cur j + 1)) = (b : Int) := by
          rw [beN_hd] at hbe
          rw [show 18 - (cur j + 1) = 17 - cur j by omega]
          exact hbe
        refine zwq_ok (Z_X12_turnsDoors l) rfl [7] (fun _ _ _ _ _ _ h => h) 400 (Z_X12_turnsDoors l) ?_
        refine ⟨fun c => by omega, fun c => ⟨fun c2 => ?_, fun c2 => ⟨j, ⟨rfl, by omega⟩, dH D j, ⟨eh, by omega⟩, D, t, j, cur j + 1, ⟨rfl, hD, hMS, hrS, rfl, by omega, by omega, by omega⟩, fun c3 => ?_, fun c3 => ⟨j, ⟨rfl, by omega⟩, dH D j, ⟨eh, by omega⟩, Or.inr rfl, ?_⟩⟩⟩⟩
        · rw [e] at c2; omega
        · rw [hv] at c3; omega
        · rw [hv]
          exact hfin
    · have h0s : bt1 set j = 0 := by omega
      have eam := am_0 (D := D) (t := t) h0s
      obtain ⟨b1, b2⟩ := bl_p2 (sgL_lt D t j)
      have ecur : cur j = sgL D t j := by
        rw [eam, b1] at hc
        exact List.mem_singleton.mp hc
      have this := ih (f + 1) S cur (by omega) hac hf (fun i hi => heq i (by omega)) (sL_last htl (by rw [← ecj, eam, ecur]; exact b2)) (fun i a b => by
        by_cases e : i = j
        · subst e; rw [eam, b1, ecur]; rfl
        · exact hlo i (by omega) b)
      refine zwq_ok (Z_X12_turnsDoors l) rfl [7] (fun _ _ _ _ _ _ h => h) 400 (Z_X12_turnsDoors l) ?_
      refine ⟨fun c => by omega, fun c => ⟨fun c2 => ⟨by omega, ?_⟩, fun c2 => ?_⟩⟩
      · exact this
      · rw [e] at c2; omega
theorem R_X12_turnsDoors (l : Launch) (a : List zV) (S : zS) (Q : zR2 → zS → Prop) (h : wp_X12_turnsDoors a S Q) : zRs l 3 0 0 yX12_turnsDoors (.code yX12_turnsDoors cX12_turnsDoors 4 (some .boolean)) a S Q := by
  unfold wp_X12_turnsDoors at h
  split at h
  · obtain ⟨D, t, set, act, ⟨rfl, hD, hM, hr, rfl, hs, hac⟩, h1, h0⟩ := h
    have h6 := hD.lodgers
    have e := hM.lodgers
    refine zRs_of 12 (by decide) rfl rfl ?_; refine zwq_ok (Z_X12_turnsDoors l) rfl [7] (fun _ _ _ _ _ _ h => h) 400 (Z_X12_turnsDoors l) ?_
    refine ⟨by omega, ?_⟩
    rw [e]
    exact L_X12_turnsDoors (S0 := S) (x3 := 0) hD hM hr hs h1 h0 (dL D) 0 S act (by omega) hac (fun _ _ => rfl) (fun _ _ => rfl) rfl (fun i a b => by omega)
  · exact h.elim
