/-! the model: the cases -/
def fitL (D : zD) (set : Nat) (sg : Nat → Nat) (row : List Nat) : Bool := fiS D set sg (fun l => row.getD l 0) (dR D) 0
def csL (D : zD) (t set : Nat) (sg : Nat → Nat) : List (List Nat) := (pL (fun j => bl (mxD D t j)) (dL D) 0).filter (fitL D set sg)
def csM (S : zS) (D : zD) (cs : List (List Nat)) : Prop := S 62 45 = (cs.length : Int) ∧ ∀ (i : Nat) (row : List Nat), cs[i]? = some row → ∀ l, l < dL D → S 84 (6 * i + l) = (row.getD l 0 : Int)
theorem row_pP (D : zD) (t : Nat) : ∀ n, rowD D t n = pP (fun j => bl (mxD D t j)) n := by
  intro n
  induction n with
  | zero => rfl
  | succ n ih => show rowD D t n * _ = pP _ n * _; rw [ih]; rfl
theorem fiS_congr {D : zD} (hD : dOK D) {set : Nat} {sg row row' : Nat → Nat} (h : ∀ l, l < dL D → row' l = row l) : ∀ f r, r + f = dR D → fiS D set sg row' f r = fiS D set sg row f r := by
  intro f
  induction f with
  | zero => intro r _; rfl
  | succ f ih =>
    intro r hr
    have hW := hD.whose r (by omega)
    have e : sgR D row' r = sgR D row r := by
      unfold sgR
      split
      · rfl
      · rw [h _ (by omega)]
    show (bif Nat.beq (bt1 set r) 1 && !(Nat.beq (sgR D row' r) (sg r)) then false else fiS D set sg row' f (r + 1)) = (bif Nat.beq (bt1 set r) 1 && !(Nat.beq (sgR D row r) (sg r)) then false else fiS D set sg row f (r + 1))
    rw [e, ih (r + 1) (by omega)]
theorem fit_row {D : zD} (hD : dOK D) {set : Nat} {sg act : Nat → Nat} : fitL D set sg (rowN act (dL D) 0) = fiS D set sg act (dR D) 0 :=
  fiS_congr hD (fun l hl => by rw [rowN_get _ _ _ _ hl, Nat.zero_add]) (dR D) 0 (by omega)
def B_X12_seeks : List (Nat × zC) := [(35, (1, 0, 1, 0, 0, 0, 0)), (56, (0, 1, 2, 3, 0, 0, 12)), (114, (0, 2, 1, 1, 0, 0, 12))]
def O_X12_seeks : zO := fun j a S K => match j with
  | 0 => wp_X12_lowest a S K
  | 1 => wp_X12_fits a S K
  | 2 => wp_X12_counts a S K
  | _ => False
theorem E_X12_seeks (l : Launch) : ∀ q ∈ B_X12_seeks, zcok l O_X12_seeks F_X12_seeks q.1 q.2 := List.forall_mem_cons.mpr ⟨⟨280, yX12_lowest, cX12_lowest, 2, some .int, by decide +kernel, C_12_280, W_X12_lowest, I_X12_lowest, rfl, R_X12_lowest l⟩, List.forall_mem_cons.mpr ⟨⟨334, yX12_fits, cX12_fits, 5, some .boolean, by decide +kernel, C_12_334, W_X12_fits, I_X12_fits, S_X12_fits, rfl, rfl, R_X12_fits l⟩, List.forall_mem_cons.mpr ⟨⟨338, yX12_counts, cX12_counts, 3, some .boolean, by decide +kernel, C_12_338, W_X12_counts, I_X12_counts, S_X12_counts, rfl, rfl, R_X12_counts l⟩, fun _ h => by cases h⟩⟩⟩
def U_X12_seeks : List (Nat × zE) := [(0, Sum.inl (4, 0, 0, 0, 1, [])), (1, Sum.inl (0, 0, 0, 0, 2, [])), (2, Sum.inl (19, 12, 45, 0, 5, [])), (5, Sum.inl (0, 0, 0, 0, 6, [])), (6, Sum.inl (5, 4, 0, 0, 8, [])), (8, Sum.inl (2, 4, 0, 0, 10, [])), (10, Sum.inl (4, 0, 0, 0, 11, [])), (11, Sum.inl (18, 12, 2, 0, 14, [])), (14, Sum.inl (16, 1, 17, 0, 45, [])), (17, Sum.inl (4, 0, 0, 0, 18, [])), (18, Sum.inl (18, 12, 43, 0, 21, [])), (21, Sum.inl (2, 4, 0, 0, 23, [])), (23, Sum.inl (4, 0, 0, 0, 24, [])), (24, Sum.inl (18, 12, 11, 0, 27, [])), (27, Sum.inl (0, 0, 0, 24, 29, [])), (29, Sum.inl (2, 4, 0, 0, 31, [])), (31, Sum.inl (9, 2, 0, 0, 32, [])), (32, Sum.inl (2, 1, 0, 0, 33, [])), (33, Sum.inl (9, 0, 0, 0, 34, [])), (34, Sum.inl (20, 0, 0, 0, 35, [])), (35, Sum.inr (1, 0, 1, 0, 0, 0, 0)), (38, Sum.inl (21, 0, 0, 0, 39, [])), (39, Sum.inl (8, 4, 0, 1, 42, [])), (42, Sum.inl (15, 0, 0, 0, 8, [])), (45, Sum.inl (0, 0, 0, 1, 46, [])), (46, Sum.inl (5, 4, 0, 0, 48, [])), (48, Sum.inl (2, 4, 0, 0, 50, [])), (50, Sum.inl (17, 0, 122, 0, 53, [])), (53, Sum.inl (4, 0, 0, 0, 54, [])), (54, Sum.inl (2, 2, 0, 0, 55, [])), (55, Sum.inl (4, 3, 0, 0, 56, [])), (56, Sum.inr (0, 1, 2, 3, 0, 0, 12)), (59, Sum.inl (17, 0, 112, 0, 62, [])), (62, Sum.inl (0, 0, 0, 0, 63, [])), (63, Sum.inl (5, 5, 0, 0, 65, [])), (65, Sum.inl (2, 5, 0, 0, 67, [])), (67, Sum.inl (4, 0, 0, 0, 68, [])), (68, Sum.inl (18, 12, 2, 0, 71, [])), (71, Sum.inl (16, 1, 74, 0, 102, [])), (74, Sum.inl (4, 0, 0, 0, 75, [])), (75, Sum.inl (18, 12, 44, 0, 78, [])), (78, Sum.inl (0, 0, 0, 6, 80, [])), (80, Sum.inl (4, 0, 0, 0, 81, [])), (81, Sum.inl (18, 12, 45, 0, 84, [])), (84, Sum.inl (9, 2, 0, 0, 85, [])), (85, Sum.inl (2, 5, 0, 0, 87, [])), (87, Sum.inl (9, 0, 0, 0, 88, [])), (88, Sum.inl (4, 0, 0, 0, 89, [])), (89, Sum.inl (18, 12, 43, 0, 92, [])), (92, Sum.inl (2, 5, 0, 0, 94, [])), (94, Sum.inl (20, 0, 0, 0, 95, [])), (95, Sum.inl (21, 0, 0, 0, 96, [])), (96, Sum.inl (8, 5, 0, 1, 99, [])), (99, Sum.inl (15, 0, 0, 0, 65, [])), (102, Sum.inl (4, 0, 0, 0, 103, [])), (103, Sum.inl (12, 0, 0, 0, 104, [])), (104, Sum.inl (18, 12, 45, 0, 107, [])), (107, Sum.inl (0, 0, 0, 1, 108, [])), (108, Sum.inl (9, 0, 0, 0, 109, [])), (109, Sum.inl (19, 12, 45, 0, 112, [])), (112, Sum.inl (4, 0, 0, 0, 113, [])), (113, Sum.inl (2, 1, 0, 0, 114, [])), (114, Sum.inr (0, 2, 1, 1, 0, 0, 12)), (117, Sum.inl (5, 4, 0, 0, 119, [])), (119, Sum.inl (15, 0, 0, 0, 48, [])), (122, Sum.inl (29, 0, 0, 0, 123, []))]
theorem Z_X12_seeks (l : Launch) : ∀ q ∈ U_X12_seeks, zTok l O_X12_seeks F_X12_seeks q := zU_ok rfl rfl rfl K_X12_seeks (E_X12_seeks l)
def wp_X12_seeks (a : List zV) (S : zS) (K : zR2 → zS → Prop) : Prop := match a with
  | [.inr (.inl c), .inl y, .inl x, .inr (.inl q)] => ∃ (D : zD) (t set : Nat) (sg : Nat → Nat), (c = 62 ∧ (q = 82 ∨ q = 85) ∧ dOK D ∧ mOK S D ∧ y = (t : Int) ∧ t < 24 ∧ x = (set : Int) ∧ set < 256 ∧ (∀ r, r < dR D → S q r = (sg r : Int)) ∧ rowD D t (dL D) ≤ 4000) ∧ ∀ S', csM S' D (csL D t set sg) → (∀ c j, c ≠ 83 → c ≠ 84 → (c ≠ 62 ∨ j ≠ 45) → S' c j = S c j) → K (.inl none) S'
  | _ => False
section
variable {l : Launch} {S0 : zS} {Q : zR2 → zS → Prop} {D : zD} {t set q : Nat} {sg : Nat → Nat} {x : Int}
theorem mOK.sk {S S' : zS} {D : zD} (h : mOK S D) (hf : ∀ c j, c ≠ 83 → c ≠ 84 → (c ≠ 62 ∨ j ≠ 45) → S' c j = S c j) : mOK S' D :=
  h.fr (fun j h1 _ => hf 62 j (by omega) (by omega) (Or.inr (by omega))) (fun c hc => funext fun j => hf c j (by omega) (by omega) (Or.inl (by omega)))
/-- one row is kept -/
theorem L0_X12_seeks {S : zS} {act : Nat → Nat} {n : Nat} {e4 : Int} (hq : q = 82 ∨ q = 85) (hD : dOK D) (hM : mOK S D) (hac : acM S D t act) (hn : S 62 45 = (n : Int)) (hn2 : n < 4000) (hk : ∀ S', (∀ i, i < dL D → S' 84 (6 * n + i) = (act i : Int)) → (∀ i, i < 6 * n → S' 84 i = S 84 i) → (∀ c, c ≠ 84 → S' c = S c) → zGs l 4 0 0 F_X12_seeks S' 102 [(0, .inr (.inl 62)), (1, .inl (t : Int)), (2, .inl (set : Int)), (3, .inr (.inl q)), (4, .inl e4)] [] Q) (f : Nat) : ∀ j S', j + f = dL D → (∀ i, i < j → S' 84 (6 * n + i) = (act i : Int)) → (∀ i, i < 6 * n → S' 84 i = S 84 i) → (∀ c, c ≠ 84 → S' c = S c) → zGs l 4 0 0 F_X12_seeks S' 65 [(0, .inr (.inl 62)), (1, .inl (t : Int)), (2, .inl (set : Int)), (3, .inr (.inl q)), (4, .inl e4), (5, .inl (j : Int))] [] Q := by
  have h6 := hD.lodgers
  have eL := hM.lodgers
  induction f with
  | zero =>
    intro j S' hj a1 a2 a3
    have : j = dL D := by omega
    subst this
    have eL2 : S' 62 2 = (dL D : Int) := by rw [a3 62 (by omega)]; exact eL
    refine zwq_ok (Z_X12_seeks l) rfl [65, 102] (fun _ _ _ _ _ _ h => h) 400 (Z_X12_seeks l) ?_
    refine ⟨fun c => by omega, fun c => ?_⟩
    exact zGs.sub (lo := [(0, _), (1, _), (2, _), (3, _), (4, _), (5, _)]) (hk S' a1 a2 a3) (fun q hq => by simp only [List.mem_cons, List.not_mem_nil, or_false] at hq; rcases hq with rfl | rfl | rfl | rfl | rfl <;> first | exact .head _ | exact .tail _ (.head _) | exact .tail _ (.tail _ (.head _)) | exact .tail _ (.tail _ (.tail _ (.head _))) | exact .tail _ (.tail _ (.tail _ (.tail _ (.head _)))) | exact .tail _ (.tail _ (.tail _ (.tail _ (.tail _ (.head _))))) | exact .tail _ (.tail _ (.tail _ (.tail _ (.tail _ (.tail _ (.head _)))))) | exact .tail _ (.tail _ (.tail _ (.tail _ (.tail _ (.tail _ (.tail _ (.head _))))))) | exact .tail _ (.tail _ (.tail _ (.tail _ (.tail _ (.tail _ (.tail _ (.tail _ (.head _)))))))) | exact .tail _ (.tail _ (.tail _ (.tail _ (.tail _ (.tail _ (.tail _ (.tail _ (.tail _ (.head _))))))))) | exact .tail _ (.tail _ (.tail _ (.tail _ (.tail _ (.tail _ (.tail _ (.tail _ (.tail _ (.tail _ (.head _)))))))))) | exact .tail _ (.tail _ (.tail _ (.tail _ (.tail _ (.tail _ (.tail _ (.tail _ (.tail _ (.tail _ (.tail _ (.head _))))))))))) | exact .tail _ (.tail _ (.tail _ (.tail _ (.tail _ (.tail _ (.tail _ (.tail _ (.tail _ (.tail _ (.tail _ (.tail _ (.head _)))))))))))) | exact .tail _ (.tail _ (.tail _ (.tail _ (.tail _ (.tail _ (.tail _ (.tail _ (.tail _ (.tail _ (.tail _ (.tail _ (.tail _ (.head _))))))))))))))
  | succ f ih =>
    intro j S' hj a1 a2 a3
    have eL2 : S' 62 2 = (dL D : Int) := by rw [a3 62 (by omega)]; exact eL
    have en2 : S' 62 45 = (n : Int) := by rw [a3 62 (by omega)]; exact hn
    have ea2 : S' 83 j = (act j : Int) := by rw [a3 83 (by omega)]; exact (hac j (by omega)).1
    have this := ih (j + 1) (zu S' 84 (6 * n + j) (S' 83 j)) (by omega) (fun i hi => by
      rw [zu_if]
      by_cases e : i = j
      · rw [if_pos (by omega), e]; exact ea2
      · rw [if_neg (by omega)]; exact a1 i (by omega)) (fun i hi => by rw [zuN (Or.inr (by omega))]; exact a2 i hi) (fun c hc => (zu_c hc).trans (a3 c hc))
    refine zwq_ok (Z_X12_seeks l) rfl [65, 102] (fun _ _ _ _ _ _ h => h) 400 (Z_X12_seeks l) ?_
    refine ⟨fun c => ⟨by omega, by omega, j, ⟨rfl, by omega⟩, 6 * n + j, ⟨by omega, by omega⟩, by omega, ?_⟩, fun c => by omega⟩
    exact this
theorem L1_X12_seeks_82 (hD : dOK D) (hM : mOK S0 D) (ht : t < 24) (hs : set < 256) (hsg : ∀ r, r < dR D → S0 82 r = (sg r : Int)) (hk : ∀ S', csM S' D (csL D t set sg) → (∀ c j, c ≠ 83 → c ≠ 84 → (c ≠ 62 ∨ j ≠ 45) → S' c j = S0 c j) → Q (.inl none) S') (f : Nat) : ∀ S act dn, (sL (mxD D t) act (dL D) 0).length = f → acM S D t act → csM S D dn → csL D t set sg = dn ++ (sL (mxD D t) act (dL D) 0).filter (fitL D set sg) → dn.length + f ≤ 4000 → (∀ c j, c ≠ 83 → c ≠ 84 → (c ≠ 62 ∨ j ≠ 45) → S c j = S0 c j) → zGs l 4 0 0 F_X12_seeks S 48 [(0, .inr (.inl 62)), (1, .inl (t : Int)), (2, .inl (set : Int)), (3, .inr (.inl 82)), (4, .inl 1)] [] Q := by
  have h6 := hD.lodgers
  induction f with
  | zero =>
    intro S act dn hl
    obtain ⟨r, hr⟩ := sL_hd (mxD D t) act (dL D) 0
    rw [hr] at hl
    cases hl
  | succ f ih =>
    intro S act dn hl hac hcs heq hle hf
    obtain ⟨r, hr⟩ := sL_hd (mxD D t) act (dL D) 0
    have hMS := hM.sk hf
    have hq2 : ∀ r, r < dR D → S 82 r = (sg r : Int) := fun r h => by rw [hf 82 r (by omega) (by omega) (Or.inl (by omega))]; exact hsg r h
    have hlr : r.length = f := by
      rw [hr] at hl
      exact Nat.succ.inj hl
    -- behind the row: the next, or the end
    have nx : ∀ S2 dn2, csM S2 D dn2 → acM S2 D t act → csL D t set sg = dn2 ++ r.filter (fitL D set sg) → dn2.length ≤ dn.length + 1 → (∀ c j, c ≠ 83 → c ≠ 84 → (c ≠ 62 ∨ j ≠ 45) → S2 c j = S0 c j) → zGs l 4 0 0 F_X12_seeks S2 112 [(0, .inr (.inl 62)), (1, .inl (t : Int)), (2, .inl (set : Int)), (3, .inr (.inl 82)), (4, .inl 1)] [] Q := by
      intro S2 dn2 c1 c2 c3 c4 c5
      refine zwq_ok (Z_X12_seeks l) rfl [48] (fun _ _ _ _ _ _ h => h) 400 (Z_X12_seeks l) ?_
      refine ⟨D, t, act, ⟨rfl, hD, hM.sk c5, rfl, ht, c2⟩, fun S3 act3 d1 d2 d3 => ?_, fun S3 d2 d3 => ?_⟩
      · rw [hr] at d3
        have d3 : sL (mxD D t) act3 (dL D) 0 = r := d3
        refine ih S3 act3 dn2 (by rw [d3]; exact hlr) d1 ?_ (by rw [d3]; exact c3) (by omega) (fun c j a1 a2 a3 => by rw [d2 c a1]; exact c5 c j a1 a2 a3)
        exact ⟨by rw [d2 62 (by omega)]; exact c1.1, fun i row h l hl => by rw [d2 84 (by omega)]; exact c1.2 i row h l hl⟩
      · rw [hr] at d3
        have d3 : r = [] := d3
        rw [d3] at c3
        have c3 : csL D t set sg = dn2 := by rw [c3]; exact List.append_nil _
        have hfin := hk S3 (by rw [c3]; exact ⟨by rw [d2 62 (by omega)]; exact c1.1, fun i row h l hl => by rw [d2 84 (by omega)]; exact c1.2 i row h l hl⟩) (fun c j a1 a2 a3 => by rw [d2 c a1]; exact c5 c j a1 a2 a3)
        refine zwq_ok (Z_X12_seeks l) rfl [48] (fun _ _ _ _ _ _ h => h) 400 (Z_X12_seeks l) ?_
        exact ⟨fun _ => hfin, fun c9 => absurd rfl c9⟩
    rw [hr] at heq
    refine zwq_ok (Z_X12_seeks l) rfl [48, 65, 112] (fun _ _ _ _ _ _ h => h) 400 (Z_X12_seeks l) ?_
    refine ⟨fun c9 => absurd c9 (by decide), fun _ => ⟨D, t, set, act, sg, ⟨rfl, by omega, hD, hMS, ht, hac, rfl, hs, hq2⟩, fun c => ?_, fun c => ?_⟩⟩
    · have hft : fitL D set sg (rowN act (dL D) 0) = false := by
        rw [fit_row hD]
        cases hb : fiS D set sg act (dR D) 0
        · rfl
        · rw [hb] at c; exact absurd c (by decide)
      rw [List.filter_cons_of_neg (by rw [hft]; decide)] at heq
      exact nx S dn hcs hac heq (by omega) hf
    · have hft : fitL D set sg (rowN act (dL D) 0) = true := by
        rw [fit_row hD]
        cases hb : fiS D set sg act (dR D) 0
        · rw [hb] at c; exact absurd rfl c
        · rfl
      rw [List.filter_cons_of_pos hft] at heq
      refine L0_X12_seeks (n := dn.length) (by omega) hD hMS hac hcs.1 (by omega) (fun S2 b1 b2 b3 => ?_) (dL D) 0 S (by omega) (fun i hi => absurd hi (Nat.not_lt_zero i)) (fun _ _ => rfl) (fun _ _ => rfl)
      have en2 : S2 62 45 = (dn.length : Int) := by rw [b3 62 (by omega)]; exact hcs.1
      refine zwq_ok (Z_X12_seeks l) rfl [112] (fun _ _ _ _ _ _ h => h) 400 (Z_X12_seeks l) ?_
      refine ⟨by omega, ?_⟩
      refine nx _ (dn ++ [rowN act (dL D) 0]) ⟨?_, fun i row h l hl => ?_⟩ (fun i hi => ?_) (by rw [heq, List.append_assoc]; rfl) (by rw [List.length_append]; exact Nat.le_refl _) (fun c j a1 a2 a3 => ?_)
      · rw [zuE, en2, List.length_append]; rfl
      · show S2 84 (6 * i + l) = _
        by_cases e : i < dn.length
        · rw [List.getElem?_append_left e] at h
          rw [b2 (6 * i + l) (by omega)]
          exact hcs.2 i row h l hl
        · have hi : i = dn.length := by
            have := (List.getElem?_eq_some_iff.mp h).1
            rw [List.length_append] at this
            have : i < dn.length + 1 := this
            omega
          subst hi
          rw [List.getElem?_concat_length] at h
          cases h
          rw [rowN_get _ _ _ _ hl, Nat.zero_add]
          exact b1 l hl
      · show S2 83 i = _ ∧ _
        rw [b3 83 (by omega)]
        exact hac i hi
      · rw [zuN a3, b3 c a2]
        exact hf c j a1 a2 a3
theorem L2_X12_seeks_82 (hD : dOK D) (hM : mOK S0 D) (ht : t < 24) (hs : set < 256) (hsg : ∀ r, r < dR D → S0 82 r = (sg r : Int)) (hrow : rowD D t (dL D) ≤ 4000) (hk : ∀ S', csM S' D (csL D t set sg) → (∀ c j, c ≠ 83 → c ≠ 84 → (c ≠ 62 ∨ j ≠ 45) → S' c j = S0 c j) → Q (.inl none) S') (f : Nat) : ∀ j S, j + f = dL D → S 62 45 = 0 → (∀ i, i < j → S 83 i = ((bl (mxD D t i)).getD 0 0 : Int)) → (∀ c j, c ≠ 83 → c ≠ 84 → (c ≠ 62 ∨ j ≠ 45) → S c j = S0 c j) → zGs l 4 0 0 F_X12_seeks S 8 [(0, .inr (.inl 62)), (1, .inl (t : Int)), (2, .inl (set : Int)), (3, .inr (.inl 82)), (4, .inl (j : Int))] [] Q := by
  have h6 := hD.lodgers
  have hg : ∀ i, i < dL D → (bl (mxD D t i))[0]? = some ((bl (mxD D t i)).getD 0 0) := fun i hi => by
    have hm := hD.may (24 * i + t) (by omega)
    exact lget (bl_pos hm.1 hm.2)
  induction f with
  | zero =>
    intro j S hj h0 hlo hf
    have : j = dL D := by omega
    subst this
    have eL := (hM.sk hf).lodgers
    have hall := sL_all (M := mxD D t) (act := fun i => (bl (mxD D t i)).getD 0 0) (dL D) 0 (fun i _ hi => hg i (by omega))
    have hlen : (pL (fun j => bl (mxD D t j)) (dL D) 0).length = rowD D t (dL D) := by rw [pL_len, lP_pP, row_pP]
    have go := L1_X12_seeks_82 (l := l) hD hM ht hs hsg hk (rowD D t (dL D)) S (fun i => (bl (mxD D t i)).getD 0 0) [] (by rw [hall, hlen]) (fun i hi => ⟨hlo i hi, List.mem_of_getElem? (hg i hi)⟩) ⟨h0, fun i row h => by cases h⟩ (by rw [hall]; rfl) (by rw [List.length_nil]; omega) hf
    refine zwq_ok (Z_X12_seeks l) rfl [8, 48] (fun _ _ _ _ _ _ h => h) 400 (Z_X12_seeks l) ?_
    refine ⟨fun c => by omega, fun c => ?_⟩
    exact go
  | succ f ih =>
    intro j S hj h0 hlo hf
    have hMS := hM.sk hf
    have eL := hMS.lodgers
    have hm := hD.may (24 * j + t) (by omega)
    have em := hMS.may (24 * j + t) (by omega)
    have this := ih (j + 1) (zu S 83 j ((bl (mxD D t j)).getD 0 0 : Int)) (by omega) h0 (fun i hi => by
      rw [zu_if]
      by_cases e : i = j
      · rw [if_pos e, e]
      · rw [if_neg e]; exact hlo i (by omega)) (fun c j a1 a2 a3 => (zuN (Or.inl a1)).trans (hf c j a1 a2 a3))
    refine zwq_ok (Z_X12_seeks l) rfl [8, 48] (fun _ _ _ _ _ _ h => h) 400 (Z_X12_seeks l) ?_
    refine ⟨fun c => ⟨by omega, by omega, 24 * j + t, ⟨by omega, by omega⟩, dM D (24 * j + t), (bl (mxD D t j)).getD 0 0, ⟨em, by omega, hg j (by omega)⟩, j, ⟨rfl, by omega⟩, by omega, ?_⟩, fun c => by omega⟩
    exact this
theorem L1_X12_seeks_85 (hD : dOK D) (hM : mOK S0 D) (ht : t < 24) (hs : set < 256) (hsg : ∀ r, r < dR D → S0 85 r = (sg r : Int)) (hk : ∀ S', csM S' D (csL D t set sg) → (∀ c j, c ≠ 83 → c ≠ 84 → (c ≠ 62 ∨ j ≠ 45) → S' c j = S0 c j) → Q (.inl none) S') (f : Nat) : ∀ S act dn, (sL (mxD D t) act (dL D) 0).length = f → acM S D t act → csM S D dn → csL D t set sg = dn ++ (sL (mxD D t) act (dL D) 0).filter (fitL D set sg) → dn.length + f ≤ 4000 → (∀ c j, c ≠ 83 → c ≠ 84 → (c ≠ 62 ∨ j ≠ 45) → S c j = S0 c j) → zGs l 4 0 0 F_X12_seeks S 48 [(0, .inr (.inl 62)), (1, .inl (t : Int)), (2, .inl (set : Int)), (3, .inr (.inl 85)), (4, .inl 1)] [] Q := by
  have h6 := hD.lodgers
  induction f with
  | zero =>
    intro S act dn hl
    obtain ⟨r, hr⟩ := sL_hd (mxD D t) act (dL D) 0
    rw [hr] at hl
    cases hl
  | succ f ih =>
    intro S act dn hl hac hcs heq hle hf
    obtain ⟨r, hr⟩ := sL_hd (mxD D t) act (dL D) 0
    have hMS := hM.sk hf
    have hq2 : ∀ r, r < dR D → S 85 r = (sg r : Int) := fun r h => by rw [hf 85 r (by omega) (by omega) (Or.inl (by omega))]; exact hsg r h
    have hlr : r.length = f := by
      rw [hr] at hl
      exact Nat.succ.inj hl
    -- behind the row: the next, or the end
    have nx : ∀ S2 dn2, csM S2 D dn2 → acM S2 D t act → csL D t set sg = dn2 ++ r.filter (fitL D set sg) → dn2.length ≤ dn.length + 1 → (∀ c j, c ≠ 83 → c ≠ 84 → (c ≠ 62 ∨ j ≠ 45) → S2 c j = S0 c j) → zGs l 4 0 0 F_X12_seeks S2 112 [(0, .inr (.inl 62)), (1, .inl (t : Int)), (2, .inl (set : Int)), (3, .inr (.inl 85)), (4, .inl 1)] [] Q := by
      intro S2 dn2 c1 c2 c3 c4 c5
      refine zwq_ok (Z_X12_seeks l) rfl [48] (fun _ _ _ _ _ _ h => h) 400 (Z_X12_seeks l) ?_
      refine ⟨D, t, act, ⟨rfl, hD, hM.sk c5, rfl, ht, c2⟩, fun S3 act3 d1 d2 d3 => ?_, fun S3 d2 d3 => ?_⟩
      · rw [hr] at d3
        have d3 : sL (mxD D t) act3 (dL D) 0 = r := d3
        refine ih S3 act3 dn2 (by rw [d3]; exact hlr) d1 ?_ (by rw [d3]; exact c3) (by omega) (fun c j a1 a2 a3 => by rw [d2 c a1]; exact c5 c j a1 a2 a3)
        exact ⟨by rw [d2 62 (by omega)]; exact c1.1, fun i row h l hl => by rw [d2 84 (by omega)]; exact c1.2 i row h l hl⟩
      · rw [hr] at d3
        have d3 : r = [] := d3
        rw [d3] at c3
        have c3 : csL D t set sg = dn2 := by rw [c3]; exact List.append_nil _
        have hfin := hk S3 (by rw [c3]; exact ⟨by rw [d2 62 (by omega)]; exact c1.1, fun i row h l hl => by rw [d2 84 (by omega)]; exact c1.2 i row h l hl⟩) (fun c j a1 a2 a3 => by rw [d2 c a1]; exact c5 c j a1 a2 a3)
        refine zwq_ok (Z_X12_seeks l) rfl [48] (fun _ _ _ _ _ _ h => h) 400 (Z_X12_seeks l) ?_
        exact ⟨fun _ => hfin, fun c9 => absurd rfl c9⟩
    rw [hr] at heq
    refine zwq_ok (Z_X12_seeks l) rfl [48, 65, 112] (fun _ _ _ _ _ _ h => h) 400 (Z_X12_seeks l) ?_
    refine ⟨fun c9 => absurd c9 (by decide), fun _ => ⟨D, t, set, act, sg, ⟨rfl, by omega, hD, hMS, ht, hac, rfl, hs, hq2⟩, fun c => ?_, fun c => ?_⟩⟩
    · have hft : fitL D set sg (rowN act (dL D) 0) = false := by
        rw [fit_row hD]
        cases hb : fiS D set sg act (dR D) 0
        · rfl
        · rw [hb] at c; exact absurd c (by decide)
      rw [List.filter_cons_of_neg (by rw [hft]; decide)] at heq
      exact nx S dn hcs hac heq (by omega) hf
    · have hft : fitL D set sg (rowN act (dL D) 0) = true := by
        rw [fit_row hD]
        cases hb : fiS D set sg act (dR D) 0
        · rw [hb] at c; exact absurd rfl c
        · rfl
      rw [List.filter_cons_of_pos hft] at heq
      refine L0_X12_seeks (n := dn.length) (by omega) hD hMS hac hcs.1 (by omega) (fun S2 b1 b2 b3 => ?_) (dL D) 0 S (by omega) (fun i hi => absurd hi (Nat.not_lt_zero i)) (fun _ _ => rfl) (fun _ _ => rfl)
      have en2 : S2 62 45 = (dn.length : Int) := by rw [b3 62 (by omega)]; exact hcs.1
      refine zwq_ok (Z_X12_seeks l) rfl [112] (fun _ _ _ _ _ _ h => h) 400 (Z_X12_seeks l) ?_
      refine ⟨by omega, ?_⟩
      refine nx _ (dn ++ [rowN act (dL D) 0]) ⟨?_, fun i row h l hl => ?_⟩ (fun i hi => ?_) (by rw [heq, List.append_assoc]; rfl) (by rw [List.length_append]; exact Nat.le_refl _) (fun c j a1 a2 a3 => ?_)
      · rw [zuE, en2, List.length_append]; rfl
      · show S2 84 (6 * i + l) = _
        by_cases e : i < dn.length
        · rw [List.getElem?_append_left e] at h
          rw [b2 (6 * i + l) (by omega)]
          exact hcs.2 i row h l hl
        · have hi : i = dn.length := by
            have := (List.getElem?_eq_some_iff.mp h).1
            rw [List.length_append] at this
            have : i < dn.length + 1 := this
            omega
          subst hi
          rw [List.getElem?_concat_length] at h
          cases h
          rw [rowN_get _ _ _ _ hl, Nat.zero_add]
          exact b1 l hl
      · show S2 83 i = _ ∧ _
        rw [b3 83 (by omega)]
        exact hac i hi
      · rw [zuN a3, b3 c a2]
        exact hf c j a1 a2 a3
theorem L2_X12_seeks_85 (hD : dOK D) (hM : mOK S0 D) (ht : t < 24) (hs : set < 256) (hsg : ∀ r, r < dR D → S0 85 r = (sg r : Int)) (hrow : rowD D t (dL D) ≤ 4000) (hk : ∀ S', csM S' D (csL D t set sg) → (∀ c j, c ≠ 83 → c ≠ 84 → (c ≠ 62 ∨ j ≠ 45) → S' c j = S0 c j) → Q (.inl none) S') (f : Nat) : ∀ j S, j + f = dL D → S 62 45 = 0 → (∀ i, i < j → S 83 i = ((bl (mxD D t i)).getD 0 0 : Int)) → (∀ c j, c ≠ 83 → c ≠ 84 → (c ≠ 62 ∨ j ≠ 45) → S c j = S0 c j) → zGs l 4 0 0 F_X12_seeks S 8 [(0, .inr (.inl 62)), (1, .inl (t : Int)), (2, .inl (set : Int)), (3, .inr (.inl 85)), (4, .inl (j : Int))] [] Q := by
  have h6 := hD.lodgers
  have hg : ∀ i, i < dL D → (bl (mxD D t i))[0]? = some ((bl (mxD D t i)).getD 0 0) := fun i hi => by
    have hm := hD.may (24 * i + t) (by omega)
    exact lget (bl_pos hm.1 hm.2)
  induction f with
  | zero =>
    intro j S hj h0 hlo hf
    have : j = dL D := by omega
    subst this
    have eL := (hM.sk hf).lodgers
    have hall := sL_all (M := mxD D t) (act := fun i => (bl (mxD D t i)).getD 0 0) (dL D) 0 (fun i _ hi => hg i (by omega))
    have hlen : (pL (fun j => bl (mxD D t j)) (dL D) 0).length = rowD D t (dL D) := by rw [pL_len, lP_pP, row_pP]
    have go := L1_X12_seeks_85 (l := l) hD hM ht hs hsg hk (rowD D t (dL D)) S (fun i => (bl (mxD D t i)).getD 0 0) [] (by rw [hall, hlen]) (fun i hi => ⟨hlo i hi, List.mem_of_getElem? (hg i hi)⟩) ⟨h0, fun i row h => by cases h⟩ (by rw [hall]; rfl) (by rw [List.length_nil]; omega) hf
    refine zwq_ok (Z_X12_seeks l) rfl [8, 48] (fun _ _ _ _ _ _ h => h) 400 (Z_X12_seeks l) ?_
    refine ⟨fun c => by omega, fun c => ?_⟩
    exact go
  | succ f ih =>
    intro j S hj h0 hlo hf
    have hMS := hM.sk hf
    have eL := hMS.lodgers
    have hm := hD.may (24 * j + t) (by omega)
    have em := hMS.may (24 * j + t) (by omega)
    have this := ih (j + 1) (zu S 83 j ((bl (mxD D t j)).getD 0 0 : Int)) (by omega) h0 (fun i hi => by
      rw [zu_if]
      by_cases e : i = j
      · rw [if_pos e, e]
      · rw [if_neg e]; exact hlo i (by omega)) (fun c j a1 a2 a3 => (zuN (Or.inl a1)).trans (hf c j a1 a2 a3))
    refine zwq_ok (Z_X12_seeks l) rfl [8, 48] (fun _ _ _ _ _ _ h => h) 400 (Z_X12_seeks l) ?_
    refine ⟨fun c => ⟨by omega, by omega, 24 * j + t, ⟨by omega, by omega⟩, dM D (24 * j + t), (bl (mxD D t j)).getD 0 0, ⟨em, by omega, hg j (by omega)⟩, j, ⟨rfl, by omega⟩, by omega, ?_⟩, fun c => by omega⟩
    exact this
end
theorem R_X12_seeks (l : Launch) (a : List zV) (S : zS) (Q : zR2 → zS → Prop) (h : wp_X12_seeks a S Q) : zRs l 4 0 0 yX12_seeks (.code yX12_seeks cX12_seeks 6 (none)) a S Q := by
  unfold wp_X12_seeks at h
  split at h
  · obtain ⟨D, t, set, sg, ⟨rfl, hq, hD, hM, rfl, ht, rfl, hs, hsg, hrow⟩, h⟩ := h
    rcases hq with rfl | rfl
    · refine zRs_of 12 (by decide) rfl rfl ?_; refine zwq_ok (Z_X12_seeks l) rfl [8] (fun _ _ _ _ _ _ h => h) 400 (Z_X12_seeks l) ?_
      exact L2_X12_seeks_82 (S0 := S) hD hM ht hs hsg hrow h (dL D) 0 _ (by omega) rfl (fun i hi => absurd hi (Nat.not_lt_zero i)) (fun c j a1 a2 a3 => zuN a3)
    · refine zRs_of 12 (by decide) rfl rfl ?_; refine zwq_ok (Z_X12_seeks l) rfl [8] (fun _ _ _ _ _ _ h => h) 400 (Z_X12_seeks l) ?_
      exact L2_X12_seeks_85 (S0 := S) hD hM ht hs hsg hrow h (dL D) 0 _ (by omega) rfl (fun i hi => absurd hi (Nat.not_lt_zero i)) (fun c j a1 a2 a3 => zuN a3)
  · exact h.elim
