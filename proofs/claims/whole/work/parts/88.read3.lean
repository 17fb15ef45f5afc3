/-! the house: the class advances -/
def rdS (S : zS) (T : zD) (n p : Nat) : Prop := S 19 3 = (tkN T n p : Int) ∧ S 19 4 = (tkS T n p : Int) ∧ S 19 5 = (tkP T n p : Int) ∧ (tkS T n p = 2 → S 19 6 = (tkV T n p : Int))
def frT (S S0 : zS) : Prop := ∀ c j, (c ≠ 19 ∨ j < 3 ∨ 6 < j) → S c j = S0 c j
theorem rdT.g {S S0 : zS} {T : zD} {n : Nat} (h : rdT S0 T n) (h2 : S 19 2 = S0 19 2) (h3 : S 2 = S0 2) : rdT S T n := by
  unfold rdT
  rw [h2, h3]
  exact h
theorem frT.u {S S0 : zS} {j : Nat} {v : Int} (h : frT S S0) (hj : 3 ≤ j ∧ j ≤ 6) : frT (zu S 19 j v) S0 := fun c i hc => (zuN (by omega)).trans (h c i hc)
theorem frT.f3 {S S1 S0 : zS} (h : frT S S0) (hf : fr3 S1 S) : frT S1 S0 := fun c i hc => (hf c i (by omega)).trans (h c i hc)
theorem rdT.ft {S S0 : zS} {T : zD} {n : Nat} (h : rdT S0 T n) (hf : frT S S0) : rdT S T n := h.g (hf 19 2 (by omega)) (funext fun k => hf 2 k (by omega))
def B_X7_advance : List (Nat × zC) := [(127, (0, 0, 2, 0, 0, 0, 7)), (155, (0, 0, 2, 0, 0, 0, 7)), (160, (0, 1, 0, 0, 0, 0, 7))]
def O_X7_advance : zO := fun j a S K => match j with
  | 0 => wp_X7_takeRow a S K
  | 1 => wp_X7_valueHere a S K
  | _ => False
theorem E_X7_advance (l : Launch) : ∀ q ∈ B_X7_advance, zcok l O_X7_advance F_X7_advance q.1 q.2 := List.forall_mem_cons.mpr ⟨⟨184, yX7_takeRow, cX7_takeRow, 3, none, by decide +kernel, C_7_184, W_X7_takeRow, I_X7_takeRow, S_X7_takeRow, rfl, rfl, R_X7_takeRow l⟩, List.forall_mem_cons.mpr ⟨⟨184, yX7_takeRow, cX7_takeRow, 3, none, by decide +kernel, C_7_184, W_X7_takeRow, I_X7_takeRow, S_X7_takeRow, rfl, rfl, R_X7_takeRow l⟩, List.forall_mem_cons.mpr ⟨⟨188, yX7_valueHere, cX7_valueHere, 3, some .int, by decide +kernel, C_7_188, W_X7_valueHere, I_X7_valueHere, S_X7_valueHere, rfl, rfl, R_X7_valueHere l⟩, fun _ h => by cases h⟩⟩⟩
def U_X7_advance : List (Nat × zE) := [(0, Sum.inl (4, 0, 0, 0, 1, [])), (1, Sum.inl (18, 7, 3, 0, 4, [])), (4, Sum.inl (4, 0, 0, 0, 5, [])), (5, Sum.inl (18, 7, 2, 0, 8, [])), (8, Sum.inl (16, 1, 11, 0, 52, [])), (11, Sum.inl (4, 0, 0, 0, 12, [])), (12, Sum.inl (18, 7, 0, 0, 15, [])), (15, Sum.inl (4, 0, 0, 0, 16, [])), (16, Sum.inl (18, 7, 3, 0, 19, [])), (19, Sum.inl (22, 0, 0, 0, 20, [])), (20, Sum.inl (0, 0, 0, 32, 22, [])), (22, Sum.inl (16, 0, 39, 0, 25, [])), (25, Sum.inl (4, 0, 0, 0, 26, [])), (26, Sum.inl (18, 7, 0, 0, 29, [])), (29, Sum.inl (4, 0, 0, 0, 30, [])), (30, Sum.inl (18, 7, 3, 0, 33, [])), (33, Sum.inl (22, 0, 0, 0, 34, [])), (34, Sum.inl (0, 0, 0, 10, 36, [])), (36, Sum.inl (16, 0, 39, 0, 52, [])), (39, Sum.inl (4, 0, 0, 0, 40, [])), (40, Sum.inl (12, 0, 0, 0, 41, [])), (41, Sum.inl (18, 7, 3, 0, 44, [])), (44, Sum.inl (0, 0, 0, 1, 45, [])), (45, Sum.inl (9, 0, 0, 0, 46, [])), (46, Sum.inl (19, 7, 3, 0, 49, [])), (49, Sum.inl (15, 0, 0, 0, 0, [])), (52, Sum.inl (4, 0, 0, 0, 53, [])), (53, Sum.inl (4, 0, 0, 0, 54, [])), (54, Sum.inl (18, 7, 3, 0, 57, [])), (57, Sum.inl (19, 7, 5, 0, 60, [])), (60, Sum.inl (4, 0, 0, 0, 61, [])), (61, Sum.inl (18, 7, 3, 0, 64, [])), (64, Sum.inl (4, 0, 0, 0, 65, [])), (65, Sum.inl (18, 7, 2, 0, 68, [])), (68, Sum.inl (16, 1, 85, 0, 71, [])), (71, Sum.inl (4, 0, 0, 0, 72, [])), (72, Sum.inl (0, 0, 0, 0, 73, [])), (73, Sum.inl (19, 7, 4, 0, 76, [])), (76, Sum.inl (4, 0, 0, 0, 77, [])), (77, Sum.inl (4, 0, 0, 0, 78, [])), (78, Sum.inl (18, 7, 2, 0, 81, [])), (81, Sum.inl (19, 7, 5, 0, 84, [])), (84, Sum.inl (29, 0, 0, 0, 85, [])), (85, Sum.inl (4, 0, 0, 0, 86, [])), (86, Sum.inl (18, 7, 0, 0, 89, [])), (89, Sum.inl (4, 0, 0, 0, 90, [])), (90, Sum.inl (18, 7, 3, 0, 93, [])), (93, Sum.inl (22, 0, 0, 0, 94, [])), (94, Sum.inl (5, 1, 0, 0, 95, [])), (95, Sum.inl (4, 0, 0, 0, 96, [])), (96, Sum.inl (12, 0, 0, 0, 97, [])), (97, Sum.inl (18, 7, 3, 0, 100, [])), (100, Sum.inl (0, 0, 0, 1, 101, [])), (101, Sum.inl (9, 0, 0, 0, 102, [])), (102, Sum.inl (19, 7, 3, 0, 105, [])), (105, Sum.inl (2, 1, 0, 0, 106, [])), (106, Sum.inl (0, 0, 0, 97, 108, [])), (108, Sum.inl (16, 1, 133, 0, 111, [])), (111, Sum.inl (2, 1, 0, 0, 112, [])), (112, Sum.inl (0, 0, 0, 122, 114, [])), (114, Sum.inl (16, 2, 133, 0, 117, [])), (117, Sum.inl (4, 0, 0, 0, 118, [])), (118, Sum.inl (0, 0, 0, 1, 119, [])), (119, Sum.inl (19, 7, 4, 0, 122, [])), (122, Sum.inl (4, 0, 0, 0, 123, [])), (123, Sum.inl (0, 0, 0, 97, 125, [])), (125, Sum.inl (0, 0, 0, 122, 127, [])), (127, Sum.inr (0, 0, 2, 0, 0, 0, 7)), (130, Sum.inl (15, 0, 0, 0, 184, [])), (133, Sum.inl (2, 1, 0, 0, 134, [])), (134, Sum.inl (0, 0, 0, 48, 136, [])), (136, Sum.inl (16, 1, 169, 0, 139, [])), (139, Sum.inl (2, 1, 0, 0, 140, [])), (140, Sum.inl (0, 0, 0, 57, 142, [])), (142, Sum.inl (16, 2, 169, 0, 145, [])), (145, Sum.inl (4, 0, 0, 0, 146, [])), (146, Sum.inl (0, 0, 0, 2, 147, [])), (147, Sum.inl (19, 7, 4, 0, 150, [])), (150, Sum.inl (4, 0, 0, 0, 151, [])), (151, Sum.inl (0, 0, 0, 48, 153, [])), (153, Sum.inl (0, 0, 0, 57, 155, [])), (155, Sum.inr (0, 0, 2, 0, 0, 0, 7)), (158, Sum.inl (4, 0, 0, 0, 159, [])), (159, Sum.inl (4, 0, 0, 0, 160, [])), (160, Sum.inr (0, 1, 0, 0, 0, 0, 7)), (163, Sum.inl (19, 7, 6, 0, 166, [])), (166, Sum.inl (15, 0, 0, 0, 184, [])), (169, Sum.inl (4, 0, 0, 0, 170, [])), (170, Sum.inl (2, 1, 0, 0, 171, [])), (171, Sum.inl (0, 0, 0, 59, 173, [])), (173, Sum.inl (16, 0, 176, 0, 180, [])), (176, Sum.inl (0, 0, 0, 3, 177, [])), (177, Sum.inl (15, 0, 0, 0, 181, [])), (180, Sum.inl (0, 0, 0, 4, 181, [])), (181, Sum.inl (19, 7, 4, 0, 184, [])), (184, Sum.inl (29, 0, 0, 0, 185, []))]
set_option maxRecDepth 20000 in
theorem Z_X7_advance (l : Launch) : ∀ q ∈ U_X7_advance, zTok l O_X7_advance F_X7_advance q := zU_ok rfl rfl rfl K_X7_advance (E_X7_advance l)
def wp_X7_advance (a : List zV) (S : zS) (K : zR2 → zS → Prop) : Prop := match a with
  | [.inr (.inl c)] => ∃ (T : zD) (n p : Nat), (c = 19 ∧ rdT S T n ∧ S 19 3 = (p : Int) ∧ p ≤ n) ∧ ∀ S', rdS S' T n p → frT S' S → K (.inl none) S'
  | _ => False
theorem L_X7_advance {lc : Launch} {S0 : zS} {Q : zR2 → zS → Prop} {T : zD} {n q0 : Nat} (hT : rdT S0 T n) (k : ∀ S, S 19 3 = (q0 : Int) → frT S S0 → (q0 < n → spB T q0 = false) → q0 ≤ n → zGs lc 1 0 0 F_X7_advance S 52 [(0, .inr (.inl 19))] [] Q) (f : Nat) : ∀ p S, p + f = n → S 19 3 = (p : Int) → frT S S0 → skS T f p = q0 → zGs lc 1 0 0 F_X7_advance S 0 [(0, .inr (.inl 19))] [] Q := by
  induction f with
  | zero =>
    intro p S hp h3 hf hq
    have hq : p = q0 := hq
    subst hq
    obtain ⟨e2, hn, hb, h256⟩ := hT.ft hf
    refine zwq_ok (Z_X7_advance lc) rfl [0, 52] (fun _ _ _ _ _ _ h => h) 400 (Z_X7_advance lc) ?_
    exact ⟨fun c => by omega, fun c => k S h3 hf (fun z => by omega) (by omega)⟩
  | succ f ih =>
    intro p S hp h3 hf hq
    have hq : (bif spB T p then skS T f (p + 1) else p) = q0 := hq
    obtain ⟨e2, hn, hb, h256⟩ := hT.ft hf
    have eb := hb p (by omega)
    have es : (sby (T 1 p) = 32 ↔ T 1 p = 32) ∧ (sby (T 1 p) = 10 ↔ T 1 p = 10) := by
      have := h256 p
      unfold sby
      split <;> omega
    have nx : (T 1 p = 32 ∨ T 1 p = 10) → zGs lc 1 0 0 F_X7_advance S 39 [(0, .inr (.inl 19))] [] Q := fun c => by
      rw [spB_t.mpr c] at hq
      have this := ih (p + 1) (zu S 19 3 ((p : Int) + 1)) (by omega) zuE (hf.u (by omega)) hq
      rw [← h3] at this
      refine zwq_ok (Z_X7_advance lc) rfl [0, 52] (fun _ _ _ _ _ _ h => h) 400 (Z_X7_advance lc) ?_
      exact ⟨by omega, this⟩
    refine zwq_ok (Z_X7_advance lc) rfl [0, 39, 52] (fun _ _ _ _ _ _ h => h) 400 (Z_X7_advance lc) ?_
    refine ⟨fun c => ⟨p, ⟨h3, by omega⟩, fun c1 => nx (by omega), fun c1 => ⟨p, ⟨h3, by omega⟩, fun c2 => nx (by omega), fun c2 => ?_⟩⟩, fun c => by omega⟩
    have hs : spB T p = false := spB_f (by omega)
    rw [hs] at hq
    have hq : p = q0 := hq
    subst hq
    exact k S h3 hf (fun _ => hs) (by omega)
theorem R_X7_advance (l : Launch) (a : List zV) (S : zS) (Q : zR2 → zS → Prop) (h : wp_X7_advance a S Q) : zRs l 1 0 0 yX7_advance (.code yX7_advance cX7_advance 2 (none)) a S Q := by
  unfold wp_X7_advance at h
  split at h
  · obtain ⟨T, n, p, ⟨rfl, hT, h3, hp⟩, h⟩ := h
    refine zRs_of 7 (by decide) rfl rfl ?_
    refine L_X7_advance (lc := l) (q0 := tkP T n p) hT (fun S1 g3 hf hs hle => ?_) (n - p) p S (by omega) h3 (fun _ _ _ => rfl) rfl
    have eS : tkS T n p = if n ≤ tkP T n p then 0 else if tin T 97 122 (tkP T n p) = true then 1 else if tin T 48 57 (tkP T n p) = true then 2 else if T 1 (tkP T n p) = 59 then 3 else 4 := rfl
    have eN : tkN T n p = if n ≤ tkP T n p then tkP T n p else if tin T 97 122 (tkP T n p) = true then rwE T n 97 122 (tkP T n p + 1) else if tin T 48 57 (tkP T n p) = true then rwE T n 48 57 (tkP T n p + 1) else tkP T n p + 1 := rfl
    have eV : tkV T n p = vaS T (min 3 (tkN T n p - tkP T n p)) (tkP T n p) 0 := rfl
    unfold rdS at h
    generalize tkV T n p = V at h eV
    generalize tkN T n p = N at h eN eV
    generalize tkS T n p = Z at h eS
    generalize tkP T n p = q at g3 hs hle h eS eN eV
    obtain ⟨e2, hn, hb, h256⟩ := hT.ft hf
    by_cases hq : n ≤ q
    · rw [if_pos hq] at eS eN
      subst eS eN
      have e : N = n := by omega
      subst e
      have k := h (zu (zu (zu S1 19 5 (N : Int)) 19 4 0) 19 5 (N : Int)) ⟨by rw [zuN (by omega), zuN (by omega), zuN (by omega)]; exact g3, by rw [zuN (by omega), zuE]; rfl, zuE, fun z => absurd z (by decide)⟩ (((hf.u (by omega)).u (by omega)).u (by omega))
      refine zwq_ok (Z_X7_advance l) rfl [0] (fun _ _ _ _ _ _ h => h) 400 (Z_X7_advance l) ?_
      refine ⟨fun c => by exact absurd c (by show ¬ S1 19 3 < S1 19 2; omega), fun c => ?_⟩
      show Q (.inl none) (zu (zu (zu S1 19 5 (S1 19 3)) 19 4 0) 19 5 (S1 19 2))
      rw [g3, e2]
      exact k
    · rw [if_neg hq] at eS eN
      have eb := hb q (by omega)
      have h25 := h256 q
      have hsb : ∀ lo hi : Nat, hi < 128 → (((lo : Int) ≤ sby (T 1 q) ∧ sby (T 1 q) ≤ (hi : Int)) ↔ (lo ≤ T 1 q ∧ T 1 q ≤ hi)) := fun lo hi hh => sby_in h25 hh
      have b1 := hsb 97 122 (by decide)
      have b2 := hsb 48 57 (by decide)
      have b3 := hsb 59 59 (by decide)
      have go : zGs l 1 0 0 F_X7_advance (zu (zu S1 19 5 (q : Int)) 19 3 ((q : Int) + 1)) 105 [(0, .inr (.inl 19)), (1, .inl (sby (T 1 q)))] [] Q := by
        have f2 : frT (zu (zu S1 19 5 (q : Int)) 19 3 ((q : Int) + 1)) S := (hf.u (by omega)).u (by omega)
        have r3 : zu (zu S1 19 5 (q : Int)) 19 3 ((q : Int) + 1) 19 3 = (q : Int) + 1 := zuE
        have r5 : zu (zu S1 19 5 (q : Int)) 19 3 ((q : Int) + 1) 19 5 = (q : Int) := by rw [zuN (by omega), zuE]
        generalize zu (zu S1 19 5 (q : Int)) 19 3 ((q : Int) + 1) = S2 at f2 r3 r5
        by_cases t1 : tin T 97 122 q = true
        · rw [if_pos t1] at eS eN
          subst eS
          have t1 := tin_t.mp t1
          refine zwq_ok (Z_X7_advance l) rfl [0] (fun _ _ _ _ _ _ h => h) 400 (Z_X7_advance l) ?_
          refine ⟨fun c => by omega, fun c => ⟨fun c2 => by omega, fun c2 => ⟨T, n, q + 1, 97, 122, ⟨rfl, hT.ft (f2.u (by omega)), by rw [zuN (by omega), r3]; rfl, by omega, rfl, rfl, by decide⟩, fun S3 g g2 => h S3 ⟨by rw [g, eN], by rw [g2 19 4 (by omega), zuE]; rfl, by rw [g2 19 5 (by omega), zuN (by omega), r5], fun z => absurd z (by decide)⟩ ((f2.u (by omega)).f3 g2)⟩⟩⟩
        · rw [if_neg t1] at eS eN
          have t1 : ¬ (97 ≤ T 1 q ∧ T 1 q ≤ 122) := fun z => t1 (tin_t.mpr z)
          by_cases t2 : tin T 48 57 q = true
          · rw [if_pos t2] at eS eN
            subst eS
            have t2 := tin_t.mp t2
            have hN := rwS_le T 48 57 (n - (q + 1)) (q + 1)
            have hN : q + 1 ≤ N ∧ N ≤ q + 1 + (n - (q + 1)) := by rw [eN]; exact hN
            refine zwq_ok (Z_X7_advance l) rfl [0] (fun _ _ _ _ _ _ h => h) 400 (Z_X7_advance l) ?_
            refine ⟨fun c => ⟨fun c2 => by omega, fun c2 => ⟨fun c3 => by omega, fun c3 => ⟨T, n, q + 1, 48, 57, ⟨rfl, hT.ft (f2.u (by omega)), by rw [zuN (by omega), r3]; rfl, by omega, rfl, rfl, by decide⟩, fun S3 g g2 => ⟨T, n, q, N, ⟨rfl, hT.ft ((f2.u (by omega)).f3 g2), by rw [g2 19 5 (by omega), zuN (by omega), r5], by rw [g, eN], by omega, by omega, fun i i1 i2 => ?_⟩, ?_⟩⟩⟩⟩, fun c => by omega⟩
            · by_cases e : i = q
              · rw [e]; exact t2
              · rw [eN] at i2
                exact rwS_in T 48 57 _ (q + 1) i (by omega) i2
            · rw [← eV]
              exact h _ ⟨by rw [zuN (by omega), g, eN], by rw [zuN (by omega), g2 19 4 (by omega), zuE]; rfl, by rw [zuN (by omega), g2 19 5 (by omega), zuN (by omega), r5], fun _ => zuE⟩ (((f2.u (by omega)).f3 g2).u (by omega))
          · rw [if_neg t2] at eS eN
            have t2 : ¬ (48 ≤ T 1 q ∧ T 1 q ≤ 57) := fun z => t2 (tin_t.mpr z)
            have e169 : zGs l 1 0 0 F_X7_advance S2 169 [(0, .inr (.inl 19)), (1, .inl (sby (T 1 q)))] [] Q := by
              have k := fun v (hv : (v : Int) = (Z : Int)) (hz : Z ≠ 2) => h (zu S2 19 4 v) ⟨by rw [zuN (by omega), r3, eN]; rfl, by rw [zuE]; exact hv, by rw [zuN (by omega), r5], fun z => absurd z hz⟩ (f2.u (by omega))
              refine zwq_ok (Z_X7_advance l) rfl [0] (fun _ _ _ _ _ _ h => h) 400 (Z_X7_advance l) ?_
              refine ⟨fun c => k 3 ?_ ?_, fun c => k 4 ?_ ?_⟩
              · rw [eS, if_pos (by omega)]; rfl
              · rw [eS, if_pos (by omega)]; decide
              · rw [eS, if_neg (by omega)]; rfl
              · rw [eS, if_neg (by omega)]; decide
            refine zwq_ok (Z_X7_advance l) rfl [0, 169] (fun _ _ _ _ _ _ h => h) 400 (Z_X7_advance l) ?_
            refine ⟨fun c => ⟨fun c2 => e169, fun c2 => ⟨fun c3 => e169, fun c3 => by omega⟩⟩, fun c => ⟨fun c2 => ⟨fun c3 => e169, fun c3 => ⟨fun c4 => e169, fun c4 => by omega⟩⟩, fun c2 => by omega⟩⟩
      rw [← eb, ← g3] at go
      refine zwq_ok (Z_X7_advance l) rfl [0, 105] (fun _ _ _ _ _ _ h => h) 400 (Z_X7_advance l) ?_
      refine ⟨fun c => ⟨q, ⟨g3, by omega⟩, ?_⟩, fun c => absurd (show S1 19 3 < S1 19 2 by omega) c⟩
      exact ⟨by show -2147483648 ≤ S1 19 3 + 1 ∧ S1 19 3 + 1 < 2147483648; omega, go⟩
  · exact h.elim
