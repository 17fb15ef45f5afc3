/-! round: the class -/
def weC (S : zS) (D : zD) (h n : Nat) : Prop := ∀ s, s < n → ∀ q, q < dR D → S 43 (8 * s + q) = (worD D q (h + s) : Int)
def rwC (S : zS) (D : zD) (n : Nat) (row : Nat → Nat) : Prop := ∀ s, s < n → S 44 s = (row s : Int) ∧ row s < dR D
def B_X10_weigh : List (Nat × zC) := [(42, (0, 0, 2, 3, 0, 0, 3))]
def O_X10_weigh : zO := fun j a S K => match j with
  | 0 => wp_X3_worthOf a S K
  | _ => False
theorem E_X10_weigh (l : Launch) : ∀ q ∈ B_X10_weigh, zcok l O_X10_weigh F_X10_weigh q.1 q.2 := List.forall_mem_cons.mpr ⟨⟨53, yX3_worthOf, cX3_worthOf, 3, some .int, by decide +kernel, C_10_53, W_X3_worthOf, I_X3_worthOf, S_X3_worthOf, rfl, rfl, R_X3_worthOf l⟩, fun _ h => by cases h⟩
def U_X10_weigh : List (Nat × zE) := [(0, Sum.inl (0, 0, 0, 0, 1, [])), (1, Sum.inl (5, 3, 0, 0, 2, [])), (2, Sum.inl (2, 3, 0, 0, 3, [])), (3, Sum.inl (2, 2, 0, 0, 4, [])), (4, Sum.inl (16, 1, 7, 0, 58, [])), (7, Sum.inl (0, 0, 0, 0, 8, [])), (8, Sum.inl (5, 4, 0, 0, 10, [])), (10, Sum.inl (2, 4, 0, 0, 12, [])), (12, Sum.inl (4, 0, 0, 0, 13, [])), (13, Sum.inl (18, 10, 0, 0, 16, [])), (16, Sum.inl (18, 6, 7, 0, 19, [])), (19, Sum.inl (16, 1, 22, 0, 52, [])), (22, Sum.inl (4, 0, 0, 0, 23, [])), (23, Sum.inl (18, 10, 2, 0, 26, [])), (26, Sum.inl (2, 3, 0, 0, 27, [])), (27, Sum.inl (0, 0, 0, 8, 29, [])), (29, Sum.inl (9, 2, 0, 0, 30, [])), (30, Sum.inl (2, 4, 0, 0, 32, [])), (32, Sum.inl (9, 0, 0, 0, 33, [])), (33, Sum.inl (4, 0, 0, 0, 34, [])), (34, Sum.inl (18, 10, 1, 0, 37, [])), (37, Sum.inl (2, 4, 0, 0, 39, [])), (39, Sum.inl (2, 1, 0, 0, 40, [])), (40, Sum.inl (2, 3, 0, 0, 41, [])), (41, Sum.inl (9, 0, 0, 0, 42, [])), (42, Sum.inr (0, 0, 2, 3, 0, 0, 3)), (45, Sum.inl (21, 0, 0, 0, 46, [])), (46, Sum.inl (8, 4, 0, 1, 49, [])), (49, Sum.inl (15, 0, 0, 0, 10, [])), (52, Sum.inl (8, 3, 0, 1, 55, [])), (55, Sum.inl (15, 0, 0, 0, 2, [])), (58, Sum.inl (29, 0, 0, 0, 59, []))]
theorem Z_X10_weigh (l : Launch) : ∀ q ∈ U_X10_weigh, zTok l O_X10_weigh F_X10_weigh q := zU_ok rfl rfl rfl K_X10_weigh (E_X10_weigh l)
def wp_X10_weigh (a : List zV) (S : zS) (K : zR2 → zS → Prop) : Prop := match a with
  | [.inr (.inl c), .inl x, .inl y] => ∃ (D : zD) (h n : Nat), (c = 42 ∧ dOK D ∧ cOK S D ∧ x = (h : Int) ∧ y = (n : Int) ∧ n ≤ 6 ∧ h + n ≤ 24) ∧ ∀ S', weC S' D h n → (∀ c, c ≠ 43 → S' c = S c) → K (.inl none) S'
  | _ => False
section
variable {l : Launch} {S0 : zS} {Q : zR2 → zS → Prop} {D : zD} {h n : Nat}
theorem L0_X10_weigh {s : Nat} (hD : dOK D) (hC : cOK S0 D) (hn : n ≤ 6) (hh : h + n ≤ 24) (hs : s < n) (k1 : ∀ S, weC S D h (s + 1) → (∀ c, c ≠ 43 → S c = S0 c) → zGs l 4 0 0 F_X10_weigh S 52 [(0, .inr (.inl 42)), (1, .inl (h : Int)), (2, .inl (n : Int)), (3, .inl (s : Int))] [] Q) (f : Nat) : ∀ q S, q + f = dR D → weC S D h s → (∀ i, i < q → S 43 (8 * s + i) = (worD D i (h + s) : Int)) → (∀ c, c ≠ 43 → S c = S0 c) → zGs l 4 0 0 F_X10_weigh S 10 [(0, .inr (.inl 42)), (1, .inl (h : Int)), (2, .inl (n : Int)), (3, .inl (s : Int)), (4, .inl (q : Int))] [] Q := by
  have h8 := hD.rooms
  induction f with
  | zero =>
    intro q S hq hw hi hf
    have : q = dR D := by omega
    subst this
    have hCS : cOK S D := hC.fr (fun c a b => hf c (by omega)) (fun c a b => hf c (by omega))
    have eR := hCS.rooms
    have := k1 S (fun i hi2 q hq2 => by
      by_cases e : i = s
      · subst e; exact hi q hq2
      · exact hw i (by omega) q hq2) hf
    refine zwq_ok (Z_X10_weigh l) rfl [10, 52] (fun _ _ _ _ _ _ h => h) 400 (Z_X10_weigh l) ?_
    refine ⟨fun c => by omega, fun c => ?_⟩
    exact zGs.sub (lo := [(0, _), (1, _), (2, _), (3, _), (4, _)]) this (fun q hq => by simp only [List.mem_cons, List.not_mem_nil, or_false] at hq; rcases hq with rfl | rfl | rfl | rfl <;> first | exact .head _ | exact .tail _ (.head _) | exact .tail _ (.tail _ (.head _)) | exact .tail _ (.tail _ (.tail _ (.head _))) | exact .tail _ (.tail _ (.tail _ (.tail _ (.head _)))) | exact .tail _ (.tail _ (.tail _ (.tail _ (.tail _ (.head _))))) | exact .tail _ (.tail _ (.tail _ (.tail _ (.tail _ (.tail _ (.head _)))))) | exact .tail _ (.tail _ (.tail _ (.tail _ (.tail _ (.tail _ (.tail _ (.head _))))))) | exact .tail _ (.tail _ (.tail _ (.tail _ (.tail _ (.tail _ (.tail _ (.tail _ (.head _)))))))) | exact .tail _ (.tail _ (.tail _ (.tail _ (.tail _ (.tail _ (.tail _ (.tail _ (.tail _ (.head _))))))))) | exact .tail _ (.tail _ (.tail _ (.tail _ (.tail _ (.tail _ (.tail _ (.tail _ (.tail _ (.tail _ (.head _)))))))))) | exact .tail _ (.tail _ (.tail _ (.tail _ (.tail _ (.tail _ (.tail _ (.tail _ (.tail _ (.tail _ (.tail _ (.head _))))))))))) | exact .tail _ (.tail _ (.tail _ (.tail _ (.tail _ (.tail _ (.tail _ (.tail _ (.tail _ (.tail _ (.tail _ (.tail _ (.head _)))))))))))) | exact .tail _ (.tail _ (.tail _ (.tail _ (.tail _ (.tail _ (.tail _ (.tail _ (.tail _ (.tail _ (.tail _ (.tail _ (.tail _ (.head _))))))))))))))
  | succ f ih =>
    intro q S hq hw hi hf
    have hCS : cOK S D := hC.fr (fun c a b => hf c (by omega)) (fun c a b => hf c (by omega))
    have eR := hCS.rooms
    have this := ih (q + 1) (zu S 43 (8 * s + q) (worD D q (h + s) : Int)) (by omega) (fun i hi2 p hp => by
      rw [zuN (Or.inr (by omega))]; exact hw i hi2 p hp) (fun i hi2 => by
      rw [zu_if]
      by_cases e : i = q
      · rw [if_pos (by omega), e]
      · rw [if_neg (by omega)]; exact hi i (by omega)) (fun c hc => (zu_c hc).trans (hf c hc))
    refine zwq_ok (Z_X10_weigh l) rfl [10, 52] (fun _ _ _ _ _ _ h => h) 400 (Z_X10_weigh l) ?_
    refine ⟨fun c => ⟨by omega, by omega, by omega, D, q, h + s, ⟨rfl, hD, hCS, rfl, rfl, by omega, by omega⟩, 8 * s + q, ⟨by omega, by omega⟩, by omega, ?_⟩, fun c => by omega⟩
    exact this
theorem L_X10_weigh (hD : dOK D) (hC : cOK S0 D) (hn : n ≤ 6) (hh : h + n ≤ 24) (k1 : ∀ S', weC S' D h n → (∀ c, c ≠ 43 → S' c = S0 c) → Q (.inl none) S') (f : Nat) : ∀ s S, s + f = n → weC S D h s → (∀ c, c ≠ 43 → S c = S0 c) → zGs l 4 0 0 F_X10_weigh S 2 [(0, .inr (.inl 42)), (1, .inl (h : Int)), (2, .inl (n : Int)), (3, .inl (s : Int))] [] Q := by
  induction f with
  | zero =>
    intro s S hs hw hf
    have : s = n := by omega
    subst this
    refine zwq_ok (Z_X10_weigh l) rfl [2, 10] (fun _ _ _ _ _ _ h => h) 400 (Z_X10_weigh l) ?_
    exact ⟨fun c => by omega, fun c => k1 S hw hf⟩
  | succ f ih =>
    intro s S hs hw hf
    have hCS : cOK S D := hC.fr (fun c a b => hf c (by omega)) (fun c a b => hf c (by omega))
    have go := L0_X10_weigh (l := l) (Q := Q) (S0 := S) (h := h) (s := s) hD hCS hn hh (by omega) (fun S1 w1 f1 => by
      have := ih (s + 1) S1 (by omega) w1 (fun c hc => (f1 c hc).trans (hf c hc))
      refine zwq_ok (Z_X10_weigh l) rfl [2] (fun _ _ _ _ _ _ h => h) 400 (Z_X10_weigh l) ?_
      exact ⟨by omega, this⟩) (dR D) 0 S (by omega) hw (fun i hi => absurd hi (Nat.not_lt_zero i)) (fun _ _ => rfl)
    refine zwq_ok (Z_X10_weigh l) rfl [2, 10] (fun _ _ _ _ _ _ h => h) 400 (Z_X10_weigh l) ?_
    refine ⟨fun c => ?_, fun c => by omega⟩
    exact go
end
theorem R_X10_weigh (l : Launch) (a : List zV) (S : zS) (Q : zR2 → zS → Prop) (h : wp_X10_weigh a S Q) : zRs l 4 0 0 yX10_weigh (.code yX10_weigh cX10_weigh 5 (none)) a S Q := by
  unfold wp_X10_weigh at h
  split at h
  · obtain ⟨D, h, n, ⟨rfl, hD, hC, rfl, rfl, hn, hh⟩, k1⟩ := h
    refine zRs_of 10 (by decide) rfl rfl ?_; refine zwq_ok (Z_X10_weigh l) rfl [2] (fun _ _ _ _ _ _ h => h) 400 (Z_X10_weigh l) ?_
    exact L_X10_weigh (S0 := S) hD hC hn hh k1 n 0 S (by omega) (fun s hs => absurd hs (Nat.not_lt_zero s)) (fun _ _ => rfl)
  · exact h.elim
def B_X10_layRow : List (Nat × zC) := []
def O_X10_layRow : zO := fun j a S K => match j with
  | _ => False
theorem E_X10_layRow (l : Launch) : ∀ q ∈ B_X10_layRow, zcok l O_X10_layRow F_X10_layRow q.1 q.2 := fun _ h => by cases h
def U_X10_layRow : List (Nat × zE) := [(0, Sum.inl (2, 1, 0, 0, 1, [])), (1, Sum.inl (5, 4, 0, 0, 3, [])), (3, Sum.inl (2, 3, 0, 0, 4, [])), (4, Sum.inl (0, 0, 0, 1, 5, [])), (5, Sum.inl (9, 1, 0, 0, 6, [])), (6, Sum.inl (5, 5, 0, 0, 8, [])), (8, Sum.inl (2, 5, 0, 0, 10, [])), (10, Sum.inl (17, 2, 13, 0, 38, [])), (13, Sum.inl (4, 0, 0, 0, 14, [])), (14, Sum.inl (18, 10, 3, 0, 17, [])), (17, Sum.inl (2, 5, 0, 0, 19, [])), (19, Sum.inl (2, 4, 0, 0, 21, [])), (21, Sum.inl (0, 0, 0, 3, 22, [])), (22, Sum.inl (9, 10, 0, 0, 23, [])), (23, Sum.inl (0, 0, 0, 1, 24, [])), (24, Sum.inl (9, 1, 0, 0, 25, [])), (25, Sum.inl (21, 0, 0, 0, 26, [])), (26, Sum.inl (2, 4, 0, 0, 28, [])), (28, Sum.inl (0, 0, 0, 3, 29, [])), (29, Sum.inl (9, 9, 0, 0, 30, [])), (30, Sum.inl (5, 4, 0, 0, 32, [])), (32, Sum.inl (8, 5, 0, (-1), 35, [])), (35, Sum.inl (15, 0, 0, 0, 8, [])), (38, Sum.inl (4, 0, 0, 0, 39, [])), (39, Sum.inl (18, 10, 3, 0, 42, [])), (42, Sum.inl (0, 0, 0, 0, 43, [])), (43, Sum.inl (2, 2, 0, 0, 44, [])), (44, Sum.inl (21, 0, 0, 0, 45, [])), (45, Sum.inl (0, 0, 0, 1, 46, [])), (46, Sum.inl (5, 5, 0, 0, 48, [])), (48, Sum.inl (2, 5, 0, 0, 50, [])), (50, Sum.inl (2, 3, 0, 0, 51, [])), (51, Sum.inl (16, 1, 54, 0, 108, [])), (54, Sum.inl (4, 0, 0, 0, 55, [])), (55, Sum.inl (18, 10, 3, 0, 58, [])), (58, Sum.inl (2, 5, 0, 0, 60, [])), (60, Sum.inl (13, 0, 0, 0, 61, [])), (61, Sum.inl (20, 0, 0, 0, 62, [])), (62, Sum.inl (4, 0, 0, 0, 63, [])), (63, Sum.inl (18, 10, 3, 0, 66, [])), (66, Sum.inl (2, 5, 0, 0, 68, [])), (68, Sum.inl (0, 0, 0, 1, 69, [])), (69, Sum.inl (9, 1, 0, 0, 70, [])), (70, Sum.inl (20, 0, 0, 0, 71, [])), (71, Sum.inl (9, 0, 0, 0, 72, [])), (72, Sum.inl (21, 0, 0, 0, 73, [])), (73, Sum.inl (4, 0, 0, 0, 74, [])), (74, Sum.inl (18, 10, 3, 0, 77, [])), (77, Sum.inl (2, 5, 0, 0, 79, [])), (79, Sum.inl (20, 0, 0, 0, 80, [])), (80, Sum.inl (17, 1, 100, 0, 83, [])), (83, Sum.inl (4, 0, 0, 0, 84, [])), (84, Sum.inl (18, 10, 3, 0, 87, [])), (87, Sum.inl (2, 5, 0, 0, 89, [])), (89, Sum.inl (20, 0, 0, 0, 90, [])), (90, Sum.inl (4, 0, 0, 0, 91, [])), (91, Sum.inl (18, 10, 0, 0, 94, [])), (94, Sum.inl (18, 6, 7, 0, 97, [])), (97, Sum.inl (16, 1, 102, 0, 100, [])), (100, Sum.inl (0, 0, 0, 0, 101, [])), (101, Sum.inl (27, 0, 0, 0, 102, [])), (102, Sum.inl (8, 5, 0, 1, 105, [])), (105, Sum.inl (15, 0, 0, 0, 48, [])), (108, Sum.inl (0, 0, 0, 1, 109, [])), (109, Sum.inl (27, 0, 0, 0, 110, []))]
theorem Z_X10_layRow (l : Launch) : ∀ q ∈ U_X10_layRow, zTok l O_X10_layRow F_X10_layRow q := zU_ok rfl rfl rfl K_X10_layRow (E_X10_layRow l)
def wp_X10_layRow (a : List zV) (S : zS) (K : zR2 → zS → Prop) : Prop := match a with
  | [.inr (.inl c), .inl x, .inl y, .inl z] => ∃ (D : zD) (w r n : Nat), (c = 42 ∧ dOK D ∧ cOK S D ∧ x = (w : Int) ∧ y = (r : Int) ∧ r < dR D ∧ z = (n : Int) ∧ 1 ≤ n ∧ n ≤ 6) ∧ (∀ tl, wz (dR D) (n - 1) r w = some tl → ∀ S', rwC S' D n (fun s => (r :: tl).getD s 0) → (∀ c, c ≠ 44 → S' c = S c) → K (.inl (some (.inl 1))) S') ∧ (wz (dR D) (n - 1) r w = none → ∀ S', (∀ c, c ≠ 44 → S' c = S c) → K (.inl (some (.inl 0))) S')
  | _ => False
section
variable {l : Launch} {S0 : zS} {Q : zR2 → zS → Prop} {D : zD} {w r n : Nat} {x4 : Int}
theorem L2_X10_layRow (hD : dOK D) (hn : n ≤ 6) (f : Nat) : ∀ (s c : Nat) (S : zS), cOK S D → s + f = n → 1 ≤ s → S 44 (s - 1) = (c : Int) → c < dR D → (∀ k, s ≤ k → k < n → S 44 k = ((w / 3 ^ (n - 1 - k) % 3 : Nat) : Int) - 1) → (∀ tl, wz (dR D) f c w = some tl → ∀ S', (∀ k, k < s → S' 44 k = S 44 k) → (∀ k, k < f → S' 44 (s + k) = (tl.getD k 0 : Int) ∧ tl.getD k 0 < dR D) → (∀ c, c ≠ 44 → S' c = S c) → Q (.inl (some (.inl 1))) S') → (wz (dR D) f c w = none → ∀ S', (∀ c, c ≠ 44 → S' c = S c) → Q (.inl (some (.inl 0))) S') → zGs l 0 0 0 F_X10_layRow S 48 [(0, .inr (.inl 42)), (1, .inl (w : Int)), (2, .inl (r : Int)), (3, .inl (n : Int)), (4, .inl x4), (5, .inl (s : Int))] [] Q := by
  have h8 := hD.rooms
  induction f with
  | zero =>
    intro s c S hC hs h1 hc hcR hd k1 k0
    have := k1 [] rfl S (fun _ _ => rfl) (fun k hk => absurd hk (Nat.not_lt_zero k)) (fun _ _ => rfl)
    refine zwq_ok (Z_X10_layRow l) rfl [48] (fun _ _ _ _ _ _ h => h) 400 (Z_X10_layRow l) ?_
    exact ⟨fun c => by omega, fun c => ⟨Or.inr rfl, this⟩⟩
  | succ f ih =>
    intro s c S hC hs h1 hc hcR hd k1 k0
    have eR := hC.rooms
    have ed := hd s (by omega) (by omega)
    rw [show n - 1 - s = f by omega] at ed
    have hd3 : w / 3 ^ f % 3 < 3 := Nat.mod_lt _ (by decide)
    have ewz : wz (dR D) (f + 1) c w = if 1 ≤ c + w / 3 ^ f % 3 ∧ c + w / 3 ^ f % 3 - 1 < dR D then (wz (dR D) f (c + w / 3 ^ f % 3 - 1) w).map (fun r => (c + w / 3 ^ f % 3 - 1) :: r) else none := rfl
    generalize w / 3 ^ f % 3 = d at *
    have ev : S 44 s + S 44 (s - 1) = (c : Int) + (d : Int) - 1 := by omega
    have bad : ¬ (1 ≤ c + d ∧ c + d - 1 < dR D) → ∀ v, Q (.inl (some (.inl 0))) (zu S 44 s v) := fun hb v => k0 (by rw [ewz, if_neg hb]) _ (fun c hc => zu_c hc)
    refine zwq_ok (Z_X10_layRow l) rfl [48] (fun _ _ _ _ _ _ h => h) 400 (Z_X10_layRow l) ?_
    refine ⟨fun c1 => ⟨s, ⟨rfl, by omega⟩, by omega, s - 1, ⟨by omega, by omega⟩, by omega, s, ⟨rfl, by omega⟩, s, ⟨rfl, by omega⟩, fun c2 => ⟨Or.inl rfl, bad ?_ _⟩, fun c2 => ⟨s, ⟨rfl, by omega⟩, fun c3 => ⟨by omega, ?_⟩, fun c3 => ⟨Or.inl rfl, bad ?_ _⟩⟩⟩, fun c1 => by omega⟩
    · rw [zuE] at c2
      omega
    · rw [zuE] at c2
      have c3 : S 44 s + S 44 (s - 1) < S 3 7 := by
        rw [zuE] at c3
        exact c3
      have hv : 1 ≤ c + d ∧ c + d - 1 < dR D := by omega
      rw [if_pos hv] at ewz
      refine ih (s + 1) (c + d - 1) _ (hC.fr (fun c a b => zu_c (by omega)) (fun c a b => zu_c (by omega))) (by omega) (by omega) ?_ hv.2 (fun k a b => ?_) (fun tl ht S' a1 a2 a3 => ?_) (fun ht S' a3 => ?_)
      · rw [Nat.add_sub_cancel, zuE]; omega
      · rw [zuN (Or.inr (by omega))]; exact hd k (by omega) b
      · refine k1 ((c + d - 1) :: tl) (by rw [ewz, ht]; rfl) S' (fun k hk => ?_) (fun k hk => ?_) (fun c hc => (a3 c hc).trans (zu_c hc))
        · rw [a1 k (by omega), zuN (Or.inr (by omega))]
        · cases k with
          | zero =>
            refine ⟨?_, hv.2⟩
            rw [Nat.add_zero, a1 s (by omega), zuE]
            show S 44 s + S 44 (s - 1) = ((c + d - 1 : Nat) : Int)
            omega
          | succ k =>
            have := a2 k (by omega)
            rw [show s + 1 + k = s + (k + 1) by omega] at this
            exact this
      · exact k0 (by rw [ewz, ht]; rfl) S' (fun c hc => (a3 c hc).trans (zu_c hc))
    · have c3 : ¬ S 44 s + S 44 (s - 1) < S 3 7 := by
        rw [zuE] at c3
        exact c3
      omega
theorem L1_X10_layRow (hn : n ≤ 6) (h : ∀ S, (∀ k, 1 ≤ k → k < n → S 44 k = ((w / 3 ^ (n - 1 - k) % 3 : Nat) : Int) - 1) → (∀ c, c ≠ 44 → S c = S0 c) → ∀ x4 : Int, zGs l 0 0 0 F_X10_layRow S 38 [(0, .inr (.inl 42)), (1, .inl (w : Int)), (2, .inl (r : Int)), (3, .inl (n : Int)), (4, .inl x4)] [] Q) : ∀ j S, j + 1 ≤ n → (∀ k, j + 1 ≤ k → k < n → S 44 k = ((w / 3 ^ (n - 1 - k) % 3 : Nat) : Int) - 1) → (∀ c, c ≠ 44 → S c = S0 c) → zGs l 0 0 0 F_X10_layRow S 8 [(0, .inr (.inl 42)), (1, .inl (w : Int)), (2, .inl (r : Int)), (3, .inl (n : Int)), (4, .inl ((w / 3 ^ (n - 1 - j) : Nat) : Int)), (5, .inl (j : Int))] [] Q := by
  intro j
  induction j with
  | zero =>
    intro S hj a1 a2
    have := h S (fun k b c => a1 k (by omega) c) a2 ((w / 3 ^ (n - 1 - 0) : Nat) : Int)
    refine zwq_ok (Z_X10_layRow l) rfl [8, 38] (fun _ _ _ _ _ _ h => h) 400 (Z_X10_layRow l) ?_
    refine ⟨fun c => absurd c (by decide), fun c => ?_⟩
    exact zGs.sub (lo := [(0, _), (1, _), (2, _), (3, _), (4, _), (5, _)]) this (fun q hq => by simp only [List.mem_cons, List.not_mem_nil, or_false] at hq; rcases hq with rfl | rfl | rfl | rfl | rfl <;> first | exact .head _ | exact .tail _ (.head _) | exact .tail _ (.tail _ (.head _)) | exact .tail _ (.tail _ (.tail _ (.head _))) | exact .tail _ (.tail _ (.tail _ (.tail _ (.head _)))) | exact .tail _ (.tail _ (.tail _ (.tail _ (.tail _ (.head _))))) | exact .tail _ (.tail _ (.tail _ (.tail _ (.tail _ (.tail _ (.head _)))))) | exact .tail _ (.tail _ (.tail _ (.tail _ (.tail _ (.tail _ (.tail _ (.head _))))))) | exact .tail _ (.tail _ (.tail _ (.tail _ (.tail _ (.tail _ (.tail _ (.tail _ (.head _)))))))) | exact .tail _ (.tail _ (.tail _ (.tail _ (.tail _ (.tail _ (.tail _ (.tail _ (.tail _ (.head _))))))))) | exact .tail _ (.tail _ (.tail _ (.tail _ (.tail _ (.tail _ (.tail _ (.tail _ (.tail _ (.tail _ (.head _)))))))))) | exact .tail _ (.tail _ (.tail _ (.tail _ (.tail _ (.tail _ (.tail _ (.tail _ (.tail _ (.tail _ (.tail _ (.head _))))))))))) | exact .tail _ (.tail _ (.tail _ (.tail _ (.tail _ (.tail _ (.tail _ (.tail _ (.tail _ (.tail _ (.tail _ (.tail _ (.head _)))))))))))) | exact .tail _ (.tail _ (.tail _ (.tail _ (.tail _ (.tail _ (.tail _ (.tail _ (.tail _ (.tail _ (.tail _ (.tail _ (.tail _ (.head _))))))))))))))
  | succ j ih =>
    intro S hj a1 a2
    have hq : (w / 3 ^ (n - 1 - (j + 1))) / 3 = w / 3 ^ (n - 1 - j) := by
      rw [Nat.div_div_eq_div_mul, ← Nat.pow_succ, Nat.succ_eq_add_one, show n - 1 - (j + 1) + 1 = n - 1 - j by omega]
    have e1 : ((w / 3 ^ (n - 1 - (j + 1)) : Nat) : Int) % 3 - 1 = ((w / 3 ^ (n - 1 - (j + 1)) % 3 : Nat) : Int) - 1 := rfl
    have e2 : ((w / 3 ^ (n - 1 - (j + 1)) : Nat) : Int) / 3 = ((w / 3 ^ (n - 1 - j) : Nat) : Int) := by rw [← hq]; rfl
    have this := ih (zu S 44 (j + 1) (((w / 3 ^ (n - 1 - (j + 1)) % 3 : Nat) : Int) - 1)) (by omega) (fun k b c => by
      rw [zu_if]
      by_cases e : k = j + 1
      · rw [if_pos e, e]
      · rw [if_neg e]; exact a1 k (by omega) c) (fun c hc => (zu_c hc).trans (a2 c hc))
    rw [← e1, ← e2] at this
    generalize w / 3 ^ (n - 1 - (j + 1)) = W at *
    refine zwq_ok (Z_X10_layRow l) rfl [8, 38] (fun _ _ _ _ _ _ h => h) 400 (Z_X10_layRow l) ?_
    refine ⟨fun c => ⟨⟨by omega, by omega⟩, by omega, j + 1, ⟨rfl, by omega⟩, ⟨by omega, by omega⟩, by omega, ?_⟩, fun c => by omega⟩
    rw [show ((j + 1 : Nat) : Int) + -1 = (j : Int) by omega]
    exact this
end
theorem R_X10_layRow (l : Launch) (a : List zV) (S : zS) (Q : zR2 → zS → Prop) (h : wp_X10_layRow a S Q) : zRs l 0 0 0 yX10_layRow (.code yX10_layRow cX10_layRow 6 (some .boolean)) a S Q := by
  unfold wp_X10_layRow at h
  split at h
  · obtain ⟨D, w, r, n, ⟨rfl, hD, hC, rfl, rfl, hr, rfl, hn1, hn⟩, k1, k0⟩ := h
    have h8 := hD.rooms
    refine zRs_of 10 (by decide) rfl rfl ?_; refine zwq_ok (Z_X10_layRow l) rfl [8] (fun _ _ _ _ _ _ h => h) 400 (Z_X10_layRow l) ?_
    refine ⟨by omega, ?_⟩
    have go := L1_X10_layRow (l := l) (Q := Q) (S0 := S) (w := w) (r := r) hn (fun S1 a1 a2 x4 => by
      have hC1 : cOK S1 D := hC.fr (fun c a b => a2 c (by omega)) (fun c a b => a2 c (by omega))
      have go2 := L2_X10_layRow (l := l) (Q := Q) (w := w) (r := r) (n := n) (x4 := x4) hD hn (n - 1) 1 r (zu S1 44 0 (r : Int)) (hC1.fr (fun c a b => zu_c (by omega)) (fun c a b => zu_c (by omega))) (by omega) (by omega) zuE hr (fun k a b => by rw [zuN (Or.inr (by omega))]; exact a1 k a b) (fun tl ht S' b1 b2 b3 => by
        refine k1 tl ht S' (fun s hs => ?_) (fun c hc => (b3 c hc).trans ((zu_c hc).trans (a2 c hc)))
        cases s with
        | zero => exact ⟨by rw [b1 0 (by omega), zuE]; rfl, hr⟩
        | succ s =>
          have := b2 s (by omega)
          rw [show 1 + s = s + 1 by omega] at this
          exact this) (fun ht S' b3 => k0 ht S' (fun c hc => (b3 c hc).trans ((zu_c hc).trans (a2 c hc))))
      refine zwq_ok (Z_X10_layRow l) rfl [48] (fun _ _ _ _ _ _ h => h) 400 (Z_X10_layRow l) ?_
      refine ⟨0, ⟨rfl, by omega⟩, ?_⟩
      exact go2) (n - 1) S (by omega) (fun k a b => by omega) (fun _ _ => rfl)
    rw [Nat.sub_self, Nat.pow_zero, Nat.div_one, show ((n - 1 : Nat) : Int) = (n : Int) - 1 by omega] at go
    exact go
  · exact h.elim
