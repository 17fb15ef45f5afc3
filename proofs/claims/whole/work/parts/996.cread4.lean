/-! the house: the class reads a text -/
/-- an empty draft -/
def p0 : zD := fun c j => bif Nat.beq c 6 then (bif Nat.beq j 0 then 3 else bif Nat.beq j 2 then 2 else 1) else 0
theorem p0_ok : pOK p0 := by
  refine ⟨by decide, by decide, by decide, by decide, by decide, fun r hr => absurd hr (Nat.not_lt_zero r), fun r hr => absurd hr (Nat.not_lt_zero r), fun r hr => absurd hr (Nat.not_lt_zero r), fun r hr => absurd hr (Nat.not_lt_zero r), fun r hr => absurd hr (Nat.not_lt_zero r), fun k => Nat.zero_le 1, fun r hr => absurd hr (Nat.not_lt_zero r), by decide, fun k => by show 0 < 4096; decide, fun l h a hl => absurd hl (Nat.not_lt_zero l), fun k _ => rfl⟩
def B_X6_clear : List (Nat × zC) := [(30, (1, 0, 2, 0, 0, 0, 0)), (34, (0, 1, 0, 0, 0, 0, 6))]
def O_X6_clear : zO := fun j a S K => match j with
  | 0 => wp_J7_fill_53178 a S K
  | 1 => wp_X6_setFirstLaw a S K
  | _ => False
theorem E_X6_clear (l : Launch) : ∀ q ∈ B_X6_clear, zcok l O_X6_clear F_X6_clear q.1 q.2 := List.forall_mem_cons.mpr ⟨⟨52, yJ7_fill_53178, cJ7_fill_53178, 4, none, by decide +kernel, C_6_52, W_J7_fill_53178, I_J7_fill_53178, rfl, R_J7_fill_53178 l⟩, List.forall_mem_cons.mpr ⟨⟨33, yX6_setFirstLaw, cX6_setFirstLaw, 1, none, by decide +kernel, C_6_33, W_X6_setFirstLaw, I_X6_setFirstLaw, S_X6_setFirstLaw, rfl, rfl, R_X6_setFirstLaw l⟩, fun _ h => by cases h⟩⟩
def U_X6_clear : List (Nat × zE) := [(0, Sum.inl (4, 0, 0, 0, 1, [])), (1, Sum.inl (0, 0, 0, 0, 2, [])), (2, Sum.inl (19, 6, 7, 0, 5, [])), (5, Sum.inl (4, 0, 0, 0, 6, [])), (6, Sum.inl (0, 0, 0, 0, 7, [])), (7, Sum.inl (19, 6, 8, 0, 10, [])), (10, Sum.inl (4, 0, 0, 0, 11, [])), (11, Sum.inl (0, 0, 0, 0, 12, [])), (12, Sum.inl (19, 6, 9, 0, 15, [])), (15, Sum.inl (4, 0, 0, 0, 16, [])), (16, Sum.inl (0, 0, 0, 0, 17, [])), (17, Sum.inl (19, 6, 10, 0, 20, [])), (20, Sum.inl (4, 0, 0, 0, 21, [])), (21, Sum.inl (0, 0, 0, 0, 22, [])), (22, Sum.inl (19, 6, 11, 0, 25, [])), (25, Sum.inl (4, 0, 0, 0, 26, [])), (26, Sum.inl (18, 6, 5, 0, 29, [])), (29, Sum.inl (0, 0, 0, 0, 30, [])), (30, Sum.inr (1, 0, 2, 0, 0, 0, 0)), (33, Sum.inl (4, 0, 0, 0, 34, [])), (34, Sum.inr (0, 1, 0, 0, 0, 0, 6)), (37, Sum.inl (29, 0, 0, 0, 38, []))]
theorem Z_X6_clear (l : Launch) : ∀ q ∈ U_X6_clear, zTok l O_X6_clear F_X6_clear q := zU_ok rfl rfl rfl K_X6_clear (E_X6_clear l)
def wp_X6_clear (a : List zV) (S : zS) (K : zR2 → zS → Prop) : Prop := match a with
  | [.inr (.inl c)] => c = 11 ∧ ∀ S', cP S' p0 → frD S' S → K (.inl none) S'
  | _ => False
theorem R_X6_clear (l : Launch) (a : List zV) (S : zS) (Q : zR2 → zS → Prop) (h : wp_X6_clear a S Q) : zRs l 1 0 0 yX6_clear (.code yX6_clear cX6_clear 1 (none)) a S Q := by
  unfold wp_X6_clear at h
  split at h
  · obtain ⟨rfl, h⟩ := h
    refine zRs_of 6 (by decide) rfl rfl ?_; refine zwq_ok (Z_X6_clear l) rfl [] (fun _ _ _ _ _ _ h => h) 400 (Z_X6_clear l) ?_
    refine ⟨0, ⟨rfl, by decide⟩, 1, ⟨rfl, by decide⟩, 2, ⟨rfl, by decide⟩, 3, ⟨rfl, by decide⟩, ?_⟩
    refine h _ ⟨rfl, rfl, rfl, rfl, rfl, fun r hr => absurd hr (Nat.not_lt_zero r), fun r hr => absurd hr (Nat.not_lt_zero r), fun r hr => absurd hr (Nat.not_lt_zero r), fun r hr => absurd hr (Nat.not_lt_zero r), fun r hr => absurd hr (Nat.not_lt_zero r), fun k hk => ?_, fun a ha => ?_⟩ ?_
    · rw [zuN (by omega), zuN (by omega), zuN (by omega), zuN (by omega), zfil_at hk]; show (0 : Int) = ((spr 0 : Nat) : Int); decide
    · have : a = 0 ∨ a = 1 ∨ a = 2 ∨ a = 3 := by omega
      rcases this with rfl | rfl | rfl | rfl <;> rfl
    · intro c hc
      rw [zu_c (by omega), zu_c (by omega), zu_c (by omega), zu_c (by omega), zfil_c (by omega), zu_c (by omega), zu_c (by omega), zu_c (by omega), zu_c (by omega), zu_c (by omega)]
  · exact h.elim
def B_X7_read : List (Nat × zC) := [(7, (5, 0, 0, 0, 0, 0, 0)), (32, (0, 0, 0, 1, 0, 0, 6)), (36, (0, 1, 0, 1, 0, 0, 7)), (63, (0, 2, 0, 8, 0, 0, 7))]
def O_X7_read : zO := fun j a S K => match j with
  | 0 => wp_X6_clear a S K
  | 1 => wp_X7_advance a S K
  | 2 => wp_X7_readLine a S K
  | _ => False
theorem E_X7_read (l : Launch) : ∀ q ∈ B_X7_read, zcok l O_X7_read F_X7_read q.1 q.2 := List.forall_mem_cons.mpr ⟨⟨19, by decide +kernel, z_at 617 (by decide +kernel) (by decide +kernel)⟩, List.forall_mem_cons.mpr ⟨⟨38, yX6_clear, cX6_clear, 1, none, by decide +kernel, C_7_38, W_X6_clear, I_X6_clear, S_X6_clear, rfl, rfl, R_X6_clear l⟩, List.forall_mem_cons.mpr ⟨⟨43, yX7_advance, cX7_advance, 2, none, by decide +kernel, C_7_43, W_X7_advance, I_X7_advance, S_X7_advance, rfl, rfl, R_X7_advance l⟩, List.forall_mem_cons.mpr ⟨⟨49, yX7_readLine, cX7_readLine, 1, none, by decide +kernel, C_7_49, W_X7_readLine, I_X7_readLine, S_X7_readLine, rfl, rfl, R_X7_readLine l⟩, fun _ h => by cases h⟩⟩⟩⟩
def U_X7_read : List (Nat × zE) := [(0, Sum.inl (4, 0, 0, 0, 1, [])), (1, Sum.inl (2, 1, 0, 0, 2, [])), (2, Sum.inl (4, 0, 0, 0, 3, [])), (3, Sum.inl (18, 7, 0, 0, 6, [])), (6, Sum.inl (26, 0, 0, 0, 7, [])), (7, Sum.inr (5, 0, 0, 0, 0, 0, 0)), (10, Sum.inl (19, 7, 2, 0, 13, [])), (13, Sum.inl (4, 0, 0, 0, 14, [])), (14, Sum.inl (0, 0, 0, 0, 15, [])), (15, Sum.inl (19, 7, 3, 0, 18, [])), (18, Sum.inl (4, 0, 0, 0, 19, [])), (19, Sum.inl (0, 0, 0, 0, 20, [])), (20, Sum.inl (19, 7, 7, 0, 23, [])), (23, Sum.inl (4, 0, 0, 0, 24, [])), (24, Sum.inl (0, 0, 0, (-1), 25, [])), (25, Sum.inl (19, 7, 8, 0, 28, [])), (28, Sum.inl (4, 0, 0, 0, 29, [])), (29, Sum.inl (18, 7, 1, 0, 32, [])), (32, Sum.inr (0, 0, 0, 1, 0, 0, 6)), (35, Sum.inl (4, 0, 0, 0, 36, [])), (36, Sum.inr (0, 1, 0, 1, 0, 0, 7)), (39, Sum.inl (0, 0, 0, 0, 40, [])), (40, Sum.inl (5, 2, 0, 0, 41, [])), (41, Sum.inl (2, 2, 0, 0, 42, [])), (42, Sum.inl (0, 0, 0, 700, 45, [])), (45, Sum.inl (16, 1, 48, 0, 72, [])), (48, Sum.inl (4, 0, 0, 0, 49, [])), (49, Sum.inl (18, 7, 4, 0, 52, [])), (52, Sum.inl (17, 0, 72, 0, 55, [])), (55, Sum.inl (4, 0, 0, 0, 56, [])), (56, Sum.inl (18, 7, 7, 0, 59, [])), (59, Sum.inl (17, 0, 62, 0, 72, [])), (62, Sum.inl (4, 0, 0, 0, 63, [])), (63, Sum.inr (0, 2, 0, 8, 0, 0, 7)), (66, Sum.inl (8, 2, 0, 1, 69, [])), (69, Sum.inl (15, 0, 0, 0, 41, [])), (72, Sum.inl (4, 0, 0, 0, 73, [])), (73, Sum.inl (18, 7, 7, 0, 76, [])), (76, Sum.inl (27, 0, 0, 0, 77, []))]
theorem Z_X7_read (l : Launch) : ∀ q ∈ U_X7_read, zTok l O_X7_read F_X7_read q := zU_ok rfl rfl rfl K_X7_read (E_X7_read l)
/-- how a text ends in the class -/
def rE (S0 S : zS) (v : Int) (r : zLn) : Prop := frg S S0 ∧ match r with
  | .inl (k, q) => v = (k : Int) ∧ S 19 8 = (q : Int)
  | .inr (P, _) => v = 0 ∧ cP S P
def wp_X7_read (a : List zV) (S : zS) (K : zR2 → zS → Prop) : Prop := match a with
  | [.inr (.inl c), .inl x] => ∃ (T : zD) (n : Nat), (c = 19 ∧ x = (n : Int) ∧ n ≤ 700 ∧ (∀ k, k < n → S 2 k = sby (T 1 k)) ∧ ∀ k, T 1 k < 256) ∧ ∀ S' v, rE S S' v (rdA T n 700 p0 0) → K (.inl (some (.inl v))) S'
  | _ => False
section
variable {l : Launch} {Q : zR2 → zS → Prop} {S : zS} {T : zD} {n : Nat} {x : Int}
theorem L_X7_read (f : Nat) : ∀ (i : Nat) (P : zD) (p : Nat) (S1 : zS), i + f = 700 → rdI S1 T n P p → frg S1 S → (∀ S' v, rE S S' v (rdA T n f P p) → Q (.inl (some (.inl v))) S') → zGs l 9 0 0 F_X7_read S1 41 [(0, .inr (.inl 19)), (1, .inl x), (2, .inl (i : Int))] [] Q := by
  induction f with
  | zero =>
    intro i P p S1 hi I fr h
    have k := h S1 0 ⟨fr, rfl, I.plan⟩
    rw [← I.good] at k
    refine zwq_ok (Z_X7_read l) rfl [41] (fun _ _ _ _ _ _ h => h) 400 (Z_X7_read l) ?_
    exact ⟨fun c => by omega, fun c => k⟩
  | succ f ih =>
    intro i P p S1 hi I fr h
    have e4 := I.tok.2.1
    have h : ∀ S' v, rE S S' v (if tkS T n p = 0 then .inr (P, p) else match li0 T n P p with
      | .inl e => .inl e
      | .inr (Q, q) => rdA T n f Q q) → Q (.inl (some (.inl v))) S' := h
    refine zwq_ok (Z_X7_read l) rfl [41] (fun _ _ _ _ _ _ h => h) 400 (Z_X7_read l) ?_
    refine ⟨fun c => ⟨fun c2 => ?_, fun c2 => ⟨fun _ => ?_, fun z => absurd I.good z⟩⟩, fun c => by omega⟩
    · rw [if_pos (by omega)] at h
      have k := h S1 0 ⟨fr, rfl, I.plan⟩
      rw [← I.good] at k
      exact k
    · rw [if_neg (by omega)] at h
      have hg := li_ok (T := T) I.ok I.le
      refine ⟨T, n, P, p, ⟨rfl, I⟩, fun S2 h2 => ?_⟩
      have f2 := fr.t h2.1
      cases hr : li0 T n P p with
      | inl e =>
        obtain ⟨k, q⟩ := e
        rw [hr] at h2 h hg
        obtain ⟨-, -, a1, a2, -⟩ := h2
        have hg : 1 ≤ k ∧ k ≤ 5 ∧ q ≤ n := hg
        have k9 := h S2 (k : Int) ⟨f2, rfl, a2⟩
        rw [← a1] at k9
        refine ⟨by omega, ?_⟩
        refine zwq_ok (Z_X7_read l) rfl [41] (fun _ _ _ _ _ _ h => h) 400 (Z_X7_read l) ?_
        exact ⟨fun c => ⟨fun _ => k9, fun _ => ⟨fun z => by omega, fun _ => k9⟩⟩, fun c => k9⟩
      | inr e =>
        obtain ⟨P2, q⟩ := e
        rw [hr] at h2 h
        have I2 : rdI S2 T n P2 q := h2.2.2
        refine ⟨by omega, ?_⟩
        exact ih (i + 1) P2 q S2 (by omega) I2 f2 h
end
theorem R_X7_read (l : Launch) (a : List zV) (S : zS) (Q : zR2 → zS → Prop) (h : wp_X7_read a S Q) : zRs l 9 0 0 yX7_read (.code yX7_read cX7_read 3 (some .int)) a S Q := by
  unfold wp_X7_read at h
  split at h
  · rename_i c x
    obtain ⟨T, n, ⟨rfl, rfl, hn, hb, h256⟩, h⟩ := h
    refine zRs_of 7 (by decide) rfl rfl ?_; refine zwq_ok (Z_X7_read l) rfl [41] (fun _ _ _ _ _ _ h => h) 400 (Z_X7_read l) ?_
    have em : min (n : Int) ((700 : Nat) : Int) = (n : Int) := by omega
    refine ⟨rfl, fun S1 hC f1 => ?_⟩
    have g1 : ∀ j, j = 2 ∨ j = 3 ∨ j = 7 → S1 19 j = zu (zu (zu (zu S 19 2 (min (n : Int) ((700 : Nat) : Int))) 19 3 0) 19 7 0) 19 8 (-1) 19 j := fun j _ => by rw [f1 19 (by omega)]
    have e2 : S1 19 2 = (n : Int) := (g1 2 (by omega)).trans em
    have e3 : S1 19 3 = ((0 : Nat) : Int) := g1 3 (by omega)
    have e7 : S1 19 7 = 0 := g1 7 (by omega)
    have eb : S1 2 = S 2 := (f1 2 (by omega)).trans ((zu_c (by omega)).trans ((zu_c (by omega)).trans ((zu_c (by omega)).trans (zu_c (by omega)))))
    have hT : rdT S1 T n := ⟨e2, hn, by rw [eb]; exact hb, h256⟩
    refine ⟨T, n, 0, ⟨rfl, hT, e3, Nat.zero_le n⟩, fun S2 hS f2 => ?_⟩
    have I : rdI S2 T n p0 0 := ⟨hT.ft f2, (f2 19 7 (by omega)).trans e7, hC.fr (fun c _ _ => funext fun j => f2 c j (by omega)), hS, Nat.zero_le n, p0_ok⟩
    have fr : frg S2 S := fun c hc => (funext fun j => f2 c j (by omega)).trans ((f1 c (by omega)).trans ((zu_c (by omega)).trans ((zu_c (by omega)).trans ((zu_c (by omega)).trans (zu_c (by omega))))))
    exact L_X7_read (l := l) 700 0 p0 0 S2 (by omega) I fr h
  · exact h.elim
