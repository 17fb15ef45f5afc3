/-! the house: the class reads -/
theorem bt_t {b : Bool} (h : ¬ ((bti b : Nat) : Int) = 0) : b = true := by
  cases b
  · exact absurd rfl h
  · rfl
theorem bt_f {b : Bool} (h : ((bti b : Nat) : Int) = 0) : ¬ b = true := by
  cases b
  · intro z; cases z
  · exact absurd h (by decide)
def B_X7_isFull : List (Nat × zC) := [(9, (0, 0, 1, 0, 0, 0, 7))]
def O_X7_isFull : zO := fun j a S K => match j with
  | 0 => wp_X7_refuse a S K
  | _ => False
theorem E_X7_isFull (l : Launch) : ∀ q ∈ B_X7_isFull, zcok l O_X7_isFull F_X7_isFull q.1 q.2 := List.forall_mem_cons.mpr ⟨⟨81, yX7_refuse, cX7_refuse, 2, some .int, by decide +kernel, C_7_81, W_X7_refuse, I_X7_refuse, S_X7_refuse, rfl, rfl, R_X7_refuse l⟩, fun _ h => by cases h⟩
def U_X7_isFull : List (Nat × zE) := [(0, Sum.inl (2, 1, 0, 0, 1, [])), (1, Sum.inl (2, 2, 0, 0, 2, [])), (2, Sum.inl (16, 1, 5, 0, 7, [])), (5, Sum.inl (0, 0, 0, 0, 6, [])), (6, Sum.inl (27, 0, 0, 0, 7, [])), (7, Sum.inl (4, 0, 0, 0, 8, [])), (8, Sum.inl (0, 0, 0, 2, 9, [])), (9, Sum.inr (0, 0, 1, 0, 0, 0, 7)), (12, Sum.inl (14, 0, 0, 0, 13, [])), (13, Sum.inl (0, 0, 0, 1, 14, [])), (14, Sum.inl (27, 0, 0, 0, 15, []))]
theorem Z_X7_isFull (l : Launch) : ∀ q ∈ U_X7_isFull, zTok l O_X7_isFull F_X7_isFull q := zU_ok rfl rfl rfl K_X7_isFull (E_X7_isFull l)
def B_X7_toldNumber : List (Nat × zC) := [(1, (0, 0, 0, 0, 0, 0, 7)), (32, (0, 1, 1, 0, 0, 0, 7))]
def O_X7_toldNumber : zO := fun j a S K => match j with
  | 0 => wp_X7_faultOfNumber a S K
  | 1 => wp_X7_refuse a S K
  | _ => False
theorem E_X7_toldNumber (l : Launch) : ∀ q ∈ B_X7_toldNumber, zcok l O_X7_toldNumber F_X7_toldNumber q.1 q.2 := List.forall_mem_cons.mpr ⟨⟨166, yX7_faultOfNumber, cX7_faultOfNumber, 1, some .int, by decide +kernel, C_7_166, W_X7_faultOfNumber, I_X7_faultOfNumber, S_X7_faultOfNumber, rfl, rfl, R_X7_faultOfNumber l⟩, List.forall_mem_cons.mpr ⟨⟨81, yX7_refuse, cX7_refuse, 2, some .int, by decide +kernel, C_7_81, W_X7_refuse, I_X7_refuse, S_X7_refuse, rfl, rfl, R_X7_refuse l⟩, fun _ h => by cases h⟩⟩
def U_X7_toldNumber : List (Nat × zE) := [(0, Sum.inl (4, 0, 0, 0, 1, [])), (1, Sum.inr (0, 0, 0, 0, 0, 0, 7)), (4, Sum.inl (5, 2, 0, 0, 5, [])), (5, Sum.inl (2, 2, 0, 0, 6, [])), (6, Sum.inl (17, 0, 9, 0, 19, [])), (9, Sum.inl (4, 0, 0, 0, 10, [])), (10, Sum.inl (18, 7, 6, 0, 13, [])), (13, Sum.inl (2, 1, 0, 0, 14, [])), (14, Sum.inl (16, 1, 19, 0, 17, [])), (17, Sum.inl (0, 0, 0, 3, 18, [])), (18, Sum.inl (5, 2, 0, 0, 19, [])), (19, Sum.inl (2, 2, 0, 0, 20, [])), (20, Sum.inl (17, 0, 23, 0, 30, [])), (23, Sum.inl (4, 0, 0, 0, 24, [])), (24, Sum.inl (18, 7, 6, 0, 27, [])), (27, Sum.inl (15, 0, 0, 0, 35, [])), (30, Sum.inl (4, 0, 0, 0, 31, [])), (31, Sum.inl (2, 2, 0, 0, 32, [])), (32, Sum.inr (0, 1, 1, 0, 0, 0, 7)), (35, Sum.inl (27, 0, 0, 0, 36, []))]
theorem Z_X7_toldNumber (l : Launch) : ∀ q ∈ U_X7_toldNumber, zTok l O_X7_toldNumber F_X7_toldNumber q := zU_ok rfl rfl rfl K_X7_toldNumber (E_X7_toldNumber l)
def B_X7_numberWithin : List (Nat × zC) := [(1, (0, 0, 0, 0, 0, 0, 7)), (40, (0, 1, 1, 0, 0, 0, 7))]
def O_X7_numberWithin : zO := fun j a S K => match j with
  | 0 => wp_X7_faultOfNumber a S K
  | 1 => wp_X7_refuse a S K
  | _ => False
theorem E_X7_numberWithin (l : Launch) : ∀ q ∈ B_X7_numberWithin, zcok l O_X7_numberWithin F_X7_numberWithin q.1 q.2 := List.forall_mem_cons.mpr ⟨⟨166, yX7_faultOfNumber, cX7_faultOfNumber, 1, some .int, by decide +kernel, C_7_166, W_X7_faultOfNumber, I_X7_faultOfNumber, S_X7_faultOfNumber, rfl, rfl, R_X7_faultOfNumber l⟩, List.forall_mem_cons.mpr ⟨⟨81, yX7_refuse, cX7_refuse, 2, some .int, by decide +kernel, C_7_81, W_X7_refuse, I_X7_refuse, S_X7_refuse, rfl, rfl, R_X7_refuse l⟩, fun _ h => by cases h⟩⟩
def U_X7_numberWithin : List (Nat × zE) := [(0, Sum.inl (4, 0, 0, 0, 1, [])), (1, Sum.inr (0, 0, 0, 0, 0, 0, 7)), (4, Sum.inl (5, 3, 0, 0, 5, [])), (5, Sum.inl (2, 3, 0, 0, 6, [])), (6, Sum.inl (17, 0, 9, 0, 27, [])), (9, Sum.inl (4, 0, 0, 0, 10, [])), (10, Sum.inl (18, 7, 6, 0, 13, [])), (13, Sum.inl (2, 1, 0, 0, 14, [])), (14, Sum.inl (16, 1, 25, 0, 17, [])), (17, Sum.inl (4, 0, 0, 0, 18, [])), (18, Sum.inl (18, 7, 6, 0, 21, [])), (21, Sum.inl (2, 2, 0, 0, 22, [])), (22, Sum.inl (16, 2, 25, 0, 27, [])), (25, Sum.inl (0, 0, 0, 2, 26, [])), (26, Sum.inl (5, 3, 0, 0, 27, [])), (27, Sum.inl (2, 3, 0, 0, 28, [])), (28, Sum.inl (17, 0, 31, 0, 38, [])), (31, Sum.inl (4, 0, 0, 0, 32, [])), (32, Sum.inl (18, 7, 6, 0, 35, [])), (35, Sum.inl (15, 0, 0, 0, 43, [])), (38, Sum.inl (4, 0, 0, 0, 39, [])), (39, Sum.inl (2, 3, 0, 0, 40, [])), (40, Sum.inr (0, 1, 1, 0, 0, 0, 7)), (43, Sum.inl (27, 0, 0, 0, 44, []))]
theorem Z_X7_numberWithin (l : Launch) : ∀ q ∈ U_X7_numberWithin, zTok l O_X7_numberWithin F_X7_numberWithin q := zU_ok rfl rfl rfl K_X7_numberWithin (E_X7_numberWithin l)
def wp_X7_isFull (a : List zV) (S : zS) (K : zR2 → zS → Prop) : Prop := match a with
  | [.inr (.inl c), .inl x, .inl y] => (c = 19 ∧ S 19 7 = 0) ∧ (x < y → K (.inl (some (.inl 0))) S) ∧ (¬ x < y → K (.inl (some (.inl 1))) (zu (zu S 19 7 2) 19 8 (S 19 5)))
  | _ => False
theorem R_X7_isFull (l : Launch) (a : List zV) (S : zS) (Q : zR2 → zS → Prop) (h : wp_X7_isFull a S Q) : zRs l 1 0 0 yX7_isFull (.code yX7_isFull cX7_isFull 3 (some .boolean)) a S Q := by
  unfold wp_X7_isFull at h
  split at h
  · obtain ⟨⟨rfl, h0⟩, h1, h2⟩ := h
    refine zRs_of 7 (by decide) rfl rfl ?_; refine zwq_ok (Z_X7_isFull l) rfl [] (fun _ _ _ _ _ _ h => h) 400 (Z_X7_isFull l) ?_
    exact ⟨fun c => ⟨Or.inl rfl, h1 c⟩, fun c => ⟨fun _ => ⟨Or.inr rfl, h2 c⟩, fun z => absurd h0 z⟩⟩
  · exact h.elim
def wp_X7_toldNumber (a : List zV) (S : zS) (K : zR2 → zS → Prop) : Prop := match a with
  | [.inr (.inl c), .inl x] => ∃ (T : zD) (n p many : Nat), (c = 19 ∧ x = (many : Int) ∧ S 19 7 = 0 ∧ rdS S T n p ∧ p ≤ n ∧ n ≤ 700) ∧ (toF T n p many = 0 → K (.inl (some (.inl (tkV T n p : Int)))) S) ∧ (toF T n p many ≠ 0 → K (.inl (some (.inl (-1)))) (zu (zu S 19 7 (toF T n p many : Int)) 19 8 (tkP T n p : Int)))
  | _ => False
theorem R_X7_toldNumber (l : Launch) (a : List zV) (S : zS) (Q : zR2 → zS → Prop) (h : wp_X7_toldNumber a S Q) : zRs l 1 0 0 yX7_toldNumber (.code yX7_toldNumber cX7_toldNumber 3 (some .int)) a S Q := by
  unfold wp_X7_toldNumber at h
  split at h
  · obtain ⟨T, n, p, many, ⟨rfl, rfl, h0, hS, hp, hn⟩, h1, h2⟩ := h
    obtain ⟨s3, s4, s5, s6⟩ := hS
    have tp := tk_le (T := T) hp
    rw [← s5] at h2
    unfold toF at h1 h2
    refine zRs_of 7 (by decide) rfl rfl ?_; refine zwq_ok (Z_X7_toldNumber l) rfl [] (fun _ _ _ _ _ _ h => h) 400 (Z_X7_toldNumber l) ?_
    refine ⟨fun c => ⟨by omega, fun c2 => ⟨fun z => absurd z (by decide), fun _ => ⟨fun z => absurd z (by decide), fun _ => ⟨fun _ => ?_, fun z => absurd h0 z⟩⟩⟩, fun c2 => ⟨fun _ => ⟨fun c3 => ⟨fun _ => ?_, fun z => absurd rfl z⟩, fun c3 => ⟨fun z => absurd z (by decide), fun _ => ⟨fun _ => ?_, fun z => absurd h0 z⟩⟩⟩, fun z => absurd rfl z⟩⟩, fun c => ⟨fun z => absurd z (by decide), fun _ => ⟨fun z => absurd z (by decide), fun _ => ⟨fun _ => ?_, fun z => absurd h0 z⟩⟩⟩⟩
    · rw [if_pos (by omega), if_neg (by omega)] at h2; exact h2 (by decide)
    · have e := s6 (by omega)
      rw [if_pos (by omega), if_pos (by omega), if_pos (by omega), ← e] at h1; exact h1 rfl
    · have e := s6 (by omega)
      rw [if_pos (by omega), if_pos (by omega), if_neg (by omega)] at h2; exact h2 (by decide)
    · rw [if_neg (by omega)] at h2; exact h2 (by decide)
  · exact h.elim
def wp_X7_numberWithin (a : List zV) (S : zS) (K : zR2 → zS → Prop) : Prop := match a with
  | [.inr (.inl c), .inl x, .inl y] => ∃ (T : zD) (n p lo hi : Nat), (c = 19 ∧ x = (lo : Int) ∧ y = (hi : Int) ∧ S 19 7 = 0 ∧ rdS S T n p ∧ p ≤ n ∧ n ≤ 700) ∧ (nuF T n p lo hi = 0 → K (.inl (some (.inl (tkV T n p : Int)))) S) ∧ (nuF T n p lo hi ≠ 0 → K (.inl (some (.inl (-1)))) (zu (zu S 19 7 (nuF T n p lo hi : Int)) 19 8 (tkP T n p : Int)))
  | _ => False
theorem R_X7_numberWithin (l : Launch) (a : List zV) (S : zS) (Q : zR2 → zS → Prop) (h : wp_X7_numberWithin a S Q) : zRs l 1 0 0 yX7_numberWithin (.code yX7_numberWithin cX7_numberWithin 4 (some .int)) a S Q := by
  unfold wp_X7_numberWithin at h
  split at h
  · obtain ⟨T, n, p, lo, hi, ⟨rfl, rfl, rfl, h0, hS, hp, hn⟩, h1, h2⟩ := h
    obtain ⟨s3, s4, s5, s6⟩ := hS
    have tp := tk_le (T := T) hp
    rw [← s5] at h2
    unfold nuF at h1 h2
    refine zRs_of 7 (by decide) rfl rfl ?_; refine zwq_ok (Z_X7_numberWithin l) rfl [] (fun _ _ _ _ _ _ h => h) 400 (Z_X7_numberWithin l) ?_
    refine ⟨fun c => ⟨by omega, fun c2 => ⟨fun z => absurd z (by decide), fun _ => ⟨fun z => absurd z (by decide), fun _ => ⟨fun _ => ?_, fun z => absurd h0 z⟩⟩⟩, fun c2 => ⟨fun _ => ⟨fun c3 => ⟨fun z => absurd z (by decide), fun _ => ⟨fun _ => ?_, fun z => absurd h0 z⟩⟩, fun c3 => ⟨fun c4 => ⟨fun z => absurd z (by decide), fun _ => ⟨fun _ => ?_, fun z => absurd h0 z⟩⟩, fun c4 => ⟨fun _ => ?_, fun z => absurd rfl z⟩⟩⟩, fun z => absurd rfl z⟩⟩, fun c => ⟨fun z => absurd z (by decide), fun _ => ⟨fun z => absurd z (by decide), fun _ => ⟨fun _ => ?_, fun z => absurd h0 z⟩⟩⟩⟩
    · rw [if_pos (by omega), if_neg (by omega)] at h2; exact h2 (by decide)
    · have e := s6 (by omega)
      rw [if_pos (by omega), if_neg (by omega)] at h2; exact h2 (by decide)
    · have e := s6 (by omega)
      rw [if_pos (by omega), if_neg (by omega)] at h2; exact h2 (by decide)
    · have e := s6 (by omega)
      rw [if_pos (by omega), if_pos (by omega), ← e] at h1; exact h1 rfl
    · rw [if_neg (by omega)] at h2; exact h2 (by decide)
  · exact h.elim
/-- the reader stands at the token at p, no fault so far -/
def rdI (S : zS) (T : zD) (n : Nat) (P : zD) (p : Nat) : Prop := (rdT S T n) ∧ (S 19 7 = 0) ∧ (cP S P) ∧ (rdS S T n p) ∧ (p ≤ n) ∧ (pOK P)
theorem rdI.text {S : zS} {T : zD} {n : Nat} {P : zD} {p : Nat} (h : rdI S T n P p) : rdT S T n := h.1
theorem rdI.good {S : zS} {T : zD} {n : Nat} {P : zD} {p : Nat} (h : rdI S T n P p) : S 19 7 = 0 := h.2.1
theorem rdI.plan {S : zS} {T : zD} {n : Nat} {P : zD} {p : Nat} (h : rdI S T n P p) : cP S P := h.2.2.1
theorem rdI.tok {S : zS} {T : zD} {n : Nat} {P : zD} {p : Nat} (h : rdI S T n P p) : rdS S T n p := h.2.2.2.1
theorem rdI.le {S : zS} {T : zD} {n : Nat} {P : zD} {p : Nat} (h : rdI S T n P p) : p ≤ n := h.2.2.2.2.1
theorem rdI.ok {S : zS} {T : zD} {n : Nat} {P : zD} {p : Nat} (h : rdI S T n P p) : pOK P := h.2.2.2.2.2
/-- only the reader and its draft change -/
def frg (S S0 : zS) : Prop := ∀ c, (c < 11 ∨ 19 < c) → S c = S0 c
theorem frg.r (S : zS) : frg S S := fun _ _ => rfl
theorem frg.T {S1 S S0 : zS} (h : frg S S0) (hf : frT S1 S) : frg S1 S0 := fun c hc => (funext fun j => hf c j (by omega)).trans (h c hc)
theorem frg.D {S1 S S0 : zS} (h : frg S S0) (hf : frD S1 S) : frg S1 S0 := fun c hc => (hf c (by omega)).trans (h c hc)
theorem frg.u {S S0 : zS} {c k : Nat} {v : Int} (h : frg S S0) (h1 : 11 ≤ c) (h2 : c ≤ 19) : frg (zu S c k v) S0 := fun x hx => (zu_c (by omega)).trans (h x hx)
theorem frg.t {S1 S S0 : zS} (h : frg S S0) (hf : frg S1 S) : frg S1 S0 := fun c hc => (hf c hc).trans (h c hc)
/-- how a line ends in the class -/
def rR (S0 S : zS) (T : zD) (n : Nat) (r : zLn) : Prop := frg S S0 ∧ rdT S T n ∧ match r with
  | .inl (k, q) => S 19 7 = (k : Int) ∧ S 19 8 = (q : Int) ∧ ∃ e : Nat, e ≤ n ∧ S 19 3 = (e : Int)
  | .inr (P, p) => rdI S T n P p
section
variable {S S1 S0 : zS} {T : zD} {n : Nat} {P P1 : zD} {p k : Nat} {K : zR2 → zS → Prop}
theorem rdI.n7 (I : rdI S T n P p) : n ≤ 700 := I.text.2.1
theorem rdI.adv (I : rdI S T n P p) (hS : rdS S1 T n (tkN T n p)) (hf : frT S1 S) : rdI S1 T n P (tkN T n p) :=
  ⟨I.text.ft hf, (hf 19 7 (by omega)).trans I.good, I.plan.fr (fun c _ _ => funext fun j => hf c j (by omega)), hS, (tk_le (T := T) I.le).2.2.1, I.ok⟩
theorem rdI.pl (I : rdI S T n P p) (hC : cP S1 P1) (hP : pOK P1) (hf : frD S1 S) : rdI S1 T n P1 p := by
  have e19 := hf 19 (by omega)
  have e2 := hf 2 (by omega)
  refine ⟨I.text.g (by rw [e19]) e2, by rw [e19]; exact I.good, hC, ?_, I.le, hP⟩
  have := I.tok
  unfold rdS at this ⊢
  rw [e19]
  exact this
theorem rdI.rx (I : rdI S T n P p) (hf : frg S S0) : rR S0 (zu (zu S 19 7 (k : Int)) 19 8 (tkP T n p : Int)) T n (liE T n k p) := by
  refine ⟨(hf.u (by omega) (by omega)).u (by omega) (by omega), I.text.g (by rw [zuN (by omega), zuN (by omega)]) ((zu_c (by omega)).trans (zu_c (by omega))), ?_, zuE, tkN T n p, (tk_le (T := T) I.le).2.2.1, ?_⟩
  · rw [zuN (by omega), zuE]
  · rw [zuN (by omega), zuN (by omega)]; exact I.tok.1
theorem rdI.nx (I : rdI S T n P p) : tkN T n p ≤ n := (tk_le (T := T) I.le).2.2.1
end
def B_X7_readRoom : List (Nat × zC) := [(10, (0, 0, 2, 1, 0, 0, 7)), (18, (0, 1, 0, 1, 0, 0, 7)), (25, (0, 2, 2, 1, 0, 0, 7)), (40, (0, 3, 1, 0, 0, 0, 6)), (44, (0, 1, 0, 1, 0, 0, 7))]
def O_X7_readRoom : zO := fun j a S K => match j with
  | 0 => wp_X7_isFull a S K
  | 1 => wp_X7_advance a S K
  | 2 => wp_X7_numberWithin a S K
  | 3 => wp_X6_addRoom a S K
  | _ => False
theorem E_X7_readRoom (l : Launch) : ∀ q ∈ B_X7_readRoom, zcok l O_X7_readRoom F_X7_readRoom q.1 q.2 := List.forall_mem_cons.mpr ⟨⟨88, yX7_isFull, cX7_isFull, 3, some .boolean, by decide +kernel, C_7_88, W_X7_isFull, I_X7_isFull, S_X7_isFull, rfl, rfl, R_X7_isFull l⟩, List.forall_mem_cons.mpr ⟨⟨43, yX7_advance, cX7_advance, 2, none, by decide +kernel, C_7_43, W_X7_advance, I_X7_advance, S_X7_advance, rfl, rfl, R_X7_advance l⟩, List.forall_mem_cons.mpr ⟨⟨92, yX7_numberWithin, cX7_numberWithin, 4, some .int, by decide +kernel, C_7_92, W_X7_numberWithin, I_X7_numberWithin, S_X7_numberWithin, rfl, rfl, R_X7_numberWithin l⟩, List.forall_mem_cons.mpr ⟨⟨95, yX6_addRoom, cX6_addRoom, 2, none, by decide +kernel, C_7_95, W_X6_addRoom, I_X6_addRoom, S_X6_addRoom, rfl, rfl, R_X6_addRoom l⟩, List.forall_mem_cons.mpr ⟨⟨43, yX7_advance, cX7_advance, 2, none, by decide +kernel, C_7_43, W_X7_advance, I_X7_advance, S_X7_advance, rfl, rfl, R_X7_advance l⟩, fun _ h => by cases h⟩⟩⟩⟩⟩
def U_X7_readRoom : List (Nat × zE) := [(0, Sum.inl (4, 0, 0, 0, 1, [])), (1, Sum.inl (4, 0, 0, 0, 2, [])), (2, Sum.inl (18, 7, 1, 0, 5, [])), (5, Sum.inl (18, 6, 7, 0, 8, [])), (8, Sum.inl (0, 0, 0, 8, 10, [])), (10, Sum.inr (0, 0, 2, 1, 0, 0, 7)), (13, Sum.inl (17, 0, 17, 0, 16, [])), (16, Sum.inl (29, 0, 0, 0, 17, [])), (17, Sum.inl (4, 0, 0, 0, 18, [])), (18, Sum.inr (0, 1, 0, 1, 0, 0, 7)), (21, Sum.inl (4, 0, 0, 0, 22, [])), (22, Sum.inl (0, 0, 0, 0, 23, [])), (23, Sum.inl (0, 0, 0, 99, 25, [])), (25, Sum.inr (0, 2, 2, 1, 0, 0, 7)), (28, Sum.inl (5, 1, 0, 0, 29, [])), (29, Sum.inl (2, 1, 0, 0, 30, [])), (30, Sum.inl (0, 0, 0, (-1), 31, [])), (31, Sum.inl (16, 0, 34, 0, 35, [])), (34, Sum.inl (29, 0, 0, 0, 35, [])), (35, Sum.inl (4, 0, 0, 0, 36, [])), (36, Sum.inl (18, 7, 1, 0, 39, [])), (39, Sum.inl (2, 1, 0, 0, 40, [])), (40, Sum.inr (0, 3, 1, 0, 0, 0, 6)), (43, Sum.inl (4, 0, 0, 0, 44, [])), (44, Sum.inr (0, 1, 0, 1, 0, 0, 7)), (47, Sum.inl (29, 0, 0, 0, 48, []))]
theorem Z_X7_readRoom (l : Launch) : ∀ q ∈ U_X7_readRoom, zTok l O_X7_readRoom F_X7_readRoom q := zU_ok rfl rfl rfl K_X7_readRoom (E_X7_readRoom l)
def B_X7_readFinder : List (Nat × zC) := [(9, (0, 0, 2, 1, 0, 0, 7)), (17, (0, 1, 0, 1, 0, 0, 7)), (28, (0, 2, 1, 1, 0, 0, 7)), (43, (0, 3, 1, 0, 0, 0, 6)), (47, (0, 1, 0, 1, 0, 0, 7))]
def O_X7_readFinder : zO := fun j a S K => match j with
  | 0 => wp_X7_isFull a S K
  | 1 => wp_X7_advance a S K
  | 2 => wp_X7_toldNumber a S K
  | 3 => wp_X6_addFinder a S K
  | _ => False
theorem E_X7_readFinder (l : Launch) : ∀ q ∈ B_X7_readFinder, zcok l O_X7_readFinder F_X7_readFinder q.1 q.2 := List.forall_mem_cons.mpr ⟨⟨88, yX7_isFull, cX7_isFull, 3, some .boolean, by decide +kernel, C_7_88, W_X7_isFull, I_X7_isFull, S_X7_isFull, rfl, rfl, R_X7_isFull l⟩, List.forall_mem_cons.mpr ⟨⟨43, yX7_advance, cX7_advance, 2, none, by decide +kernel, C_7_43, W_X7_advance, I_X7_advance, S_X7_advance, rfl, rfl, R_X7_advance l⟩, List.forall_mem_cons.mpr ⟨⟨102, yX7_toldNumber, cX7_toldNumber, 3, some .int, by decide +kernel, C_7_102, W_X7_toldNumber, I_X7_toldNumber, S_X7_toldNumber, rfl, rfl, R_X7_toldNumber l⟩, List.forall_mem_cons.mpr ⟨⟨122, yX6_addFinder, cX6_addFinder, 2, none, by decide +kernel, C_7_122, W_X6_addFinder, I_X6_addFinder, S_X6_addFinder, rfl, rfl, R_X6_addFinder l⟩, List.forall_mem_cons.mpr ⟨⟨43, yX7_advance, cX7_advance, 2, none, by decide +kernel, C_7_43, W_X7_advance, I_X7_advance, S_X7_advance, rfl, rfl, R_X7_advance l⟩, fun _ h => by cases h⟩⟩⟩⟩⟩
def U_X7_readFinder : List (Nat × zE) := [(0, Sum.inl (4, 0, 0, 0, 1, [])), (1, Sum.inl (4, 0, 0, 0, 2, [])), (2, Sum.inl (18, 7, 1, 0, 5, [])), (5, Sum.inl (18, 6, 9, 0, 8, [])), (8, Sum.inl (0, 0, 0, 3, 9, [])), (9, Sum.inr (0, 0, 2, 1, 0, 0, 7)), (12, Sum.inl (17, 0, 16, 0, 15, [])), (15, Sum.inl (29, 0, 0, 0, 16, [])), (16, Sum.inl (4, 0, 0, 0, 17, [])), (17, Sum.inr (0, 1, 0, 1, 0, 0, 7)), (20, Sum.inl (4, 0, 0, 0, 21, [])), (21, Sum.inl (4, 0, 0, 0, 22, [])), (22, Sum.inl (18, 7, 1, 0, 25, [])), (25, Sum.inl (18, 6, 7, 0, 28, [])), (28, Sum.inr (0, 2, 1, 1, 0, 0, 7)), (31, Sum.inl (5, 1, 0, 0, 32, [])), (32, Sum.inl (2, 1, 0, 0, 33, [])), (33, Sum.inl (0, 0, 0, (-1), 34, [])), (34, Sum.inl (16, 0, 37, 0, 38, [])), (37, Sum.inl (29, 0, 0, 0, 38, [])), (38, Sum.inl (4, 0, 0, 0, 39, [])), (39, Sum.inl (18, 7, 1, 0, 42, [])), (42, Sum.inl (2, 1, 0, 0, 43, [])), (43, Sum.inr (0, 3, 1, 0, 0, 0, 6)), (46, Sum.inl (4, 0, 0, 0, 47, [])), (47, Sum.inr (0, 1, 0, 1, 0, 0, 7)), (50, Sum.inl (29, 0, 0, 0, 51, []))]
theorem Z_X7_readFinder (l : Launch) : ∀ q ∈ U_X7_readFinder, zTok l O_X7_readFinder F_X7_readFinder q := zU_ok rfl rfl rfl K_X7_readFinder (E_X7_readFinder l)
def wp_X7_readRoom (a : List zV) (S : zS) (K : zR2 → zS → Prop) : Prop := match a with
  | [.inr (.inl c)] => ∃ (T : zD) (n : Nat) (P : zD) (p : Nat), (c = 19 ∧ rdI S T n P p) ∧ ∀ S', rR S S' T n (liR T n P p (tkN T n p)) → K (.inl none) S'
  | _ => False
theorem R_X7_readRoom (l : Launch) (a : List zV) (S : zS) (Q : zR2 → zS → Prop) (h : wp_X7_readRoom a S Q) : zRs l 2 0 0 yX7_readRoom (.code yX7_readRoom cX7_readRoom 2 (none)) a S Q := by
  unfold wp_X7_readRoom at h
  split at h
  · obtain ⟨T, n, P, p, ⟨rfl, I⟩, h⟩ := h
    have e1 := I.plan.rooms
    unfold liR at h
    refine zRs_of 7 (by decide) rfl rfl ?_; refine zwq_ok (Z_X7_readRoom l) rfl [] (fun _ _ _ _ _ _ h => h) 400 (Z_X7_readRoom l) ?_
    refine ⟨⟨rfl, I.good⟩, fun c => ⟨fun _ => ?_, fun z => absurd rfl z⟩, fun c => ⟨fun z => absurd z (by decide), fun _ => ?_⟩⟩
    · rw [if_pos (by omega)] at h
      refine ⟨T, n, _, ⟨rfl, I.text, I.tok.1, I.nx⟩, fun S1 I1 f1 => ?_⟩
      replace I1 := I.adv I1 f1
      refine ⟨T, n, tkN T n p, 0, 99, ⟨rfl, rfl, rfl, I1.good, I1.tok, I1.le, I1.n7⟩, fun c2 => ?_, fun c2 => ?_⟩
      · rw [if_pos c2] at h
        refine ⟨fun z => by omega, fun _ => ?_⟩
        refine ⟨P, _, ⟨rfl, rfl, I1.plan, by omega⟩, fun S2 hC f2 => ?_⟩
        have c2 := nuF_0.mp c2
        have I2 := I1.pl hC (I.ok.aR (by omega) (by omega)) f2
        refine ⟨T, n, _, ⟨rfl, I2.text, I2.tok.1, I2.nx⟩, fun S3 I3 f3 => ?_⟩
        replace I3 := I2.adv I3 f3
        exact h S3 ⟨(((frg.r S).T f1).D f2).T f3, I3.text, I3⟩
      · rw [if_neg c2] at h
        exact ⟨fun _ => h _ (I1.rx ((frg.r S).T f1)), fun z => absurd rfl z⟩
    · rw [if_neg (by omega)] at h
      have k := I.rx (k := 2) (frg.r S)
      rw [← I.tok.2.2.1] at k
      exact h _ k
  · exact h.elim
def wp_X7_readFinder (a : List zV) (S : zS) (K : zR2 → zS → Prop) : Prop := match a with
  | [.inr (.inl c)] => ∃ (T : zD) (n : Nat) (P : zD) (p : Nat), (c = 19 ∧ rdI S T n P p) ∧ ∀ S', rR S S' T n (liF T n P p (tkN T n p)) → K (.inl none) S'
  | _ => False
theorem R_X7_readFinder (l : Launch) (a : List zV) (S : zS) (Q : zR2 → zS → Prop) (h : wp_X7_readFinder a S Q) : zRs l 2 0 0 yX7_readFinder (.code yX7_readFinder cX7_readFinder 2 (none)) a S Q := by
  unfold wp_X7_readFinder at h
  split at h
  · obtain ⟨T, n, P, p, ⟨rfl, I⟩, h⟩ := h
    have e1 := I.plan.finders
    unfold liF at h
    refine zRs_of 7 (by decide) rfl rfl ?_; refine zwq_ok (Z_X7_readFinder l) rfl [] (fun _ _ _ _ _ _ h => h) 400 (Z_X7_readFinder l) ?_
    refine ⟨⟨rfl, I.good⟩, fun c => ⟨fun _ => ?_, fun z => absurd rfl z⟩, fun c => ⟨fun z => absurd z (by decide), fun _ => ?_⟩⟩
    · rw [if_pos (by omega)] at h
      refine ⟨T, n, _, ⟨rfl, I.text, I.tok.1, I.nx⟩, fun S1 I1 f1 => ?_⟩
      replace I1 := I.adv I1 f1
      refine ⟨T, n, tkN T n p, P 0 0, ⟨rfl, I1.plan.rooms, I1.good, I1.tok, I1.le, I1.n7⟩, fun c2 => ?_, fun c2 => ?_⟩
      · rw [if_pos c2] at h
        refine ⟨fun z => by omega, fun _ => ?_⟩
        refine ⟨P, _, ⟨rfl, rfl, I1.plan, by omega⟩, fun S2 hC f2 => ?_⟩
        have c2 := toF_0.mp c2
        have I2 := I1.pl hC (I.ok.aF (by omega) (by omega)) f2
        refine ⟨T, n, _, ⟨rfl, I2.text, I2.tok.1, I2.nx⟩, fun S3 I3 f3 => ?_⟩
        replace I3 := I2.adv I3 f3
        exact h S3 ⟨(((frg.r S).T f1).D f2).T f3, I3.text, I3⟩
      · rw [if_neg c2] at h
        exact ⟨fun _ => h _ (I1.rx ((frg.r S).T f1)), fun z => absurd rfl z⟩
    · rw [if_neg (by omega)] at h
      have k := I.rx (k := 2) (frg.r S)
      rw [← I.tok.2.2.1] at k
      exact h _ k
  · exact h.elim
