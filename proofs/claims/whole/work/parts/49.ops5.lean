/-! draw; kinds, word, mend -/
section
variable {S S' : zS} {D D' E T : zD} {N : Nat} {K : zR2 → zS → Prop} {x y z u w : Int}
/-- the class's scratch -/
def cScr (c : Nat) : Prop := (11 ≤ c ∧ c ≤ 19) ∨ (36 ≤ c ∧ c ≤ 41) ∨ c = 43 ∨ c = 44 ∨ (47 ≤ c ∧ c ≤ 51) ∨ (53 ≤ c ∧ c ≤ 57)
theorem eC.nw (h : eC S D E T) (hn : cOK S' D') (hL : dL D' = dL D) (hf : ∀ c, (c < 3 ∨ 28 ≤ c) → c < 62 → ¬ cScr c → S' c = S c) : eC S' D' E T := by
  have hk := h.kept
  unfold kOK at hk
  have g : ∀ c, (c < 3 ∨ 28 ≤ c) → c < 62 → ¬ ((11 ≤ c ∧ c ≤ 19) ∨ (36 ≤ c ∧ c ≤ 41) ∨ c = 43 ∨ c = 44 ∨ (47 ≤ c ∧ c ≤ 51) ∨ (53 ≤ c ∧ c ≤ 57)) → S' c = S c := hf
  have hk2 : T 4 0 = 1 → kOK S' E := by
    unfold kOK
    rw [g 28 (by omega) (by omega) (by omega), g 29 (by omega) (by omega) (by omega), g 30 (by omega) (by omega) (by omega), g 31 (by omega) (by omega) (by omega), g 32 (by omega) (by omega) (by omega), g 33 (by omega) (by omega) (by omega), g 34 (by omega) (by omega) (by omega), g 35 (by omega) (by omega) (by omega)]
    exact hk
  unfold eC at h ⊢
  rw [g 0 (by omega) (by omega) (by omega), g 1 (by omega) (by omega) (by omega), g 2 (by omega) (by omega) (by omega), g 61 (by omega) (by omega) (by omega), g 42 (by omega) (by omega) (by omega), g 45 (by omega) (by omega) (by omega), g 46 (by omega) (by omega) (by omega), g 52 (by omega) (by omega) (by omega), g 58 (by omega) (by omega) (by omega), g 59 (by omega) (by omega) (by omega), g 60 (by omega) (by omega) (by omega), hL]
  exact ⟨hn, h.2.1, h.2.2.1, h.2.2.2.1, h.2.2.2.2.1, h.2.2.2.2.2.1, hk2, h.2.2.2.2.2.2.2⟩
theorem eC.fr (h : eC S D E T) (hf : ∀ c, c < 62 → ¬ cScr c → S' c = S c) : eC S' D E T :=
  h.nw (h.now.fr (fun c a b => hf c (by omega) (by unfold cScr; omega)) (fun c a b => hf c (by omega) (by unfold cScr; omega))) rfl (fun c _ b d => hf c b d)
def B_X11_draw : List (Nat × zC) := [(9, (0, 0, 2, 1, 0, 0, 0))]
def O_X11_draw : zO := fun j a S K => match j with
  | 0 => wp_X0_drawDay a S K
  | _ => False
theorem E_X11_draw (l : Launch) : ∀ q ∈ B_X11_draw, zcok l O_X11_draw F_X11_draw q.1 q.2 := List.forall_mem_cons.mpr ⟨⟨235, yX0_drawDay, cX0_drawDay, 9, none, by decide +kernel, C_11_235, W_X0_drawDay, I_X0_drawDay, S_X0_drawDay, rfl, rfl, R_X0_drawDay l⟩, fun _ h => by cases h⟩
def U_X11_draw : List (Nat × zE) := [(0, Sum.inl (4, 0, 0, 0, 1, [])), (1, Sum.inl (18, 11, 4, 0, 4, [])), (4, Sum.inl (4, 0, 0, 0, 5, [])), (5, Sum.inl (18, 11, 1, 0, 8, [])), (8, Sum.inl (2, 1, 0, 0, 9, [])), (9, Sum.inr (0, 0, 2, 1, 0, 0, 0)), (12, Sum.inl (29, 0, 0, 0, 13, []))]
theorem Z_X11_draw (l : Launch) : ∀ q ∈ U_X11_draw, zTok l O_X11_draw F_X11_draw q := zU_ok rfl rfl rfl K_X11_draw (E_X11_draw l)
def wp_X11_draw (a : List zV) (S : zS) (K : zR2 → zS → Prop) : Prop := zif (Nat.ble (zsum a) 2) (zwq 2 F_X11_draw U_X11_draw O_X11_draw [] (fun _ _ _ _ _ _ => False) K 8 U_X11_draw 0 0 S 0 (zar 0 a) [])
theorem R_X11_draw (l : Launch) (a : List zV) (S : zS) (Q : zR2 → zS → Prop) (h : wp_X11_draw a S Q) : zRs l 2 0 0 yX11_draw (.code yX11_draw cX11_draw 2 (none)) a S Q := by
  obtain ⟨h1, h⟩ := zif_ok h
  exact zRs_of 11 (by decide) rfl h1 (zwq_ok (Z_X11_draw l) rfl [] (fun _ _ _ _ _ _ h => h.elim) 8 (Z_X11_draw l) h)
theorem x_draw (hX : xOK D E T N) (hN : N < 99999) : xOK (drawD D x) E T (N + 1) := by
  obtain ⟨h1, h2⟩ := drO_ok (M := dM D) (L := dL D) 24 0 x D hX.now rfl rfl rfl
  exact hX.day hN h1 (fun c hc => h2 c (by omega))
theorem c_draw (hC : eC S D E T) (hX : xOK D E T N) (h : cRes S (drawD D x) E T (.inl none) K) : wp_X11_draw [.inr (.inl 0), .inl x] S K := by
  refine ⟨D, ⟨rfl, rfl, hX.now, hC.now⟩, fun S' hC' hf => ?_⟩
  obtain ⟨h1, h2⟩ := drO_ok (M := dM D) (L := dL D) 24 0 x D hX.now rfl rfl rfl
  exact h S' (hC.nw hC' (congrFun (h2 0 (by omega)) 1) (fun c a _ _ => hf c (by omega))) (fun c hc => hf c (by omega))
theorem m_draw (hM : eM S D E T) (hX : xOK D E T N) (h : mResV S (drawD D x) E T K) : wp_X12_draw [.inr (.inl 62), .inl x] S K := by
  refine ⟨D, ⟨rfl, hX.now, hM.now⟩, fun S' hM' hf => ?_⟩
  obtain ⟨h1, h2⟩ := drO_ok (M := dM D) (L := dL D) 24 0 x D hX.now rfl rfl rfl
  have hM0 : eM (zu S 62 0 0) D E T := hM.u (Or.inl rfl)
  refine h S' ?_ (fun c hc => (hf c (by omega)).trans (zu_c (by omega))) (by rw [hf 62 (by omega)]; exact zuE)
  have hk := hM0.image
  unfold iOK at hk
  have hk2 : T 4 0 = 1 → iOK S' E := by
    unfold iOK
    rw [hf 97 (by omega), hf 98 (by omega), hf 99 (by omega), hf 100 (by omega), hf 101 (by omega)]
    exact hk
  have hL : dL (drawD D x) = dL D := congrFun (h2 0 (by omega)) 1
  unfold eM at hM0 ⊢
  rw [hf 62 (by omega), hf 70 (by omega), hf 71 (by omega), hf 89 (by omega), hf 90 (by omega), hf 95 (by omega), hL]
  exact ⟨hM', hM0.2.1, hM0.2.2.1, hM0.2.2.2.1, hM0.2.2.2.2.1, hM0.2.2.2.2.2.1, hk2, hM0.2.2.2.2.2.2.2⟩
end
def B_X8_kindsFor : List (Nat × zC) := []
def O_X8_kindsFor : zO := fun j a S K => match j with
  | _ => False
theorem E_X8_kindsFor (l : Launch) : ∀ q ∈ B_X8_kindsFor, zcok l O_X8_kindsFor F_X8_kindsFor q.1 q.2 := fun _ h => by cases h
def U_X8_kindsFor : List (Nat × zE) := [(0, Sum.inl (0, 0, 0, 0, 1, [])), (1, Sum.inl (5, 2, 0, 0, 2, [])), (2, Sum.inl (2, 2, 0, 0, 3, [])), (3, Sum.inl (0, 0, 0, 8, 5, [])), (5, Sum.inl (16, 2, 38, 0, 8, [])), (8, Sum.inl (2, 1, 0, 0, 9, [])), (9, Sum.inl (4, 0, 0, 0, 10, [])), (10, Sum.inl (18, 8, 1, 0, 13, [])), (13, Sum.inl (16, 2, 38, 0, 16, [])), (16, Sum.inl (4, 0, 0, 0, 17, [])), (17, Sum.inl (18, 8, 0, 0, 20, [])), (20, Sum.inl (2, 1, 0, 0, 21, [])), (21, Sum.inl (0, 0, 0, 1, 22, [])), (22, Sum.inl (9, 1, 0, 0, 23, [])), (23, Sum.inl (20, 0, 0, 0, 24, [])), (24, Sum.inl (0, 0, 0, 1, 25, [])), (25, Sum.inl (2, 2, 0, 0, 26, [])), (26, Sum.inl (9, 6, 0, 0, 27, [])), (27, Sum.inl (16, 1, 30, 0, 32, [])), (30, Sum.inl (2, 2, 0, 0, 31, [])), (31, Sum.inl (27, 0, 0, 0, 32, [])), (32, Sum.inl (8, 2, 0, 1, 35, [])), (35, Sum.inl (15, 0, 0, 0, 2, [])), (38, Sum.inl (0, 0, 0, (-1), 39, [])), (39, Sum.inl (27, 0, 0, 0, 40, []))]
theorem Z_X8_kindsFor (l : Launch) : ∀ q ∈ U_X8_kindsFor, zTok l O_X8_kindsFor F_X8_kindsFor q := zU_ok rfl rfl rfl K_X8_kindsFor (E_X8_kindsFor l)
def wp_X8_kindsFor (a : List zV) (S : zS) (K : zR2 → zS → Prop) : Prop := match a with
  | [.inr (.inl c), .inl x] => ∃ (n d : Nat), (c = 59 ∧ x = (n : Int) ∧ 1 ≤ n ∧ n ≤ 40 ∧ S 59 1 = (((cod d).take 40).length : Int) ∧ wS S 60 ((cod d).take 40)) ∧ (n ≤ (cod d).length → K (.inl (some (.inl (kinS ((cod d).getD (n - 1) 0) 8 0 : Int)))) S) ∧ (¬ n ≤ (cod d).length → K (.inl (some (.inl (-1)))) S)
  | _ => False
theorem L_X8_kindsFor {l : Launch} {S : zS} {Q : zR2 → zS → Prop} {n w : Nat} (h1 : 1 ≤ n) (h40 : n ≤ 40) (hm : (n : Int) ≤ S 59 1) (hw : S 60 (n - 1) = (w : Int)) (h256 : w < 256) (f : Nat) : ∀ k, k + f = 8 → Q (.inl (some (.inl (kinS w f k : Int)))) S → zGs l 0 0 0 F_X8_kindsFor S 2 [(0, .inr (.inl 59)), (1, .inl (n : Int)), (2, .inl (k : Int))] [] Q := by
  induction f with
  | zero =>
    intro k hk h
    have : k = 8 := by omega
    subst this
    have e := zsh1_n (k := 8) (by omega)
    have e2 : (2 ^ 8 : Nat) = 256 := rfl
    rw [e2] at e
    refine zwq_ok (Z_X8_kindsFor l) rfl [2] (fun _ _ _ _ _ _ h => h) 400 (Z_X8_kindsFor l) ?_
    refine ⟨fun c => by omega, fun c => ⟨fun c2 => by omega, fun c2 => ⟨by omega, n - 1, ⟨by omega, by omega⟩, fun c3 => h, fun c3 => ?_⟩⟩⟩
    exfalso
    rw [e] at c3
    omega
  | succ f ih =>
    intro k hk h
    have e := zsh1_n (k := k) (by omega)
    have h : Q (.inl (some (.inl ((if w < 2 ^ k then k else kinS w f (k + 1) : Nat) : Int)))) S := h
    refine zwq_ok (Z_X8_kindsFor l) rfl [2] (fun _ _ _ _ _ _ h => h) 400 (Z_X8_kindsFor l) ?_
    refine ⟨fun c => by omega, fun c => ⟨fun c2 => by omega, fun c2 => ⟨by omega, n - 1, ⟨by omega, by omega⟩, fun c3 => ?_, fun c3 => ⟨by omega, ?_⟩⟩⟩⟩
    · rw [e] at c3
      rw [if_pos (by omega)] at h; exact h
    · rw [e] at c3
      rw [if_neg (by omega)] at h; exact ih (k + 1) (by omega) h
theorem R_X8_kindsFor (l : Launch) (a : List zV) (S : zS) (Q : zR2 → zS → Prop) (h : wp_X8_kindsFor a S Q) : zRs l 0 0 0 yX8_kindsFor (.code yX8_kindsFor cX8_kindsFor 3 (some .int)) a S Q := by
  unfold wp_X8_kindsFor at h
  split at h
  · obtain ⟨n, d, ⟨rfl, rfl, h1, h40, hm, hw⟩, q1, q0⟩ := h
    refine zRs_of 8 (by decide) rfl rfl ?_; refine zwq_ok (Z_X8_kindsFor l) rfl [2] (fun _ _ _ _ _ _ h => h) 400 (Z_X8_kindsFor l) ?_
    have ht := tak_40 (d := d) h40
    by_cases c : n ≤ (cod d).length
    · have hg := lget (l := cod d) (n := n - 1) (by omega)
      have hg2 := hg
      rw [← tak_get (by omega)] at hg2
      exact L_X8_kindsFor h1 h40 (by omega) (hw _ _ hg2) (cod_lt hg) 8 0 (by omega) (q1 c)
    · refine zwq_ok (Z_X8_kindsFor l) rfl [2] (fun _ _ _ _ _ _ h => h) 400 (Z_X8_kindsFor l) ?_
      exact ⟨fun c => by omega, fun _ => ⟨fun c2 => q0 c, fun c2 => by omega⟩⟩
  · exact h.elim
def B_X12_kinds : List (Nat × zC) := [(8, (0, 0, 2, 1, 0, 0, 12)), (18, (0, 1, 1, 1, 0, 0, 12))]
def O_X12_kinds : zO := fun j a S K => match j with
  | 0 => wp_X12_isCode a S K
  | 1 => wp_X12_spells a S K
  | _ => False
theorem E_X12_kinds (l : Launch) : ∀ q ∈ B_X12_kinds, zcok l O_X12_kinds F_X12_kinds q.1 q.2 := List.forall_mem_cons.mpr ⟨⟨413, yX12_isCode, cX12_isCode, 3, some .boolean, by decide +kernel, C_12_413, W_X12_isCode, I_X12_isCode, S_X12_isCode, rfl, rfl, R_X12_isCode l⟩, List.forall_mem_cons.mpr ⟨⟨416, yX12_spells, cX12_spells, 5, none, by decide +kernel, C_12_416, W_X12_spells, I_X12_spells, S_X12_spells, rfl, rfl, R_X12_spells l⟩, fun _ h => by cases h⟩⟩
def U_X12_kinds : List (Nat × zE) := [(0, Sum.inl (4, 0, 0, 0, 1, [])), (1, Sum.inl (0, 0, 0, 0, 2, [])), (2, Sum.inl (19, 12, 0, 0, 5, [])), (5, Sum.inl (4, 0, 0, 0, 6, [])), (6, Sum.inl (2, 1, 0, 0, 7, [])), (7, Sum.inl (2, 2, 0, 0, 8, [])), (8, Sum.inr (0, 0, 2, 1, 0, 0, 12)), (11, Sum.inl (17, 0, 14, 0, 16, [])), (14, Sum.inl (0, 0, 0, 0, 15, [])), (15, Sum.inl (27, 0, 0, 0, 16, [])), (16, Sum.inl (4, 0, 0, 0, 17, [])), (17, Sum.inl (2, 2, 0, 0, 18, [])), (18, Sum.inr (0, 1, 1, 1, 0, 0, 12)), (21, Sum.inl (4, 0, 0, 0, 22, [])), (22, Sum.inl (18, 12, 62, 0, 25, [])), (25, Sum.inl (2, 1, 0, 0, 26, [])), (26, Sum.inl (16, 1, 29, 0, 31, [])), (29, Sum.inl (0, 0, 0, (-1), 30, [])), (30, Sum.inl (27, 0, 0, 0, 31, [])), (31, Sum.inl (0, 0, 0, 0, 32, [])), (32, Sum.inl (5, 3, 0, 0, 33, [])), (33, Sum.inl (4, 0, 0, 0, 34, [])), (34, Sum.inl (18, 12, 61, 0, 37, [])), (37, Sum.inl (2, 1, 0, 0, 38, [])), (38, Sum.inl (0, 0, 0, 1, 39, [])), (39, Sum.inl (9, 1, 0, 0, 40, [])), (40, Sum.inl (20, 0, 0, 0, 41, [])), (41, Sum.inl (0, 0, 0, 1, 42, [])), (42, Sum.inl (2, 3, 0, 0, 43, [])), (43, Sum.inl (9, 6, 0, 0, 44, [])), (44, Sum.inl (16, 1, 53, 0, 47, [])), (47, Sum.inl (8, 3, 0, 1, 50, [])), (50, Sum.inl (15, 0, 0, 0, 33, [])), (53, Sum.inl (2, 3, 0, 0, 54, [])), (54, Sum.inl (27, 0, 0, 0, 55, []))]
theorem Z_X12_kinds (l : Launch) : ∀ q ∈ U_X12_kinds, zTok l O_X12_kinds F_X12_kinds q := zU_ok rfl rfl rfl K_X12_kinds (E_X12_kinds l)
abbrev kinP (x y : Int) : Prop := (1 ≤ x ∧ x ≤ 40) ∧ (1 ≤ y ∧ y ≤ 3)
def kindsA (x y : Int) : Nat × Int := if kinP x y then (0, if x ≤ ((cod y.toNat).length : Int) then (kinS ((cod y.toNat).getD (x.toNat - 1) 0) 8 0 : Int) else -1) else (1, 0)
section
variable {S S' : zS} {D D' E T : zD} {N : Nat} {K : zR2 → zS → Prop} {x y z u w : Int}
theorem L_X12_kinds {l : Launch} {S : zS} {Q : zR2 → zS → Prop} {n w : Nat} {y : Int} (h1 : 1 ≤ n) (h40 : n ≤ 40) (hw : S 96 (n - 1) = (w : Int)) (h256 : w < 256) (f : Nat) : ∀ k, k + f = 8 → Q (.inl (some (.inl (kinS w f k : Int)))) S → zGs l 2 0 0 F_X12_kinds S 33 [(0, .inr (.inl 62)), (1, .inl (n : Int)), (2, .inl y), (3, .inl (k : Int))] [] Q := by
  induction f with
  | zero =>
    intro k hk h
    have : k = 8 := by omega
    subst this
    have e := zsh1_n (k := 8) (by omega)
    have e2 : (2 ^ 8 : Nat) = 256 := rfl
    rw [e2] at e
    refine zwq_ok (Z_X12_kinds l) rfl [33] (fun _ _ _ _ _ _ h => h) 400 (Z_X12_kinds l) ?_
    refine ⟨by omega, n - 1, ⟨by omega, by omega⟩, fun c3 => h, fun c3 => ?_⟩
    exfalso
    rw [e] at c3
    omega
  | succ f ih =>
    intro k hk h
    have e := zsh1_n (k := k) (by omega)
    have h : Q (.inl (some (.inl ((if w < 2 ^ k then k else kinS w f (k + 1) : Nat) : Int)))) S := h
    refine zwq_ok (Z_X12_kinds l) rfl [33] (fun _ _ _ _ _ _ h => h) 400 (Z_X12_kinds l) ?_
    refine ⟨by omega, n - 1, ⟨by omega, by omega⟩, fun c3 => ?_, fun c3 => ⟨by omega, ?_⟩⟩
    · rw [e] at c3
      rw [if_pos (by omega)] at h; exact h
    · rw [e] at c3
      rw [if_neg (by omega)] at h; exact ih (k + 1) (by omega) h
end
def wp_X12_kinds (a : List zV) (S : zS) (K : zR2 → zS → Prop) : Prop := match a with
  | [.inr (.inl c), .inl x, .inl y] => ∃ (D E T : zD), (c = 62 ∧ eM S D E T) ∧ mRes S D E T (kindsA x y) K
  | _ => False
theorem mSp {S S' : zS} {D E T : zD} (hM : eM S D E T) (hf : ∀ c j, c ≠ 96 → (c ≠ 62 ∨ j ≠ 62) → S' c j = zu S 62 0 0 c j) : eM S' D E T ∧ frM S S' ∧ S' 62 0 = 0 := by
  have hM0 : eM (zu S 62 0 0) D E T := hM.u (Or.inl rfl)
  refine ⟨hM0.fr (fun c j h1 h2 => hf c j ?_ ?_), fun c hc => funext fun j => (hf c j (by omega) (Or.inl (by omega))).trans (zuN (Or.inl (by omega))), (hf 62 0 (by omega) (Or.inr (by omega))).trans zuE⟩
  · unfold mScr at h2; omega
  · unfold mScr at h2; omega
theorem R_X12_kinds (l : Launch) (a : List zV) (S : zS) (Q : zR2 → zS → Prop) (h : wp_X12_kinds a S Q) : zRs l 2 0 0 yX12_kinds (.code yX12_kinds cX12_kinds 4 (some .int)) a S Q := by
  unfold wp_X12_kinds at h
  split at h
  · rename_i c x y
    obtain ⟨D, E, T, ⟨rfl, hM⟩, h⟩ := h
    unfold kindsA at h
    by_cases hp : kinP x y
    · rw [if_pos hp] at h
      obtain ⟨⟨p1, p2⟩, p3, p4⟩ := hp
      refine zRs_of 12 (by decide) rfl rfl ?_; refine zwq_ok (Z_X12_kinds l) rfl [33] (fun _ _ _ _ _ _ h => h) 400 (Z_X12_kinds l) ?_
      refine ⟨fun _ => ⟨fun c9 => absurd c9 (by decide), fun _ => ⟨fun _ => ⟨fun c9 => absurd c9 (by decide), fun _ => ⟨⟨rfl, Or.inr rfl⟩, fun _ c9 => absurd c9 (by decide), fun _ _ => ⟨Or.inr rfl, fun c9 => absurd c9 (by decide), fun _ => ?_⟩, rfl, by decide⟩⟩, fun c9 => by omega⟩⟩, fun c9 => by omega⟩
      refine ⟨y.toNat, ⟨rfl, by omega⟩, fun S' s1 s2 s3 => ?_⟩
      obtain ⟨g1, g2, g3⟩ := mSp hM s3
      refine ⟨fun c => ?_, fun c => ?_⟩
      · rw [if_neg (by omega)] at h
        exact h S' _ g1 g2 g3 (fun _ => rfl)
      · rw [if_pos (by omega)] at h
        have hg := lget (l := cod y.toNat) (n := x.toNat - 1) (by omega)
        have := L_X12_kinds (l := l) (y := y) (n := x.toNat) (by omega) (by omega) (s2 _ _ hg) (cod_lt hg) 8 0 (by omega) (h S' _ g1 g2 g3 (fun _ => rfl))
        rw [show ((x.toNat : Nat) : Int) = x by omega] at this
        exact this
    · rw [if_neg hp] at h
      unfold kinP at hp
      have h := mFail1 hM h
      refine zRs_of 12 (by decide) rfl rfl ?_; refine zwq_ok (Z_X12_kinds l) rfl [33] (fun _ _ _ _ _ _ h => h) 400 (Z_X12_kinds l) ?_
      repeat' (first | refine And.intro ?_ ?_ | (intro _; try omega) | omega | rfl | refine ⟨_, ⟨rfl, by omega⟩, ?_⟩ | fail)
      all_goals exact h
  · exact h.elim
