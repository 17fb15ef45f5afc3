/-! the fewest shoes: serve, serveAll -/
theorem su_ge {f : Nat → Nat} {i : Nat} : ∀ n, i < n → f i ≤ suN f n := by
  intro n
  induction n with
  | zero => intro h; omega
  | succ n ih =>
    intro h
    show f i ≤ suN f n + f n
    by_cases e : i = n
    · subst e; omega
    · have := ih (by omega); omega
def B_X5_serve : List (Nat × zC) := [(34, (0, 0, 2, 1, 0, 0, 5))]
def O_X5_serve : zO := fun j a S K => match j with
  | 0 => wp_X5_canSpare a S K
  | _ => False
theorem E_X5_serve (l : Launch) : ∀ q ∈ B_X5_serve, zcok l O_X5_serve F_X5_serve q.1 q.2 := List.forall_mem_cons.mpr ⟨⟨108, yX5_canSpare, cX5_canSpare, 4, some .boolean, by decide +kernel, C_5_108, W_X5_canSpare, I_X5_canSpare, S_X5_canSpare, rfl, rfl, R_X5_canSpare l⟩, fun _ h => by cases h⟩
def U_X5_serve : List (Nat × zE) := [(0, Sum.inl (0, 0, 0, 0, 1, [])), (1, Sum.inl (5, 2, 0, 0, 2, [])), (2, Sum.inl (2, 2, 0, 0, 3, [])), (3, Sum.inl (4, 0, 0, 0, 4, [])), (4, Sum.inl (18, 5, 0, 0, 7, [])), (7, Sum.inl (18, 6, 8, 0, 10, [])), (10, Sum.inl (16, 1, 13, 0, 91, [])), (13, Sum.inl (0, 0, 0, 1, 14, [])), (14, Sum.inl (5, 3, 0, 0, 15, [])), (15, Sum.inl (2, 3, 0, 0, 16, [])), (16, Sum.inl (0, 0, 0, 2, 17, [])), (17, Sum.inl (16, 2, 85, 0, 20, [])), (20, Sum.inl (4, 0, 0, 0, 21, [])), (21, Sum.inl (18, 5, 3, 0, 24, [])), (24, Sum.inl (2, 1, 0, 0, 25, [])), (25, Sum.inl (20, 0, 0, 0, 26, [])), (26, Sum.inl (2, 3, 0, 0, 27, [])), (27, Sum.inl (9, 3, 0, 0, 28, [])), (28, Sum.inl (17, 0, 79, 0, 31, [])), (31, Sum.inl (4, 0, 0, 0, 32, [])), (32, Sum.inl (2, 2, 0, 0, 33, [])), (33, Sum.inl (2, 3, 0, 0, 34, [])), (34, Sum.inr (0, 0, 2, 1, 0, 0, 5)), (37, Sum.inl (17, 0, 79, 0, 40, [])), (40, Sum.inl (4, 0, 0, 0, 41, [])), (41, Sum.inl (18, 5, 4, 0, 44, [])), (44, Sum.inl (2, 2, 0, 0, 45, [])), (45, Sum.inl (0, 0, 0, 2, 46, [])), (46, Sum.inl (9, 2, 0, 0, 47, [])), (47, Sum.inl (2, 3, 0, 0, 48, [])), (48, Sum.inl (9, 0, 0, 0, 49, [])), (49, Sum.inl (0, 0, 0, 1, 50, [])), (50, Sum.inl (9, 1, 0, 0, 51, [])), (51, Sum.inl (13, 0, 0, 0, 52, [])), (52, Sum.inl (20, 0, 0, 0, 53, [])), (53, Sum.inl (0, 0, 0, 1, 54, [])), (54, Sum.inl (9, 1, 0, 0, 55, [])), (55, Sum.inl (21, 0, 0, 0, 56, [])), (56, Sum.inl (4, 0, 0, 0, 57, [])), (57, Sum.inl (18, 5, 6, 0, 60, [])), (60, Sum.inl (2, 3, 0, 0, 61, [])), (61, Sum.inl (13, 0, 0, 0, 62, [])), (62, Sum.inl (20, 0, 0, 0, 63, [])), (63, Sum.inl (0, 0, 0, 1, 64, [])), (64, Sum.inl (9, 1, 0, 0, 65, [])), (65, Sum.inl (21, 0, 0, 0, 66, [])), (66, Sum.inl (4, 0, 0, 0, 67, [])), (67, Sum.inl (18, 5, 7, 0, 70, [])), (70, Sum.inl (2, 1, 0, 0, 71, [])), (71, Sum.inl (0, 0, 0, 10, 73, [])), (73, Sum.inl (2, 2, 0, 0, 74, [])), (74, Sum.inl (9, 2, 0, 0, 75, [])), (75, Sum.inl (2, 3, 0, 0, 76, [])), (76, Sum.inl (9, 0, 0, 0, 77, [])), (77, Sum.inl (21, 0, 0, 0, 78, [])), (78, Sum.inl (29, 0, 0, 0, 79, [])), (79, Sum.inl (8, 3, 0, 1, 82, [])), (82, Sum.inl (15, 0, 0, 0, 15, [])), (85, Sum.inl (8, 2, 0, 1, 88, [])), (88, Sum.inl (15, 0, 0, 0, 2, [])), (91, Sum.inl (29, 0, 0, 0, 92, []))]
theorem Z_X5_serve (l : Launch) : ∀ q ∈ U_X5_serve, zTok l O_X5_serve F_X5_serve q := zU_ok rfl rfl rfl K_X5_serve (E_X5_serve l)
def svS (S : zS) (L : Nat) (sp : Nat → Nat) (l k : Nat) : zS := zu (zu (zu S 54 k ((sp k : Int) - 1)) 56 (k % 2 + 1) ((lfN sp L (k % 2 + 1) : Int) - 1)) 57 l (vlN k : Int)
def wp_X5_serve (a : List zV) (S : zS) (K : zR2 → zS → Prop) : Prop := match a with
  | [.inr (.inl c), .inl x] => ∃ (L : Nat) (wn : Nat → Int) (sp : Nat → Nat) (l k : Nat), (c = 52 ∧ L ≤ 6 ∧ S 3 8 = (L : Int) ∧ srC S L wn sp (l + 1) ∧ x = (l : Int) ∧ l < L ∧ (0 ≤ wn l ∧ wn l < 4) ∧ pkS wn L sp l (2 * L) 0 = some k) ∧ K (.inl none) (svS S L sp l k)
  | _ => False
section
variable {lc : Launch} {S : zS} {Q : zR2 → zS → Prop} {L l k : Nat} {wn : Nat → Int} {sp : Nat → Nat}
theorem st_X5_serve (h6 : L ≤ 6) (hr : srC S L wn sp (l + 1)) (hl : l < L) (hw : 0 ≤ wn l ∧ wn l < 4) (hq : Q (.inl none) (svS S L sp l k)) {w s : Nat} (hwL : w < L) (hs : s = 1 ∨ s = 2) (f : Nat) (hp : pkS wn L sp l (f + 1) (2 * w + s - 1) = some k) (nx : pkS wn L sp l f (2 * w + s - 1 + 1) = some k → zGs lc 2 0 0 F_X5_serve S 15 [(0, .inr (.inl 52)), (1, .inl (l : Int)), (2, .inl (w : Int)), (3, .inl ((s : Int) + 1))] [] Q) : zGs lc 2 0 0 F_X5_serve S 15 [(0, .inr (.inl 52)), (1, .inl (l : Int)), (2, .inl (w : Int)), (3, .inl (s : Int))] [] Q := by
  obtain ⟨r1, r2, r3, ⟨r4, r5⟩, r6, r7⟩ := id hr
  have e := r2 (2 * w + s - 1) (by omega)
  have ew := r1 l hl
  have ek : (2 * w + s - 1) % 2 + 1 = s := by omega
  have ez : zand (S 53 l) (s : Int) = (((wn l).toNat &&& s : Nat) : Int) := by
    rw [ew, show wn l = ((wn l).toNat : Int) by omega]
    exact zand_n (by omega)
  have hp : (bif pkB wn L sp l (2 * w + s - 1) then some (2 * w + s - 1) else pkS wn L sp l f (2 * w + s - 1 + 1)) = some k := hp
  have hpk : pkB wn L sp l (2 * w + s - 1) = (!(Nat.beq ((wn l).toNat &&& s) 0) && (Nat.ble 1 (sp (2 * w + s - 1)) && HSB wn L (dnN sp (2 * w + s - 1)) (l + 1))) := by
    unfold pkB cnB
    rw [ek, Bool.and_assoc]
  have no : pkB wn L sp l (2 * w + s - 1) = false → zGs lc 2 0 0 F_X5_serve S 79 [(0, .inr (.inl 52)), (1, .inl (l : Int)), (2, .inl (w : Int)), (3, .inl (s : Int))] [] Q := fun c => by
    rw [c] at hp
    have := nx hp
    refine zwq_ok (Z_X5_serve lc) rfl [15] (fun _ _ _ _ _ _ h => h) 400 (Z_X5_serve lc) ?_
    exact ⟨by omega, this⟩
  refine zwq_ok (Z_X5_serve lc) rfl [15, 79] (fun _ _ _ _ _ _ h => h) 400 (Z_X5_serve lc) ?_
  refine ⟨fun c => by omega, fun _ => ⟨l, ⟨rfl, by omega⟩, fun c => no ?_, fun c => ⟨L, wn, sp, l, w, s, ⟨rfl, h6, hr, rfl, hwL, rfl, hs⟩, fun c2 => no ?_, fun c2 => ?_⟩⟩⟩
  · rw [ez] at c
    rw [hpk, show (wn l).toNat &&& s = 0 by omega]
    rfl
  · rw [hpk]
    have : (Nat.ble 1 (sp (2 * w + s - 1)) && HSB wn L (dnN sp (2 * w + s - 1)) (l + 1)) = false := by
      cases hb : (Nat.ble 1 (sp (2 * w + s - 1)) && HSB wn L (dnN sp (2 * w + s - 1)) (l + 1))
      · rfl
      · rw [hb] at c2; exact absurd c2 (by decide)
    rw [this, Bool.and_false]
  · have hb : (Nat.ble 1 (sp (2 * w + s - 1)) && HSB wn L (dnN sp (2 * w + s - 1)) (l + 1)) = true := by
      cases hb : (Nat.ble 1 (sp (2 * w + s - 1)) && HSB wn L (dnN sp (2 * w + s - 1)) (l + 1))
      · rw [hb] at c2; exact absurd rfl c2
      · rfl
    rw [ez] at c
    have hyes : pkB wn L sp l (2 * w + s - 1) = true := by rw [hpk, hb, beqN (show (wn l).toNat &&& s ≠ 0 by omega)]; rfl
    rw [hyes] at hp
    have hk : 2 * w + s - 1 = k := Option.some.inj hp
    have hge : 1 ≤ sp (2 * w + s - 1) := Nat.ble_eq.mp (Bool.and_eq_true_iff.mp hb).1
    have ev : vlN k = 10 * w + s := by rw [← hk]; unfold vlN; omega
    have es : S 56 s = (lfN sp L s : Int) := by rcases hs with rfl | rfl <;> assumption
    have d1 := lf_dn (sp := sp) (L := L) (w := w) (s := s) hs hwL hge
    have hlf : lfN sp L s ≤ 1000 := by rcases hs with rfl | rfl <;> assumption
    have hsp : sp (2 * w + s - 1) ≤ lfN sp L s := su_ge (f := fun i => sp (2 * i + s - 1)) L hwL
    have hq2 : Q (.inl none) (zu (zu (zu S 54 (2 * w + s - 1) (S 54 (2 * w + s - 1) - 1)) 56 s (S 56 s - 1)) 57 l (10 * (w : Int) + (s : Int))) := by
      unfold svS at hq
      rw [ev, ← hk, ek, ← e, ← es] at hq
      exact hq
    refine ⟨by omega, by omega, by omega, 2 * w + s - 1, ⟨by omega, by omega⟩, by omega, 2 * w + s - 1, ⟨by omega, by omega⟩, s, ⟨rfl, by omega⟩, ?_, s, ⟨rfl, by omega⟩, by omega, by omega, l, ⟨rfl, by omega⟩, ?_⟩
    · show -2147483648 ≤ S 56 s - 1 ∧ S 56 s - 1 < 2147483648
      omega
    · exact hq2
theorem L_X5_serve (h6 : L ≤ 6) (eL : S 3 8 = (L : Int)) (hr : srC S L wn sp (l + 1)) (hl : l < L) (hw : 0 ≤ wn l ∧ wn l < 4) (hq : Q (.inl none) (svS S L sp l k)) (f : Nat) : ∀ w, w + f = L → pkS wn L sp l (2 * f) (2 * w) = some k → zGs lc 2 0 0 F_X5_serve S 2 [(0, .inr (.inl 52)), (1, .inl (l : Int)), (2, .inl (w : Int))] [] Q := by
  induction f with
  | zero => intro w _ h; cases h
  | succ f ih =>
    intro w hwf hp
    have go := st_X5_serve (lc := lc) h6 hr hl hw hq (w := w) (s := 1) (by omega) (Or.inl rfl) (2 * f + 1) (by rw [show 2 * w + 1 - 1 = 2 * w by omega]; exact hp) (fun hp2 => st_X5_serve (lc := lc) h6 hr hl hw hq (w := w) (s := 2) (by omega) (Or.inr rfl) (2 * f) (by rw [show 2 * w + 1 - 1 + 1 = 2 * w + 2 - 1 by omega] at hp2; exact hp2) (fun hp3 => by
      have := ih (w + 1) (by omega) (by rw [show 2 * (w + 1) = 2 * w + 2 - 1 + 1 by omega]; exact hp3)
      refine zwq_ok (Z_X5_serve lc) rfl [2] (fun _ _ _ _ _ _ h => h) 400 (Z_X5_serve lc) ?_
      refine ⟨fun _ => ⟨by omega, ?_⟩, fun c => absurd (by decide) c⟩
      exact zGs.sub (lo := [(0, _), (1, _), (2, _), (3, _)]) this (fun q hq => by simp only [List.mem_cons, List.not_mem_nil, or_false] at hq; rcases hq with rfl | rfl | rfl <;> first | exact .head _ | exact .tail _ (.head _) | exact .tail _ (.tail _ (.head _)) | exact .tail _ (.tail _ (.tail _ (.head _))) | exact .tail _ (.tail _ (.tail _ (.tail _ (.head _)))) | exact .tail _ (.tail _ (.tail _ (.tail _ (.tail _ (.head _))))) | exact .tail _ (.tail _ (.tail _ (.tail _ (.tail _ (.tail _ (.head _)))))) | exact .tail _ (.tail _ (.tail _ (.tail _ (.tail _ (.tail _ (.tail _ (.head _))))))) | exact .tail _ (.tail _ (.tail _ (.tail _ (.tail _ (.tail _ (.tail _ (.tail _ (.head _)))))))) | exact .tail _ (.tail _ (.tail _ (.tail _ (.tail _ (.tail _ (.tail _ (.tail _ (.tail _ (.head _))))))))) | exact .tail _ (.tail _ (.tail _ (.tail _ (.tail _ (.tail _ (.tail _ (.tail _ (.tail _ (.tail _ (.head _)))))))))) | exact .tail _ (.tail _ (.tail _ (.tail _ (.tail _ (.tail _ (.tail _ (.tail _ (.tail _ (.tail _ (.tail _ (.head _))))))))))) | exact .tail _ (.tail _ (.tail _ (.tail _ (.tail _ (.tail _ (.tail _ (.tail _ (.tail _ (.tail _ (.tail _ (.tail _ (.head _)))))))))))) | exact .tail _ (.tail _ (.tail _ (.tail _ (.tail _ (.tail _ (.tail _ (.tail _ (.tail _ (.tail _ (.tail _ (.tail _ (.tail _ (.head _))))))))))))))))
    refine zwq_ok (Z_X5_serve lc) rfl [2, 15] (fun _ _ _ _ _ _ h => h) 400 (Z_X5_serve lc) ?_
    exact ⟨fun c => go, fun c => by omega⟩
end
theorem R_X5_serve (l : Launch) (a : List zV) (S : zS) (Q : zR2 → zS → Prop) (h : wp_X5_serve a S Q) : zRs l 2 0 0 yX5_serve (.code yX5_serve cX5_serve 4 (none)) a S Q := by
  unfold wp_X5_serve at h
  split at h
  · obtain ⟨L, wn, sp, i, k, ⟨rfl, h6, eL, hr, rfl, hi, hw, hp⟩, h⟩ := h
    refine zRs_of 5 (by decide) rfl rfl ?_; refine zwq_ok (Z_X5_serve l) rfl [2] (fun _ _ _ _ _ _ h => h) 400 (Z_X5_serve l) ?_
    exact L_X5_serve h6 eL hr hi hw h L 0 (by omega) hp
  · exact h.elim
def B_X5_serveAll : List (Nat × zC) := [(47, (0, 0, 1, 2, 0, 0, 5))]
def O_X5_serveAll : zO := fun j a S K => match j with
  | 0 => wp_X5_serve a S K
  | _ => False
theorem E_X5_serveAll (l : Launch) : ∀ q ∈ B_X5_serveAll, zcok l O_X5_serveAll F_X5_serveAll q.1 q.2 := List.forall_mem_cons.mpr ⟨⟨104, yX5_serve, cX5_serve, 4, none, by decide +kernel, C_5_104, W_X5_serve, I_X5_serve, S_X5_serve, rfl, rfl, R_X5_serve l⟩, fun _ h => by cases h⟩
def U_X5_serveAll : List (Nat × zE) := [(0, Sum.inl (0, 0, 0, 0, 1, [])), (1, Sum.inl (5, 1, 0, 0, 2, [])), (2, Sum.inl (2, 1, 0, 0, 3, [])), (3, Sum.inl (4, 0, 0, 0, 4, [])), (4, Sum.inl (18, 5, 0, 0, 7, [])), (7, Sum.inl (18, 6, 8, 0, 10, [])), (10, Sum.inl (16, 1, 13, 0, 56, [])), (13, Sum.inl (4, 0, 0, 0, 14, [])), (14, Sum.inl (18, 5, 7, 0, 17, [])), (17, Sum.inl (2, 1, 0, 0, 18, [])), (18, Sum.inl (0, 0, 0, (-1), 19, [])), (19, Sum.inl (21, 0, 0, 0, 20, [])), (20, Sum.inl (4, 0, 0, 0, 21, [])), (21, Sum.inl (18, 5, 3, 0, 24, [])), (24, Sum.inl (2, 1, 0, 0, 25, [])), (25, Sum.inl (20, 0, 0, 0, 26, [])), (26, Sum.inl (0, 0, 0, (-1), 27, [])), (27, Sum.inl (16, 0, 50, 0, 30, [])), (30, Sum.inl (4, 0, 0, 0, 31, [])), (31, Sum.inl (18, 5, 5, 0, 34, [])), (34, Sum.inl (4, 0, 0, 0, 35, [])), (35, Sum.inl (18, 5, 3, 0, 38, [])), (38, Sum.inl (2, 1, 0, 0, 39, [])), (39, Sum.inl (20, 0, 0, 0, 40, [])), (40, Sum.inl (13, 0, 0, 0, 41, [])), (41, Sum.inl (20, 0, 0, 0, 42, [])), (42, Sum.inl (0, 0, 0, 1, 43, [])), (43, Sum.inl (9, 1, 0, 0, 44, [])), (44, Sum.inl (21, 0, 0, 0, 45, [])), (45, Sum.inl (4, 0, 0, 0, 46, [])), (46, Sum.inl (2, 1, 0, 0, 47, [])), (47, Sum.inr (0, 0, 1, 2, 0, 0, 5)), (50, Sum.inl (8, 1, 0, 1, 53, [])), (53, Sum.inl (15, 0, 0, 0, 2, [])), (56, Sum.inl (29, 0, 0, 0, 57, []))]
theorem Z_X5_serveAll (l : Launch) : ∀ q ∈ U_X5_serveAll, zTok l O_X5_serveAll F_X5_serveAll q := zU_ok rfl rfl rfl K_X5_serveAll (E_X5_serveAll l)
def frS (S S0 : zS) : Prop := ∀ c, c ≠ 54 → c ≠ 55 → c ≠ 56 → c ≠ 57 → S c = S0 c
def wp_X5_serveAll (a : List zV) (S : zS) (K : zR2 → zS → Prop) : Prop := match a with
  | [.inr (.inl c)] => ∃ (L : Nat) (wn : Nat → Int) (sp : Nat → Nat), (c = 52 ∧ L ≤ 6 ∧ S 3 8 = (L : Int) ∧ srC S L wn sp 0 ∧ HSP wn L sp 0 ∧ ∀ i, i < L → wn i = -1 ∨ (0 ≤ wn i ∧ wn i < 4)) ∧ ∀ S', (∀ i, i < L → S' 57 i = ((grS wn L L 0 sp).getD i 0 : Int) - 1) → frS S' S → K (.inl none) S'
  | _ => False
theorem srC_dn {S : zS} {L : Nat} {wn : Nat → Int} {sp : Nat → Nat} {l k : Nat} (h : srC S L wn sp l) (hk : k < 2 * L) (hp : 1 ≤ sp k) (i : Nat) : srC (svS S L sp i k) L wn (dnN sp k) l := by
  obtain ⟨r1, r2, r3, ⟨r4, r5⟩, r6, r7⟩ := h
  have hk2 : k % 2 = 0 ∨ k % 2 = 1 := by omega
  refine ⟨r1, fun j hj => ?_, r3, ?_⟩
  · show zu S 54 k ((sp k : Int) - 1) 54 j = ((if j = k then sp k - 1 else sp j : Nat) : Int)
    rw [zu_if]
    by_cases e : j = k
    · rw [if_pos e, if_pos e]; omega
    · rw [if_neg e, if_neg e]; exact r2 j hj
  · rcases hk2 with hk2 | hk2
    · have ek : k = 2 * (k / 2) + 1 - 1 := by omega
      have d1 := lf_dn (sp := sp) (L := L) (w := k / 2) (s := 1) (Or.inl rfl) (by omega) (by rw [← ek]; exact hp)
      have d2 := lf_other (sp := sp) (L := L) (w := k / 2) (s := 1) (s' := 2) (Or.inl rfl) (Or.inr rfl) (by decide)
      rw [← ek] at d1 d2
      unfold svS
      rw [hk2]
      refine ⟨⟨?_, ?_⟩, by omega, by omega⟩
      · show ((lfN sp L 1 : Nat) : Int) - 1 = _
        omega
      · show S 56 2 = _
        omega
    · have ek : k = 2 * (k / 2) + 2 - 1 := by omega
      have d1 := lf_dn (sp := sp) (L := L) (w := k / 2) (s := 2) (Or.inr rfl) (by omega) (by rw [← ek]; exact hp)
      have d2 := lf_other (sp := sp) (L := L) (w := k / 2) (s := 2) (s' := 1) (Or.inr rfl) (Or.inl rfl) (by decide)
      rw [← ek] at d1 d2
      unfold svS
      rw [hk2]
      refine ⟨⟨?_, ?_⟩, by omega, by omega⟩
      · show S 56 1 = _
        omega
      · show ((lfN sp L 2 : Nat) : Int) - 1 = _
        omega
theorem L_X5_serveAll {lc : Launch} {S0 : zS} {Q : zR2 → zS → Prop} {L : Nat} {wn : Nat → Int} (h6 : L ≤ 6) (eL : S0 3 8 = (L : Int)) (hwn : ∀ i, i < L → wn i = -1 ∨ (0 ≤ wn i ∧ wn i < 4)) (f : Nat) : ∀ l sp S, l + f = L → srC S L wn sp l → HSP wn L sp l → frS S S0 → (∀ S', (∀ i, i < l → S' 57 i = S 57 i) → (∀ i, i < f → S' 57 (l + i) = ((grS wn L f l sp).getD i 0 : Int) - 1) → frS S' S0 → Q (.inl none) S') → zGs lc 3 0 0 F_X5_serveAll S 2 [(0, .inr (.inl 52)), (1, .inl (l : Int))] [] Q := by
  induction f with
  | zero =>
    intro l sp S hl hr hh hf k
    have eL2 : S 3 8 = (L : Int) := by rw [hf 3 (by omega) (by omega) (by omega) (by omega)]; exact eL
    have := k S (fun _ _ => rfl) (fun i hi => absurd hi (Nat.not_lt_zero i)) hf
    refine zwq_ok (Z_X5_serveAll lc) rfl [2] (fun _ _ _ _ _ _ h => h) 400 (Z_X5_serveAll lc) ?_
    exact ⟨fun c => by omega, fun c => this⟩
  | succ f ih =>
    intro l sp S hl hr hh hf k
    have eL2 : S 3 8 = (L : Int) := by rw [hf 3 (by omega) (by omega) (by omega) (by omega)]; exact eL
    obtain ⟨r1, r2, r3, r45, r67⟩ := id hr
    have ew := r1 l (by omega)
    by_cases hn : wn l = -1
    · have eg : grS wn L (f + 1) l sp = 0 :: grS wn L f (l + 1) sp := by show (if wn l = -1 then _ else _) = _; rw [if_pos hn]
      have ewt : ∀ m : Nat, m < 4 → wtN wn L m (l + 1) = wtN wn L m l := fun m _ => by
        have := wt_step (wn := wn) (m := m) (show l < L by omega)
        rw [if_neg (by omega)] at this
        omega
      have this := ih (l + 1) sp (zu S 57 l (-1)) (by omega) ⟨r1, r2, fun m hm => by rw [ewt m hm]; exact r3 m hm, r45, r67⟩ ((HSP_skip (by omega) hn).mp hh) (fun c a1 a2 a3 a4 => (zu_c a4).trans (hf c a1 a2 a3 a4)) (fun S' a1 a2 a3 => k S' (fun i hi => by rw [a1 i (by omega), zuN (Or.inr (by omega))]) (fun i hi => by
        rw [eg]
        cases i with
        | zero => rw [Nat.add_zero, a1 l (by omega), zuE]; rfl
        | succ i =>
          have := a2 i (by omega)
          rw [show l + 1 + i = l + (i + 1) by omega] at this
          exact this) a3)
      refine zwq_ok (Z_X5_serveAll lc) rfl [2] (fun _ _ _ _ _ _ h => h) 400 (Z_X5_serveAll lc) ?_
      refine ⟨fun c => ⟨l, ⟨rfl, by omega⟩, l, ⟨rfl, by omega⟩, fun c2 => ⟨by omega, this⟩, fun c2 => ?_⟩, fun c => by omega⟩
      exact absurd (show S 53 l = -1 by omega) c2
    · have hw : 0 ≤ wn l ∧ wn l < 4 := (hwn l (by omega)).elim (fun z => absurd z hn) id
      obtain ⟨kk, k1, k2, k3, k4⟩ := pk_ex (show l < L by omega) hw hh
      have eg : grS wn L (f + 1) l sp = (vlN kk + 1) :: grS wn L f (l + 1) (dnN sp kk) := by
        show (if wn l = -1 then _ else match pkS wn L sp l (2 * L) 0 with | some k => (vlN k + 1) :: grS wn L f (l + 1) (dnN sp k) | none => 0 :: grS wn L f (l + 1) sp) = _
        rw [if_neg hn, k1]
      have e3 := r3 (wn l).toNat (by omega)
      have ewt : ∀ m : Nat, m < 4 → wtN wn L m l = wtN wn L m (l + 1) + if wn l = (m : Int) then 1 else 0 := fun m _ => wt_step (show l < L by omega)
      have hle := wt_le wn L (wn l).toNat l
      have hr2 : srC (zu (zu S 57 l (-1)) 55 (wn l).toNat (S 55 (wn l).toNat - 1)) L wn sp (l + 1) := by
        refine ⟨r1, r2, fun m hm => ?_, r45, r67⟩
        show zu S 55 (wn l).toNat (S 55 (wn l).toNat - 1) 55 m = _
        rw [zu_if]
        have e4 := ewt m hm
        by_cases e : m = (wn l).toNat
        · rw [if_pos e]
          rw [if_pos (by omega)] at e4
          rw [← e, r3 m hm]
          omega
        · rw [if_neg e]
          rw [if_neg (by omega)] at e4
          rw [r3 m hm]
          omega
      have this := ih (l + 1) (dnN sp kk) _ (by omega) (srC_dn hr2 k2 k3.2 l) k4 (fun c a1 a2 a3 a4 => (zu_c a4).trans ((zu_c a3).trans ((zu_c a1).trans ((zu_c a2).trans ((zu_c a4).trans (hf c a1 a2 a3 a4)))))) (fun S' a1 a2 a3 => k S' (fun i hi => by
        rw [a1 i (by omega)]
        unfold svS
        rw [zuN (Or.inr (by omega))]
        show zu S 57 l (-1) 57 i = _
        rw [zuN (Or.inr (by omega))]) (fun i hi => by
        rw [eg]
        cases i with
        | zero =>
          rw [Nat.add_zero, a1 l (by omega)]
          unfold svS
          rw [zuE]
          show ((vlN kk : Nat) : Int) = ((vlN kk + 1 : Nat) : Int) - 1
          omega
        | succ i =>
          have := a2 i (by omega)
          rw [show l + 1 + i = l + (i + 1) by omega] at this
          exact this) a3)
      refine zwq_ok (Z_X5_serveAll lc) rfl [2] (fun _ _ _ _ _ _ h => h) 400 (Z_X5_serveAll lc) ?_
      refine ⟨fun c => ⟨l, ⟨rfl, by omega⟩, l, ⟨rfl, by omega⟩, fun c2 => ?_, fun c2 => ⟨l, ⟨rfl, by omega⟩, (wn l).toNat, ⟨?_, by omega⟩, ?_, (wn l).toNat, ⟨?_, by omega⟩, L, wn, sp, l, kk, ⟨rfl, h6, eL2, hr2, rfl, by omega, hw, k1⟩, by omega, this⟩⟩, fun c => by omega⟩
      · exact absurd (ew.symm.trans c2) hn
      · show S 53 l = _
        omega
      · show -2147483648 ≤ S 55 (wn l).toNat - 1 ∧ S 55 (wn l).toNat - 1 < 2147483648
        omega
      · show S 53 l = _
        omega
theorem R_X5_serveAll (l : Launch) (a : List zV) (S : zS) (Q : zR2 → zS → Prop) (h : wp_X5_serveAll a S Q) : zRs l 3 0 0 yX5_serveAll (.code yX5_serveAll cX5_serveAll 2 (none)) a S Q := by
  unfold wp_X5_serveAll at h
  split at h
  · obtain ⟨L, wn, sp, ⟨rfl, h6, eL, hr, hh, hwn⟩, h⟩ := h
    refine zRs_of 5 (by decide) rfl rfl ?_; refine zwq_ok (Z_X5_serveAll l) rfl [2] (fun _ _ _ _ _ _ h => h) 400 (Z_X5_serveAll l) ?_
    exact L_X5_serveAll (S0 := S) h6 eL hwn L 0 sp S (by omega) hr hh (fun _ _ _ _ _ => rfl) (fun S' a1 a2 a3 => h S' (fun i hi => by have := a2 i hi; rw [Nat.zero_add] at this; exact this) a3)
  · exact h.elim
