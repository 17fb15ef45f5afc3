/-! the fewest shoes: the model seeks -/
theorem gv_congr {g g' : Nat → Int} {v : Int} {L : Nat} (h : ∀ i, i < L → g' i = g i) : gvN g' v L = gvN g v L := by
  unfold gvN
  exact suN_congr L (fun i hi => by show (if g' i = v then 1 else 0) = (if g i = v then 1 else 0); rw [h i hi])
theorem gv_set {g g' : Nat → Int} {v u : Int} {L l : Nat} (hl : l < L) (h0 : g l = -1) (hv : v ≠ -1) (h1 : g' l = u) (h2 : ∀ i, i < L → i ≠ l → g' i = g i) : gvN g' v L = gvN g v L + if u = v then 1 else 0 := by
  unfold gvN
  by_cases e : u = v
  · rw [if_pos e]
    refine (suN_dn (a := l) L hl (fun i hi hne => ?_) ?_).symm
    · show (if g i = v then 1 else 0) = (if g' i = v then 1 else 0)
      rw [h2 i hi hne]
    · show (if g l = v then 1 else 0) + 1 = (if g' l = v then 1 else 0)
      rw [if_neg (by omega), if_pos (by omega)]
  · rw [if_neg e, Nat.add_zero]
    refine suN_congr L (fun i hi => ?_)
    show (if g' i = v then 1 else 0) = (if g i = v then 1 else 0)
    by_cases q : i = l
    · rw [q, if_neg (by omega), if_neg (by omega)]
    · rw [h2 i hi q]
theorem vl_lt {k j : Nat} : vlN k < vlN j ↔ k < j := by unfold vlN; omega
theorem vl_eq {k j : Nat} : (vlN k : Int) = (vlN j : Int) ↔ k = j := by unfold vlN; omega
theorem vc_iff {D : zD} (hD : dOK D) {a b l w s : Nat} {g : Nat → Int} {sp : Nat → Nat} (hny : nyB D a b l = true) (hs : s = 1 ∨ s = 2) (hsp : sp (2 * w + s - 1) = s2D D a b (2 * w + s - 1) - gvN g (vlN (2 * w + s - 1) : Int) (dL D)) : vcQ D a b g l w s ↔ cnP (wnD D a b) (dL D) sp l (2 * w + s - 1) := by
  have e1 : vlN (2 * w + s - 1) = 10 * w + s := by unfold vlN; omega
  have e2 : s2D D a b (2 * w + s - 1) = spN D a b w s := by
    unfold s2D
    rw [show (2 * w + s - 1) / 2 = w by omega, show (2 * w + s - 1) % 2 + 1 = s by omega]
  have e3 : (wnD D a b l).toNat = hpD D a b l := by unfold wnD; rw [hny]; exact Int.toNat_natCast _
  rw [e1, e2] at hsp
  unfold vcQ cnP
  rw [hsp, e3, show (2 * w + s - 1) % 2 + 1 = s by omega, hp_iff hD hs]
  have f := sp_free (a := a) (b := b) (w := w) hD hs (gvN g ((10 * w + s : Nat) : Int) (dL D))
  constructor
  · rintro ⟨_, _, q1, q2, q3, q4⟩
    have := f.mp ⟨q2, q3⟩
    exact ⟨⟨q1, q4⟩, by omega⟩
  · rintro ⟨⟨q1, q4⟩, q5⟩
    obtain ⟨q2, q3⟩ := f.mpr (by omega)
    exact ⟨hs, fun z => by rw [z] at q3; omega, q1, q2, q3, q4⟩
theorem pkS_first {wn : Nat → Int} {L : Nat} {sp : Nat → Nat} {l k : Nat} (hk : pkB wn L sp l k = true) (hn : ∀ i, i < k → pkB wn L sp l i = false) : ∀ f j, j ≤ k → k < j + f → pkS wn L sp l f j = some k := by
  intro f
  induction f with
  | zero => intro j h1 h2; omega
  | succ f ih =>
    intro j h1 h2
    show (bif pkB wn L sp l j then some j else pkS wn L sp l f (j + 1)) = some k
    by_cases e : j = k
    · rw [e, hk]; rfl
    · rw [hn j (by omega)]
      exact ih (j + 1) (by omega) (by omega)
def frG (S S0 : zS) : Prop := ∀ c, c ≠ 94 → S c = S0 c
theorem mOK.fg {S S0 : zS} {D : zD} (h : mOK S0 D) (hf : frG S S0) : mOK S D := h.fr (fun j _ _ => by rw [hf 62 (by omega)]) (fun c hc => hf c (by omega))
theorem frG.u {S S0 : zS} {j : Nat} {v : Int} (h : frG S S0) : frG (zu S 94 j v) S0 := fun c hc => (zu_c hc).trans (h c hc)
theorem abM.fg {S S0 : zS} {a b : Nat} (h : abM S0 a b) (hf : frG S S0) : abM S a b := by unfold abM; rw [hf 62 (by omega)]; exact h
def B_X12_fewest : List (Nat × zC) := [(27, (0, 0, 2, 0, 0, 0, 12)), (64, (0, 1, 2, 2, 0, 0, 12)), (161, (0, 2, 2, 3, 0, 0, 12)), (234, (0, 3, 2, 0, 0, 0, 12)), (238, (1, 4, 1, 0, 0, 0, 0))]
def O_X12_fewest : zO := fun j a S K => match j with
  | 0 => wp_X12_right a S K
  | 1 => wp_X12_isNeedy a S K
  | 2 => wp_X12_lendable a S K
  | 3 => wp_X12_copies a S K
  | 4 => wp_X12_bits a S K
  | _ => False
theorem E_X12_fewest (l : Launch) : ∀ q ∈ B_X12_fewest, zcok l O_X12_fewest F_X12_fewest q.1 q.2 := List.forall_mem_cons.mpr ⟨⟨241, yX12_right, cX12_right, 3, some .boolean, by decide +kernel, C_12_241, W_X12_right, I_X12_right, S_X12_right, rfl, rfl, R_X12_right l⟩, List.forall_mem_cons.mpr ⟨⟨401, yX12_isNeedy, cX12_isNeedy, 5, some .boolean, by decide +kernel, C_12_401, W_X12_isNeedy, I_X12_isNeedy, S_X12_isNeedy, rfl, rfl, R_X12_isNeedy l⟩, List.forall_mem_cons.mpr ⟨⟨404, yX12_lendable, cX12_lendable, 6, some .int, by decide +kernel, C_12_404, W_X12_lendable, I_X12_lendable, S_X12_lendable, rfl, rfl, R_X12_lendable l⟩, List.forall_mem_cons.mpr ⟨⟨260, yX12_copies, cX12_copies, 4, none, by decide +kernel, C_12_260, W_X12_copies, I_X12_copies, S_X12_copies, rfl, rfl, R_X12_copies l⟩, List.forall_mem_cons.mpr ⟨⟨308, yX12_bits, cX12_bits, 3, some .int, by decide +kernel, C_12_308, W_X12_bits, I_X12_bits, rfl, R_X12_bits l⟩, fun _ h => by cases h⟩⟩⟩⟩⟩
def U_X12_fewest : List (Nat × zE) := [(0, Sum.inl (4, 0, 0, 0, 1, [])), (1, Sum.inl (0, 0, 0, 0, 2, [])), (2, Sum.inl (19, 12, 0, 0, 5, [])), (5, Sum.inl (4, 0, 0, 0, 6, [])), (6, Sum.inl (2, 1, 0, 0, 7, [])), (7, Sum.inl (17, 1, 25, 0, 10, [])), (10, Sum.inl (2, 2, 0, 0, 11, [])), (11, Sum.inl (0, 0, 0, 23, 13, [])), (13, Sum.inl (16, 2, 25, 0, 16, [])), (16, Sum.inl (2, 1, 0, 0, 17, [])), (17, Sum.inl (2, 2, 0, 0, 18, [])), (18, Sum.inl (16, 2, 25, 0, 21, [])), (21, Sum.inl (0, 0, 0, 1, 22, [])), (22, Sum.inl (15, 0, 0, 0, 26, [])), (25, Sum.inl (0, 0, 0, 0, 26, [])), (26, Sum.inl (0, 0, 0, 1, 27, [])), (27, Sum.inr (0, 0, 2, 0, 0, 0, 12)), (30, Sum.inl (17, 0, 33, 0, 35, [])), (33, Sum.inl (0, 0, 0, 0, 34, [])), (34, Sum.inl (27, 0, 0, 0, 35, [])), (35, Sum.inl (4, 0, 0, 0, 36, [])), (36, Sum.inl (2, 1, 0, 0, 37, [])), (37, Sum.inl (19, 12, 59, 0, 40, [])), (40, Sum.inl (4, 0, 0, 0, 41, [])), (41, Sum.inl (2, 2, 0, 0, 42, [])), (42, Sum.inl (19, 12, 60, 0, 45, [])), (45, Sum.inl (0, 0, 0, 0, 46, [])), (46, Sum.inl (5, 3, 0, 0, 47, [])), (47, Sum.inl (0, 0, 0, 0, 48, [])), (48, Sum.inl (5, 4, 0, 0, 50, [])), (50, Sum.inl (2, 4, 0, 0, 52, [])), (52, Sum.inl (4, 0, 0, 0, 53, [])), (53, Sum.inl (18, 12, 2, 0, 56, [])), (56, Sum.inl (16, 1, 59, 0, 94, [])), (59, Sum.inl (2, 3, 0, 0, 60, [])), (60, Sum.inl (4, 0, 0, 0, 61, [])), (61, Sum.inl (2, 4, 0, 0, 63, [])), (63, Sum.inl (0, 0, 0, 0, 64, [])), (64, Sum.inr (0, 1, 2, 2, 0, 0, 12)), (67, Sum.inl (17, 0, 77, 0, 70, [])), (70, Sum.inl (0, 0, 0, 1, 71, [])), (71, Sum.inl (2, 4, 0, 0, 73, [])), (73, Sum.inl (9, 6, 0, 0, 74, [])), (74, Sum.inl (15, 0, 0, 0, 78, [])), (77, Sum.inl (0, 0, 0, 0, 78, [])), (78, Sum.inl (9, 4, 0, 0, 79, [])), (79, Sum.inl (5, 3, 0, 0, 80, [])), (80, Sum.inl (4, 0, 0, 0, 81, [])), (81, Sum.inl (18, 12, 57, 0, 84, [])), (84, Sum.inl (2, 4, 0, 0, 86, [])), (86, Sum.inl (0, 0, 0, (-1), 87, [])), (87, Sum.inl (21, 0, 0, 0, 88, [])), (88, Sum.inl (8, 4, 0, 1, 91, [])), (91, Sum.inl (15, 0, 0, 0, 50, [])), (94, Sum.inl (0, 0, 0, 0, 95, [])), (95, Sum.inl (5, 4, 0, 0, 97, [])), (97, Sum.inl (2, 4, 0, 0, 99, [])), (99, Sum.inl (17, 1, 213, 0, 102, [])), (102, Sum.inl (2, 4, 0, 0, 104, [])), (104, Sum.inl (4, 0, 0, 0, 105, [])), (105, Sum.inl (18, 12, 2, 0, 108, [])), (108, Sum.inl (16, 1, 111, 0, 213, [])), (111, Sum.inl (2, 3, 0, 0, 112, [])), (112, Sum.inl (2, 4, 0, 0, 114, [])), (114, Sum.inl (9, 7, 0, 0, 115, [])), (115, Sum.inl (0, 0, 0, 1, 116, [])), (116, Sum.inl (9, 3, 0, 0, 117, [])), (117, Sum.inl (0, 0, 0, 1, 118, [])), (118, Sum.inl (16, 0, 121, 0, 125, [])), (121, Sum.inl (0, 0, 0, 1, 122, [])), (122, Sum.inl (15, 0, 0, 0, 126, [])), (125, Sum.inl (0, 0, 0, 0, 126, [])), (126, Sum.inl (5, 5, 0, 0, 128, [])), (128, Sum.inl (2, 5, 0, 0, 130, [])), (130, Sum.inl (17, 0, 165, 0, 133, [])), (133, Sum.inl (4, 0, 0, 0, 134, [])), (134, Sum.inl (18, 12, 57, 0, 137, [])), (137, Sum.inl (2, 4, 0, 0, 139, [])), (139, Sum.inl (20, 0, 0, 0, 140, [])), (140, Sum.inl (5, 6, 0, 0, 142, [])), (142, Sum.inl (4, 0, 0, 0, 143, [])), (143, Sum.inl (18, 12, 57, 0, 146, [])), (146, Sum.inl (2, 4, 0, 0, 148, [])), (148, Sum.inl (0, 0, 0, (-1), 149, [])), (149, Sum.inl (21, 0, 0, 0, 150, [])), (150, Sum.inl (4, 0, 0, 0, 151, [])), (151, Sum.inl (18, 12, 57, 0, 154, [])), (154, Sum.inl (2, 4, 0, 0, 156, [])), (156, Sum.inl (4, 0, 0, 0, 157, [])), (157, Sum.inl (2, 4, 0, 0, 159, [])), (159, Sum.inl (2, 6, 0, 0, 161, [])), (161, Sum.inr (0, 2, 2, 3, 0, 0, 12)), (164, Sum.inl (21, 0, 0, 0, 165, [])), (165, Sum.inl (2, 5, 0, 0, 167, [])), (167, Sum.inl (17, 0, 181, 0, 170, [])), (170, Sum.inl (4, 0, 0, 0, 171, [])), (171, Sum.inl (18, 12, 57, 0, 174, [])), (174, Sum.inl (2, 4, 0, 0, 176, [])), (176, Sum.inl (20, 0, 0, 0, 177, [])), (177, Sum.inl (0, 0, 0, (-1), 178, [])), (178, Sum.inl (16, 0, 187, 0, 181, [])), (181, Sum.inl (8, 4, 0, 1, 184, [])), (184, Sum.inl (15, 0, 0, 0, 97, [])), (187, Sum.inl (8, 4, 0, (-1), 190, [])), (190, Sum.inl (2, 4, 0, 0, 192, [])), (192, Sum.inl (17, 1, 210, 0, 195, [])), (195, Sum.inl (2, 3, 0, 0, 196, [])), (196, Sum.inl (2, 4, 0, 0, 198, [])), (198, Sum.inl (9, 7, 0, 0, 199, [])), (199, Sum.inl (0, 0, 0, 1, 200, [])), (200, Sum.inl (9, 3, 0, 0, 201, [])), (201, Sum.inl (17, 0, 204, 0, 210, [])), (204, Sum.inl (8, 4, 0, (-1), 207, [])), (207, Sum.inl (15, 0, 0, 0, 190, [])), (210, Sum.inl (15, 0, 0, 0, 97, [])), (213, Sum.inl (2, 4, 0, 0, 215, [])), (215, Sum.inl (17, 1, 218, 0, 220, [])), (218, Sum.inl (0, 0, 0, (-1), 219, [])), (219, Sum.inl (27, 0, 0, 0, 220, [])), (220, Sum.inl (4, 0, 0, 0, 221, [])), (221, Sum.inl (0, 0, 0, 1, 222, [])), (222, Sum.inl (19, 12, 56, 0, 225, [])), (225, Sum.inl (4, 0, 0, 0, 226, [])), (226, Sum.inl (4, 0, 0, 0, 227, [])), (227, Sum.inl (18, 12, 57, 0, 230, [])), (230, Sum.inl (4, 0, 0, 0, 231, [])), (231, Sum.inl (18, 12, 58, 0, 234, [])), (234, Sum.inr (0, 3, 2, 0, 0, 0, 12)), (237, Sum.inl (2, 3, 0, 0, 238, [])), (238, Sum.inr (1, 4, 1, 0, 0, 0, 0)), (241, Sum.inl (27, 0, 0, 0, 242, []))]
set_option maxRecDepth 20000 in
theorem Z_X12_fewest (l : Launch) : ∀ q ∈ U_X12_fewest, zTok l O_X12_fewest F_X12_fewest q := zU_ok rfl rfl rfl K_X12_fewest (E_X12_fewest l)
abbrev zFw (lc : Launch) (Q : zR2 → zS → Prop) (x y : Int) (m : Nat) (S : zS) (pc : Nat) (z : Int) : Prop := zGs lc 4 0 0 F_X12_fewest S pc [(0, .inr (.inl 62)), (1, .inl x), (2, .inl y), (3, .inl (m : Int)), (4, .inl z)] [] Q
def spR (D : zD) (a b : Nat) (S : zS) (sp : Nat → Nat) : Prop := ∀ k, k < 2 * dL D → sp k = s2D D a b k - gvN (S 94) (vlN k : Int) (dL D)
section
variable {lc : Launch} {S0 : zS} {Q : zR2 → zS → Prop} {D : zD} {a b m : Nat} {x y : Int}
/-- one who wants nothing is passed -/
theorem fw_pass (hD : dOK D) (hM : mOK S0 D) (hm : m < 64) {l : Nat} {S : zS} (hf : frG S S0) (hl : l < dL D) (hb : bt1 m l = 0) (k : zFw lc Q x y m S 97 ((l + 1 : Nat) : Int)) : zFw lc Q x y m S 97 (l : Int) := by
  have h6 := hD.lodgers
  have eL := (hM.fg hf).lodgers
  have zb : zand (zshr (m : Int) (l : Int)) 1 = ((bt1 m l : Nat) : Int) := zbit_n (by omega) (by omega)
  rw [hb] at zb
  refine zwq_ok (Z_X12_fewest lc) rfl [97, 190] (fun _ _ _ _ _ _ h => h) 400 (Z_X12_fewest lc) ?_
  refine ⟨fun c => by omega, fun c => ⟨fun c2 => ⟨fun c3 => by rw [zb] at c3; omega, fun c3 => ⟨fun _ => ⟨fun _ => ⟨by omega, ?_⟩, fun c4 => absurd rfl c4⟩, fun c4 => absurd rfl c4⟩⟩, fun c2 => by omega⟩⟩
  exact zGs.sub (lo := [(0, _), (1, _), (2, _), (3, _), (4, _), (5, _)]) k (fun q hq => by simp only [List.mem_cons, List.not_mem_nil, or_false] at hq; rcases hq with rfl | rfl | rfl | rfl | rfl <;> first | exact .head _ | exact .tail _ (.head _) | exact .tail _ (.tail _ (.head _)) | exact .tail _ (.tail _ (.tail _ (.head _))) | exact .tail _ (.tail _ (.tail _ (.tail _ (.head _)))) | exact .tail _ (.tail _ (.tail _ (.tail _ (.tail _ (.head _))))) | exact .tail _ (.tail _ (.tail _ (.tail _ (.tail _ (.tail _ (.head _)))))) | exact .tail _ (.tail _ (.tail _ (.tail _ (.tail _ (.tail _ (.tail _ (.head _))))))) | exact .tail _ (.tail _ (.tail _ (.tail _ (.tail _ (.tail _ (.tail _ (.tail _ (.head _)))))))) | exact .tail _ (.tail _ (.tail _ (.tail _ (.tail _ (.tail _ (.tail _ (.tail _ (.tail _ (.head _))))))))) | exact .tail _ (.tail _ (.tail _ (.tail _ (.tail _ (.tail _ (.tail _ (.tail _ (.tail _ (.tail _ (.head _)))))))))) | exact .tail _ (.tail _ (.tail _ (.tail _ (.tail _ (.tail _ (.tail _ (.tail _ (.tail _ (.tail _ (.tail _ (.head _))))))))))) | exact .tail _ (.tail _ (.tail _ (.tail _ (.tail _ (.tail _ (.tail _ (.tail _ (.tail _ (.tail _ (.tail _ (.tail _ (.head _)))))))))))) | exact .tail _ (.tail _ (.tail _ (.tail _ (.tail _ (.tail _ (.tail _ (.tail _ (.tail _ (.tail _ (.tail _ (.tail _ (.tail _ (.head _))))))))))))))
theorem fw_back0 (hD : dOK D) (hm : m < 64) {l : Nat} {S : zS} (hl : l < dL D) (hb : bt1 m l = 0) (k : zFw lc Q x y m S 190 ((l : Int) + -1)) : zFw lc Q x y m S 190 (l : Int) := by
  have h6 := hD.lodgers
  have zb : zand (zshr (m : Int) (l : Int)) 1 = ((bt1 m l : Nat) : Int) := zbit_n (by omega) (by omega)
  rw [hb] at zb
  refine zwq_ok (Z_X12_fewest lc) rfl [97, 190] (fun _ _ _ _ _ _ h => h) 400 (Z_X12_fewest lc) ?_
  exact ⟨fun c => by omega, fun c => ⟨fun c2 => ⟨by omega, k⟩, fun c2 => by rw [zb] at c2; exact absurd rfl c2⟩⟩
theorem fw_back1 (hD : dOK D) (hm : m < 64) {l : Nat} {S : zS} (hl : l < dL D) (hb : bt1 m l = 1) (k : zFw lc Q x y m S 97 (l : Int)) : zFw lc Q x y m S 190 (l : Int) := by
  have h6 := hD.lodgers
  have zb : zand (zshr (m : Int) (l : Int)) 1 = ((bt1 m l : Nat) : Int) := zbit_n (by omega) (by omega)
  rw [hb] at zb
  refine zwq_ok (Z_X12_fewest lc) rfl [97, 190] (fun _ _ _ _ _ _ h => h) 400 (Z_X12_fewest lc) ?_
  exact ⟨fun c => by omega, fun c => ⟨fun c2 => by rw [zb] at c2; exact absurd c2 (by decide), fun c2 => k⟩⟩
/-- one who wants a shoe takes the next -/
theorem fw_try (hD : dOK D) (hM : mOK S0 D) (hab : abM S0 a b) (hm : m < 64) {l v0 : Nat} {S : zS} (hf : frG S S0) (hl : l < dL D) (hb : bt1 m l = 1) (hv : v0 ≤ 10 * dL D) (hg : S 94 l = (v0 : Int) - 1) (k0 : lnR D a b (zu S 94 l (-1) 94) l v0 (-1) → zFw lc Q x y m (zu (zu S 94 l (-1)) 94 l (-1)) 190 ((l : Int) + -1)) (k1 : ∀ v : Nat, lnR D a b (zu S 94 l (-1) 94) l v0 (v : Int) → zFw lc Q x y m (zu (zu S 94 l (-1)) 94 l (v : Int)) 97 ((l + 1 : Nat) : Int)) : zFw lc Q x y m S 97 (l : Int) := by
  have h6 := hD.lodgers
  have eL := (hM.fg hf).lodgers
  have zb : zand (zshr (m : Int) (l : Int)) 1 = ((bt1 m l : Nat) : Int) := zbit_n (by omega) (by omega)
  rw [hb] at zb
  refine zwq_ok (Z_X12_fewest lc) rfl [97, 165, 190] (fun _ _ _ _ _ _ h => h) 400 (Z_X12_fewest lc) ?_
  refine ⟨fun c => by omega, fun c => ⟨fun c2 => ⟨fun c3 => ⟨fun c4 => absurd c4 (by decide), fun _ => ⟨l, ⟨rfl, by omega⟩, l, ⟨rfl, by omega⟩, D, a, b, l, v0, zu S 94 l (-1) 94, ⟨rfl, hD, hM.fg hf.u, hab.fg hf.u, fun _ _ => rfl, rfl, hl, hg, hv⟩, fun r hr => ⟨l, ⟨rfl, by omega⟩, ?_⟩⟩⟩, fun c3 => absurd zb c3⟩, fun c2 => by omega⟩⟩
  have hr2 := hr
  rcases hr2 with ⟨rfl, _⟩ | ⟨v, _, _, rfl, _⟩
  · refine zwq_ok (Z_X12_fewest lc) rfl [97, 165, 190] (fun _ _ _ _ _ _ h => h) 400 (Z_X12_fewest lc) ?_
    refine ⟨fun c4 => absurd c4 (by decide), fun _ => ⟨l, ⟨rfl, by omega⟩, fun c5 => ⟨by omega, ?_⟩, fun c5 => absurd zuE c5⟩⟩
    exact zGs.sub (lo := [(0, _), (1, _), (2, _), (3, _), (4, _), (5, _), (6, _)]) (k0 hr) (fun q hq => by simp only [List.mem_cons, List.not_mem_nil, or_false] at hq; rcases hq with rfl | rfl | rfl | rfl | rfl <;> first | exact .head _ | exact .tail _ (.head _) | exact .tail _ (.tail _ (.head _)) | exact .tail _ (.tail _ (.tail _ (.head _))) | exact .tail _ (.tail _ (.tail _ (.tail _ (.head _)))) | exact .tail _ (.tail _ (.tail _ (.tail _ (.tail _ (.head _))))) | exact .tail _ (.tail _ (.tail _ (.tail _ (.tail _ (.tail _ (.head _)))))) | exact .tail _ (.tail _ (.tail _ (.tail _ (.tail _ (.tail _ (.tail _ (.head _))))))) | exact .tail _ (.tail _ (.tail _ (.tail _ (.tail _ (.tail _ (.tail _ (.tail _ (.head _)))))))) | exact .tail _ (.tail _ (.tail _ (.tail _ (.tail _ (.tail _ (.tail _ (.tail _ (.tail _ (.head _))))))))) | exact .tail _ (.tail _ (.tail _ (.tail _ (.tail _ (.tail _ (.tail _ (.tail _ (.tail _ (.tail _ (.head _)))))))))) | exact .tail _ (.tail _ (.tail _ (.tail _ (.tail _ (.tail _ (.tail _ (.tail _ (.tail _ (.tail _ (.tail _ (.head _))))))))))) | exact .tail _ (.tail _ (.tail _ (.tail _ (.tail _ (.tail _ (.tail _ (.tail _ (.tail _ (.tail _ (.tail _ (.tail _ (.head _)))))))))))) | exact .tail _ (.tail _ (.tail _ (.tail _ (.tail _ (.tail _ (.tail _ (.tail _ (.tail _ (.tail _ (.tail _ (.tail _ (.tail _ (.head _))))))))))))))
  · refine zwq_ok (Z_X12_fewest lc) rfl [97, 165, 190] (fun _ _ _ _ _ _ h => h) 400 (Z_X12_fewest lc) ?_
    refine ⟨fun c4 => absurd c4 (by decide), fun _ => ⟨l, ⟨rfl, by omega⟩, fun c5 => by rw [zuE] at c5; omega, fun c5 => ⟨by omega, ?_⟩⟩⟩
    exact zGs.sub (lo := [(0, _), (1, _), (2, _), (3, _), (4, _), (5, _), (6, _)]) (k1 v hr) (fun q hq => by simp only [List.mem_cons, List.not_mem_nil, or_false] at hq; rcases hq with rfl | rfl | rfl | rfl | rfl <;> first | exact .head _ | exact .tail _ (.head _) | exact .tail _ (.tail _ (.head _)) | exact .tail _ (.tail _ (.tail _ (.head _))) | exact .tail _ (.tail _ (.tail _ (.tail _ (.head _)))) | exact .tail _ (.tail _ (.tail _ (.tail _ (.tail _ (.head _))))) | exact .tail _ (.tail _ (.tail _ (.tail _ (.tail _ (.tail _ (.head _)))))) | exact .tail _ (.tail _ (.tail _ (.tail _ (.tail _ (.tail _ (.tail _ (.head _))))))) | exact .tail _ (.tail _ (.tail _ (.tail _ (.tail _ (.tail _ (.tail _ (.tail _ (.head _)))))))) | exact .tail _ (.tail _ (.tail _ (.tail _ (.tail _ (.tail _ (.tail _ (.tail _ (.tail _ (.head _))))))))) | exact .tail _ (.tail _ (.tail _ (.tail _ (.tail _ (.tail _ (.tail _ (.tail _ (.tail _ (.tail _ (.head _)))))))))) | exact .tail _ (.tail _ (.tail _ (.tail _ (.tail _ (.tail _ (.tail _ (.tail _ (.tail _ (.tail _ (.tail _ (.head _))))))))))) | exact .tail _ (.tail _ (.tail _ (.tail _ (.tail _ (.tail _ (.tail _ (.tail _ (.tail _ (.tail _ (.tail _ (.tail _ (.head _)))))))))))) | exact .tail _ (.tail _ (.tail _ (.tail _ (.tail _ (.tail _ (.tail _ (.tail _ (.tail _ (.tail _ (.tail _ (.tail _ (.tail _ (.head _))))))))))))))
end
