/-! count -/
def B_X11_count : List (Nat × zC) := [(237, (9, 1, 0, 174, 176, 178, 0))]
def O_X11_count : zO := fun j a S K => match j with
  | _ => False
theorem E_X11_count (l : Launch) : ∀ q ∈ B_X11_count, zcok l O_X11_count F_X11_count q.1 q.2 := List.forall_mem_cons.mpr ⟨⟨rfl, rfl, z_at 799 (by decide +kernel) (by decide +kernel), ⟨15, _, rfl, rfl, rfl⟩, by decide +kernel, by decide +kernel, Or.inl ⟨rfl, by decide +kernel, by decide +kernel, by decide +kernel⟩, Or.inr ⟨rfl, rfl⟩⟩, fun _ h => by cases h⟩
def U_X11_count : List (Nat × zE) := [(0, Sum.inl (2, 1, 0, 0, 1, [])), (1, Sum.inl (32, 0, 237, 0, 0, [112, 120, 128, 136, 144, 152, 160, 168, 176, 183, 190, 237, 237, 237, 237, 237, 237, 237, 237, 237, 197, 207, 217, 227])), (112, Sum.inl (4, 0, 0, 0, 113, [])), (113, Sum.inl (18, 11, 1, 0, 116, [])), (116, Sum.inl (18, 6, 7, 0, 119, [])), (119, Sum.inl (27, 0, 0, 0, 120, [])), (120, Sum.inl (4, 0, 0, 0, 121, [])), (121, Sum.inl (18, 11, 1, 0, 124, [])), (124, Sum.inl (18, 6, 8, 0, 127, [])), (127, Sum.inl (27, 0, 0, 0, 128, [])), (128, Sum.inl (4, 0, 0, 0, 129, [])), (129, Sum.inl (18, 11, 1, 0, 132, [])), (132, Sum.inl (18, 6, 9, 0, 135, [])), (135, Sum.inl (27, 0, 0, 0, 136, [])), (136, Sum.inl (4, 0, 0, 0, 137, [])), (137, Sum.inl (18, 11, 1, 0, 140, [])), (140, Sum.inl (18, 6, 10, 0, 143, [])), (143, Sum.inl (27, 0, 0, 0, 144, [])), (144, Sum.inl (4, 0, 0, 0, 145, [])), (145, Sum.inl (18, 11, 4, 0, 148, [])), (148, Sum.inl (18, 0, 7, 0, 151, [])), (151, Sum.inl (27, 0, 0, 0, 152, [])), (152, Sum.inl (4, 0, 0, 0, 153, [])), (153, Sum.inl (18, 11, 4, 0, 156, [])), (156, Sum.inl (18, 0, 8, 0, 159, [])), (159, Sum.inl (27, 0, 0, 0, 160, [])), (160, Sum.inl (4, 0, 0, 0, 161, [])), (161, Sum.inl (18, 11, 4, 0, 164, [])), (164, Sum.inl (18, 0, 9, 0, 167, [])), (167, Sum.inl (27, 0, 0, 0, 168, [])), (168, Sum.inl (4, 0, 0, 0, 169, [])), (169, Sum.inl (18, 11, 0, 0, 172, [])), (172, Sum.inl (18, 9, 1, 0, 175, [])), (175, Sum.inl (27, 0, 0, 0, 176, [])), (176, Sum.inl (4, 0, 0, 0, 177, [])), (177, Sum.inl (18, 11, 13, 0, 180, [])), (180, Sum.inl (0, 0, 0, 0, 181, [])), (181, Sum.inl (20, 0, 0, 0, 182, [])), (182, Sum.inl (27, 0, 0, 0, 183, [])), (183, Sum.inl (4, 0, 0, 0, 184, [])), (184, Sum.inl (18, 11, 13, 0, 187, [])), (187, Sum.inl (0, 0, 0, 1, 188, [])), (188, Sum.inl (20, 0, 0, 0, 189, [])), (189, Sum.inl (27, 0, 0, 0, 190, [])), (190, Sum.inl (4, 0, 0, 0, 191, [])), (191, Sum.inl (18, 11, 13, 0, 194, [])), (194, Sum.inl (0, 0, 0, 2, 195, [])), (195, Sum.inl (20, 0, 0, 0, 196, [])), (196, Sum.inl (27, 0, 0, 0, 197, [])), (197, Sum.inl (4, 0, 0, 0, 198, [])), (198, Sum.inl (18, 11, 1, 0, 201, [])), (201, Sum.inl (18, 6, 6, 0, 204, [])), (204, Sum.inl (0, 0, 0, 0, 205, [])), (205, Sum.inl (20, 0, 0, 0, 206, [])), (206, Sum.inl (27, 0, 0, 0, 207, [])), (207, Sum.inl (4, 0, 0, 0, 208, [])), (208, Sum.inl (18, 11, 1, 0, 211, [])), (211, Sum.inl (18, 6, 6, 0, 214, [])), (214, Sum.inl (0, 0, 0, 1, 215, [])), (215, Sum.inl (20, 0, 0, 0, 216, [])), (216, Sum.inl (27, 0, 0, 0, 217, [])), (217, Sum.inl (4, 0, 0, 0, 218, [])), (218, Sum.inl (18, 11, 1, 0, 221, [])), (221, Sum.inl (18, 6, 6, 0, 224, [])), (224, Sum.inl (0, 0, 0, 2, 225, [])), (225, Sum.inl (20, 0, 0, 0, 226, [])), (226, Sum.inl (27, 0, 0, 0, 227, [])), (227, Sum.inl (4, 0, 0, 0, 228, [])), (228, Sum.inl (18, 11, 1, 0, 231, [])), (231, Sum.inl (18, 6, 6, 0, 234, [])), (234, Sum.inl (0, 0, 0, 3, 235, [])), (235, Sum.inl (20, 0, 0, 0, 236, [])), (236, Sum.inl (27, 0, 0, 0, 237, [])), (237, Sum.inr (9, 1, 0, 174, 176, 178, 0)), (240, Sum.inl (12, 0, 0, 0, 241, []))]
theorem Z_X11_count (l : Launch) : ∀ q ∈ U_X11_count, zTok l O_X11_count F_X11_count q := zU_ok rfl rfl rfl K_X11_count (E_X11_count l)
def wp_X11_count (a : List zV) (S : zS) (K : zR2 → zS → Prop) : Prop := zif (Nat.ble (zsum a) 2) (zwq 6 F_X11_count U_X11_count O_X11_count [] (fun _ _ _ _ _ _ => False) K 79 U_X11_count 1 6 S 0 (zar 0 a) [])
theorem R_X11_count (l : Launch) (a : List zV) (S : zS) (Q : zR2 → zS → Prop) (h : wp_X11_count a S Q) : zRs l 6 1 6 yX11_count (.code yX11_count cX11_count 2 (some .int)) a S Q := by
  obtain ⟨h1, h⟩ := zif_ok h
  exact zRs_of 11 (by decide) rfl h1 (zwq_ok (Z_X11_count l) rfl [] (fun _ _ _ _ _ _ h => h.elim) 79 (Z_X11_count l) h)
def B_X12_count : List (Nat × zC) := [(10, (1, 0, 3, 0, 0, 0, 0)), (21, (1, 0, 3, 0, 0, 0, 0)), (33, (0, 1, 2, 0, 0, 0, 12))]
def O_X12_count : zO := fun j a S K => match j with
  | 0 => wp_X12_within a S K
  | 1 => wp_X12_right a S K
  | _ => False
theorem E_X12_count (l : Launch) : ∀ q ∈ B_X12_count, zcok l O_X12_count F_X12_count q.1 q.2 := List.forall_mem_cons.mpr ⟨⟨283, yX12_within, cX12_within, 3, some .boolean, by decide +kernel, C_12_283, W_X12_within, I_X12_within, rfl, R_X12_within l⟩, List.forall_mem_cons.mpr ⟨⟨283, yX12_within, cX12_within, 3, some .boolean, by decide +kernel, C_12_283, W_X12_within, I_X12_within, rfl, R_X12_within l⟩, List.forall_mem_cons.mpr ⟨⟨241, yX12_right, cX12_right, 3, some .boolean, by decide +kernel, C_12_241, W_X12_right, I_X12_right, S_X12_right, rfl, rfl, R_X12_right l⟩, fun _ h => by cases h⟩⟩⟩
def U_X12_count : List (Nat × zE) := [(0, Sum.inl (4, 0, 0, 0, 1, [])), (1, Sum.inl (0, 0, 0, 0, 2, [])), (2, Sum.inl (19, 12, 0, 0, 5, [])), (5, Sum.inl (4, 0, 0, 0, 6, [])), (6, Sum.inl (2, 1, 0, 0, 7, [])), (7, Sum.inl (0, 0, 0, 0, 8, [])), (8, Sum.inl (0, 0, 0, 10, 10, [])), (10, Sum.inr (1, 0, 3, 0, 0, 0, 0)), (13, Sum.inl (17, 0, 16, 0, 27, [])), (16, Sum.inl (2, 1, 0, 0, 17, [])), (17, Sum.inl (0, 0, 0, 20, 19, [])), (19, Sum.inl (0, 0, 0, 23, 21, [])), (21, Sum.inr (1, 0, 3, 0, 0, 0, 0)), (24, Sum.inl (17, 0, 31, 0, 27, [])), (27, Sum.inl (0, 0, 0, 1, 28, [])), (28, Sum.inl (15, 0, 0, 0, 32, [])), (31, Sum.inl (0, 0, 0, 0, 32, [])), (32, Sum.inl (0, 0, 0, 1, 33, [])), (33, Sum.inr (0, 1, 2, 0, 0, 0, 12)), (36, Sum.inl (17, 0, 39, 0, 41, [])), (39, Sum.inl (0, 0, 0, 0, 40, [])), (40, Sum.inl (27, 0, 0, 0, 41, [])), (41, Sum.inl (2, 1, 0, 0, 42, [])), (42, Sum.inl (32, 0, 128, 0, 0, [88, 93, 98, 103, 108, 113, 118, 123])), (88, Sum.inl (4, 0, 0, 0, 89, [])), (89, Sum.inl (18, 12, 1, 0, 92, [])), (92, Sum.inl (27, 0, 0, 0, 93, [])), (93, Sum.inl (4, 0, 0, 0, 94, [])), (94, Sum.inl (18, 12, 2, 0, 97, [])), (97, Sum.inl (27, 0, 0, 0, 98, [])), (98, Sum.inl (4, 0, 0, 0, 99, [])), (99, Sum.inl (18, 12, 3, 0, 102, [])), (102, Sum.inl (27, 0, 0, 0, 103, [])), (103, Sum.inl (4, 0, 0, 0, 104, [])), (104, Sum.inl (18, 12, 4, 0, 107, [])), (107, Sum.inl (27, 0, 0, 0, 108, [])), (108, Sum.inl (4, 0, 0, 0, 109, [])), (109, Sum.inl (18, 12, 36, 0, 112, [])), (112, Sum.inl (27, 0, 0, 0, 113, [])), (113, Sum.inl (4, 0, 0, 0, 114, [])), (114, Sum.inl (18, 12, 40, 0, 117, [])), (117, Sum.inl (27, 0, 0, 0, 118, [])), (118, Sum.inl (4, 0, 0, 0, 119, [])), (119, Sum.inl (18, 12, 41, 0, 122, [])), (122, Sum.inl (27, 0, 0, 0, 123, [])), (123, Sum.inl (4, 0, 0, 0, 124, [])), (124, Sum.inl (18, 12, 13, 0, 127, [])), (127, Sum.inl (27, 0, 0, 0, 128, [])), (128, Sum.inl (2, 1, 0, 0, 129, [])), (129, Sum.inl (0, 0, 0, 20, 131, [])), (131, Sum.inl (16, 1, 134, 0, 146, [])), (134, Sum.inl (4, 0, 0, 0, 135, [])), (135, Sum.inl (18, 12, 16, 0, 138, [])), (138, Sum.inl (2, 1, 0, 0, 139, [])), (139, Sum.inl (0, 0, 0, 8, 141, [])), (141, Sum.inl (9, 1, 0, 0, 142, [])), (142, Sum.inl (20, 0, 0, 0, 143, [])), (143, Sum.inl (15, 0, 0, 0, 155, [])), (146, Sum.inl (4, 0, 0, 0, 147, [])), (147, Sum.inl (18, 12, 10, 0, 150, [])), (150, Sum.inl (2, 1, 0, 0, 151, [])), (151, Sum.inl (0, 0, 0, 20, 153, [])), (153, Sum.inl (9, 1, 0, 0, 154, [])), (154, Sum.inl (20, 0, 0, 0, 155, [])), (155, Sum.inl (27, 0, 0, 0, 156, []))]
theorem Z_X12_count (l : Launch) : ∀ q ∈ U_X12_count, zTok l O_X12_count F_X12_count q := zU_ok rfl rfl rfl K_X12_count (E_X12_count l)
def wp_X12_count (a : List zV) (S : zS) (K : zR2 → zS → Prop) : Prop := zif (Nat.ble (zsum a) 2) (zwq 1 F_X12_count U_X12_count O_X12_count [] (fun _ _ _ _ _ _ => False) K 66 U_X12_count 0 0 S 0 (zar 0 a) [])
theorem R_X12_count (l : Launch) (a : List zV) (S : zS) (Q : zR2 → zS → Prop) (h : wp_X12_count a S Q) : zRs l 1 0 0 yX12_count (.code yX12_count cX12_count 2 (some .int)) a S Q := by
  obtain ⟨h1, h⟩ := zif_ok h
  exact zRs_of 12 (by decide) rfl h1 (zwq_ok (Z_X12_count l) rfl [] (fun _ _ _ _ _ _ h => h.elim) 66 (Z_X12_count l) h)
def cntV (D T : zD) : Nat → Int
  | 0 => (dR D : Int)
  | 1 => (dL D : Int)
  | 2 => (dF D : Int)
  | 3 => (dY D : Int)
  | 4 => (dN D : Int)
  | 5 => (dQ D : Int) - 1
  | 6 => (dP D : Int)
  | 7 => (T 0 0 : Int)
  | 8 => (T 3 0 : Int)
  | 9 => (T 3 1 : Int)
  | 10 => (T 3 2 : Int)
  | 20 => (dA D 0 : Int)
  | 21 => (dA D 1 : Int)
  | 22 => (dA D 2 : Int)
  | 23 => (dA D 3 : Int)
  | _ => 0
def countA (D T : zD) (x : Int) : Nat × Int := if (0 ≤ x ∧ x ≤ 10) ∨ (20 ≤ x ∧ x ≤ 23) then (0, cntV D T x.toNat) else (1, 0)
section
variable {S : zS} {D E T : zD} {N : Nat} {K : zR2 → zS → Prop} {x y z u w : Int}
theorem cntK {r : zR2 → Prop} {a b : Nat} (h : r (cr1 (countA D T x))) (hx : x = (a : Int)) (hb : a = b) (h2 : b ≤ 10 ∨ (20 ≤ b ∧ b ≤ 23)) {v : Int} (hv : cntV D T b = v) : r (.inl (some (.inl v))) := by
  subst hx
  subst hb
  unfold countA at h
  rw [if_pos (by omega)] at h
  rw [← hv]
  exact h
theorem c_count (hC : eC S D E T) (h : cRes S D E T (cr1 (countA D T x)) K) : wp_X11_count [.inr (.inl 0), .inl x] S K := by
  have h := cGood hC h
  have bad : ¬ ((0 ≤ x ∧ x ≤ 10) ∨ (20 ≤ x ∧ x ≤ 23)) → K (.inr zNS) S := fun c => by
    unfold countA at h
    rw [if_neg c] at h
    exact h
  have ok : ∀ (a b : Nat) (v w : Int), x = (a : Int) → a = b → (b ≤ 10 ∨ (20 ≤ b ∧ b ≤ 23)) → cntV D T b = v → w = v → K (.inl (some (.inl w))) S := fun a b v w h1 h2 h3 h4 h5 => by
    rw [h5]
    exact cntK (r := fun r => K r S) h h1 h2 h3 h4
  refine ⟨fun c => ?_, fun c => ?_, fun c => ?_, fun c => ?_, fun c => ?_, fun c => ?_, fun c => ?_, fun c => ?_, fun c => ⟨0, ⟨rfl, by omega⟩, ?_⟩, fun c => ⟨1, ⟨rfl, by omega⟩, ?_⟩, fun c => ⟨2, ⟨rfl, by omega⟩, ?_⟩, fun c => bad (by omega), fun c => bad (by omega), fun c => bad (by omega), fun c => bad (by omega), fun c => bad (by omega), fun c => bad (by omega), fun c => bad (by omega), fun c => bad (by omega), fun c => bad (by omega), fun c => ⟨0, ⟨rfl, by omega⟩, ?_⟩, fun c => ⟨1, ⟨rfl, by omega⟩, ?_⟩, fun c => ⟨2, ⟨rfl, by omega⟩, ?_⟩, fun c => ⟨3, ⟨rfl, by omega⟩, ?_⟩, fun c => bad (by omega)⟩
  · exact ok _ 0 _ _ c rfl (by omega) rfl hC.now.rooms
  · exact ok _ 1 _ _ c rfl (by omega) rfl hC.now.lodgers
  · exact ok _ 2 _ _ c rfl (by omega) rfl hC.now.finders
  · exact ok _ 3 _ _ c rfl (by omega) rfl hC.now.mays
  · exact ok _ 4 _ _ c rfl (by omega) rfl hC.now.lent
  · exact ok _ 5 _ _ c rfl (by omega) rfl hC.now.seenHour
  · exact ok _ 6 _ _ c rfl (by omega) rfl hC.now.seenRooms
  · exact ok _ 7 _ _ c rfl (by omega) rfl hC.tape
  · exact ok _ 8 _ _ c rfl (by omega) rfl (hC.refused 0 (by omega))
  · exact ok _ 9 _ _ c rfl (by omega) rfl (hC.refused 1 (by omega))
  · exact ok _ 10 _ _ c rfl (by omega) rfl (hC.refused 2 (by omega))
  · exact ok _ 20 _ _ c rfl (by omega) rfl (hC.now.law 0 (by omega))
  · exact ok _ 21 _ _ c rfl (by omega) rfl (hC.now.law 1 (by omega))
  · exact ok _ 22 _ _ c rfl (by omega) rfl (hC.now.law 2 (by omega))
  · exact ok _ 23 _ _ c rfl (by omega) rfl (hC.now.law 3 (by omega))
theorem m_count (hM : eM S D E T) (h : mRes S D E T (countA D T x) K) : wp_X12_count [.inr (.inl 62), .inl x] S K := by
  unfold countA at h
  have bad : ¬ ((0 ≤ x ∧ x ≤ 10) ∨ (20 ≤ x ∧ x ≤ 23)) → K (.inl (some (.inl 0))) (zu (zu S 62 0 0) 62 0 1) := fun c => by
    rw [if_neg c] at h
    exact mFail1 hM h
  have ok : ∀ (a b : Nat) (v w : Int), x = (a : Int) → a = b → (b ≤ 10 ∨ (20 ≤ b ∧ b ≤ 23)) → cntV D T b = v → w = v → K (.inl (some (.inl w))) (zu S 62 0 0) := fun a b v w h1 h2 h3 h4 h5 => by
    subst h1
    subst h2
    rw [if_pos (by omega)] at h
    rw [h5, ← h4]
    exact mGood hM h
  have key : ((0 ≤ x ∧ x ≤ 10) ∨ (20 ≤ x ∧ x ≤ 23)) → ∀ a b : Nat, x = (a : Int) → (a = b) → True := fun _ _ _ _ _ => trivial
  have low : x < 20 → 8 ≤ x → x ≤ 10 → K (.inl (some (.inl (S 71 (x.toNat - 8))))) (zu S 62 0 0) := fun c1 c2 c3 => by
    have e := hM.refused (x.toNat - 8) (by omega)
    have : x.toNat = 8 ∨ x.toNat = 9 ∨ x.toNat = 10 := by omega
    rcases this with h9 | h9 | h9 <;> rw [h9] at e ⊢
    · exact ok 8 8 _ _ (by omega) rfl (by omega) rfl e
    · exact ok 9 9 _ _ (by omega) rfl (by omega) rfl e
    · exact ok 10 10 _ _ (by omega) rfl (by omega) rfl e
  have hig : 20 ≤ x → x ≤ 23 → K (.inl (some (.inl (S 68 (x.toNat - 20))))) (zu S 62 0 0) := fun c1 c2 => by
    have e := hM.now.law (x.toNat - 20) (by omega)
    have : x.toNat = 20 ∨ x.toNat = 21 ∨ x.toNat = 22 ∨ x.toNat = 23 := by omega
    rcases this with h9 | h9 | h9 | h9 <;> rw [h9] at e ⊢
    · exact ok 20 20 _ _ (by omega) rfl (by omega) rfl e
    · exact ok 21 21 _ _ (by omega) rfl (by omega) rfl e
    · exact ok 22 22 _ _ (by omega) rfl (by omega) rfl e
    · exact ok 23 23 _ _ (by omega) rfl (by omega) rfl e
  refine ⟨fun c => ⟨fun c9 => by omega, fun _ => ⟨⟨rfl, Or.inr rfl⟩, fun _ z => absurd z (by decide), fun _ _ => ⟨fun c9 => by omega, fun _ => ⟨fun c => ?_, fun c => ?_, fun c => ?_, fun c => ?_, fun c => ?_, fun c => ?_, fun c => ?_, fun c => ?_, fun c => ⟨fun d1 => ⟨by omega, x.toNat - 8, ⟨by omega, by omega⟩, ?_⟩, fun d1 => by omega⟩⟩⟩, rfl, by decide⟩⟩, fun c => ⟨fun _ => ⟨fun c2 => ⟨fun c9 => by omega, fun _ => ⟨⟨rfl, Or.inr rfl⟩, fun _ z => absurd z (by decide), fun _ _ => ⟨fun c9 => by omega, fun _ => ⟨fun c => by omega, fun c => by omega, fun c => by omega, fun c => by omega, fun c => by omega, fun c => by omega, fun c => by omega, fun c => by omega, fun c => ⟨fun d1 => by omega, fun d1 => ⟨by omega, x.toNat - 20, ⟨by omega, by omega⟩, ?_⟩⟩⟩⟩, rfl, by decide⟩⟩, fun c2 => ⟨fun _ => ⟨⟨rfl, Or.inl rfl⟩, fun _ _ _ => ⟨fun _ => bad (by omega), fun c9 => absurd rfl c9⟩, fun _ z => absurd z (by decide), rfl, by decide⟩, fun c9 => absurd rfl c9⟩⟩, fun c9 => absurd rfl c9⟩⟩
  · exact ok _ 0 _ _ c rfl (by omega) rfl hM.now.rooms
  · exact ok _ 1 _ _ c rfl (by omega) rfl hM.now.lodgers
  · exact ok _ 2 _ _ c rfl (by omega) rfl hM.now.finders
  · exact ok _ 3 _ _ c rfl (by omega) rfl hM.now.mays
  · exact ok _ 4 _ _ c rfl (by omega) rfl hM.now.lent
  · exact ok _ 5 _ _ c rfl (by omega) rfl hM.now.seenHour
  · exact ok _ 6 _ _ c rfl (by omega) rfl hM.now.seenRooms
  · exact ok _ 7 _ _ c rfl (by omega) rfl hM.tape
  · exact low d1 (by omega) (by omega)
  · exact hig (by omega) (by omega)
end
