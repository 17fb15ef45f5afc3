/-! see of the model; lend, back -/
section
variable {S : zS} {D E T : zD} {N : Nat} {K : zR2 → zS → Prop} {x y z u w : Int}
theorem m_see (hM : eM S D E T) (hX : xOK D E T N) (h : mRes S (seeD D x y z) E (seeT D T x y z) (seeA D x y z) K) : wp_X12_see [.inr (.inl 62), .inl x, .inl y, .inl z] S K := by
  have e1 : zu S 62 0 0 62 1 = (dR D : Int) := hM.now.rooms
  have e2 : zu S 62 0 0 62 40 = (dQ D : Int) - 1 := hM.now.seenHour
  have e3 : zu S 62 0 0 62 41 = (dP D : Int) := hM.now.seenRooms
  have e3' := hM.now.seenRooms
  have e2' := hM.now.seenHour
  have e4 := hX.now.rooms
  have e5 := p_lt hX.now
  have e6 := hX.refused 2
  have e7 : zu S 62 0 0 71 2 = (T 3 2 : Int) := hM.refused 2 (by omega)
  have e8 := hX.few
  unfold seeA seeD seeT at h
  by_cases hp : seeP D x y
  · have hR := seeR_lt hX.now hp
    have hR2 : 2 ^ dR D ≤ 2 ^ 8 := Nat.pow_le_pow_right (by decide) e4
    obtain ⟨⟨p1, p2⟩, p3, p4⟩ := id hp
    have eb : zand (zshr (zu S 62 0 0 62 41) x) 1 = (bt1 (dP D) x.toNat : Int) := by
      rw [e3, show x = (x.toNat : Int) by omega, zbit_n (by omega) (by omega)]
      rfl
    have hb := bt1_lt (dP D) x.toNat
    by_cases hq : seeQ D x y z
    · rw [if_pos ⟨hp, hq⟩, if_neg (fun c => c.2 hq), if_pos hp, if_pos hq] at h
      obtain ⟨⟨q1, q2⟩, q3⟩ := hq
      by_cases hh : (dQ D : Int) = y + 1
      · have er : zor (S 62 41) (zshl 1 x) = (seeR D x y : Int) := by
          unfold seeR
          have : 2 ^ x.toNat ≤ 2 ^ 8 := Nat.pow_le_pow_right (by decide) (by omega)
          rw [if_pos hh, e3', show x = (x.toNat : Int) by omega, zsh1_n (by omega), zor_n (by omega) (by omega)]
          rfl
        repeat' (first | refine And.intro ?_ ?_ | (intro _; try omega) | omega | rfl | refine ⟨_, ⟨rfl, by omega⟩, ?_⟩ | refine ⟨x.toNat, ⟨by omega, by omega⟩, ?_⟩ | refine ⟨seeR D x y, ⟨er, by omega⟩, ?_⟩ | fail)
        have hn : mOK (zu (zu (zu (zu S 62 0 0) 62 40 y) 62 41 (zor (S 62 41) (zshl 1 x))) 82 x.toNat z) (seeN D x y z) := ⟨hM.now.rooms, hM.now.lodgers, hM.now.finders, hM.now.mays, hM.now.goods, hM.now.whose, hM.now.home, hM.now.feet, hM.now.law, hM.now.may, hM.now.lent, (by show y = ((y.toNat + 1 : Nat) : Int) - 1; omega), er, hM.now.lending, hM.now.day, hM.now.looks, (fun j hj => zuU (fun _ => hM.now.seen j hj) (by omega))⟩
        exact h _ _ ⟨hn, hM.tape, hM.bytes, hM.fault, hM.refused, hM.hasImage, hM.image, hM.path, hM.pathRooms, hM.pathLooks, hM.lends, hM.lenders⟩ (((((frM.r S).u (by omega) (by omega)).u (by omega) (by omega)).u (by omega) (by omega)).u (by omega) (by omega)) rfl (fun _ => rfl)
      · have er : zor 0 (zshl 1 x) = (seeR D x y : Int) := by
          unfold seeR
          have : 2 ^ x.toNat ≤ 2 ^ 8 := Nat.pow_le_pow_right (by decide) (by omega)
          rw [if_neg hh, show x = (x.toNat : Int) by omega, zsh1_n (by omega), show (0 : Int) = ((0 : Nat) : Int) from rfl, zor_n (by omega) (by omega)]
          rfl
        repeat' (first | refine And.intro ?_ ?_ | (intro _; try omega) | omega | rfl | refine ⟨_, ⟨rfl, by omega⟩, ?_⟩ | refine ⟨x.toNat, ⟨by omega, by omega⟩, ?_⟩ | refine ⟨seeR D x y, ⟨er, by omega⟩, ?_⟩ | fail)
        have hn : mOK (zu (zu (zu (zu (zu S 62 0 0) 62 41 0) 62 40 y) 62 41 (zor 0 (zshl 1 x))) 82 x.toNat z) (seeN D x y z) := ⟨hM.now.rooms, hM.now.lodgers, hM.now.finders, hM.now.mays, hM.now.goods, hM.now.whose, hM.now.home, hM.now.feet, hM.now.law, hM.now.may, hM.now.lent, (by show y = ((y.toNat + 1 : Nat) : Int) - 1; omega), er, hM.now.lending, hM.now.day, hM.now.looks, (fun j hj => zuU (fun _ => hM.now.seen j hj) (by omega))⟩
        exact h _ _ ⟨hn, hM.tape, hM.bytes, hM.fault, hM.refused, hM.hasImage, hM.image, hM.path, hM.pathRooms, hM.pathLooks, hM.lends, hM.lenders⟩ ((((((frM.r S).u (by omega) (by omega)).u (by omega) (by omega)).u (by omega) (by omega)).u (by omega) (by omega)).u (by omega) (by omega)) rfl (fun _ => rfl)
    · rw [if_neg (fun c => hq c.2), if_pos ⟨hp, hq⟩, if_pos hp, if_neg hq] at h
      unfold seeQ at hq
      have hn : mOK (zu (zu S 62 0 0) 71 2 (zu S 62 0 0 71 2 + 1)) D := ⟨hM.now.rooms, hM.now.lodgers, hM.now.finders, hM.now.mays, hM.now.goods, hM.now.whose, hM.now.home, hM.now.feet, hM.now.law, hM.now.may, hM.now.lent, hM.now.seenHour, hM.now.seenRooms, hM.now.lending, hM.now.day, hM.now.looks, hM.now.seen⟩
      have h : K (.inl (some (.inl (-1)))) (zu (zu S 62 0 0) 71 2 (zu S 62 0 0 71 2 + 1)) := h _ _ ⟨hn, hM.tape, hM.bytes, hM.fault, (fun i hi => zuU (fun _ => hM.refused i hi) (by omega)), hM.hasImage, hM.image, hM.path, hM.pathRooms, hM.pathLooks, hM.lends, hM.lenders⟩ (((frM.r S).u (by omega) (by omega)).u (by omega) (by omega)) rfl (fun _ => rfl)
      repeat' (first | refine And.intro ?_ ?_ | (intro _; try omega) | omega | rfl | refine ⟨_, ⟨rfl, by omega⟩, ?_⟩ | refine ⟨2, ⟨by omega, by omega⟩, ?_⟩ | fail)
      all_goals exact h
  · rw [if_neg (fun c => hp c.1), if_neg (fun c => hp c.1), if_neg hp] at h
    unfold seeP at hp
    have h := mFail1 hM h
    repeat' (first | refine And.intro ?_ ?_ | (intro _; try omega) | omega | rfl | refine ⟨_, ⟨rfl, by omega⟩, ?_⟩ | fail)
    all_goals exact h
end
def B_X0_canLend : List (Nat × zC) := [(32, (0, 0, 2, 0, 0, 0, 0))]
def O_X0_canLend : zO := fun j a S K => match j with
  | 0 => wp_X0_shoesOf a S K
  | _ => False
theorem E_X0_canLend (l : Launch) : ∀ q ∈ B_X0_canLend, zcok l O_X0_canLend F_X0_canLend q.1 q.2 := List.forall_mem_cons.mpr ⟨⟨73, yX0_shoesOf, cX0_shoesOf, 3, some .int, by decide +kernel, C_0_73, W_X0_shoesOf, I_X0_shoesOf, S_X0_shoesOf, rfl, rfl, R_X0_shoesOf l⟩, fun _ h => by cases h⟩
def U_X0_canLend : List (Nat × zE) := [(0, Sum.inl (2, 2, 0, 0, 1, [])), (1, Sum.inl (0, 0, 0, 1, 2, [])), (2, Sum.inl (16, 0, 10, 0, 5, [])), (5, Sum.inl (2, 2, 0, 0, 6, [])), (6, Sum.inl (0, 0, 0, 2, 7, [])), (7, Sum.inl (16, 0, 10, 0, 14, [])), (10, Sum.inl (0, 0, 0, 1, 11, [])), (11, Sum.inl (15, 0, 0, 0, 15, [])), (14, Sum.inl (0, 0, 0, 0, 15, [])), (15, Sum.inl (5, 3, 0, 0, 16, [])), (16, Sum.inl (4, 0, 0, 0, 17, [])), (17, Sum.inl (18, 0, 7, 0, 20, [])), (20, Sum.inl (0, 0, 0, 12, 22, [])), (22, Sum.inl (16, 1, 25, 0, 42, [])), (25, Sum.inl (2, 3, 0, 0, 26, [])), (26, Sum.inl (17, 0, 42, 0, 29, [])), (29, Sum.inl (4, 0, 0, 0, 30, [])), (30, Sum.inl (2, 1, 0, 0, 31, [])), (31, Sum.inl (2, 2, 0, 0, 32, [])), (32, Sum.inr (0, 0, 2, 0, 0, 0, 0)), (35, Sum.inl (17, 2, 38, 0, 42, [])), (38, Sum.inl (0, 0, 0, 1, 39, [])), (39, Sum.inl (15, 0, 0, 0, 43, [])), (42, Sum.inl (0, 0, 0, 0, 43, [])), (43, Sum.inl (27, 0, 0, 0, 44, []))]
theorem Z_X0_canLend (l : Launch) : ∀ q ∈ U_X0_canLend, zTok l O_X0_canLend F_X0_canLend q := zU_ok rfl rfl rfl K_X0_canLend (E_X0_canLend l)
def wp_X0_canLend (a : List zV) (S : zS) (K : zR2 → zS → Prop) : Prop := zif (Nat.ble (zsum a) 4) (zwq 1 F_X0_canLend U_X0_canLend O_X0_canLend [] (fun _ _ _ _ _ _ => False) K 26 U_X0_canLend 0 0 S 0 (zar 0 a) [])
theorem R_X0_canLend (l : Launch) (a : List zV) (S : zS) (Q : zR2 → zS → Prop) (h : wp_X0_canLend a S Q) : zRs l 1 0 0 yX0_canLend (.code yX0_canLend cX0_canLend 4 (some .boolean)) a S Q := by
  obtain ⟨h1, h⟩ := zif_ok h
  exact zRs_of 0 (by decide) rfl h1 (zwq_ok (Z_X0_canLend l) rfl [] (fun _ _ _ _ _ _ h => h.elim) 26 (Z_X0_canLend l) h)
def B_X0_move : List (Nat × zC) := []
def O_X0_move : zO := fun j a S K => match j with
  | _ => False
theorem E_X0_move (l : Launch) : ∀ q ∈ B_X0_move, zcok l O_X0_move F_X0_move q.1 q.2 := fun _ h => by cases h
def U_X0_move : List (Nat × zE) := [(0, Sum.inl (4, 0, 0, 0, 1, [])), (1, Sum.inl (18, 0, 3, 0, 4, [])), (4, Sum.inl (2, 1, 0, 0, 5, [])), (5, Sum.inl (0, 0, 0, 2, 6, [])), (6, Sum.inl (9, 2, 0, 0, 7, [])), (7, Sum.inl (2, 3, 0, 0, 8, [])), (8, Sum.inl (9, 0, 0, 0, 9, [])), (9, Sum.inl (0, 0, 0, 1, 10, [])), (10, Sum.inl (9, 1, 0, 0, 11, [])), (11, Sum.inl (13, 0, 0, 0, 12, [])), (12, Sum.inl (20, 0, 0, 0, 13, [])), (13, Sum.inl (0, 0, 0, 1, 14, [])), (14, Sum.inl (9, 1, 0, 0, 15, [])), (15, Sum.inl (21, 0, 0, 0, 16, [])), (16, Sum.inl (4, 0, 0, 0, 17, [])), (17, Sum.inl (18, 0, 3, 0, 20, [])), (20, Sum.inl (2, 2, 0, 0, 21, [])), (21, Sum.inl (0, 0, 0, 2, 22, [])), (22, Sum.inl (9, 2, 0, 0, 23, [])), (23, Sum.inl (2, 3, 0, 0, 24, [])), (24, Sum.inl (9, 0, 0, 0, 25, [])), (25, Sum.inl (0, 0, 0, 1, 26, [])), (26, Sum.inl (9, 1, 0, 0, 27, [])), (27, Sum.inl (13, 0, 0, 0, 28, [])), (28, Sum.inl (20, 0, 0, 0, 29, [])), (29, Sum.inl (0, 0, 0, 1, 30, [])), (30, Sum.inl (9, 0, 0, 0, 31, [])), (31, Sum.inl (21, 0, 0, 0, 32, [])), (32, Sum.inl (29, 0, 0, 0, 33, []))]
theorem Z_X0_move (l : Launch) : ∀ q ∈ U_X0_move, zTok l O_X0_move F_X0_move q := zU_ok rfl rfl rfl K_X0_move (E_X0_move l)
def wp_X0_move (a : List zV) (S : zS) (K : zR2 → zS → Prop) : Prop := zif (Nat.ble (zsum a) 4) (zwq 0 F_X0_move U_X0_move O_X0_move [] (fun _ _ _ _ _ _ => False) K 30 U_X0_move 0 0 S 0 (zar 0 a) [])
theorem R_X0_move (l : Launch) (a : List zV) (S : zS) (Q : zR2 → zS → Prop) (h : wp_X0_move a S Q) : zRs l 0 0 0 yX0_move (.code yX0_move cX0_move 4 (none)) a S Q := by
  obtain ⟨h1, h⟩ := zif_ok h
  exact zRs_of 0 (by decide) rfl h1 (zwq_ok (Z_X0_move l) rfl [] (fun _ _ _ _ _ _ h => h.elim) 30 (Z_X0_move l) h)
def B_X0_handOver : List (Nat × zC) := [(44, (0, 0, 3, 0, 0, 0, 0))]
def O_X0_handOver : zO := fun j a S K => match j with
  | 0 => wp_X0_move a S K
  | _ => False
theorem E_X0_handOver (l : Launch) : ∀ q ∈ B_X0_handOver, zcok l O_X0_handOver F_X0_handOver q.1 q.2 := List.forall_mem_cons.mpr ⟨⟨76, yX0_move, cX0_move, 4, none, by decide +kernel, C_0_76, W_X0_move, I_X0_move, S_X0_move, rfl, rfl, R_X0_move l⟩, fun _ h => by cases h⟩
def U_X0_handOver : List (Nat × zE) := [(0, Sum.inl (4, 0, 0, 0, 1, [])), (1, Sum.inl (18, 0, 0, 0, 4, [])), (4, Sum.inl (4, 0, 0, 0, 5, [])), (5, Sum.inl (18, 0, 7, 0, 8, [])), (8, Sum.inl (2, 1, 0, 0, 9, [])), (9, Sum.inl (21, 0, 0, 0, 10, [])), (10, Sum.inl (4, 0, 0, 0, 11, [])), (11, Sum.inl (18, 0, 1, 0, 14, [])), (14, Sum.inl (4, 0, 0, 0, 15, [])), (15, Sum.inl (18, 0, 7, 0, 18, [])), (18, Sum.inl (2, 2, 0, 0, 19, [])), (19, Sum.inl (21, 0, 0, 0, 20, [])), (20, Sum.inl (4, 0, 0, 0, 21, [])), (21, Sum.inl (18, 0, 2, 0, 24, [])), (24, Sum.inl (4, 0, 0, 0, 25, [])), (25, Sum.inl (18, 0, 7, 0, 28, [])), (28, Sum.inl (2, 3, 0, 0, 29, [])), (29, Sum.inl (21, 0, 0, 0, 30, [])), (30, Sum.inl (4, 0, 0, 0, 31, [])), (31, Sum.inl (12, 0, 0, 0, 32, [])), (32, Sum.inl (18, 0, 7, 0, 35, [])), (35, Sum.inl (0, 0, 0, 1, 36, [])), (36, Sum.inl (9, 0, 0, 0, 37, [])), (37, Sum.inl (19, 0, 7, 0, 40, [])), (40, Sum.inl (4, 0, 0, 0, 41, [])), (41, Sum.inl (2, 1, 0, 0, 42, [])), (42, Sum.inl (2, 2, 0, 0, 43, [])), (43, Sum.inl (2, 3, 0, 0, 44, [])), (44, Sum.inr (0, 0, 3, 0, 0, 0, 0)), (47, Sum.inl (29, 0, 0, 0, 48, []))]
theorem Z_X0_handOver (l : Launch) : ∀ q ∈ U_X0_handOver, zTok l O_X0_handOver F_X0_handOver q := zU_ok rfl rfl rfl K_X0_handOver (E_X0_handOver l)
def wp_X0_handOver (a : List zV) (S : zS) (K : zR2 → zS → Prop) : Prop := zif (Nat.ble (zsum a) 4) (zwq 1 F_X0_handOver U_X0_handOver O_X0_handOver [] (fun _ _ _ _ _ _ => False) K 31 U_X0_handOver 0 0 S 0 (zar 0 a) [])
theorem R_X0_handOver (l : Launch) (a : List zV) (S : zS) (Q : zR2 → zS → Prop) (h : wp_X0_handOver a S Q) : zRs l 1 0 0 yX0_handOver (.code yX0_handOver cX0_handOver 4 (none)) a S Q := by
  obtain ⟨h1, h⟩ := zif_ok h
  exact zRs_of 0 (by decide) rfl h1 (zwq_ok (Z_X0_handOver l) rfl [] (fun _ _ _ _ _ _ h => h.elim) 31 (Z_X0_handOver l) h)
def B_X0_handBack : List (Nat × zC) := [(38, (0, 0, 3, 0, 0, 0, 0))]
def O_X0_handBack : zO := fun j a S K => match j with
  | 0 => wp_X0_move a S K
  | _ => False
theorem E_X0_handBack (l : Launch) : ∀ q ∈ B_X0_handBack, zcok l O_X0_handBack F_X0_handBack q.1 q.2 := List.forall_mem_cons.mpr ⟨⟨76, yX0_move, cX0_move, 4, none, by decide +kernel, C_0_76, W_X0_move, I_X0_move, S_X0_move, rfl, rfl, R_X0_move l⟩, fun _ h => by cases h⟩
def U_X0_handBack : List (Nat × zE) := [(0, Sum.inl (4, 0, 0, 0, 1, [])), (1, Sum.inl (12, 0, 0, 0, 2, [])), (2, Sum.inl (18, 0, 7, 0, 5, [])), (5, Sum.inl (0, 0, 0, 1, 6, [])), (6, Sum.inl (9, 1, 0, 0, 7, [])), (7, Sum.inl (19, 0, 7, 0, 10, [])), (10, Sum.inl (4, 0, 0, 0, 11, [])), (11, Sum.inl (4, 0, 0, 0, 12, [])), (12, Sum.inl (18, 0, 1, 0, 15, [])), (15, Sum.inl (4, 0, 0, 0, 16, [])), (16, Sum.inl (18, 0, 7, 0, 19, [])), (19, Sum.inl (20, 0, 0, 0, 20, [])), (20, Sum.inl (4, 0, 0, 0, 21, [])), (21, Sum.inl (18, 0, 0, 0, 24, [])), (24, Sum.inl (4, 0, 0, 0, 25, [])), (25, Sum.inl (18, 0, 7, 0, 28, [])), (28, Sum.inl (20, 0, 0, 0, 29, [])), (29, Sum.inl (4, 0, 0, 0, 30, [])), (30, Sum.inl (18, 0, 2, 0, 33, [])), (33, Sum.inl (4, 0, 0, 0, 34, [])), (34, Sum.inl (18, 0, 7, 0, 37, [])), (37, Sum.inl (20, 0, 0, 0, 38, [])), (38, Sum.inr (0, 0, 3, 0, 0, 0, 0)), (41, Sum.inl (29, 0, 0, 0, 42, []))]
theorem Z_X0_handBack (l : Launch) : ∀ q ∈ U_X0_handBack, zTok l O_X0_handBack F_X0_handBack q := zU_ok rfl rfl rfl K_X0_handBack (E_X0_handBack l)
def wp_X0_handBack (a : List zV) (S : zS) (K : zR2 → zS → Prop) : Prop := zif (Nat.ble (zsum a) 1) (zwq 1 F_X0_handBack U_X0_handBack O_X0_handBack [] (fun _ _ _ _ _ _ => False) K 25 U_X0_handBack 0 0 S 0 (zar 0 a) [])
theorem R_X0_handBack (l : Launch) (a : List zV) (S : zS) (Q : zR2 → zS → Prop) (h : wp_X0_handBack a S Q) : zRs l 1 0 0 yX0_handBack (.code yX0_handBack cX0_handBack 1 (none)) a S Q := by
  obtain ⟨h1, h⟩ := zif_ok h
  exact zRs_of 0 (by decide) rfl h1 (zwq_ok (Z_X0_handBack l) rfl [] (fun _ _ _ _ _ _ h => h.elim) 25 (Z_X0_handBack l) h)
def B_X11_lend : List (Nat × zC) := [(2, (2, 0, 1, 6, 0, 0, 11)), (7, (2, 0, 1, 6, 0, 0, 11)), (21, (0, 1, 2, 1, 0, 0, 0)), (46, (0, 2, 3, 1, 0, 0, 0))]
def O_X11_lend : zO := fun j a S K => match j with
  | 0 => wp_X11_needLodger a S K
  | 1 => wp_X0_canLend a S K
  | 2 => wp_X0_handOver a S K
  | _ => False
theorem E_X11_lend (l : Launch) : ∀ q ∈ B_X11_lend, zcok l O_X11_lend F_X11_lend q.1 q.2 := List.forall_mem_cons.mpr ⟨⟨192, yX11_needLodger, cX11_needLodger, 2, none, by decide +kernel, C_11_192, W_X11_needLodger, I_X11_needLodger, S_X11_needLodger, rfl, rfl, R_X11_needLodger l⟩, List.forall_mem_cons.mpr ⟨⟨192, yX11_needLodger, cX11_needLodger, 2, none, by decide +kernel, C_11_192, W_X11_needLodger, I_X11_needLodger, S_X11_needLodger, rfl, rfl, R_X11_needLodger l⟩, List.forall_mem_cons.mpr ⟨⟨225, yX0_canLend, cX0_canLend, 4, some .boolean, by decide +kernel, C_11_225, W_X0_canLend, I_X0_canLend, S_X0_canLend, rfl, rfl, R_X0_canLend l⟩, List.forall_mem_cons.mpr ⟨⟨228, yX0_handOver, cX0_handOver, 4, none, by decide +kernel, C_11_228, W_X0_handOver, I_X0_handOver, S_X0_handOver, rfl, rfl, R_X0_handOver l⟩, fun _ h => by cases h⟩⟩⟩⟩
def U_X11_lend : List (Nat × zE) := [(0, Sum.inl (4, 0, 0, 0, 1, [])), (1, Sum.inl (2, 1, 0, 0, 2, [])), (2, Sum.inr (2, 0, 1, 6, 0, 0, 11)), (5, Sum.inl (4, 0, 0, 0, 6, [])), (6, Sum.inl (2, 2, 0, 0, 7, [])), (7, Sum.inr (2, 0, 1, 6, 0, 0, 11)), (10, Sum.inl (2, 1, 0, 0, 11, [])), (11, Sum.inl (2, 2, 0, 0, 12, [])), (12, Sum.inl (16, 0, 27, 0, 15, [])), (15, Sum.inl (4, 0, 0, 0, 16, [])), (16, Sum.inl (18, 11, 4, 0, 19, [])), (19, Sum.inl (2, 1, 0, 0, 20, [])), (20, Sum.inl (2, 3, 0, 0, 21, [])), (21, Sum.inr (0, 1, 2, 1, 0, 0, 0)), (24, Sum.inl (17, 0, 27, 0, 39, [])), (27, Sum.inl (4, 0, 0, 0, 28, [])), (28, Sum.inl (18, 11, 13, 0, 31, [])), (31, Sum.inl (0, 0, 0, 1, 32, [])), (32, Sum.inl (13, 0, 0, 0, 33, [])), (33, Sum.inl (20, 0, 0, 0, 34, [])), (34, Sum.inl (0, 0, 0, 1, 35, [])), (35, Sum.inl (9, 0, 0, 0, 36, [])), (36, Sum.inl (21, 0, 0, 0, 37, [])), (37, Sum.inl (0, 0, 0, (-1), 38, [])), (38, Sum.inl (27, 0, 0, 0, 39, [])), (39, Sum.inl (4, 0, 0, 0, 40, [])), (40, Sum.inl (18, 11, 4, 0, 43, [])), (43, Sum.inl (2, 1, 0, 0, 44, [])), (44, Sum.inl (2, 2, 0, 0, 45, [])), (45, Sum.inl (2, 3, 0, 0, 46, [])), (46, Sum.inr (0, 2, 3, 1, 0, 0, 0)), (49, Sum.inl (4, 0, 0, 0, 50, [])), (50, Sum.inl (18, 11, 4, 0, 53, [])), (53, Sum.inl (18, 0, 7, 0, 56, [])), (56, Sum.inl (27, 0, 0, 0, 57, []))]
theorem Z_X11_lend (l : Launch) : ∀ q ∈ U_X11_lend, zTok l O_X11_lend F_X11_lend q := zU_ok rfl rfl rfl K_X11_lend (E_X11_lend l)
def wp_X11_lend (a : List zV) (S : zS) (K : zR2 → zS → Prop) : Prop := zif (Nat.ble (zsum a) 4) (zwq 7 F_X11_lend U_X11_lend O_X11_lend [] (fun _ _ _ _ _ _ => False) K 36 U_X11_lend 1 6 S 0 (zar 0 a) [])
theorem R_X11_lend (l : Launch) (a : List zV) (S : zS) (Q : zR2 → zS → Prop) (h : wp_X11_lend a S Q) : zRs l 7 1 6 yX11_lend (.code yX11_lend cX11_lend 4 (some .int)) a S Q := by
  obtain ⟨h1, h⟩ := zif_ok h
  exact zRs_of 11 (by decide) rfl h1 (zwq_ok (Z_X11_lend l) rfl [] (fun _ _ _ _ _ _ h => h.elim) 36 (Z_X11_lend l) h)
def B_X12_lend : List (Nat × zC) := [(7, (0, 0, 1, 1, 0, 0, 12)), (15, (0, 0, 1, 1, 0, 0, 12)), (40, (1, 1, 3, 0, 0, 0, 0)), (49, (0, 2, 2, 0, 0, 0, 12)), (57, (0, 3, 1, 0, 0, 0, 12))]
def O_X12_lend : zO := fun j a S K => match j with
  | 0 => wp_X12_isLodger a S K
  | 1 => wp_X12_within a S K
  | 2 => wp_X12_has a S K
  | 3 => wp_X12_refuses a S K
  | _ => False
theorem E_X12_lend (l : Launch) : ∀ q ∈ B_X12_lend, zcok l O_X12_lend F_X12_lend q.1 q.2 := List.forall_mem_cons.mpr ⟨⟨302, yX12_isLodger, cX12_isLodger, 2, some .boolean, by decide +kernel, C_12_302, W_X12_isLodger, I_X12_isLodger, S_X12_isLodger, rfl, rfl, R_X12_isLodger l⟩, List.forall_mem_cons.mpr ⟨⟨302, yX12_isLodger, cX12_isLodger, 2, some .boolean, by decide +kernel, C_12_302, W_X12_isLodger, I_X12_isLodger, S_X12_isLodger, rfl, rfl, R_X12_isLodger l⟩, List.forall_mem_cons.mpr ⟨⟨283, yX12_within, cX12_within, 3, some .boolean, by decide +kernel, C_12_283, W_X12_within, I_X12_within, rfl, R_X12_within l⟩, List.forall_mem_cons.mpr ⟨⟨293, yX12_has, cX12_has, 5, some .int, by decide +kernel, C_12_293, W_X12_has, I_X12_has, S_X12_has, rfl, rfl, R_X12_has l⟩, List.forall_mem_cons.mpr ⟨⟨317, yX12_refuses, cX12_refuses, 2, some .int, by decide +kernel, C_12_317, W_X12_refuses, I_X12_refuses, S_X12_refuses, rfl, rfl, R_X12_refuses l⟩, fun _ h => by cases h⟩⟩⟩⟩⟩
def U_X12_lend : List (Nat × zE) := [(0, Sum.inl (4, 0, 0, 0, 1, [])), (1, Sum.inl (0, 0, 0, 0, 2, [])), (2, Sum.inl (19, 12, 0, 0, 5, [])), (5, Sum.inl (4, 0, 0, 0, 6, [])), (6, Sum.inl (2, 1, 0, 0, 7, [])), (7, Sum.inr (0, 0, 1, 1, 0, 0, 12)), (10, Sum.inl (17, 0, 21, 0, 13, [])), (13, Sum.inl (4, 0, 0, 0, 14, [])), (14, Sum.inl (2, 2, 0, 0, 15, [])), (15, Sum.inr (0, 0, 1, 1, 0, 0, 12)), (18, Sum.inl (17, 0, 21, 0, 23, [])), (21, Sum.inl (0, 0, 0, 0, 22, [])), (22, Sum.inl (27, 0, 0, 0, 23, [])), (23, Sum.inl (4, 0, 0, 0, 24, [])), (24, Sum.inl (18, 12, 36, 0, 27, [])), (27, Sum.inl (0, 0, 0, 12, 29, [])), (29, Sum.inl (16, 0, 55, 0, 32, [])), (32, Sum.inl (2, 1, 0, 0, 33, [])), (33, Sum.inl (2, 2, 0, 0, 34, [])), (34, Sum.inl (16, 0, 55, 0, 37, [])), (37, Sum.inl (2, 3, 0, 0, 38, [])), (38, Sum.inl (0, 0, 0, 1, 39, [])), (39, Sum.inl (0, 0, 0, 2, 40, [])), (40, Sum.inr (1, 1, 3, 0, 0, 0, 0)), (43, Sum.inl (17, 0, 55, 0, 46, [])), (46, Sum.inl (4, 0, 0, 0, 47, [])), (47, Sum.inl (2, 1, 0, 0, 48, [])), (48, Sum.inl (2, 3, 0, 0, 49, [])), (49, Sum.inr (0, 2, 2, 0, 0, 0, 12)), (52, Sum.inl (17, 0, 55, 0, 61, [])), (55, Sum.inl (4, 0, 0, 0, 56, [])), (56, Sum.inl (0, 0, 0, 1, 57, [])), (57, Sum.inr (0, 3, 1, 0, 0, 0, 12)), (60, Sum.inl (27, 0, 0, 0, 61, [])), (61, Sum.inl (4, 0, 0, 0, 62, [])), (62, Sum.inl (18, 12, 37, 0, 65, [])), (65, Sum.inl (0, 0, 0, 3, 66, [])), (66, Sum.inl (4, 0, 0, 0, 67, [])), (67, Sum.inl (18, 12, 36, 0, 70, [])), (70, Sum.inl (9, 2, 0, 0, 71, [])), (71, Sum.inl (2, 1, 0, 0, 72, [])), (72, Sum.inl (21, 0, 0, 0, 73, [])), (73, Sum.inl (4, 0, 0, 0, 74, [])), (74, Sum.inl (18, 12, 37, 0, 77, [])), (77, Sum.inl (0, 0, 0, 3, 78, [])), (78, Sum.inl (4, 0, 0, 0, 79, [])), (79, Sum.inl (18, 12, 36, 0, 82, [])), (82, Sum.inl (9, 2, 0, 0, 83, [])), (83, Sum.inl (0, 0, 0, 1, 84, [])), (84, Sum.inl (9, 0, 0, 0, 85, [])), (85, Sum.inl (2, 2, 0, 0, 86, [])), (86, Sum.inl (21, 0, 0, 0, 87, [])), (87, Sum.inl (4, 0, 0, 0, 88, [])), (88, Sum.inl (18, 12, 37, 0, 91, [])), (91, Sum.inl (0, 0, 0, 3, 92, [])), (92, Sum.inl (4, 0, 0, 0, 93, [])), (93, Sum.inl (18, 12, 36, 0, 96, [])), (96, Sum.inl (9, 2, 0, 0, 97, [])), (97, Sum.inl (0, 0, 0, 2, 98, [])), (98, Sum.inl (9, 0, 0, 0, 99, [])), (99, Sum.inl (2, 3, 0, 0, 100, [])), (100, Sum.inl (21, 0, 0, 0, 101, [])), (101, Sum.inl (4, 0, 0, 0, 102, [])), (102, Sum.inl (12, 0, 0, 0, 103, [])), (103, Sum.inl (18, 12, 36, 0, 106, [])), (106, Sum.inl (0, 0, 0, 1, 107, [])), (107, Sum.inl (9, 0, 0, 0, 108, [])), (108, Sum.inl (19, 12, 36, 0, 111, [])), (111, Sum.inl (4, 0, 0, 0, 112, [])), (112, Sum.inl (18, 12, 36, 0, 115, [])), (115, Sum.inl (27, 0, 0, 0, 116, []))]
theorem Z_X12_lend (l : Launch) : ∀ q ∈ U_X12_lend, zTok l O_X12_lend F_X12_lend q := zU_ok rfl rfl rfl K_X12_lend (E_X12_lend l)
def wp_X12_lend (a : List zV) (S : zS) (K : zR2 → zS → Prop) : Prop := zif (Nat.ble (zsum a) 4) (zwq 2 F_X12_lend U_X12_lend O_X12_lend [] (fun _ _ _ _ _ _ => False) K 72 U_X12_lend 0 0 S 0 (zar 0 a) [])
theorem R_X12_lend (l : Launch) (a : List zV) (S : zS) (Q : zR2 → zS → Prop) (h : wp_X12_lend a S Q) : zRs l 2 0 0 yX12_lend (.code yX12_lend cX12_lend 4 (some .int)) a S Q := by
  obtain ⟨h1, h⟩ := zif_ok h
  exact zRs_of 12 (by decide) rfl h1 (zwq_ok (Z_X12_lend l) rfl [] (fun _ _ _ _ _ _ h => h.elim) 72 (Z_X12_lend l) h)
def B_X11_back : List (Nat × zC) := [(16, (0, 0, 0, 1, 0, 0, 0))]
def O_X11_back : zO := fun j a S K => match j with
  | 0 => wp_X0_handBack a S K
  | _ => False
theorem E_X11_back (l : Launch) : ∀ q ∈ B_X11_back, zcok l O_X11_back F_X11_back q.1 q.2 := List.forall_mem_cons.mpr ⟨⟨232, yX0_handBack, cX0_handBack, 1, none, by decide +kernel, C_11_232, W_X0_handBack, I_X0_handBack, S_X0_handBack, rfl, rfl, R_X0_handBack l⟩, fun _ h => by cases h⟩
def U_X11_back : List (Nat × zE) := [(0, Sum.inl (4, 0, 0, 0, 1, [])), (1, Sum.inl (18, 11, 4, 0, 4, [])), (4, Sum.inl (18, 0, 7, 0, 7, [])), (7, Sum.inl (17, 0, 10, 0, 12, [])), (10, Sum.inl (0, 0, 0, (-1), 11, [])), (11, Sum.inl (27, 0, 0, 0, 12, [])), (12, Sum.inl (4, 0, 0, 0, 13, [])), (13, Sum.inl (18, 11, 4, 0, 16, [])), (16, Sum.inr (0, 0, 0, 1, 0, 0, 0)), (19, Sum.inl (4, 0, 0, 0, 20, [])), (20, Sum.inl (18, 11, 4, 0, 23, [])), (23, Sum.inl (18, 0, 7, 0, 26, [])), (26, Sum.inl (27, 0, 0, 0, 27, []))]
theorem Z_X11_back (l : Launch) : ∀ q ∈ U_X11_back, zTok l O_X11_back F_X11_back q := zU_ok rfl rfl rfl K_X11_back (E_X11_back l)
def wp_X11_back (a : List zV) (S : zS) (K : zR2 → zS → Prop) : Prop := zif (Nat.ble (zsum a) 1) (zwq 2 F_X11_back U_X11_back O_X11_back [] (fun _ _ _ _ _ _ => False) K 14 U_X11_back 0 0 S 0 (zar 0 a) [])
theorem R_X11_back (l : Launch) (a : List zV) (S : zS) (Q : zR2 → zS → Prop) (h : wp_X11_back a S Q) : zRs l 2 0 0 yX11_back (.code yX11_back cX11_back 1 (some .int)) a S Q := by
  obtain ⟨h1, h⟩ := zif_ok h
  exact zRs_of 11 (by decide) rfl h1 (zwq_ok (Z_X11_back l) rfl [] (fun _ _ _ _ _ _ h => h.elim) 14 (Z_X11_back l) h)
def B_X12_back : List (Nat × zC) := []
def O_X12_back : zO := fun j a S K => match j with
  | _ => False
theorem E_X12_back (l : Launch) : ∀ q ∈ B_X12_back, zcok l O_X12_back F_X12_back q.1 q.2 := fun _ h => by cases h
def U_X12_back : List (Nat × zE) := [(0, Sum.inl (4, 0, 0, 0, 1, [])), (1, Sum.inl (0, 0, 0, 0, 2, [])), (2, Sum.inl (19, 12, 0, 0, 5, [])), (5, Sum.inl (4, 0, 0, 0, 6, [])), (6, Sum.inl (18, 12, 36, 0, 9, [])), (9, Sum.inl (17, 0, 12, 0, 14, [])), (12, Sum.inl (0, 0, 0, (-1), 13, [])), (13, Sum.inl (27, 0, 0, 0, 14, [])), (14, Sum.inl (4, 0, 0, 0, 15, [])), (15, Sum.inl (12, 0, 0, 0, 16, [])), (16, Sum.inl (18, 12, 36, 0, 19, [])), (19, Sum.inl (0, 0, 0, 1, 20, [])), (20, Sum.inl (9, 1, 0, 0, 21, [])), (21, Sum.inl (19, 12, 36, 0, 24, [])), (24, Sum.inl (4, 0, 0, 0, 25, [])), (25, Sum.inl (18, 12, 36, 0, 28, [])), (28, Sum.inl (27, 0, 0, 0, 29, []))]
theorem Z_X12_back (l : Launch) : ∀ q ∈ U_X12_back, zTok l O_X12_back F_X12_back q := zU_ok rfl rfl rfl K_X12_back (E_X12_back l)
def wp_X12_back (a : List zV) (S : zS) (K : zR2 → zS → Prop) : Prop := zif (Nat.ble (zsum a) 1) (zwq 0 F_X12_back U_X12_back O_X12_back [] (fun _ _ _ _ _ _ => False) K 18 U_X12_back 0 0 S 0 (zar 0 a) [])
theorem R_X12_back (l : Launch) (a : List zV) (S : zS) (Q : zR2 → zS → Prop) (h : wp_X12_back a S Q) : zRs l 0 0 0 yX12_back (.code yX12_back cX12_back 1 (some .int)) a S Q := by
  obtain ⟨h1, h⟩ := zif_ok h
  exact zRs_of 12 (by decide) rfl h1 (zwq_ok (Z_X12_back l) rfl [] (fun _ _ _ _ _ _ h => h.elim) 18 (Z_X12_back l) h)
abbrev lendP (D : zD) (x y : Int) : Prop := (0 ≤ x ∧ x < dL D) ∧ (0 ≤ y ∧ y < dL D)
abbrev lendQ (D : zD) (x y z : Int) : Prop := dN D < 12 ∧ x ≠ y ∧ (1 ≤ z ∧ z ≤ 2) ∧ 0 < dU D (2 * x.toNat + z.toNat - 1)
/-- one shoe more, one less -/
def movD (D : zD) (a b : Nat) : zD := zu (zu D 14 a (dU D a - 1)) 14 b (dU D b + 1)
def lendN (D : zD) (x y z : Int) : zD := movD (zu (zu (zu (zu D 13 (3 * dN D) x.toNat) 13 (3 * dN D + 1) y.toNat) 13 (3 * dN D + 2) z.toNat) 12 0 (dN D + 1)) (2 * x.toNat + z.toNat - 1) (2 * y.toNat + z.toNat - 1)
def lendA (D : zD) (x y z : Int) : Nat × Int := if lendP D x y then (if lendQ D x y z then (0, (dN D : Int) + 1) else (0, -1)) else (1, 0)
def lendD (D : zD) (x y z : Int) : zD := if lendP D x y ∧ lendQ D x y z then lendN D x y z else D
def lendT (D T : zD) (x y z : Int) : zD := if lendP D x y ∧ ¬ lendQ D x y z then zu T 3 1 (T 3 1 + 1) else T
def backN (D : zD) : zD := movD (zu D 12 0 (dN D - 1)) (2 * dT D (3 * (dN D - 1) + 1) + dT D (3 * (dN D - 1) + 2) - 1) (2 * dT D (3 * (dN D - 1)) + dT D (3 * (dN D - 1) + 2) - 1)
def backA (D : zD) : Nat × Int := if dN D = 0 then (0, -1) else (0, (dN D : Int) - 1)
def backD (D : zD) : zD := if dN D = 0 then D else backN D
theorem lnd_lt {D D' : zD} {n : Nat} (h : ∀ k, k < 3 * n → dT D' k = dT D k) (l s : Nat) : ∀ k, k ≤ n → lnd D' l s k = lnd D l s k := by
  intro k
  induction k with
  | zero => intro _; rfl
  | succ k ih =>
    intro hk
    show lnd D' l s k + lnd1 D' l s k = lnd D l s k + lnd1 D l s k
    unfold lnd1
    rw [ih (by omega), h _ (by omega), h _ (by omega), h _ (by omega)]
/-- D is changed in what is lent -/
theorem dOK.lnt {D D' : zD} (h : dOK D) (h1 : ∀ c, c < 12 → D' c = D c) (hn : dN D' ≤ 12) (hl : ∀ k, k < dN D' → dT D' (3 * k) < dL D ∧ dT D' (3 * k + 1) < dL D ∧ (dT D' (3 * k + 2) = 1 ∨ dT D' (3 * k + 2) = 2) ∧ dT D' (3 * k) ≠ dT D' (3 * k + 1))
    (hp : ∀ l s k, l < dL D → (s = 1 ∨ s = 2) → k ≤ dN D' → 0 ≤ (dE D (2 * l + s - 1) : Int) + lnd D' l s k) (hs : ∀ l s, l < dL D → (s = 1 ∨ s = 2) → (dU D' (2 * l + s - 1) : Int) = (dE D (2 * l + s - 1) : Int) + lnd D' l s (dN D')) : dOK D' := by
  have e0 : dR D' = dR D := congrFun (h1 0 (by omega)) 0
  have e1 : dL D' = dL D := congrFun (h1 0 (by omega)) 1
  have e2 : dF D' = dF D := congrFun (h1 0 (by omega)) 2
  have e3 : dQ D' = dQ D := congrFun (h1 10 (by omega)) 0
  have e4 : dP D' = dP D := congrFun (h1 10 (by omega)) 1
  have f1 : dG D' = dG D := h1 1 (by omega)
  have f2 : dW D' = dW D := h1 2 (by omega)
  have f3 : dH D' = dH D := h1 3 (by omega)
  have f4 : dE D' = dE D := h1 4 (by omega)
  have f6 : dA D' = dA D := h1 6 (by omega)
  have f7 : dM D' = dM D := h1 7 (by omega)
  have f8 : dD D' = dD D := h1 8 (by omega)
  have f9 : dK D' = dK D := h1 9 (by omega)
  have f11 : dS D' = dS D := h1 11 (by omega)
  unfold dOK
  rw [e0, e1, e2, e3, e4, f1, f2, f3, f4, f6, f7, f8, f9, f11]
  exact ⟨h.rooms, h.lodgers, h.finders, h.goods, h.whose, h.livesIn, h.home, h.whoseHome, h.feet, h.law, h.may, h.mayRoom, h.day, h.dayMay, h.looks, h.seenHour, h.seenRooms, h.seen, hn, hl, hp, hs⟩
