/-! draw -/
def drS (M : Nat → Nat) (its : Int) (k : Nat) : Int := if 1 < (bl (M k)).length then zwr (zwr (its * 1103515245) + 12345) else its
def drC (M : Nat → Nat) (its : Int) (k : Nat) : Nat := if 1 < (bl (M k)).length then (drS M its k / 65536 % 32768).toNat % (bl (M k)).length else 0
def drV (M : Nat → Nat) (its : Int) (k : Nat) : Nat := (bl (M k)).getD (drC M its k) 0
def drI (M : Nat → Nat) (t : Nat) : Nat → Nat → Int → zD → Int × zD
  | 0, _, its, D => (its, D)
  | f + 1, j, its, D => drI M t f (j + 1) (drS M its (24 * j + t)) (zu D 8 (24 * j + t) (drV M its (24 * j + t)))
def drO (M : Nat → Nat) (L : Nat) : Nat → Nat → Int → zD → zD
  | 0, _, _, D => D
  | f + 1, t, its, D => drO M L f (t + 1) (drI M t L 0 its D).1 (drI M t L 0 its D).2
def drawD (D : zD) (x : Int) : zD := drO (dM D) (dL D) 24 0 x D
theorem drC_lt {M : Nat → Nat} {its : Int} {k : Nat} (h : 0 < (bl (M k)).length) : drC M its k < (bl (M k)).length := by
  unfold drC
  split
  · exact Nat.mod_lt _ h
  · exact h
theorem dOK.day1 {D : zD} (hD : dOK D) {k v : Nat} (hk : k < 24 * dL D) (hv : v ∈ bl (dM D k)) : dOK (zu D 8 k v) := by
  have h6 := hD.lodgers
  have hm := hD.may k hk
  have hb := (bl_mem.mp hv).2
  have h12 : v < 12 := by
    by_cases c : v < 12
    · exact c
    · rw [bt1_hi (k := 12) hm.2 (by omega)] at hb
      omega
  refine hD.upd (fun c hc => funext fun j => zuD_n (Or.inl (by omega))) (fun j hj => ?_) (fun j hj => ?_) hD.looks hD.seenHour hD.seenRooms hD.seen
  · show zu D 8 k v 8 j < 12
    rw [zu_if]
    split
    · exact h12
    · exact hD.day j hj
  · show bt1 (dM D j) (zu D 8 k v 8 j) = 1
    rw [zu_if]
    split
    · rename_i e; rw [e]; exact hb
    · exact hD.dayMay j hj
theorem drV_mem {D : zD} (hD : dOK D) {k : Nat} {its : Int} (hk : k < 24 * dL D) : drV (dM D) its k ∈ bl (dM D k) := by
  have hm := hD.may k hk
  exact lget_mem (drC_lt (bl_pos hm.1 hm.2))
theorem drI_ok {M : Nat → Nat} {t : Nat} (ht : t < 24) : ∀ f j its D, dOK D → dM D = M → j + f = dL D → dOK (drI M t f j its D).2 ∧ ∀ c, c ≠ 8 → (drI M t f j its D).2 c = D c := by
  intro f
  induction f with
  | zero => intro j its D hD _ _; exact ⟨hD, fun _ _ => rfl⟩
  | succ f ih =>
    intro j its D hD hM hj
    subst hM
    have hk : 24 * j + t < 24 * dL D := by omega
    obtain ⟨h1, h2⟩ := ih (j + 1) (drS (dM D) its (24 * j + t)) _ (hD.day1 hk (drV_mem hD (its := its) hk)) rfl (by show j + 1 + f = dL D; omega)
    exact ⟨h1, fun c hc => (h2 c hc).trans (funext fun i => zuD_n (Or.inl hc))⟩
theorem drO_ok {M : Nat → Nat} {L : Nat} : ∀ f t its D, dOK D → dM D = M → dL D = L → t + f = 24 → dOK (drO M L f t its D) ∧ ∀ c, c ≠ 8 → drO M L f t its D c = D c := by
  intro f
  induction f with
  | zero => intro t its D hD _ _ _; exact ⟨hD, fun _ _ => rfl⟩
  | succ f ih =>
    intro t its D hD hM hL ht
    obtain ⟨h1, h2⟩ := drI_ok (M := M) (t := t) (by omega) L 0 its D hD hM (by omega)
    have e7 : dM (drI M t L 0 its D).2 = M := (h2 7 (by omega)).trans hM
    have e0 : dL (drI M t L 0 its D).2 = L := (congrFun (h2 0 (by omega)) 1).trans hL
    obtain ⟨h3, h4⟩ := ih (t + 1) (drI M t L 0 its D).1 (drI M t L 0 its D).2 h1 e7 e0 (by omega)
    exact ⟨h3, fun c hc => (h4 c hc).trans (h2 c hc)⟩
def B_X0_drawDay : List (Nat × zC) := [(29, (0, 0, 2, 0, 0, 0, 6)), (36, (1, 1, 1, 0, 0, 0, 0)), (88, (3, 2, 2, 0, 0, 0, 0))]
def O_X0_drawDay : zO := fun j a S K => match j with
  | 0 => wp_X6_doings a S K
  | 1 => wp_J6_bitCount_0f7a4 a S K
  | 2 => wp_X11_nthBit a S K
  | _ => False
theorem E_X0_drawDay (l : Launch) : ∀ q ∈ B_X0_drawDay, zcok l O_X0_drawDay F_X0_drawDay q.1 q.2 := List.forall_mem_cons.mpr ⟨⟨51, yX6_doings, cX6_doings, 4, some .int, by decide +kernel, C_0_51, W_X6_doings, I_X6_doings, S_X6_doings, rfl, rfl, R_X6_doings l⟩, List.forall_mem_cons.mpr ⟨⟨80, yJ6_bitCount_0f7a4, cJ6_bitCount_0f7a4, 1, some .int, by decide +kernel, C_0_80, W_J6_bitCount_0f7a4, I_J6_bitCount_0f7a4, rfl, R_J6_bitCount_0f7a4 l⟩, List.forall_mem_cons.mpr ⟨⟨55, yX11_nthBit, cX11_nthBit, 4, some .int, RX11, by decide +kernel, by decide +kernel, W_X11_nthBit, I_X11_nthBit, rfl, R_X11_nthBit l⟩, fun _ h => by cases h⟩⟩⟩
def U_X0_drawDay : List (Nat × zE) := [(0, Sum.inl (2, 2, 0, 0, 1, [])), (1, Sum.inl (5, 3, 0, 0, 2, [])), (2, Sum.inl (0, 0, 0, 0, 3, [])), (3, Sum.inl (5, 4, 0, 0, 5, [])), (5, Sum.inl (2, 4, 0, 0, 7, [])), (7, Sum.inl (0, 0, 0, 24, 9, [])), (9, Sum.inl (16, 1, 12, 0, 104, [])), (12, Sum.inl (0, 0, 0, 0, 13, [])), (13, Sum.inl (5, 5, 0, 0, 15, [])), (15, Sum.inl (2, 5, 0, 0, 17, [])), (17, Sum.inl (4, 1, 0, 0, 18, [])), (18, Sum.inl (18, 6, 8, 0, 21, [])), (21, Sum.inl (16, 1, 24, 0, 98, [])), (24, Sum.inl (4, 1, 0, 0, 25, [])), (25, Sum.inl (2, 5, 0, 0, 27, [])), (27, Sum.inl (2, 4, 0, 0, 29, [])), (29, Sum.inr (0, 0, 2, 0, 0, 0, 6)), (32, Sum.inl (5, 6, 0, 0, 34, [])), (34, Sum.inl (2, 6, 0, 0, 36, [])), (36, Sum.inr (1, 1, 1, 0, 0, 0, 0)), (39, Sum.inl (5, 7, 0, 0, 41, [])), (41, Sum.inl (0, 0, 0, 0, 42, [])), (42, Sum.inl (5, 8, 0, 0, 44, [])), (44, Sum.inl (2, 7, 0, 0, 46, [])), (46, Sum.inl (0, 0, 0, 1, 47, [])), (47, Sum.inl (16, 2, 50, 0, 72, [])), (50, Sum.inl (2, 3, 0, 0, 51, [])), (51, Sum.inl (0, 0, 0, 1103515245, 53, [])), (53, Sum.inl (9, 2, 1, 0, 54, [])), (54, Sum.inl (0, 0, 0, 12345, 57, [])), (57, Sum.inl (9, 0, 1, 0, 58, [])), (58, Sum.inl (5, 3, 0, 0, 59, [])), (59, Sum.inl (2, 3, 0, 0, 60, [])), (60, Sum.inl (0, 0, 0, 16, 62, [])), (62, Sum.inl (9, 8, 0, 0, 63, [])), (63, Sum.inl (0, 0, 0, 32767, 66, [])), (66, Sum.inl (9, 3, 0, 0, 67, [])), (67, Sum.inl (2, 7, 0, 0, 69, [])), (69, Sum.inl (9, 10, 0, 0, 70, [])), (70, Sum.inl (5, 8, 0, 0, 72, [])), (72, Sum.inl (4, 0, 0, 0, 73, [])), (73, Sum.inl (18, 0, 4, 0, 76, [])), (76, Sum.inl (2, 5, 0, 0, 78, [])), (78, Sum.inl (0, 0, 0, 24, 80, [])), (80, Sum.inl (9, 2, 0, 0, 81, [])), (81, Sum.inl (2, 4, 0, 0, 83, [])), (83, Sum.inl (9, 0, 0, 0, 84, [])), (84, Sum.inl (2, 6, 0, 0, 86, [])), (86, Sum.inl (2, 8, 0, 0, 88, [])), (88, Sum.inr (3, 2, 2, 0, 0, 0, 0)), (91, Sum.inl (21, 0, 0, 0, 92, [])), (92, Sum.inl (8, 5, 0, 1, 95, [])), (95, Sum.inl (15, 0, 0, 0, 15, [])), (98, Sum.inl (8, 4, 0, 1, 101, [])), (101, Sum.inl (15, 0, 0, 0, 5, [])), (104, Sum.inl (29, 0, 0, 0, 105, []))]
theorem Z_X0_drawDay (l : Launch) : ∀ q ∈ U_X0_drawDay, zTok l O_X0_drawDay F_X0_drawDay q := zU_ok rfl rfl rfl K_X0_drawDay (E_X0_drawDay l)
def wp_X0_drawDay (a : List zV) (S : zS) (K : zR2 → zS → Prop) : Prop := match a with
  | [.inr (.inl c), .inr (.inl p), .inl x] => ∃ D : zD, (c = 20 ∧ p = 3 ∧ dOK D ∧ cOK S D) ∧ ∀ S', cOK S' (drawD D x) → (∀ c, c ≠ 25 → S' c = S c) → K (.inl none) S'
  | _ => False
section
variable {l : Launch} {Q : zR2 → zS → Prop} {M : Nat → Nat} {L t : Nat} {x : Int} {S0 : zS} {fin : Int × zD}
set_option maxHeartbeats 8000000 in
theorem L1_X0_drawDay (ht : t < 24) (hk : ∀ S', cOK S' fin.2 → (∀ c, c ≠ 25 → S' c = S0 c) → zGs l 1 0 0 F_X0_drawDay S' 5 [(0, .inr (.inl 20)), (1, .inr (.inl 3)), (2, .inl x), (3, .inl fin.1), (4, .inl ((t : Int) + 1))] [] Q) (f : Nat) : ∀ j its D S, j + f = L → dOK D → cOK S D → dM D = M → dL D = L → drI M t f j its D = fin → (∀ c, c ≠ 25 → S c = S0 c) → zGs l 1 0 0 F_X0_drawDay S 15 [(0, .inr (.inl 20)), (1, .inr (.inl 3)), (2, .inl x), (3, .inl its), (4, .inl (t : Int)), (5, .inl (j : Int))] [] Q := by
  induction f with
  | zero =>
    intro j its D S hj hD hC hM hL hfin hfr
    have hfin : (its, D) = fin := hfin
    subst hfin
    have e := hC.lodgers
    refine zwq_ok (Z_X0_drawDay l) rfl [5] (fun _ _ _ _ _ _ h => h) 400 (Z_X0_drawDay l) ?_
    refine ⟨fun c => by omega, fun c => ⟨by omega, ?_⟩⟩
    exact zGs.sub (lo := [(0, _), (1, _), (2, _), (3, _), (4, _), (5, _)]) (hk S hC hfr) (fun q hq => by simp only [List.mem_cons, List.not_mem_nil, or_false] at hq; rcases hq with rfl | rfl | rfl | rfl | rfl <;> first | exact .head _ | exact .tail _ (.head _) | exact .tail _ (.tail _ (.head _)) | exact .tail _ (.tail _ (.tail _ (.head _))) | exact .tail _ (.tail _ (.tail _ (.tail _ (.head _)))) | exact .tail _ (.tail _ (.tail _ (.tail _ (.tail _ (.head _))))) | exact .tail _ (.tail _ (.tail _ (.tail _ (.tail _ (.tail _ (.head _)))))) | exact .tail _ (.tail _ (.tail _ (.tail _ (.tail _ (.tail _ (.tail _ (.head _))))))) | exact .tail _ (.tail _ (.tail _ (.tail _ (.tail _ (.tail _ (.tail _ (.tail _ (.head _)))))))) | exact .tail _ (.tail _ (.tail _ (.tail _ (.tail _ (.tail _ (.tail _ (.tail _ (.tail _ (.head _))))))))) | exact .tail _ (.tail _ (.tail _ (.tail _ (.tail _ (.tail _ (.tail _ (.tail _ (.tail _ (.tail _ (.head _)))))))))) | exact .tail _ (.tail _ (.tail _ (.tail _ (.tail _ (.tail _ (.tail _ (.tail _ (.tail _ (.tail _ (.tail _ (.head _))))))))))) | exact .tail _ (.tail _ (.tail _ (.tail _ (.tail _ (.tail _ (.tail _ (.tail _ (.tail _ (.tail _ (.tail _ (.tail _ (.head _)))))))))))) | exact .tail _ (.tail _ (.tail _ (.tail _ (.tail _ (.tail _ (.tail _ (.tail _ (.tail _ (.tail _ (.tail _ (.tail _ (.tail _ (.head _))))))))))))))
  | succ f ih =>
    intro j its D S hj hD hC hM hL hfin hfr
    have e := hC.lodgers
    have h6 := hD.lodgers
    have hj2 : 24 * j + t < 24 * dL D := by omega
    have hm := hD.may (24 * j + t) hj2
    have hs := chkA_ok hm.2
    have hp := bl_pos hm.1 hm.2
    have h12 := bl_12 hm.2
    have hv := drV_mem hD (its := its) hj2
    have hlt := drC_lt (M := dM D) (its := its) hp
    have hc : cOK (zu S 25 (24 * j + t) (tol (drV (dM D) its (24 * j + t)) : Int)) (zu D 8 (24 * j + t) (drV (dM D) its (24 * j + t))) := ⟨hC.rooms, hC.lodgers, hC.finders, hC.mays, hC.goods, hC.tenant, hC.home, hC.told, hC.law, hC.lent, hC.seenHour, hC.seenRooms, hC.givers, hC.takers, hC.lentShoes, hC.shoes, (fun k hk => by
      show zu S 25 _ _ 25 k = ((tol (zu D 8 _ _ 8 k) : Nat) : Int)
      rw [zu_if, zu_if]
      split
      · rfl
      · exact hC.day k hk), hC.rounds, hC.seen⟩
    subst hM
    have ih' := ih (j + 1) (drS (dM D) its (24 * j + t)) _ _ (by omega) (hD.day1 hj2 hv) hc rfl hL hfin (fun c hc9 => (zu_c hc9).trans (hfr c hc9))
    have hget : (bl (spr (dM D (24 * j + t))))[drC (dM D) its (24 * j + t)]? = some (tol (drV (dM D) its (24 * j + t))) := by
      rw [hs.2.1, List.getElem?_map, lget hlt]
      rfl
    refine zwq_ok (Z_X0_drawDay l) rfl [15] (fun _ _ _ _ _ _ h => h) 400 (Z_X0_drawDay l) ?_
    refine ⟨fun c => ⟨D, j, t, ⟨rfl, hD, hC, rfl, rfl, by omega, ht⟩, _, dM D (24 * j + t), ⟨rfl, Or.inr ⟨rfl, hm.2⟩⟩, fun c2 => ?_, fun c2 => ?_⟩, fun c => by omega⟩
    · have e1 : drS (dM D) its (24 * j + t) = zwr (zwr (its * 1103515245) + 12345) := by unfold drS; rw [if_pos (by omega)]
      have e2 : drC (dM D) its (24 * j + t) = (zwr (zwr (its * 1103515245) + 12345) / 65536 % 32768).toNat % (bl (dM D (24 * j + t))).length := by unfold drC; rw [if_pos (by omega), e1]
      rw [e1] at ih'
      refine ⟨⟨by rw [zush_d]; omega, by omega⟩, by omega, by omega, spr (dM D (24 * j + t)), drC (dM D) its (24 * j + t), tol (drV (dM D) its (24 * j + t)), ⟨rfl, hs.2.2.2, ?_, hget⟩, 24 * j + t, ⟨by omega, by omega⟩, by omega, ?_⟩
      · rw [zush_d, e2]
        have hr : 0 ≤ zwr (zwr (its * 1103515245) + 12345) / 65536 % 32768 := by omega
        generalize zwr (zwr (its * 1103515245) + 12345) / 65536 % 32768 = r at *
        rw [Int.natCast_emod, Int.toNat_of_nonneg hr]
      · exact zGs.sub (lo := [(0, _), (1, _), (2, _), (3, _), (4, _), (5, _), (6, _), (7, _), (8, _)]) ih' (fun q hq => by simp only [List.mem_cons, List.not_mem_nil, or_false] at hq; rcases hq with rfl | rfl | rfl | rfl | rfl | rfl <;> first | exact .head _ | exact .tail _ (.head _) | exact .tail _ (.tail _ (.head _)) | exact .tail _ (.tail _ (.tail _ (.head _))) | exact .tail _ (.tail _ (.tail _ (.tail _ (.head _)))) | exact .tail _ (.tail _ (.tail _ (.tail _ (.tail _ (.head _))))) | exact .tail _ (.tail _ (.tail _ (.tail _ (.tail _ (.tail _ (.head _)))))) | exact .tail _ (.tail _ (.tail _ (.tail _ (.tail _ (.tail _ (.tail _ (.head _))))))) | exact .tail _ (.tail _ (.tail _ (.tail _ (.tail _ (.tail _ (.tail _ (.tail _ (.head _)))))))) | exact .tail _ (.tail _ (.tail _ (.tail _ (.tail _ (.tail _ (.tail _ (.tail _ (.tail _ (.head _))))))))) | exact .tail _ (.tail _ (.tail _ (.tail _ (.tail _ (.tail _ (.tail _ (.tail _ (.tail _ (.tail _ (.head _)))))))))) | exact .tail _ (.tail _ (.tail _ (.tail _ (.tail _ (.tail _ (.tail _ (.tail _ (.tail _ (.tail _ (.tail _ (.head _))))))))))) | exact .tail _ (.tail _ (.tail _ (.tail _ (.tail _ (.tail _ (.tail _ (.tail _ (.tail _ (.tail _ (.tail _ (.tail _ (.head _)))))))))))) | exact .tail _ (.tail _ (.tail _ (.tail _ (.tail _ (.tail _ (.tail _ (.tail _ (.tail _ (.tail _ (.tail _ (.tail _ (.tail _ (.head _))))))))))))))
    · have e1 : drS (dM D) its (24 * j + t) = its := by unfold drS; rw [if_neg (by omega)]
      have e2 : drC (dM D) its (24 * j + t) = 0 := by unfold drC; rw [if_neg (by omega)]
      rw [e1] at ih'
      refine ⟨by omega, by omega, spr (dM D (24 * j + t)), drC (dM D) its (24 * j + t), tol (drV (dM D) its (24 * j + t)), ⟨rfl, hs.2.2.2, by rw [e2]; rfl, hget⟩, 24 * j + t, ⟨by omega, by omega⟩, by omega, ?_⟩
      exact zGs.sub (lo := [(0, _), (1, _), (2, _), (3, _), (4, _), (5, _), (6, _), (7, _), (8, _)]) ih' (fun q hq => by simp only [List.mem_cons, List.not_mem_nil, or_false] at hq; rcases hq with rfl | rfl | rfl | rfl | rfl | rfl <;> first | exact .head _ | exact .tail _ (.head _) | exact .tail _ (.tail _ (.head _)) | exact .tail _ (.tail _ (.tail _ (.head _))) | exact .tail _ (.tail _ (.tail _ (.tail _ (.head _)))) | exact .tail _ (.tail _ (.tail _ (.tail _ (.tail _ (.head _))))) | exact .tail _ (.tail _ (.tail _ (.tail _ (.tail _ (.tail _ (.head _)))))) | exact .tail _ (.tail _ (.tail _ (.tail _ (.tail _ (.tail _ (.tail _ (.head _))))))) | exact .tail _ (.tail _ (.tail _ (.tail _ (.tail _ (.tail _ (.tail _ (.tail _ (.head _)))))))) | exact .tail _ (.tail _ (.tail _ (.tail _ (.tail _ (.tail _ (.tail _ (.tail _ (.tail _ (.head _))))))))) | exact .tail _ (.tail _ (.tail _ (.tail _ (.tail _ (.tail _ (.tail _ (.tail _ (.tail _ (.tail _ (.head _)))))))))) | exact .tail _ (.tail _ (.tail _ (.tail _ (.tail _ (.tail _ (.tail _ (.tail _ (.tail _ (.tail _ (.tail _ (.head _))))))))))) | exact .tail _ (.tail _ (.tail _ (.tail _ (.tail _ (.tail _ (.tail _ (.tail _ (.tail _ (.tail _ (.tail _ (.tail _ (.head _)))))))))))) | exact .tail _ (.tail _ (.tail _ (.tail _ (.tail _ (.tail _ (.tail _ (.tail _ (.tail _ (.tail _ (.tail _ (.tail _ (.tail _ (.head _))))))))))))))
theorem L2_X0_drawDay {fin : zD} (hk : ∀ S', cOK S' fin → (∀ c, c ≠ 25 → S' c = S0 c) → Q (.inl none) S') (f : Nat) : ∀ t its D S, t + f = 24 → dOK D → cOK S D → dM D = M → dL D = L → drO M L f t its D = fin → (∀ c, c ≠ 25 → S c = S0 c) → zGs l 1 0 0 F_X0_drawDay S 5 [(0, .inr (.inl 20)), (1, .inr (.inl 3)), (2, .inl x), (3, .inl its), (4, .inl (t : Int))] [] Q := by
  induction f with
  | zero =>
    intro t its D S ht hD hC hM hL hfin hfr
    have hfin : D = fin := hfin
    subst hfin
    refine zwq_ok (Z_X0_drawDay l) rfl [15] (fun _ _ _ _ _ _ h => h) 400 (Z_X0_drawDay l) ?_
    exact ⟨fun c => by omega, fun c => hk S hC hfr⟩
  | succ f ih =>
    intro t its D S ht hD hC hM hL hfin hfr
    obtain ⟨h1, h2⟩ := drI_ok (M := M) (t := t) (by omega) L 0 its D hD hM (by omega)
    refine zwq_ok (Z_X0_drawDay l) rfl [15] (fun _ _ _ _ _ _ h => h) 400 (Z_X0_drawDay l) ?_
    refine ⟨fun c => ?_, fun c => by omega⟩
    exact L1_X0_drawDay (S0 := S0) (fin := drI M t L 0 its D) (by omega) (fun S' hC' hf' => ih (t + 1) _ _ S' (by omega) h1 hC' ((h2 7 (by omega)).trans hM) ((congrFun (h2 0 (by omega)) 1).trans hL) hfin hf') L 0 its D S (by omega) hD hC hM hL rfl hfr
end
theorem R_X0_drawDay (l : Launch) (a : List zV) (S : zS) (Q : zR2 → zS → Prop) (h : wp_X0_drawDay a S Q) : zRs l 1 0 0 yX0_drawDay (.code yX0_drawDay cX0_drawDay 9 (none)) a S Q := by
  unfold wp_X0_drawDay at h
  split at h
  · obtain ⟨D, ⟨rfl, rfl, hD, hC⟩, h⟩ := h
    refine zRs_of 0 (by decide) rfl rfl ?_; refine zwq_ok (Z_X0_drawDay l) rfl [5] (fun _ _ _ _ _ _ h => h) 400 (Z_X0_drawDay l) ?_
    exact L2_X0_drawDay (S0 := S) (fin := drawD D _) h 24 0 _ D S (by omega) hD hC rfl rfl rfl (fun _ _ => rfl)
  · exact h.elim
def B_X12_draw : List (Nat × zC) := [(43, (1, 0, 1, 0, 0, 0, 0)), (110, (1, 1, 1, 0, 0, 0, 0))]
def O_X12_draw : zO := fun j a S K => match j with
  | 0 => wp_X12_bits a S K
  | 1 => wp_X12_lowest a S K
  | _ => False
theorem E_X12_draw (l : Launch) : ∀ q ∈ B_X12_draw, zcok l O_X12_draw F_X12_draw q.1 q.2 := List.forall_mem_cons.mpr ⟨⟨308, yX12_bits, cX12_bits, 3, some .int, by decide +kernel, C_12_308, W_X12_bits, I_X12_bits, rfl, R_X12_bits l⟩, List.forall_mem_cons.mpr ⟨⟨280, yX12_lowest, cX12_lowest, 2, some .int, by decide +kernel, C_12_280, W_X12_lowest, I_X12_lowest, rfl, R_X12_lowest l⟩, fun _ h => by cases h⟩⟩
def U_X12_draw : List (Nat × zE) := [(0, Sum.inl (4, 0, 0, 0, 1, [])), (1, Sum.inl (0, 0, 0, 0, 2, [])), (2, Sum.inl (19, 12, 0, 0, 5, [])), (5, Sum.inl (2, 1, 0, 0, 6, [])), (6, Sum.inl (5, 2, 0, 0, 7, [])), (7, Sum.inl (0, 0, 0, 0, 8, [])), (8, Sum.inl (5, 3, 0, 0, 9, [])), (9, Sum.inl (2, 3, 0, 0, 10, [])), (10, Sum.inl (0, 0, 0, 24, 12, [])), (12, Sum.inl (16, 1, 15, 0, 126, [])), (15, Sum.inl (0, 0, 0, 0, 16, [])), (16, Sum.inl (5, 4, 0, 0, 18, [])), (18, Sum.inl (2, 4, 0, 0, 20, [])), (20, Sum.inl (4, 0, 0, 0, 21, [])), (21, Sum.inl (18, 12, 2, 0, 24, [])), (24, Sum.inl (16, 1, 27, 0, 120, [])), (27, Sum.inl (4, 0, 0, 0, 28, [])), (28, Sum.inl (18, 12, 11, 0, 31, [])), (31, Sum.inl (0, 0, 0, 24, 33, [])), (33, Sum.inl (2, 4, 0, 0, 35, [])), (35, Sum.inl (9, 2, 0, 0, 36, [])), (36, Sum.inl (2, 3, 0, 0, 37, [])), (37, Sum.inl (9, 0, 0, 0, 38, [])), (38, Sum.inl (20, 0, 0, 0, 39, [])), (39, Sum.inl (5, 5, 0, 0, 41, [])), (41, Sum.inl (2, 5, 0, 0, 43, [])), (43, Sum.inr (1, 0, 1, 0, 0, 0, 0)), (46, Sum.inl (5, 6, 0, 0, 48, [])), (48, Sum.inl (2, 6, 0, 0, 50, [])), (50, Sum.inl (0, 0, 0, 1, 51, [])), (51, Sum.inl (16, 2, 54, 0, 97, [])), (54, Sum.inl (2, 2, 0, 0, 55, [])), (55, Sum.inl (0, 0, 0, 1103515245, 58, [])), (58, Sum.inl (9, 2, 1, 0, 59, [])), (59, Sum.inl (0, 0, 0, 12345, 62, [])), (62, Sum.inl (9, 0, 1, 0, 63, [])), (63, Sum.inl (5, 2, 0, 0, 64, [])), (64, Sum.inl (2, 2, 0, 0, 65, [])), (65, Sum.inl (0, 0, 0, 16, 67, [])), (67, Sum.inl (9, 7, 0, 0, 68, [])), (68, Sum.inl (0, 0, 0, 32767, 71, [])), (71, Sum.inl (9, 3, 0, 0, 72, [])), (72, Sum.inl (2, 6, 0, 0, 74, [])), (74, Sum.inl (9, 10, 0, 0, 75, [])), (75, Sum.inl (5, 7, 0, 0, 77, [])), (77, Sum.inl (2, 7, 0, 0, 79, [])), (79, Sum.inl (17, 2, 82, 0, 97, [])), (82, Sum.inl (2, 5, 0, 0, 84, [])), (84, Sum.inl (2, 5, 0, 0, 86, [])), (86, Sum.inl (0, 0, 0, 1, 87, [])), (87, Sum.inl (9, 1, 0, 0, 88, [])), (88, Sum.inl (9, 3, 0, 0, 89, [])), (89, Sum.inl (5, 5, 0, 0, 91, [])), (91, Sum.inl (8, 7, 0, (-1), 94, [])), (94, Sum.inl (15, 0, 0, 0, 77, [])), (97, Sum.inl (4, 0, 0, 0, 98, [])), (98, Sum.inl (18, 12, 38, 0, 101, [])), (101, Sum.inl (0, 0, 0, 24, 103, [])), (103, Sum.inl (2, 4, 0, 0, 105, [])), (105, Sum.inl (9, 2, 0, 0, 106, [])), (106, Sum.inl (2, 3, 0, 0, 107, [])), (107, Sum.inl (9, 0, 0, 0, 108, [])), (108, Sum.inl (2, 5, 0, 0, 110, [])), (110, Sum.inr (1, 1, 1, 0, 0, 0, 0)), (113, Sum.inl (21, 0, 0, 0, 114, [])), (114, Sum.inl (8, 4, 0, 1, 117, [])), (117, Sum.inl (15, 0, 0, 0, 18, [])), (120, Sum.inl (8, 3, 0, 1, 123, [])), (123, Sum.inl (15, 0, 0, 0, 9, [])), (126, Sum.inl (29, 0, 0, 0, 127, []))]
theorem Z_X12_draw (l : Launch) : ∀ q ∈ U_X12_draw, zTok l O_X12_draw F_X12_draw q := zU_ok rfl rfl rfl K_X12_draw (E_X12_draw l)
def wp_X12_draw (a : List zV) (S : zS) (K : zR2 → zS → Prop) : Prop := match a with
  | [.inr (.inl c), .inl x] => ∃ D : zD, (c = 62 ∧ dOK D ∧ mOK S D) ∧ ∀ S', mOK S' (drawD D x) → (∀ c, c ≠ 80 → S' c = zu S 62 0 0 c) → K (.inl none) S'
  | _ => False
section
variable {l : Launch} {Q : zR2 → zS → Prop} {M : Nat → Nat} {L t : Nat} {x : Int} {S0 : zS} {fin : Int × zD}
theorem L0_X12_draw {S : zS} {its : Int} {t j m n len : Nat} (hn : n < (bl m).length) (hk : ∀ m', m' < 4096 → bl m' = (bl m).drop n → zGs l 1 0 0 F_X12_draw S 97 [(0, .inr (.inl 62)), (1, .inl x), (2, .inl its), (3, .inl (t : Int)), (4, .inl (j : Int)), (5, .inl (m' : Int)), (6, .inl (len : Int))] [] Q) (f : Nat) : ∀ k m', k + f = n → m' < 4096 → bl m' = (bl m).drop k → zGs l 1 0 0 F_X12_draw S 77 [(0, .inr (.inl 62)), (1, .inl x), (2, .inl its), (3, .inl (t : Int)), (4, .inl (j : Int)), (5, .inl (m' : Int)), (6, .inl (len : Int)), (7, .inl (f : Int))] [] Q := by
  have h18 := bl_le m
  induction f with
  | zero =>
    intro k m' hk2 hm' hb
    have : k = n := by omega
    subst this
    refine zwq_ok (Z_X12_draw l) rfl [77, 97] (fun _ _ _ _ _ _ h => h) 400 (Z_X12_draw l) ?_
    exact ⟨fun c => absurd c (by decide), fun c => zGs.sub (lo := [(0, _), (1, _), (2, _), (3, _), (4, _), (5, _), (6, _), (7, _)]) (hk m' hm' hb) (fun q hq => by simp only [List.mem_cons, List.not_mem_nil, or_false] at hq; rcases hq with rfl | rfl | rfl | rfl | rfl | rfl | rfl <;> first | exact .head _ | exact .tail _ (.head _) | exact .tail _ (.tail _ (.head _)) | exact .tail _ (.tail _ (.tail _ (.head _))) | exact .tail _ (.tail _ (.tail _ (.tail _ (.head _)))) | exact .tail _ (.tail _ (.tail _ (.tail _ (.tail _ (.head _))))) | exact .tail _ (.tail _ (.tail _ (.tail _ (.tail _ (.tail _ (.head _)))))) | exact .tail _ (.tail _ (.tail _ (.tail _ (.tail _ (.tail _ (.tail _ (.head _))))))) | exact .tail _ (.tail _ (.tail _ (.tail _ (.tail _ (.tail _ (.tail _ (.tail _ (.head _)))))))) | exact .tail _ (.tail _ (.tail _ (.tail _ (.tail _ (.tail _ (.tail _ (.tail _ (.tail _ (.head _))))))))) | exact .tail _ (.tail _ (.tail _ (.tail _ (.tail _ (.tail _ (.tail _ (.tail _ (.tail _ (.tail _ (.head _)))))))))) | exact .tail _ (.tail _ (.tail _ (.tail _ (.tail _ (.tail _ (.tail _ (.tail _ (.tail _ (.tail _ (.tail _ (.head _))))))))))) | exact .tail _ (.tail _ (.tail _ (.tail _ (.tail _ (.tail _ (.tail _ (.tail _ (.tail _ (.tail _ (.tail _ (.tail _ (.head _)))))))))))) | exact .tail _ (.tail _ (.tail _ (.tail _ (.tail _ (.tail _ (.tail _ (.tail _ (.tail _ (.tail _ (.tail _ (.tail _ (.tail _ (.head _))))))))))))))⟩
  | succ f ih =>
    intro k m' hk2 hm' hb
    have hpos : 1 ≤ m' := by
      by_cases z : m' = 0
      · subst z
        have e9 : bl 0 = [] := by decide +kernel
        rw [e9] at hb
        have := congrArg List.length hb
        rw [List.length_drop] at this
        simp at this
        omega
      · omega
    have e := bl_and hm' hpos
    have ht := (chkA_ok hm').2.2.1
    have hle : m' &&& (m' - 1) ≤ m' := Nat.and_le_left
    have ih' := ih (k + 1) (m' &&& (m' - 1)) (by omega) (by omega) (by rw [ht, hb, List.tail_drop])
    refine zwq_ok (Z_X12_draw l) rfl [77, 97] (fun _ _ _ _ _ _ h => h) 400 (Z_X12_draw l) ?_
    refine ⟨fun c => ⟨by omega, by omega, ?_⟩, fun c => absurd c (by omega)⟩
    rw [e]
    rw [show ((f + 1 : Nat) : Int) + -1 = (f : Int) by omega]
    exact ih'
set_option maxHeartbeats 8000000 in
theorem L1_X12_draw (ht : t < 24) (hk : ∀ S', mOK S' fin.2 → (∀ c, c ≠ 80 → S' c = S0 c) → zGs l 1 0 0 F_X12_draw S' 9 [(0, .inr (.inl 62)), (1, .inl x), (2, .inl fin.1), (3, .inl ((t : Int) + 1))] [] Q) (f : Nat) : ∀ j its D S, j + f = L → dOK D → mOK S D → dM D = M → dL D = L → drI M t f j its D = fin → (∀ c, c ≠ 80 → S c = S0 c) → zGs l 1 0 0 F_X12_draw S 18 [(0, .inr (.inl 62)), (1, .inl x), (2, .inl its), (3, .inl (t : Int)), (4, .inl (j : Int))] [] Q := by
  induction f with
  | zero =>
    intro j its D S hj hD hC hM hL hfin hfr
    have hfin : (its, D) = fin := hfin
    subst hfin
    have e := hC.lodgers
    refine zwq_ok (Z_X12_draw l) rfl [9] (fun _ _ _ _ _ _ h => h) 400 (Z_X12_draw l) ?_
    refine ⟨fun c => by omega, fun c => ⟨by omega, ?_⟩⟩
    exact zGs.sub (lo := [(0, _), (1, _), (2, _), (3, _), (4, _)]) (hk S hC hfr) (fun q hq => by simp only [List.mem_cons, List.not_mem_nil, or_false] at hq; rcases hq with rfl | rfl | rfl | rfl <;> first | exact .head _ | exact .tail _ (.head _) | exact .tail _ (.tail _ (.head _)) | exact .tail _ (.tail _ (.tail _ (.head _))) | exact .tail _ (.tail _ (.tail _ (.tail _ (.head _)))) | exact .tail _ (.tail _ (.tail _ (.tail _ (.tail _ (.head _))))) | exact .tail _ (.tail _ (.tail _ (.tail _ (.tail _ (.tail _ (.head _)))))) | exact .tail _ (.tail _ (.tail _ (.tail _ (.tail _ (.tail _ (.tail _ (.head _))))))) | exact .tail _ (.tail _ (.tail _ (.tail _ (.tail _ (.tail _ (.tail _ (.tail _ (.head _)))))))) | exact .tail _ (.tail _ (.tail _ (.tail _ (.tail _ (.tail _ (.tail _ (.tail _ (.tail _ (.head _))))))))) | exact .tail _ (.tail _ (.tail _ (.tail _ (.tail _ (.tail _ (.tail _ (.tail _ (.tail _ (.tail _ (.head _)))))))))) | exact .tail _ (.tail _ (.tail _ (.tail _ (.tail _ (.tail _ (.tail _ (.tail _ (.tail _ (.tail _ (.tail _ (.head _))))))))))) | exact .tail _ (.tail _ (.tail _ (.tail _ (.tail _ (.tail _ (.tail _ (.tail _ (.tail _ (.tail _ (.tail _ (.tail _ (.head _)))))))))))) | exact .tail _ (.tail _ (.tail _ (.tail _ (.tail _ (.tail _ (.tail _ (.tail _ (.tail _ (.tail _ (.tail _ (.tail _ (.tail _ (.head _))))))))))))))
  | succ f ih =>
    intro j its D S hj hD hC hM hL hfin hfr
    have e := hC.lodgers
    have h6 := hD.lodgers
    have hj2 : 24 * j + t < 24 * dL D := by omega
    have hm := hD.may (24 * j + t) hj2
    have em := hC.may (24 * j + t) hj2
    have hp := bl_pos hm.1 hm.2
    have h12 := bl_12 hm.2
    have hv := drV_mem hD (its := its) hj2
    have hlt := drC_lt (M := dM D) (its := its) hp
    have hc : mOK (zu S 80 (24 * j + t) (drV (dM D) its (24 * j + t) : Int)) (zu D 8 (24 * j + t) (drV (dM D) its (24 * j + t))) := ⟨hC.rooms, hC.lodgers, hC.finders, hC.mays, hC.goods, hC.whose, hC.home, hC.feet, hC.law, hC.may, hC.lent, hC.seenHour, hC.seenRooms, hC.lending, (fun k hk => zuU (fun _ => hC.day k hk) rfl), hC.looks, hC.seen⟩
    subst hM
    have ih' := ih (j + 1) (drS (dM D) its (24 * j + t)) _ _ (by omega) (hD.day1 hj2 hv) hc rfl hL hfin (fun c hc9 => (zu_c hc9).trans (hfr c hc9))
    have at97 : ∀ m', m' < 4096 → bl m' = (bl (dM D (24 * j + t))).drop (drC (dM D) its (24 * j + t)) → zGs l 1 0 0 F_X12_draw S 97 [(0, .inr (.inl 62)), (1, .inl x), (2, .inl (drS (dM D) its (24 * j + t))), (3, .inl (t : Int)), (4, .inl (j : Int)), (5, .inl (m' : Int)), (6, .inl ((bl (dM D (24 * j + t))).length : Int))] [] Q := by
      intro m' hm' hb
      have e0 : (bl m')[0]? = some (drV (dM D) its (24 * j + t)) := by
        rw [hb, List.getElem?_drop, Nat.add_zero, lget hlt]
        rfl
      refine zwq_ok (Z_X12_draw l) rfl [18] (fun _ _ _ _ _ _ h => h) 400 (Z_X12_draw l) ?_
      refine ⟨by omega, by omega, m', drV (dM D) its (24 * j + t), ⟨rfl, by omega, e0⟩, 24 * j + t, ⟨by omega, by omega⟩, by omega, ?_⟩
      exact zGs.sub (lo := [(0, _), (1, _), (2, _), (3, _), (4, _), (5, _), (6, _)]) ih' (fun q hq => by simp only [List.mem_cons, List.not_mem_nil, or_false] at hq; rcases hq with rfl | rfl | rfl | rfl | rfl <;> first | exact .head _ | exact .tail _ (.head _) | exact .tail _ (.tail _ (.head _)) | exact .tail _ (.tail _ (.tail _ (.head _))) | exact .tail _ (.tail _ (.tail _ (.tail _ (.head _)))) | exact .tail _ (.tail _ (.tail _ (.tail _ (.tail _ (.head _))))) | exact .tail _ (.tail _ (.tail _ (.tail _ (.tail _ (.tail _ (.head _)))))) | exact .tail _ (.tail _ (.tail _ (.tail _ (.tail _ (.tail _ (.tail _ (.head _))))))) | exact .tail _ (.tail _ (.tail _ (.tail _ (.tail _ (.tail _ (.tail _ (.tail _ (.head _)))))))) | exact .tail _ (.tail _ (.tail _ (.tail _ (.tail _ (.tail _ (.tail _ (.tail _ (.tail _ (.head _))))))))) | exact .tail _ (.tail _ (.tail _ (.tail _ (.tail _ (.tail _ (.tail _ (.tail _ (.tail _ (.tail _ (.head _)))))))))) | exact .tail _ (.tail _ (.tail _ (.tail _ (.tail _ (.tail _ (.tail _ (.tail _ (.tail _ (.tail _ (.tail _ (.head _))))))))))) | exact .tail _ (.tail _ (.tail _ (.tail _ (.tail _ (.tail _ (.tail _ (.tail _ (.tail _ (.tail _ (.tail _ (.tail _ (.head _)))))))))))) | exact .tail _ (.tail _ (.tail _ (.tail _ (.tail _ (.tail _ (.tail _ (.tail _ (.tail _ (.tail _ (.tail _ (.tail _ (.tail _ (.head _))))))))))))))
    refine zwq_ok (Z_X12_draw l) rfl [77, 97] (fun _ _ _ _ _ _ h => h) 400 (Z_X12_draw l) ?_
    refine ⟨fun c => ⟨by omega, by omega, 24 * j + t, ⟨by omega, by omega⟩, dM D (24 * j + t), ⟨em, by omega⟩, fun c2 => ?_, fun c2 => ?_⟩, fun c => by omega⟩
    · have e1 : drS (dM D) its (24 * j + t) = zwr (zwr (its * 1103515245) + 12345) := by unfold drS; rw [if_pos (by omega)]
      have e2 : drC (dM D) its (24 * j + t) = (zwr (zwr (its * 1103515245) + 12345) / 65536 % 32768).toNat % (bl (dM D (24 * j + t))).length := by unfold drC; rw [if_pos (by omega), e1]
      have hr : zir (zwr (zwr (its * 1103515245) + 12345)) := zir_to _
      have e3 : zand (zshr (zwr (zwr (its * 1103515245) + 12345)) 16) 32767 = zwr (zwr (its * 1103515245) + 12345) / 65536 % 32768 := by
        rw [zand_32767]
        have := zshr_d hr (k := 16) (by decide)
        rw [show ((16 : Nat) : Int) = 16 from rfl] at this
        rw [this]
        rfl
      have e4 : zand (zshr (zwr (zwr (its * 1103515245) + 12345)) 16) 32767 % ((bl (dM D (24 * j + t))).length : Int) = (drC (dM D) its (24 * j + t) : Int) := by
        rw [e3, e2]
        have hr : 0 ≤ zwr (zwr (its * 1103515245) + 12345) / 65536 % 32768 := by omega
        generalize zwr (zwr (its * 1103515245) + 12345) / 65536 % 32768 = r at *
        rw [Int.natCast_emod, Int.toNat_of_nonneg hr]
      refine ⟨⟨by rw [e3]; omega, by omega⟩, ?_⟩
      rw [e4, em, ← e1]
      exact L0_X12_draw hlt at97 _ 0 _ (by omega) hm.2 rfl
    · have e1 : drS (dM D) its (24 * j + t) = its := by unfold drS; rw [if_neg (by omega)]
      have e2 : drC (dM D) its (24 * j + t) = 0 := by unfold drC; rw [if_neg (by omega)]
      have := at97 (dM D (24 * j + t)) hm.2 (by rw [e2]; rfl)
      rw [e1] at this
      rw [em]
      exact zGs.sub (lo := [(0, _), (1, _), (2, _), (3, _), (4, _), (5, _), (6, _)]) this (fun q hq => by simp only [List.mem_cons, List.not_mem_nil, or_false] at hq; rcases hq with rfl | rfl | rfl | rfl | rfl | rfl | rfl <;> first | exact .head _ | exact .tail _ (.head _) | exact .tail _ (.tail _ (.head _)) | exact .tail _ (.tail _ (.tail _ (.head _))) | exact .tail _ (.tail _ (.tail _ (.tail _ (.head _)))) | exact .tail _ (.tail _ (.tail _ (.tail _ (.tail _ (.head _))))) | exact .tail _ (.tail _ (.tail _ (.tail _ (.tail _ (.tail _ (.head _)))))) | exact .tail _ (.tail _ (.tail _ (.tail _ (.tail _ (.tail _ (.tail _ (.head _))))))) | exact .tail _ (.tail _ (.tail _ (.tail _ (.tail _ (.tail _ (.tail _ (.tail _ (.head _)))))))) | exact .tail _ (.tail _ (.tail _ (.tail _ (.tail _ (.tail _ (.tail _ (.tail _ (.tail _ (.head _))))))))) | exact .tail _ (.tail _ (.tail _ (.tail _ (.tail _ (.tail _ (.tail _ (.tail _ (.tail _ (.tail _ (.head _)))))))))) | exact .tail _ (.tail _ (.tail _ (.tail _ (.tail _ (.tail _ (.tail _ (.tail _ (.tail _ (.tail _ (.tail _ (.head _))))))))))) | exact .tail _ (.tail _ (.tail _ (.tail _ (.tail _ (.tail _ (.tail _ (.tail _ (.tail _ (.tail _ (.tail _ (.tail _ (.head _)))))))))))) | exact .tail _ (.tail _ (.tail _ (.tail _ (.tail _ (.tail _ (.tail _ (.tail _ (.tail _ (.tail _ (.tail _ (.tail _ (.tail _ (.head _))))))))))))))
theorem L2_X12_draw {fin : zD} (hk : ∀ S', mOK S' fin → (∀ c, c ≠ 80 → S' c = S0 c) → Q (.inl none) S') (f : Nat) : ∀ t its D S, t + f = 24 → dOK D → mOK S D → dM D = M → dL D = L → drO M L f t its D = fin → (∀ c, c ≠ 80 → S c = S0 c) → zGs l 1 0 0 F_X12_draw S 9 [(0, .inr (.inl 62)), (1, .inl x), (2, .inl its), (3, .inl (t : Int))] [] Q := by
  induction f with
  | zero =>
    intro t its D S ht hD hC hM hL hfin hfr
    have hfin : D = fin := hfin
    subst hfin
    refine zwq_ok (Z_X12_draw l) rfl [18] (fun _ _ _ _ _ _ h => h) 400 (Z_X12_draw l) ?_
    exact ⟨fun c => by omega, fun c => hk S hC hfr⟩
  | succ f ih =>
    intro t its D S ht hD hC hM hL hfin hfr
    obtain ⟨h1, h2⟩ := drI_ok (M := M) (t := t) (by omega) L 0 its D hD hM (by omega)
    refine zwq_ok (Z_X12_draw l) rfl [18] (fun _ _ _ _ _ _ h => h) 400 (Z_X12_draw l) ?_
    refine ⟨fun c => ?_, fun c => by omega⟩
    exact L1_X12_draw (S0 := S0) (fin := drI M t L 0 its D) (by omega) (fun S' hC' hf' => ih (t + 1) _ _ S' (by omega) h1 hC' ((h2 7 (by omega)).trans hM) ((congrFun (h2 0 (by omega)) 1).trans hL) hfin hf') L 0 its D S (by omega) hD hC hM hL rfl hfr
end
theorem R_X12_draw (l : Launch) (a : List zV) (S : zS) (Q : zR2 → zS → Prop) (h : wp_X12_draw a S Q) : zRs l 1 0 0 yX12_draw (.code yX12_draw cX12_draw 8 (none)) a S Q := by
  unfold wp_X12_draw at h
  split at h
  · obtain ⟨D, ⟨rfl, hD, hC⟩, h⟩ := h
    refine zRs_of 12 (by decide) rfl rfl ?_; refine zwq_ok (Z_X12_draw l) rfl [9] (fun _ _ _ _ _ _ h => h) 400 (Z_X12_draw l) ?_
    exact L2_X12_draw (S0 := zu S 62 0 0) (fin := drawD D _) h 24 0 _ D _ (by omega) hD (hC.u (Or.inl rfl)) rfl rfl rfl (fun _ _ => rfl)
  · exact h.elim
