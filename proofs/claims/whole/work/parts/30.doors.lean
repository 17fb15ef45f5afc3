/-! Integer.bitCount, nthBit; Plan, Affairs, Doors: what they answer -/
def B_J6_bitCount_0f7a4 : List (Nat × zC) := []
def O_J6_bitCount_0f7a4 : zO := fun j a S K => match j with
  | _ => False
theorem E_J6_bitCount_0f7a4 (l : Launch) : ∀ q ∈ B_J6_bitCount_0f7a4, zcok l O_J6_bitCount_0f7a4 F_J6_bitCount_0f7a4 q.1 q.2 := fun _ h => by cases h
def U_J6_bitCount_0f7a4 : List (Nat × zE) := [(0, Sum.inl (2, 0, 0, 0, 1, [])), (1, Sum.inl (2, 0, 0, 0, 2, [])), (2, Sum.inl (0, 0, 0, 1, 3, [])), (3, Sum.inl (9, 8, 0, 0, 4, [])), (4, Sum.inl (0, 0, 0, 1431655765, 7, [])), (7, Sum.inl (9, 3, 0, 0, 8, [])), (8, Sum.inl (9, 1, 0, 0, 9, [])), (9, Sum.inl (5, 0, 0, 0, 10, [])), (10, Sum.inl (2, 0, 0, 0, 11, [])), (11, Sum.inl (0, 0, 0, 858993459, 14, [])), (14, Sum.inl (9, 3, 0, 0, 15, [])), (15, Sum.inl (2, 0, 0, 0, 16, [])), (16, Sum.inl (0, 0, 0, 2, 17, [])), (17, Sum.inl (9, 8, 0, 0, 18, [])), (18, Sum.inl (0, 0, 0, 858993459, 21, [])), (21, Sum.inl (9, 3, 0, 0, 22, [])), (22, Sum.inl (9, 0, 0, 0, 23, [])), (23, Sum.inl (5, 0, 0, 0, 24, [])), (24, Sum.inl (2, 0, 0, 0, 25, [])), (25, Sum.inl (2, 0, 0, 0, 26, [])), (26, Sum.inl (0, 0, 0, 4, 27, [])), (27, Sum.inl (9, 8, 0, 0, 28, [])), (28, Sum.inl (9, 0, 0, 0, 29, [])), (29, Sum.inl (0, 0, 0, 252645135, 32, [])), (32, Sum.inl (9, 3, 0, 0, 33, [])), (33, Sum.inl (5, 0, 0, 0, 34, [])), (34, Sum.inl (2, 0, 0, 0, 35, [])), (35, Sum.inl (2, 0, 0, 0, 36, [])), (36, Sum.inl (0, 0, 0, 8, 38, [])), (38, Sum.inl (9, 8, 0, 0, 39, [])), (39, Sum.inl (9, 0, 0, 0, 40, [])), (40, Sum.inl (5, 0, 0, 0, 41, [])), (41, Sum.inl (2, 0, 0, 0, 42, [])), (42, Sum.inl (2, 0, 0, 0, 43, [])), (43, Sum.inl (0, 0, 0, 16, 45, [])), (45, Sum.inl (9, 8, 0, 0, 46, [])), (46, Sum.inl (9, 0, 0, 0, 47, [])), (47, Sum.inl (5, 0, 0, 0, 48, [])), (48, Sum.inl (2, 0, 0, 0, 49, [])), (49, Sum.inl (0, 0, 0, 63, 51, [])), (51, Sum.inl (9, 3, 0, 0, 52, [])), (52, Sum.inl (27, 0, 0, 0, 53, []))]
theorem Z_J6_bitCount_0f7a4 (l : Launch) : ∀ q ∈ U_J6_bitCount_0f7a4, zTok l O_J6_bitCount_0f7a4 F_J6_bitCount_0f7a4 q := zU_ok rfl rfl rfl K_J6_bitCount_0f7a4 (E_J6_bitCount_0f7a4 l)
def wp_J6_bitCount_0f7a4 (a : List zV) (S : zS) (K : zR2 → zS → Prop) : Prop := match a with
  | [.inl x] => ∃ (n m : Nat), (x = (n : Int) ∧ ((n = m ∧ m < 256) ∨ (n = spr m ∧ m < 4096))) ∧ K (.inl (some (.inl ((bl m).length : Int)))) S
  | _ => False
theorem R_J6_bitCount_0f7a4 (l : Launch) (a : List zV) (S : zS) (Q : zR2 → zS → Prop) (h : wp_J6_bitCount_0f7a4 a S Q) : zRs l 0 0 0 yJ6_bitCount_0f7a4 (.code yJ6_bitCount_0f7a4 cJ6_bitCount_0f7a4 1 (some .int)) a S Q := by
  unfold wp_J6_bitCount_0f7a4 at h
  split at h
  · obtain ⟨n, m, ⟨rfl, hm⟩, h⟩ := h
    have hn : n < 262144 := by
      rcases hm with ⟨rfl, hm⟩ | ⟨rfl, hm⟩
      · omega
      · exact (chkA_ok hm).2.2.2
    have hb : bcN n = (bl m).length := by
      rcases hm with ⟨rfl, hm⟩ | ⟨rfl, hm⟩
      · exact chkB_ok hm
      · exact (chkA_ok hm).1
    have k1 : (n / 2 &&& 1431655765) ≤ n / 2 := Nat.and_le_left
    have e1 : zand (zush (n : Int) 1) 1431655765 = ((n / 2 &&& 1431655765 : Nat) : Int) := by
      rw [show (1 : Int) = ((1 : Nat) : Int) from rfl, zush_n (by omega) (by omega)]
      exact zand_n (by omega)
    have e1' : (n : Int) - ((n / 2 &&& 1431655765 : Nat) : Int) = ((n - (n / 2 &&& 1431655765) : Nat) : Int) := by omega
    generalize ha : n - (n / 2 &&& 1431655765) = a at e1'
    have la : a < 262144 := by omega
    have e2 : zand (a : Int) 858993459 = ((a &&& 858993459 : Nat) : Int) := zand_n (b := 858993459) (by omega)
    have e3 : zand (zush (a : Int) 2) 858993459 = ((a / 4 &&& 858993459 : Nat) : Int) := by
      rw [show (2 : Int) = ((2 : Nat) : Int) from rfl, zush_n (by omega) (by omega)]
      exact zand_n (b := 858993459) (by omega)
    have k2 : (a &&& 858993459) ≤ a := Nat.and_le_left
    have k3 : (a / 4 &&& 858993459) ≤ a / 4 := Nat.and_le_left
    have e3' : ((a &&& 858993459 : Nat) : Int) + ((a / 4 &&& 858993459 : Nat) : Int) = (((a &&& 858993459) + (a / 4 &&& 858993459) : Nat) : Int) := by omega
    generalize hb2 : (a &&& 858993459) + (a / 4 &&& 858993459) = b at e3'
    have lb : b < 524288 := by omega
    have e4 : zush (b : Int) 4 = ((b / 16 : Nat) : Int) := zush_n (k := 4) (by omega) (by omega)
    have e4' : (b : Int) + ((b / 16 : Nat) : Int) = ((b + b / 16 : Nat) : Int) := by omega
    have e5 : zand ((b + b / 16 : Nat) : Int) 252645135 = (((b + b / 16) &&& 252645135 : Nat) : Int) := zand_n (b := 252645135) (by omega)
    have k5 : ((b + b / 16) &&& 252645135) ≤ b + b / 16 := Nat.and_le_left
    generalize hc : (b + b / 16) &&& 252645135 = c at e5 k5
    have e6 : zush (c : Int) 8 = ((c / 256 : Nat) : Int) := zush_n (k := 8) (by omega) (by omega)
    have e6' : (c : Int) + ((c / 256 : Nat) : Int) = ((c + c / 256 : Nat) : Int) := by omega
    generalize hd : c + c / 256 = d at e6'
    have e7 : zush (d : Int) 16 = ((d / 65536 : Nat) : Int) := zush_n (k := 16) (by omega) (by omega)
    have e7' : (d : Int) + ((d / 65536 : Nat) : Int) = ((d + d / 65536 : Nat) : Int) := by omega
    have e8 : zand ((d + d / 65536 : Nat) : Int) 63 = (((d + d / 65536) &&& 63 : Nat) : Int) := zand_n (b := 63) (by omega)
    have ef : ((d + d / 65536) &&& 63) = (bl m).length := by rw [← hb, ← hd, ← hc, ← hb2, ← ha]; rfl
    rw [ef] at e8
    refine zRs_of 14 (by decide) rfl rfl ?_; refine zwq_ok (Z_J6_bitCount_0f7a4 l) rfl [] (fun _ _ _ _ _ _ h => h) 400 (Z_J6_bitCount_0f7a4 l) ?_
    refine ⟨?_, ?_⟩
    · rw [e1]; omega
    rw [e1, e1']
    refine ⟨?_, ?_⟩
    · rw [e2, e3]; omega
    rw [e2, e3, e3']
    refine ⟨?_, ?_⟩
    · rw [e4]; omega
    rw [e4, e4']
    refine ⟨?_, ?_⟩
    · rw [e5, e6]; omega
    rw [e5, e6, e6']
    refine ⟨?_, ?_⟩
    · rw [e7]; omega
    rw [e7, e7']
    rw [← e8] at h
    exact h
  · exact h.elim
