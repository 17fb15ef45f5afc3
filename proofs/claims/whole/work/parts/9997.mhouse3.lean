/-! the house: the model's call, all of it -/
def wp_X12_house (a : List zV) (S : zS) (K : zR2 → zS → Prop) : Prop := match a with
  | [.inr (.inl c), .inl x] => ∃ (D E T : zD) (N : Nat), (c = 62 ∧ eM S D E T ∧ xOK D E T N) ∧ mRes2 S (huzD D T x) E (huzT T x) (huzA T x) K
  | _ => False
section
variable {l : Launch} {Q : zR2 → zS → Prop} {S S3 S4 : zS} {D E T : zD} {x : Int} {n N k q : Nat}
set_option maxRecDepth 20000 in
theorem E_X12_house1 (hM : eM S D E T) (hX : xOK D E T N) (fr : frH S4 S3) (fr3 : ∀ c j, c ≠ 1062 → (c < 72 ∨ 78 < c) → (c ≠ 62 ∨ (j ≠ 0 ∧ j ≠ 13 ∧ j ≠ 14 ∧ j ≠ 15 ∧ (j < 17 ∨ 28 < j))) → S3 c j = S c j) (h0 : S3 62 0 = 0) (h13 : S3 62 13 = 0) (h14 : S4 62 14 = (k : Int)) (h15 : S4 62 15 = (q : Int)) (hb : S4 62 14 ≠ 0) (h : mRes2 S D E (zu (zu (zu T 0 0 0) 2 0 (q + 1)) 3 0 (T 3 0 + 1)) (0, (k : Int)) Q) : zGs l 6 0 0 F_X12_house S4 157 [(0, .inr (.inl 62)), (1, .inl x), (2, .inl 144)] [] Q := by
  have n0 := hX.refused 0
  have nf := hX.few
  have g : ∀ c j, c ≠ 1062 → (c < 72 ∨ 78 < c) → (c ≠ 62 ∨ (j ≠ 0 ∧ j ≠ 13 ∧ j ≠ 14 ∧ j ≠ 15 ∧ (j < 17 ∨ 28 < j))) → S4 c j = S c j := fun c j a b d => (fr c j a b (by omega)).trans (fr3 c j a b d)
  have g13 : S4 62 13 = 0 := (fr 62 13 (by omega) (by omega) (by omega)).trans h13
  have g0 : S4 62 0 = 0 := (fr 62 0 (by omega) (by omega) (by omega)).trans h0
  have hS : eM (zu (zu S4 62 13 (S 62 13)) 62 15 (S 62 15)) D E T := hM.fr (fun c j h1 h2 => by
    unfold mScr at h2
    by_cases c1 : c = 62 ∧ j = 15
    · rw [c1.1, c1.2, zuE]
    · rw [zuN (by omega)]
      by_cases c2 : c = 62 ∧ j = 13
      · rw [c2.1, c2.2, zuE]
      · rw [zuN (by omega)]
        exact g c j (by omega) (by omega) (by omega))
  have er : S4 71 0 = (T 3 0 : Int) := hS.refused 0 (by decide)
  have k9 := h (zu S4 71 0 (S4 71 0 + 1)) (S4 62 14) ⟨hS.now, g13, fun k hk => absurd (show k < 0 from hk) (Nat.not_lt_zero k), by show S4 62 15 = ((q + 1 : Nat) : Int) - 1; omega, fun i hi => by
    rw [zu_i, show zu (zu (zu T 0 0 0) 2 0 (q + 1)) 3 0 (T 3 0 + 1) 3 i = if i = 0 then T 3 0 + 1 else T 3 i from zu_if]
    split
    · rw [er]; rfl
    · exact hS.refused i hi, hS.hasImage, fun z => hS.image z, hS.path, hS.pathRooms, hS.pathLooks, hS.lends, hS.lenders⟩ (fun c hc => (zu_c (by omega)).trans (funext fun j => g c j (by omega) (by omega) (by omega))) g0 (fun _ => h14)
  refine zwq_ok (Z_X12_house l) rfl [136] (fun _ _ _ _ _ _ h => h) 400 (Z_X12_house l) ?_
  exact ⟨fun z => absurd z hb, fun _ => ⟨Or.inl rfl, fun _ => ⟨0, ⟨rfl, by decide⟩, by omega, 0, ⟨rfl, by decide⟩, k9⟩, fun z => absurd rfl z⟩⟩
end
set_option maxRecDepth 20000 in
theorem R_X12_house (l : Launch) (a : List zV) (S : zS) (Q : zR2 → zS → Prop) (h : wp_X12_house a S Q) : zRs l 6 0 0 yX12_house (.code yX12_house cX12_house 4 (some .int)) a S Q := by
  unfold wp_X12_house at h
  split at h
  · rename_i c x
    obtain ⟨D, E, T, N, ⟨rfl, hM, hX⟩, h⟩ := h
    have e13 : zu S 62 0 0 62 13 = (T 0 0 : Int) := hM.tape
    have ht := hX.tape
    unfold huzA huzT huzD at h
    by_cases c : 0 ≤ x ∧ x ≤ (T 0 0 : Int)
    · rw [if_pos c, if_pos c, if_pos c] at h
      have hx : x = (x.toNat : Int) := by omega
      have go : zGs l 6 0 0 F_X12_house (zu (zu (zu (zu (zu (zu (zu (zu (zu (zu (zu (zu (zu (zu (zu S 62 0 0) 62 13 0) 62 15 (-1)) 62 14 0) 62 17 x) 62 18 0) 62 24 0) 62 25 0) 62 26 0) 62 27 0) 62 28 0) 77 0 3) 77 1 1) 77 2 2) 77 3 1) 112 [(0, .inr (.inl 62)), (1, .inl x), (2, .inl ((0 : Nat) : Int))] [] Q := by
        have fr2 : ∀ c j, c ≠ 1062 → (c < 72 ∨ 78 < c) → (c ≠ 62 ∨ (j ≠ 0 ∧ j ≠ 13 ∧ j ≠ 14 ∧ j ≠ 15 ∧ (j < 17 ∨ 28 < j))) → (zu (zu (zu (zu (zu (zu (zu (zu (zu (zu (zu (zu (zu (zu (zu S 62 0 0) 62 13 0) 62 15 (-1)) 62 14 0) 62 17 x) 62 18 0) 62 24 0) 62 25 0) 62 26 0) 62 27 0) 62 28 0) 77 0 3) 77 1 1) 77 2 2) 77 3 1) c j = S c j := fun c j a b d => by
          rw [zuN (by omega), zuN (by omega), zuN (by omega), zuN (by omega), zuN (by omega), zuN (by omega), zuN (by omega), zuN (by omega), zuN (by omega), zuN (by omega), zuN (by omega), zuN (by omega), zuN (by omega), zuN (by omega), zuN (by omega)]
        have r0 : (zu (zu (zu (zu (zu (zu (zu (zu (zu (zu (zu (zu (zu (zu (zu S 62 0 0) 62 13 0) 62 15 (-1)) 62 14 0) 62 17 x) 62 18 0) 62 24 0) 62 25 0) 62 26 0) 62 27 0) 62 28 0) 77 0 3) 77 1 1) 77 2 2) 77 3 1) 62 0 = 0 := rfl
        have r13 : (zu (zu (zu (zu (zu (zu (zu (zu (zu (zu (zu (zu (zu (zu (zu S 62 0 0) 62 13 0) 62 15 (-1)) 62 14 0) 62 17 x) 62 18 0) 62 24 0) 62 25 0) 62 26 0) 62 27 0) 62 28 0) 77 0 3) 77 1 1) 77 2 2) 77 3 1) 62 13 = 0 := rfl
        have r14 : (zu (zu (zu (zu (zu (zu (zu (zu (zu (zu (zu (zu (zu (zu (zu S 62 0 0) 62 13 0) 62 15 (-1)) 62 14 0) 62 17 x) 62 18 0) 62 24 0) 62 25 0) 62 26 0) 62 27 0) 62 28 0) 77 0 3) 77 1 1) 77 2 2) 77 3 1) 62 14 = 0 := rfl
        have r15 : (zu (zu (zu (zu (zu (zu (zu (zu (zu (zu (zu (zu (zu (zu (zu S 62 0 0) 62 13 0) 62 15 (-1)) 62 14 0) 62 17 x) 62 18 0) 62 24 0) 62 25 0) 62 26 0) 62 27 0) 62 28 0) 77 0 3) 77 1 1) 77 2 2) 77 3 1) 62 15 = -1 := rfl
        have r17 : (zu (zu (zu (zu (zu (zu (zu (zu (zu (zu (zu (zu (zu (zu (zu S 62 0 0) 62 13 0) 62 15 (-1)) 62 14 0) 62 17 x) 62 18 0) 62 24 0) 62 25 0) 62 26 0) 62 27 0) 62 28 0) 77 0 3) 77 1 1) 77 2 2) 77 3 1) 62 17 = x := rfl
        have r18 : (zu (zu (zu (zu (zu (zu (zu (zu (zu (zu (zu (zu (zu (zu (zu S 62 0 0) 62 13 0) 62 15 (-1)) 62 14 0) 62 17 x) 62 18 0) 62 24 0) 62 25 0) 62 26 0) 62 27 0) 62 28 0) 77 0 3) 77 1 1) 77 2 2) 77 3 1) 62 18 = 0 := rfl
        have r24 : ∀ j, 24 ≤ j → j ≤ 28 → (zu (zu (zu (zu (zu (zu (zu (zu (zu (zu (zu (zu (zu (zu (zu S 62 0 0) 62 13 0) 62 15 (-1)) 62 14 0) 62 17 x) 62 18 0) 62 24 0) 62 25 0) 62 26 0) 62 27 0) 62 28 0) 77 0 3) 77 1 1) 77 2 2) 77 3 1) 62 j = 0 := fun j a b => by
          have : j = 24 ∨ j = 25 ∨ j = 26 ∨ j = 27 ∨ j = 28 := by omega
          rcases this with rfl | rfl | rfl | rfl | rfl <;> rfl
        have r77 : ∀ a, a < 4 → (zu (zu (zu (zu (zu (zu (zu (zu (zu (zu (zu (zu (zu (zu (zu S 62 0 0) 62 13 0) 62 15 (-1)) 62 14 0) 62 17 x) 62 18 0) 62 24 0) 62 25 0) 62 26 0) 62 27 0) 62 28 0) 77 0 3) 77 1 1) 77 2 2) 77 3 1) 77 a = (p0 6 a : Int) := fun a ha => by
          have : a = 0 ∨ a = 1 ∨ a = 2 ∨ a = 3 := by omega
          rcases this with rfl | rfl | rfl | rfl <;> rfl
        generalize (zu (zu (zu (zu (zu (zu (zu (zu (zu (zu (zu (zu (zu (zu (zu S 62 0 0) 62 13 0) 62 15 (-1)) 62 14 0) 62 17 x) 62 18 0) 62 24 0) 62 25 0) 62 26 0) 62 27 0) 62 28 0) 77 0 3) 77 1 1) 77 2 2) 77 3 1) = S2 at *
        have go := L1_X12_house (l := l) (Q := Q) (x := x) (S := S2) (by
          have z62 : ∀ j, zfil S2 78 144 0 62 j = S2 62 j := fun j => zfil_n (by decide)
          have hT : rdM (zfil S2 78 144 0) T x.toNat := ⟨by rw [z62, r17]; exact hx, by omega, fun k hk => by rw [zfil_n (by decide), fr2 70 k (by omega) (by omega) (by omega)]; exact hM.bytes k (by omega), hX.bytes⟩
          have hP : mP (zfil S2 78 144 0) p0 := ⟨by rw [z62, r24 24 (by omega) (by omega)]; rfl, by rw [z62, r24 25 (by omega) (by omega)]; rfl, by rw [z62, r24 26 (by omega) (by omega)]; rfl, by rw [z62, r24 27 (by omega) (by omega)]; rfl, by rw [z62, r24 28 (by omega) (by omega)]; rfl, fun r hr => absurd hr (Nat.not_lt_zero r), fun r hr => absurd hr (Nat.not_lt_zero r), fun r hr => absurd hr (Nat.not_lt_zero r), fun r hr => absurd (show r < 2 * 0 from hr) (by omega), fun r hr => absurd hr (Nat.not_lt_zero r), fun a ha => by rw [zfil_n (by decide)]; exact r77 a ha, fun k hk => by rw [zfil_at hk]; rfl⟩
          have fr3 : ∀ c j, c ≠ 1062 → (c < 72 ∨ 78 < c) → (c ≠ 62 ∨ (j ≠ 0 ∧ j ≠ 13 ∧ j ≠ 14 ∧ j ≠ 15 ∧ (j < 17 ∨ 28 < j))) → zfil S2 78 144 0 c j = S c j := fun c j a b d => (zfil_n (by omega)).trans (fr2 c j a b d)
          have q0 : zfil S2 78 144 0 62 0 = 0 := (z62 0).trans r0
          have q13 : zfil S2 78 144 0 62 13 = 0 := (z62 13).trans r13
          have q14 : zfil S2 78 144 0 62 14 = 0 := (z62 14).trans r14
          have q15 : zfil S2 78 144 0 62 15 = -1 := (z62 15).trans r15
          have q18 : zfil S2 78 144 0 62 18 = ((0 : Nat) : Int) := (z62 18).trans r18
          generalize zfil S2 78 144 0 = S3 at *
          refine zwq_ok (Z_X12_house l) rfl [136] (fun _ _ _ _ _ _ h => h) 400 (Z_X12_house l) ?_
          refine ⟨T, x.toNat, 0, ⟨rfl, hT, q18, Nat.zero_le _⟩, fun S4 V4 f4 => ?_⟩
          have I : rdJ S4 T x.toNat p0 0 := ⟨hT.fy f4, (f4 62 14 (by omega) (by omega)).trans q14, (f4 62 15 (by omega) (by omega)).trans q15, hP.fr (fun j _ _ => f4 62 j (by omega) (by omega)) (fun c _ _ => funext fun j => f4 c j (by omega) (by omega)), V4, Nat.zero_le _, p0_ok⟩
          refine L2_X12_house (l := l) (Q := Q) (S0 := S3) 700 p0 0 S4 (by omega) I ((frH.r S3).Y f4) (fun S5 h5 => ?_)
          cases hd : rdA T x.toNat 700 p0 0 with
          | inl e =>
            obtain ⟨k, q⟩ := e
            rw [hd] at h h5
            obtain ⟨f5, a1, a2, a3⟩ := h5
            exact E_X12_house1 (l := l) hM hX f5 fr3 q0 q13 a1 a2 a3 h
          | inr e =>
            obtain ⟨P, q⟩ := e
            rw [hd] at h h5
            obtain ⟨f5, I5⟩ := h5
            have I5 : rdJ S5 T x.toNat P q := I5
            exact E_X12_house2 (l := l) hM I5 (fun c j a b d => (f5 c j a b (by omega)).trans (fr3 c j a b d)) ((f5 62 0 (by omega) (by omega) (by omega)).trans q0) ((f5 62 13 (by omega) (by omega) (by omega)).trans q13) I5.none h) 144 0 (by omega)
        rw [zfil_0] at go
        exact go
      refine zRs_of 12 (by decide) rfl rfl ?_; refine zwq_ok (Z_X12_house l) rfl [112] (fun _ _ _ _ _ _ h => h) 400 (Z_X12_house l) ?_
      refine ⟨fun c1 => by omega, fun _ => ⟨fun c1 => by omega, fun _ => ⟨⟨rfl, Or.inr rfl⟩, fun _ z => absurd z (by decide), fun _ _ => ⟨fun z => absurd z (by decide), fun _ => ⟨0, ⟨rfl, by decide⟩, 1, ⟨rfl, by decide⟩, 2, ⟨rfl, by decide⟩, 3, ⟨rfl, by decide⟩, ?_⟩⟩, rfl, by decide⟩⟩⟩
      exact go
    · rw [if_neg c, if_neg c, if_neg c] at h
      have k := h (zu (zu S 62 0 0) 62 0 1) 0 ((hM.u (Or.inl rfl)).u (Or.inl rfl)) (fun c hc => (zu_c (by omega)).trans (zu_c (by omega))) zuE (fun z => absurd z (by decide))
      refine zRs_of 12 (by decide) rfl rfl ?_; refine zwq_ok (Z_X12_house l) rfl [112] (fun _ _ _ _ _ _ h => h) 400 (Z_X12_house l) ?_
      exact ⟨fun _ => ⟨⟨rfl, Or.inl rfl⟩, fun _ _ _ => ⟨fun _ => k, fun z => absurd rfl z⟩, fun _ z => absurd z (by decide), rfl, by decide⟩, fun c1 => ⟨fun _ => ⟨⟨rfl, Or.inl rfl⟩, fun _ _ _ => ⟨fun _ => k, fun z => absurd rfl z⟩, fun _ z => absurd z (by decide), rfl, by decide⟩, fun c2 => by omega⟩⟩
  · exact h.elim
section
variable {S : zS} {D E T : zD} {N : Nat} {K : zR2 → zS → Prop} {x : Int}
theorem m_house (hM : eM S D E T) (hX : xOK D E T N) (h : mRes2 S (huzD D T x) E (huzT T x) (huzA T x) K) : wp_X12_house [.inr (.inl 62), .inl x] S K := ⟨D, E, T, N, ⟨rfl, hM, hX⟩, h⟩
end
