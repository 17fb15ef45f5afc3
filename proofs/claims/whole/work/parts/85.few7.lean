/-! the fewest shoes: the model's answer -/
theorem blS_su (n : Nat) : ∀ k j, suN (fun i => bt1 n i) j + (blS n k j).length = suN (fun i => bt1 n i) (j + k) := by
  intro k
  induction k with
  | zero => intro j; rfl
  | succ k ih =>
    intro j
    have := ih (j + 1)
    have e : suN (fun i => bt1 n i) (j + 1) = suN (fun i => bt1 n i) j + bt1 n j := rfl
    rw [e, show j + 1 + k = j + (k + 1) by omega] at this
    by_cases hb : bt1 n j = 1
    · rw [blS_1 hb, List.length_cons]
      omega
    · rw [blS_0 hb]
      have := bt1_lt n j
      omega
theorem su_tail {h : Nat → Nat} {L : Nat} (hz : ∀ i, L ≤ i → h i = 0) : ∀ d, suN h (L + d) = suN h L := by
  intro d
  induction d with
  | zero => rfl
  | succ d ih =>
    show suN h (L + d) + h (L + d) = suN h L
    rw [ih, hz _ (by omega)]
    rfl
theorem bl_ma {D : zD} {a b : Nat} (h6 : dL D ≤ 6) : (bl (msk (nyB D a b) (dL D))).length = maD D a b (dL D) := by
  have e := blS_su (msk (nyB D a b) (dL D)) 18 0
  have t := su_tail (h := fun i => bt1 (msk (nyB D a b) (dL D)) i) (L := dL D) (fun i hi => by show bt1 _ _ = 0; rw [bt1_msk, if_neg (by omega)]) (18 - dL D)
  rw [show dL D + (18 - dL D) = 0 + 18 by omega] at t
  rw [t] at e
  have e : 0 + (bl (msk (nyB D a b) (dL D))).length = _ := e
  rw [Nat.zero_add] at e
  rw [e]
  unfold maD
  refine suN_congr _ (fun i hi => ?_)
  show bt1 _ _ = if wnD D a b i = -1 then 0 else 1
  rw [bt1_msk]
  cases hb : nyB D a b i with
  | true => rw [if_pos ⟨hi, rfl⟩, if_neg (wn_ny hb).2.2]
  | false => rw [if_neg (fun z => absurd z.2 (by decide)), if_pos (wn_no hb)]
section
variable {lc : Launch} {S0 : zS} {Q : zR2 → zS → Prop} {D : zD} {a b : Nat} {x y : Int}
theorem fw_mask (hD : dOK D) (hM : mOK S0 D) (hab : abM S0 a b) (k : ∀ S, frG S S0 → (∀ i, i < dL D → S 94 i = -1) → zFw lc Q x y (msk (nyB D a b) (dL D)) S 94 (dL D : Int)) (f : Nat) : ∀ j S, j + f = dL D → frG S S0 → (∀ i, i < j → S 94 i = -1) → zFw lc Q x y (msk (nyB D a b) j) S 50 (j : Int) := by
  have h6 := hD.lodgers
  induction f with
  | zero =>
    intro j S hj hf hN
    have e : j = dL D := by omega
    have eL := (hM.fg hf).lodgers
    have := k S hf (fun i hi => hN i (by omega))
    rw [← e] at this
    refine zwq_ok (Z_X12_fewest lc) rfl [50, 94] (fun _ _ _ _ _ _ h => h) 400 (Z_X12_fewest lc) ?_
    exact ⟨fun c => by omega, fun c => this⟩
  | succ f ih =>
    intro j S hj hf hN
    have eL := (hM.fg hf).lodgers
    have hlt := msk_lt (nyB D a b) j
    have hp : 2 ^ j ≤ 2 ^ 7 := Nat.pow_le_pow_right (by decide) (by omega)
    have this := ih (j + 1) (zu S 94 j (-1)) (by omega) hf.u (fun i hi => by
      by_cases e : i = j
      · rw [e, zuE]
      · rw [zuN (Or.inr e)]; exact hN i (by omega))
    refine zwq_ok (Z_X12_fewest lc) rfl [50, 94] (fun _ _ _ _ _ _ h => h) 400 (Z_X12_fewest lc) ?_
    refine ⟨fun c => ⟨D, a, b, j, 0, ⟨rfl, hD, hM.fg hf, hab.fg hf, rfl, by omega, rfl, by omega⟩, fun c2 => ⟨j, ⟨rfl, by omega⟩, by omega, ?_⟩, fun c2 => ⟨j, ⟨rfl, by omega⟩, by omega, ?_⟩⟩, fun c => by omega⟩
    · rw [ni_0] at c2
      have z : zor (msk (nyB D a b) j : Int) ((0 : Nat) : Int) = ((msk (nyB D a b) (j + 1) : Nat) : Int) := by rw [zor_n (by omega) (by omega), Nat.or_zero, msk_no _ _ (bt_0 c2)]
      have z : zor (msk (nyB D a b) j : Int) 0 = ((msk (nyB D a b) (j + 1) : Nat) : Int) := z
      rw [z]
      exact this
    · rw [ni_0] at c2
      rw [zor_msk (by omega) (bt_n c2)]
      exact this
end
theorem eM.ld {S S' : zS} {D E T : zD} {v : Nat → Nat} (h : eM S D E T) (hf : ∀ c j, 62 ≤ c → c ≠ 94 → c ≠ 95 → (c ≠ 62 ∨ j ≠ 56) → S' c j = S c j) (h1 : S' 62 56 = 1) (h2 : ∀ i, i < dL D → S' 95 i = (v i : Int) - 1) : eM S' D E (setL T v) := by
  have g : ∀ c, 63 ≤ c → c ≠ 94 → c ≠ 95 → S' c = S c := fun c a b d => funext fun i => hf c i (by omega) b d (Or.inl (by omega))
  have gj : ∀ j, j ≠ 56 → S' 62 j = S 62 j := fun j hj => hf 62 j (by omega) (by omega) (by omega) (Or.inr hj)
  have hn : mOK S' D := h.now.fr (fun j a _ => gj j (by omega)) (fun c hc => g c (by omega) (by omega) (by omega))
  have hk := h.image
  unfold iOK at hk
  have hk2 : T 4 0 = 1 → iOK S' E := by
    unfold iOK
    rw [g 97 (by omega) (by omega) (by omega), g 98 (by omega) (by omega) (by omega), g 99 (by omega) (by omega) (by omega), g 100 (by omega) (by omega) (by omega), g 101 (by omega) (by omega) (by omega)]
    exact hk
  unfold eM at h ⊢
  rw [setL_c (c := 0) (by omega), setL_c (c := 1) (by omega), setL_c (c := 2) (by omega), setL_c (c := 3) (by omega), setL_c (c := 4) (by omega), setL_c (c := 5) (by omega), setL_c (c := 6) (by omega), setL_c (c := 7) (by omega), gj 13 (by omega), gj 15 (by omega), gj 63 (by omega), gj 52 (by omega), g 70 (by omega) (by omega) (by omega), g 71 (by omega) (by omega) (by omega), g 89 (by omega) (by omega) (by omega), g 90 (by omega) (by omega) (by omega)]
  exact ⟨hn, h.2.1, h.2.2.1, h.2.2.2.1, h.2.2.2.2.1, h.2.2.2.2.2.1, hk2, h.2.2.2.2.2.2.2.1, h.2.2.2.2.2.2.2.2.1, h.2.2.2.2.2.2.2.2.2.1, h1, fun _ => h2⟩
def wp_X12_fewest (a : List zV) (S : zS) (K : zR2 → zS → Prop) : Prop := match a with
  | [.inr (.inl c), .inl x, .inl y] => ∃ (D E T : zD) (N : Nat), (c = 62 ∧ eM S D E T ∧ xOK D E T N) ∧ mRes S D E (fewestT D T x y) (fewestA D x y) K
  | _ => False
theorem R_X12_fewest (l : Launch) (a : List zV) (S : zS) (Q : zR2 → zS → Prop) (h : wp_X12_fewest a S Q) : zRs l 4 0 0 yX12_fewest (.code yX12_fewest cX12_fewest 7 (some .int)) a S Q := by
  unfold wp_X12_fewest at h
  split at h
  · rename_i c x y
    obtain ⟨D, E, T, N, ⟨rfl, hM, hX⟩, h⟩ := h
    unfold fewestA fewestT at h
    by_cases hp : fewP x y
    · obtain ⟨p1, p2, p3⟩ := id hp
      have hD := hX.now
      have h6 := hD.lodgers
      have hE : eM (zu (zu (zu S 62 0 0) 62 59 x) 62 60 y) D E T := ((hM.u (k := 0) (v := 0) (by omega)).u (k := 59) (v := x) (by omega)).u (k := 60) (v := y) (by omega)
      have h00 : zu (zu (zu S 62 0 0) 62 59 x) 62 60 y 62 0 = 0 := by rw [zuN (Or.inr (by omega)), zuN (Or.inr (by omega)), zuE]
      have hfm : frM S (zu (zu (zu S 62 0 0) 62 59 x) 62 60 y) := (((frM.r S).u (by omega) (by omega)).u (by omega) (by omega)).u (by omega) (by omega)
      have hab : abM (zu (zu (zu S 62 0 0) 62 59 x) 62 60 y) x.toNat y.toNat := ⟨by rw [zuN (Or.inr (by omega)), zuE]; omega, by rw [zuE]; omega, by omega, by omega⟩
      generalize eS : zu (zu (zu S 62 0 0) 62 59 x) 62 60 y = S1 at hE h00 hfm hab
      generalize x.toNat = a at hab h
      generalize y.toNat = b at hab h
      have hm : msk (nyB D a b) (dL D) < 64 := Nat.lt_of_lt_of_le (msk_lt _ _) (Nat.pow_le_pow_right (i := dL D) (j := 6) (by decide : 2 > 0) h6)
      have main := fw_mask (lc := l) (Q := Q) (x := x) (y := y) hD hE.now hab (fun S2 f2 n2 => by
        have hsp : spR D a b S2 (s2D D a b) := fun k hk => by
          have : gvN (S2 94) (vlN k : Int) (dL D) = 0 := by
            unfold gvN
            rw [suN_congr (g := fun _ => 0) (dL D) (fun i hi => if_neg (by rw [n2 i hi]; omega)), suN_0]
          rw [this]
          rfl
        have go := fw_seek (lc := l) (Q := Q) (x := x) (y := y) hD hE.now hab hm (fun i hi => by
          rw [bt1_msk]
          cases hb : nyB D a b i with
          | true => exact if_pos ⟨hi, rfl⟩
          | false => exact if_neg (fun z => absurd z.2 (by decide))) (dL D) 0 (s2D D a b) S2 (by omega) f2 (fun i _ hi => n2 i hi) hsp (fun hh S' f1 _ f3 => by
            have e : hsD D a b = true := HSB_iff.mpr hh
            rw [if_pos ⟨hp, e⟩, if_pos hp, if_pos e] at h
            refine zwq_ok (Z_X12_fewest l) rfl [97] (fun _ _ _ _ _ _ h => h) 400 (Z_X12_fewest l) ?_
            refine ⟨fun c => by omega, fun c => ⟨Or.inr rfl, msk (nyB D a b) (dL D), ⟨rfl, by omega⟩, ?_⟩⟩
            rw [bl_ma h6]
            refine h _ _ (hE.ld (fun c j q1 q2 q3 q4 => ?_) ?_ (fun i hi => ?_)) (fun c hc => ?_) ?_ (fun _ => rfl)
            · rw [zcp_n q3, zuN q4, f1 c q2]
            · rw [zcp_n (by omega), zuE]
            · rw [zcp_at (by omega), zuN (Or.inl (by omega))]
              have := f3 i hi
              rw [Nat.zero_add] at this
              exact this
            · funext j
              rw [zcp_n (by omega), zuN (Or.inl (by omega)), f1 c (by omega), hfm c hc]
            · rw [zcp_n (by omega), zuN (Or.inr (by omega)), f1 62 (by omega)]
              exact h00) (fun hh S' f1 _ f3 => by
            have e : ¬ hsD D a b = true := fun z => hh (HSB_iff.mp z)
            rw [if_neg (fun z => e z.2), if_pos hp, if_neg e] at h
            have k := h S' (-1) (hE.fr (fun c j q1 q2 => by rw [f1 c (fun z => q2 (by unfold mScr; omega))])) (fun c hc => (f1 c (by omega)).trans (hfm c hc)) (by rw [f1 62 (by omega)]; exact h00) (fun _ => rfl)
            refine zwq_ok (Z_X12_fewest l) rfl [190] (fun _ _ _ _ _ _ h => h) 400 (Z_X12_fewest l) ?_
            exact ⟨fun _ => ⟨fun _ => ⟨fun _ => k, fun c => absurd (by decide) c⟩, fun c => absurd (by decide) c⟩, fun c => absurd (by decide) c⟩)
        refine zwq_ok (Z_X12_fewest l) rfl [97] (fun _ _ _ _ _ _ h => h) 400 (Z_X12_fewest l) ?_
        exact go) (dL D) 0 S1 (by omega) (fun _ _ => rfl) (fun i hi => by omega)
      rw [← eS] at main
      refine zRs_of 12 (by decide) rfl rfl ?_; refine zwq_ok (Z_X12_fewest l) rfl [50] (fun _ _ _ _ _ _ h => h) 400 (Z_X12_fewest l) ?_
      refine ⟨fun c9 => by omega, fun _ => ⟨fun c9 => by omega, fun _ => ⟨fun c9 => by omega, fun _ => ⟨⟨rfl, Or.inr rfl⟩, fun _ c9 => absurd c9 (by decide), fun _ _ => ⟨fun c9 => absurd c9 (by decide), fun _ => ?_⟩, rfl, by decide⟩⟩⟩⟩
      exact main
    · rw [if_neg (fun z => hp z.1), if_neg hp] at h
      unfold fewP at hp
      have h := mFail1 hM h
      refine zRs_of 12 (by decide) rfl rfl ?_; refine zwq_ok (Z_X12_fewest l) rfl [50] (fun _ _ _ _ _ _ h => h) 400 (Z_X12_fewest l) ?_
      repeat' (first | refine And.intro ?_ ?_ | (intro _; try omega) | omega | rfl | refine ⟨_, ⟨rfl, by omega⟩, ?_⟩ | fail)
      all_goals exact h
  · exact h.elim
theorem m_fewest {S : zS} {D E T : zD} {N : Nat} {K : zR2 → zS → Prop} {x y : Int} (hM : eM S D E T) (hX : xOK D E T N) (h : mRes S D E (fewestT D T x y) (fewestA D x y) K) : wp_X12_fewest [.inr (.inl 62), .inl x, .inl y] S K := ⟨D, E, T, N, ⟨rfl, hM, hX⟩, h⟩
