/-! lend, back -/
theorem zu_if {α : Type} {F : Nat → Nat → α} {c k j : Nat} {v : α} : zu F c k v c j = if j = k then v else F c j := by
  show (bif c == c && j == k then v else F c j) = _
  rw [beq_self_eq_true, Bool.true_and]
  by_cases h : j = k
  · rw [if_pos h, h, beq_self_eq_true]; rfl
  · rw [if_neg h, show (j == k) = false by simpa using h]; rfl
section
variable {S : zS} {D E T : zD} {N : Nat} {K : zR2 → zS → Prop} {x y z u w : Int}
theorem lendN_T (j : Nat) : dT (lendN D x y z) j = if j = 3 * dN D + 2 then z.toNat else if j = 3 * dN D + 1 then y.toNat else if j = 3 * dN D then x.toNat else dT D j := by
  show zu (zu (zu D 13 (3 * dN D) x.toNat) 13 (3 * dN D + 1) y.toNat) 13 (3 * dN D + 2) z.toNat 13 j = _
  rw [zu_if, zu_if, zu_if]
  rfl
theorem movD_U (a b j : Nat) : dU (movD D a b) j = if j = b then dU D b + 1 else if j = a then dU D a - 1 else dU D j := by
  show zu (zu D 14 a (dU D a - 1)) 14 b (dU D b + 1) 14 j = _
  rw [zu_if, zu_if]
  rfl
theorem lendN_U (j : Nat) : dU (lendN D x y z) j = if j = 2 * y.toNat + z.toNat - 1 then dU D (2 * y.toNat + z.toNat - 1) + 1 else if j = 2 * x.toNat + z.toNat - 1 then dU D (2 * x.toNat + z.toNat - 1) - 1 else dU D j := movD_U _ _ _
theorem x_lendN (hX : dOK D) (hp : lendP D x y) (hq : lendQ D x y z) : dOK (lendN D x y z) := by
  obtain ⟨⟨p1, p2⟩, p3, p4⟩ := hp
  obtain ⟨q1, q2, ⟨q3, q4⟩, q5⟩ := hq
  have hT := lendN_T (D := D) (x := x) (y := y) (z := z)
  have hU := lendN_U (D := D) (x := x) (y := y) (z := z)
  have hN : dN (lendN D x y z) = dN D + 1 := rfl
  have hlt := lnd_lt (D := D) (D' := lendN D x y z) (n := dN D) (fun k hk => by rw [hT, if_neg (by omega), if_neg (by omega), if_neg (by omega)])
  have h1 : ∀ l s, lnd1 (lendN D x y z) l s (dN D) = if z.toNat = s then (if y.toNat = l then 1 else 0) - (if x.toNat = l then 1 else 0) else 0 := by
    intro l s
    have t2 : dT (lendN D x y z) (3 * dN D + 2) = z.toNat := by rw [hT, if_pos rfl]
    have t1 : dT (lendN D x y z) (3 * dN D + 1) = y.toNat := by rw [hT, if_neg (by omega), if_pos rfl]
    have t0 : dT (lendN D x y z) (3 * dN D) = x.toNat := by rw [hT, if_neg (by omega), if_neg (by omega), if_pos rfl]
    unfold lnd1
    rw [t2, t1, t0]
  have hs : ∀ l s, l < dL D → (s = 1 ∨ s = 2) → (dU (lendN D x y z) (2 * l + s - 1) : Int) = (dE D (2 * l + s - 1) : Int) + (lnd D l s (dN D) + lnd1 (lendN D x y z) l s (dN D)) := by
    intro l s hl hs
    have h0 := hX.shoes l s hl hs
    rw [h1, hU]
    by_cases e : z.toNat = s
    · rw [if_pos e]
      by_cases ey : y.toNat = l
      · rw [if_pos (show 2 * l + s - 1 = 2 * y.toNat + z.toNat - 1 by omega), if_pos ey, if_neg (show ¬ x.toNat = l by omega)]
        have e9 : 2 * y.toNat + z.toNat - 1 = 2 * l + s - 1 := by omega
        rw [e9]
        omega
      · rw [if_neg (show ¬ 2 * l + s - 1 = 2 * y.toNat + z.toNat - 1 by omega), if_neg ey]
        by_cases ex : x.toNat = l
        · have e9 : 2 * x.toNat + z.toNat - 1 = 2 * l + s - 1 := by omega
          rw [e9] at q5
          rw [if_pos (show 2 * l + s - 1 = 2 * x.toNat + z.toNat - 1 by omega), if_pos ex, e9]
          omega
        · rw [if_neg (show ¬ 2 * l + s - 1 = 2 * x.toNat + z.toNat - 1 by omega), if_neg ex]
          omega
    · rw [if_neg (show ¬ 2 * l + s - 1 = 2 * y.toNat + z.toNat - 1 by omega), if_neg (show ¬ 2 * l + s - 1 = 2 * x.toNat + z.toNat - 1 by omega), if_neg e]
      omega
  refine hX.lnt (fun c hc => funext fun j => ?_) (by rw [hN]; omega) (fun k hk => ?_) (fun l s k hl hs' hk => ?_) (fun l s hl hs' => ?_)
  · refine (zuD_n (Or.inl (by omega))).trans ((zuD_n (Or.inl (by omega))).trans ((zuD_n (Or.inl (by omega))).trans ((zuD_n (Or.inl (by omega))).trans ((zuD_n (Or.inl (by omega))).trans (zuD_n (Or.inl (by omega)))))))
  · rw [hN] at hk
    by_cases e : k = dN D
    · subst e
      rw [hT, if_neg (by omega), if_neg (by omega), if_pos (by omega), hT, if_neg (by omega), if_pos (by omega), hT, if_pos (by omega)]
      omega
    · rw [hT, if_neg (by omega), if_neg (by omega), if_neg (by omega), hT, if_neg (by omega), if_neg (by omega), if_neg (by omega), hT, if_neg (by omega), if_neg (by omega), if_neg (by omega)]
      exact hX.lending k (by omega)
  · rw [hN] at hk
    by_cases e : k = dN D + 1
    · subst e
      show 0 ≤ (dE D (2 * l + s - 1) : Int) + (lnd (lendN D x y z) l s (dN D) + lnd1 (lendN D x y z) l s (dN D))
      rw [hlt l s (dN D) (Nat.le_refl _), ← hs l s hl hs']
      omega
    · rw [hlt l s k (by omega)]
      exact hX.past l s k hl hs' (by omega)
  · show _ = (dE D (2 * l + s - 1) : Int) + (lnd (lendN D x y z) l s (dN D) + lnd1 (lendN D x y z) l s (dN D))
    rw [hlt l s (dN D) (Nat.le_refl _), ← hs l s hl hs']
theorem x_lend (hX : xOK D E T N) (hN : N < 99999) : xOK (lendD D x y z) E (lendT D T x y z) (N + 1) := by
  unfold lendD lendT
  by_cases hp : lendP D x y
  · by_cases hq : lendQ D x y z
    · rw [if_pos ⟨hp, hq⟩, if_neg (fun c => c.2 hq)]
      exact hX.day hN (x_lendN hX.now hp hq) (fun c hc => funext fun j => (zuD_n (Or.inl (by omega))).trans ((zuD_n (Or.inl (by omega))).trans ((zuD_n (Or.inl (by omega))).trans ((zuD_n (Or.inl (by omega))).trans ((zuD_n (Or.inl (by omega))).trans (zuD_n (Or.inl (by omega))))))))
    · rw [if_neg (fun c => hq c.2), if_pos ⟨hp, hq⟩]
      exact hX.ref hN
  · rw [if_neg (fun c => hp c.1), if_neg (fun c => hp c.1)]
    exact hX.up hN
theorem backN_U (j : Nat) : dU (backN D) j = if j = 2 * dT D (3 * (dN D - 1)) + dT D (3 * (dN D - 1) + 2) - 1 then dU D (2 * dT D (3 * (dN D - 1)) + dT D (3 * (dN D - 1) + 2) - 1) + 1 else if j = 2 * dT D (3 * (dN D - 1) + 1) + dT D (3 * (dN D - 1) + 2) - 1 then dU D (2 * dT D (3 * (dN D - 1) + 1) + dT D (3 * (dN D - 1) + 2) - 1) - 1 else dU D j := movD_U _ _ _
theorem back_pos (hX : dOK D) (hn : dN D ≠ 0) : 0 < dU D (2 * dT D (3 * (dN D - 1) + 1) + dT D (3 * (dN D - 1) + 2) - 1) := by
  obtain ⟨m, hm⟩ : ∃ m, dN D = m + 1 := ⟨dN D - 1, by omega⟩
  rw [show dN D - 1 = m by omega]
  obtain ⟨a1, a2, a3, a4⟩ := hX.lending m (by omega)
  have h1 := hX.shoes _ _ a2 a3
  have h2 := hX.past _ _ m a2 a3 (by omega)
  rw [hm] at h1
  have e : lnd D (dT D (3 * m + 1)) (dT D (3 * m + 2)) (m + 1) = lnd D (dT D (3 * m + 1)) (dT D (3 * m + 2)) m + lnd1 D (dT D (3 * m + 1)) (dT D (3 * m + 2)) m := rfl
  have e2 : lnd1 D (dT D (3 * m + 1)) (dT D (3 * m + 2)) m = 1 := by
    unfold lnd1
    rw [if_pos rfl, if_pos rfl, if_neg a4]
    rfl
  omega
theorem x_backN (hX : dOK D) (hn : dN D ≠ 0) : dOK (backN D) := by
  obtain ⟨m, hm⟩ : ∃ m, dN D = m + 1 := ⟨dN D - 1, by omega⟩
  have hU := backN_U (D := D)
  have hpos := back_pos hX hn
  rw [show dN D - 1 = m by omega] at hU hpos
  have hN : dN (backN D) = m := by show dN D - 1 = m; omega
  have hle := lnd_eq (D := D) (D' := backN D) (fun k => rfl)
  obtain ⟨a1, a2, a3, a4⟩ := hX.lending m (by omega)
  have h12 := hX.lent
  generalize hg : dT D (3 * m) = g at *
  generalize ht : dT D (3 * m + 1) = t at *
  generalize hz : dT D (3 * m + 2) = z at *
  refine hX.lnt (fun c hc => funext fun j => ?_) (by rw [hN]; omega) (fun k hk => hX.lending k (by rw [hN] at hk; omega)) (fun l s k hl hs' hk => ?_) (fun l s hl hs' => ?_)
  · exact (zuD_n (Or.inl (by omega))).trans ((zuD_n (Or.inl (by omega))).trans (zuD_n (Or.inl (by omega))))
  · rw [hN] at hk
    rw [hle]
    exact hX.past l s k hl hs' (by omega)
  · rw [hN, hle, hU]
    have h1 := hX.shoes l s hl hs'
    rw [hm] at h1
    have e : lnd D l s (m + 1) = lnd D l s m + lnd1 D l s m := rfl
    unfold lnd1 at e
    rw [hg, ht, hz] at e
    by_cases e1 : z = s
    · rw [if_pos e1] at e
      by_cases e2 : t = l
      · rw [if_pos e2, if_neg (by omega)] at e
        have e9 : 2 * t + z - 1 = 2 * l + s - 1 := by omega
        rw [e9] at hpos
        rw [if_neg (by omega), if_pos (by omega), e9]
        omega
      · rw [if_neg e2] at e
        by_cases e3 : g = l
        · have e9 : 2 * g + z - 1 = 2 * l + s - 1 := by omega
          rw [if_pos e3] at e
          rw [if_pos (by omega), e9]
          omega
        · rw [if_neg e3] at e
          rw [if_neg (by omega), if_neg (by omega)]
          omega
    · rw [if_neg e1] at e
      rw [if_neg (by omega), if_neg (by omega)]
      omega
theorem x_back (hX : xOK D E T N) (hN : N < 99999) : xOK (backD D) E T (N + 1) := by
  unfold backD
  by_cases hn : dN D = 0
  · rw [if_pos hn]; exact hX.up hN
  · rw [if_neg hn]
    exact hX.day hN (x_backN hX.now hn) (fun c hc => funext fun j => (zuD_n (Or.inl (by omega))).trans ((zuD_n (Or.inl (by omega))).trans (zuD_n (Or.inl (by omega)))))
theorem c_lend (hC : eC S D E T) (hX : xOK D E T N) (h : cRes S (lendD D x y z) E (lendT D T x y z) (cr1 (lendA D x y z)) K) : wp_X11_lend [.inr (.inl 0), .inl x, .inl y, .inl z] S K := by
  have e1 := hC.now.lodgers
  have e2 := hX.now.lodgers
  have e3 := hC.now.lent
  have e4 := hX.now.lent
  have e6 := hX.refused 1
  have e7 := hC.refused 1 (by omega)
  have e8 := hX.few
  unfold lendA lendD lendT at h
  by_cases hp : lendP D x y
  · obtain ⟨⟨p1, p2⟩, p3, p4⟩ := id hp
    by_cases hq : lendQ D x y z
    · rw [if_pos ⟨hp, hq⟩, if_neg (fun c => c.2 hq), if_pos hp, if_pos hq] at h
      obtain ⟨q1, q2, ⟨q3, q4⟩, q5⟩ := id hq
      have e5 := hC.now.shoes (2 * x.toNat + z.toNat - 1) (by omega)
      have e5b := hC.now.shoes (2 * y.toNat + z.toNat - 1) (by omega)
      have u1 := dU_le hX.now (l := x.toNat) (s := z.toNat) (by omega) (by omega)
      have u2 := dU_le hX.now (l := y.toNat) (s := z.toNat) (by omega) (by omega)
      have hne : 2 * y.toNat + z.toNat - 1 ≠ 2 * x.toNat + z.toNat - 1 := by omega
      have e9 : ∀ v w, zu (zu (zu (zu (zu S 21 (dN D) x) 22 (dN D) y) 23 (dN D) z) 20 7 w) 24 (2 * x.toNat + z.toNat - 1) v 24 (2 * y.toNat + z.toNat - 1) = S 24 (2 * y.toNat + z.toNat - 1) := fun v w => zuN (Or.inr hne)
      have h : cRes S (lendN D x y z) E T (.inl (some (.inl (S 20 7 + 1)))) K := by rw [e3]; exact h
      have hn : cOK (zu (zu (zu (zu (zu (zu S 21 (dN D) x) 22 (dN D) y) 23 (dN D) z) 20 7 (S 20 7 + 1)) 24 (2 * x.toNat + z.toNat - 1) (S 24 (2 * x.toNat + z.toNat - 1) - 1)) 24 (2 * y.toNat + z.toNat - 1) (S 24 (2 * y.toNat + z.toNat - 1) + 1)) (lendN D x y z) := ⟨hC.now.rooms, hC.now.lodgers, hC.now.finders, hC.now.mays, hC.now.goods, hC.now.tenant, hC.now.home, hC.now.told, hC.now.law, (by show S 20 7 + 1 = ((dN D + 1 : Nat) : Int); omega), hC.now.seenHour, hC.now.seenRooms, (fun k hk => by
          have hk : k < dN D + 1 := hk
          show zu S 21 (dN D) x 21 k = _
          rw [lendN_T, zu_if]
          by_cases e : k = dN D
          · rw [if_pos e, if_neg (by omega), if_neg (by omega), if_pos (by omega)]; omega
          · rw [if_neg e, if_neg (by omega), if_neg (by omega), if_neg (by omega)]; exact hC.now.givers k (by omega)), (fun k hk => by
          have hk : k < dN D + 1 := hk
          show zu S 22 (dN D) y 22 k = _
          rw [lendN_T, zu_if]
          by_cases e : k = dN D
          · rw [if_pos e, if_neg (by omega), if_pos (by omega)]; omega
          · rw [if_neg e, if_neg (by omega), if_neg (by omega), if_neg (by omega)]; exact hC.now.takers k (by omega)), (fun k hk => by
          have hk : k < dN D + 1 := hk
          show zu S 23 (dN D) z 23 k = _
          rw [lendN_T, zu_if]
          by_cases e : k = dN D
          · rw [if_pos e, if_pos (by omega)]; omega
          · rw [if_neg e, if_neg (by omega), if_neg (by omega), if_neg (by omega)]; exact hC.now.lentShoes k (by omega)), (fun k hk => by
          have hk : k < 2 * dL D := hk
          show zu (zu S 24 (2 * x.toNat + z.toNat - 1) (S 24 (2 * x.toNat + z.toNat - 1) - 1)) 24 (2 * y.toNat + z.toNat - 1) (S 24 (2 * y.toNat + z.toNat - 1) + 1) 24 k = _
          rw [lendN_U, zu_if, zu_if]
          by_cases ey : k = 2 * y.toNat + z.toNat - 1
          · rw [if_pos ey, if_pos ey]; omega
          · rw [if_neg ey, if_neg ey]
            by_cases ex : k = 2 * x.toNat + z.toNat - 1
            · rw [if_pos ex, if_pos ex]; omega
            · rw [if_neg ex, if_neg ex]; exact hC.now.shoes k hk), hC.now.day, hC.now.rounds, hC.now.seen⟩
      repeat' (first | refine And.intro ?_ ?_ | (intro _; try omega) | omega | rfl | refine ⟨_, ⟨rfl, by omega⟩, ?_⟩ | (simp only [zu, Nat.reduceBEq, Bool.false_and, Bool.true_and, Bool.and_true, Bool.and_false, cond_false, cond_true, beq_self_eq_true]; omega) | refine ⟨2 * x.toNat + z.toNat - 1, ⟨by (first | omega | (simp only [zu, Nat.reduceBEq, Bool.false_and, Bool.true_and, Bool.and_true, Bool.and_false, cond_false, cond_true, beq_self_eq_true]; omega)), by omega⟩, ?_⟩ | refine ⟨dN D, ⟨by (first | omega | (simp only [zu, Nat.reduceBEq, Bool.false_and, Bool.true_and, Bool.and_true, Bool.and_false, cond_false, cond_true, beq_self_eq_true]; omega)), by omega⟩, ?_⟩ | refine ⟨2 * y.toNat + z.toNat - 1, ⟨by (first | omega | (simp only [zu, Nat.reduceBEq, Bool.false_and, Bool.true_and, Bool.and_true, Bool.and_false, cond_false, cond_true, beq_self_eq_true]; omega)), by omega⟩, ?_⟩ | (rw [e9]; omega) | fail)
      all_goals
        have hA : ∀ w, zu (zu (zu (zu (zu S 21 (dN D) x) 22 (dN D) y) 23 (dN D) z) 20 7 (S 20 7 + 1)) 24 (2 * x.toNat + z.toNat - 1) w 24 (2 * y.toNat + z.toNat - 1) + 1 = S 24 (2 * y.toNat + z.toNat - 1) + 1 := fun w => by rw [e9]
        rw [← hA (S 24 (2 * x.toNat + z.toNat - 1) - 1)] at hn
        exact h _ ⟨hn, hC.tape, hC.bytes, hC.fault, hC.refused, hC.isKept, hC.kept, hC.path, hC.pathRooms, hC.pathLooks, hC.lends, hC.lenders, hC.slippers⟩ (((((((frC.r S).u (by omega)).u (by omega)).u (by omega)).u (by omega)).u (by omega)).u (by omega))
    · rw [if_neg (fun c => hq c.2), if_pos ⟨hp, hq⟩, if_pos hp, if_neg hq] at h
      unfold lendQ at hq
      have h : K (.inl (some (.inl (-1)))) (zu S 61 1 (S 61 1 + 1)) := h _ ⟨hC.now, hC.tape, hC.bytes, hC.fault, (fun i hi => zuU (fun _ => hC.refused i hi) (by omega)), hC.isKept, hC.kept, hC.path, hC.pathRooms, hC.pathLooks, hC.lends, hC.lenders, hC.slippers⟩ ((frC.r S).u (by omega))
      have e5 : 1 ≤ z → z ≤ 2 → S 24 (2 * x.toNat + z.toNat - 1) = dU D (2 * x.toNat + z.toNat - 1) := fun _ _ => hC.now.shoes (2 * x.toNat + z.toNat - 1) (by omega)
      repeat' (first | refine And.intro ?_ ?_ | (intro _; try omega) | omega | rfl | refine ⟨_, ⟨rfl, by omega⟩, ?_⟩ | refine ⟨1, ⟨by omega, by omega⟩, ?_⟩ | refine ⟨2 * x.toNat + z.toNat - 1, ⟨by omega, by omega⟩, ?_⟩ | fail)
      all_goals exact h
  · rw [if_neg (fun c => hp c.1), if_neg (fun c => hp c.1), if_neg hp] at h
    unfold lendP at hp
    have h := cGood hC h
    repeat' (first | refine And.intro ?_ ?_ | (intro _; try omega) | omega | rfl | refine ⟨_, ⟨rfl, by omega⟩, ?_⟩ | fail)
    all_goals exact h
theorem m_lend (hM : eM S D E T) (hX : xOK D E T N) (h : mRes S (lendD D x y z) E (lendT D T x y z) (lendA D x y z) K) : wp_X12_lend [.inr (.inl 62), .inl x, .inl y, .inl z] S K := by
  have e1 : zu S 62 0 0 62 2 = (dL D : Int) := hM.now.lodgers
  have e2 := hX.now.lodgers
  have e3 : zu S 62 0 0 62 36 = (dN D : Int) := hM.now.lent
  have e3' := hM.now.lent
  have e4 := hX.now.lent
  have e6 := hX.refused 1
  have e7 : zu S 62 0 0 71 1 = (T 3 1 : Int) := hM.refused 1 (by omega)
  have e8 := hX.few
  have hM0 : mOK (zu S 62 0 0) D := hM.now.u (Or.inl rfl)
  unfold lendA lendD lendT at h
  by_cases hp : lendP D x y
  · obtain ⟨⟨p1, p2⟩, p3, p4⟩ := id hp
    by_cases hq : lendQ D x y z
    · rw [if_pos ⟨hp, hq⟩, if_neg (fun c => c.2 hq), if_pos hp, if_pos hq] at h
      obtain ⟨q1, q2, ⟨q3, q4⟩, q5⟩ := id hq
      have hn : mOK (zu (zu (zu (zu (zu S 62 0 0) 79 (3 * dN D) x) 79 (3 * dN D + 1) y) 79 (3 * dN D + 2) z) 62 36 (S 62 36 + 1)) (lendN D x y z) := ⟨hM.now.rooms, hM.now.lodgers, hM.now.finders, hM.now.mays, hM.now.goods, hM.now.whose, hM.now.home, hM.now.feet, hM.now.law, hM.now.may, (by show S 62 36 + 1 = ((dN D + 1 : Nat) : Int); omega), hM.now.seenHour, hM.now.seenRooms, (fun k hk => by
          have hk : k < 3 * (dN D + 1) := hk
          show zu (zu (zu S 79 (3 * dN D) x) 79 (3 * dN D + 1) y) 79 (3 * dN D + 2) z 79 k = _
          rw [lendN_T, zu_if, zu_if, zu_if]
          by_cases c2 : k = 3 * dN D + 2
          · rw [if_pos c2, if_pos c2]; omega
          by_cases c1 : k = 3 * dN D + 1
          · rw [if_neg c2, if_neg c2, if_pos c1, if_pos c1]; omega
          by_cases c0 : k = 3 * dN D
          · rw [if_neg c2, if_neg c2, if_neg c1, if_neg c1, if_pos c0, if_pos c0]; omega
          rw [if_neg c2, if_neg c2, if_neg c1, if_neg c1, if_neg c0, if_neg c0]
          exact hM.now.lending k (by omega)), hM.now.day, hM.now.looks, hM.now.seen⟩
      repeat' (first | refine And.intro ?_ ?_ | (intro _; try omega) | omega | rfl | refine ⟨_, ⟨rfl, by omega⟩, ?_⟩ | (simp only [zu, Nat.reduceBEq, Bool.false_and, Bool.true_and, Bool.and_true, Bool.and_false, cond_false, cond_true, beq_self_eq_true]; omega) | refine ⟨3 * dN D, ⟨by (first | omega | (simp only [zu, Nat.reduceBEq, Bool.false_and, Bool.true_and, Bool.and_true, Bool.and_false, cond_false, cond_true, beq_self_eq_true]; omega)), by omega⟩, ?_⟩ | refine ⟨3 * dN D + 1, ⟨by (first | omega | (simp only [zu, Nat.reduceBEq, Bool.false_and, Bool.true_and, Bool.and_true, Bool.and_false, cond_false, cond_true, beq_self_eq_true]; omega)), by omega⟩, ?_⟩ | refine ⟨3 * dN D + 2, ⟨by (first | omega | (simp only [zu, Nat.reduceBEq, Bool.false_and, Bool.true_and, Bool.and_true, Bool.and_false, cond_false, cond_true, beq_self_eq_true]; omega)), by omega⟩, ?_⟩ | refine ⟨D, x.toNat, z.toNat, ⟨rfl, hX.now, hM0, by omega, by omega, by omega, by omega⟩, ?_⟩ | fail)
      all_goals exact h _ _ ⟨hn, hM.tape, hM.bytes, hM.fault, hM.refused, hM.hasImage, hM.image, hM.path, hM.pathRooms, hM.pathLooks, hM.lends, hM.lenders⟩ ((((((frM.r S).u (by omega) (by omega)).u (by omega) (by omega)).u (by omega) (by omega)).u (by omega) (by omega)).u (by omega) (by omega)) rfl (fun _ => by show S 62 36 + 1 = (dN D : Int) + 1; omega)
    · rw [if_neg (fun c => hq c.2), if_pos ⟨hp, hq⟩, if_pos hp, if_neg hq] at h
      unfold lendQ at hq
      have hn : mOK (zu (zu S 62 0 0) 71 1 (zu S 62 0 0 71 1 + 1)) D := ⟨hM.now.rooms, hM.now.lodgers, hM.now.finders, hM.now.mays, hM.now.goods, hM.now.whose, hM.now.home, hM.now.feet, hM.now.law, hM.now.may, hM.now.lent, hM.now.seenHour, hM.now.seenRooms, hM.now.lending, hM.now.day, hM.now.looks, hM.now.seen⟩
      have h : K (.inl (some (.inl (-1)))) (zu (zu S 62 0 0) 71 1 (zu S 62 0 0 71 1 + 1)) := h _ _ ⟨hn, hM.tape, hM.bytes, hM.fault, (fun i hi => zuU (fun _ => hM.refused i hi) (by omega)), hM.hasImage, hM.image, hM.path, hM.pathRooms, hM.pathLooks, hM.lends, hM.lenders⟩ (((frM.r S).u (by omega) (by omega)).u (by omega) (by omega)) rfl (fun _ => rfl)
      repeat' (first | refine And.intro ?_ ?_ | (intro _; try omega) | omega | rfl | refine ⟨_, ⟨rfl, by omega⟩, ?_⟩ | refine ⟨1, ⟨by omega, by omega⟩, ?_⟩ | refine ⟨D, x.toNat, z.toNat, ⟨rfl, hX.now, hM0, by omega, by omega, by omega, by omega⟩, ?_⟩ | fail)
      all_goals exact h
  · rw [if_neg (fun c => hp c.1), if_neg (fun c => hp c.1), if_neg hp] at h
    unfold lendP at hp
    have h := mFail1 hM h
    repeat' (first | refine And.intro ?_ ?_ | (intro _; try omega) | omega | rfl | refine ⟨_, ⟨rfl, by omega⟩, ?_⟩ | fail)
    all_goals exact h
theorem c_back (hC : eC S D E T) (hX : xOK D E T N) (h : cRes S (backD D) E T (cr1 (backA D)) K) : wp_X11_back [.inr (.inl 0)] S K := by
  have e2 := hX.now.lodgers
  have e3 := hC.now.lent
  have e4 := hX.now.lent
  unfold backA backD at h
  by_cases hn : dN D = 0
  · rw [if_pos hn, if_pos hn] at h
    have h := cGood hC h
    repeat' (first | refine And.intro ?_ ?_ | (intro _; try omega) | omega | rfl | refine ⟨_, ⟨rfl, by omega⟩, ?_⟩ | fail)
    all_goals exact h
  · rw [if_neg hn, if_neg hn] at h
    have hpos := back_pos hX.now hn
    have bU := backN_U (D := D)
    obtain ⟨a1, a2, a3, a4⟩ := hX.now.lending (dN D - 1) (by omega)
    have g1 := hC.now.givers (dN D - 1) (by omega)
    have g2 := hC.now.takers (dN D - 1) (by omega)
    have g3 := hC.now.lentShoes (dN D - 1) (by omega)
    have h : cRes S (backN D) E T (.inl (some (.inl (S 20 7 - 1)))) K := by rw [e3]; exact h
    have u1 := dU_le hX.now a1 a3
    have u2 := dU_le hX.now a2 a3
    generalize hgg : dT D (3 * (dN D - 1)) = g at *
    generalize htt : dT D (3 * (dN D - 1) + 1) = t at *
    generalize hzz : dT D (3 * (dN D - 1) + 2) = z at *
    have e5 := hC.now.shoes (2 * t + z - 1) (by omega)
    have e5b := hC.now.shoes (2 * g + z - 1) (by omega)
    have e9 : ∀ v w, zu (zu S 20 7 w) 24 (2 * t + z - 1) v 24 (2 * g + z - 1) = S 24 (2 * g + z - 1) := fun v w => zuN (Or.inr (by omega))
    have hn : cOK (zu (zu (zu S 20 7 (S 20 7 - 1)) 24 (2 * t + z - 1) (S 24 (2 * t + z - 1) - 1)) 24 (2 * g + z - 1) (S 24 (2 * g + z - 1) + 1)) (backN D) := ⟨hC.now.rooms, hC.now.lodgers, hC.now.finders, hC.now.mays, hC.now.goods, hC.now.tenant, hC.now.home, hC.now.told, hC.now.law, (by show S 20 7 - 1 = ((dN D - 1 : Nat) : Int); omega), hC.now.seenHour, hC.now.seenRooms, (fun k hk => hC.now.givers k (by have hk : k < dN D - 1 := hk; omega)), (fun k hk => hC.now.takers k (by have hk : k < dN D - 1 := hk; omega)), (fun k hk => hC.now.lentShoes k (by have hk : k < dN D - 1 := hk; omega)), (fun k hk => by
          have hk : k < 2 * dL D := hk
          show zu (zu S 24 (2 * t + z - 1) (S 24 (2 * t + z - 1) - 1)) 24 (2 * g + z - 1) (S 24 (2 * g + z - 1) + 1) 24 k = _
          rw [bU, zu_if, zu_if]
          by_cases ey : k = 2 * g + z - 1
          · rw [if_pos ey, if_pos ey]; omega
          · rw [if_neg ey, if_neg ey]
            by_cases ex : k = 2 * t + z - 1
            · rw [if_pos ex, if_pos ex]; omega
            · rw [if_neg ex, if_neg ex]; exact hC.now.shoes k hk), hC.now.day, hC.now.rounds, hC.now.seen⟩
    repeat' (first | refine And.intro ?_ ?_ | (intro _; try omega) | omega | rfl | refine ⟨_, ⟨rfl, by omega⟩, ?_⟩ | (simp only [zu, Nat.reduceBEq, Bool.false_and, Bool.true_and, Bool.and_true, Bool.and_false, cond_false, cond_true, beq_self_eq_true]; omega) | refine ⟨dN D - 1, ⟨by (first | omega | (simp only [zu, Nat.reduceBEq, Bool.false_and, Bool.true_and, Bool.and_true, Bool.and_false, cond_false, cond_true, beq_self_eq_true]; omega)), by omega⟩, ?_⟩ | refine ⟨2 * t + z - 1, ⟨by (first | omega | (simp only [zu, Nat.reduceBEq, Bool.false_and, Bool.true_and, Bool.and_true, Bool.and_false, cond_false, cond_true, beq_self_eq_true]; omega)), by omega⟩, ?_⟩ | refine ⟨2 * g + z - 1, ⟨by (first | omega | (simp only [zu, Nat.reduceBEq, Bool.false_and, Bool.true_and, Bool.and_true, Bool.and_false, cond_false, cond_true, beq_self_eq_true]; omega)), by omega⟩, ?_⟩ | (rw [e9]; omega) | fail)
    all_goals
      have hA : ∀ w, zu (zu S 20 7 (S 20 7 - 1)) 24 (2 * t + z - 1) w 24 (2 * g + z - 1) + 1 = S 24 (2 * g + z - 1) + 1 := fun w => by rw [e9]
      rw [← hA (S 24 (2 * t + z - 1) - 1)] at hn
      exact h _ ⟨hn, hC.tape, hC.bytes, hC.fault, hC.refused, hC.isKept, hC.kept, hC.path, hC.pathRooms, hC.pathLooks, hC.lends, hC.lenders, hC.slippers⟩ ((((frC.r S).u (by omega)).u (by omega)).u (by omega))
theorem m_back (hM : eM S D E T) (hX : xOK D E T N) (h : mRes S (backD D) E T (backA D) K) : wp_X12_back [.inr (.inl 62)] S K := by
  have e3 : zu S 62 0 0 62 36 = (dN D : Int) := hM.now.lent
  have e3' := hM.now.lent
  have e4 := hX.now.lent
  unfold backA backD at h
  by_cases hn : dN D = 0
  · rw [if_pos hn, if_pos hn] at h
    have h := mGood hM h
    repeat' (first | refine And.intro ?_ ?_ | (intro _; try omega) | omega | rfl | refine ⟨_, ⟨rfl, by omega⟩, ?_⟩ | fail)
    all_goals exact h
  · rw [if_neg hn, if_neg hn] at h
    have hn : mOK (zu (zu S 62 0 0) 62 36 (S 62 36 - 1)) (backN D) := ⟨hM.now.rooms, hM.now.lodgers, hM.now.finders, hM.now.mays, hM.now.goods, hM.now.whose, hM.now.home, hM.now.feet, hM.now.law, hM.now.may, (by show S 62 36 - 1 = ((dN D - 1 : Nat) : Int); omega), hM.now.seenHour, hM.now.seenRooms, (fun k hk => hM.now.lending k (by have hk : k < 3 * (dN D - 1) := hk; omega)), hM.now.day, hM.now.looks, hM.now.seen⟩
    repeat' (first | refine And.intro ?_ ?_ | (intro _; try omega) | omega | rfl | refine ⟨_, ⟨rfl, by omega⟩, ?_⟩ | fail)
    all_goals exact h _ _ ⟨hn, hM.tape, hM.bytes, hM.fault, hM.refused, hM.hasImage, hM.image, hM.path, hM.pathRooms, hM.pathLooks, hM.lends, hM.lenders⟩ (((frM.r S).u (by omega) (by omega)).u (by omega) (by omega)) rfl (fun _ => by show S 62 36 - 1 = (dN D : Int) - 1; omega)
end
