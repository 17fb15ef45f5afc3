/-! see, forget -/
def forD (D : zD) : zD := zu (zu D 10 0 0) 10 1 0
abbrev seeP (D : zD) (x y : Int) : Prop := (0 ≤ x ∧ x < dR D) ∧ (0 ≤ y ∧ y < 24)
abbrev seeQ (D : zD) (x y z : Int) : Prop := (0 ≤ z ∧ z ≤ 3) ∧ ¬ ((dQ D : Int) = y + 1 ∧ bt1 (dP D) x.toNat = 1)
def seeR (D : zD) (x y : Int) : Nat := (if (dQ D : Int) = y + 1 then dP D else 0) ||| 2 ^ x.toNat
def seeN (D : zD) (x y z : Int) : zD := zu (zu (zu D 10 0 (y.toNat + 1)) 10 1 (seeR D x y)) 11 x.toNat z.toNat
def seeA (D : zD) (x y z : Int) : Nat × Int := if seeP D x y then (if seeQ D x y z then (0, ((bl (seeR D x y)).length : Int)) else (0, -1)) else (1, 0)
def seeD (D : zD) (x y z : Int) : zD := if seeP D x y ∧ seeQ D x y z then seeN D x y z else D
def seeT (D T : zD) (x y z : Int) : zD := if seeP D x y ∧ ¬ seeQ D x y z then zu T 3 2 (T 3 2 + 1) else T
section
variable {S : zS} {D E T : zD} {N : Nat} {K : zR2 → zS → Prop} {x y z u w : Int}
theorem p_lt (h : dOK D) : dP D < 256 := by
  have h1 := h.seenRooms
  have h2 := h.rooms
  have h3 : 2 ^ dR D ≤ 2 ^ 8 := Nat.pow_le_pow_right (by decide) h2
  omega
theorem x_forget (hX : xOK D E T N) (hN : N < 99999) : xOK (forD D) E T (N + 1) := by
  refine hX.day hN ?_ (fun c hc => funext fun j => (zuD_n (Or.inl (by omega))).trans (zuD_n (Or.inl (by omega))))
  exact hX.now.upd (fun c hc => funext fun j => (zuD_n (Or.inl (by omega))).trans (zuD_n (Or.inl (by omega)))) hX.now.day hX.now.dayMay hX.now.looks (Nat.zero_le _) (Nat.two_pow_pos _) hX.now.seen
theorem c_forget (hC : eC S D E T) (hX : xOK D E T N) (h : cRes S (forD D) E T (cr1 (0, ((bl (dP D)).length : Int))) K) : wp_X11_forget [.inr (.inl 0)] S K := by
  have e1 := hC.now.seenRooms
  have e2 := p_lt hX.now
  repeat' (first | refine And.intro ?_ ?_ | (intro _; try omega) | omega | rfl | refine ⟨_, ⟨rfl, by omega⟩, ?_⟩ | refine ⟨dP D, dP D, ⟨e1, Or.inl ⟨rfl, e2⟩⟩, ?_⟩ | fail)
  have hn : cOK (zu (zu S 20 8 (-1)) 20 9 0) (forD D) := ⟨hC.now.rooms, hC.now.lodgers, hC.now.finders, hC.now.mays, hC.now.goods, hC.now.tenant, hC.now.home, hC.now.told, hC.now.law, hC.now.lent, rfl, rfl, hC.now.givers, hC.now.takers, hC.now.lentShoes, hC.now.shoes, hC.now.day, hC.now.rounds, hC.now.seen⟩
  exact h _ ⟨hn, hC.tape, hC.bytes, hC.fault, hC.refused, hC.isKept, hC.kept, hC.path, hC.pathRooms, hC.pathLooks, hC.lends, hC.lenders, hC.slippers⟩ (((frC.r S).u (by omega)).u (by omega))
theorem m_forget (hM : eM S D E T) (hX : xOK D E T N) (h : mRes S (forD D) E T (0, ((bl (dP D)).length : Int)) K) : wp_X12_forget [.inr (.inl 62)] S K := by
  have e1 := hM.now.seenRooms
  have e2 := p_lt hX.now
  repeat' (first | refine And.intro ?_ ?_ | (intro _; try omega) | omega | rfl | refine ⟨_, ⟨rfl, by omega⟩, ?_⟩ | refine ⟨dP D, ⟨e1, by omega⟩, ?_⟩ | fail)
  have hn : mOK (zu (zu (zu S 62 0 0) 62 41 0) 62 40 (-1)) (forD D) := ⟨hM.now.rooms, hM.now.lodgers, hM.now.finders, hM.now.mays, hM.now.goods, hM.now.whose, hM.now.home, hM.now.feet, hM.now.law, hM.now.may, hM.now.lent, rfl, rfl, hM.now.lending, hM.now.day, hM.now.looks, hM.now.seen⟩
  exact h _ _ ⟨hn, hM.tape, hM.bytes, hM.fault, hM.refused, hM.hasImage, hM.image, hM.path, hM.pathRooms, hM.pathLooks, hM.lends, hM.lenders⟩ ((((frM.r S).u (by omega) (by omega)).u (by omega) (by omega)).u (by omega) (by omega)) rfl (fun _ => rfl)
theorem seeR_lt (h : dOK D) (hp : seeP D x y) : seeR D x y < 2 ^ dR D := by
  unfold seeR
  have h1 := h.seenRooms
  have h2 : 2 ^ x.toNat < 2 ^ dR D := Nat.pow_lt_pow_right (by decide) (by have := hp.1; omega)
  refine Nat.or_lt_two_pow ?_ h2
  split
  · exact h1
  · exact Nat.two_pow_pos _
theorem x_see (hX : xOK D E T N) (hN : N < 99999) : xOK (seeD D x y z) E (seeT D T x y z) (N + 1) := by
  unfold seeD seeT
  by_cases hp : seeP D x y
  · by_cases hq : seeQ D x y z
    · rw [if_pos ⟨hp, hq⟩, if_neg (fun c => c.2 hq)]
      have hR := seeR_lt hX.now hp
      refine hX.day hN ?_ (fun c hc => funext fun j => (zuD_n (Or.inl (by omega))).trans ((zuD_n (Or.inl (by omega))).trans (zuD_n (Or.inl (by omega)))))
      refine hX.now.upd (fun c hc => funext fun j => (zuD_n (Or.inl (by omega))).trans ((zuD_n (Or.inl (by omega))).trans (zuD_n (Or.inl (by omega))))) hX.now.day hX.now.dayMay hX.now.looks ?_ hR (fun r hr => ?_)
      · show y.toNat + 1 ≤ 24
        have := hp.2
        omega
      · show zu (zu (zu D 10 0 (y.toNat + 1)) 10 1 (seeR D x y)) 11 x.toNat z.toNat 11 r < 4
        by_cases e : r = x.toNat
        · subst e; rw [zuD_e]; have := hq.1; omega
        · rw [zuD_n (Or.inr e)]; exact hX.now.seen r hr
    · rw [if_neg (fun c => hq c.2), if_pos ⟨hp, hq⟩]
      exact hX.ref hN
  · rw [if_neg (fun c => hp c.1), if_neg (fun c => hp c.1)]
    exact hX.up hN
theorem c_see (hC : eC S D E T) (hX : xOK D E T N) (h : cRes S (seeD D x y z) E (seeT D T x y z) (cr1 (seeA D x y z)) K) : wp_X11_see [.inr (.inl 0), .inl x, .inl y, .inl z] S K := by
  have e1 := hC.now.rooms
  have e2 := hC.now.seenHour
  have e3 := hC.now.seenRooms
  have e4 := hX.now.rooms
  have e5 := p_lt hX.now
  have e6 := hX.refused 2
  have e7 := hC.refused 2 (by omega)
  have e8 := hX.few
  unfold seeA seeD seeT at h
  by_cases hp : seeP D x y
  · have hR := seeR_lt hX.now hp
    have hR2 : 2 ^ dR D ≤ 2 ^ 8 := Nat.pow_le_pow_right (by decide) e4
    obtain ⟨⟨p1, p2⟩, p3, p4⟩ := id hp
    have eb : zand (zshr (S 20 9) x) 1 = (bt1 (dP D) x.toNat : Int) := by
      rw [e3, show x = (x.toNat : Int) by omega, zbit_n (by omega) (by omega)]
      rfl
    have hb := bt1_lt (dP D) x.toNat
    by_cases hq : seeQ D x y z
    · rw [if_pos ⟨hp, hq⟩, if_neg (fun c => c.2 hq), if_pos hp, if_pos hq] at h
      obtain ⟨⟨q1, q2⟩, q3⟩ := hq
      by_cases hh : (dQ D : Int) = y + 1
      · have er : zor (S 20 9) (zshl 1 x) = (seeR D x y : Int) := by
          unfold seeR
          have : 2 ^ x.toNat ≤ 2 ^ 8 := Nat.pow_le_pow_right (by decide) (by omega)
          rw [if_pos hh, e3, show x = (x.toNat : Int) by omega, zsh1_n (by omega), zor_n (by omega) (by omega)]
          rfl
        repeat' (first | refine And.intro ?_ ?_ | (intro _; try omega) | omega | rfl | refine ⟨_, ⟨rfl, by omega⟩, ?_⟩ | refine ⟨x.toNat, ⟨by omega, by omega⟩, ?_⟩ | refine ⟨seeR D x y, seeR D x y, ⟨er, Or.inl ⟨rfl, by omega⟩⟩, ?_⟩ | fail)
        have hn : cOK (zu (zu S 20 9 (zor (S 20 9) (zshl 1 x))) 27 x.toNat z) (seeN D x y z) := ⟨hC.now.rooms, hC.now.lodgers, hC.now.finders, hC.now.mays, hC.now.goods, hC.now.tenant, hC.now.home, hC.now.told, hC.now.law, hC.now.lent, (by show S 20 8 = ((y.toNat + 1 : Nat) : Int) - 1; omega), er, hC.now.givers, hC.now.takers, hC.now.lentShoes, hC.now.shoes, hC.now.day, hC.now.rounds, (fun j hj => zuU (fun _ => hC.now.seen j hj) (by omega))⟩
        exact h _ ⟨hn, hC.tape, hC.bytes, hC.fault, hC.refused, hC.isKept, hC.kept, hC.path, hC.pathRooms, hC.pathLooks, hC.lends, hC.lenders, hC.slippers⟩ (((frC.r S).u (by omega)).u (by omega))
      · have er : zor 0 (zshl 1 x) = (seeR D x y : Int) := by
          unfold seeR
          have : 2 ^ x.toNat ≤ 2 ^ 8 := Nat.pow_le_pow_right (by decide) (by omega)
          rw [if_neg hh, show x = (x.toNat : Int) by omega, zsh1_n (by omega), show (0 : Int) = ((0 : Nat) : Int) from rfl, zor_n (by omega) (by omega)]
          rfl
        repeat' (first | refine And.intro ?_ ?_ | (intro _; try omega) | omega | rfl | refine ⟨_, ⟨rfl, by omega⟩, ?_⟩ | refine ⟨x.toNat, ⟨by omega, by omega⟩, ?_⟩ | refine ⟨seeR D x y, seeR D x y, ⟨er, Or.inl ⟨rfl, by omega⟩⟩, ?_⟩ | fail)
        have hn : cOK (zu (zu (zu (zu S 20 9 0) 20 8 y) 20 9 (zor 0 (zshl 1 x))) 27 x.toNat z) (seeN D x y z) := ⟨hC.now.rooms, hC.now.lodgers, hC.now.finders, hC.now.mays, hC.now.goods, hC.now.tenant, hC.now.home, hC.now.told, hC.now.law, hC.now.lent, (by show y = ((y.toNat + 1 : Nat) : Int) - 1; omega), er, hC.now.givers, hC.now.takers, hC.now.lentShoes, hC.now.shoes, hC.now.day, hC.now.rounds, (fun j hj => zuU (fun _ => hC.now.seen j hj) (by omega))⟩
        exact h _ ⟨hn, hC.tape, hC.bytes, hC.fault, hC.refused, hC.isKept, hC.kept, hC.path, hC.pathRooms, hC.pathLooks, hC.lends, hC.lenders, hC.slippers⟩ (((((frC.r S).u (by omega)).u (by omega)).u (by omega)).u (by omega))
    · rw [if_neg (fun c => hq c.2), if_pos ⟨hp, hq⟩, if_pos hp, if_neg hq] at h
      unfold seeQ at hq
      have h : K (.inl (some (.inl (-1)))) (zu S 61 2 (S 61 2 + 1)) := h _ ⟨hC.now, hC.tape, hC.bytes, hC.fault, (fun i hi => zuU (fun _ => hC.refused i hi) (by omega)), hC.isKept, hC.kept, hC.path, hC.pathRooms, hC.pathLooks, hC.lends, hC.lenders, hC.slippers⟩ ((frC.r S).u (by omega))
      repeat' (first | refine And.intro ?_ ?_ | (intro _; try omega) | omega | rfl | refine ⟨_, ⟨rfl, by omega⟩, ?_⟩ | refine ⟨2, ⟨by omega, by omega⟩, ?_⟩ | fail)
      all_goals exact h
  · rw [if_neg (fun c => hp c.1), if_neg (fun c => hp c.1), if_neg hp] at h
    unfold seeP at hp
    have h := cGood hC h
    repeat' (first | refine And.intro ?_ ?_ | (intro _; try omega) | omega | rfl | refine ⟨_, ⟨rfl, by omega⟩, ?_⟩ | fail)
    all_goals exact h
end
