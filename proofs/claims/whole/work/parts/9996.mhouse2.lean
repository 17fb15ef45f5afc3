/-! the house: the model's call, its end -/
section
variable {l : Launch} {Q : zR2 → zS → Prop} {S S4 S5 S6 S7 : zS} {D E T P : zD} {x : Int} {n q : Nat}
theorem m_new (hM : eM S D E T) (hP : pOK P) (fr4 : ∀ c j, c ≠ 1062 → (c < 72 ∨ 78 < c) → (c ≠ 62 ∨ (j ≠ 0 ∧ j ≠ 13 ∧ j ≠ 14 ∧ j ≠ 15 ∧ (j < 17 ∨ 28 < j))) → S4 c j = S c j) (h0 : S4 62 0 = 0) (h13 : S4 62 13 = 0) (h15 : S4 62 15 = -1) (hp : plM S5 P) (f5 : ∀ c j, (c < 63 ∨ 68 < c) → (c ≠ 62 ∨ j < 1 ∨ 4 < j) → S5 c j = S4 c j) (f6 : ∀ c, c ≠ 69 → S6 c = S5 c) (h69 : ∀ j, j < 144 → S6 69 j = (myP P j : Int)) (h7 : bgM S7 (zu (zu (zu (zu (zu (zu S6 62 36 0) 62 40 (-1)) 62 41 0) 62 52 0) 62 56 0) 62 63 0) P (24 * P 0 1) (24 * P 0 2)) :
    eM S7 (newD D P) E (zu (zu (zu (zu (zu T 0 0 0) 2 0 0) 4 0 0) 5 0 0) 8 0 0) ∧ frN S S7 ∧ S7 62 0 = 0 := by
  have g7 : ∀ c, c ≠ 62 → c ≠ 80 → c ≠ 81 → S7 c = S6 c := fun c a b d => (h7.fr c b d).trans ((zu_c a).trans ((zu_c a).trans ((zu_c a).trans ((zu_c a).trans ((zu_c a).trans (zu_c a))))))
  have g62 : ∀ j, j ≠ 36 → j ≠ 40 → j ≠ 41 → j ≠ 52 → j ≠ 56 → j ≠ 63 → S7 62 j = S5 62 j := fun j a1 a2 a3 a4 a5 a6 => by
    rw [h7.fr 62 (by decide) (by decide), zuN (Or.inr a6), zuN (Or.inr a5), zuN (Or.inr a4), zuN (Or.inr a3), zuN (Or.inr a2), zuN (Or.inr a1), f6 62 (by decide)]
  have gC : ∀ c, 62 < c → c ≠ 1062 → c ≠ 69 → c ≠ 80 → c ≠ 81 → (c < 63 ∨ 68 < c) → (c < 72 ∨ 78 < c) → S7 c = S c := fun c a0 a1 a2 a3 a4 a5 a6 => (g7 c (by omega) a3 a4).trans ((f6 c a2).trans (funext fun j => (f5 c j a5 (by omega)).trans (fr4 c j a1 a6 (by omega))))
  have gJ : ∀ j, (j ≠ 0 ∧ j ≠ 13 ∧ j ≠ 14 ∧ j ≠ 15 ∧ (j < 17 ∨ 28 < j)) → (j < 1 ∨ 4 < j) → j ≠ 36 → j ≠ 40 → j ≠ 41 → j ≠ 52 → j ≠ 56 → j ≠ 63 → S7 62 j = S 62 j := fun j b1 b2 a1 a2 a3 a4 a5 a6 => (g62 j a1 a2 a3 a4 a5 a6).trans ((f5 62 j (by omega) (by omega)).trans (fr4 62 j (by omega) (by omega) (by omega)))
  have i36 : S7 62 36 = 0 := by rw [h7.fr 62 (by decide) (by decide)]; rfl
  have i40 : S7 62 40 = -1 := by rw [h7.fr 62 (by decide) (by decide)]; rfl
  have i41 : S7 62 41 = 0 := by rw [h7.fr 62 (by decide) (by decide)]; rfl
  have i52 : S7 62 52 = 0 := by rw [h7.fr 62 (by decide) (by decide)]; rfl
  have i56 : S7 62 56 = 0 := by rw [h7.fr 62 (by decide) (by decide)]; rfl
  have i63 : S7 62 63 = 0 := by rw [h7.fr 62 (by decide) (by decide)]; rfl
  have pl : plM S7 P := (hp.fr (S' := S7) (fun j a b => g62 j (by omega) (by omega) (by omega) (by omega) (by omega) (by omega)) (fun c a b => (g7 c (by omega) (by omega) (by omega)).trans (f6 c (by omega))))
  have gold : ∀ c, c = 80 ∨ c = 81 → zu (zu (zu (zu (zu (zu S6 62 36 0) 62 40 (-1)) 62 41 0) 62 52 0) 62 56 0) 62 63 0 c = S c := fun c hc => by
    rw [zu_c (by omega), zu_c (by omega), zu_c (by omega), zu_c (by omega), zu_c (by omega), zu_c (by omega), f6 c (by omega)]
    exact funext fun j => (f5 c j (by omega) (by omega)).trans (fr4 c j (by omega) (by omega) (by omega))
  have o := hP.lodgers
  have hn : mOK S7 (newD D P) := by
    refine ⟨pl.rooms, pl.lodgers, pl.finders, pl.mays, pl.goods, pl.whose, pl.home, pl.feet, pl.law, fun k hk => ?_, i36, i40, i41, fun k hk => absurd (show k < 3 * 0 from hk) (by omega), fun k hk => ?_, fun k hk => ?_, fun r hr => ?_⟩
    · have hk : k < 24 * P 0 1 := hk
      rw [g7 69 (by decide) (by decide) (by decide)]
      exact h69 k (by omega)
    · rw [h7.day k hk, gold 80 (by omega)]
      show _ = (((if k < 24 * P 0 1 then lwD (myP P k) else D 8 k) : Nat) : Int)
      split
      · rfl
      · exact hM.now.day k hk
    · rw [h7.looks k hk, gold 81 (by omega)]
      show _ = (((if k < 24 * P 0 2 then P 5 (k / 24) else D 9 k) : Nat) : Int)
      split
      · rfl
      · exact hM.now.looks k hk
    · rw [gC 82 (by omega) (by omega) (by omega) (by omega) (by omega) (by omega) (by omega)]
      exact hM.now.seen r hr
  have j13 : S7 62 13 = 0 := (g62 13 (by omega) (by omega) (by omega) (by omega) (by omega) (by omega)).trans ((f5 62 13 (by omega) (by omega)).trans h13)
  have j15 : S7 62 15 = -1 := (g62 15 (by omega) (by omega) (by omega) (by omega) (by omega) (by omega)).trans ((f5 62 15 (by omega) (by omega)).trans h15)
  have j0 : S7 62 0 = 0 := (g62 0 (by omega) (by omega) (by omega) (by omega) (by omega) (by omega)).trans ((f5 62 0 (by omega) (by omega)).trans h0)
  refine ⟨⟨hn, j13, fun k hk => absurd (show k < 0 from hk) (Nat.not_lt_zero k), j15, ?_, i63, fun z => absurd (show (0 : Nat) = 1 from z) (by decide), i52, fun i hi => absurd (show i < 0 from hi) (Nat.not_lt_zero i), fun i hi => absurd (show i < 0 from hi) (Nat.not_lt_zero i), i56, fun z => absurd (show (0 : Nat) = 1 from z) (by decide)⟩, ?_, j0⟩
  · rw [gC 71 (by omega) (by omega) (by omega) (by omega) (by omega) (by omega) (by omega)]
    exact hM.refused
  · intro c hc
    refine (g7 c (by omega) (by omega) (by omega)).trans ((f6 c (by omega)).trans (funext fun j => (f5 c j (by omega) (by omega)).trans (fr4 c j (by omega) (by omega) (by omega))))
set_option maxRecDepth 20000 in
theorem E_X12_house2 (hM : eM S D E T) (I : rdJ S4 T n P q) (fr4 : ∀ c j, c ≠ 1062 → (c < 72 ∨ 78 < c) → (c ≠ 62 ∨ (j ≠ 0 ∧ j ≠ 13 ∧ j ≠ 14 ∧ j ≠ 15 ∧ (j < 17 ∨ 28 < j))) → S4 c j = S c j) (h0 : S4 62 0 = 0) (h13 : S4 62 13 = 0) (h15 : S4 62 15 = -1) (h : mRes2 S (newD D P) E (zu (zu (zu (zu (zu T 0 0 0) 2 0 0) 4 0 0) 5 0 0) 8 0 0) (0, 0) Q) : zGs l 6 0 0 F_X12_house S4 157 [(0, .inr (.inl 62)), (1, .inl x), (2, .inl 144)] [] Q := by
  have o1 := I.ok.rooms
  have o2 := I.ok.lodgers
  have o3 := I.ok.finders
  have hp := I.plan
  have go : ∀ S5, plM S5 P → (∀ c j, (c < 63 ∨ 68 < c) → (c ≠ 62 ∨ j < 1 ∨ 4 < j) → S5 c j = S4 c j) → zGs l 6 0 0 F_X12_house S5 283 [(0, .inr (.inl 62)), (1, .inl x), (2, .inl 144)] [] Q := fun S5 p5 f5 => by
    have L3 := L3_X12_house (l := l) (Q := Q) (x := x) (S0 := S5) (P := P) (fun j hj => by rw [f5 78 j (by omega) (by omega)]; exact hp.may j hj) (fun S6 f6 h69 => by
      have p6 : plM S6 P := p5.fr (fun j _ _ => by rw [f6 62 (by decide)]) (fun c _ _ => f6 c (by omega))
      have L7 := fun S7 (h7 : bgM S7 (zu (zu (zu (zu (zu (zu S6 62 36 0) 62 40 (-1)) 62 41 0) 62 52 0) 62 56 0) 62 63 0) P (24 * P 0 1) 0) => L7_X12_house (l := l) (Q := Q) (x := x) (S0 := zu (zu (zu (zu (zu (zu S6 62 36 0) 62 40 (-1)) 62 41 0) 62 52 0) 62 56 0) 62 63 0) (a := 24 * P 0 1) I.ok p6.finders p6.begins (fun S8 h8 => by
        obtain ⟨a1, a2, a3⟩ := m_new hM I.ok fr4 h0 h13 h15 p5 f5 f6 h69 h8
        exact h S8 0 a1 a2 a3 (fun _ => rfl)) (P 0 2) 0 S7 (by omega) h7
      have L5 := L5_X12_house (l := l) (Q := Q) (x := x) (S0 := zu (zu (zu (zu (zu (zu S6 62 36 0) 62 40 (-1)) 62 41 0) 62 52 0) 62 56 0) 62 63 0) I.ok p6.lodgers h69 (fun S7 h7 => by
        have L7 := L7 S7 h7
        refine zwq_ok (Z_X12_house l) rfl [410] (fun _ _ _ _ _ _ h => h) 400 (Z_X12_house l) ?_
        exact zGs.sub (lo := [(0, _), (1, _), (2, _)]) L7 (fun q hq => by simp only [List.mem_cons, List.not_mem_nil, or_false] at hq; rcases hq with rfl | rfl | rfl <;> first | exact .head _ | exact .tail _ (.head _) | exact .tail _ (.tail _ (.head _)) | exact .tail _ (.tail _ (.tail _ (.head _))) | exact .tail _ (.tail _ (.tail _ (.tail _ (.head _)))) | exact .tail _ (.tail _ (.tail _ (.tail _ (.tail _ (.head _))))) | exact .tail _ (.tail _ (.tail _ (.tail _ (.tail _ (.tail _ (.head _)))))) | exact .tail _ (.tail _ (.tail _ (.tail _ (.tail _ (.tail _ (.tail _ (.head _))))))) | exact .tail _ (.tail _ (.tail _ (.tail _ (.tail _ (.tail _ (.tail _ (.tail _ (.head _)))))))) | exact .tail _ (.tail _ (.tail _ (.tail _ (.tail _ (.tail _ (.tail _ (.tail _ (.tail _ (.head _))))))))) | exact .tail _ (.tail _ (.tail _ (.tail _ (.tail _ (.tail _ (.tail _ (.tail _ (.tail _ (.tail _ (.head _)))))))))) | exact .tail _ (.tail _ (.tail _ (.tail _ (.tail _ (.tail _ (.tail _ (.tail _ (.tail _ (.tail _ (.tail _ (.head _))))))))))) | exact .tail _ (.tail _ (.tail _ (.tail _ (.tail _ (.tail _ (.tail _ (.tail _ (.tail _ (.tail _ (.tail _ (.tail _ (.head _)))))))))))) | exact .tail _ (.tail _ (.tail _ (.tail _ (.tail _ (.tail _ (.tail _ (.tail _ (.tail _ (.tail _ (.tail _ (.tail _ (.tail _ (.head _))))))))))))))) (P 0 1) 0 _ (by omega) ⟨fun _ _ _ => rfl, fun k hk => by rw [if_neg (by omega)], fun k hk => by rw [if_neg (by omega)]⟩
      refine zwq_ok (Z_X12_house l) rfl [355] (fun _ _ _ _ _ _ h => h) 400 (Z_X12_house l) ?_
      refine ⟨Or.inl rfl, Or.inl rfl, ?_⟩
      exact zGs.sub (lo := [(0, _), (1, _), (2, _)]) L5 (fun q hq => by simp only [List.mem_cons, List.not_mem_nil, or_false] at hq; rcases hq with rfl | rfl | rfl <;> first | exact .head _ | exact .tail _ (.head _) | exact .tail _ (.tail _ (.head _)) | exact .tail _ (.tail _ (.tail _ (.head _))) | exact .tail _ (.tail _ (.tail _ (.tail _ (.head _)))) | exact .tail _ (.tail _ (.tail _ (.tail _ (.tail _ (.head _))))) | exact .tail _ (.tail _ (.tail _ (.tail _ (.tail _ (.tail _ (.head _)))))) | exact .tail _ (.tail _ (.tail _ (.tail _ (.tail _ (.tail _ (.tail _ (.head _))))))) | exact .tail _ (.tail _ (.tail _ (.tail _ (.tail _ (.tail _ (.tail _ (.tail _ (.head _)))))))) | exact .tail _ (.tail _ (.tail _ (.tail _ (.tail _ (.tail _ (.tail _ (.tail _ (.tail _ (.head _))))))))) | exact .tail _ (.tail _ (.tail _ (.tail _ (.tail _ (.tail _ (.tail _ (.tail _ (.tail _ (.tail _ (.head _)))))))))) | exact .tail _ (.tail _ (.tail _ (.tail _ (.tail _ (.tail _ (.tail _ (.tail _ (.tail _ (.tail _ (.tail _ (.head _))))))))))) | exact .tail _ (.tail _ (.tail _ (.tail _ (.tail _ (.tail _ (.tail _ (.tail _ (.tail _ (.tail _ (.tail _ (.tail _ (.head _)))))))))))) | exact .tail _ (.tail _ (.tail _ (.tail _ (.tail _ (.tail _ (.tail _ (.tail _ (.tail _ (.tail _ (.tail _ (.tail _ (.tail _ (.head _))))))))))))))) 144 0 S5 (by omega) (fun _ _ => rfl) (fun i hi => absurd hi (Nat.not_lt_zero i))
    refine zwq_ok (Z_X12_house l) rfl [285] (fun _ _ _ _ _ _ h => h) 400 (Z_X12_house l) ?_
    exact zGs.sub (lo := [(0, _), (1, _), (2, _)]) L3 (fun q hq => by simp only [List.mem_cons, List.not_mem_nil, or_false] at hq; rcases hq with rfl | rfl | rfl <;> first | exact .head _ | exact .tail _ (.head _) | exact .tail _ (.tail _ (.head _)) | exact .tail _ (.tail _ (.tail _ (.head _))) | exact .tail _ (.tail _ (.tail _ (.tail _ (.head _)))) | exact .tail _ (.tail _ (.tail _ (.tail _ (.tail _ (.head _))))) | exact .tail _ (.tail _ (.tail _ (.tail _ (.tail _ (.tail _ (.head _)))))) | exact .tail _ (.tail _ (.tail _ (.tail _ (.tail _ (.tail _ (.tail _ (.head _))))))) | exact .tail _ (.tail _ (.tail _ (.tail _ (.tail _ (.tail _ (.tail _ (.tail _ (.head _)))))))) | exact .tail _ (.tail _ (.tail _ (.tail _ (.tail _ (.tail _ (.tail _ (.tail _ (.tail _ (.head _))))))))) | exact .tail _ (.tail _ (.tail _ (.tail _ (.tail _ (.tail _ (.tail _ (.tail _ (.tail _ (.tail _ (.head _)))))))))) | exact .tail _ (.tail _ (.tail _ (.tail _ (.tail _ (.tail _ (.tail _ (.tail _ (.tail _ (.tail _ (.tail _ (.head _))))))))))) | exact .tail _ (.tail _ (.tail _ (.tail _ (.tail _ (.tail _ (.tail _ (.tail _ (.tail _ (.tail _ (.tail _ (.tail _ (.head _)))))))))))) | exact .tail _ (.tail _ (.tail _ (.tail _ (.tail _ (.tail _ (.tail _ (.tail _ (.tail _ (.tail _ (.tail _ (.tail _ (.tail _ (.head _))))))))))))))
  refine zwq_ok (Z_X12_house l) rfl [283] (fun _ _ _ _ _ _ h => h) 400 (Z_X12_house l) ?_
  refine ⟨fun _ => ⟨Or.inr rfl, fun z => absurd z (by decide), fun _ => ?_⟩, fun z => absurd I.good z⟩
  refine go _ ⟨hp.rooms, hp.lodgers, hp.finders, hp.mays, fun r hr => ?_, fun r hr => ?_, fun r hr => ?_, fun r hr => ?_, fun r hr => ?_, fun r hr => ?_⟩ (fun c j h1 h2 => ?_)
  · rw [zcp_n (by omega), zcp_n (by omega), zcp_n (by omega), zcp_n (by omega), zcp_n (by omega), zcp_at (by omega), zuN (by omega), zuN (by omega), zuN (by omega), zuN (by omega)]
    exact hp.goods r hr
  · rw [zcp_n (by omega), zcp_n (by omega), zcp_n (by omega), zcp_n (by omega), zcp_at (by omega), zcp_n (by omega), zuN (by omega), zuN (by omega), zuN (by omega), zuN (by omega)]
    exact hp.whose r hr
  · rw [zcp_n (by omega), zcp_n (by omega), zcp_n (by omega), zcp_at (by omega), zcp_n (by omega), zcp_n (by omega), zuN (by omega), zuN (by omega), zuN (by omega), zuN (by omega)]
    exact hp.home r hr
  · rw [zcp_n (by omega), zcp_n (by omega), zcp_at (by omega), zcp_n (by omega), zcp_n (by omega), zcp_n (by omega), zuN (by omega), zuN (by omega), zuN (by omega), zuN (by omega)]
    exact hp.shoes r hr
  · rw [zcp_n (by omega), zcp_at (by omega), zcp_n (by omega), zcp_n (by omega), zcp_n (by omega), zcp_n (by omega), zuN (by omega), zuN (by omega), zuN (by omega), zuN (by omega)]
    exact hp.begins r hr
  · rw [zcp_at (by omega), zcp_n (by omega), zcp_n (by omega), zcp_n (by omega), zcp_n (by omega), zcp_n (by omega), zuN (by omega), zuN (by omega), zuN (by omega), zuN (by omega)]
    exact hp.law r hr
  · rw [zcp_n (by omega), zcp_n (by omega), zcp_n (by omega), zcp_n (by omega), zcp_n (by omega), zcp_n (by omega), zuN (by omega), zuN (by omega), zuN (by omega), zuN (by omega)]
end
