/-! the law's cases -/
abbrev F_L_law : zF := (13, cL_law, some .boolean, 8, [], false)
def B_X12_thrown : List (Nat × zC) := []
def O_X12_thrown : zO := fun j a S K => match j with
  | _ => False
theorem E_X12_thrown (l : Launch) : ∀ q ∈ B_X12_thrown, zcok l O_X12_thrown F_X12_thrown q.1 q.2 := fun _ h => by cases h
def U_X12_thrown : List (Nat × zE) := [(0, Sum.inl (4, 0, 0, 0, 1, [])), (1, Sum.inl (18, 12, 0, 0, 4, [])), (4, Sum.inl (27, 0, 0, 0, 5, []))]
theorem Z_X12_thrown (l : Launch) : ∀ q ∈ U_X12_thrown, zTok l O_X12_thrown F_X12_thrown q := zU_ok rfl rfl rfl K_X12_thrown (E_X12_thrown l)
def wp_X12_thrown (a : List zV) (S : zS) (K : zR2 → zS → Prop) : Prop := zif (Nat.ble (zsum a) 1) (zwq 0 F_X12_thrown U_X12_thrown O_X12_thrown [] (fun _ _ _ _ _ _ => False) K 4 U_X12_thrown 0 0 S 0 (zar 0 a) [])
theorem R_X12_thrown (l : Launch) (a : List zV) (S : zS) (Q : zR2 → zS → Prop) (h : wp_X12_thrown a S Q) : zRs l 0 0 0 yX12_thrown (.code yX12_thrown cX12_thrown 1 (some .int)) a S Q := by
  obtain ⟨h1, h⟩ := zif_ok h
  exact zRs_of 12 (by decide) rfl h1 (zwq_ok (Z_X12_thrown l) rfl [] (fun _ _ _ _ _ _ h => h.elim) 4 (Z_X12_thrown l) h)
section
variable {S S1 : zS} {D E T : zD} {N : Nat} {K : zR2 → zS → Prop} {x y z : Int}
theorem lw_M0 (hM : eM S D E T) (f1 : frC S S1) : eM S1 D E T := hM.fr (fun c j h1 _ => by rw [f1 c h1])
theorem lw_M1 {v : Int} (hM : eM S D E T) (f1 : frC S S1) : eM (zu S1 1102 0 v) D E T := hM.fr (fun c j h1 h2 => by
  unfold mScr at h2
  rw [zuN (by omega), f1 c h1])
theorem m_may (hM : eM S D E T) (hX : xOK D E T N) (h : mRes S D E T (mayA D x y z) K) : wp_X12_may [.inr (.inl 62), .inl x, .inl y, .inl z] S K := ⟨D, E, T, N, ⟨rfl, hM, hX⟩, h⟩
theorem m_theft (hM : eM S D E T) (hX : xOK D E T N) (h : mRes S D E T (theftA D x y) K) : wp_X12_theft [.inr (.inl 62), .inl x, .inl y] S K := ⟨D, E, T, N, ⟨rfl, hM, hX⟩, h⟩

end
theorem le_house {T : zD} {x0 : Int} : (huzA T x0).1 ≤ 1 := by
  unfold huzA
  split
  · cases rdA T x0.toNat 700 p0 0 with
    | inl e => exact Nat.zero_le 1
    | inr e => exact Nat.zero_le 1
  · exact Nat.le_refl 1
theorem le_count {D : zD} {T : zD} {x0 : Int} : (countA D T x0).1 ≤ 1 := by
  unfold countA
  repeat' split
  all_goals first | exact Nat.zero_le _ | exact Nat.le_refl _ | rfl | (show 1 ≤ 2; decide)
theorem le_room {D : zD} {x0 x1 : Int} : (roomA D x0 x1).1 ≤ 1 := by
  unfold roomA
  repeat' split
  all_goals first | exact Nat.zero_le _ | exact Nat.le_refl _ | rfl | (show 1 ≤ 2; decide)
theorem le_lodger {D : zD} {x0 x1 : Int} : (lodgerA D x0 x1).1 ≤ 1 := by
  unfold lodgerA
  repeat' split
  all_goals first | exact Nat.zero_le _ | exact Nat.le_refl _ | rfl | (show 1 ≤ 2; decide)
theorem le_may {D : zD} {x0 x1 x2 : Int} : (mayA D x0 x1 x2).1 ≤ 1 := by
  unfold mayA
  repeat' split
  all_goals first | exact Nat.zero_le _ | exact Nat.le_refl _ | rfl | (show 1 ≤ 2; decide)
theorem le_says {D : zD} {x0 x1 : Int} : (saysA D x0 x1).1 ≤ 1 := by
  unfold saysA
  repeat' split
  all_goals first | exact Nat.zero_le _ | exact Nat.le_refl _ | rfl | (show 1 ≤ 2; decide)
theorem le_lend {D : zD} {x0 x1 x2 : Int} : (lendA D x0 x1 x2).1 ≤ 1 := by
  unfold lendA
  repeat' split
  all_goals first | exact Nat.zero_le _ | exact Nat.le_refl _ | rfl | (show 1 ≤ 2; decide)
theorem le_does {D : zD} {x0 x1 : Int} : (doesA D x0 x1).1 ≤ 1 := by
  unfold doesA
  repeat' split
  all_goals first | exact Nat.zero_le _ | exact Nat.le_refl _ | rfl | (show 1 ≤ 2; decide)
theorem le_sign {D : zD} {x0 x1 : Int} : (signA D x0 x1).1 ≤ 1 := by
  unfold signA
  repeat' split
  all_goals first | exact Nat.zero_le _ | exact Nat.le_refl _ | rfl | (show 1 ≤ 2; decide)
theorem le_look {D : zD} {x0 x1 x2 : Int} : (lookA D x0 x1 x2).1 ≤ 1 := by
  unfold lookA
  repeat' split
  all_goals first | exact Nat.zero_le _ | exact Nat.le_refl _ | rfl | (show 1 ≤ 2; decide)
theorem le_theft {D : zD} {x0 x1 : Int} : (theftA D x0 x1).1 ≤ 1 := by
  unfold theftA
  repeat' split
  all_goals first | exact Nat.zero_le _ | exact Nat.le_refl _ | rfl | (show 1 ≤ 2; decide)
theorem le_see {D : zD} {x0 x1 x2 : Int} : (seeA D x0 x1 x2).1 ≤ 1 := by
  unfold seeA
  repeat' split
  all_goals first | exact Nat.zero_le _ | exact Nat.le_refl _ | rfl | (show 1 ≤ 2; decide)
theorem le_inCase {D : zD} {x0 x1 : Int} : (inCaseA D x0 x1).1 ≤ 1 := by
  unfold inCaseA
  repeat' split
  all_goals first | exact Nat.zero_le _ | exact Nat.le_refl _ | rfl | (show 1 ≤ 2; decide)
theorem le_sure {D : zD} {x0 : Int} : (sureA D x0).1 ≤ 1 := by
  unfold sureA
  repeat' split
  all_goals first | exact Nat.zero_le _ | exact Nat.le_refl _ | rfl | (show 1 ≤ 2; decide)
theorem le_where {D : zD} {x0 : Int} : (whereA D x0).1 ≤ 1 := by
  unfold whereA
  repeat' split
  all_goals first | exact Nat.zero_le _ | exact Nat.le_refl _ | rfl | (show 1 ≤ 2; decide)
theorem le_misled {D : zD} {x0 x1 x2 : Int} : (misledA D x0 x1 x2).1 ≤ 1 := by
  unfold misledA
  repeat' split
  all_goals first | exact Nat.zero_le _ | exact Nat.le_refl _ | rfl | (show 1 ≤ 2; decide)
theorem le_chance {D : zD} {x0 x1 : Int} : (chanceA D x0 x1).1 ≤ 1 := by
  unfold chanceA
  repeat' split
  all_goals first | exact Nat.zero_le _ | exact Nat.le_refl _ | rfl | (show 1 ≤ 2; decide)
theorem le_path {T : zD} {x0 x1 : Int} : (pathA T x0 x1).1 ≤ 1 := by
  unfold pathA
  repeat' split
  all_goals first | exact Nat.zero_le _ | exact Nat.le_refl _ | rfl | (show 1 ≤ 2; decide)
theorem le_fewest {D : zD} {x0 x1 : Int} : (fewestA D x0 x1).1 ≤ 1 := by
  unfold fewestA
  repeat' split
  all_goals first | exact Nat.zero_le _ | exact Nat.le_refl _ | rfl | (show 1 ≤ 2; decide)
theorem le_lender {D : zD} {T : zD} {x0 : Int} : (lenderA D T x0).1 ≤ 1 := by
  unfold lenderA
  repeat' split
  all_goals first | exact Nat.zero_le _ | exact Nat.le_refl _ | rfl | (show 1 ≤ 2; decide)
theorem le_kinds  {x0 x1 : Int} : (kindsA x0 x1).1 ≤ 1 := by
  unfold kindsA
  repeat' split
  all_goals first | exact Nat.zero_le _ | exact Nat.le_refl _ | rfl | (show 1 ≤ 2; decide)
theorem le_mend  {x0 x1 x2 : Int} : (mendA x0 x1 x2).1 ≤ 1 := by
  unfold mendA
  repeat' split
  all_goals first | exact Nat.zero_le _ | exact Nat.le_refl _ | rfl | (show 1 ≤ 2; decide)
theorem le_round {D : zD} {x0 x1 x2 : Int} : (roundA D x0 x1 x2).1 ≤ 2 := by
  unfold roundA
  repeat' split
  all_goals first | exact Nat.zero_le _ | exact Nat.le_refl _ | rfl | (show 1 ≤ 2; decide)
theorem le_rests {D : zD} {x0 x1 x2 : Int} : (restsA D x0 x1 x2).1 ≤ 2 := by
  unfold restsA
  repeat' split
  all_goals first | exact Nat.zero_le _ | exact Nat.le_refl _ | rfl | (show 1 ≤ 2; decide)
theorem le_word  {x0 x1 : Int} : (wordA x0 x1).1 ≤ 2 := by
  unfold wordA
  repeat' split
  all_goals first | exact Nat.zero_le _ | exact Nat.le_refl _ | rfl | (show 1 ≤ 2; decide)
theorem le_fire {D : zD} {x0 x1 x2 x3 x4 : Int} : (fireA D x0 x1 x2 x3 x4).1 ≤ 2 := by
  unfold fireA
  repeat' split
  all_goals first | exact Nat.zero_le _ | exact Nat.le_refl _ | rfl | (show 1 ≤ 2; decide)
theorem le_feed {T : zD}  : (feedA T).1 = 0 := by
  unfold feedA
  repeat' split
  all_goals first | exact Nat.zero_le _ | exact Nat.le_refl _ | rfl | (show 1 ≤ 2; decide)
theorem le_back {D : zD}  : (backA D).1 = 0 := by
  unfold backA
  repeat' split
  all_goals first | exact Nat.zero_le _ | exact Nat.le_refl _ | rfl | (show 1 ≤ 2; decide)
theorem le_cases {D : zD}  : (casesA D).1 = 0 := by
  unfold casesA
  repeat' split
  all_goals first | exact Nat.zero_le _ | exact Nat.le_refl _ | rfl | (show 1 ≤ 2; decide)
