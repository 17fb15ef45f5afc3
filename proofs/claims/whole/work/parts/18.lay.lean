/-- the kinds of the 103 cells that the constructors make, and of the law's own row -/
def zLAY (c : Nat) : Nat × Nat := bif Nat.ble c 102 then (bif Nat.ble c 50 then (bif Nat.ble c 24 then (bif Nat.ble c 11 then (bif Nat.ble c 5 then (bif Nat.ble c 2 then (bif Nat.ble c 0 then (0, 11) else (bif Nat.ble c 1 then (0, 9) else (2, 700))) else (bif Nat.ble c 3 then (0, 6) else (1, 8))) else (bif Nat.ble c 8 then (bif Nat.ble c 6 then (1, 6) else (bif Nat.ble c 7 then (1, 6) else (1, 3))) else (bif Nat.ble c 9 then (1, 144) else (bif Nat.ble c 10 then (1, 4) else (0, 6))))) else (bif Nat.ble c 17 then (bif Nat.ble c 14 then (bif Nat.ble c 12 then (1, 8) else (bif Nat.ble c 13 then (1, 8) else (1, 6))) else (bif Nat.ble c 15 then (1, 6) else (bif Nat.ble c 16 then (1, 3) else (1, 144)))) else (bif Nat.ble c 20 then (bif Nat.ble c 18 then (1, 4) else (bif Nat.ble c 19 then (0, 7) else (0, 0))) else (1, 12)))) else (bif Nat.ble c 37 then (bif Nat.ble c 30 then (bif Nat.ble c 27 then (bif Nat.ble c 25 then (1, 144) else (bif Nat.ble c 26 then (1, 72) else (1, 8))) else (bif Nat.ble c 28 then (0, 0) else (1, 12))) else (bif Nat.ble c 33 then (bif Nat.ble c 31 then (1, 12) else (bif Nat.ble c 32 then (1, 12) else (1, 144))) else (bif Nat.ble c 35 then (bif Nat.ble c 34 then (1, 72) else (1, 8)) else (bif Nat.ble c 36 then (0, 3) else (0, 1))))) else (bif Nat.ble c 43 then (bif Nat.ble c 40 then (bif Nat.ble c 38 then (1, 6) else (bif Nat.ble c 39 then (0, 2) else (1, 6))) else (bif Nat.ble c 41 then (1, 24) else (bif Nat.ble c 42 then (0, 10) else (1, 48)))) else (bif Nat.ble c 46 then (1, 6) else (bif Nat.ble c 48 then (bif Nat.ble c 47 then (0, 4) else (1, 8)) else (bif Nat.ble c 49 then (1, 8) else (1, 3))))))) else (bif Nat.ble c 76 then (bif Nat.ble c 63 then (bif Nat.ble c 56 then (bif Nat.ble c 53 then (bif Nat.ble c 51 then (1, 3) else (bif Nat.ble c 52 then (0, 5) else (1, 6))) else (bif Nat.ble c 54 then (1, 12) else (bif Nat.ble c 55 then (1, 4) else (1, 3)))) else (bif Nat.ble c 59 then (bif Nat.ble c 57 then (1, 6) else (bif Nat.ble c 58 then (1, 6) else (0, 8))) else (bif Nat.ble c 61 then (bif Nat.ble c 60 then (1, 40) else (1, 3)) else (bif Nat.ble c 62 then (0, 12) else (1, 8))))) else (bif Nat.ble c 69 then (bif Nat.ble c 66 then (bif Nat.ble c 64 then (1, 8) else (bif Nat.ble c 65 then (1, 6) else (1, 12))) else (bif Nat.ble c 67 then (1, 3) else (bif Nat.ble c 68 then (1, 4) else (1, 144)))) else (bif Nat.ble c 72 then (bif Nat.ble c 70 then (1, 700) else (bif Nat.ble c 71 then (1, 3) else (1, 8))) else (bif Nat.ble c 74 then (bif Nat.ble c 73 then (1, 8) else (1, 6)) else (bif Nat.ble c 75 then (1, 12) else (1, 3)))))) else (bif Nat.ble c 89 then (bif Nat.ble c 82 then (bif Nat.ble c 79 then (bif Nat.ble c 77 then (1, 4) else (bif Nat.ble c 78 then (1, 144) else (1, 36))) else (bif Nat.ble c 80 then (1, 144) else (bif Nat.ble c 81 then (1, 72) else (1, 8)))) else (bif Nat.ble c 85 then (bif Nat.ble c 83 then (1, 6) else (bif Nat.ble c 84 then (1, 24000) else (1, 8))) else (bif Nat.ble c 87 then (bif Nat.ble c 86 then (1, 8) else (1, 48)) else (1, 6)))) else (bif Nat.ble c 95 then (bif Nat.ble c 92 then (bif Nat.ble c 90 then (1, 6) else (1, 3)) else (bif Nat.ble c 93 then (1, 8) else (1, 6))) else (bif Nat.ble c 98 then (bif Nat.ble c 96 then (1, 256) else (bif Nat.ble c 97 then (1, 3) else (1, 36))) else (bif Nat.ble c 100 then (bif Nat.ble c 99 then (1, 8) else (1, 144)) else (bif Nat.ble c 101 then (1, 72) else (3, 1)))))))) else (9, 0)
def zR0 (c k : Nat) : Nat := bif Nat.ble c 102 then (bif Nat.ble c 50 then (bif Nat.ble c 24 then (bif Nat.ble c 11 then (bif Nat.ble c 5 then (bif Nat.ble c 2 then (bif Nat.ble c 0 then (bif Nat.ble k 15 then (bif Nat.ble k 7 then (bif Nat.ble k 3 then (bif Nat.ble k 1 then (bif Nat.ble k 0 then 2 else 4) else (bif Nat.ble k 2 then 12 else 20)) else (bif Nat.ble k 5 then (bif Nat.ble k 4 then 21 else 29) else (bif Nat.ble k 6 then 37 else 38))) else (bif Nat.ble k 11 then (bif Nat.ble k 9 then (bif Nat.ble k 8 then 40 else 43) else (bif Nat.ble k 10 then 48 else 53)) else (bif Nat.ble k 13 then (bif Nat.ble k 12 then 60 else 62) else 0))) else 0) else (bif Nat.ble c 1 then (bif Nat.ble k 1 then (bif Nat.ble k 0 then 3 else 0) else 0) else 0)) else (bif Nat.ble c 3 then (bif Nat.ble k 11 then (bif Nat.ble k 5 then (bif Nat.ble k 2 then (bif Nat.ble k 0 then 5 else (bif Nat.ble k 1 then 6 else 7)) else (bif Nat.ble k 3 then 8 else (bif Nat.ble k 4 then 9 else 10))) else (bif Nat.ble k 8 then (bif Nat.ble k 6 then 11 else 0) else 0)) else 0) else 0)) else (bif Nat.ble c 8 then 0 else (bif Nat.ble c 9 then 0 else (bif Nat.ble c 10 then 0 else (bif Nat.ble k 11 then (bif Nat.ble k 5 then (bif Nat.ble k 2 then (bif Nat.ble k 0 then 13 else (bif Nat.ble k 1 then 14 else 15)) else (bif Nat.ble k 3 then 16 else (bif Nat.ble k 4 then 17 else 18))) else (bif Nat.ble k 8 then (bif Nat.ble k 6 then 19 else 0) else 0)) else 0))))) else (bif Nat.ble c 17 then 0 else (bif Nat.ble c 20 then (bif Nat.ble c 18 then 0 else (bif Nat.ble c 19 then (bif Nat.ble k 8 then (bif Nat.ble k 3 then (bif Nat.ble k 1 then (bif Nat.ble k 0 then 3 else 12) else 0) else 0) else 0) else (bif Nat.ble k 9 then (bif Nat.ble k 4 then (bif Nat.ble k 1 then (bif Nat.ble k 0 then 22 else 23) else (bif Nat.ble k 2 then 24 else (bif Nat.ble k 3 then 25 else 26))) else (bif Nat.ble k 6 then (bif Nat.ble k 5 then 27 else 28) else 0)) else 0))) else 0))) else (bif Nat.ble c 37 then (bif Nat.ble c 30 then (bif Nat.ble c 27 then 0 else (bif Nat.ble c 28 then (bif Nat.ble k 9 then (bif Nat.ble k 4 then (bif Nat.ble k 1 then (bif Nat.ble k 0 then 30 else 31) else (bif Nat.ble k 2 then 32 else (bif Nat.ble k 3 then 33 else 34))) else (bif Nat.ble k 6 then (bif Nat.ble k 5 then 35 else 36) else 0)) else 0) else 0)) else (bif Nat.ble c 33 then 0 else (bif Nat.ble c 35 then 0 else (bif Nat.ble c 36 then (bif Nat.ble k 1 then (bif Nat.ble k 0 then 4 else 21) else 0) else (bif Nat.ble k 4 then (bif Nat.ble k 1 then (bif Nat.ble k 0 then 4 else 21) else (bif Nat.ble k 2 then 37 else (bif Nat.ble k 3 then 39 else 0))) else 0))))) else (bif Nat.ble c 43 then (bif Nat.ble c 40 then (bif Nat.ble c 38 then 0 else (bif Nat.ble c 39 then (bif Nat.ble k 4 then (bif Nat.ble k 1 then (bif Nat.ble k 0 then 4 else 21) else (bif Nat.ble k 2 then 37 else (bif Nat.ble k 3 then 41 else 42))) else 0) else 0)) else (bif Nat.ble c 41 then 0 else (bif Nat.ble c 42 then (bif Nat.ble k 6 then (bif Nat.ble k 2 then (bif Nat.ble k 0 then 4 else (bif Nat.ble k 1 then 37 else 44)) else (bif Nat.ble k 4 then (bif Nat.ble k 3 then 45 else 46) else (bif Nat.ble k 5 then 47 else 0))) else 0) else 0))) else (bif Nat.ble c 46 then 0 else (bif Nat.ble c 48 then (bif Nat.ble c 47 then (bif Nat.ble k 5 then (bif Nat.ble k 2 then (bif Nat.ble k 0 then 4 else (bif Nat.ble k 1 then 37 else 49)) else (bif Nat.ble k 3 then 50 else (bif Nat.ble k 4 then 51 else 52))) else 0) else 0) else 0))))) else (bif Nat.ble c 76 then (bif Nat.ble c 63 then (bif Nat.ble c 56 then (bif Nat.ble c 53 then (bif Nat.ble c 51 then 0 else (bif Nat.ble c 52 then (bif Nat.ble k 9 then (bif Nat.ble k 4 then (bif Nat.ble k 1 then (bif Nat.ble k 0 then 4 else 21) else (bif Nat.ble k 2 then 37 else (bif Nat.ble k 3 then 54 else 55))) else (bif Nat.ble k 6 then (bif Nat.ble k 5 then 56 else 57) else (bif Nat.ble k 7 then 58 else (bif Nat.ble k 8 then 59 else 0)))) else 0) else 0)) else 0) else (bif Nat.ble c 59 then (bif Nat.ble c 57 then 0 else (bif Nat.ble c 58 then 0 else (bif Nat.ble k 2 then (bif Nat.ble k 0 then 61 else 0) else 0))) else (bif Nat.ble c 61 then 0 else (bif Nat.ble c 62 then (bif Nat.ble k 68 then (bif Nat.ble k 33 then (bif Nat.ble k 16 then (bif Nat.ble k 7 then (bif Nat.ble k 3 then 0 else (bif Nat.ble k 5 then (bif Nat.ble k 4 then 0 else 64) else (bif Nat.ble k 6 then 65 else 66))) else (bif Nat.ble k 11 then (bif Nat.ble k 9 then (bif Nat.ble k 8 then 67 else 68) else (bif Nat.ble k 10 then 69 else 70)) else (bif Nat.ble k 13 then (bif Nat.ble k 12 then 71 else 0) else (bif Nat.ble k 14 then 0 else (bif Nat.ble k 15 then 0 else 72))))) else (bif Nat.ble k 24 then 0 else (bif Nat.ble k 28 then 0 else (bif Nat.ble k 30 then (bif Nat.ble k 29 then 73 else 74) else (bif Nat.ble k 31 then 75 else (bif Nat.ble k 32 then 76 else 77)))))) else (bif Nat.ble k 50 then (bif Nat.ble k 41 then (bif Nat.ble k 37 then (bif Nat.ble k 35 then (bif Nat.ble k 34 then 78 else 79) else (bif Nat.ble k 36 then 0 else 80)) else (bif Nat.ble k 39 then (bif Nat.ble k 38 then 81 else 82) else 0)) else (bif Nat.ble k 45 then (bif Nat.ble k 43 then (bif Nat.ble k 42 then 83 else 84) else (bif Nat.ble k 44 then 85 else 0)) else (bif Nat.ble k 47 then (bif Nat.ble k 46 then 86 else 87) else (bif Nat.ble k 48 then 88 else (bif Nat.ble k 49 then 89 else 90))))) else (bif Nat.ble k 59 then (bif Nat.ble k 54 then (bif Nat.ble k 52 then (bif Nat.ble k 51 then 91 else 0) else (bif Nat.ble k 53 then 92 else 93)) else (bif Nat.ble k 56 then (bif Nat.ble k 55 then 94 else 0) else (bif Nat.ble k 57 then 95 else (bif Nat.ble k 58 then 96 else 0)))) else (bif Nat.ble k 63 then (bif Nat.ble k 61 then (bif Nat.ble k 60 then 0 else 97) else 0) else (bif Nat.ble k 65 then (bif Nat.ble k 64 then 98 else 99) else (bif Nat.ble k 66 then 100 else (bif Nat.ble k 67 then 101 else 102))))))) else 0) else 0)))) else 0) else 0)) else 0
def zNC : Nat := 103
/-- the state behind the constructors: how many cells, ints, longs -/
abbrev zS : Type := Nat × (Nat → Nat → Int32) × (Nat → Nat → Int64)
def zmk (S : zS) : zM := (S.1, zLAY, zR0, S.2.1, S.2.2)
def zpj (M : zM) : zS := (M.1, M.2.2.2.1, M.2.2.2.2)
theorem zmk_pj {M : zM} (h1 : M.2.1 = zLAY) (h2 : M.2.2.1 = zR0) : zmk (zpj M) = M := by
  obtain ⟨a, b, c, d, e⟩ := M
  dsimp only at h1 h2
  subst h1; subst h2
  rfl
def zsafe (e : zI) : Bool := match e with
  | (30, _) => false
  | (31, _) => false
  | (19, a, b, _) => match tyT a b with
    | .object _ => false
    | .array _ => false
    | _ => true
  | _ => true
set_option maxHeartbeats 2000000 in
theorem zst_keep {d : Nat} {f : zF} {e : zI} {mc ms : Nat} {M : zM} {lo : List (Nat × Value)} {st : List Value} {K K' : Nat → Nat → zM → Nat → List (Nat × Value) → List Value → Prop} {Q Q' : zR → zM → Prop} (he : zsafe e = true) (h : zst d f e mc ms M lo st K Q) (hK : ∀ mc ms M' pc lo st, M'.2.1 = M.2.1 → M'.2.2.1 = M.2.2.1 → K mc ms M' pc lo st → K' mc ms M' pc lo st) (hQ : ∀ r, Q r M → Q' r M) : zst d f e mc ms M lo st K' Q' := by
  unfold zst at h ⊢
  split at h
  case h_1 => exact hK _ _ _ _ _ _ rfl rfl h
  case h_2 => exact hK _ _ _ _ _ _ rfl rfl h
  case h_3 => split at h <;> first | exact hK _ _ _ _ _ _ rfl rfl h | exact h.elim
  case h_4 => split at h <;> first | exact hK _ _ _ _ _ _ rfl rfl h | exact h.elim
  case h_5 => split at h <;> first | exact hK _ _ _ _ _ _ rfl rfl h | exact h.elim
  case h_6 => exact t1i_m h (fun x r h => zif_m h (fun h => hK _ _ _ _ _ _ rfl rfl h))
  case h_7 => exact t1l_m h (fun x r h => zif_m h (fun h => hK _ _ _ _ _ _ rfl rfl h))
  case h_8 => exact t1r_m h (fun x r h => zif_m h (fun h => hK _ _ _ _ _ _ rfl rfl h))
  case h_9 => split at h <;> first | exact zif_m h (fun h => hK _ _ _ _ _ _ rfl rfl h) | exact h.elim
  case h_10 => exact t2i_m h (fun x y r h => ⟨h.1, hK _ _ _ _ _ _ rfl rfl h.2⟩)
  case h_11 => exact t2i_m h (fun x y r h => ⟨h.1, hK _ _ _ _ _ _ rfl rfl h.2⟩)
  case h_12 => exact t2i_m h (fun x y r h => hK _ _ _ _ _ _ rfl rfl h)
  case h_13 => exact t1i_m h (fun x r h => hK _ _ _ _ _ _ rfl rfl h)
  case h_14 => exact t1i_m h (fun x r h => hK _ _ _ _ _ _ rfl rfl h)
  case h_15 => exact t2l_m h (fun x y r h => hK _ _ _ _ _ _ rfl rfl h)
  case h_16 => exact t2l_m h (fun x y r h => hK _ _ _ _ _ _ rfl rfl h)
  case h_17 => exact t2l_m h (fun x y r h => hK _ _ _ _ _ _ rfl rfl h)
  case h_18 => exact til_m h (fun x y r h => hK _ _ _ _ _ _ rfl rfl h)
  case h_19 => exact t1d_m h (fun x r h => hK _ _ _ _ _ _ rfl rfl h)
  case h_20 => exact tir_m h (fun x y r h => hK _ _ _ _ _ _ rfl rfl h)
  case h_21 => exact t1i_m h (fun x r h => hK _ _ _ _ _ _ rfl rfl h)
  case h_22 => exact hK _ _ _ _ _ _ rfl rfl h
  case h_23 => exact t2i_m h (fun x y r h => ⟨fun z => hK _ _ _ _ _ _ rfl rfl (h.1 z), fun z => hK _ _ _ _ _ _ rfl rfl (h.2 z)⟩)
  case h_24 => exact t1i_m h (fun x r h => ⟨fun z => hK _ _ _ _ _ _ rfl rfl (h.1 z), fun z => hK _ _ _ _ _ _ rfl rfl (h.2 z)⟩)
  case h_25 => exact t1r_m h (fun x r h => zif_m h (fun h => hK _ _ _ _ _ _ rfl rfl h))
  case h_26 =>
    split at h
    · exact tir_m h (fun x y r h => zif_m h (fun h => hK _ _ _ _ _ _ rfl rfl h))
    · exact tir_m h (fun x y r h => zif_m h (fun h => ⟨h.1, hK _ _ _ _ _ _ rfl rfl h.2⟩))
    · exact tlr_m h (fun x y r h => zif_m h (fun h => hK _ _ _ _ _ _ rfl rfl h))
    · rename_i hz; unfold zsafe at he; simp only [hz] at he; cases he
    · rename_i hz; unfold zsafe at he; simp only [hz] at he; cases he
    · exact h.elim
  case h_27 => exact tir_m h (fun x y r h => zif_m h (fun h => ⟨h.1, hK _ _ _ _ _ _ rfl rfl h.2⟩))
  case h_28 => exact tiir_m h (fun x y z r h => zif_m h (fun h => ⟨h.1, hK _ _ _ _ _ _ rfl rfl h.2⟩))
  case h_29 => exact tir_m h (fun x y r h => zif_m h (fun h => ⟨h.1, hK _ _ _ _ _ _ rfl rfl h.2⟩))
  case h_30 => exact tiir_m h (fun x y z r h => zif_m h (fun h => ⟨h.1, hK _ _ _ _ _ _ rfl rfl h.2⟩))
  case h_31 => exact tir_m h (fun x y r h => zif_m h (fun h => ⟨h.1, hK _ _ _ _ _ _ rfl rfl h.2⟩))
  case h_32 => exact tlir_m h (fun x y z r h => zif_m h (fun h => ⟨h.1, hK _ _ _ _ _ _ rfl rfl h.2⟩))
  case h_33 => exact t1r_m h (fun x r h => zif_m h (fun h => hK _ _ _ _ _ _ rfl rfl h))
  case h_34 => exact t1i_m h (fun x r h => ⟨h.1, by
      have h2 := h.2
      split at h2
      · exact hQ _ h2
      · exact ⟨h2.1, hQ _ h2.2⟩
      · exact h2.elim⟩)
  case h_35 => exact t1l_m h (fun x r h => ⟨h.1, by
      have h2 := h.2
      split at h2
      · exact hQ _ h2
      · exact h2.elim⟩)
  case h_36 => exact ⟨h.1, h.2.1, hQ _ h.2.2⟩
  case h_37 => cases he
  case h_38 => cases he
  case h_39 => exact t1i_m h (fun x r h => ⟨fun k hk hx => hK _ _ _ _ _ _ rfl rfl (h.1 k hk hx), fun z => hK _ _ _ _ _ _ rfl rfl (h.2 z)⟩)
  case h_40 => exact t1r_m h (fun x r h => zif_m h (fun h => hK _ _ _ _ _ _ rfl rfl h))
  case h_41 => exact h.elim
