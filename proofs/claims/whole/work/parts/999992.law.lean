/-! THE LAW: its loop, its start -/
def U_LH : List (Nat × zE) := [(23, Sum.inl (2, 4, 0, 0, 25, [])), (25, Sum.inl (4, 0, 0, 0, 26, [])), (26, Sum.inr (21, 0, 0, 0, 0, 0, 0)), (27, Sum.inl (0, 0, 0, 6, 29, [])), (29, Sum.inl (9, 1, 0, 0, 30, [])), (30, Sum.inl (16, 2, 2209, 0, 33, [])), (33, Sum.inl (4, 0, 0, 0, 34, [])), (34, Sum.inl (2, 4, 0, 0, 36, [])), (36, Sum.inr (20, 0, 0, 0, 0, 0, 0)), (37, Sum.inl (0, 0, 0, 63, 39, [])), (39, Sum.inl (9, 3, 0, 0, 40, [])), (40, Sum.inl (32, 0, 2203, 0, 0, [192, 265, 321, 334, 390, 458, 526, 606, 674, 754, 767, 790, 858, 926, 1006, 1074, 1154, 1167, 1180, 1248, 1304, 1360, 1440, 1508, 1588, 1656, 1736, 1804, 1860, 1928, 1996, 2076, 2179, 2190])), (2203, Sum.inl (8, 4, 0, 6, 2206, [])), (2206, Sum.inl (15, 0, 0, 0, 23, [])), (2209, Sum.inl (0, 0, 0, 1, 2210, [])), (2210, Sum.inl (27, 0, 0, 0, 2211, []))]
def T_LH : List (Nat × zI) := [(23, (2, 4, 0, 0, 25, [])), (25, (4, 0, 0, 0, 26, [])), (27, (0, 0, 0, 6, 29, [])), (29, (9, 1, 0, 0, 30, [])), (30, (16, 2, 2209, 0, 33, [])), (33, (4, 0, 0, 0, 34, [])), (34, (2, 4, 0, 0, 36, [])), (37, (0, 0, 0, 63, 39, [])), (39, (9, 3, 0, 0, 40, [])), (40, (32, 0, 2203, 0, 0, [192, 265, 321, 334, 390, 458, 526, 606, 674, 754, 767, 790, 858, 926, 1006, 1074, 1154, 1167, 1180, 1248, 1304, 1360, 1440, 1508, 1588, 1656, 1736, 1804, 1860, 1928, 1996, 2076, 2179, 2190])), (2203, (8, 4, 0, 6, 2206, [])), (2206, (15, 0, 0, 0, 23, [])), (2209, (0, 0, 0, 1, 2210, [])), (2210, (27, 0, 0, 0, 2211, []))]
set_option maxRecDepth 100000 in
theorem K_LH : ztbok F_L_law T_LH := ztbB_ok (by decide +kernel)
def O_LH : zO := fun j a S K => match j with
  | _ => False
def B_LH : List (Nat × zC) := [(26, (21, 0, 0, 0, 0, 0, 0)), (36, (20, 0, 0, 0, 0, 0, 0))]
set_option maxRecDepth 100000 in
theorem E_LH (l : Launch) : ∀ q ∈ B_LH, zcokP l O_LH F_L_law q.1 q.2 := List.forall_mem_cons.mpr ⟨(show decode cL_law 26 = .ok (.arraylength, 1) by decide +kernel), List.forall_mem_cons.mpr ⟨(show decode cL_law 36 = .ok (.iaload, 1) by decide +kernel), fun _ h => by cases h⟩⟩
set_option maxRecDepth 20000 in
theorem Z_LH (l : Launch) : ∀ q ∈ U_LH, zTokP l O_LH F_L_law q := zU_okP rfl rfl rfl K_LH (E_LH l)
theorem law_tail {l : Launch} {b L : Nat} {xs : Nat → Int32} {X : Nat → Int} {Q : zR2 → zS → Prop} (eX : X = fun k => (xs k).toInt) (hL : L ≤ 3072) {mc ms : Nat} {S : zS} {i : Nat} (hi : i + 6 ≤ L) (h : zGt (scP b L xs) l 12 mc ms F_L_law S 23 [(0, .inr (.inl 100031)), (1, .inr (.inl 0)), (2, .inr (.inl 62)), (3, .inr (.inl 102)), (4, .inl ((i + 6 : Nat) : Int))] [] Q) : zGt (scP b L xs) l 12 mc ms F_L_law S 2203 [(0, .inr (.inl 100031)), (1, .inr (.inl 0)), (2, .inr (.inl 62)), (3, .inr (.inl 102)), (4, .inl (i : Int))] [] Q := by
  refine zwq_okP eX (fun _ _ h => h) (by omega) (Z_LH l) rfl [23] (fun _ _ _ _ _ _ h => h) 20 (Z_LH l) ?_
  exact ⟨⟨by omega, by omega⟩, h⟩
set_option maxHeartbeats 4000000 in
set_option maxRecDepth 20000 in
theorem law_loop {l : Launch} {b L : Nat} {xs : Nat → Int32} {X : Nat → Int} {Q : zR2 → zS → Prop} (eX : X = fun k => (xs k).toInt) (hL : L ≤ 3072) (hQ : ∀ S, Q (.inl (some (.inl 1))) S) : ∀ (f i : Nat) (S : zS) (D E T : zD) (N mc ms : Nat), L ≤ i + 6 * f + 5 → i ≤ L + 5 → f ≤ mc → 6 * f ≤ ms → N + f ≤ 99999 → eC S D E T → eM S D E T → xOK D E T N → zGt (scP b L xs) l 12 mc ms F_L_law S 23 [(0, .inr (.inl 100031)), (1, .inr (.inl 0)), (2, .inr (.inl 62)), (3, .inr (.inl 102)), (4, .inl (i : Int))] [] Q := by
  intro f
  induction f with
  | zero =>
    intro i S D E T N mc ms h1 h2 h3 h4 h5 hC hM hX
    refine zwq_okP eX (fun _ _ h => h) (by omega) (Z_LH l) rfl [23, 192, 265, 321, 334, 390, 458, 526, 606, 674, 754, 767, 790, 858, 926, 1006, 1074, 1154, 1167, 1180, 1248, 1304, 1360, 1440, 1508, 1588, 1656, 1736, 1804, 1860, 1928, 1996, 2076, 2179, 2190] (fun _ _ _ _ _ _ h => h) 100 (Z_LH l) ?_
    exact ⟨⟨by omega, by omega⟩, fun h => ⟨Or.inr rfl, hQ _⟩, fun h => by omega⟩
  | succ f ih =>
    intro i S D E T N mc ms h1 h2 h3 h4 h5 hC hM hX
    obtain ⟨r, rfl⟩ : ∃ r, mc = r + 1 := ⟨mc - 1, by omega⟩
    obtain ⟨r2, rfl⟩ : ∃ r, ms = r + 6 := ⟨ms - 6, by omega⟩
    refine zwq_okP eX (fun _ _ h => h) (by omega) (Z_LH l) rfl [23, 192, 265, 321, 334, 390, 458, 526, 606, 674, 754, 767, 790, 858, 926, 1006, 1074, 1154, 1167, 1180, 1248, 1304, 1360, 1440, 1508, 1588, 1656, 1736, 1804, 1860, 1928, 1996, 2076, 2179, 2190] (fun _ _ _ _ _ _ h => h) 100 (Z_LH l) ?_
    refine ⟨⟨by omega, by omega⟩, fun h => ⟨Or.inr rfl, hQ _⟩, fun h => ?_⟩
    have hi2 : i + 6 ≤ L := by omega
    have kk : ∀ (mc ms : Nat) (S' : zS) (D' E' T' : zD), r ≤ mc → r2 ≤ ms → eC S' D' E' T' → eM S' D' E' T' → xOK D' E' T' (N + 1) → zGt (scP b L xs) l 12 mc ms F_L_law S' 2203 [(0, .inr (.inl 100031)), (1, .inr (.inl 0)), (2, .inr (.inl 62)), (3, .inr (.inl 102)), (4, .inl (i : Int))] [] Q := fun mc ms S' D' E' T' k1 k2 k3 k4 k5 => law_tail eX hL hi2 (ih (i + 6) S' D' E' T' (N + 1) mc ms (by omega) (by omega) (by omega) (by omega) (by omega) k3 k4 k5)
    exact ⟨i, ⟨rfl, by omega⟩, fun _ => law_0 eX hL hC hM hX (by omega) hi2 kk, fun _ => law_1 eX hL hC hM hX (by omega) hi2 kk, fun _ => law_2 eX hL hC hM hX (by omega) hi2 kk, fun _ => law_3 eX hL hC hM hX (by omega) hi2 kk, fun _ => law_4 eX hL hC hM hX (by omega) hi2 kk, fun _ => law_5 eX hL hC hM hX (by omega) hi2 kk, fun _ => law_6 eX hL hC hM hX (by omega) hi2 kk, fun _ => law_7 eX hL hC hM hX (by omega) hi2 kk, fun _ => law_8 eX hL hC hM hX (by omega) hi2 kk, fun _ => law_9 eX hL hC hM hX (by omega) hi2 kk, fun _ => law_10 eX hL hC hM hX (by omega) hi2 kk, fun _ => law_11 eX hL hC hM hX (by omega) hi2 kk, fun _ => law_12 eX hL hC hM hX (by omega) hi2 kk, fun _ => law_13 eX hL hC hM hX (by omega) hi2 kk, fun _ => law_14 eX hL hC hM hX (by omega) hi2 kk, fun _ => law_15 eX hL hC hM hX (by omega) hi2 kk, fun _ => law_16 eX hL hC hM hX (by omega) hi2 kk, fun _ => law_17 eX hL hC hM hX (by omega) hi2 kk, fun _ => law_18 eX hL hC hM hX (by omega) hi2 kk, fun _ => law_19 eX hL hC hM hX (by omega) hi2 kk, fun _ => law_20 eX hL hC hM hX (by omega) hi2 kk, fun _ => law_21 eX hL hC hM hX (by omega) hi2 kk, fun _ => law_22 eX hL hC hM hX (by omega) hi2 kk, fun _ => law_23 eX hL hC hM hX (by omega) hi2 kk, fun _ => law_24 eX hL hC hM hX (by omega) hi2 kk, fun _ => law_25 eX hL hC hM hX (by omega) hi2 kk, fun _ => law_26 eX hL hC hM hX (by omega) hi2 kk, fun _ => law_27 eX hL hC hM hX (by omega) hi2 kk, fun _ => law_28 eX hL hC hM hX (by omega) hi2 kk, fun _ => law_29 eX hL hC hM hX (by omega) hi2 kk, fun _ => law_30 eX hL hC hM hX (by omega) hi2 kk, fun _ => law_31 eX hL hC hM hX (by omega) hi2 kk, fun _ => law_32 eX hL hC hM hX (by omega) hi2 kk, fun _ => law_33 eX hL hC hM hX (by omega) hi2 kk, fun _ => ⟨⟨by omega, by omega⟩, ih (i + 6) S D E T N (r + 1) (r2 + 6) (by omega) (by omega) (by omega) (by omega) (by omega) hC hM hX⟩⟩
def T_LP : List (Nat × zI) := [(0, (30, 11, 16, 0, 3, [])), (3, (12, 0, 0, 0, 4, [])), (7, (7, 1, 0, 0, 8, [])), (8, (30, 12, 69, 0, 11, [])), (11, (12, 0, 0, 0, 12, [])), (15, (7, 2, 0, 0, 16, [])), (16, (0, 0, 0, 1, 17, [])), (17, (31, 3, 0, 0, 19, [])), (19, (7, 3, 0, 0, 20, [])), (20, (0, 0, 0, 0, 21, [])), (21, (5, 4, 0, 0, 23, []))]
set_option maxRecDepth 100000 in
theorem K_LP : ztbok F_L_law T_LP := ztbB_ok (by decide +kernel)
theorem zwp_okP {P : zG → State → Prop} {l : Launch} {d : Nat} {f : zF} {tb : List (Nat × zI)} (htb : ztbok f tb) (sp : List Nat) {Q : zR → zM → Prop} (n : Nat) : ∀ {mc ms : Nat} {M : zM} {pc : Nat} {lo : List (Nat × Value)} {st : List Value},
    zwp d f tb sp (fun mc ms M pc lo st => zGp P l d mc ms f M pc lo st Q) Q n mc ms M pc lo st → zGp P l d mc ms f M pc lo st Q := by
  induction n with
  | zero => intro mc ms M pc lo st h; exact h
  | succ n ih =>
    intro mc ms M pc lo st h
    unfold zwp at h
    split at h
    · exact h
    · rename_i e he
      have he2 : zpre f.1 f.2.1 pc = some e := htb (pc, e) (zfind_ok he)
      have h2 : zst d f e mc ms M lo st (fun mc ms M pc lo st => zGp P l d mc ms f M pc lo st Q) Q := by
        apply zst_m h
        intro mc ms M pc lo st h
        split at h
        · exact h
        · exact ih h
      exact z_stepP he2 h2
set_option maxHeartbeats 4000000 in
set_option maxRecDepth 20000 in
theorem law_all (l : Launch) {b L : Nat} {xs : Nat → Int32} (hL : L ≤ 3072) : zGp (scP b L xs) l 12 615 31023 F_L_law (0, t0) 0 [(0, .ref 100031)] [] (zQs (fun r _ => r = .inl (some (.inl 1)))) := by
  refine zwp_okP K_LP [] 100 ?_
  refine zcallIP (lo := [(0, .ref 100031)]) 3 61 1899 (a := []) (rest := [.ref 0]) (by decide +kernel) C_13_95 W_X11_init I_X11_init rfl rfl rfl (by decide +kernel) (N_X11_init_0 l t0) ?_
  refine zwp_okP K_LP [] 100 ?_
  refine zcallIP (lo := [(0, .ref 100031), (1, .ref 0)]) 2 39 25966 (a := []) (rest := [.ref 62]) (by decide +kernel) C_13_98 W_X12_init I_X12_init rfl rfl rfl (by decide +kernel) (N_X12_init_62 l (f_X11_init_0 t0)) ?_
  refine zwp_okP K_LP [23] 100 ?_
  have h := law_loop (l := l) (b := b) (xs := xs) (Q := fun r _ => r = .inl (some (.inl 1))) rfl hL (fun _ => rfl) 512 0 S0 D0 D0 T0 0 512 3072 (by omega) (by omega) (by decide) (by decide) (by decide) eC_0 eM_0 xOK_0 (103, t1) ev_1 (by
    intro q hq
    simp only [List.mem_cons, List.not_mem_nil, or_false] at hq
    rcases hq with rfl | rfl | rfl | rfl | rfl <;> first | exact trivial | exact ⟨by decide, by decide⟩) (fun v hv => by cases hv)
  exact h
