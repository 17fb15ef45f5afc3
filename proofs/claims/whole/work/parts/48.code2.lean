/-! the model's code -/
def B_X12_apart : List (Nat × zC) := []
def O_X12_apart : zO := fun j a S K => match j with
  | _ => False
theorem E_X12_apart (l : Launch) : ∀ q ∈ B_X12_apart, zcok l O_X12_apart F_X12_apart q.1 q.2 := fun _ h => by cases h
def U_X12_apart : List (Nat × zE) := [(0, Sum.inl (0, 0, 0, 0, 1, [])), (1, Sum.inl (5, 2, 0, 0, 2, [])), (2, Sum.inl (0, 0, 0, 0, 3, [])), (3, Sum.inl (5, 3, 0, 0, 4, [])), (4, Sum.inl (2, 3, 0, 0, 5, [])), (5, Sum.inl (0, 0, 0, 8, 7, [])), (7, Sum.inl (16, 1, 10, 0, 28, [])), (10, Sum.inl (2, 2, 0, 0, 11, [])), (11, Sum.inl (2, 0, 0, 0, 12, [])), (12, Sum.inl (2, 3, 0, 0, 13, [])), (13, Sum.inl (9, 7, 0, 0, 14, [])), (14, Sum.inl (2, 1, 0, 0, 15, [])), (15, Sum.inl (2, 3, 0, 0, 16, [])), (16, Sum.inl (9, 7, 0, 0, 17, [])), (17, Sum.inl (9, 5, 0, 0, 18, [])), (18, Sum.inl (0, 0, 0, 1, 19, [])), (19, Sum.inl (9, 3, 0, 0, 20, [])), (20, Sum.inl (9, 0, 0, 0, 21, [])), (21, Sum.inl (5, 2, 0, 0, 22, [])), (22, Sum.inl (8, 3, 0, 1, 25, [])), (25, Sum.inl (15, 0, 0, 0, 4, [])), (28, Sum.inl (2, 2, 0, 0, 29, [])), (29, Sum.inl (27, 0, 0, 0, 30, []))]
theorem Z_X12_apart (l : Launch) : ∀ q ∈ U_X12_apart, zTok l O_X12_apart F_X12_apart q := zU_ok rfl rfl rfl K_X12_apart (E_X12_apart l)
def wp_X12_apart (a : List zV) (S : zS) (K : zR2 → zS → Prop) : Prop := match a with
  | [.inl x, .inl y] => ∃ (a b : Nat), (x = (a : Int) ∧ y = (b : Int) ∧ a < 256 ∧ b < 256) ∧ K (.inl (some (.inl (dst a b : Int)))) S
  | _ => False
theorem xor_bt {a b j : Nat} : (a / 2 ^ j ^^^ b / 2 ^ j) % 2 = bt1 (a ^^^ b) j := by
  unfold bt1
  rw [← Nat.shiftRight_eq_div_pow, ← Nat.shiftRight_eq_div_pow, ← Nat.shiftRight_eq_div_pow, ← Nat.shiftRight_xor_distrib]
theorem blS_hi {m k : Nat} (h : m < 2 ^ k) : ∀ f j, k ≤ j → blS m f j = [] := by
  intro f
  induction f with
  | zero => intro j _; rfl
  | succ f ih =>
    intro j hj
    rw [blS_0 (by rw [bt1_hi h hj]; omega)]
    exact ih (j + 1) (by omega)
theorem L_X12_apart {l : Launch} {S : zS} {Q : zR2 → zS → Prop} {a b : Nat} (ha : a < 256) (hb : b < 256) (h : Q (.inl (some (.inl (dst a b : Int)))) S) (f : Nat) : ∀ j n, j + f = 8 → n + (blS (a ^^^ b) (f + 10) j).length = dst a b → zGs l 0 0 0 F_X12_apart S 4 [(0, .inl (a : Int)), (1, .inl (b : Int)), (2, .inl (n : Int)), (3, .inl (j : Int))] [] Q := by
  have hx := xor_256 ha hb
  have hle := dst_le a b
  induction f with
  | zero =>
    intro j n hj hn
    rw [blS_hi (k := 8) hx _ _ (by omega)] at hn
    have : n = dst a b := hn
    subst this
    refine zwq_ok (Z_X12_apart l) rfl [4] (fun _ _ _ _ _ _ h => h) 400 (Z_X12_apart l) ?_
    exact ⟨fun c => by omega, fun c => h⟩
  | succ f ih =>
    intro j n hj hn
    have e1 := zshr_n (a := a) (k := j) (by omega) (by omega)
    have e2 := zshr_n (a := b) (k := j) (by omega) (by omega)
    have l1 : a / 2 ^ j ≤ a := Nat.div_le_self _ _
    have l2 : b / 2 ^ j ≤ b := Nat.div_le_self _ _
    have e3 : zand (zxor (zshr (a : Int) (j : Int)) (zshr (b : Int) (j : Int))) 1 = (bt1 (a ^^^ b) j : Int) := by
      rw [e1, e2, zxor_n (by omega) (by omega)]
      have := zand_n2 (a := a / 2 ^ j ^^^ b / 2 ^ j) (b := 1) (by decide)
      rw [show ((1 : Nat) : Int) = 1 from rfl] at this
      rw [this, Nat.and_one_is_mod, xor_bt]
    have hb2 := bt1_lt (a ^^^ b) j
    have h2 : n + bt1 (a ^^^ b) j + (blS (a ^^^ b) (f + 10) (j + 1)).length = dst a b := by
      rw [show f + 1 + 10 = (f + 10) + 1 by omega] at hn
      by_cases hb1 : bt1 (a ^^^ b) j = 1
      · rw [blS_1 hb1, List.length_cons] at hn; omega
      · rw [blS_0 hb1] at hn; omega
    have this := ih (j + 1) (n + bt1 (a ^^^ b) j) (by omega) h2
    refine zwq_ok (Z_X12_apart l) rfl [4] (fun _ _ _ _ _ _ h => h) 400 (Z_X12_apart l) ?_
    refine ⟨fun c => ⟨?_, by omega, ?_⟩, fun c => by omega⟩
    · rw [e3]; omega
    · rw [e3]; exact this
theorem R_X12_apart (l : Launch) (a : List zV) (S : zS) (Q : zR2 → zS → Prop) (h : wp_X12_apart a S Q) : zRs l 0 0 0 yX12_apart (.code yX12_apart cX12_apart 4 (some .int)) a S Q := by
  unfold wp_X12_apart at h
  split at h
  · obtain ⟨a, b, ⟨rfl, rfl, ha, hb⟩, h⟩ := h
    refine zRs_of 12 (by decide) rfl rfl ?_; refine zwq_ok (Z_X12_apart l) rfl [4] (fun _ _ _ _ _ _ h => h) 400 (Z_X12_apart l) ?_
    exact L_X12_apart ha hb h 8 0 0 (by omega) (by rw [Nat.zero_add]; rfl)
  · exact h.elim
def B_X12_spells : List (Nat × zC) := [(40, (1, 0, 2, 0, 0, 0, 0))]
def O_X12_spells : zO := fun j a S K => match j with
  | 0 => wp_X12_apart a S K
  | _ => False
theorem E_X12_spells (l : Launch) : ∀ q ∈ B_X12_spells, zcok l O_X12_spells F_X12_spells q.1 q.2 := List.forall_mem_cons.mpr ⟨⟨410, yX12_apart, cX12_apart, 4, some .int, by decide +kernel, C_12_410, W_X12_apart, I_X12_apart, rfl, R_X12_apart l⟩, fun _ h => by cases h⟩
def U_X12_spells : List (Nat × zE) := [(0, Sum.inl (4, 0, 0, 0, 1, [])), (1, Sum.inl (0, 0, 0, 0, 2, [])), (2, Sum.inl (19, 12, 62, 0, 5, [])), (5, Sum.inl (0, 0, 0, 0, 6, [])), (6, Sum.inl (5, 2, 0, 0, 7, [])), (7, Sum.inl (2, 2, 0, 0, 8, [])), (8, Sum.inl (0, 0, 0, 256, 11, [])), (11, Sum.inl (16, 1, 14, 0, 92, [])), (14, Sum.inl (0, 0, 0, 1, 15, [])), (15, Sum.inl (5, 3, 0, 0, 16, [])), (16, Sum.inl (0, 0, 0, 0, 17, [])), (17, Sum.inl (5, 4, 0, 0, 19, [])), (19, Sum.inl (2, 4, 0, 0, 21, [])), (21, Sum.inl (4, 0, 0, 0, 22, [])), (22, Sum.inl (18, 12, 62, 0, 25, [])), (25, Sum.inl (16, 1, 28, 0, 59, [])), (28, Sum.inl (2, 3, 0, 0, 29, [])), (29, Sum.inl (17, 0, 59, 0, 32, [])), (32, Sum.inl (4, 0, 0, 0, 33, [])), (33, Sum.inl (18, 12, 61, 0, 36, [])), (36, Sum.inl (2, 4, 0, 0, 38, [])), (38, Sum.inl (20, 0, 0, 0, 39, [])), (39, Sum.inl (2, 2, 0, 0, 40, [])), (40, Sum.inr (1, 0, 2, 0, 0, 0, 0)), (43, Sum.inl (2, 1, 0, 0, 44, [])), (44, Sum.inl (16, 1, 51, 0, 47, [])), (47, Sum.inl (0, 0, 0, 1, 48, [])), (48, Sum.inl (15, 0, 0, 0, 52, [])), (51, Sum.inl (0, 0, 0, 0, 52, [])), (52, Sum.inl (5, 3, 0, 0, 53, [])), (53, Sum.inl (8, 4, 0, 1, 56, [])), (56, Sum.inl (15, 0, 0, 0, 19, [])), (59, Sum.inl (2, 3, 0, 0, 60, [])), (60, Sum.inl (17, 0, 63, 0, 66, [])), (63, Sum.inl (15, 0, 0, 0, 86, [])), (66, Sum.inl (4, 0, 0, 0, 67, [])), (67, Sum.inl (18, 12, 61, 0, 70, [])), (70, Sum.inl (4, 0, 0, 0, 71, [])), (71, Sum.inl (18, 12, 62, 0, 74, [])), (74, Sum.inl (2, 2, 0, 0, 75, [])), (75, Sum.inl (21, 0, 0, 0, 76, [])), (76, Sum.inl (4, 0, 0, 0, 77, [])), (77, Sum.inl (12, 0, 0, 0, 78, [])), (78, Sum.inl (18, 12, 62, 0, 81, [])), (81, Sum.inl (0, 0, 0, 1, 82, [])), (82, Sum.inl (9, 0, 0, 0, 83, [])), (83, Sum.inl (19, 12, 62, 0, 86, [])), (86, Sum.inl (8, 2, 0, 1, 89, [])), (89, Sum.inl (15, 0, 0, 0, 7, [])), (92, Sum.inl (29, 0, 0, 0, 93, []))]
theorem Z_X12_spells (l : Launch) : ∀ q ∈ U_X12_spells, zTok l O_X12_spells F_X12_spells q := zU_ok rfl rfl rfl K_X12_spells (E_X12_spells l)
def wp_X12_spells (a : List zV) (S : zS) (K : zR2 → zS → Prop) : Prop := match a with
  | [.inr (.inl c), .inl x] => ∃ d : Nat, (c = 62 ∧ x = (d : Int)) ∧ ∀ S', S' 62 62 = ((cod d).length : Int) → wS S' 96 (cod d) → (∀ c j, c ≠ 96 → (c ≠ 62 ∨ j ≠ 62) → S' c j = S c j) → K (.inl none) S'
  | _ => False
section
variable {l : Launch} {Q : zR2 → zS → Prop} {S0 : zS} {d : Nat}
theorem L0_X12_spells {S : zS} {v : Nat} {ws : List Nat} (hv : v < 256) (h2 : S 62 62 = (ws.length : Int)) (hl : ws.length ≤ 255) (hw : wS S 96 ws) (hw2 : ∀ w ∈ ws, w < 256)
    (k1 : ws.all (fun w => Nat.ble d (dst v w)) = true → zGs l 1 0 0 F_X12_spells S 66 [(0, .inr (.inl 62)), (1, .inl (d : Int)), (2, .inl (v : Int))] [] Q)
    (k0 : ws.all (fun w => Nat.ble d (dst v w)) = false → zGs l 1 0 0 F_X12_spells S 86 [(0, .inr (.inl 62)), (1, .inl (d : Int)), (2, .inl (v : Int))] [] Q) (f : Nat) : ∀ i, i + f = ws.length → ws.all (fun w => Nat.ble d (dst v w)) = (ws.drop i).all (fun w => Nat.ble d (dst v w)) → zGs l 1 0 0 F_X12_spells S 19 [(0, .inr (.inl 62)), (1, .inl (d : Int)), (2, .inl (v : Int)), (3, .inl 1), (4, .inl (i : Int))] [] Q := by
  induction f with
  | zero =>
    intro i hi ha
    have : ws.drop i = [] := List.drop_eq_nil_of_le (by omega)
    rw [this] at ha
    refine zwq_ok (Z_X12_spells l) rfl [19, 66, 86] (fun _ _ _ _ _ _ h => h) 400 (Z_X12_spells l) ?_
    exact ⟨fun c => by omega, fun c => ⟨fun c9 => absurd c9 (by decide), fun _ => zGs.sub (lo := [(0, _), (1, _), (2, _), (3, _), (4, _)]) (k1 ha) (fun q hq => by simp only [List.mem_cons, List.not_mem_nil, or_false] at hq; rcases hq with rfl | rfl | rfl <;> first | exact .head _ | exact .tail _ (.head _) | exact .tail _ (.tail _ (.head _)) | exact .tail _ (.tail _ (.tail _ (.head _))) | exact .tail _ (.tail _ (.tail _ (.tail _ (.head _)))) | exact .tail _ (.tail _ (.tail _ (.tail _ (.tail _ (.head _))))) | exact .tail _ (.tail _ (.tail _ (.tail _ (.tail _ (.tail _ (.head _)))))) | exact .tail _ (.tail _ (.tail _ (.tail _ (.tail _ (.tail _ (.tail _ (.head _))))))) | exact .tail _ (.tail _ (.tail _ (.tail _ (.tail _ (.tail _ (.tail _ (.tail _ (.head _)))))))) | exact .tail _ (.tail _ (.tail _ (.tail _ (.tail _ (.tail _ (.tail _ (.tail _ (.tail _ (.head _))))))))) | exact .tail _ (.tail _ (.tail _ (.tail _ (.tail _ (.tail _ (.tail _ (.tail _ (.tail _ (.tail _ (.head _)))))))))) | exact .tail _ (.tail _ (.tail _ (.tail _ (.tail _ (.tail _ (.tail _ (.tail _ (.tail _ (.tail _ (.tail _ (.head _))))))))))) | exact .tail _ (.tail _ (.tail _ (.tail _ (.tail _ (.tail _ (.tail _ (.tail _ (.tail _ (.tail _ (.tail _ (.tail _ (.head _)))))))))))) | exact .tail _ (.tail _ (.tail _ (.tail _ (.tail _ (.tail _ (.tail _ (.tail _ (.tail _ (.tail _ (.tail _ (.tail _ (.tail _ (.head _))))))))))))))⟩⟩
  | succ f ih =>
    intro i hi ha
    have hg := lget (l := ws) (n := i) (by omega)
    have hm := hw2 _ (lget_mem (l := ws) (n := i) (by omega))
    have hS := hw i _ hg
    rw [all_drop hg] at ha
    generalize ws.getD i 0 = w at *
    have dc := dst_comm w v
    have no : ws.all (fun w => Nat.ble d (dst v w)) = false → ∀ i : Nat, zGs l 1 0 0 F_X12_spells S 19 [(0, .inr (.inl 62)), (1, .inl (d : Int)), (2, .inl (v : Int)), (3, .inl 0), (4, .inl (i : Int))] [] Q := by
      intro h9 i
      have q := zGs.sub (lo := [(0, .inr (.inl 62)), (1, .inl (d : Int)), (2, .inl (v : Int)), (3, .inl 0), (4, .inl (i : Int))]) (k0 h9) (fun q hq => by simp only [List.mem_cons, List.not_mem_nil, or_false] at hq; rcases hq with rfl | rfl | rfl <;> first | exact .head _ | exact .tail _ (.head _) | exact .tail _ (.tail _ (.head _)) | exact .tail _ (.tail _ (.tail _ (.head _))) | exact .tail _ (.tail _ (.tail _ (.tail _ (.head _)))) | exact .tail _ (.tail _ (.tail _ (.tail _ (.tail _ (.head _))))) | exact .tail _ (.tail _ (.tail _ (.tail _ (.tail _ (.tail _ (.head _)))))) | exact .tail _ (.tail _ (.tail _ (.tail _ (.tail _ (.tail _ (.tail _ (.head _))))))) | exact .tail _ (.tail _ (.tail _ (.tail _ (.tail _ (.tail _ (.tail _ (.tail _ (.head _)))))))) | exact .tail _ (.tail _ (.tail _ (.tail _ (.tail _ (.tail _ (.tail _ (.tail _ (.tail _ (.head _))))))))) | exact .tail _ (.tail _ (.tail _ (.tail _ (.tail _ (.tail _ (.tail _ (.tail _ (.tail _ (.tail _ (.head _)))))))))) | exact .tail _ (.tail _ (.tail _ (.tail _ (.tail _ (.tail _ (.tail _ (.tail _ (.tail _ (.tail _ (.tail _ (.head _))))))))))) | exact .tail _ (.tail _ (.tail _ (.tail _ (.tail _ (.tail _ (.tail _ (.tail _ (.tail _ (.tail _ (.tail _ (.tail _ (.head _)))))))))))) | exact .tail _ (.tail _ (.tail _ (.tail _ (.tail _ (.tail _ (.tail _ (.tail _ (.tail _ (.tail _ (.tail _ (.tail _ (.tail _ (.head _))))))))))))))
      refine zwq_ok (Z_X12_spells l) rfl [86] (fun _ _ _ _ _ _ h => h) 400 (Z_X12_spells l) ?_
      exact ⟨fun c => ⟨fun _ => ⟨fun _ => q, fun c9 => absurd rfl c9⟩, fun c9 => absurd rfl c9⟩, fun c => ⟨fun _ => q, fun c9 => absurd rfl c9⟩⟩
    refine zwq_ok (Z_X12_spells l) rfl [19] (fun _ _ _ _ _ _ h => h) 400 (Z_X12_spells l) ?_
    refine ⟨fun c => ⟨fun c9 => absurd c9 (by decide), fun _ => ⟨i, ⟨rfl, by omega⟩, w, v, ⟨hS, rfl, hm, hv⟩, fun c2 => ⟨by omega, ?_⟩, fun c2 => ⟨by omega, ?_⟩⟩⟩, fun c => by omega⟩
    · have : Nat.ble d (dst v w) = false := by
        cases hb : Nat.ble d (dst v w)
        · rfl
        · have := Nat.ble_eq.mp hb
          omega
      rw [this] at ha
      exact no ha (i + 1)
    · have : Nat.ble d (dst v w) = true := Nat.ble_eq.mpr (by omega)
      rw [this] at ha
      exact ih (i + 1) (by omega) ha
theorem L_X12_spells (hk : ∀ S', S' 62 62 = ((cod d).length : Int) → wS S' 96 (cod d) → (∀ c j, c ≠ 96 → (c ≠ 62 ∨ j ≠ 62) → S' c j = S0 c j) → Q (.inl none) S') (f : Nat) : ∀ v S, v + f = 256 → S 62 62 = ((cw d v).length : Int) → wS S 96 (cw d v) → (∀ c j, c ≠ 96 → (c ≠ 62 ∨ j ≠ 62) → S c j = S0 c j) → zGs l 1 0 0 F_X12_spells S 7 [(0, .inr (.inl 62)), (1, .inl (d : Int)), (2, .inl (v : Int))] [] Q := by
  induction f with
  | zero =>
    intro v S hv h2 hw hfr
    have : v = 256 := by omega
    subst this
    rw [← cod_cw] at h2 hw
    refine zwq_ok (Z_X12_spells l) rfl [19] (fun _ _ _ _ _ _ h => h) 400 (Z_X12_spells l) ?_
    exact ⟨fun c => by omega, fun c => hk S h2 hw hfr⟩
  | succ f ih =>
    intro v S hv h2 hw hfr
    have hl := cw_len d v
    refine zwq_ok (Z_X12_spells l) rfl [19] (fun _ _ _ _ _ _ h => h) 400 (Z_X12_spells l) ?_
    refine ⟨fun c => ?_, fun c => by omega⟩
    refine L0_X12_spells (ws := cw d v) (by omega) h2 (by omega) hw (fun w hm => by have := cw_lt d v w hm; omega) (fun ha => ?_) (fun ha => ?_) (cw d v).length 0 (by omega) rfl
    · refine zwq_ok (Z_X12_spells l) rfl [7] (fun _ _ _ _ _ _ h => h) 400 (Z_X12_spells l) ?_
      refine ⟨(cw d v).length, ⟨h2, by omega⟩, by (first | omega | (simp only [zu, Nat.reduceBEq, Bool.false_and, Bool.true_and, Bool.and_true, Bool.and_false, cond_false, cond_true, beq_self_eq_true]; omega)), by omega, ?_⟩
      have hl : (cw d (v + 1)).length = (cw d v).length + 1 := by rw [cw_s1 ha, List.length_append]; rfl
      refine ih (v + 1) _ (by omega) ?_ ?_ (fun c j h1 h3 => ?_)
      · show S 62 62 + 1 = _
        rw [hl, h2]
        rfl
      · rw [cw_s1 ha]
        have := hw.app (v := v)
        intro i w hi
        exact this i w hi
      · exact (zuN h3).trans ((zuN (Or.inl h1)).trans (hfr c j h1 h3))
    · refine zwq_ok (Z_X12_spells l) rfl [7] (fun _ _ _ _ _ _ h => h) 400 (Z_X12_spells l) ?_
      refine ⟨by omega, ?_⟩
      rw [← cw_s0 ha] at h2 hw
      exact ih (v + 1) S (by omega) h2 hw hfr
end
theorem R_X12_spells (l : Launch) (a : List zV) (S : zS) (Q : zR2 → zS → Prop) (h : wp_X12_spells a S Q) : zRs l 1 0 0 yX12_spells (.code yX12_spells cX12_spells 5 (none)) a S Q := by
  unfold wp_X12_spells at h
  split at h
  · obtain ⟨d, ⟨rfl, rfl⟩, hk⟩ := h
    refine zRs_of 12 (by decide) rfl rfl ?_; refine zwq_ok (Z_X12_spells l) rfl [7] (fun _ _ _ _ _ _ h => h) 400 (Z_X12_spells l) ?_
    exact L_X12_spells (S0 := S) hk 256 0 _ (by omega) rfl (fun i w hi => by cases hi) (fun c j h1 h3 => zuN h3)
  · exact h.elim
def B_X12_isCode : List (Nat × zC) := [(5, (1, 0, 3, 0, 0, 0, 0)), (14, (1, 0, 3, 0, 0, 0, 0)), (26, (0, 1, 2, 0, 0, 0, 12))]
def O_X12_isCode : zO := fun j a S K => match j with
  | 0 => wp_X12_within a S K
  | 1 => wp_X12_right a S K
  | _ => False
theorem E_X12_isCode (l : Launch) : ∀ q ∈ B_X12_isCode, zcok l O_X12_isCode F_X12_isCode q.1 q.2 := List.forall_mem_cons.mpr ⟨⟨283, yX12_within, cX12_within, 3, some .boolean, by decide +kernel, C_12_283, W_X12_within, I_X12_within, rfl, R_X12_within l⟩, List.forall_mem_cons.mpr ⟨⟨283, yX12_within, cX12_within, 3, some .boolean, by decide +kernel, C_12_283, W_X12_within, I_X12_within, rfl, R_X12_within l⟩, List.forall_mem_cons.mpr ⟨⟨241, yX12_right, cX12_right, 3, some .boolean, by decide +kernel, C_12_241, W_X12_right, I_X12_right, S_X12_right, rfl, rfl, R_X12_right l⟩, fun _ h => by cases h⟩⟩⟩
def U_X12_isCode : List (Nat × zE) := [(0, Sum.inl (4, 0, 0, 0, 1, [])), (1, Sum.inl (2, 1, 0, 0, 2, [])), (2, Sum.inl (0, 0, 0, 1, 3, [])), (3, Sum.inl (0, 0, 0, 40, 5, [])), (5, Sum.inr (1, 0, 3, 0, 0, 0, 0)), (8, Sum.inl (17, 0, 24, 0, 11, [])), (11, Sum.inl (2, 2, 0, 0, 12, [])), (12, Sum.inl (0, 0, 0, 1, 13, [])), (13, Sum.inl (0, 0, 0, 3, 14, [])), (14, Sum.inr (1, 0, 3, 0, 0, 0, 0)), (17, Sum.inl (17, 0, 24, 0, 20, [])), (20, Sum.inl (0, 0, 0, 1, 21, [])), (21, Sum.inl (15, 0, 0, 0, 25, [])), (24, Sum.inl (0, 0, 0, 0, 25, [])), (25, Sum.inl (0, 0, 0, 1, 26, [])), (26, Sum.inr (0, 1, 2, 0, 0, 0, 12)), (29, Sum.inl (27, 0, 0, 0, 30, []))]
theorem Z_X12_isCode (l : Launch) : ∀ q ∈ U_X12_isCode, zTok l O_X12_isCode F_X12_isCode q := zU_ok rfl rfl rfl K_X12_isCode (E_X12_isCode l)
def wp_X12_isCode (a : List zV) (S : zS) (K : zR2 → zS → Prop) : Prop := zif (Nat.ble (zsum a) 3) (zwq 1 F_X12_isCode U_X12_isCode O_X12_isCode [] (fun _ _ _ _ _ _ => False) K 18 U_X12_isCode 0 0 S 0 (zar 0 a) [])
theorem R_X12_isCode (l : Launch) (a : List zV) (S : zS) (Q : zR2 → zS → Prop) (h : wp_X12_isCode a S Q) : zRs l 1 0 0 yX12_isCode (.code yX12_isCode cX12_isCode 3 (some .boolean)) a S Q := by
  obtain ⟨h1, h⟩ := zif_ok h
  exact zRs_of 12 (by decide) rfl h1 (zwq_ok (Z_X12_isCode l) rfl [] (fun _ _ _ _ _ _ h => h.elim) 18 (Z_X12_isCode l) h)
def B_X12_word : List (Nat × zC) := [(10, (1, 0, 3, 0, 0, 0, 0)), (14, (0, 1, 2, 0, 0, 0, 12)), (24, (1, 0, 3, 0, 0, 0, 0)), (28, (0, 1, 2, 0, 0, 0, 12)), (38, (0, 2, 1, 1, 0, 0, 12))]
def O_X12_word : zO := fun j a S K => match j with
  | 0 => wp_X12_within a S K
  | 1 => wp_X12_right a S K
  | 2 => wp_X12_spells a S K
  | _ => False
theorem E_X12_word (l : Launch) : ∀ q ∈ B_X12_word, zcok l O_X12_word F_X12_word q.1 q.2 := List.forall_mem_cons.mpr ⟨⟨283, yX12_within, cX12_within, 3, some .boolean, by decide +kernel, C_12_283, W_X12_within, I_X12_within, rfl, R_X12_within l⟩, List.forall_mem_cons.mpr ⟨⟨241, yX12_right, cX12_right, 3, some .boolean, by decide +kernel, C_12_241, W_X12_right, I_X12_right, S_X12_right, rfl, rfl, R_X12_right l⟩, List.forall_mem_cons.mpr ⟨⟨283, yX12_within, cX12_within, 3, some .boolean, by decide +kernel, C_12_283, W_X12_within, I_X12_within, rfl, R_X12_within l⟩, List.forall_mem_cons.mpr ⟨⟨241, yX12_right, cX12_right, 3, some .boolean, by decide +kernel, C_12_241, W_X12_right, I_X12_right, S_X12_right, rfl, rfl, R_X12_right l⟩, List.forall_mem_cons.mpr ⟨⟨416, yX12_spells, cX12_spells, 5, none, by decide +kernel, C_12_416, W_X12_spells, I_X12_spells, S_X12_spells, rfl, rfl, R_X12_spells l⟩, fun _ h => by cases h⟩⟩⟩⟩⟩
def U_X12_word : List (Nat × zE) := [(0, Sum.inl (4, 0, 0, 0, 1, [])), (1, Sum.inl (0, 0, 0, 0, 2, [])), (2, Sum.inl (19, 12, 0, 0, 5, [])), (5, Sum.inl (4, 0, 0, 0, 6, [])), (6, Sum.inl (2, 1, 0, 0, 7, [])), (7, Sum.inl (0, 0, 0, 0, 8, [])), (8, Sum.inl (0, 0, 0, 39, 10, [])), (10, Sum.inr (1, 0, 3, 0, 0, 0, 0)), (13, Sum.inl (0, 0, 0, 1, 14, [])), (14, Sum.inr (0, 1, 2, 0, 0, 0, 12)), (17, Sum.inl (17, 0, 34, 0, 20, [])), (20, Sum.inl (4, 0, 0, 0, 21, [])), (21, Sum.inl (2, 2, 0, 0, 22, [])), (22, Sum.inl (0, 0, 0, 1, 23, [])), (23, Sum.inl (0, 0, 0, 3, 24, [])), (24, Sum.inr (1, 0, 3, 0, 0, 0, 0)), (27, Sum.inl (0, 0, 0, 2, 28, [])), (28, Sum.inr (0, 1, 2, 0, 0, 0, 12)), (31, Sum.inl (17, 0, 34, 0, 36, [])), (34, Sum.inl (0, 0, 0, 0, 35, [])), (35, Sum.inl (27, 0, 0, 0, 36, [])), (36, Sum.inl (4, 0, 0, 0, 37, [])), (37, Sum.inl (2, 2, 0, 0, 38, [])), (38, Sum.inr (0, 2, 1, 1, 0, 0, 12)), (41, Sum.inl (2, 1, 0, 0, 42, [])), (42, Sum.inl (4, 0, 0, 0, 43, [])), (43, Sum.inl (18, 12, 62, 0, 46, [])), (46, Sum.inl (16, 1, 49, 0, 58, [])), (49, Sum.inl (4, 0, 0, 0, 50, [])), (50, Sum.inl (18, 12, 61, 0, 53, [])), (53, Sum.inl (2, 1, 0, 0, 54, [])), (54, Sum.inl (20, 0, 0, 0, 55, [])), (55, Sum.inl (15, 0, 0, 0, 59, [])), (58, Sum.inl (0, 0, 0, (-1), 59, [])), (59, Sum.inl (27, 0, 0, 0, 60, []))]
theorem Z_X12_word (l : Launch) : ∀ q ∈ U_X12_word, zTok l O_X12_word F_X12_word q := zU_ok rfl rfl rfl K_X12_word (E_X12_word l)
def wp_X12_word (a : List zV) (S : zS) (K : zR2 → zS → Prop) : Prop := zif (Nat.ble (zsum a) 3) (zwq 2 F_X12_word U_X12_word O_X12_word [] (fun _ _ _ _ _ _ => False) K 36 U_X12_word 0 0 S 0 (zar 0 a) [])
theorem R_X12_word (l : Launch) (a : List zV) (S : zS) (Q : zR2 → zS → Prop) (h : wp_X12_word a S Q) : zRs l 2 0 0 yX12_word (.code yX12_word cX12_word 3 (some .int)) a S Q := by
  obtain ⟨h1, h⟩ := zif_ok h
  exact zRs_of 12 (by decide) rfl h1 (zwq_ok (Z_X12_word l) rfl [] (fun _ _ _ _ _ _ h => h.elim) 36 (Z_X12_word l) h)
def B_X11_word : List (Nat × zC) := [(3, (4, 0, 2, 6, 0, 0, 0)), (7, (4, 1, 1, 6, 0, 0, 0)), (15, (0, 2, 1, 2, 0, 0, 8))]
def O_X11_word : zO := fun j a S K => match j with
  | 0 => wp_X11_needOneOf a S K
  | 1 => wp_X11_needApart a S K
  | 2 => wp_X8_lay a S K
  | _ => False
theorem E_X11_word (l : Launch) : ∀ q ∈ B_X11_word, zcok l O_X11_word F_X11_word q.1 q.2 := List.forall_mem_cons.mpr ⟨⟨182, yX11_needOneOf, cX11_needOneOf, 2, none, by decide +kernel, C_11_182, W_X11_needOneOf, I_X11_needOneOf, rfl, R_X11_needOneOf l⟩, List.forall_mem_cons.mpr ⟨⟨325, yX11_needApart, cX11_needApart, 1, none, by decide +kernel, C_11_325, W_X11_needApart, I_X11_needApart, rfl, R_X11_needApart l⟩, List.forall_mem_cons.mpr ⟨⟨328, yX8_lay, cX8_lay, 3, none, by decide +kernel, C_11_328, W_X8_lay, I_X8_lay, S_X8_lay, rfl, rfl, R_X8_lay l⟩, fun _ h => by cases h⟩⟩⟩
def U_X11_word : List (Nat × zE) := [(0, Sum.inl (2, 1, 0, 0, 1, [])), (1, Sum.inl (0, 0, 0, 40, 3, [])), (3, Sum.inr (4, 0, 2, 6, 0, 0, 0)), (6, Sum.inl (2, 2, 0, 0, 7, [])), (7, Sum.inr (4, 1, 1, 6, 0, 0, 0)), (10, Sum.inl (4, 0, 0, 0, 11, [])), (11, Sum.inl (18, 11, 12, 0, 14, [])), (14, Sum.inl (2, 2, 0, 0, 15, [])), (15, Sum.inr (0, 2, 1, 2, 0, 0, 8)), (18, Sum.inl (2, 1, 0, 0, 19, [])), (19, Sum.inl (4, 0, 0, 0, 20, [])), (20, Sum.inl (18, 11, 12, 0, 23, [])), (23, Sum.inl (18, 8, 1, 0, 26, [])), (26, Sum.inl (16, 1, 29, 0, 41, [])), (29, Sum.inl (4, 0, 0, 0, 30, [])), (30, Sum.inl (18, 11, 12, 0, 33, [])), (33, Sum.inl (18, 8, 0, 0, 36, [])), (36, Sum.inl (2, 1, 0, 0, 37, [])), (37, Sum.inl (20, 0, 0, 0, 38, [])), (38, Sum.inl (15, 0, 0, 0, 42, [])), (41, Sum.inl (0, 0, 0, (-1), 42, [])), (42, Sum.inl (27, 0, 0, 0, 43, []))]
theorem Z_X11_word (l : Launch) : ∀ q ∈ U_X11_word, zTok l O_X11_word F_X11_word q := zU_ok rfl rfl rfl K_X11_word (E_X11_word l)
def wp_X11_word (a : List zV) (S : zS) (K : zR2 → zS → Prop) : Prop := zif (Nat.ble (zsum a) 3) (zwq 7 F_X11_word U_X11_word O_X11_word [] (fun _ _ _ _ _ _ => False) K 23 U_X11_word 1 6 S 0 (zar 0 a) [])
theorem R_X11_word (l : Launch) (a : List zV) (S : zS) (Q : zR2 → zS → Prop) (h : wp_X11_word a S Q) : zRs l 7 1 6 yX11_word (.code yX11_word cX11_word 3 (some .int)) a S Q := by
  obtain ⟨h1, h⟩ := zif_ok h
  exact zRs_of 11 (by decide) rfl h1 (zwq_ok (Z_X11_word l) rfl [] (fun _ _ _ _ _ _ h => h.elim) 23 (Z_X11_word l) h)
/-- how many kinds a word takes -/
def kinS (w : Nat) : Nat → Nat → Nat
  | 0, k => k
  | f + 1, k => if w < 2 ^ k then k else kinS w f (k + 1)
theorem cod_len (d : Nat) : (cod d).length ≤ 256 := by rw [cod_cw]; exact cw_len d 256
theorem cod_lt {d i w : Nat} (h : (cod d)[i]? = some w) : w < 256 := by
  rw [cod_cw] at h
  exact cw_lt d 256 w (List.mem_of_getElem? h)
theorem tak_40 {d n : Nat} (h : n ≤ 40) : n ≤ ((cod d).take 40).length ↔ n ≤ (cod d).length := by
  rw [List.length_take]; omega
theorem tak_get {d i : Nat} (h : i < 40) : ((cod d).take 40)[i]? = (cod d)[i]? := by
  rw [List.getElem?_take, if_pos h]
abbrev wordP (x y : Int) : Prop := (0 ≤ x ∧ x ≤ 39) ∧ (1 ≤ y ∧ y ≤ 3)
def wordA (x y : Int) : Nat × Int := if 0 ≤ x ∧ x ≤ 39 then (if 1 ≤ y ∧ y ≤ 3 then (0, if x < ((cod y.toNat).length : Int) then ((cod y.toNat).getD x.toNat 0 : Int) else -1) else (2, 0)) else (1, 0)
section
variable {S S' : zS} {D E T : zD} {N : Nat} {K : zR2 → zS → Prop} {x y z u w : Int}
theorem eC.sl (h : eC S D E T) (hf : ∀ c, c ≠ 59 → c ≠ 60 → S' c = S c) (hs : sOK S') : eC S' D E T := by
  have hn := h.now.fr (S' := S') (fun c h1 h2 => hf c (by omega) (by omega)) (fun c h1 h2 => hf c (by omega) (by omega))
  have hk := h.kept
  unfold kOK at hk
  have hk2 : T 4 0 = 1 → kOK S' E := by
    unfold kOK
    rw [hf 28 (by omega) (by omega), hf 29 (by omega) (by omega), hf 30 (by omega) (by omega), hf 31 (by omega) (by omega), hf 32 (by omega) (by omega), hf 33 (by omega) (by omega), hf 34 (by omega) (by omega), hf 35 (by omega) (by omega)]
    exact hk
  unfold eC at h ⊢
  rw [hf 0 (by omega) (by omega), hf 1 (by omega) (by omega), hf 2 (by omega) (by omega), hf 61 (by omega) (by omega), hf 42 (by omega) (by omega), hf 45 (by omega) (by omega), hf 46 (by omega) (by omega), hf 52 (by omega) (by omega), hf 58 (by omega) (by omega)]
  exact ⟨hn, h.2.1, h.2.2.1, h.2.2.2.1, h.2.2.2.2.1, h.2.2.2.2.2.1, hk2, h.2.2.2.2.2.2.2.1, h.2.2.2.2.2.2.2.2.1, h.2.2.2.2.2.2.2.2.2.1, h.2.2.2.2.2.2.2.2.2.2.1, h.2.2.2.2.2.2.2.2.2.2.2.1, hs⟩
theorem mOK.fr (h : mOK S D) (h1 : ∀ j, (j < 5 ∨ j = 36 ∨ j = 40 ∨ j = 41) → j ≠ 0 → S' 62 j = S 62 j) (h2 : ∀ c, (63 ≤ c ∧ c ≤ 69) ∨ (79 ≤ c ∧ c ≤ 82) → S' c = S c) : mOK S' D := by
  unfold mOK at h ⊢
  rw [h1 1 (by omega) (by omega), h1 2 (by omega) (by omega), h1 3 (by omega) (by omega), h1 4 (by omega) (by omega), h1 36 (by omega) (by omega), h1 40 (by omega) (by omega), h1 41 (by omega) (by omega), h2 63 (by omega), h2 64 (by omega), h2 65 (by omega), h2 66 (by omega), h2 68 (by omega), h2 69 (by omega), h2 79 (by omega), h2 80 (by omega), h2 81 (by omega), h2 82 (by omega)]
  exact h
/-- the model's scratch -/
def mScr (c j : Nat) : Prop := (c = 62 ∧ (j = 0 ∨ j = 14 ∨ (16 ≤ j ∧ j ≤ 35) ∨ (42 ≤ j ∧ j ≤ 51) ∨ (53 ≤ j ∧ j ≤ 55) ∨ (57 ≤ j ∧ j ≤ 62) ∨ 64 ≤ j)) ∨ (72 ≤ c ∧ c ≤ 78) ∨ (83 ≤ c ∧ c ≤ 88) ∨ (91 ≤ c ∧ c ≤ 94) ∨ c = 96 ∨ 1000 ≤ c
theorem eM.fr (h : eM S D E T) (hf : ∀ c j, 62 ≤ c → ¬ mScr c j → S' c j = S c j) : eM S' D E T := by
  have hc : ∀ c, 63 ≤ c → ¬ (72 ≤ c ∧ c ≤ 78) → ¬ (83 ≤ c ∧ c ≤ 88) → ¬ (91 ≤ c ∧ c ≤ 94) → c ≠ 96 → c < 1000 → S' c = S c := fun c a1 a2 a3 a4 a5 a6 => funext fun j => hf c j (by omega) (by unfold mScr; omega)
  have hn := h.now.fr (S' := S') (fun j h1 h2 => hf 62 j (by omega) (by unfold mScr; omega)) (fun c h1 => hc c (by omega) (by omega) (by omega) (by omega) (by omega) (by omega))
  have hk := h.image
  unfold iOK at hk
  have hk2 : T 4 0 = 1 → iOK S' E := by
    unfold iOK
    rw [hc 97 (by omega) (by omega) (by omega) (by omega) (by omega) (by omega), hc 98 (by omega) (by omega) (by omega) (by omega) (by omega) (by omega), hc 99 (by omega) (by omega) (by omega) (by omega) (by omega) (by omega), hc 100 (by omega) (by omega) (by omega) (by omega) (by omega) (by omega), hc 101 (by omega) (by omega) (by omega) (by omega) (by omega) (by omega)]
    exact hk
  unfold eM at h ⊢
  rw [hf 62 13 (by omega) (by unfold mScr; omega), hf 62 15 (by omega) (by unfold mScr; omega), hf 62 63 (by omega) (by unfold mScr; omega), hf 62 52 (by omega) (by unfold mScr; omega), hf 62 56 (by omega) (by unfold mScr; omega), hc 70 (by omega) (by omega) (by omega) (by omega) (by omega) (by omega), hc 71 (by omega) (by omega) (by omega) (by omega) (by omega) (by omega), hc 89 (by omega) (by omega) (by omega) (by omega) (by omega) (by omega), hc 90 (by omega) (by omega) (by omega) (by omega) (by omega) (by omega), hc 95 (by omega) (by omega) (by omega) (by omega) (by omega) (by omega)]
  exact ⟨hn, h.2.1, h.2.2.1, h.2.2.2.1, h.2.2.2.2.1, h.2.2.2.2.2.1, hk2, h.2.2.2.2.2.2.2⟩
end
