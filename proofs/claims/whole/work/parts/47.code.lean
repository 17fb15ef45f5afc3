/-! the code of slippers: kinds, word, mend -/
def cw (d : Nat) : Nat → List Nat
  | 0 => []
  | v + 1 => bif (cw d v).all (fun w => Nat.ble d (dst v w)) then cw d v ++ [v] else cw d v
theorem codS_cw (d : Nat) : ∀ f v, codS d f v (cw d v) = cw d (v + f) := by
  intro f
  induction f with
  | zero => intro v; rfl
  | succ f ih =>
    intro v
    show codS d f (v + 1) (cw d (v + 1)) = _
    rw [ih (v + 1), show v + 1 + f = v + (f + 1) by omega]
theorem cod_cw (d : Nat) : cod d = cw d 256 := by
  have := codS_cw d 256 0
  rw [Nat.zero_add] at this
  exact this
theorem cw_s1 {d v : Nat} (h : (cw d v).all (fun w => Nat.ble d (dst v w)) = true) : cw d (v + 1) = cw d v ++ [v] := by
  show (bif (cw d v).all (fun w => Nat.ble d (dst v w)) then cw d v ++ [v] else cw d v) = _
  rw [h]; rfl
theorem cw_s0 {d v : Nat} (h : (cw d v).all (fun w => Nat.ble d (dst v w)) = false) : cw d (v + 1) = cw d v := by
  show (bif (cw d v).all (fun w => Nat.ble d (dst v w)) then cw d v ++ [v] else cw d v) = _
  rw [h]; rfl
theorem cw_pre (d : Nat) : ∀ f v, ∃ r, cw d (v + f) = cw d v ++ r := by
  intro f
  induction f with
  | zero => intro v; exact ⟨[], by simp⟩
  | succ f ih =>
    intro v
    obtain ⟨r, hr⟩ := ih (v + 1)
    rw [show v + (f + 1) = v + 1 + f by omega, hr]
    cases h : (cw d v).all (fun w => Nat.ble d (dst v w)) with
    | true => rw [cw_s1 h, List.append_assoc]; exact ⟨_, rfl⟩
    | false => rw [cw_s0 h]; exact ⟨r, rfl⟩
theorem cw_lt (d : Nat) : ∀ v, ∀ w ∈ cw d v, w < v := by
  intro v
  induction v with
  | zero => intro w hw; cases hw
  | succ v ih =>
    intro w hw
    cases h : (cw d v).all (fun w => Nat.ble d (dst v w)) with
    | true =>
      rw [cw_s1 h] at hw
      rcases List.mem_append.mp hw with hw | hw
      · have := ih w hw; omega
      · have : w = v := by simpa using hw
        omega
    | false => rw [cw_s0 h] at hw; have := ih w hw; omega
theorem cw_len (d : Nat) : ∀ v, (cw d v).length ≤ v := by
  intro v
  induction v with
  | zero => exact Nat.le_refl 0
  | succ v ih =>
    cases h : (cw d v).all (fun w => Nat.ble d (dst v w)) with
    | true => rw [cw_s1 h, List.length_append]; simp; exact ih
    | false => rw [cw_s0 h]; omega
/-- a row holds a list -/
def wS (S : zS) (c : Nat) (ws : List Nat) : Prop := ∀ i w : Nat, ws[i]? = some w → S c i = (w : Int)
theorem wS.app {S : zS} {c : Nat} {ws : List Nat} {v : Nat} (h : wS S c ws) : wS (zu S c ws.length (v : Int)) c (ws ++ [v]) := by
  intro i w hi
  by_cases e : i = ws.length
  · subst e
    rw [List.getElem?_concat_length] at hi
    cases hi
    exact zuE
  · rw [zuN (Or.inr e)]
    by_cases e2 : i < ws.length
    · rw [List.getElem?_append_left e2] at hi
      exact h i w hi
    · have : (ws ++ [v])[i]? = none := List.getElem?_eq_none (by rw [List.length_append]; simp; omega)
      rw [this] at hi
      cases hi
theorem dst_comm (a b : Nat) : dst a b = dst b a := by unfold dst; rw [Nat.xor_comm]
theorem dst_le (a b : Nat) : dst a b ≤ 18 := bl_le _
def B_X8_isApart : List (Nat × zC) := [(18, (1, 0, 1, 0, 0, 0, 0))]
def O_X8_isApart : zO := fun j a S K => match j with
  | 0 => wp_J6_bitCount_0f7a4 a S K
  | _ => False
theorem E_X8_isApart (l : Launch) : ∀ q ∈ B_X8_isApart, zcok l O_X8_isApart F_X8_isApart q.1 q.2 := List.forall_mem_cons.mpr ⟨⟨26, yJ6_bitCount_0f7a4, cJ6_bitCount_0f7a4, 1, some .int, by decide +kernel, C_8_26, W_J6_bitCount_0f7a4, I_J6_bitCount_0f7a4, rfl, R_J6_bitCount_0f7a4 l⟩, fun _ h => by cases h⟩
def U_X8_isApart : List (Nat × zE) := [(0, Sum.inl (0, 0, 0, 0, 1, [])), (1, Sum.inl (5, 2, 0, 0, 2, [])), (2, Sum.inl (2, 2, 0, 0, 3, [])), (3, Sum.inl (4, 0, 0, 0, 4, [])), (4, Sum.inl (18, 8, 1, 0, 7, [])), (7, Sum.inl (16, 1, 10, 0, 36, [])), (10, Sum.inl (2, 1, 0, 0, 11, [])), (11, Sum.inl (4, 0, 0, 0, 12, [])), (12, Sum.inl (18, 8, 0, 0, 15, [])), (15, Sum.inl (2, 2, 0, 0, 16, [])), (16, Sum.inl (20, 0, 0, 0, 17, [])), (17, Sum.inl (9, 5, 0, 0, 18, [])), (18, Sum.inr (1, 0, 1, 0, 0, 0, 0)), (21, Sum.inl (4, 0, 0, 0, 22, [])), (22, Sum.inl (18, 8, 2, 0, 25, [])), (25, Sum.inl (16, 1, 28, 0, 30, [])), (28, Sum.inl (0, 0, 0, 0, 29, [])), (29, Sum.inl (27, 0, 0, 0, 30, [])), (30, Sum.inl (8, 2, 0, 1, 33, [])), (33, Sum.inl (15, 0, 0, 0, 2, [])), (36, Sum.inl (0, 0, 0, 1, 37, [])), (37, Sum.inl (27, 0, 0, 0, 38, []))]
theorem Z_X8_isApart (l : Launch) : ∀ q ∈ U_X8_isApart, zTok l O_X8_isApart F_X8_isApart q := zU_ok rfl rfl rfl K_X8_isApart (E_X8_isApart l)
/-- the slippers as the class has them while it lays -/
def wp_X8_isApart (a : List zV) (S : zS) (K : zR2 → zS → Prop) : Prop := match a with
  | [.inr (.inl c), .inl x] => ∃ (v d : Nat) (ws : List Nat), (c = 59 ∧ x = (v : Int) ∧ v < 256 ∧ S 59 2 = (d : Int) ∧ S 59 1 = (ws.length : Int) ∧ ws.length ≤ 40 ∧ wS S 60 ws ∧ ∀ w ∈ ws, w < 256) ∧ (ws.all (fun w => Nat.ble d (dst v w)) = true → K (.inl (some (.inl 1))) S) ∧ (ws.all (fun w => Nat.ble d (dst v w)) = false → K (.inl (some (.inl 0))) S)
  | _ => False
theorem xor_256 {a b : Nat} (ha : a < 256) (hb : b < 256) : a ^^^ b < 256 := Nat.xor_lt_two_pow (n := 8) ha hb
theorem all_drop {ws : List Nat} {f : Nat → Bool} {i w : Nat} (h : ws[i]? = some w) : (ws.drop i).all f = (f w && (ws.drop (i + 1)).all f) := by
  have hi : i < ws.length := (List.getElem?_eq_some_iff.mp h).1
  have hw : ws[i] = w := (List.getElem?_eq_some_iff.mp h).2
  rw [List.drop_eq_getElem_cons hi, hw]
  rfl
theorem L_X8_isApart {l : Launch} {S : zS} {Q : zR2 → zS → Prop} {v d : Nat} {ws : List Nat} (hv : v < 256) (h1 : S 59 2 = (d : Int)) (h2 : S 59 1 = (ws.length : Int)) (h40 : ws.length ≤ 40) (hw : wS S 60 ws) (hw2 : ∀ w ∈ ws, w < 256) (f : Nat) : ∀ i, i + f = ws.length → ((ws.drop i).all (fun w => Nat.ble d (dst v w)) = true → Q (.inl (some (.inl 1))) S) → ((ws.drop i).all (fun w => Nat.ble d (dst v w)) = false → Q (.inl (some (.inl 0))) S) → zGs l 1 0 0 F_X8_isApart S 2 [(0, .inr (.inl 59)), (1, .inl (v : Int)), (2, .inl (i : Int))] [] Q := by
  induction f with
  | zero =>
    intro i hi q1 q0
    have : ws.drop i = [] := List.drop_eq_nil_of_le (by omega)
    rw [this] at q1
    refine zwq_ok (Z_X8_isApart l) rfl [2] (fun _ _ _ _ _ _ h => h) 400 (Z_X8_isApart l) ?_
    exact ⟨fun c => by omega, fun c => ⟨Or.inr rfl, q1 rfl⟩⟩
  | succ f ih =>
    intro i hi q1 q0
    have hg := lget (l := ws) (n := i) (by omega)
    have hm := hw2 _ (lget_mem (l := ws) (n := i) (by omega))
    have hS := hw i _ hg
    rw [all_drop hg] at q1 q0
    generalize ws.getD i 0 = w at *
    have e := zxor_n (a := v) (b := w) (by omega) (by omega)
    have hx := xor_256 hv hm
    refine zwq_ok (Z_X8_isApart l) rfl [2] (fun _ _ _ _ _ _ h => h) 400 (Z_X8_isApart l) ?_
    refine ⟨fun c => ⟨i, ⟨rfl, by omega⟩, v ^^^ w, v ^^^ w, ⟨by rw [hS, e], Or.inl ⟨rfl, hx⟩⟩, fun c2 => ⟨Or.inl rfl, q0 ?_⟩, fun c2 => ⟨by omega, ?_⟩⟩, fun c => by omega⟩
    · have : Nat.ble d (dst v w) = false := by
        cases hb : Nat.ble d (dst v w)
        · rfl
        · have := Nat.ble_eq.mp hb
          unfold dst at this
          omega
      rw [this]
      rfl
    · have : Nat.ble d (dst v w) = true := Nat.ble_eq.mpr (by unfold dst; omega)
      rw [this] at q1 q0
      exact ih (i + 1) (by omega) q1 q0
theorem R_X8_isApart (l : Launch) (a : List zV) (S : zS) (Q : zR2 → zS → Prop) (h : wp_X8_isApart a S Q) : zRs l 1 0 0 yX8_isApart (.code yX8_isApart cX8_isApart 3 (some .boolean)) a S Q := by
  unfold wp_X8_isApart at h
  split at h
  · obtain ⟨v, d, ws, ⟨rfl, rfl, hv, h1, h2, h40, hw, hw2⟩, q1, q0⟩ := h
    refine zRs_of 8 (by decide) rfl rfl ?_; refine zwq_ok (Z_X8_isApart l) rfl [2] (fun _ _ _ _ _ _ h => h) 400 (Z_X8_isApart l) ?_
    exact L_X8_isApart hv h1 h2 h40 hw hw2 ws.length 0 (by omega) q1 q0
  · exact h.elim
def B_X8_lay : List (Nat × zC) := [(39, (0, 0, 1, 1, 0, 0, 8))]
def O_X8_lay : zO := fun j a S K => match j with
  | 0 => wp_X8_isApart a S K
  | _ => False
theorem E_X8_lay (l : Launch) : ∀ q ∈ B_X8_lay, zcok l O_X8_lay F_X8_lay q.1 q.2 := List.forall_mem_cons.mpr ⟨⟨22, yX8_isApart, cX8_isApart, 3, some .boolean, by decide +kernel, C_8_22, W_X8_isApart, I_X8_isApart, S_X8_isApart, rfl, rfl, R_X8_isApart l⟩, fun _ h => by cases h⟩
def U_X8_lay : List (Nat × zE) := [(0, Sum.inl (4, 0, 0, 0, 1, [])), (1, Sum.inl (18, 8, 2, 0, 4, [])), (4, Sum.inl (2, 1, 0, 0, 5, [])), (5, Sum.inl (16, 0, 8, 0, 9, [])), (8, Sum.inl (29, 0, 0, 0, 9, [])), (9, Sum.inl (4, 0, 0, 0, 10, [])), (10, Sum.inl (2, 1, 0, 0, 11, [])), (11, Sum.inl (19, 8, 2, 0, 14, [])), (14, Sum.inl (4, 0, 0, 0, 15, [])), (15, Sum.inl (0, 0, 0, 0, 16, [])), (16, Sum.inl (19, 8, 1, 0, 19, [])), (19, Sum.inl (0, 0, 0, 0, 20, [])), (20, Sum.inl (5, 2, 0, 0, 21, [])), (21, Sum.inl (2, 2, 0, 0, 22, [])), (22, Sum.inl (0, 0, 0, 256, 25, [])), (25, Sum.inl (16, 1, 28, 0, 71, [])), (28, Sum.inl (4, 0, 0, 0, 29, [])), (29, Sum.inl (18, 8, 1, 0, 32, [])), (32, Sum.inl (0, 0, 0, 40, 34, [])), (34, Sum.inl (16, 1, 37, 0, 71, [])), (37, Sum.inl (4, 0, 0, 0, 38, [])), (38, Sum.inl (2, 2, 0, 0, 39, [])), (39, Sum.inr (0, 0, 1, 1, 0, 0, 8)), (42, Sum.inl (17, 0, 65, 0, 45, [])), (45, Sum.inl (4, 0, 0, 0, 46, [])), (46, Sum.inl (18, 8, 0, 0, 49, [])), (49, Sum.inl (4, 0, 0, 0, 50, [])), (50, Sum.inl (18, 8, 1, 0, 53, [])), (53, Sum.inl (2, 2, 0, 0, 54, [])), (54, Sum.inl (21, 0, 0, 0, 55, [])), (55, Sum.inl (4, 0, 0, 0, 56, [])), (56, Sum.inl (12, 0, 0, 0, 57, [])), (57, Sum.inl (18, 8, 1, 0, 60, [])), (60, Sum.inl (0, 0, 0, 1, 61, [])), (61, Sum.inl (9, 0, 0, 0, 62, [])), (62, Sum.inl (19, 8, 1, 0, 65, [])), (65, Sum.inl (8, 2, 0, 1, 68, [])), (68, Sum.inl (15, 0, 0, 0, 21, [])), (71, Sum.inl (29, 0, 0, 0, 72, []))]
theorem Z_X8_lay (l : Launch) : ∀ q ∈ U_X8_lay, zTok l O_X8_lay F_X8_lay q := zU_ok rfl rfl rfl K_X8_lay (E_X8_lay l)
/-- the slippers as eC has them -/
def sOK (S : zS) : Prop := S 59 2 = 0 ∨ ∃ d : Nat, 1 ≤ d ∧ d ≤ 3 ∧ S 59 2 = (d : Int) ∧ S 59 1 = (((cod d).take 40).length : Int) ∧ ∀ i w : Nat, ((cod d).take 40)[i]? = some w → S 60 i = (w : Int)
def wp_X8_lay (a : List zV) (S : zS) (K : zR2 → zS → Prop) : Prop := match a with
  | [.inr (.inl c), .inl x] => ∃ d : Nat, (c = 59 ∧ x = (d : Int) ∧ 1 ≤ d ∧ d ≤ 3 ∧ sOK S) ∧ ∀ S', S' 59 2 = (d : Int) → S' 59 1 = (((cod d).take 40).length : Int) → wS S' 60 ((cod d).take 40) → (∀ c, c ≠ 59 → c ≠ 60 → S' c = S c) → K (.inl none) S'
  | _ => False
section
variable {l : Launch} {Q : zR2 → zS → Prop} {S0 : zS} {d : Nat}
theorem L_X8_lay (hk : ∀ S', S' 59 2 = (d : Int) → S' 59 1 = (((cod d).take 40).length : Int) → wS S' 60 ((cod d).take 40) → (∀ c, c ≠ 59 → c ≠ 60 → S' c = S0 c) → Q (.inl none) S') (f : Nat) : ∀ v S, v + f = 256 → S 59 2 = (d : Int) → S 59 1 = ((cw d v).length : Int) → (cw d v).length ≤ 40 → wS S 60 (cw d v) → (∀ c, c ≠ 59 → c ≠ 60 → S c = S0 c) → zGs l 2 0 0 F_X8_lay S 21 [(0, .inr (.inl 59)), (1, .inl (d : Int)), (2, .inl (v : Int))] [] Q := by
  induction f with
  | zero =>
    intro v S hv h1 h2 h40 hw hfr
    have : v = 256 := by omega
    subst this
    rw [← cod_cw] at h2 h40 hw
    have e : (cod d).take 40 = cod d := List.take_of_length_le h40
    refine zwq_ok (Z_X8_lay l) rfl [21] (fun _ _ _ _ _ _ h => h) 400 (Z_X8_lay l) ?_
    exact ⟨fun c => by omega, fun c => hk S h1 (by rw [e]; exact h2) (by rw [e]; exact hw) hfr⟩
  | succ f ih =>
    intro v S hv h1 h2 h40 hw hfr
    refine zwq_ok (Z_X8_lay l) rfl [21] (fun _ _ _ _ _ _ h => h) 400 (Z_X8_lay l) ?_
    refine ⟨fun c => ⟨fun c2 => ⟨v, d, cw d v, ⟨rfl, rfl, by omega, h1, h2, h40, hw, fun w hm => by have := cw_lt d v w hm; omega⟩, fun ha => ⟨fun c9 => absurd c9 (by decide), fun _ => ⟨(cw d v).length, ⟨h2, by omega⟩, by (first | omega | (simp only [zu, Nat.reduceBEq, Bool.false_and, Bool.true_and, Bool.and_true, Bool.and_false, cond_false, cond_true, beq_self_eq_true]; omega)), by omega, ?_⟩⟩, fun ha => ⟨fun _ => ⟨by omega, ?_⟩, fun c9 => absurd rfl c9⟩⟩, fun c2 => ?_⟩, fun c => by omega⟩
    · have hl : (cw d (v + 1)).length = (cw d v).length + 1 := by rw [cw_s1 ha, List.length_append]; rfl
      refine ih (v + 1) _ (by omega) h1 ?_ (by omega) ?_ (fun c h1 h2 => ?_)
      · show S 59 1 + 1 = _
        rw [hl, h2]
        rfl
      · rw [cw_s1 ha]
        have := hw.app (v := v)
        intro i w hi
        exact this i w hi
      · exact (zu_c h1).trans ((zu_c h2).trans (hfr c h1 h2))
    · rw [← cw_s0 ha] at h2 h40 hw
      exact ih (v + 1) S (by omega) h1 h2 h40 hw hfr
    · obtain ⟨r, hr⟩ := cw_pre d (f + 1) v
      rw [hv, ← cod_cw] at hr
      have e : (cod d).take 40 = cw d v := by
        rw [hr, show 40 = (cw d v).length by omega, List.take_left]
      exact hk S h1 (by rw [e]; exact h2) (by rw [e]; exact hw) hfr
end
theorem R_X8_lay (l : Launch) (a : List zV) (S : zS) (Q : zR2 → zS → Prop) (h : wp_X8_lay a S Q) : zRs l 2 0 0 yX8_lay (.code yX8_lay cX8_lay 3 (none)) a S Q := by
  unfold wp_X8_lay at h
  split at h
  · obtain ⟨d, ⟨rfl, rfl, hd1, hd3, hs⟩, hk⟩ := h
    refine zRs_of 8 (by decide) rfl rfl ?_; refine zwq_ok (Z_X8_lay l) rfl [21] (fun _ _ _ _ _ _ h => h) 400 (Z_X8_lay l) ?_
    refine ⟨fun c => ?_, fun c => ?_⟩
    · rcases hs with hs | ⟨d', h1, h2, h3, h4, h5⟩
      · omega
      · have : d' = d := by omega
        subst this
        exact hk S h3 h4 h5 (fun _ _ _ => rfl)
    · exact L_X8_lay (S0 := S) hk 256 0 _ (by omega) rfl rfl (Nat.zero_le 40) (fun i w hi => by cases hi) (fun c h1 h2 => (zu_c h1).trans (zu_c h1))
  · exact h.elim
