/-! numbers; feed -/
theorem zand_255 (y : Int) : zand y 255 = y % 256 := by
  have hb : (Int32.ofInt y &&& Int32.ofInt 255).toBitVec.toNat = (y % 256).toNat := by
    have e : (Int32.ofInt y &&& Int32.ofInt 255).toBitVec = BitVec.ofInt 32 y &&& BitVec.ofNat 32 255 := rfl
    rw [e, BitVec.toNat_and, BitVec.toNat_ofInt, BitVec.toNat_ofNat]
    have h := Nat.and_two_pow_sub_one_eq_mod (y % ((2 ^ 32 : Nat) : Int)).toNat 8
    rw [show 255 % 2 ^ 32 = 2 ^ 8 - 1 by decide, h]
    omega
  unfold zand
  rw [zbv hb (by omega)]
  omega
theorem zand_32767 (y : Int) : zand y 32767 = y % 32768 := by
  have hb : (Int32.ofInt y &&& Int32.ofInt 32767).toBitVec.toNat = (y % 32768).toNat := by
    have e : (Int32.ofInt y &&& Int32.ofInt 32767).toBitVec = BitVec.ofInt 32 y &&& BitVec.ofNat 32 32767 := rfl
    rw [e, BitVec.toNat_and, BitVec.toNat_ofInt, BitVec.toNat_ofNat]
    have h := Nat.and_two_pow_sub_one_eq_mod (y % ((2 ^ 32 : Nat) : Int)).toNat 15
    rw [show 32767 % 2 ^ 32 = 2 ^ 15 - 1 by decide, h]
    omega
  unfold zand
  rw [zbv hb (by omega)]
  omega
theorem zshr_d {x : Int} (hx : zir x) {k : Nat} (hk : k < 32) : zshr x (k : Int) = x / ((2 ^ k : Nat) : Int) := by
  unfold zshr
  rw [zof_nat]
  show ((Int32.ofInt x).toBitVec.sshiftRight ((nI k &&& 31).toBitVec.smod 32).toNat).toInt = _
  rw [s_l k hk, BitVec.toInt_sshiftRight, Int.shiftRight_eq_div_pow]
  show (Int32.ofInt x).toInt / _ = _
  rw [zto hx]
theorem zush_d {x : Int} : zand (zush x 16) 32767 = x / 65536 % 32768 := by
  rw [zand_32767]
  have hb : (zb2 8 (Int32.ofInt x) (Int32.ofInt 16)).toBitVec.toNat = (x % 4294967296).toNat / 65536 := by
    have e : (zb2 8 (Int32.ofInt x) (Int32.ofInt 16)).toBitVec = BitVec.ofInt 32 x >>> 16 := by
      show (Int32.ofInt x).toBitVec >>> (((nI 16).toUInt32 &&& Int32.toUInt32 31).toBitVec % 32) = _
      rw [BitVec.ushiftRight_eq', s_u 16 (by decide)]
      rfl
    rw [e, BitVec.toNat_ushiftRight, BitVec.toNat_ofInt, Nat.shiftRight_eq_div_pow]
    rfl
  unfold zush
  rw [zbv hb (by omega)]
  omega
theorem zi2b_d {y : Int} (hy : zir y) : zi2b y = sby (y % 256).toNat := by
  unfold zi2b
  rw [Int8.toInt_toInt32, Int32.toInt_toInt8, zto hy]
  unfold sby
  rw [Int.bmod_def]
  split <;> split <;> omega
theorem sby_le {b : Nat} (h : b < 256) : -128 ≤ sby b ∧ sby b < 128 := by
  unfold sby
  split <;> omega
/-- a byte of a number -/
def byN (x : Int) (m : Nat) : Nat := (x / (m : Int) % 256).toNat
theorem byN_lt (x : Int) (m : Nat) : byN x m < 256 := by unfold byN; omega
theorem byN_c {x : Int} (hx : zir x) {k : Nat} (hk : k < 32) : zi2b (zi2b (zshr x (k : Int))) = sby (byN x (2 ^ k)) := by
  have hr : zir (zshr x (k : Int)) := zir_to _
  have h1 := sby_le (b := (zshr x (k : Int) % 256).toNat) (by omega)
  rw [zi2b_d hr]
  rw [zi2b_d ⟨by omega, by omega⟩]
  have e : (sby (zshr x (k : Int) % 256).toNat % 256).toNat = (zshr x (k : Int) % 256).toNat := by
    unfold sby
    split <;> omega
  rw [e, zshr_d hx hk]
  rfl
theorem byN_m {x : Int} (hx : zir x) {k : Nat} (hk : k < 32) : zand (zshr x (k : Int)) 255 = (byN x (2 ^ k) : Int) := by
  rw [zand_255, zshr_d hx hk]
  unfold byN
  omega
/-- a byte more on the tape; four of them -/
def ap1 (T : zD) (b : Nat) : zD := zu (zu T 1 (T 0 0) b) 0 0 (T 0 0 + 1)
def apT (T : zD) (x : Int) : zD := ap1 (ap1 (ap1 (ap1 T (byN x (2 ^ 24))) (byN x (2 ^ 16))) (byN x (2 ^ 8))) (byN x (2 ^ 0))
def tC (S : zS) (T : zD) : Prop := S 1 1 = (T 0 0 : Int) ∧ ∀ k, k < T 0 0 → S 2 k = sby (T 1 k)
def tM (S : zS) (T : zD) : Prop := S 62 13 = (T 0 0 : Int) ∧ ∀ k, k < T 0 0 → S 70 k = (T 1 k : Int)
theorem ap1_1 (T : zD) (b k : Nat) : ap1 T b 1 k = if k = T 0 0 then b else T 1 k := by
  show zu T 1 (T 0 0) b 1 k = _
  exact zu_if
theorem ap1_c (T : zD) (b : Nat) {c : Nat} (h : 2 ≤ c) : ap1 T b c = T c := funext fun j => (zuD_n (Or.inl (by omega))).trans (zuD_n (Or.inl (by omega)))
theorem apT_c (T : zD) (x : Int) {c : Nat} (h : 2 ≤ c) : apT T x c = T c := (ap1_c _ _ h).trans ((ap1_c _ _ h).trans ((ap1_c _ _ h).trans (ap1_c _ _ h)))
theorem apT_0 (T : zD) (x : Int) : apT T x 0 0 = T 0 0 + 4 := rfl
theorem ap1_lt {T : zD} {b : Nat} (h : ∀ k, T 1 k < 256) (hb : b < 256) : ∀ k, ap1 T b 1 k < 256 := by
  intro k
  rw [ap1_1]
  split
  · exact hb
  · exact h k
theorem apT_lt {T : zD} {x : Int} (h : ∀ k, T 1 k < 256) : ∀ k, apT T x 1 k < 256 := ap1_lt (ap1_lt (ap1_lt (ap1_lt h (byN_lt _ _)) (byN_lt _ _)) (byN_lt _ _)) (byN_lt _ _)
def B_X9_append : List (Nat × zC) := []
def O_X9_append : zO := fun j a S K => match j with
  | _ => False
theorem E_X9_append (l : Launch) : ∀ q ∈ B_X9_append, zcok l O_X9_append F_X9_append q.1 q.2 := fun _ h => by cases h
def U_X9_append : List (Nat × zE) := [(0, Sum.inl (0, 0, 0, 24, 2, [])), (2, Sum.inl (5, 2, 0, 0, 3, [])), (3, Sum.inl (2, 2, 0, 0, 4, [])), (4, Sum.inl (17, 1, 46, 0, 7, [])), (7, Sum.inl (4, 0, 0, 0, 8, [])), (8, Sum.inl (18, 9, 1, 0, 11, [])), (11, Sum.inl (0, 0, 0, 700, 14, [])), (14, Sum.inl (16, 1, 17, 0, 46, [])), (17, Sum.inl (4, 0, 0, 0, 18, [])), (18, Sum.inl (18, 9, 0, 0, 21, [])), (21, Sum.inl (4, 0, 0, 0, 22, [])), (22, Sum.inl (18, 9, 1, 0, 25, [])), (25, Sum.inl (2, 1, 0, 0, 26, [])), (26, Sum.inl (2, 2, 0, 0, 27, [])), (27, Sum.inl (9, 7, 0, 0, 28, [])), (28, Sum.inl (10, 1, 0, 0, 29, [])), (29, Sum.inl (23, 0, 0, 0, 30, [])), (30, Sum.inl (4, 0, 0, 0, 31, [])), (31, Sum.inl (12, 0, 0, 0, 32, [])), (32, Sum.inl (18, 9, 1, 0, 35, [])), (35, Sum.inl (0, 0, 0, 1, 36, [])), (36, Sum.inl (9, 0, 0, 0, 37, [])), (37, Sum.inl (19, 9, 1, 0, 40, [])), (40, Sum.inl (8, 2, 0, (-8), 43, [])), (43, Sum.inl (15, 0, 0, 0, 3, [])), (46, Sum.inl (29, 0, 0, 0, 47, []))]
theorem Z_X9_append (l : Launch) : ∀ q ∈ U_X9_append, zTok l O_X9_append F_X9_append q := zU_ok rfl rfl rfl K_X9_append (E_X9_append l)
def B_X12_lays : List (Nat × zC) := []
def O_X12_lays : zO := fun j a S K => match j with
  | _ => False
theorem E_X12_lays (l : Launch) : ∀ q ∈ B_X12_lays, zcok l O_X12_lays F_X12_lays q.1 q.2 := fun _ h => by cases h
def U_X12_lays : List (Nat × zE) := [(0, Sum.inl (0, 0, 0, 24, 2, [])), (2, Sum.inl (5, 2, 0, 0, 3, [])), (3, Sum.inl (2, 2, 0, 0, 4, [])), (4, Sum.inl (17, 1, 39, 0, 7, [])), (7, Sum.inl (4, 0, 0, 0, 8, [])), (8, Sum.inl (18, 12, 12, 0, 11, [])), (11, Sum.inl (4, 0, 0, 0, 12, [])), (12, Sum.inl (18, 12, 13, 0, 15, [])), (15, Sum.inl (2, 1, 0, 0, 16, [])), (16, Sum.inl (2, 2, 0, 0, 17, [])), (17, Sum.inl (9, 7, 0, 0, 18, [])), (18, Sum.inl (0, 0, 0, 255, 21, [])), (21, Sum.inl (9, 3, 0, 0, 22, [])), (22, Sum.inl (21, 0, 0, 0, 23, [])), (23, Sum.inl (4, 0, 0, 0, 24, [])), (24, Sum.inl (12, 0, 0, 0, 25, [])), (25, Sum.inl (18, 12, 13, 0, 28, [])), (28, Sum.inl (0, 0, 0, 1, 29, [])), (29, Sum.inl (9, 0, 0, 0, 30, [])), (30, Sum.inl (19, 12, 13, 0, 33, [])), (33, Sum.inl (8, 2, 0, (-8), 36, [])), (36, Sum.inl (15, 0, 0, 0, 3, [])), (39, Sum.inl (29, 0, 0, 0, 40, []))]
theorem Z_X12_lays (l : Launch) : ∀ q ∈ U_X12_lays, zTok l O_X12_lays F_X12_lays q := zU_ok rfl rfl rfl K_X12_lays (E_X12_lays l)
def wp_X9_append (a : List zV) (S : zS) (K : zR2 → zS → Prop) : Prop := match a with
  | [.inr (.inl c), .inl x] => ∃ T : zD, (c = 1 ∧ tC S T ∧ T 0 0 + 4 ≤ 700) ∧ ∀ S', tC S' (apT T x) → (∀ c, c ≠ 1 → c ≠ 2 → S' c = S c) → K (.inl none) S'
  | _ => False
def wp_X12_lays (a : List zV) (S : zS) (K : zR2 → zS → Prop) : Prop := match a with
  | [.inr (.inl c), .inl x] => ∃ T : zD, (c = 62 ∧ tM S T ∧ T 0 0 + 4 ≤ 700) ∧ ∀ S', tM S' (apT T x) → (∀ c j, c ≠ 70 → (c ≠ 62 ∨ j ≠ 13) → S' c j = S c j) → K (.inl none) S'
  | _ => False
section
variable {l : Launch} {Q : zR2 → zS → Prop} {x : Int} {S : zS} {T : zD}
theorem L_X9_append (hx : zir x) (s : Nat) (hs : s < 32) (t : tC S T) (h7 : T 0 0 < 700) (k : ∀ S', tC S' (ap1 T (byN x (2 ^ s))) → (∀ c, c ≠ 1 → c ≠ 2 → S' c = S c) → zGs l 0 0 0 F_X9_append S' 3 [(0, .inr (.inl 1)), (1, .inl x), (2, .inl ((s : Int) + -8))] [] Q) : zGs l 0 0 0 F_X9_append S 3 [(0, .inr (.inl 1)), (1, .inl x), (2, .inl (s : Int))] [] Q := by
  obtain ⟨t1, t2⟩ := t
  refine zwq_ok (Z_X9_append l) rfl [3] (fun _ _ _ _ _ _ h => h) 400 (Z_X9_append l) ?_
  refine ⟨fun c => by omega, fun c => ⟨fun c2 => ⟨T 0 0, ⟨t1, by omega⟩, by (first | omega | (simp only [zu, Nat.reduceBEq, Bool.false_and, Bool.true_and, Bool.and_true, Bool.and_false, cond_false, cond_true, beq_self_eq_true]; omega)), by omega, ?_⟩, fun c2 => by omega⟩⟩
  refine k _ ⟨?_, fun j hj => ?_⟩ (fun c h1 h2 => (zu_c h1).trans (zu_c h2))
  · show S 1 1 + 1 = ((T 0 0 + 1 : Nat) : Int)
    omega
  · have hj : j < T 0 0 + 1 := hj
    show zu S 2 (T 0 0) (zi2b (zi2b (zshr x (s : Int)))) 2 j = _
    rw [ap1_1, zu_if]
    by_cases e : j = T 0 0
    · rw [if_pos e, if_pos e]; exact byN_c hx hs
    · rw [if_neg e, if_neg e]; exact t2 j (by omega)
theorem L_X12_lays (hx : zir x) (s : Nat) (hs : s < 32) (t : tM S T) (h7 : T 0 0 < 700) (k : ∀ S', tM S' (ap1 T (byN x (2 ^ s))) → (∀ c j, c ≠ 70 → (c ≠ 62 ∨ j ≠ 13) → S' c j = S c j) → zGs l 0 0 0 F_X12_lays S' 3 [(0, .inr (.inl 62)), (1, .inl x), (2, .inl ((s : Int) + -8))] [] Q) : zGs l 0 0 0 F_X12_lays S 3 [(0, .inr (.inl 62)), (1, .inl x), (2, .inl (s : Int))] [] Q := by
  obtain ⟨t1, t2⟩ := t
  refine zwq_ok (Z_X12_lays l) rfl [3] (fun _ _ _ _ _ _ h => h) 400 (Z_X12_lays l) ?_
  refine ⟨fun c => by omega, fun c => ⟨T 0 0, ⟨t1, by omega⟩, by (first | omega | (simp only [zu, Nat.reduceBEq, Bool.false_and, Bool.true_and, Bool.and_true, Bool.and_false, cond_false, cond_true, beq_self_eq_true]; omega)), by omega, ?_⟩⟩
  refine k _ ⟨?_, fun j hj => ?_⟩ (fun c j h1 h2 => (zuN h2).trans (zuN (Or.inl h1)))
  · show S 62 13 + 1 = ((T 0 0 + 1 : Nat) : Int)
    omega
  · have hj : j < T 0 0 + 1 := hj
    show zu S 70 (T 0 0) (zand (zshr x (s : Int)) 255) 70 j = _
    rw [ap1_1, zu_if]
    by_cases e : j = T 0 0
    · rw [if_pos e, if_pos e]; exact byN_m hx hs
    · rw [if_neg e, if_neg e]; exact t2 j (by omega)
end
theorem R_X9_append (l : Launch) (a : List zV) (S : zS) (Q : zR2 → zS → Prop) (h : wp_X9_append a S Q) : zRs l 0 0 0 yX9_append (.code yX9_append cX9_append 3 (none)) a S Q := by
  unfold wp_X9_append at h
  split at h
  · rename_i c x
    obtain ⟨T, ⟨rfl, t, h7⟩, h⟩ := h
    refine zRs.rng (fun _ hr => ?_)
    have hx : zir x := hr (.inl x) (by simp)
    refine zRs_of 9 (by decide) rfl rfl ?_; refine zwq_ok (Z_X9_append l) rfl [3] (fun _ _ _ _ _ _ h => h) 400 (Z_X9_append l) ?_
    refine L_X9_append hx 24 (by decide) t (by omega) (fun S1 t1 f1 => ?_)
    refine L_X9_append hx 16 (by decide) t1 (by show T 0 0 + 1 < 700; omega) (fun S2 t2 f2 => ?_)
    refine L_X9_append hx 8 (by decide) t2 (by show T 0 0 + 1 + 1 < 700; omega) (fun S3 t3 f3 => ?_)
    refine L_X9_append hx 0 (by decide) t3 (by show T 0 0 + 1 + 1 + 1 < 700; omega) (fun S4 t4 f4 => ?_)
    refine zwq_ok (Z_X9_append l) rfl [3] (fun _ _ _ _ _ _ h => h) 400 (Z_X9_append l) ?_
    exact ⟨fun _ => h S4 t4 (fun c a b => (f4 c a b).trans ((f3 c a b).trans ((f2 c a b).trans (f1 c a b)))), fun c9 => absurd (by decide) c9⟩
  · exact h.elim
theorem R_X12_lays (l : Launch) (a : List zV) (S : zS) (Q : zR2 → zS → Prop) (h : wp_X12_lays a S Q) : zRs l 0 0 0 yX12_lays (.code yX12_lays cX12_lays 3 (none)) a S Q := by
  unfold wp_X12_lays at h
  split at h
  · rename_i c x
    obtain ⟨T, ⟨rfl, t, h7⟩, h⟩ := h
    refine zRs.rng (fun _ hr => ?_)
    have hx : zir x := hr (.inl x) (by simp)
    refine zRs_of 12 (by decide) rfl rfl ?_; refine zwq_ok (Z_X12_lays l) rfl [3] (fun _ _ _ _ _ _ h => h) 400 (Z_X12_lays l) ?_
    refine L_X12_lays hx 24 (by decide) t (by omega) (fun S1 t1 f1 => ?_)
    refine L_X12_lays hx 16 (by decide) t1 (by show T 0 0 + 1 < 700; omega) (fun S2 t2 f2 => ?_)
    refine L_X12_lays hx 8 (by decide) t2 (by show T 0 0 + 1 + 1 < 700; omega) (fun S3 t3 f3 => ?_)
    refine L_X12_lays hx 0 (by decide) t3 (by show T 0 0 + 1 + 1 + 1 < 700; omega) (fun S4 t4 f4 => ?_)
    refine zwq_ok (Z_X12_lays l) rfl [3] (fun _ _ _ _ _ _ h => h) 400 (Z_X12_lays l) ?_
    exact ⟨fun _ => h S4 t4 (fun c j a b => (f4 c j a b).trans ((f3 c j a b).trans ((f2 c j a b).trans (f1 c j a b)))), fun c9 => absurd (by decide) c9⟩
  · exact h.elim
def B_X9_hasRoomFor : List (Nat × zC) := []
def O_X9_hasRoomFor : zO := fun j a S K => match j with
  | _ => False
theorem E_X9_hasRoomFor (l : Launch) : ∀ q ∈ B_X9_hasRoomFor, zcok l O_X9_hasRoomFor F_X9_hasRoomFor q.1 q.2 := fun _ h => by cases h
def U_X9_hasRoomFor : List (Nat × zE) := [(0, Sum.inl (4, 0, 0, 0, 1, [])), (1, Sum.inl (18, 9, 1, 0, 4, [])), (4, Sum.inl (2, 1, 0, 0, 5, [])), (5, Sum.inl (9, 0, 0, 0, 6, [])), (6, Sum.inl (0, 0, 0, 700, 9, [])), (9, Sum.inl (16, 2, 16, 0, 12, [])), (12, Sum.inl (0, 0, 0, 1, 13, [])), (13, Sum.inl (15, 0, 0, 0, 17, [])), (16, Sum.inl (0, 0, 0, 0, 17, [])), (17, Sum.inl (27, 0, 0, 0, 18, []))]
theorem Z_X9_hasRoomFor (l : Launch) : ∀ q ∈ U_X9_hasRoomFor, zTok l O_X9_hasRoomFor F_X9_hasRoomFor q := zU_ok rfl rfl rfl K_X9_hasRoomFor (E_X9_hasRoomFor l)
def wp_X9_hasRoomFor (a : List zV) (S : zS) (K : zR2 → zS → Prop) : Prop := zif (Nat.ble (zsum a) 2) (zwq 0 F_X9_hasRoomFor U_X9_hasRoomFor O_X9_hasRoomFor [] (fun _ _ _ _ _ _ => False) K 11 U_X9_hasRoomFor 0 0 S 0 (zar 0 a) [])
theorem R_X9_hasRoomFor (l : Launch) (a : List zV) (S : zS) (Q : zR2 → zS → Prop) (h : wp_X9_hasRoomFor a S Q) : zRs l 0 0 0 yX9_hasRoomFor (.code yX9_hasRoomFor cX9_hasRoomFor 2 (some .boolean)) a S Q := by
  obtain ⟨h1, h⟩ := zif_ok h
  exact zRs_of 9 (by decide) rfl h1 (zwq_ok (Z_X9_hasRoomFor l) rfl [] (fun _ _ _ _ _ _ h => h.elim) 11 (Z_X9_hasRoomFor l) h)
def B_X11_feed : List (Nat × zC) := [(6, (0, 0, 1, 0, 0, 0, 9)), (19, (0, 1, 1, 0, 0, 0, 9)), (27, (0, 1, 1, 0, 0, 0, 9)), (35, (0, 1, 1, 0, 0, 0, 9)), (44, (0, 1, 1, 0, 0, 0, 9)), (53, (0, 1, 1, 0, 0, 0, 9))]
def O_X11_feed : zO := fun j a S K => match j with
  | 0 => wp_X9_hasRoomFor a S K
  | 1 => wp_X9_append a S K
  | _ => False
theorem E_X11_feed (l : Launch) : ∀ q ∈ B_X11_feed, zcok l O_X11_feed F_X11_feed q.1 q.2 := List.forall_mem_cons.mpr ⟨⟨116, yX9_hasRoomFor, cX9_hasRoomFor, 2, some .boolean, by decide +kernel, C_11_116, W_X9_hasRoomFor, I_X9_hasRoomFor, S_X9_hasRoomFor, rfl, rfl, R_X9_hasRoomFor l⟩, List.forall_mem_cons.mpr ⟨⟨120, yX9_append, cX9_append, 3, none, by decide +kernel, C_11_120, W_X9_append, I_X9_append, S_X9_append, rfl, rfl, R_X9_append l⟩, List.forall_mem_cons.mpr ⟨⟨120, yX9_append, cX9_append, 3, none, by decide +kernel, C_11_120, W_X9_append, I_X9_append, S_X9_append, rfl, rfl, R_X9_append l⟩, List.forall_mem_cons.mpr ⟨⟨120, yX9_append, cX9_append, 3, none, by decide +kernel, C_11_120, W_X9_append, I_X9_append, S_X9_append, rfl, rfl, R_X9_append l⟩, List.forall_mem_cons.mpr ⟨⟨120, yX9_append, cX9_append, 3, none, by decide +kernel, C_11_120, W_X9_append, I_X9_append, S_X9_append, rfl, rfl, R_X9_append l⟩, List.forall_mem_cons.mpr ⟨⟨120, yX9_append, cX9_append, 3, none, by decide +kernel, C_11_120, W_X9_append, I_X9_append, S_X9_append, rfl, rfl, R_X9_append l⟩, fun _ h => by cases h⟩⟩⟩⟩⟩⟩
def U_X11_feed : List (Nat × zE) := [(0, Sum.inl (4, 0, 0, 0, 1, [])), (1, Sum.inl (18, 11, 0, 0, 4, [])), (4, Sum.inl (0, 0, 0, 20, 6, [])), (6, Sum.inr (0, 0, 1, 0, 0, 0, 9)), (9, Sum.inl (17, 0, 12, 0, 14, [])), (12, Sum.inl (0, 0, 0, (-1), 13, [])), (13, Sum.inl (27, 0, 0, 0, 14, [])), (14, Sum.inl (4, 0, 0, 0, 15, [])), (15, Sum.inl (18, 11, 0, 0, 18, [])), (18, Sum.inl (2, 1, 0, 0, 19, [])), (19, Sum.inr (0, 1, 1, 0, 0, 0, 9)), (22, Sum.inl (4, 0, 0, 0, 23, [])), (23, Sum.inl (18, 11, 0, 0, 26, [])), (26, Sum.inl (2, 2, 0, 0, 27, [])), (27, Sum.inr (0, 1, 1, 0, 0, 0, 9)), (30, Sum.inl (4, 0, 0, 0, 31, [])), (31, Sum.inl (18, 11, 0, 0, 34, [])), (34, Sum.inl (2, 3, 0, 0, 35, [])), (35, Sum.inr (0, 1, 1, 0, 0, 0, 9)), (38, Sum.inl (4, 0, 0, 0, 39, [])), (39, Sum.inl (18, 11, 0, 0, 42, [])), (42, Sum.inl (2, 4, 0, 0, 44, [])), (44, Sum.inr (0, 1, 1, 0, 0, 0, 9)), (47, Sum.inl (4, 0, 0, 0, 48, [])), (48, Sum.inl (18, 11, 0, 0, 51, [])), (51, Sum.inl (2, 5, 0, 0, 53, [])), (53, Sum.inr (0, 1, 1, 0, 0, 0, 9)), (56, Sum.inl (4, 0, 0, 0, 57, [])), (57, Sum.inl (18, 11, 0, 0, 60, [])), (60, Sum.inl (18, 9, 1, 0, 63, [])), (63, Sum.inl (27, 0, 0, 0, 64, []))]
theorem Z_X11_feed (l : Launch) : ∀ q ∈ U_X11_feed, zTok l O_X11_feed F_X11_feed q := zU_ok rfl rfl rfl K_X11_feed (E_X11_feed l)
def wp_X11_feed (a : List zV) (S : zS) (K : zR2 → zS → Prop) : Prop := zif (Nat.ble (zsum a) 6) (zwq 1 F_X11_feed U_X11_feed O_X11_feed [] (fun _ _ _ _ _ _ => False) K 32 U_X11_feed 0 0 S 0 (zar 0 a) [])
theorem R_X11_feed (l : Launch) (a : List zV) (S : zS) (Q : zR2 → zS → Prop) (h : wp_X11_feed a S Q) : zRs l 1 0 0 yX11_feed (.code yX11_feed cX11_feed 6 (some .int)) a S Q := by
  obtain ⟨h1, h⟩ := zif_ok h
  exact zRs_of 11 (by decide) rfl h1 (zwq_ok (Z_X11_feed l) rfl [] (fun _ _ _ _ _ _ h => h.elim) 32 (Z_X11_feed l) h)
def B_X12_feed : List (Nat × zC) := [(22, (0, 0, 1, 0, 0, 0, 12)), (27, (0, 0, 1, 0, 0, 0, 12)), (32, (0, 0, 1, 0, 0, 0, 12)), (38, (0, 0, 1, 0, 0, 0, 12)), (44, (0, 0, 1, 0, 0, 0, 12))]
def O_X12_feed : zO := fun j a S K => match j with
  | 0 => wp_X12_lays a S K
  | _ => False
theorem E_X12_feed (l : Launch) : ∀ q ∈ B_X12_feed, zcok l O_X12_feed F_X12_feed q.1 q.2 := List.forall_mem_cons.mpr ⟨⟨140, yX12_lays, cX12_lays, 3, none, by decide +kernel, C_12_140, W_X12_lays, I_X12_lays, S_X12_lays, rfl, rfl, R_X12_lays l⟩, List.forall_mem_cons.mpr ⟨⟨140, yX12_lays, cX12_lays, 3, none, by decide +kernel, C_12_140, W_X12_lays, I_X12_lays, S_X12_lays, rfl, rfl, R_X12_lays l⟩, List.forall_mem_cons.mpr ⟨⟨140, yX12_lays, cX12_lays, 3, none, by decide +kernel, C_12_140, W_X12_lays, I_X12_lays, S_X12_lays, rfl, rfl, R_X12_lays l⟩, List.forall_mem_cons.mpr ⟨⟨140, yX12_lays, cX12_lays, 3, none, by decide +kernel, C_12_140, W_X12_lays, I_X12_lays, S_X12_lays, rfl, rfl, R_X12_lays l⟩, List.forall_mem_cons.mpr ⟨⟨140, yX12_lays, cX12_lays, 3, none, by decide +kernel, C_12_140, W_X12_lays, I_X12_lays, S_X12_lays, rfl, rfl, R_X12_lays l⟩, fun _ h => by cases h⟩⟩⟩⟩⟩
def U_X12_feed : List (Nat × zE) := [(0, Sum.inl (4, 0, 0, 0, 1, [])), (1, Sum.inl (0, 0, 0, 0, 2, [])), (2, Sum.inl (19, 12, 0, 0, 5, [])), (5, Sum.inl (4, 0, 0, 0, 6, [])), (6, Sum.inl (18, 12, 13, 0, 9, [])), (9, Sum.inl (0, 0, 0, 20, 11, [])), (11, Sum.inl (9, 0, 0, 0, 12, [])), (12, Sum.inl (0, 0, 0, 700, 15, [])), (15, Sum.inl (16, 2, 18, 0, 20, [])), (18, Sum.inl (0, 0, 0, (-1), 19, [])), (19, Sum.inl (27, 0, 0, 0, 20, [])), (20, Sum.inl (4, 0, 0, 0, 21, [])), (21, Sum.inl (2, 1, 0, 0, 22, [])), (22, Sum.inr (0, 0, 1, 0, 0, 0, 12)), (25, Sum.inl (4, 0, 0, 0, 26, [])), (26, Sum.inl (2, 2, 0, 0, 27, [])), (27, Sum.inr (0, 0, 1, 0, 0, 0, 12)), (30, Sum.inl (4, 0, 0, 0, 31, [])), (31, Sum.inl (2, 3, 0, 0, 32, [])), (32, Sum.inr (0, 0, 1, 0, 0, 0, 12)), (35, Sum.inl (4, 0, 0, 0, 36, [])), (36, Sum.inl (2, 4, 0, 0, 38, [])), (38, Sum.inr (0, 0, 1, 0, 0, 0, 12)), (41, Sum.inl (4, 0, 0, 0, 42, [])), (42, Sum.inl (2, 5, 0, 0, 44, [])), (44, Sum.inr (0, 0, 1, 0, 0, 0, 12)), (47, Sum.inl (4, 0, 0, 0, 48, [])), (48, Sum.inl (18, 12, 13, 0, 51, [])), (51, Sum.inl (27, 0, 0, 0, 52, []))]
theorem Z_X12_feed (l : Launch) : ∀ q ∈ U_X12_feed, zTok l O_X12_feed F_X12_feed q := zU_ok rfl rfl rfl K_X12_feed (E_X12_feed l)
def wp_X12_feed (a : List zV) (S : zS) (K : zR2 → zS → Prop) : Prop := zif (Nat.ble (zsum a) 6) (zwq 1 F_X12_feed U_X12_feed O_X12_feed [] (fun _ _ _ _ _ _ => False) K 30 U_X12_feed 0 0 S 0 (zar 0 a) [])
theorem R_X12_feed (l : Launch) (a : List zV) (S : zS) (Q : zR2 → zS → Prop) (h : wp_X12_feed a S Q) : zRs l 1 0 0 yX12_feed (.code yX12_feed cX12_feed 6 (some .int)) a S Q := by
  obtain ⟨h1, h⟩ := zif_ok h
  exact zRs_of 12 (by decide) rfl h1 (zwq_ok (Z_X12_feed l) rfl [] (fun _ _ _ _ _ _ h => h.elim) 30 (Z_X12_feed l) h)
def feedA (T : zD) : Nat × Int := if T 0 0 + 20 ≤ 700 then (0, (T 0 0 : Int) + 20) else (0, -1)
def feedT (T : zD) (x y z u w : Int) : zD := if T 0 0 + 20 ≤ 700 then apT (apT (apT (apT (apT T x) y) z) u) w else T
section
variable {S S' : zS} {D E T T' : zD} {N : Nat} {K : zR2 → zS → Prop} {x y z u w : Int}
theorem x_feed (hX : xOK D E T N) (hN : N < 99999) : xOK D E (feedT T x y z u w) (N + 1) := by
  unfold feedT
  by_cases c : T 0 0 + 20 ≤ 700
  · rw [if_pos c]
    have e : ∀ c, 2 ≤ c → apT (apT (apT (apT (apT T x) y) z) u) w c = T c := fun c h => (apT_c _ _ h).trans ((apT_c _ _ h).trans ((apT_c _ _ h).trans ((apT_c _ _ h).trans (apT_c _ _ h))))
    unfold xOK
    rw [e 2 (by omega), e 3 (by omega), e 4 (by omega), e 5 (by omega), e 8 (by omega)]
    exact ⟨hX.now, (by show T 0 0 + 4 + 4 + 4 + 4 + 4 ≤ 700; omega), (apT_lt (apT_lt (apT_lt (apT_lt (apT_lt hX.bytes))))), hX.fault, (fun i => Nat.le_succ_of_le (hX.refused i)), hX.isKept, hX.kept, hX.path, hX.lends, (by omega)⟩
  · rw [if_neg c]; exact hX.up hN
theorem eC.tp (h : eC S D E T) (hf : ∀ c, c ≠ 1 → c ≠ 2 → S' c = S c) (hT : ∀ c, 2 ≤ c → T' c = T c) (ht : tC S' T') : eC S' D E T' := by
  have hn := h.now.fr (S' := S') (fun c h1 h2 => hf c (by omega) (by omega)) (fun c h1 h2 => hf c (by omega) (by omega))
  have hk := h.kept
  unfold kOK at hk
  have hk2 : T 4 0 = 1 → kOK S' E := by
    unfold kOK
    rw [hf 28 (by omega) (by omega), hf 29 (by omega) (by omega), hf 30 (by omega) (by omega), hf 31 (by omega) (by omega), hf 32 (by omega) (by omega), hf 33 (by omega) (by omega), hf 34 (by omega) (by omega), hf 35 (by omega) (by omega)]
    exact hk
  unfold eC at h ⊢
  rw [hf 0 (by omega) (by omega), hf 61 (by omega) (by omega), hf 42 (by omega) (by omega), hf 45 (by omega) (by omega), hf 46 (by omega) (by omega), hf 52 (by omega) (by omega), hf 58 (by omega) (by omega), hf 59 (by omega) (by omega), hf 60 (by omega) (by omega), hT 2 (by omega), hT 3 (by omega), hT 4 (by omega), hT 5 (by omega), hT 6 (by omega), hT 7 (by omega), hT 8 (by omega), hT 9 (by omega)]
  exact ⟨hn, ht.1, ht.2, h.2.2.2.1, h.2.2.2.2.1, h.2.2.2.2.2.1, hk2, h.2.2.2.2.2.2.2⟩
theorem eM.tp (h : eM S D E T) (hf : ∀ c j, 62 ≤ c → c < 102 → c ≠ 70 → (c ≠ 62 ∨ (j ≠ 13 ∧ j ≠ 0)) → S' c j = S c j) (hT : ∀ c, 2 ≤ c → T' c = T c) (ht : tM S' T') : eM S' D E T' := by
  have hc : ∀ c, 63 ≤ c → c < 102 → c ≠ 70 → S' c = S c := fun c a1 a2 a3 => funext fun j => hf c j (by omega) a2 a3 (Or.inl (by omega))
  have hj : ∀ j, j ≠ 13 → j ≠ 0 → S' 62 j = S 62 j := fun j h1 h2 => hf 62 j (by omega) (by omega) (by omega) (Or.inr ⟨h1, h2⟩)
  have hn := h.now
  unfold mOK at hn
  have hn2 : mOK S' D := by
    unfold mOK
    rw [hj 1 (by omega) (by omega), hj 2 (by omega) (by omega), hj 3 (by omega) (by omega), hj 4 (by omega) (by omega), hj 36 (by omega) (by omega), hj 40 (by omega) (by omega), hj 41 (by omega) (by omega), hc 63 (by omega) (by omega) (by omega), hc 64 (by omega) (by omega) (by omega), hc 65 (by omega) (by omega) (by omega), hc 66 (by omega) (by omega) (by omega), hc 68 (by omega) (by omega) (by omega), hc 69 (by omega) (by omega) (by omega), hc 79 (by omega) (by omega) (by omega), hc 80 (by omega) (by omega) (by omega), hc 81 (by omega) (by omega) (by omega), hc 82 (by omega) (by omega) (by omega)]
    exact hn
  have hk := h.image
  unfold iOK at hk
  have hk2 : T 4 0 = 1 → iOK S' E := by
    unfold iOK
    rw [hc 97 (by omega) (by omega) (by omega), hc 98 (by omega) (by omega) (by omega), hc 99 (by omega) (by omega) (by omega), hc 100 (by omega) (by omega) (by omega), hc 101 (by omega) (by omega) (by omega)]
    exact hk
  unfold eM at h ⊢
  rw [hj 15 (by omega) (by omega), hj 63 (by omega) (by omega), hj 52 (by omega) (by omega), hj 56 (by omega) (by omega), hc 71 (by omega) (by omega) (by omega), hc 89 (by omega) (by omega) (by omega), hc 90 (by omega) (by omega) (by omega), hc 95 (by omega) (by omega) (by omega), hT 2 (by omega), hT 3 (by omega), hT 4 (by omega), hT 5 (by omega), hT 6 (by omega), hT 7 (by omega), hT 8 (by omega), hT 9 (by omega)]
  exact ⟨hn2, ht.1, ht.2, h.2.2.2.1, h.2.2.2.2.1, h.2.2.2.2.2.1, hk2, h.2.2.2.2.2.2.2⟩
theorem c_feed (hC : eC S D E T) (hX : xOK D E T N) (h : cRes S D E (feedT T x y z u w) (cr1 (feedA T)) K) : wp_X11_feed [.inr (.inl 0), .inl x, .inl y, .inl z, .inl u, .inl w] S K := by
  have e1 := hC.tape
  have e2 := hX.tape
  unfold feedA feedT at h
  by_cases c : T 0 0 + 20 ≤ 700
  · rw [if_pos c, if_pos c] at h
    refine ⟨by omega, fun c9 => by omega, fun _ => ⟨Or.inr rfl, fun c9 => absurd c9 (by decide), fun _ => ?_⟩⟩
    refine ⟨T, ⟨rfl, ⟨hC.tape, hC.bytes⟩, by omega⟩, fun S1 t1 f1 => ?_⟩
    refine ⟨_, ⟨rfl, t1, by show T 0 0 + 4 + 4 ≤ 700; omega⟩, fun S2 t2 f2 => ?_⟩
    refine ⟨_, ⟨rfl, t2, by show T 0 0 + 4 + 4 + 4 ≤ 700; omega⟩, fun S3 t3 f3 => ?_⟩
    refine ⟨_, ⟨rfl, t3, by show T 0 0 + 4 + 4 + 4 + 4 ≤ 700; omega⟩, fun S4 t4 f4 => ?_⟩
    refine ⟨_, ⟨rfl, t4, by show T 0 0 + 4 + 4 + 4 + 4 + 4 ≤ 700; omega⟩, fun S5 t5 f5 => ?_⟩
    have hf : ∀ c, c ≠ 1 → c ≠ 2 → S5 c = S c := fun c a b => (f5 c a b).trans ((f4 c a b).trans ((f3 c a b).trans ((f2 c a b).trans (f1 c a b))))
    have e5 : S5 1 1 = (T 0 0 : Int) + 20 := t5.1
    have e : ∀ c, 2 ≤ c → apT (apT (apT (apT (apT T x) y) z) u) w c = T c := fun c h => (apT_c _ _ h).trans ((apT_c _ _ h).trans ((apT_c _ _ h).trans ((apT_c _ _ h).trans (apT_c _ _ h))))
    have h : cRes S D E _ (.inl (some (.inl ((T 0 0 : Int) + 20)))) K := h
    rw [← e5] at h
    exact h S5 (hC.tp hf e t5) (fun c hc => hf c (by omega) (by omega))
  · rw [if_neg c, if_neg c] at h
    have h := cGood hC h
    refine ⟨by omega, fun _ => ⟨Or.inl rfl, fun _ => h, fun c9 => absurd rfl c9⟩, fun c9 => by omega⟩
theorem m_feed (hM : eM S D E T) (hX : xOK D E T N) (h : mRes S D E (feedT T x y z u w) (feedA T) K) : wp_X12_feed [.inr (.inl 62), .inl x, .inl y, .inl z, .inl u, .inl w] S K := by
  have e1 : zu S 62 0 0 62 13 = (T 0 0 : Int) := hM.tape
  have e2 := hX.tape
  unfold feedA feedT at h
  by_cases c : T 0 0 + 20 ≤ 700
  · rw [if_pos c, if_pos c] at h
    refine ⟨by omega, fun c9 => by omega, fun _ => ?_⟩
    refine ⟨T, ⟨rfl, ⟨hM.tape, hM.bytes⟩, by omega⟩, fun S1 t1 f1 => ?_⟩
    refine ⟨_, ⟨rfl, t1, by show T 0 0 + 4 + 4 ≤ 700; omega⟩, fun S2 t2 f2 => ?_⟩
    refine ⟨_, ⟨rfl, t2, by show T 0 0 + 4 + 4 + 4 ≤ 700; omega⟩, fun S3 t3 f3 => ?_⟩
    refine ⟨_, ⟨rfl, t3, by show T 0 0 + 4 + 4 + 4 + 4 ≤ 700; omega⟩, fun S4 t4 f4 => ?_⟩
    refine ⟨_, ⟨rfl, t4, by show T 0 0 + 4 + 4 + 4 + 4 + 4 ≤ 700; omega⟩, fun S5 t5 f5 => ?_⟩
    have hf : ∀ c j, c ≠ 70 → (c ≠ 62 ∨ j ≠ 13) → S5 c j = zu S 62 0 0 c j := fun c j a b => (f5 c j a b).trans ((f4 c j a b).trans ((f3 c j a b).trans ((f2 c j a b).trans (f1 c j a b))))
    have e5 : S5 62 13 = (T 0 0 : Int) + 20 := t5.1
    have e : ∀ c, 2 ≤ c → apT (apT (apT (apT (apT T x) y) z) u) w c = T c := fun c h => (apT_c _ _ h).trans ((apT_c _ _ h).trans ((apT_c _ _ h).trans ((apT_c _ _ h).trans (apT_c _ _ h))))
    refine h S5 _ (hM.tp (fun c j h1 h2 h3 h4 => (hf c j h3 (by omega)).trans (zuN (by omega))) e t5) (fun c hc => funext fun j => (hf c j (by omega) (Or.inl (by omega))).trans (zuN (Or.inl (by omega)))) ?_ (fun _ => e5)
    exact (hf 62 0 (by omega) (Or.inr (by omega))).trans zuE
  · rw [if_neg c, if_neg c] at h
    have h := mGood hM h
    refine ⟨by omega, fun _ => h, fun c9 => by omega⟩
end
