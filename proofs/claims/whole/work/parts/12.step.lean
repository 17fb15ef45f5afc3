/-! ONE INSTRUCTION. zI: op, a, b, x, the next pc, targets. zpre reads it off the code; zst says what it does; z_step: zst is right. -/
def zlk : List (Nat × Value) → Nat → Option Value
  | [], _ => none
  | q :: r, i => bif q.1 == i then some q.2 else zlk r i
def zin : List (Nat × Value) → Nat → Value → List (Nat × Value)
  | [], i, v => [(i, v)]
  | q :: r, i, v => bif Nat.blt i q.1 then (i, v) :: q :: r else q :: zin r i v
def zup (lo : List (Nat × Value)) (i : Nat) (v : Value) : List (Nat × Value) := zin (lo.filter (fun q => !(q.1 == i) && !(q.1 + 1 == i && q.2.category == 2))) i v
def zup2 (lo : List (Nat × Value)) (i : Nat) (v : Value) : List (Nat × Value) := zin (lo.filter (fun q => !(q.1 == i) && (!(q.1 == i + 1) && !(q.1 + 1 == i && q.2.category == 2)))) i v
theorem zlk_mem {lo : List (Nat × Value)} {i : Nat} {v : Value} (h : zlk lo i = some v) : (i, v) ∈ lo := by
  induction lo with
  | nil => cases h
  | cons q r ih =>
    unfold zlk at h
    cases hq : (q.1 == i) with
    | true =>
      rw [hq] at h
      have e1 : q.1 = i := by simpa using hq
      have e2 : q.2 = v := Option.some.inj h
      rw [← e1, ← e2]
      exact List.mem_cons_self
    | false => rw [hq] at h; exact List.mem_cons_of_mem _ (ih h)
theorem zin_mem {lo : List (Nat × Value)} {i : Nat} {v : Value} : ∀ q ∈ zin lo i v, q = (i, v) ∨ q ∈ lo := by
  induction lo with
  | nil => intro q h; left; simpa [zin] using h
  | cons a r ih =>
    intro q h
    unfold zin at h
    cases hb : Nat.blt i a.1 with
    | true =>
      rw [hb] at h
      rcases List.mem_cons.mp h with h | h
      · exact Or.inl h
      · exact Or.inr h
    | false =>
      rw [hb] at h
      rcases List.mem_cons.mp h with h | h
      · exact Or.inr (by rw [h]; exact List.mem_cons_self)
      · rcases ih q h with h | h
        · exact Or.inl h
        · exact Or.inr (List.mem_cons_of_mem _ h)
theorem zlv {g : zG} {ls : Array Slot} {nL i : Nat} {lo : List (Nat × Value)} {v : Value} (h : lv_has ls nL (zlm g lo)) (hk : zlk lo i = some v) : ls[i]? = some (.val (zc g v)) :=
  h.2.2 (i, zc g v) (List.mem_map.mpr ⟨(i, v), zlk_mem hk, rfl⟩)
theorem zlm_filter (g : zG) (lo : List (Nat × Value)) (i : Nat) : (zlm g lo).filter (fun q => !(q.1 == i) && !(q.1 + 1 == i && q.2.category == 2)) = zlm g (lo.filter (fun q => !(q.1 == i) && !(q.1 + 1 == i && q.2.category == 2))) := by
  unfold zlm
  rw [List.filter_map]
  congr 1
  congr 1
  funext q
  simp [Function.comp, zc_cat]
theorem zlm_filter2 (g : zG) (lo : List (Nat × Value)) (i : Nat) : (zlm g lo).filter (fun q => !(q.1 == i) && (!(q.1 == i + 1) && !(q.1 + 1 == i && q.2.category == 2))) = zlm g (lo.filter (fun q => !(q.1 == i) && (!(q.1 == i + 1) && !(q.1 + 1 == i && q.2.category == 2)))) := by
  unfold zlm
  rw [List.filter_map]
  congr 1
  congr 1
  funext q
  simp [Function.comp, zc_cat]
theorem zlm_zin {g : zG} {ls : Array Slot} {nL i : Nat} {lo : List (Nat × Value)} {v : Value} (h : lv_has ls nL ((i, zc g v) :: zlm g lo)) : lv_has ls nL (zlm g (zin lo i v)) := by
  refine ⟨h.1, h.2.1, fun q hq => h.2.2 q ?_⟩
  obtain ⟨q', hq', rfl⟩ := List.mem_map.mp hq
  rcases zin_mem q' hq' with rfl | hm
  · exact List.mem_cons_self
  · exact List.mem_cons_of_mem _ (List.mem_map.mpr ⟨q', hm, rfl⟩)
/-- shapes of a stack's top -/
def t1i (st : List Value) (k : Int32 → List Value → Prop) : Prop := match st with
  | .int x :: r => k x r
  | _ => False
def t1l (st : List Value) (k : Int64 → List Value → Prop) : Prop := match st with
  | .long x :: r => k x r
  | _ => False
def t1r (st : List Value) (k : Nat → List Value → Prop) : Prop := match st with
  | .ref x :: r => k x r
  | _ => False
def t2i (st : List Value) (k : Int32 → Int32 → List Value → Prop) : Prop := match st with
  | .int y :: .int x :: r => k x y r
  | _ => False
def t2l (st : List Value) (k : Int64 → Int64 → List Value → Prop) : Prop := match st with
  | .long y :: .long x :: r => k x y r
  | _ => False
def til (st : List Value) (k : Int64 → Int32 → List Value → Prop) : Prop := match st with
  | .int y :: .long x :: r => k x y r
  | _ => False
def tir (st : List Value) (k : Nat → Int32 → List Value → Prop) : Prop := match st with
  | .int y :: .ref x :: r => k x y r
  | _ => False
def tiir (st : List Value) (k : Nat → Int32 → Int32 → List Value → Prop) : Prop := match st with
  | .int z :: .int y :: .ref x :: r => k x y z r
  | _ => False
def tlir (st : List Value) (k : Nat → Int32 → Int64 → List Value → Prop) : Prop := match st with
  | .long z :: .int y :: .ref x :: r => k x y z r
  | _ => False
def tlr (st : List Value) (k : Nat → Int64 → List Value → Prop) : Prop := match st with
  | .long z :: .ref x :: r => k x z r
  | _ => False
def trr (st : List Value) (k : Nat → Nat → List Value → Prop) : Prop := match st with
  | .ref z :: .ref x :: r => k x z r
  | _ => False
theorem t1i_ok {st : List Value} {k : Int32 → List Value → Prop} (h : t1i st k) : ∃ x r, st = .int x :: r ∧ k x r := by
  unfold t1i at h; split at h
  · exact ⟨_, _, rfl, h⟩
  · exact h.elim
theorem t1l_ok {st : List Value} {k : Int64 → List Value → Prop} (h : t1l st k) : ∃ x r, st = .long x :: r ∧ k x r := by
  unfold t1l at h; split at h
  · exact ⟨_, _, rfl, h⟩
  · exact h.elim
theorem t1r_ok {st : List Value} {k : Nat → List Value → Prop} (h : t1r st k) : ∃ x r, st = .ref x :: r ∧ k x r := by
  unfold t1r at h; split at h
  · exact ⟨_, _, rfl, h⟩
  · exact h.elim
theorem t2i_ok {st : List Value} {k : Int32 → Int32 → List Value → Prop} (h : t2i st k) : ∃ x y r, st = .int y :: .int x :: r ∧ k x y r := by
  unfold t2i at h; split at h
  · exact ⟨_, _, _, rfl, h⟩
  · exact h.elim
theorem t2l_ok {st : List Value} {k : Int64 → Int64 → List Value → Prop} (h : t2l st k) : ∃ x y r, st = .long y :: .long x :: r ∧ k x y r := by
  unfold t2l at h; split at h
  · exact ⟨_, _, _, rfl, h⟩
  · exact h.elim
theorem til_ok {st : List Value} {k : Int64 → Int32 → List Value → Prop} (h : til st k) : ∃ x y r, st = .int y :: .long x :: r ∧ k x y r := by
  unfold til at h; split at h
  · exact ⟨_, _, _, rfl, h⟩
  · exact h.elim
theorem tir_ok {st : List Value} {k : Nat → Int32 → List Value → Prop} (h : tir st k) : ∃ x y r, st = .int y :: .ref x :: r ∧ k x y r := by
  unfold tir at h; split at h
  · exact ⟨_, _, _, rfl, h⟩
  · exact h.elim
theorem tiir_ok {st : List Value} {k : Nat → Int32 → Int32 → List Value → Prop} (h : tiir st k) : ∃ x y z r, st = .int z :: .int y :: .ref x :: r ∧ k x y z r := by
  unfold tiir at h; split at h
  · exact ⟨_, _, _, _, rfl, h⟩
  · exact h.elim
theorem tlir_ok {st : List Value} {k : Nat → Int32 → Int64 → List Value → Prop} (h : tlir st k) : ∃ x y z r, st = .long z :: .int y :: .ref x :: r ∧ k x y z r := by
  unfold tlir at h; split at h
  · exact ⟨_, _, _, _, rfl, h⟩
  · exact h.elim
theorem tlr_ok {st : List Value} {k : Nat → Int64 → List Value → Prop} (h : tlr st k) : ∃ x z r, st = .long z :: .ref x :: r ∧ k x z r := by
  unfold tlr at h; split at h
  · exact ⟨_, _, _, rfl, h⟩
  · exact h.elim
theorem trr_ok {st : List Value} {k : Nat → Nat → List Value → Prop} (h : trr st k) : ∃ x z r, st = .ref z :: .ref x :: r ∧ k x z r := by
  unfold trr at h; split at h
  · exact ⟨_, _, _, rfl, h⟩
  · exact h.elim
def t1d (st : List Value) (k : Value → List Value → Prop) : Prop := match st with
  | .int x :: r => k (.int x) r
  | .ref x :: r => k (.ref x) r
  | _ => False
theorem t1d_ok {st : List Value} {k : Value → List Value → Prop} (h : t1d st k) : (∃ x r, st = .int x :: r ∧ k (.int x) r) ∨ ∃ x r, st = .ref x :: r ∧ k (.ref x) r := by
  unfold t1d at h; split at h
  · exact Or.inl ⟨_, _, rfl, h⟩
  · exact Or.inr ⟨_, _, rfl, h⟩
  · exact h.elim
def zif (b : Bool) (p : Prop) : Prop := match b with
  | true => p
  | false => False
theorem zif_ok {b : Bool} {p : Prop} (h : zif b p) : b = true ∧ p := by
  cases b
  · exact h.elim
  · exact ⟨rfl, h⟩
/-- numbers: what an int instruction of two operands answers -/
def zb2 (a : Nat) (x y : Int32) : Int32 := match a with
  | 0 => x + y
  | 1 => x - y
  | 2 => x * y
  | 3 => x &&& y
  | 4 => x ||| y
  | 5 => x ^^^ y
  | 6 => x <<< (y &&& 31)
  | 7 => x >>> (y &&& 31)
  | 8 => (x.toUInt32 >>> (y.toUInt32 &&& Int32.toUInt32 31)).toInt32
  | 9 => x / y
  | _ => x - x / y * y
def zcp (a : Nat) (x y : Int32) : Prop := match a with
  | 0 => x = y
  | 1 => x < y
  | _ => y < x
/-- writes -/
def zu {α : Type} (F : Nat → Nat → α) (c k : Nat) (v : α) : Nat → Nat → α := fun x j => bif x == c && j == k then v else F x j
def zsI (M : zM) (c k : Nat) (v : Int32) : zM := (M.1, M.2.1, M.2.2.1, zu M.2.2.2.1 c k v, M.2.2.2.2)
def zsJ (M : zM) (c k : Nat) (v : Int64) : zM := (M.1, M.2.1, M.2.2.1, M.2.2.2.1, zu M.2.2.2.2 c k v)
def zsR (M : zM) (c k : Nat) (v : Nat) : zM := (M.1, M.2.1, zu M.2.2.1 c k v, M.2.2.2.1, M.2.2.2.2)
/-- a new cell, all of it 0 -/
def znew (M : zM) (kd : Nat × Nat) : zM := (M.1 + 1, fun x => bif x == M.1 then kd else M.2.1 x, fun x j => bif x == M.1 then 0 else M.2.2.1 x j, fun x j => bif x == M.1 then 0 else M.2.2.2.1 x j, fun x j => bif x == M.1 then 0 else M.2.2.2.2 x j)
def zisk (M : zM) (c a b : Nat) : Bool := (M.2.1 c).1 == a && (M.2.1 c).2 == b
def zfin (ci k : Nat) : Bool := match zcl[ci]? with
  | some q => (q.2.1 k).2.2.2
  | none => true
def zpick : List Nat → Nat → Nat → Nat
  | [], _, d => d
  | t :: _, 0, _ => t
  | _ :: r, n + 1, d => zpick r n d
/-- what an instruction does -/
def zst (d : Nat) (f : zF) (e : zI) (mc ms : Nat) (M : zM) (lo : List (Nat × Value)) (st : List Value) (K : Nat → Nat → zM → Nat → List (Nat × Value) → List Value → Prop) (Q : zR → zM → Prop) : Prop := match e with
  | (0, _, _, x, nx, _) => K mc ms M nx lo (.int x :: st)
  | (1, a, _, _, nx, _) => K mc ms M nx lo (.long (Int64.ofNat a) :: st)
  | (2, a, _, _, nx, _) => match zlk lo a with
    | some (.int x) => K mc ms M nx lo (.int x :: st)
    | _ => False
  | (3, a, _, _, nx, _) => match zlk lo a with
    | some (.long x) => K mc ms M nx lo (.long x :: st)
    | _ => False
  | (4, a, _, _, nx, _) => match zlk lo a with
    | some (.ref x) => K mc ms M nx lo (.ref x :: st)
    | _ => False
  | (5, a, _, _, nx, _) => t1i st (fun x r => zif (Nat.blt a f.2.2.2.1) (K mc ms M nx (zup lo a (.int x)) r))
  | (6, a, _, _, nx, _) => t1l st (fun x r => zif (Nat.blt (a + 1) f.2.2.2.1) (K mc ms M nx (zup2 lo a (.long x)) r))
  | (7, a, _, _, nx, _) => t1r st (fun x r => zif (Nat.blt a f.2.2.2.1) (K mc ms M nx (zup lo a (.ref x)) r))
  | (8, a, _, x, nx, _) => match zlk lo a with
    | some (.int y) => zif (Nat.blt a f.2.2.2.1) (K mc ms M nx (zup lo a (.int (y + x))) st)
    | _ => False
  | (9, 9, _, _, nx, _) => t2i st (fun x y r => ¬ y = 0 ∧ K mc ms M nx lo (.int (x / y) :: r))
  | (9, 10, _, _, nx, _) => t2i st (fun x y r => ¬ y = 0 ∧ K mc ms M nx lo (.int (x - x / y * y) :: r))
  | (9, a, _, _, nx, _) => t2i st (fun x y r => K mc ms M nx lo (.int (zb2 a x y) :: r))
  | (10, 0, _, _, nx, _) => t1i st (fun x r => K mc ms M nx lo (.long x.toInt64 :: r))
  | (10, _, _, _, nx, _) => t1i st (fun x r => K mc ms M nx lo (.int x.toInt8.toInt32 :: r))
  | (11, 0, _, _, nx, _) => t2l st (fun x y r => K mc ms M nx lo (.long (x ||| y) :: r))
  | (11, 1, _, _, nx, _) => t2l st (fun x y r => K mc ms M nx lo (.long (x - y) :: r))
  | (11, 2, _, _, nx, _) => t2l st (fun x y r => K mc ms M nx lo (.int (lg_cmp x y) :: r))
  | (11, _, _, _, nx, _) => til st (fun x y r => K mc ms M nx lo (.long (x <<< (y.toInt64 &&& 63)) :: r))
  | (12, _, _, _, nx, _) => t1d st (fun v r => K mc ms M nx lo (v :: v :: r))
  | (13, _, _, _, nx, _) => tir st (fun x y r => K mc ms M nx lo (.int y :: .ref x :: .int y :: .ref x :: r))
  | (14, _, _, _, nx, _) => t1i st (fun _ r => K mc ms M nx lo r)
  | (15, _, _, _, nx, _) => K mc ms M nx lo st
  | (16, a, b, _, nx, _) => t2i st (fun x y r => (zcp a x y → K mc ms M b lo r) ∧ (¬ zcp a x y → K mc ms M nx lo r))
  | (17, a, b, _, nx, _) => t1i st (fun x r => (zcp a x 0 → K mc ms M b lo r) ∧ (¬ zcp a x 0 → K mc ms M nx lo r))
  | (18, a, b, _, nx, _) => t1r st (fun c r => zif (zisk M c 0 a) (K mc ms M nx lo (zfv M a c b :: r)))
  | (19, a, b, _, nx, _) => match tyT a b with
    | .int => tir st (fun c x r => zif (zisk M c 0 a && !zfin a b) (K mc ms (zsI M c b x) nx lo r))
    | .boolean => tir st (fun c x r => zif (zisk M c 0 a && !zfin a b) ((x = 0 ∨ x = 1) ∧ K mc ms (zsI M c b x) nx lo r))
    | .long => tlr st (fun c x r => zif (zisk M c 0 a && !zfin a b) (K mc ms (zsJ M c b x) nx lo r))
    | .object _ => trr st (fun c x r => zif (zisk M c 0 a && (zfin a b && (f.2.2.2.2.2 && Nat.beq f.1 a))) (K mc ms (zsR M c b (x + 1)) nx lo r))
    | .array _ => trr st (fun c x r => zif (zisk M c 0 a && (zfin a b && (f.2.2.2.2.2 && Nat.beq f.1 a))) (K mc ms (zsR M c b (x + 1)) nx lo r))
    | _ => False
  | (20, _, _, _, nx, _) => tir st (fun c i r => zif ((M.2.1 c).1 == 1) (vp_in i (M.2.1 c).2 ∧ K mc ms M nx lo (.int (M.2.2.2.1 c i.toNatClampNeg) :: r)))
  | (21, _, _, _, nx, _) => tiir st (fun c i x r => zif ((M.2.1 c).1 == 1) (vp_in i (M.2.1 c).2 ∧ K mc ms (zsI M c i.toNatClampNeg x) nx lo r))
  | (22, _, _, _, nx, _) => tir st (fun c i r => zif ((M.2.1 c).1 == 2) (vp_in i (M.2.1 c).2 ∧ K mc ms M nx lo (.int (M.2.2.2.1 c i.toNatClampNeg) :: r)))
  | (23, _, _, _, nx, _) => tiir st (fun c i x r => zif ((M.2.1 c).1 == 2) (vp_in i (M.2.1 c).2 ∧ K mc ms (zsI M c i.toNatClampNeg x.toInt8.toInt32) nx lo r))
  | (24, _, _, _, nx, _) => tir st (fun c i r => zif ((M.2.1 c).1 == 3) (vp_in i (M.2.1 c).2 ∧ K mc ms M nx lo (.long (M.2.2.2.2 c i.toNatClampNeg) :: r)))
  | (25, _, _, _, nx, _) => tlir st (fun c i x r => zif ((M.2.1 c).1 == 3) (vp_in i (M.2.1 c).2 ∧ K mc ms (zsJ M c i.toNatClampNeg x) nx lo r))
  | (26, _, _, _, nx, _) => t1r st (fun c r => zif ((M.2.1 c).1 == 1 || (M.2.1 c).1 == 2) (K mc ms M nx lo (.int (Int32.ofNat (M.2.1 c).2) :: r)))
  | (27, _, _, _, _, _) => t1i st (fun x r => r = [] ∧ match f.2.2.1 with
    | some .int => Q (.inl (some (.int x))) M
    | some .boolean => (x = 0 ∨ x = 1) ∧ Q (.inl (some (.int x))) M
    | _ => False)
  | (28, _, _, _, _, _) => t1l st (fun x r => r = [] ∧ match f.2.2.1 with
    | some .long => Q (.inl (some (.long x))) M
    | _ => False)
  | (29, _, _, _, _, _) => st = [] ∧ f.2.2.1 = none ∧ Q (.inl none) M
  | (30, a, b, _, nx, _) => zif (Nat.ble 1 mc && Nat.ble b ms && Nat.blt (M.1 + 1) 100000) (K (mc - 1) (ms - b) (znew M (0, a)) nx lo (.ref M.1 :: st))
  | (31, a, _, _, nx, _) => t1i st (fun n r => zif (Nat.ble 1 a && Nat.ble a 3 && Nat.ble 1 mc && Nat.ble n.toNatClampNeg ms && Nat.ble n.toNatClampNeg 1000000 && decide (¬ n < 0) && Nat.blt (M.1 + 1) 100000) (K (mc - 1) (ms - n.toNatClampNeg) (znew M (a, n.toNatClampNeg)) nx lo (.ref M.1 :: r)))
  | (32, _, b, _, _, ts) => t1i st (fun x r => (∀ k : Nat, k < ts.length → x = Int32.ofNat k → K mc ms M (zpick ts k b) lo r) ∧ ((x < 0 ∨ Int32.ofNat ts.length ≤ x) → K mc ms M b lo r))
  | (35, _, _, _, nx, _) => t1r st (fun _ r => zif (Nat.ble 1 d && Nat.ble ((r.map Value.category).sum) 8) (K mc ms M nx lo r))
  | _ => False
