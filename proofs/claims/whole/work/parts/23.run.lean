/-! STEPS AND CALLS over integers -/
abbrev zO : Type := Nat → List zV → zS → (zR2 → zS → Prop) → Prop
/-- a call's row: its kind, which, how many arguments, depth, cells, slots, the receiver's class -/
abbrev zC : Type := Nat × Nat × Nat × Nat × Nat × Nat × Nat
abbrev zE : Type := zI2 ⊕ zC
def zsum : List zV → Nat
  | [] => 0
  | v :: r => zc2 v + zsum r
theorem zsum_ok (st : List zV) : ((st.map zvv).map Value.category).sum = zsum st := by
  induction st with
  | nil => rfl
  | cons v r ih =>
    show (((zvv v).category :: (r.map zvv).map Value.category).sum) = zc2 v + zsum r
    rw [List.sum_cons, ih, zc2_ok]
def zrq (d mc ms d' mc' ms' : Nat) (rest : List zV) : Bool := Nat.ble (d' + 1) d && (Nat.ble mc' mc && (Nat.ble ms' ms && Nat.ble (zsum rest) 8))
def zaf (r : zR2) (k1 : Option zV → Prop) (k2 : String → Prop) : Prop := match r with
  | .inl v => k1 v
  | .inr E => k2 E
def ucp (st : List zV) (k : Nat → Nat → Int → List zV → Prop) : Prop := match st with
  | .inl n :: .inl z1 :: .inr (.inl b) :: .inl z2 :: .inr (.inl a) :: r => (z1 = 0 ∧ z2 = 0) ∧ k a b n r
  | _ => False
theorem ucp_ok {st : List zV} {k : Nat → Nat → Int → List zV → Prop} (h : ucp st k) : ∃ a b n r, st = .inl n :: .inl 0 :: .inr (.inl b) :: .inl 0 :: .inr (.inl a) :: r ∧ k a b n r := by
  unfold ucp at h; split at h
  · obtain ⟨⟨rfl, rfl⟩, h⟩ := h
    exact ⟨_, _, _, _, rfl, h⟩
  · exact h.elim
def uvr (st : List zV) (k : Nat → List zV → Prop) : Prop := match st with
  | .inr (.inl o) :: r => k o r
  | _ => False
theorem uvr_ok {st : List zV} {k : Nat → List zV → Prop} (h : uvr st k) : ∃ o r, st = .inr (.inl o) :: r ∧ k o r := by
  unfold uvr at h; split at h
  · exact ⟨_, _, rfl, h⟩
  · exact h.elim
/-- a row copied, from its beginning -/
def zcpI (S : zS) (a b n : Nat) : zS := fun c j => bif c == b && Nat.blt j n then S a j else S c j
/-- what a call does -/
def zca (d : Nat) (orc : zO) (e : zC) (mc ms : Nat) (S : zS) (pc : Nat) (lo : List (Nat × zV)) (st : List zV) (K : Nat → Nat → zS → Nat → List (Nat × zV) → List zV → Prop) (Q : zR2 → zS → Prop) : Prop := match e with
  | (0, j, n, d', mc', ms', ci) => uvr (st.drop n) (fun o rest => zif ((zLAY o).1 == 0 && (zLAY o).2 == ci && zrq d mc ms d' mc' ms' rest) (orc j (.inr (.inl o) :: (st.take n).reverse) S (fun r S' => zaf r (fun v => K (mc - mc') (ms - ms') S' (pc + 3) lo (v.toList ++ rest)) (fun E => Q (.inr E) S'))))
  | (1, j, n, d', mc', ms', _) => zif (Nat.ble n st.length && zrq d mc ms d' mc' ms' (st.drop n)) (orc j (st.take n).reverse S (fun r S' => zaf r (fun v => K (mc - mc') (ms - ms') S' (pc + 3) lo (v.toList ++ st.drop n)) (fun E => Q (.inr E) S')))
  | (2, j, n, d', _, _, ci) => uvr (st.drop n) (fun o rest => zif ((zLAY o).1 == 0 && (zLAY o).2 == ci && (zrq d mc ms d' 1 6 rest)) (orc j (.inr (.inl o) :: (st.take n).reverse) S (fun r S' => zaf r (fun v => K mc ms S' (pc + 3) lo (v.toList ++ rest)) (fun E => Q (.inr E) S'))))
  | (4, j, n, d', _, _, _) => zif (Nat.ble n st.length && zrq d mc ms d' 1 6 (st.drop n)) (orc j (st.take n).reverse S (fun r S' => zaf r (fun v => K mc ms S' (pc + 3) lo (v.toList ++ st.drop n)) (fun E => Q (.inr E) S')))
  | (3, j, n, d', mc', ms', _) => zif (Nat.ble n st.length && zrq d mc ms d' mc' ms' (st.drop n)) (orc j (st.take n).reverse S (fun r S' => zaf r (fun v => K (mc - mc') (ms - ms') S' (pc + 3) lo (v.toList ++ st.drop n)) (fun _ => False)))
  | (5, _) => u2i st (fun x y r => zif (zrq d mc ms 0 0 0 r) (K mc ms S (pc + 3) lo (.inl (min x y) :: r)))
  | (6, _) => u2i st (fun x y r => zif (zrq d mc ms 0 0 0 r) (K mc ms S (pc + 3) lo (.inl (max x y) :: r)))
  | (7, _) => u1i st (fun x r => zif (zrq d mc ms 0 0 0 r) (-2147483648 < x ∧ K mc ms S (pc + 3) lo (.inl (x.natAbs : Int) :: r)))
  | (8, _) => ucp st (fun a b n r => zif (zrq d mc ms 0 0 0 r && (Nat.blt a 1000 && (Nat.blt b 1000 && !(a == b)))) (match zLAY a with
    | (1, la) => match zLAY b with
      | (1, lb) => ∃ k : Nat, (n = (k : Int) ∧ k ≤ la ∧ k ≤ lb) ∧ K mc ms (zcpI S a b k) (pc + 3) lo r
      | _ => False
    | _ => False))
  | (9, x, _, _, _, _, _) => zif (Nat.ble 6 d && (Nat.ble 1 mc && (Nat.ble 6 ms && Nat.ble (zsum st) 8))) (Q (.inr (zEx x)) S)
  | _ => False
/-- it answers and takes no room, or it throws -/
def zRs2 (l : Launch) (d : Nat) (y : MethodName) (cd : Cond) (a : List zV) (S : zS) (Q : zR2 → zS → Prop) : Prop := zRs l d 0 0 y cd a S (fun r S' => Q r S' ∧ ∃ v, r = .inl v) ∨ zRs l d 1 6 y cd a S (fun r S' => Q r S' ∧ ∃ E, r = .inr E)
/-- that a call's row is right -/
def zcok (l : Launch) (orc : zO) (f : zF) (pc : Nat) (e : zC) : Prop := match e with
  | (0, j, n, d', mc', ms', ci) => ∃ (idx : Nat) (y : MethodName) (cc : ByteArray) (nL : Nat) (ret : Option FieldType), decode f.2.1 pc = .ok (.invokevirtual idx, 3) ∧ Cond.methodLink (zown f.1) idx y ∈ zws ∧ zMth y (.code y cc nL ret) n ∧ Cond.instanceMethod y ∈ zws ∧ Cond.selects y.cls y y ∈ zws ∧ (zcl[ci]?).map (fun q => q.1) = some y.cls ∧ Nat.ble nL 18 = true ∧ ∀ a S Q, orc j a S Q → zRs l d' mc' ms' y (.code y cc nL ret) a S Q
  | (1, j, n, d', mc', ms', _) => ∃ (idx : Nat) (y : MethodName) (cc : ByteArray) (nL : Nat) (ret : Option FieldType), decode f.2.1 pc = .ok (.invokestatic idx, 3) ∧ Cond.methodLink (zown f.1) idx y ∈ zws ∧ zMth y (.code y cc nL ret) n ∧ Cond.static y ∈ zws ∧ Nat.ble nL 18 = true ∧ ∀ a S Q, orc j a S Q → zRs l d' mc' ms' y (.code y cc nL ret) a S Q
  | (2, j, n, d', _, _, ci) => ∃ (idx : Nat) (y : MethodName) (cc : ByteArray) (nL : Nat) (ret : Option FieldType), decode f.2.1 pc = .ok (.invokevirtual idx, 3) ∧ Cond.methodLink (zown f.1) idx y ∈ zws ∧ zMth y (.code y cc nL ret) n ∧ Cond.instanceMethod y ∈ zws ∧ Cond.selects y.cls y y ∈ zws ∧ (zcl[ci]?).map (fun q => q.1) = some y.cls ∧ Nat.ble nL 18 = true ∧ ∀ a S Q, orc j a S Q → zRs2 l d' y (.code y cc nL ret) a S Q
  | (4, j, n, d', _, _, _) => ∃ (idx : Nat) (y : MethodName) (cc : ByteArray) (nL : Nat) (ret : Option FieldType), decode f.2.1 pc = .ok (.invokestatic idx, 3) ∧ Cond.methodLink (zown f.1) idx y ∈ zws ∧ zMth y (.code y cc nL ret) n ∧ Cond.static y ∈ zws ∧ Nat.ble nL 18 = true ∧ ∀ a S Q, orc j a S Q → zRs2 l d' y (.code y cc nL ret) a S Q
  | (3, j, n, d', mc', ms', _) => ∃ (idx : Nat) (y : MethodName) (cc : ByteArray) (nL : Nat) (ret : Option FieldType) (host : String), decode f.2.1 pc = .ok (.invokestatic idx, 3) ∧ Cond.methodLinkNest (zown f.1) idx y host ∈ zNest ∧ zMth y (.code y cc nL ret) n ∧ Cond.static y ∈ zws ∧ Nat.ble nL 18 = true ∧ ∀ a S Q, orc j a S Q → zRs l d' mc' ms' y (.code y cc nL ret) a S Q
  | (5, _) => zMa f pc Lib.Math.min.name
  | (6, _) => zMa f pc Lib.Math.max.name
  | (7, _) => zMa f pc Lib.Math.abs.name
  | (8, _) => zMa f pc arraycopyName
  | (9, x, w, ik, is, ic, _) => f.1 = 11 ∧ f.2.2.2.2.1 = [] ∧ Cond.classLink (zown f.1) ik (zEx x) ∈ zws ∧ (∃ (i : Nat) (q : String × Nat × String × List Int32), zTx[i]? = some q ∧ q.1 = zown f.1 ∧ q.2.1 = is) ∧ decode f.2.1 pc = .ok (.new ik, 3) ∧ decode f.2.1 (pc + 3) = .ok (.dup, 1) ∧
      ((w = 0 ∧ decode f.2.1 (pc + 4) = .ok (.ldc is, 2) ∧ decode f.2.1 (pc + 6) = .ok (.invokespecial ic, 3) ∧ decode f.2.1 (pc + 9) = .ok (.athrow, 1)) ∨ (w = 1 ∧ decode f.2.1 (pc + 4) = .ok (.ldc_w is, 3) ∧ decode f.2.1 (pc + 7) = .ok (.invokespecial ic, 3) ∧ decode f.2.1 (pc + 10) = .ok (.athrow, 1))) ∧ ((x = 0 ∧ ic = 131) ∨ (x = 1 ∧ ic = 178))
  | _ => False
theorem zrq_ok {d mc ms d' mc' ms' : Nat} {rest : List zV} (h : zrq d mc ms d' mc' ms' rest = true) : d' + 1 ≤ d ∧ mc' ≤ mc ∧ ms' ≤ ms ∧ zsum rest ≤ 8 := by
  unfold zrq at h
  simp only [Bool.and_eq_true, Nat.ble_eq] at h
  exact h
theorem zrq5 {d mc ms d' mc' ms' nL : Nat} {rest : List zV} (h : zrq d mc ms d' mc' ms' rest = true) (hn : Nat.ble nL 18 = true) : (Nat.ble (d' + 1) d && Nat.ble nL 18 && Nat.ble mc' mc && Nat.ble ms' ms && Nat.ble (((rest.map zvv).map Value.category).sum) 8) = true := by
  obtain ⟨h1, h2, h3, h4⟩ := zrq_ok h
  rw [zsum_ok]
  simp only [Bool.and_eq_true, Nat.ble_eq] at hn ⊢
  exact ⟨⟨⟨⟨h1, hn⟩, h2⟩, h3⟩, h4⟩
theorem zrq1 {d mc ms : Nat} {rest : List zV} (h : zrq d mc ms 0 0 0 rest = true) : (Nat.ble 1 d && Nat.ble (((rest.map zvv).map Value.category).sum) 8) = true := by
  obtain ⟨h1, h2, h3, h4⟩ := zrq_ok h
  rw [zsum_ok]
  simp only [Bool.and_eq_true, Nat.ble_eq]
  exact ⟨h1, h4⟩
theorem zev_cp {M : zM} {S : zS} (h : zev M S) {a b n : Nat} (ha : a < 1000) (hb : b < 1000) : zev (zcpM M a b n) (zcpI S a b n) := by
  obtain ⟨h1, h2, h3, h4, h5⟩ := h
  refine ⟨h1, h2, h3, fun c' k' hc' => ?_, fun c' k' hc' => ?_⟩
  · show zir (bif c' == b && Nat.blt k' n then S a k' else S c' k') ∧ (bif c' == b && Nat.blt k' n then M.2.2.2.1 a k' else M.2.2.2.1 c' k') = Int32.ofInt (bif c' == b && Nat.blt k' n then S a k' else S c' k')
    cases (c' == b && Nat.blt k' n)
    · exact h4 c' k' hc'
    · exact h4 a k' ha
  · show zil (bif c' + 1000 == b && Nat.blt k' n then S a k' else S (c' + 1000) k') ∧ M.2.2.2.2 c' k' = Int64.ofInt (bif c' + 1000 == b && Nat.blt k' n then S a k' else S (c' + 1000) k')
    rw [show (c' + 1000 == b) = false by simp; omega]
    exact h5 c' k' hc'
section
variable {l : Launch} {d mc ms : Nat} {f : zF} {S : zS} {pc : Nat} {lo : List (Nat × zV)} {st : List zV} {Q : zR2 → zS → Prop}
theorem zaf_res {v : Option Value} {M' : zM} {k1 : Option zV → zS → Prop} {k2 : String → zS → Prop} (h : zQs (fun r S' => zaf r (fun v => k1 v S') (fun E => k2 E S')) (.inl v) M') : ∃ w S', v = w.map zvv ∧ (∀ z ∈ w.toList, zok z) ∧ zev M' S' ∧ k1 w S' := by
  obtain ⟨r', S', h1, h2, h3, h4⟩ := h
  rcases r' with w | E
  · refine ⟨w, S', (Sum.inl.inj h1).symm, ?_, h3, h4⟩
    cases w with
    | none => intro z hz; cases hz
    | some w => intro z hz; rw [Option.toList_some, List.mem_singleton] at hz; rw [hz]; exact h2
  · cases h1
theorem zaf_ex {E : String} {M' : zM} {k1 : Option zV → zS → Prop} {k2 : String → zS → Prop} (h : zQs (fun r S' => zaf r (fun v => k1 v S') (fun E => k2 E S')) (.inr E) M') : ∃ S', zev M' S' ∧ k2 E S' := by
  obtain ⟨r', S', h1, h2, h3, h4⟩ := h
  rcases r' with w | E'
  · cases h1
  · cases h1; exact ⟨S', h3, h4⟩
theorem zrest {w : Option zV} {rest : List zV} : ((w.map zvv).toList ++ rest.map zvv) = (w.toList ++ rest).map zvv := by
  cases w <;> simp
theorem zrest_ok {w : Option zV} {rest : List zV} (h1 : ∀ z ∈ w.toList, zok z) (h2 : ∀ z ∈ rest, zok z) : ∀ z ∈ w.toList ++ rest, zok z := fun z hz => (List.mem_append.mp hz).elim (h1 z) (h2 z)
set_option maxHeartbeats 2000000 in
theorem zca_ok {orc : zO} {e : zC} {K : Nat → Nat → zS → Nat → List (Nat × zV) → List zV → Prop} (he : zcok l orc f pc e) (hh : f.2.2.2.2.1 = []) (h : zca d orc e mc ms S pc lo st K Q) (hK : ∀ mc ms S pc lo st, K mc ms S pc lo st → zGs l d mc ms f S pc lo st Q) : zGs l d mc ms f S pc lo st Q := by
  intro M hM hlo hst
  obtain ⟨m1, m2, m3, m4, m5⟩ := id hM
  unfold zca at h
  split at h
  case h_1 j n d' mc' ms' ci =>
    obtain ⟨o, rest, hs, h⟩ := uvr_ok h
    obtain ⟨h1, h⟩ := zif_ok h
    simp only [Bool.and_eq_true] at h1
    obtain ⟨⟨h1, h2⟩, h3⟩ := h1
    obtain ⟨idx, y, cc, nL, ret, e1, e2, e3, e4, e5, e6, e7, e8⟩ := he
    have hst2 : st = ((st.take n).reverse).reverse ++ .inr (.inl o) :: rest := by rw [List.reverse_reverse, ← hs, List.take_append_drop]
    have hn : ((st.take n).reverse.map zvv).length = n := by
      have hl : (st.drop n).length = rest.length + 1 := by rw [hs]; rfl
      rw [List.length_drop] at hl
      rw [List.length_map, List.length_reverse, List.length_take]
      omega
    have hst3 : st.map zvv = ((st.take n).reverse.map zvv).reverse ++ .ref o :: rest.map zvv := by
      conv => lhs; rw [hst2]
      rw [List.map_append, List.map_reverse]
      rfl
    have ha : ∀ v ∈ Sum.inr (Sum.inl o) :: (st.take n).reverse, zok v := by
      intro v hv
      rcases List.mem_cons.mp hv with rfl | hv
      · trivial
      · exact hst v (List.mem_of_mem_take (List.mem_reverse.mp hv))
    have hr : ∀ v ∈ rest, zok v := fun v hv => hst v (List.mem_of_mem_drop (by rw [hs]; exact List.mem_cons_of_mem _ hv))
    have hk : zisk M o 0 ci = true := by unfold zisk; rw [m2, h1, h2]; rfl
    refine zcallV d' mc' ms' e1 e2 e3 e4 e5 hst3 hk e6 hn (zrq5 h3 e7) hh (e8 _ _ _ h M hM ha) ?_ ?_
    · intro E M' hq
      obtain ⟨S', q1, q2⟩ := zaf_ex hq
      exact ⟨.inr E, S', rfl, trivial, q1, q2⟩
    · intro v M' hq
      obtain ⟨w, S', rfl, q1, q2, q3⟩ := zaf_res hq
      rw [zrest]
      exact hK _ _ _ _ _ _ q3 M' q2 hlo (zrest_ok q1 hr)
  case h_2 j n d' mc' ms' _ =>
    obtain ⟨h1, h⟩ := zif_ok h
    rw [Bool.and_eq_true] at h1
    have hlen := Nat.ble_eq.mp h1.1
    obtain ⟨idx, y, cc, nL, ret, e1, e2, e3, e4, e7, e8⟩ := he
    have hst3 : st.map zvv = ((st.take n).reverse.map zvv).reverse ++ (st.drop n).map zvv := by rw [List.map_reverse, List.reverse_reverse, ← List.map_append, List.take_append_drop]
    have hn : ((st.take n).reverse.map zvv).length = n := by
      rw [List.length_map, List.length_reverse, List.length_take]
      omega
    have ha : ∀ v ∈ (st.take n).reverse, zok v := fun v hv => hst v (List.mem_of_mem_take (List.mem_reverse.mp hv))
    have hr : ∀ v ∈ st.drop n, zok v := fun v hv => hst v (List.mem_of_mem_drop hv)
    refine zcallS d' mc' ms' e1 e2 e3 e4 hst3 hn (zrq5 h1.2 e7) hh (e8 _ _ _ h M hM ha) ?_ ?_
    · intro E M' hq
      obtain ⟨S', q1, q2⟩ := zaf_ex hq
      exact ⟨.inr E, S', rfl, trivial, q1, q2⟩
    · intro v M' hq
      obtain ⟨w, S', rfl, q1, q2, q3⟩ := zaf_res hq
      rw [zrest]
      exact hK _ _ _ _ _ _ q3 M' q2 hlo (zrest_ok q1 hr)
  case h_3 j n d' _ _ ci =>
    obtain ⟨o, rest, hs, h⟩ := uvr_ok h
    obtain ⟨h1, h⟩ := zif_ok h
    simp only [Bool.and_eq_true] at h1
    obtain ⟨⟨h1, h2⟩, h3⟩ := h1
    obtain ⟨idx, y, cc, nL, ret, e1, e2, e3, e4, e5, e6, e7, e8⟩ := he
    have hst2 : st = ((st.take n).reverse).reverse ++ .inr (.inl o) :: rest := by rw [List.reverse_reverse, ← hs, List.take_append_drop]
    have hn : ((st.take n).reverse.map zvv).length = n := by
      have hl : (st.drop n).length = rest.length + 1 := by rw [hs]; rfl
      rw [List.length_drop] at hl
      rw [List.length_map, List.length_reverse, List.length_take]
      omega
    have hst3 : st.map zvv = ((st.take n).reverse.map zvv).reverse ++ .ref o :: rest.map zvv := by
      conv => lhs; rw [hst2]
      rw [List.map_append, List.map_reverse]
      rfl
    have ha : ∀ v ∈ Sum.inr (Sum.inl o) :: (st.take n).reverse, zok v := by
      intro v hv
      rcases List.mem_cons.mp hv with rfl | hv
      · trivial
      · exact hst v (List.mem_of_mem_take (List.mem_reverse.mp hv))
    have hr : ∀ v ∈ rest, zok v := fun v hv => hst v (List.mem_of_mem_drop (by rw [hs]; exact List.mem_cons_of_mem _ hv))
    have hk : zisk M o 0 ci = true := by unfold zisk; rw [m2, h1, h2]; rfl
    obtain ⟨q1, q2, q3, q4⟩ := zrq_ok h3
    have h30 : zrq d mc ms d' 0 0 rest = true := by
      unfold zrq
      simp only [Bool.and_eq_true, Nat.ble_eq]
      exact ⟨q1, Nat.zero_le _, Nat.zero_le _, q4⟩
    rcases e8 _ _ _ h with hR | hR
    · refine zcallV d' 0 0 e1 e2 e3 e4 e5 hst3 hk e6 hn (zrq5 h30 e7) hh (hR M hM ha) ?_ ?_
      · rintro E M' ⟨r', S', g1, g2, g3, g4, v, rfl⟩
        cases g1
      · rintro v M' ⟨r', S', g1, g2, g3, g4, w, rfl⟩
        obtain ⟨w', S'', rfl, p1, p2, p3⟩ := zaf_res (k1 := fun v S' => K mc ms S' (pc + 3) lo (v.toList ++ rest)) (k2 := fun E S' => Q (.inr E) S') ⟨_, S', g1, g2, g3, g4⟩
        rw [zrest]
        exact hK _ _ _ _ _ _ p3 M' p2 hlo (zrest_ok p1 hr)
    · refine zcallV d' 1 6 e1 e2 e3 e4 e5 hst3 hk e6 hn (zrq5 h3 e7) hh (hR M hM ha) ?_ ?_
      · rintro E M' ⟨r', S', g1, g2, g3, g4, E', rfl⟩
        obtain ⟨S'', p1, p2⟩ := zaf_ex (k1 := fun v S' => K mc ms S' (pc + 3) lo (v.toList ++ rest)) (k2 := fun E S' => Q (.inr E) S') ⟨_, S', g1, g2, g3, g4⟩
        exact ⟨.inr E, S'', rfl, trivial, p1, p2⟩
      · rintro v M' ⟨r', S', g1, g2, g3, g4, E', rfl⟩
        cases g1
  case h_4 j n d' _ _ _ =>
    obtain ⟨h1, h⟩ := zif_ok h
    rw [Bool.and_eq_true] at h1
    have hlen := Nat.ble_eq.mp h1.1
    obtain ⟨idx, y, cc, nL, ret, e1, e2, e3, e4, e7, e8⟩ := he
    have hst3 : st.map zvv = ((st.take n).reverse.map zvv).reverse ++ (st.drop n).map zvv := by rw [List.map_reverse, List.reverse_reverse, ← List.map_append, List.take_append_drop]
    have hn : ((st.take n).reverse.map zvv).length = n := by
      rw [List.length_map, List.length_reverse, List.length_take]
      omega
    have ha : ∀ v ∈ (st.take n).reverse, zok v := fun v hv => hst v (List.mem_of_mem_take (List.mem_reverse.mp hv))
    have hr : ∀ v ∈ st.drop n, zok v := fun v hv => hst v (List.mem_of_mem_drop hv)
    obtain ⟨q1, q2, q3, q4⟩ := zrq_ok h1.2
    have h30 : zrq d mc ms d' 0 0 (st.drop n) = true := by
      unfold zrq
      simp only [Bool.and_eq_true, Nat.ble_eq]
      exact ⟨q1, Nat.zero_le _, Nat.zero_le _, q4⟩
    rcases e8 _ _ _ h with hR | hR
    · refine zcallS d' 0 0 e1 e2 e3 e4 hst3 hn (zrq5 h30 e7) hh (hR M hM ha) ?_ ?_
      · rintro E M' ⟨r', S', g1, g2, g3, g4, v, rfl⟩
        cases g1
      · rintro v M' ⟨r', S', g1, g2, g3, g4, w, rfl⟩
        obtain ⟨w', S'', rfl, p1, p2, p3⟩ := zaf_res (k1 := fun v S' => K mc ms S' (pc + 3) lo (v.toList ++ st.drop n)) (k2 := fun E S' => Q (.inr E) S') ⟨_, S', g1, g2, g3, g4⟩
        rw [zrest]
        exact hK _ _ _ _ _ _ p3 M' p2 hlo (zrest_ok p1 hr)
    · refine zcallS d' 1 6 e1 e2 e3 e4 hst3 hn (zrq5 h1.2 e7) hh (hR M hM ha) ?_ ?_
      · rintro E M' ⟨r', S', g1, g2, g3, g4, E', rfl⟩
        obtain ⟨S'', p1, p2⟩ := zaf_ex (k1 := fun v S' => K mc ms S' (pc + 3) lo (v.toList ++ st.drop n)) (k2 := fun E S' => Q (.inr E) S') ⟨_, S', g1, g2, g3, g4⟩
        exact ⟨.inr E, S'', rfl, trivial, p1, p2⟩
      · rintro v M' ⟨r', S', g1, g2, g3, g4, E', rfl⟩
        cases g1
  case h_5 j n d' mc' ms' _ =>
    obtain ⟨h1, h⟩ := zif_ok h
    rw [Bool.and_eq_true] at h1
    have hlen := Nat.ble_eq.mp h1.1
    obtain ⟨idx, y, cc, nL, ret, host, e1, e2, e3, e4, e7, e8⟩ := he
    have hst3 : st.map zvv = ((st.take n).reverse.map zvv).reverse ++ (st.drop n).map zvv := by rw [List.map_reverse, List.reverse_reverse, ← List.map_append, List.take_append_drop]
    have hn : ((st.take n).reverse.map zvv).length = n := by
      rw [List.length_map, List.length_reverse, List.length_take]
      omega
    have ha : ∀ v ∈ (st.take n).reverse, zok v := fun v hv => hst v (List.mem_of_mem_take (List.mem_reverse.mp hv))
    have hr : ∀ v ∈ st.drop n, zok v := fun v hv => hst v (List.mem_of_mem_drop hv)
    refine zs_nest d' mc' ms' e1 e2 e3 e4 hst3 hn (zrq5 h1.2 e7) (e8 _ _ _ h M hM ha) ?_ ?_
    · intro E M' hq
      obtain ⟨S', q1, q2⟩ := zaf_ex (k2 := fun _ _ => False) hq
      exact q2
    · intro v M' hq
      obtain ⟨w, S', rfl, q1, q2, q3⟩ := zaf_res (k2 := fun _ _ => False) hq
      rw [zrest]
      exact hK _ _ _ _ _ _ q3 M' q2 hlo (zrest_ok q1 hr)
  case h_6 =>
    replace h := u2i_ok h
    obtain ⟨x, y, r, rfl, h⟩ := h
    obtain ⟨h1, h⟩ := zif_ok h
    have sy : zir y := (zall2 hst).1
    have sx : zir x := (zall2 (zall2 hst).2).1
    refine zs_min he (zrq1 h1) ?_
    have e9 : (if Int32.ofInt y < Int32.ofInt x then Int32.ofInt y else Int32.ofInt x) = Int32.ofInt (min x y) := by
      by_cases c : y < x
      · rw [if_pos ((zof_lt sy sx).mpr c), Int.min_eq_right (by omega)]
      · rw [if_neg (fun z => c ((zof_lt sy sx).mp z)), Int.min_eq_left (by omega)]
    rw [e9]
    exact hK _ _ _ _ _ _ h M hM hlo (zall1 (v := .inl (min x y)) ⟨by have := sx.1; have := sy.1; omega, by have := sx.2; omega⟩ (zall2 (zall2 hst).2).2)
  case h_7 =>
    replace h := u2i_ok h
    obtain ⟨x, y, r, rfl, h⟩ := h
    obtain ⟨h1, h⟩ := zif_ok h
    have sy : zir y := (zall2 hst).1
    have sx : zir x := (zall2 (zall2 hst).2).1
    refine zs_max he (zrq1 h1) ?_
    have e9 : (if Int32.ofInt x < Int32.ofInt y then Int32.ofInt y else Int32.ofInt x) = Int32.ofInt (max x y) := by
      by_cases c : x < y
      · rw [if_pos ((zof_lt sx sy).mpr c), Int.max_eq_right (by omega)]
      · rw [if_neg (fun z => c ((zof_lt sx sy).mp z)), Int.max_eq_left (by omega)]
    rw [e9]
    exact hK _ _ _ _ _ _ h M hM hlo (zall1 (v := .inl (max x y)) ⟨by have := sx.1; omega, by have := sx.2; have := sy.2; omega⟩ (zall2 (zall2 hst).2).2)
  case h_8 =>
    replace h := u1i_ok h
    obtain ⟨x, r, rfl, h⟩ := h
    obtain ⟨h1, h2, h⟩ := zif_ok h
    have sx : zir x := (zall2 hst).1
    refine zs_abs he (zrq1 h1) ?_
    have e9 : (if (0 : Int32) ≤ Int32.ofInt x then Int32.ofInt x else 0 - Int32.ofInt x) = Int32.ofInt (x.natAbs : Int) := by
      by_cases c : x < 0
      · rw [if_neg (fun z : (0 : Int32) ≤ Int32.ofInt x => absurd ((zof_lt sx zir_0).mpr c) (Int32.not_lt.mpr z))]
        show Int32.ofInt 0 - Int32.ofInt x = _
        rw [← Int32.ofInt_sub]
        congr 1
        omega
      · rw [if_pos (show (0 : Int32) ≤ Int32.ofInt x from Int32.not_lt.mp (fun z => c ((zof_lt sx zir_0).mp z)))]
        congr 1
        omega
    rw [e9]
    exact hK _ _ _ _ _ _ h M hM hlo (zall1 (v := .inl (x.natAbs : Int)) ⟨by omega, by have := sx.2; omega⟩ (zall2 hst).2)
  case h_9 =>
    replace h := ucp_ok h
    obtain ⟨a, b, n, r, rfl, h⟩ := h
    replace h := zif_ok h
    obtain ⟨h1, h⟩ := h
    simp only [Bool.and_eq_true, Nat.blt_eq] at h1
    obtain ⟨h1, h2, h3, h4⟩ := h1
    split at h
    · rename_i la hla
      split at h
      · rename_i lb hlb
        obtain ⟨k, ⟨hnk, h5, h6⟩, h⟩ := h
        subst hnk
        have sn : zir (k : Int) := (zall2 hst).1
        have hkn : (Int32.ofInt (k : Int)).toNatClampNeg = k := by rw [zof_nat]; exact nI_clamp (by have := sn.2; omega)
        refine zs_copy he (zrq1 h1) (by rw [m2, hla]; rfl) (by rw [m2, hlb]; rfl) h4 (by rw [zof_nat]; exact nI_pos (by have := sn.2; omega)) (by rw [hkn, m2, hla]; exact h5) (by rw [hkn, m2, hlb]; exact h6) ?_
        rw [hkn]
        exact hK _ _ _ _ _ _ h _ (zev_cp hM h2 h3) hlo (zall2 (zall2 (zall2 (zall2 (zall2 hst).2).2).2).2).2
      · exact h.elim
    · exact h.elim
  case h_10 x w ik is ic _ =>
    obtain ⟨h1, h⟩ := zif_ok h
    obtain ⟨e1, e2, e3, e4, e5, e6, e7, e8⟩ := he
    refine zs_throw e1 e2 e3 e4 e5 e6 e7 e8 (by rw [zsum_ok]; exact h1) ?_ ?_
    · rw [m2]
      have : ∀ c, 103 ≤ c → zLAY c = (9, 0) := by
        intro c hc
        unfold zLAY
        rw [show Nat.ble c 102 = false by
          cases hb : Nat.ble c 102
          · rfl
          · have := Nat.ble_eq.mp hb; omega]
        rfl
      rw [this _ m1]
    · exact ⟨.inr _, S, rfl, trivial, ⟨by show 103 ≤ M.1 + 1; omega, m2, m3, m4, m5⟩, h⟩
  case h_11 => exact h.elim
end
def zfs : List (Nat × zE) → Nat → Option (zE × List (Nat × zE))
  | [], _ => none
  | q :: r, i => bif Nat.beq q.1 i then some (q.2, r) else zfs r i
def znx (sf tb : List (Nat × zE)) (pc : Nat) : Option (zE × List (Nat × zE)) := match sf with
  | [] => zfs tb pc
  | q :: r => bif Nat.beq q.1 pc then some (q.2, r) else zfs tb pc
/-- the table is right -/
def zTok (l : Launch) (orc : zO) (f : zF) (q : Nat × zE) : Prop := match q.2 with
  | .inl e => zpre f.1 f.2.1 q.1 = some (zdn e) ∧ zir e.2.2.2.1
  | .inr e => zcok l orc f q.1 e
theorem zfs_ok {P : Nat × zE → Prop} : ∀ {tb : List (Nat × zE)} {pc : Nat} {e : zE} {r : List (Nat × zE)}, zfs tb pc = some (e, r) → (∀ q ∈ tb, P q) → P (pc, e) ∧ ∀ q ∈ r, P q := by
  intro tb
  induction tb with
  | nil => intro pc e r h; cases h
  | cons q s ih =>
    intro pc e r h hP
    unfold zfs at h
    cases hq : Nat.beq q.1 pc with
    | true =>
      rw [hq] at h
      have e1 := Nat.eq_of_beq_eq_true hq
      obtain ⟨rfl, rfl⟩ := Prod.mk.inj (Option.some.inj h)
      refine ⟨?_, fun x hx => hP x (List.mem_cons_of_mem _ hx)⟩
      rw [← e1]
      exact hP q List.mem_cons_self
    | false => rw [hq] at h; exact ih h (fun x hx => hP x (List.mem_cons_of_mem _ hx))
theorem znx_ok {P : Nat × zE → Prop} {sf tb : List (Nat × zE)} {pc : Nat} {e : zE} {r : List (Nat × zE)} (h : znx sf tb pc = some (e, r)) (h1 : ∀ q ∈ sf, P q) (h2 : ∀ q ∈ tb, P q) : P (pc, e) ∧ ∀ q ∈ r, P q := by
  unfold znx at h
  split at h
  · exact zfs_ok h h2
  · rename_i q s
    cases hq : Nat.beq q.1 pc with
    | true =>
      rw [hq] at h
      have e1 := Nat.eq_of_beq_eq_true hq
      obtain ⟨rfl, rfl⟩ := Prod.mk.inj (Option.some.inj h)
      refine ⟨?_, fun x hx => h1 x (List.mem_cons_of_mem _ hx)⟩
      rw [← e1]
      exact h1 q List.mem_cons_self
    | false => rw [hq] at h; exact zfs_ok h h2
/-- steps and calls, up to n, until a place of sp, or one that the table hasn't -/
def zwq (d : Nat) (f : zF) (tb : List (Nat × zE)) (orc : zO) (sp : List Nat) (K : Nat → Nat → zS → Nat → List (Nat × zV) → List zV → Prop) (Q : zR2 → zS → Prop) : Nat → List (Nat × zE) → Nat → Nat → zS → Nat → List (Nat × zV) → List zV → Prop
  | 0, _, mc, ms, S, pc, lo, st => K mc ms S pc lo st
  | n + 1, sf, mc, ms, S, pc, lo, st => match znx sf tb pc with
    | some (.inl e, r) => zst3 f e mc ms S lo st (fun mc ms S pc lo st => match sp.elem pc with
      | true => K mc ms S pc lo st
      | false => zwq d f tb orc sp K Q n r mc ms S pc lo st) Q
    | some (.inr e, r) => zca d orc e mc ms S pc lo st (fun mc ms S pc lo st => match sp.elem pc with
      | true => K mc ms S pc lo st
      | false => zwq d f tb orc sp K Q n r mc ms S pc lo st) Q
    | none => K mc ms S pc lo st
theorem zwq_ok {l : Launch} {d : Nat} {f : zF} {tb : List (Nat × zE)} {orc : zO} (htb : ∀ q ∈ tb, zTok l orc f q) (hh : f.2.2.2.2.1 = []) (sp : List Nat) {K : Nat → Nat → zS → Nat → List (Nat × zV) → List zV → Prop} {Q : zR2 → zS → Prop} (hK : ∀ mc ms S pc lo st, K mc ms S pc lo st → zGs l d mc ms f S pc lo st Q) (n : Nat) : ∀ {sf : List (Nat × zE)} {mc ms : Nat} {S : zS} {pc : Nat} {lo : List (Nat × zV)} {st : List zV}, (∀ q ∈ sf, zTok l orc f q) →
    zwq d f tb orc sp K Q n sf mc ms S pc lo st → zGs l d mc ms f S pc lo st Q := by
  induction n with
  | zero => intro sf mc ms S pc lo st hsf h; exact hK _ _ _ _ _ _ h
  | succ n ih =>
    intro sf mc ms S pc lo st hsf h
    unfold zwq at h
    split at h
    · rename_i e r he
      obtain ⟨h1, h2⟩ := znx_ok (P := zTok l orc f) he hsf htb
      intro M hM hlo hst
      refine z_step h1.1 (zst3_ok h1.2 h (fun mc ms S pc lo st h => ?_) hM hlo hst)
      split at h
      · exact hK _ _ _ _ _ _ h
      · exact ih h2 h
    · rename_i e r he
      obtain ⟨h1, h2⟩ := znx_ok (P := zTok l orc f) he hsf htb
      refine zca_ok h1 hh h (fun mc ms S pc lo st h => ?_)
      split at h
      · exact hK _ _ _ _ _ _ h
      · exact ih h2 h
    · exact hK _ _ _ _ _ _ h
/-- a method's contract, no handlers -/
theorem zsl_vv (a : List zV) : (lg_sl (a.map zvv)).length = zsum a := by
  induction a with
  | nil => rfl
  | cons v r ih =>
    have e : ∀ (a : Value) (as : List Value), lg_sl (a :: as) = (if a.category = 2 then [.val a, .second] else [.val a]) ++ lg_sl as := fun a as => rfl
    rw [List.map_cons, e, List.length_append, ih, zc2_ok]
    show _ = zc2 v + zsum r
    rcases v with z | k | x <;> rfl
def zar : Nat → List zV → List (Nat × zV)
  | _, [] => []
  | i, v :: r => (i, v) :: zar (i + zc2 v) r
theorem zar_ok (a : List zV) : ∀ i : Nat, lv_args i (a.map zvv) = zmp (zar i a) := by
  induction a with
  | nil => intro i; rfl
  | cons v r ih =>
    intro i
    show (i, zvv v) :: lv_args (if (zvv v).category = 2 then i + 2 else i + 1) (r.map zvv) = (i, zvv v) :: zmp (zar (i + zc2 v) r)
    rw [zc2_ok, ih]
    rcases v with z | k | x <;> rfl
theorem zar_mem (a : List zV) : ∀ (i : Nat), ∀ q ∈ zar i a, q.2 ∈ a := by
  induction a with
  | nil => intro i q hq; cases hq
  | cons v r ih =>
    intro i q hq
    rcases List.mem_cons.mp hq with rfl | hq
    · exact List.mem_cons_self
    · exact List.mem_cons_of_mem _ (ih _ q hq)
theorem zRs_of {l : Launch} {d mc ms nL : Nat} (o : Nat) {y : MethodName} {cc : ByteArray} {ret : Option FieldType} {a : List zV} {S : zS} {Q : zR2 → zS → Prop} (hy : plainName y.cls = true) (ho : zown o = y.cls) (hn : Nat.ble (zsum a) nL = true)
    (k : zGs l d mc ms (o, cc, ret, nL, [], false) S 0 (zar 0 a) [] Q) : zRs l d mc ms y (.code y cc nL ret) a S Q := by
  intro M hM ha
  refine zRet_of (ini := false) o hy ho (by rw [zsl_vv]; exact Nat.ble_eq.mp hn) (fun h => by cases h) ?_
  rw [zar_ok]
  exact k M hM (fun q hq => ha _ (zar_mem a 0 q hq)) (fun v hv => by cases hv)
theorem zGs.sub {l : Launch} {d mc ms : Nat} {f : zF} {S : zS} {pc : Nat} {lo lo' : List (Nat × zV)} {st : List zV} {Q : zR2 → zS → Prop} (h : zGs l d mc ms f S pc lo' st Q) (hs : ∀ q ∈ lo', q ∈ lo) : zGs l d mc ms f S pc lo st Q := by
  intro M hM hlo hst
  refine zGo.sub (h M hM (fun q hq => hlo q (hs q hq)) hst) (fun q hq => ?_)
  obtain ⟨q', hq', rfl⟩ := List.mem_map.mp hq
  exact List.mem_map.mpr ⟨q', hs q' hq', rfl⟩
/-- the ranges of a state and of locals are known -/
theorem zGs.rng {l : Launch} {d mc ms : Nat} {f : zF} {S : zS} {pc : Nat} {lo : List (Nat × zV)} {st : List zV} {Q : zR2 → zS → Prop} (h : (∀ c k, c < 1000 → zir (S c k)) → (∀ q ∈ lo, zok q.2) → zGs l d mc ms f S pc lo st Q) : zGs l d mc ms f S pc lo st Q :=
  fun M hM hlo hst => h (fun c k hc => (hM.2.2.2.1 c k hc).1) hlo M hM hlo hst
theorem zRs.rng {l : Launch} {d mc ms : Nat} {y : MethodName} {cd : Cond} {a : List zV} {S : zS} {Q : zR2 → zS → Prop} (h : (∀ c k, c < 1000 → zir (S c k)) → (∀ v ∈ a, zok v) → zRs l d mc ms y cd a S Q) : zRs l d mc ms y cd a S Q :=
  fun M hM ha => h (fun c k hc => (hM.2.2.2.1 c k hc).1) ha M hM ha
