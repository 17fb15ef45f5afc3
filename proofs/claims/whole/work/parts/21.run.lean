/-! BEHIND THE CONSTRUCTORS: steps and calls over (cells, ints, longs) -/
abbrev zO : Type := Nat → List Value → zS → (zR → zS → Prop) → Prop
/-- a call's row: its kind, which, how many arguments, depth, cells, slots, the receiver's class -/
abbrev zC : Type := Nat × Nat × Nat × Nat × Nat × Nat × Nat
def zQs (Q : zR → zS → Prop) : zR → zM → Prop := fun r M => ∃ S, M = zmk S ∧ Q r S
def zRs (l : Launch) (d mc ms : Nat) (y : MethodName) (cd : Cond) (a : List Value) (S : zS) (Q : zR → zS → Prop) : Prop := zRet l d mc ms y cd a (zmk S) (zQs Q)
def zGs (l : Launch) (d mc ms : Nat) (f : zF) (S : zS) (pc : Nat) (lo : List (Nat × Value)) (st : List Value) (Q : zR → zS → Prop) : Prop := zGo l d mc ms f (zmk S) pc lo st (zQs Q)
def zfc : List (Nat × zC) → Nat → Option zC
  | [], _ => none
  | q :: r, i => bif q.1 == i then some q.2 else zfc r i
theorem zfc_ok {cb : List (Nat × zC)} {i : Nat} {e : zC} (h : zfc cb i = some e) : (i, e) ∈ cb := by
  induction cb with
  | nil => cases h
  | cons q r ih =>
    unfold zfc at h
    cases hq : (q.1 == i) with
    | true =>
      rw [hq] at h
      have e1 : q.1 = i := by simpa using hq
      have e2 : q.2 = e := Option.some.inj h
      rw [← e1, ← e2]
      exact List.mem_cons_self
    | false => rw [hq] at h; exact List.mem_cons_of_mem _ (ih h)
/-- a row copied, from its beginning -/
def zcpI (I : Nat → Nat → Int32) (a b n : Nat) : Nat → Nat → Int32 := fun c j => bif c == b && Nat.blt j n then I a j else I c j
def zrq (d mc ms d' mc' ms' : Nat) (rest : List Value) : Bool := Nat.ble (d' + 1) d && (Nat.ble mc' mc && (Nat.ble ms' ms && Nat.ble ((rest.map Value.category).sum) 8))
def zaf (r : zR) (k1 : Option Value → Prop) (k2 : String → Prop) : Prop := match r with
  | .inl v => k1 v
  | .inr E => k2 E
def zEx (x : Nat) : String := match x with
  | 0 => "java/lang/IllegalArgumentException"
  | _ => "java/util/NoSuchElementException"
def tcp (st : List Value) (k : Nat → Nat → Int32 → List Value → Prop) : Prop := match st with
  | .int n :: .int 0 :: .ref b :: .int 0 :: .ref a :: r => k a b n r
  | _ => False
theorem tcp_ok {st : List Value} {k : Nat → Nat → Int32 → List Value → Prop} (h : tcp st k) : ∃ a b n r, st = .int n :: .int 0 :: .ref b :: .int 0 :: .ref a :: r ∧ k a b n r := by
  unfold tcp at h; split at h
  · exact ⟨_, _, _, _, rfl, h⟩
  · exact h.elim
def tvr (st : List Value) (k : Nat → List Value → Prop) : Prop := match st with
  | .ref o :: r => k o r
  | _ => False
theorem tvr_ok {st : List Value} {k : Nat → List Value → Prop} (h : tvr st k) : ∃ o r, st = .ref o :: r ∧ k o r := by
  unfold tvr at h; split at h
  · exact ⟨_, _, rfl, h⟩
  · exact h.elim
/-- what a call does -/
def zca (d : Nat) (orc : zO) (e : zC) (mc ms : Nat) (S : zS) (pc : Nat) (lo : List (Nat × Value)) (st : List Value) (K : Nat → Nat → zS → Nat → List (Nat × Value) → List Value → Prop) (Q : zR → zS → Prop) : Prop := match e with
  | (0, j, n, d', mc', ms', ci) => tvr (st.drop n) (fun o rest => zif (zisk (zmk S) o 0 ci && zrq d mc ms d' mc' ms' rest) (orc j (.ref o :: (st.take n).reverse) S (fun r S' => zaf r (fun v => K (mc - mc') (ms - ms') S' (pc + 3) lo (v.toList ++ rest)) (fun E => Q (.inr E) S'))))
  | (1, j, n, d', mc', ms', _) => zif (Nat.ble n st.length && zrq d mc ms d' mc' ms' (st.drop n)) (orc j (st.take n).reverse S (fun r S' => zaf r (fun v => K (mc - mc') (ms - ms') S' (pc + 3) lo (v.toList ++ st.drop n)) (fun E => Q (.inr E) S')))
  | (3, j, n, d', mc', ms', _) => zif (Nat.ble n st.length && zrq d mc ms d' mc' ms' (st.drop n)) (orc j (st.take n).reverse S (fun r S' => zaf r (fun v => K (mc - mc') (ms - ms') S' (pc + 3) lo (v.toList ++ st.drop n)) (fun _ => False)))
  | (5, _) => t2i st (fun x y r => zif (zrq d mc ms 0 0 0 r) (K mc ms S (pc + 3) lo (.int (if y < x then y else x) :: r)))
  | (6, _) => t2i st (fun x y r => zif (zrq d mc ms 0 0 0 r) (K mc ms S (pc + 3) lo (.int (if x < y then y else x) :: r)))
  | (7, _) => t1i st (fun x r => zif (zrq d mc ms 0 0 0 r) (K mc ms S (pc + 3) lo (.int (if 0 ≤ x then x else 0 - x) :: r)))
  | (8, _) => tcp st (fun a b n r => zif (zrq d mc ms 0 0 0 r && ((zLAY a).1 == 1 && ((zLAY b).1 == 1 && !(a == b)))) (¬ n < 0 ∧ n.toNatClampNeg ≤ (zLAY a).2 ∧ n.toNatClampNeg ≤ (zLAY b).2 ∧ K mc ms (S.1, zcpI S.2.1 a b n.toNatClampNeg, S.2.2) (pc + 3) lo r))
  | (9, x, _, _, _, _, _) => zif (Nat.ble 6 d && (Nat.ble 1 mc && (Nat.ble 6 ms && (Nat.ble ((st.map Value.category).sum) 8 && Nat.blt (S.1 + 1) 100000)))) (Q (.inr (zEx x)) (S.1 + 1, S.2.1, S.2.2))
  | _ => False
def zMa (f : zF) (pc : Nat) (y : MethodName) : Prop := ∃ idx : Nat, decode f.2.1 pc = .ok (.invokestatic idx, 3) ∧ Cond.methodLink (zown f.1) idx y ∈ zws
/-- that a call's row is right -/
def zcok (l : Launch) (orc : zO) (f : zF) (pc : Nat) (e : zC) : Prop := match e with
  | (0, j, n, d', mc', ms', ci) => ∃ (idx : Nat) (y : MethodName) (cc : ByteArray) (nL : Nat) (ret : Option FieldType), decode f.2.1 pc = .ok (.invokevirtual idx, 3) ∧ Cond.methodLink (zown f.1) idx y ∈ zws ∧ zMth y (.code y cc nL ret) n ∧ Cond.instanceMethod y ∈ zws ∧ Cond.selects y.cls y y ∈ zws ∧ (zcl[ci]?).map (fun q => q.1) = some y.cls ∧ Nat.ble nL 18 = true ∧ ∀ a S Q, orc j a S Q → zRs l d' mc' ms' y (.code y cc nL ret) a S Q
  | (1, j, n, d', mc', ms', _) => ∃ (idx : Nat) (y : MethodName) (cc : ByteArray) (nL : Nat) (ret : Option FieldType), decode f.2.1 pc = .ok (.invokestatic idx, 3) ∧ Cond.methodLink (zown f.1) idx y ∈ zws ∧ zMth y (.code y cc nL ret) n ∧ Cond.static y ∈ zws ∧ Nat.ble nL 18 = true ∧ ∀ a S Q, orc j a S Q → zRs l d' mc' ms' y (.code y cc nL ret) a S Q
  | (3, j, n, d', mc', ms', _) => ∃ (idx : Nat) (y : MethodName) (cc : ByteArray) (nL : Nat) (ret : Option FieldType) (host : String), decode f.2.1 pc = .ok (.invokestatic idx, 3) ∧ Cond.methodLinkNest (zown f.1) idx y host ∈ zNest ∧ zMth y (.code y cc nL ret) n ∧ Cond.static y ∈ zws ∧ Nat.ble nL 18 = true ∧ ∀ a S Q, orc j a S Q → zRs l d' mc' ms' y (.code y cc nL ret) a S Q
  | (5, _) => zMa f pc Lib.Math.min.name
  | (6, _) => zMa f pc Lib.Math.max.name
  | (7, _) => zMa f pc Lib.Math.abs.name
  | (8, _) => zMa f pc arraycopyName
  | (9, x, w, ik, is, ic, _) => f.1 = 11 ∧ f.2.2.2.2.1 = [] ∧ Cond.classLink (zown f.1) ik (zEx x) ∈ zws ∧ (∃ (i : Nat) (q : String × Nat × String × List Int32), zTx[i]? = some q ∧ q.1 = zown f.1 ∧ q.2.1 = is) ∧ decode f.2.1 pc = .ok (.new ik, 3) ∧ decode f.2.1 (pc + 3) = .ok (.dup, 1) ∧
      ((w = 0 ∧ decode f.2.1 (pc + 4) = .ok (.ldc is, 2) ∧ decode f.2.1 (pc + 6) = .ok (.invokespecial ic, 3) ∧ decode f.2.1 (pc + 9) = .ok (.athrow, 1)) ∨ (w = 1 ∧ decode f.2.1 (pc + 4) = .ok (.ldc_w is, 3) ∧ decode f.2.1 (pc + 7) = .ok (.invokespecial ic, 3) ∧ decode f.2.1 (pc + 10) = .ok (.athrow, 1))) ∧ ((x = 0 ∧ ic = 131) ∨ (x = 1 ∧ ic = 178))
  | _ => False
theorem zvx_met {l : Launch} {y : MethodName} {ws : List Cond} {rm : Room} {Pc : Array Value → State → Prop} {Qc : Array Value → State → Outcome → State → Prop} {XC : String → State → State → Prop} {mc ms : Nat} {free : Addr → Prop} (h : vx_Met l y ws rm Pc Qc XC mc ms free) (hx : ∀ E st t, ¬ XC E st t) : Met l y ws rm Pc Qc mc ms free := by
  intro p e ha hc hk s m args below hf happ hP hK
  obtain ⟨n, o, h1, h2, h3, h4⟩ := h p e ha hc hk s m args below hf happ hP hK
  refine ⟨n, o, h1, h2, h3, ?_⟩
  rcases h4 with h4 | ⟨q, ho, E, ce, L, h5, -⟩
  · exact h4
  · exact absurd h5 (hx _ _ _)
theorem zmw_min : Cond.static Lib.Math.min.name ∈ zws ∧ Cond.code Lib.Math.min.name Lib.Math.min.code 2 (some .int) ∈ zws := ⟨z_at 618 (by decide +kernel) (by decide +kernel), z_at 619 (by decide +kernel) (by decide +kernel)⟩
theorem zmw_max : Cond.static Lib.Math.max.name ∈ zws ∧ Cond.code Lib.Math.max.name Lib.Math.max.code 2 (some .int) ∈ zws := ⟨z_at 985 (by decide +kernel) (by decide +kernel), z_at 986 (by decide +kernel) (by decide +kernel)⟩
theorem zmw_abs : Cond.static Lib.Math.abs.name ∈ zws ∧ Cond.code Lib.Math.abs.name Lib.Math.abs.code 1 (some .int) ∈ zws := ⟨z_at 1232 (by decide +kernel) (by decide +kernel), z_at 1233 (by decide +kernel) (by decide +kernel)⟩
theorem zmw_i : Cond.initialized "java/lang/Math" ∈ zws := z_at 18 (by decide +kernel) (by decide +kernel)
theorem zmw_c : Cond.static arraycopyName ∈ zws ∧ Cond.native arraycopyName ∈ zws ∧ Cond.initialized "java/lang/System" ∈ zws := ⟨z_at 533 (by decide +kernel) (by decide +kernel), z_at 534 (by decide +kernel) (by decide +kernel), z_at 24 (by decide +kernel) (by decide +kernel)⟩
theorem znat : nativeFrameWords "java/lang/System" "arraycopy" 5 + 11 ≤ 29 := by decide +kernel
def zthrow (ic : Nat) (x : Nat) : List Cond := match x with
  | 0 => vx_atS RX11 ic "java/lang/IllegalArgumentException" ["java/lang/RuntimeException", "java/lang/Exception"]
  | _ => (zyAtoms RX11 ic).filter vx_no
set_option maxRecDepth 100000 in
theorem zthrow_g0 : ∀ w ∈ (zthrow 131 0).filter goodWord, w ∈ lw_tbl := by decide +kernel
set_option maxRecDepth 100000 in
theorem zthrow_g1 : ∀ w ∈ (zthrow 178 1).filter goodWord, w ∈ lw_tbl := by decide +kernel
theorem zthrow_b0 : ∀ w ∈ (zthrow 131 0).filter (fun w => !goodWord w), w ∈ Cond.castable "java/lang/IllegalArgumentException" "java/lang/IllegalArgumentException" :: zDecl := by decide +kernel
theorem zthrow_b1 : ∀ w ∈ (zthrow 178 1).filter (fun w => !goodWord w), w ∈ Cond.castable "java/util/NoSuchElementException" "java/util/NoSuchElementException" :: zDecl := by decide +kernel
theorem zDecl_t : ∀ w ∈ zDecl, w.onTables = true := by decide +kernel
theorem zthrow_o0 : ∀ w ∈ Cond.classLink RX11 127 (zEx 0) :: Cond.initialized (zEx 0) :: zthrow 131 0, vx_ot w = true := by decide +kernel
theorem zthrow_o1 : ∀ w ∈ Cond.classLink RX11 174 (zEx 1) :: Cond.initialized (zEx 1) :: zthrow 178 1, vx_ot w = true := by decide +kernel
section
variable {l : Launch} {d mc ms : Nat} {f : zF} {S : zS} {pc : Nat} {lo : List (Nat × Value)} {st : List Value} {Q : zR → zS → Prop}
theorem zrq_ok {d mc ms d' mc' ms' : Nat} {rest : List Value} (h : zrq d mc ms d' mc' ms' rest = true) : d' + 1 ≤ d ∧ mc' ≤ mc ∧ ms' ≤ ms ∧ (rest.map Value.category).sum ≤ 8 := by
  unfold zrq at h
  simp only [Bool.and_eq_true, Nat.ble_eq] at h
  exact h
theorem zrq5 {d mc ms d' mc' ms' nL : Nat} {rest : List Value} (h : zrq d mc ms d' mc' ms' rest = true) (hn : Nat.ble nL 18 = true) : (Nat.ble (d' + 1) d && Nat.ble nL 18 && Nat.ble mc' mc && Nat.ble ms' ms && Nat.ble ((rest.map Value.category).sum) 8) = true := by
  obtain ⟨h1, h2, h3, h4⟩ := zrq_ok h
  simp only [Bool.and_eq_true, Nat.ble_eq] at hn ⊢
  exact ⟨⟨⟨⟨h1, hn⟩, h2⟩, h3⟩, h4⟩
theorem zs_throw {x w ik is ic : Nat} (ho : f.1 = 11) (hh : f.2.2.2.2.1 = []) (hk : Cond.classLink (zown f.1) ik (zEx x) ∈ zws) (htx : ∃ (i : Nat) (q : String × Nat × String × List Int32), zTx[i]? = some q ∧ q.1 = zown f.1 ∧ q.2.1 = is) (d0 : decode f.2.1 pc = .ok (.new ik, 3)) (d3 : decode f.2.1 (pc + 3) = .ok (.dup, 1))
    (dw : (w = 0 ∧ decode f.2.1 (pc + 4) = .ok (.ldc is, 2) ∧ decode f.2.1 (pc + 6) = .ok (.invokespecial ic, 3) ∧ decode f.2.1 (pc + 9) = .ok (.athrow, 1)) ∨ (w = 1 ∧ decode f.2.1 (pc + 4) = .ok (.ldc_w is, 3) ∧ decode f.2.1 (pc + 7) = .ok (.invokespecial ic, 3) ∧ decode f.2.1 (pc + 10) = .ok (.athrow, 1)))
    (hx : (x = 0 ∧ ic = 131) ∨ (x = 1 ∧ ic = 178)) (hq : (Nat.ble 6 d && (Nat.ble 1 mc && (Nat.ble 6 ms && (Nat.ble ((st.map Value.category).sum) 8 && Nat.blt (S.1 + 1) 100000)))) = true) (h : Q (.inr (zEx x)) (S.1 + 1, S.2.1, S.2.2)) : zGs l d mc ms f S pc lo st Q := by
  intro g p e R s m args below meth c H locs cells slots ls hC a2 a3 a4 a5 a6 a7 a8 T hT X
  simp only [Bool.and_eq_true, Nat.ble_eq, Nat.blt_eq] at hq
  obtain ⟨q1, q2, q3, q4, q5⟩ := hq
  obtain ⟨hxx, hcb, hr, hml, hown, hlocks, hts, hw, ht, hin, hB⟩ := id hC
  obtain ⟨f1, f2⟩ := vx_frame (U := T) X.same
  have hS : va_S (fun q => g.2.2.1 ≤ q) s.heap H locs := ⟨by rw [← hT]; exact f1, fun q h1 h2 => by rw [← hT]; exact f2 q h1 (fun z hz e => h2 (by rw [← e]; exact a6 z hz)), a6⟩
  have hag : ∀ q, q < g.2.2.1 → s.heap[q]? = g.2.2.2.2[q]? := fun q hq => by rw [← hS.2.1 q (by omega) (by omega)]; exact a7.2.1 q hq
  have hsz0 := hw.2.1
  have hU := (hw.2.2.2.1).kept (H1 := s.heap) (fun a h1 h2 => hag a (by omega))
  have hN := (hw.2.2.2.2.1).kept (H1 := s.heap) (fun a h1 h2 => hag a (by omega))
  have hlt : l.stackTraces = false := hw.2.2.1
  have hown2 : s.vm.findClass RX11 = some m.cls := by rw [ho] at hown; exact hown
  have hk2 : (Cond.classLink RX11 ik (zEx x)).before args s = true := by have := hts _ hk; rw [ho] at this; exact this
  obtain ⟨i, q, hq1, hq2, hq3⟩ := htx
  have hstr : vk_R RX11 is q.2.2.1 (g.2.2.2.1 i) s := by
    have h1 := (hw.2.2.2.2.2.2.2.2.2.1 i q hq1).1
    rw [hq2, hq3, ho] at h1
    exact h1
  have hini : (Cond.initialized (zEx x)).before args s = true := by
    rcases hx with ⟨rfl, -⟩ | ⟨rfl, -⟩
    · exact hts _ (z_at 17 (by decide +kernel) (by decide +kernel))
    · exact hts _ (z_at 25 (by decide +kernel) (by decide +kernel))
  have hat : ∀ w ∈ zthrow ic x, w.before args s = true := by
    rcases hx with ⟨rfl, rfl⟩ | ⟨rfl, rfl⟩
    · refine vx_hat (fun w hw => hts w (List.mem_filter.mpr ⟨zthrow_g0 w hw, (List.mem_filter.mp hw).2⟩)) zthrow_b0 (vx_c ?_ ?_)
      · exact va_Nw.use rfl (hw.2.2.2.2.2.2.2.1 _ (by decide +kernel : (("java/lang/IllegalArgumentException", "java/lang/IllegalArgumentException") : String × String) ∈ zCast))
      · intro w hw9
        exact va_Nw.use (zDecl_t w hw9) (hw.2.2.2.2.2.2.2.2.2.2 w hw9)
    · refine vx_hat (fun w hw => hts w (List.mem_filter.mpr ⟨zthrow_g1 w hw, (List.mem_filter.mp hw).2⟩)) zthrow_b1 (vx_c ?_ ?_)
      · exact va_Nw.use rfl (hw.2.2.2.2.2.2.2.1 _ (by decide +kernel : (("java/util/NoSuchElementException", "java/util/NoSuchElementException") : String × String) ∈ zCast))
      · intro w hw9
        exact va_Nw.use (zDecl_t w hw9) (hw.2.2.2.2.2.2.2.2.2.2 w hw9)
  have hgd : ∀ w ∈ Cond.classLink RX11 ik (zEx x) :: Cond.initialized (zEx x) :: zthrow ic x, vx_ot w = true := by
    intro w hw
    rcases List.mem_cons.mp hw with rfl | hw
    · rfl
    · rcases hx with ⟨rfl, rfl⟩ | ⟨rfl, rfl⟩
      · exact zthrow_o0 w (List.mem_cons_of_mem _ hw)
      · exact zthrow_o1 w (List.mem_cons_of_mem _ hw)
  have hend : ∀ t : State, s.vm.Alike t.vm → t.heap.size = H.size + 1 → (∀ q : Nat, q < H.size → t.heap[q]? = H[q]?) → zQx g (zQs Q) (zEx x) s t := by
    intro t _ h1 h2
    refine ⟨zmk (S.1 + 1, S.2.1, S.2.2), ⟨_, rfl, h⟩, ?_⟩
    refine a7.new (M' := zmk (S.1 + 1, S.2.1, S.2.2)) rfl q5 (fun _ _ => rfl) h1 h2 (fun _ _ => rfl) (fun _ _ => rfl) (fun _ _ => rfl) (fun hn => ?_)
    have hlt2 := (a7.2.2 (zmk S).1 hn).1
    exact absurd hlt2 (Nat.lt_irrefl _)
  have hout : ∀ k, ∀ x ∈ c.exceptionTable.toList, covers x k = false := by
    intro k x hx
    rw [ht, hh] at hx
    cases hx
  have hcat := zcat g st
  rcases hx with ⟨rfl, rfl⟩ | ⟨rfl, rfl⟩
  · rcases dw with ⟨-, d4, d6, d9⟩ | ⟨-, d4, d6, d9⟩
    · exact zx_throwS (cc := f.2.1) (own := RX11) (cls := "java/lang/IllegalArgumentException") (text := q.2.2.1) (names := ["java/lang/RuntimeException", "java/lang/Exception"]) (A := fun q => g.2.2.1 ≤ q) hxx hcb hlt hown2 (by decide +kernel) (by decide +kernel) hk2 hini hstr hat hgd hU hN hS (a8.1.trans hml.symm) d0 d3 d4 d6 d9 (hout _) (by show 2 + 3 < R.frames; omega) (by rw [hcat]; show _ + (13 * (2 + 1) + 43) ≤ R.locals; omega) (by omega) (by omega) hlocks hend a6 (by omega) (by omega) T hT X
    · exact zx_throwSW (cc := f.2.1) (own := RX11) (cls := "java/lang/IllegalArgumentException") (text := q.2.2.1) (names := ["java/lang/RuntimeException", "java/lang/Exception"]) (A := fun q => g.2.2.1 ≤ q) hxx hcb hlt hown2 (by decide +kernel) (by decide +kernel) hk2 hini hstr hat hgd hU hN hS (a8.1.trans hml.symm) d0 d3 d4 d6 d9 (hout _) (by show 2 + 3 < R.frames; omega) (by rw [hcat]; show _ + (13 * (2 + 1) + 43) ≤ R.locals; omega) (by omega) (by omega) hlocks hend a6 (by omega) (by omega) T hT X
  · rcases dw with ⟨-, d4, d6, d9⟩ | ⟨-, d4, d6, d9⟩
    · exact zy_throwS (cc := f.2.1) (own := RX11) (text := q.2.2.1) (A := fun q => g.2.2.1 ≤ q) hxx hcb hlt hown2 hk2 hini hstr hat hgd hU hN hS (a8.1.trans hml.symm) d0 d3 d4 d6 d9 (hout _) (by omega) (by rw [hcat]; omega) (by omega) (by omega) hlocks hend a6 (by omega) (by omega) T hT X
    · exact zy_throwSW (cc := f.2.1) (own := RX11) (text := q.2.2.1) (A := fun q => g.2.2.1 ≤ q) hxx hcb hlt hown2 hk2 hini hstr hat hgd hU hN hS (a8.1.trans hml.symm) d0 d3 d4 d6 d9 (hout _) (by omega) (by rw [hcat]; omega) (by omega) (by omega) hlocks hend a6 (by omega) (by omega) T hT X
end
