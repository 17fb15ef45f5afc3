/-! CALLS AND THROWS over a memory -/
def zEx (x : Nat) : String := match x with
  | 0 => "java/lang/IllegalArgumentException"
  | _ => "java/util/NoSuchElementException"
def zMa (f : zF) (pc : Nat) (y : MethodName) : Prop := ∃ idx : Nat, decode f.2.1 pc = .ok (.invokestatic idx, 3) ∧ Cond.methodLink (zown f.1) idx y ∈ zws
/-- a row copied, from its beginning -/
def zcpM (M : zM) (a b n : Nat) : zM := (M.1, M.2.1, M.2.2.1, fun c j => bif c == b && Nat.blt j n then M.2.2.2.1 a j else M.2.2.2.1 c j, M.2.2.2.2)
theorem zvx_met {l : Launch} {y : MethodName} {ws : List Cond} {rm : Room} {Pc : Array Value → State → Prop} {Qc : Array Value → State → Outcome → State → Prop} {XC : String → State → State → Prop} {mc ms : Nat} {free : Addr → Prop} (h : vx_Met l y ws rm Pc Qc XC mc ms free) (hx : ∀ E st t, ¬ XC E st t) : Met l y ws rm Pc Qc mc ms free := by
  intro p e ha hc hk s m args below hf happ hP hK
  obtain ⟨n, o, h1, h2, h3, h4⟩ := h p e ha hc hk s m args below hf happ hP hK
  refine ⟨n, o, h1, h2, h3, ?_⟩
  rcases h4 with h4 | ⟨q, ho, E, ce, L, h5, -⟩
  · exact h4
  · exact absurd h5 (hx _ _ _)
theorem zmw_min : Cond.static Lib.Math.min.name ∈ zws ∧ Cond.code Lib.Math.min.name Lib.Math.min.code 2 (some .int) ∈ zws := ⟨z_at 618 (by decide +kernel) (by decide +kernel), z_at 619 (by decide +kernel) (by decide +kernel)⟩
theorem zmw_max : Cond.static Lib.Math.max.name ∈ zws ∧ Cond.code Lib.Math.max.name Lib.Math.max.code 2 (some .int) ∈ zws := ⟨z_at 985 (by decide +kernel) (by decide +kernel), z_at 986 (by decide +kernel) (by decide +kernel)⟩
theorem zmw_abs : Cond.static Lib.Math.abs.name ∈ zws ∧ Cond.code Lib.Math.abs.name Lib.Math.abs.code 1 (some .int) ∈ zws := ⟨z_at 1232 (by decide +kernel) (by decide +kernel), z_at 1233 (by decide +kernel) (by decide +kernel)⟩
theorem zmw_i : Cond.initialized "java/lang/Math" ∈ zws := z_at 18 (by decide +kernel) (by decide +kernel)
theorem zmw_c : Cond.static arraycopyName ∈ zws ∧ Cond.native arraycopyName ∈ zws ∧ Cond.initialized "java/lang/System" ∈ zws := ⟨z_at 533 (by decide +kernel) (by decide +kernel), z_at 534 (by decide +kernel) (by decide +kernel), z_at 24 (by decide +kernel) (by decide +kernel)⟩
theorem znat : nativeFrameWords "java/lang/System" "arraycopy" 5 + 11 ≤ 29 := by decide +kernel
def zthrow (ic : Nat) (x : Nat) : List Cond := match x with
  | 0 => vx_atS RX11 ic "java/lang/IllegalArgumentException" ["java/lang/RuntimeException", "java/lang/Exception"]
  | _ => (zyAtoms RX11 ic).filter vx_no
set_option maxRecDepth 100000 in
theorem zthrow_g0 : ∀ w ∈ (zthrow 131 0).filter goodWord, w ∈ lw_tbl := by decide +kernel
set_option maxRecDepth 100000 in
theorem zthrow_g1 : ∀ w ∈ (zthrow 178 1).filter goodWord, w ∈ lw_tbl := by decide +kernel
theorem zthrow_b0 : ∀ w ∈ (zthrow 131 0).filter (fun w => !goodWord w), w ∈ Cond.castable "java/lang/IllegalArgumentException" "java/lang/IllegalArgumentException" :: zDecl := by decide +kernel
theorem zthrow_b1 : ∀ w ∈ (zthrow 178 1).filter (fun w => !goodWord w), w ∈ Cond.castable "java/util/NoSuchElementException" "java/util/NoSuchElementException" :: zDecl := by decide +kernel
theorem zDecl_t : ∀ w ∈ zDecl, w.onTables = true := by decide +kernel
theorem zthrow_o0 : ∀ w ∈ Cond.classLink RX11 127 (zEx 0) :: Cond.initialized (zEx 0) :: zthrow 131 0, vx_ot w = true := by decide +kernel
theorem zthrow_o1 : ∀ w ∈ Cond.classLink RX11 174 (zEx 1) :: Cond.initialized (zEx 1) :: zthrow 178 1, vx_ot w = true := by decide +kernel
section
variable {l : Launch} {d mc ms : Nat} {f : zF} {M : zM} {pc : Nat} {lo : List (Nat × Value)} {st : List Value} {Q : zR → zM → Prop}
theorem zs_throw {x w ik is ic : Nat} (ho : f.1 = 11) (hh : f.2.2.2.2.1 = []) (hk : Cond.classLink (zown f.1) ik (zEx x) ∈ zws) (htx : ∃ (i : Nat) (q : String × Nat × String × List Int32), zTx[i]? = some q ∧ q.1 = zown f.1 ∧ q.2.1 = is) (d0 : decode f.2.1 pc = .ok (.new ik, 3)) (d3 : decode f.2.1 (pc + 3) = .ok (.dup, 1))
    (dw : (w = 0 ∧ decode f.2.1 (pc + 4) = .ok (.ldc is, 2) ∧ decode f.2.1 (pc + 6) = .ok (.invokespecial ic, 3) ∧ decode f.2.1 (pc + 9) = .ok (.athrow, 1)) ∨ (w = 1 ∧ decode f.2.1 (pc + 4) = .ok (.ldc_w is, 3) ∧ decode f.2.1 (pc + 7) = .ok (.invokespecial ic, 3) ∧ decode f.2.1 (pc + 10) = .ok (.athrow, 1)))
    (hx : (x = 0 ∧ ic = 131) ∨ (x = 1 ∧ ic = 178)) (hq : (Nat.ble 6 d && (Nat.ble 1 mc && (Nat.ble 6 ms && Nat.ble ((st.map Value.category).sum) 8))) = true) (hM9 : (M.2.1 M.1).1 = 9) (h : Q (.inr (zEx x)) (M.1 + 1, M.2)) : zGo l d mc ms f M pc lo st Q := by
  intro g p e R s m args below meth c H locs cells slots ls hC a2 a3 a4 a5 a6 a7 a8 T hT X
  simp only [Bool.and_eq_true, Nat.ble_eq, Nat.blt_eq] at hq
  obtain ⟨q1, q2, q3, q4⟩ := hq
  obtain ⟨hxx, hcb, hr, hml, hown, hlocks, hts, hw, ht, hin, hB⟩ := id hC
  obtain ⟨f1, f2⟩ := vx_frame (U := T) X.same
  have hS : va_S (fun q => g.2.2.1 ≤ q) s.heap H locs := ⟨by rw [← hT]; exact f1, fun q h1 h2 => by rw [← hT]; exact f2 q h1 (fun z hz e => h2 (by rw [← e]; exact a6 z hz)), a6⟩
  have hag : ∀ q, q < g.2.2.1 → s.heap[q]? = g.2.2.2.2[q]? := fun q hq => by rw [← hS.2.1 q (by omega) (by omega)]; exact a7.2.1 q hq
  have hsz0 := hw.2.1
  have hU := (hw.2.2.2.1).kept (H1 := s.heap) (fun a h1 h2 => hag a (by omega))
  have hN := (hw.2.2.2.2.1).kept (H1 := s.heap) (fun a h1 h2 => hag a (by omega))
  have hlt : l.stackTraces = false := hw.2.2.1
  have hown2 : s.vm.findClass RX11 = some m.cls := by rw [ho] at hown; exact hown
  have hk2 : (Cond.classLink RX11 ik (zEx x)).before args s = true := by have := hts _ hk; rw [ho] at this; exact this
  obtain ⟨i, q, hq1, hq2, hq3⟩ := htx
  have hstr : vk_R RX11 is q.2.2.1 (g.2.2.2.1 i) s := by
    have h1 := (hw.2.2.2.2.2.2.2.2.2.1 i q hq1).1
    rw [hq2, hq3, ho] at h1
    exact h1
  have hini : (Cond.initialized (zEx x)).before args s = true := by
    rcases hx with ⟨rfl, -⟩ | ⟨rfl, -⟩
    · exact hts _ (z_at 17 (by decide +kernel) (by decide +kernel))
    · exact hts _ (z_at 25 (by decide +kernel) (by decide +kernel))
  have hat : ∀ w ∈ zthrow ic x, w.before args s = true := by
    rcases hx with ⟨rfl, rfl⟩ | ⟨rfl, rfl⟩
    · refine vx_hat (fun w hw => hts w (List.mem_filter.mpr ⟨zthrow_g0 w hw, (List.mem_filter.mp hw).2⟩)) zthrow_b0 (vx_c ?_ ?_)
      · exact va_Nw.use rfl (hw.2.2.2.2.2.2.2.1 _ (by decide +kernel : (("java/lang/IllegalArgumentException", "java/lang/IllegalArgumentException") : String × String) ∈ zCast))
      · intro w hw9
        exact va_Nw.use (zDecl_t w hw9) (hw.2.2.2.2.2.2.2.2.2.2 w hw9)
    · refine vx_hat (fun w hw => hts w (List.mem_filter.mpr ⟨zthrow_g1 w hw, (List.mem_filter.mp hw).2⟩)) zthrow_b1 (vx_c ?_ ?_)
      · exact va_Nw.use rfl (hw.2.2.2.2.2.2.2.1 _ (by decide +kernel : (("java/util/NoSuchElementException", "java/util/NoSuchElementException") : String × String) ∈ zCast))
      · intro w hw9
        exact va_Nw.use (zDecl_t w hw9) (hw.2.2.2.2.2.2.2.2.2.2 w hw9)
  have hgd : ∀ w ∈ Cond.classLink RX11 ik (zEx x) :: Cond.initialized (zEx x) :: zthrow ic x, vx_ot w = true := by
    intro w hw
    rcases List.mem_cons.mp hw with rfl | hw
    · rfl
    · rcases hx with ⟨rfl, rfl⟩ | ⟨rfl, rfl⟩
      · exact zthrow_o0 w (List.mem_cons_of_mem _ hw)
      · exact zthrow_o1 w (List.mem_cons_of_mem _ hw)
  have hend : ∀ t : State, s.vm.Alike t.vm → t.heap.size = H.size + 1 → (∀ q : Nat, q < H.size → t.heap[q]? = H[q]?) → zQx g Q (zEx x) s t := by
    intro t _ h1 h2
    refine ⟨(M.1 + 1, M.2), h, ?_⟩
    exact a7.new (M' := (M.1 + 1, M.2)) rfl (fun hn => absurd hM9 hn) (fun _ _ => rfl) h1 h2 (fun _ _ => rfl) (fun _ _ => rfl) (fun _ _ => rfl) (fun hn => absurd hM9 hn)
  have hout : ∀ k, ∀ x ∈ c.exceptionTable.toList, covers x k = false := by
    intro k x hx
    rw [ht, hh] at hx
    cases hx
  have hcat := zcat g st
  rcases hx with ⟨rfl, rfl⟩ | ⟨rfl, rfl⟩
  · rcases dw with ⟨-, d4, d6, d9⟩ | ⟨-, d4, d6, d9⟩
    · exact zx_throwS (cc := f.2.1) (own := RX11) (cls := "java/lang/IllegalArgumentException") (text := q.2.2.1) (names := ["java/lang/RuntimeException", "java/lang/Exception"]) (A := fun q => g.2.2.1 ≤ q) hxx hcb hlt hown2 (by decide +kernel) (by decide +kernel) hk2 hini hstr hat hgd hU hN hS (a8.1.trans hml.symm) d0 d3 d4 d6 d9 (hout _) (by show 2 + 3 < R.frames; omega) (by rw [hcat]; show _ + (13 * (2 + 1) + 43) ≤ R.locals; omega) (by omega) (by omega) hlocks hend a6 (by omega) (by omega) T hT X
    · exact zx_throwSW (cc := f.2.1) (own := RX11) (cls := "java/lang/IllegalArgumentException") (text := q.2.2.1) (names := ["java/lang/RuntimeException", "java/lang/Exception"]) (A := fun q => g.2.2.1 ≤ q) hxx hcb hlt hown2 (by decide +kernel) (by decide +kernel) hk2 hini hstr hat hgd hU hN hS (a8.1.trans hml.symm) d0 d3 d4 d6 d9 (hout _) (by show 2 + 3 < R.frames; omega) (by rw [hcat]; show _ + (13 * (2 + 1) + 43) ≤ R.locals; omega) (by omega) (by omega) hlocks hend a6 (by omega) (by omega) T hT X
  · rcases dw with ⟨-, d4, d6, d9⟩ | ⟨-, d4, d6, d9⟩
    · exact zy_throwS (cc := f.2.1) (own := RX11) (text := q.2.2.1) (A := fun q => g.2.2.1 ≤ q) hxx hcb hlt hown2 hk2 hini hstr hat hgd hU hN hS (a8.1.trans hml.symm) d0 d3 d4 d6 d9 (hout _) (by omega) (by rw [hcat]; omega) (by omega) (by omega) hlocks hend a6 (by omega) (by omega) T hT X
    · exact zy_throwSW (cc := f.2.1) (own := RX11) (text := q.2.2.1) (A := fun q => g.2.2.1 ≤ q) hxx hcb hlt hown2 hk2 hini hstr hat hgd hU hN hS (a8.1.trans hml.symm) d0 d3 d4 d6 d9 (hout _) (by omega) (by rw [hcat]; omega) (by omega) (by omega) hlocks hend a6 (by omega) (by omega) T hT X
theorem zs_min {x y : Int32} (hm : zMa f pc Lib.Math.min.name) (hq : (Nat.ble 1 d && Nat.ble ((st.map Value.category).sum) 8) = true) (h : zGo l d mc ms f M (pc + 3) lo (.int (if y < x then y else x) :: st) Q) : zGo l d mc ms f M pc lo (.int y :: .int x :: st) Q := by
  intro g p e R s m args below meth c H locs cells slots ls hC a2 a3 a4 a5 a6 a7 a8
  simp only [Bool.and_eq_true, Nat.ble_eq] at hq
  obtain ⟨q1, q2⟩ := hq
  obtain ⟨idx, hd, hl⟩ := hm
  have hcat := zcat g st
  exact va_mmin hC.1 hC.2.1 (hC.2.2.2.1.trans a8.1.symm) hC.2.2.2.2.1 (hC.2.2.2.2.2.2.1 _ hl) (hC.2.2.2.2.2.2.1 _ zmw_min.1) (hC.2.2.2.2.2.2.1 _ zmw_i) (hC.2.2.2.2.2.2.1 _ zmw_min.2) (by omega) (by rw [hcat]; omega) (by omega) (by omega) hd
    (h g p e R s m args below meth c H locs cells slots ls hC a2 a3 a4 a5 a6 a7 a8)
theorem zs_max {x y : Int32} (hm : zMa f pc Lib.Math.max.name) (hq : (Nat.ble 1 d && Nat.ble ((st.map Value.category).sum) 8) = true) (h : zGo l d mc ms f M (pc + 3) lo (.int (if x < y then y else x) :: st) Q) : zGo l d mc ms f M pc lo (.int y :: .int x :: st) Q := by
  intro g p e R s m args below meth c H locs cells slots ls hC a2 a3 a4 a5 a6 a7 a8
  simp only [Bool.and_eq_true, Nat.ble_eq] at hq
  obtain ⟨q1, q2⟩ := hq
  obtain ⟨idx, hd, hl⟩ := hm
  have hcat := zcat g st
  exact va_mmax hC.1 hC.2.1 (hC.2.2.2.1.trans a8.1.symm) hC.2.2.2.2.1 (hC.2.2.2.2.2.2.1 _ hl) (hC.2.2.2.2.2.2.1 _ zmw_max.1) (hC.2.2.2.2.2.2.1 _ zmw_i) (hC.2.2.2.2.2.2.1 _ zmw_max.2) (by omega) (by rw [hcat]; omega) (by omega) (by omega) hd
    (h g p e R s m args below meth c H locs cells slots ls hC a2 a3 a4 a5 a6 a7 a8)
theorem zs_abs {x : Int32} (hm : zMa f pc Lib.Math.abs.name) (hq : (Nat.ble 1 d && Nat.ble ((st.map Value.category).sum) 8) = true) (h : zGo l d mc ms f M (pc + 3) lo (.int (if 0 ≤ x then x else 0 - x) :: st) Q) : zGo l d mc ms f M pc lo (.int x :: st) Q := by
  intro g p e R s m args below meth c H locs cells slots ls hC a2 a3 a4 a5 a6 a7 a8
  simp only [Bool.and_eq_true, Nat.ble_eq] at hq
  obtain ⟨q1, q2⟩ := hq
  obtain ⟨idx, hd, hl⟩ := hm
  have hcat := zcat g st
  exact va_mabs hC.1 hC.2.1 (hC.2.2.2.1.trans a8.1.symm) hC.2.2.2.2.1 (hC.2.2.2.2.2.2.1 _ hl) (hC.2.2.2.2.2.2.1 _ zmw_abs.1) (hC.2.2.2.2.2.2.1 _ zmw_i) (hC.2.2.2.2.2.2.1 _ zmw_abs.2) (by omega) (by rw [hcat]; omega) (by omega) (by omega) hd
    (h g p e R s m args below meth c H locs cells slots ls hC a2 a3 a4 a5 a6 a7 a8)
theorem zs_copy {a b : Nat} {n : Int32} (hm : zMa f pc arraycopyName) (hq : (Nat.ble 1 d && Nat.ble ((st.map Value.category).sum) 8) = true) (hka : ((M.2.1 a).1 == 1) = true) (hkb : ((M.2.1 b).1 == 1) = true) (hab : (!(a == b)) = true) (h0 : ¬ n < 0) (h4 : n.toNatClampNeg ≤ (M.2.1 a).2) (h5 : n.toNatClampNeg ≤ (M.2.1 b).2)
    (h : zGo l d mc ms f (zcpM M a b n.toNatClampNeg) (pc + 3) lo st Q) : zGo l d mc ms f M pc lo (.int n :: .int 0 :: .ref b :: .int 0 :: .ref a :: st) Q := by
  intro g p e R s m args below meth c H locs cells slots ls hC a2 a3 a4 a5 a6 a7 a8
  simp only [Bool.and_eq_true, Nat.ble_eq] at hq
  obtain ⟨r1, r2⟩ := hq
  obtain ⟨idx, hd, hl⟩ := hm
  have hcat := zcat g st
  have hka := zkk (M := M) (c := a) (a := 1) hka
  have hkb := zkk (M := M) (c := b) (a := 1) hkb
  have hne : a ≠ b := by simpa using hab
  obtain ⟨hlta, hada, hca⟩ := a7.cell a hka (by decide)
  obtain ⟨hltb, hadb, hcb⟩ := a7.cell b hkb (by decide)
  unfold zcell at hca hcb
  rw [hka] at hca
  rw [hkb] at hcb
  have nn : ∀ z : Int32, ¬ z < 0 → z.toInt = (z.toNatClampNeg : Int) := by
    intro z hz
    have hz0 : (0 : Int) ≤ z.toInt := by
      have := Int32.not_lt.mp hz
      simpa using Int32.le_iff_toInt_le.mp this
    show z.toInt = ((z.toInt.toNat : Nat) : Int)
    omega
  have hz0 : ¬ (0 : Int32) < 0 := by decide
  show W p l e R s m args below meth c H locs cells slots _ (F0 m pc ls (.int n :: .int 0 :: .ref (zad g b) :: .int 0 :: .ref (zad g a) :: st.map (zc g)))
  rw [hada, hadb]
  intro T hT X
  obtain ⟨-, k0, hk0, cm0, hkk0⟩ := (hC.2.2.2.2.2.2.2.1.1.2 0 _ rfl).1 (M.2.1 a).2 (fun j => .int (M.2.2.2.1 a j))
  obtain ⟨-, k1, hk1, cm1, hkk1⟩ := (hC.2.2.2.2.2.2.2.1.1.2 0 _ rfl).1 (M.2.1 b).2 (fun j => .int (M.2.2.2.1 b j))
  obtain ⟨vm', X', step⟩ := X.arraycopy hC.1 hC.2.2.2.2.1 (hC.2.2.2.2.2.2.1 _ hl) (hC.2.2.2.2.2.2.1 _ zmw_c.2.1) (hC.2.2.2.2.2.2.1 _ zmw_c.1) (hC.2.2.2.2.2.2.1 _ zmw_c.2.2) (src := g.2.2.1 + a) (dst := g.2.2.1 + b) (cs := arrV g.2.1.1 (M.2.1 a).2 (fun j => .int (M.2.2.2.1 a j))) (cd := arrV g.2.1.1 (M.2.1 b).2 (fun j => .int (M.2.2.2.1 b j))) (srcPos := 0) (destPos := 0) (n := n) (by rw [hT]; exact hca) (by rw [hT]; exact hcb)
    (fun _ h => by cases h) (fun _ h => by cases h) (fun h => by cases h) (fun h => by cases h) hk0 hk1 hkk0 hkk1 (by simp [show refKind .int = false from rfl]) hz0 hz0 h0
    (by rw [nn 0 hz0, nn n h0, arrV_size]; simp [sb_cl0]; omega)
    (by rw [nn 0 hz0, nn n h0, arrV_size]; simp [sb_cl0]; omega)
    (fun vm₁ _ i hi => by
      have e : (arrV g.2.1.1 (M.2.1 a).2 (fun j => .int (M.2.2.2.1 a j))).slots.getD ((0 : Int32).toNatClampNeg + i) .null = .int (M.2.2.2.1 a i) := by
        rw [Array.getD_eq_getD_getElem?, sb_cl0, Nat.zero_add, arrV_read _ _ (by omega)]
        rfl
      refine ⟨?_, ?_⟩
      · rw [e]
        rfl
      · rw [e]
        exact trivial)
    (g := F0 m pc ls (.int n :: .int 0 :: .ref (g.2.2.1 + b) :: .int 0 :: .ref (g.2.2.1 + a) :: st.map (zc g))) rfl (a8.1.trans hC.2.2.2.1.symm) (rest := st.map (zc g)) rfl (by rw [hC.2.1]; exact hd) (by omega) (by have := znat; show 2 * 0 + _ + _ ≤ _; rw [hcat]; omega)
  have e1 : copied (arrV g.2.1.1 (M.2.1 a).2 (fun j => .int (M.2.2.2.1 a j))) (arrV g.2.1.1 (M.2.1 b).2 (fun j => .int (M.2.2.2.1 b j))) 0 0 n = vp_cell g.2.1.1 ((M.2.1 b).2, .inl (va_cpy (M.2.2.2.1 a) (M.2.2.2.1 b) (0 : Int32).toNatClampNeg (0 : Int32).toNatClampNeg n.toNatClampNeg)) := va_copied (fun z => .int z) g.2.1.1 g.2.1.1 (M.2.2.2.1 a) (M.2.2.2.1 b) (by rw [sb_cl0]; omega)
  rw [e1] at X' step
  have hlB : g.2.2.1 + b < H.size := (Array.getElem?_eq_some_iff.mp hcb).1
  have hheap : ((T.setVm vm').setCell (g.2.2.1 + b) (vp_cell g.2.1.1 ((M.2.1 b).2, .inl (va_cpy (M.2.2.2.1 a) (M.2.2.2.1 b) (0 : Int32).toNatClampNeg (0 : Int32).toNatClampNeg n.toNatClampNeg)))).heap = H.setIfInBounds (g.2.2.1 + b) (vp_cell g.2.1.1 ((M.2.1 b).2, .inl (va_cpy (M.2.2.2.1 a) (M.2.2.2.1 b) (0 : Int32).toNatClampNeg (0 : Int32).toNatClampNeg n.toNatClampNeg))) := by rw [← hT]; rfl
  have hz : zH g (zcpM M a b n.toNatClampNeg) (H.setIfInBounds (g.2.2.1 + b) (vp_cell g.2.1.1 ((M.2.1 b).2, .inl (va_cpy (M.2.2.2.1 a) (M.2.2.2.1 b) (0 : Int32).toNatClampNeg (0 : Int32).toNatClampNeg n.toNatClampNeg)))) := by
    refine a7.put b rfl rfl (by simp) (fun q hq => by simp [Array.getElem?_setIfInBounds, Ne.symm hq]) hltb (fun _ _ => rfl) (fun y hy => ?_) (fun _ _ => rfl) ?_
    · funext j
      show (bif y == b && Nat.blt j n.toNatClampNeg then M.2.2.2.1 a j else M.2.2.2.1 y j) = M.2.2.2.1 y j
      rw [show (y == b) = false by simpa using hy]
      rfl
    · unfold zcell
      show (match M.2.1 b with | (0, ci) => _ | (1, n9) => (H.setIfInBounds (g.2.2.1 + b) _)[g.2.2.1 + b]? = some (arrV g.2.1.1 n9 (fun j => .int ((zcpM M a b n.toNatClampNeg).2.2.2.1 b j))) | (2, n9) => _ | (3, n9) => _ | _ => _)
      rw [show M.2.1 b = (1, (M.2.1 b).2) from hkb]
      show (H.setIfInBounds (g.2.2.1 + b) _)[g.2.2.1 + b]? = some (arrV g.2.1.1 (M.2.1 b).2 (fun j => .int ((zcpM M a b n.toNatClampNeg).2.2.2.1 b j)))
      rw [Array.getElem?_setIfInBounds_self_of_lt hlB, vp_cell_i]
      congr 2
      funext j
      congr 1
      show va_cpy _ _ _ _ _ j = (bif b == b && Nat.blt j n.toNatClampNeg then _ else _)
      unfold va_cpy
      rw [sb_cl0, Nat.zero_add, Nat.zero_add, Nat.sub_zero]
      by_cases hj : j < n.toNatClampNeg
      · rw [if_pos ⟨Nat.zero_le _, hj⟩, beq_self_eq_true, Bool.true_and, show Nat.blt j n.toNatClampNeg = true from Nat.blt_eq.mpr hj]
        rfl
      · rw [if_neg (fun z => hj z.2), beq_self_eq_true, Bool.true_and, show Nat.blt j n.toNatClampNeg = false by
          cases hb : Nat.blt j n.toNatClampNeg
          · rfl
          · exact absurd (Nat.blt_eq.mp hb) hj]
        rfl
  have hk := fun (L : List Loc) (hL : ∀ q ∈ L, g.2.2.1 ≤ q.base) => h g p e R s m args below meth c _ (locs ++ L) cells slots ls hC a2 a3 a4 a5 (fun q hq => (List.mem_append.mp hq).elim (a6 q) (hL q)) hz a8
  obtain ⟨t, b1, b2⟩ := hk _ (fun q hq => by
      obtain ⟨z, -, hz⟩ := List.mem_map.mp hq
      rw [← hz]
      exact Nat.le_add_right _ _) _ hheap X'
  exact ⟨t, step t b1, b2⟩
theorem zs_nest (d' mc' ms' : Nat) {idx n nL : Nat} {y : MethodName} {cc : ByteArray} {ret : Option FieldType} {host : String} {a rest : List Value} {Qc : zR → zM → Prop} (hd : decode f.2.1 pc = .ok (.invokestatic idx, 3)) (hl : Cond.methodLinkNest (zown f.1) idx y host ∈ zNest) (hm : zMth y (.code y cc nL ret) n) (hi : Cond.static y ∈ zws)
    (hst : st = a.reverse ++ rest) (hn : a.length = n) (hq : (Nat.ble (d' + 1) d && Nat.ble nL 18 && Nat.ble mc' mc && Nat.ble ms' ms && Nat.ble ((rest.map Value.category).sum) 8) = true)
    (hR : zRet l d' mc' ms' y (.code y cc nL ret) a M Qc) (hx : ∀ E M', ¬ Qc (.inr E) M')
    (k : ∀ v M', Qc (.inl v) M' → zGo l d (mc - mc') (ms - ms') f M' (pc + 3) lo (v.toList ++ rest) Q) : zGo l d mc ms f M pc lo st Q := by
  intro g p e R s m args below meth c H locs cells slots ls hC a2 a3 a4 a5 a6 a7 a8
  simp only [Bool.and_eq_true, Nat.ble_eq] at hq
  obtain ⟨⟨⟨⟨q1, q2⟩, q3⟩, q4⟩, q5⟩ := hq
  subst hst
  obtain ⟨hxx, hcb, hr, hml, hown, hlocks, hts, hw, ht, hin⟩ := id hC
  have hno : ∀ E st t, ¬ zQx g Qc E st t := by
    rintro E st t ⟨M', hq, -⟩
    exact hx E M' hq
  obtain ⟨m1, m2, m3, m4⟩ := id hm
  have hrun := va_runSN (l := l) (R := R) (H := H) (p := p) (e := e) (below := below) (meth := meth) (locs := locs) (cells := cells) (slots := slots) (g := F0 m pc ls ((a.reverse ++ rest).map (zc g))) (As := a.map (zc g)) (rest := rest.map (zc g)) (Ts := zws) (n := n) (host := host) ⟨hxx, hcb, hml, hown, hts⟩ (zvx_met (hR g) hno)
    ⟨⟨⟨rfl, rfl, by show d' + 1 ≤ R.frames; omega, by show 8 + (nL + 11) + 37 * d' ≤ R.locals; omega, fun w hw => (by
        rcases List.mem_cons.mp hw with rfl | hw
        · exact zwarm hts _ m1
        · exact zwarm hts _ hw), List.mem_cons_self⟩, hts _ m1, hts _ m2, m3, fun sig h => (by rw [h] at m4; exact (Option.some.inj m4).symm), va_Nw.use rfl (hw.2.2.2.2.2.2.1 _ hl)⟩, hts _ hi, trivial⟩
    ⟨zblind, fun U hU hW => ⟨rfl, zW.warm hW hw, by rw [hU]; exact a7⟩⟩
    rfl (by rw [List.length_map]; exact hn) a8.1 (by simp) (by rw [zcat]; show 2 * 0 + _ ≤ 8; omega) hd ⟨by omega, by omega⟩
  exact zback (fun T hT X => Or.inl (hrun T hT X)) hC a2 a3 a4 a5 a6 a8 q3 q4 k (fun E M' ce q9 H1 locs1 hqx => absurd hqx (hx E M'))
end
