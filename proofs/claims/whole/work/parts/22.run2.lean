section
variable {l : Launch} {d mc ms : Nat} {f : zF} {S : zS} {pc : Nat} {lo : List (Nat × Value)} {st : List Value} {Q : zR → zS → Prop}
theorem zs_min {x y : Int32} (hm : zMa f pc Lib.Math.min.name) (hq : zrq d mc ms 0 0 0 st = true) (h : zGs l d mc ms f S (pc + 3) lo (.int (if y < x then y else x) :: st) Q) : zGs l d mc ms f S pc lo (.int y :: .int x :: st) Q := by
  intro g p e R s m args below meth c H locs cells slots ls hC a2 a3 a4 a5 a6 a7 a8
  obtain ⟨q1, -, -, q2⟩ := zrq_ok hq
  obtain ⟨idx, hd, hl⟩ := hm
  have hcat := zcat g st
  exact va_mmin hC.1 hC.2.1 (hC.2.2.2.1.trans a8.1.symm) hC.2.2.2.2.1 (hC.2.2.2.2.2.2.1 _ hl) (hC.2.2.2.2.2.2.1 _ zmw_min.1) (hC.2.2.2.2.2.2.1 _ zmw_i) (hC.2.2.2.2.2.2.1 _ zmw_min.2) (by omega) (by rw [hcat]; omega) (by omega) (by omega) hd
    (h g p e R s m args below meth c H locs cells slots ls hC a2 a3 a4 a5 a6 a7 a8)
theorem zs_max {x y : Int32} (hm : zMa f pc Lib.Math.max.name) (hq : zrq d mc ms 0 0 0 st = true) (h : zGs l d mc ms f S (pc + 3) lo (.int (if x < y then y else x) :: st) Q) : zGs l d mc ms f S pc lo (.int y :: .int x :: st) Q := by
  intro g p e R s m args below meth c H locs cells slots ls hC a2 a3 a4 a5 a6 a7 a8
  obtain ⟨q1, -, -, q2⟩ := zrq_ok hq
  obtain ⟨idx, hd, hl⟩ := hm
  have hcat := zcat g st
  exact va_mmax hC.1 hC.2.1 (hC.2.2.2.1.trans a8.1.symm) hC.2.2.2.2.1 (hC.2.2.2.2.2.2.1 _ hl) (hC.2.2.2.2.2.2.1 _ zmw_max.1) (hC.2.2.2.2.2.2.1 _ zmw_i) (hC.2.2.2.2.2.2.1 _ zmw_max.2) (by omega) (by rw [hcat]; omega) (by omega) (by omega) hd
    (h g p e R s m args below meth c H locs cells slots ls hC a2 a3 a4 a5 a6 a7 a8)
theorem zs_abs {x : Int32} (hm : zMa f pc Lib.Math.abs.name) (hq : zrq d mc ms 0 0 0 st = true) (h : zGs l d mc ms f S (pc + 3) lo (.int (if 0 ≤ x then x else 0 - x) :: st) Q) : zGs l d mc ms f S pc lo (.int x :: st) Q := by
  intro g p e R s m args below meth c H locs cells slots ls hC a2 a3 a4 a5 a6 a7 a8
  obtain ⟨q1, -, -, q2⟩ := zrq_ok hq
  obtain ⟨idx, hd, hl⟩ := hm
  have hcat := zcat g st
  exact va_mabs hC.1 hC.2.1 (hC.2.2.2.1.trans a8.1.symm) hC.2.2.2.2.1 (hC.2.2.2.2.2.2.1 _ hl) (hC.2.2.2.2.2.2.1 _ zmw_abs.1) (hC.2.2.2.2.2.2.1 _ zmw_i) (hC.2.2.2.2.2.2.1 _ zmw_abs.2) (by omega) (by rw [hcat]; omega) (by omega) (by omega) hd
    (h g p e R s m args below meth c H locs cells slots ls hC a2 a3 a4 a5 a6 a7 a8)
theorem zs_copy {a b : Nat} {n : Int32} (hm : zMa f pc arraycopyName) (hq : zrq d mc ms 0 0 0 st = true) (hka : ((zLAY a).1 == 1) = true) (hkb : ((zLAY b).1 == 1) = true) (hab : (!(a == b)) = true) (h0 : ¬ n < 0) (h4 : n.toNatClampNeg ≤ (zLAY a).2) (h5 : n.toNatClampNeg ≤ (zLAY b).2)
    (h : zGs l d mc ms f (S.1, zcpI S.2.1 a b n.toNatClampNeg, S.2.2) (pc + 3) lo st Q) : zGs l d mc ms f S pc lo (.int n :: .int 0 :: .ref b :: .int 0 :: .ref a :: st) Q := by
  intro g p e R s m args below meth c H locs cells slots ls hC a2 a3 a4 a5 a6 a7 a8
  obtain ⟨r1, -, -, r2⟩ := zrq_ok hq
  obtain ⟨idx, hd, hl⟩ := hm
  have hcat := zcat g st
  have hka := zkk (M := zmk S) (c := a) (a := 1) hka
  have hkb := zkk (M := zmk S) (c := b) (a := 1) hkb
  have hne : a ≠ b := by simpa using hab
  obtain ⟨hlta, hada, hca⟩ := a7.cell a hka (by decide)
  obtain ⟨hltb, hadb, hcb⟩ := a7.cell b hkb (by decide)
  unfold zcell at hca hcb
  rw [hka] at hca
  rw [hkb] at hcb
  have nn : ∀ z : Int32, ¬ z < 0 → z.toInt = (z.toNatClampNeg : Int) := by
    intro z hz
    have hz0 : (0 : Int) ≤ z.toInt := by
      have := Int32.not_lt.mp hz
      simpa using Int32.le_iff_toInt_le.mp this
    show z.toInt = ((z.toInt.toNat : Nat) : Int)
    omega
  have hz0 : ¬ (0 : Int32) < 0 := by decide
  show W p l e R s m args below meth c H locs cells slots _ (F0 m pc ls (.int n :: .int 0 :: .ref (zad g b) :: .int 0 :: .ref (zad g a) :: st.map (zc g)))
  rw [hada, hadb]
  intro T hT X
  obtain ⟨-, k0, hk0, cm0, hkk0⟩ := (hC.2.2.2.2.2.2.2.1.1.2 0 _ rfl).1 (zLAY a).2 (fun j => .int (S.2.1 a j))
  obtain ⟨-, k1, hk1, cm1, hkk1⟩ := (hC.2.2.2.2.2.2.2.1.1.2 0 _ rfl).1 (zLAY b).2 (fun j => .int (S.2.1 b j))
  obtain ⟨vm', X', step⟩ := X.arraycopy hC.1 hC.2.2.2.2.1 (hC.2.2.2.2.2.2.1 _ hl) (hC.2.2.2.2.2.2.1 _ zmw_c.2.1) (hC.2.2.2.2.2.2.1 _ zmw_c.1) (hC.2.2.2.2.2.2.1 _ zmw_c.2.2) (src := g.2.2.1 + a) (dst := g.2.2.1 + b) (cs := arrV g.2.1.1 (zLAY a).2 (fun j => .int (S.2.1 a j))) (cd := arrV g.2.1.1 (zLAY b).2 (fun j => .int (S.2.1 b j))) (srcPos := 0) (destPos := 0) (n := n) (by rw [hT]; exact hca) (by rw [hT]; exact hcb)
    (fun _ h => by cases h) (fun _ h => by cases h) (fun h => by cases h) (fun h => by cases h) hk0 hk1 hkk0 hkk1 (by simp [show refKind .int = false from rfl]) hz0 hz0 h0
    (by rw [nn 0 hz0, nn n h0, arrV_size]; simp [sb_cl0]; omega)
    (by rw [nn 0 hz0, nn n h0, arrV_size]; simp [sb_cl0]; omega)
    (fun vm₁ _ i hi => by
      have e : (arrV g.2.1.1 (zLAY a).2 (fun j => .int (S.2.1 a j))).slots.getD ((0 : Int32).toNatClampNeg + i) .null = .int (S.2.1 a i) := by
        rw [Array.getD_eq_getD_getElem?, sb_cl0, Nat.zero_add, arrV_read _ _ (by omega)]
        rfl
      refine ⟨?_, ?_⟩
      · rw [e]
        rfl
      · rw [e]
        exact trivial)
    (g := F0 m pc ls (.int n :: .int 0 :: .ref (g.2.2.1 + b) :: .int 0 :: .ref (g.2.2.1 + a) :: st.map (zc g))) rfl (a8.1.trans hC.2.2.2.1.symm) (rest := st.map (zc g)) rfl (by rw [hC.2.1]; exact hd) (by omega) (by have := znat; show 2 * 0 + _ + _ ≤ _; rw [hcat]; omega)
  have e1 : copied (arrV g.2.1.1 (zLAY a).2 (fun j => .int (S.2.1 a j))) (arrV g.2.1.1 (zLAY b).2 (fun j => .int (S.2.1 b j))) 0 0 n = vp_cell g.2.1.1 ((zLAY b).2, .inl (va_cpy (S.2.1 a) (S.2.1 b) (0 : Int32).toNatClampNeg (0 : Int32).toNatClampNeg n.toNatClampNeg)) := va_copied (fun z => .int z) g.2.1.1 g.2.1.1 (S.2.1 a) (S.2.1 b) (by rw [sb_cl0]; omega)
  rw [e1] at X' step
  have hlB : g.2.2.1 + b < H.size := (Array.getElem?_eq_some_iff.mp hcb).1
  have hheap : ((T.setVm vm').setCell (g.2.2.1 + b) (vp_cell g.2.1.1 ((zLAY b).2, .inl (va_cpy (S.2.1 a) (S.2.1 b) (0 : Int32).toNatClampNeg (0 : Int32).toNatClampNeg n.toNatClampNeg)))).heap = H.setIfInBounds (g.2.2.1 + b) (vp_cell g.2.1.1 ((zLAY b).2, .inl (va_cpy (S.2.1 a) (S.2.1 b) (0 : Int32).toNatClampNeg (0 : Int32).toNatClampNeg n.toNatClampNeg))) := by rw [← hT]; rfl
  have hz : zH g (zmk (S.1, zcpI S.2.1 a b n.toNatClampNeg, S.2.2)) (H.setIfInBounds (g.2.2.1 + b) (vp_cell g.2.1.1 ((zLAY b).2, .inl (va_cpy (S.2.1 a) (S.2.1 b) (0 : Int32).toNatClampNeg (0 : Int32).toNatClampNeg n.toNatClampNeg)))) := by
    refine a7.put b rfl rfl (by simp) (fun q hq => by simp [Array.getElem?_setIfInBounds, Ne.symm hq]) hltb (fun _ _ => rfl) (fun y hy => ?_) (fun _ _ => rfl) ?_
    · funext j
      show (bif y == b && Nat.blt j n.toNatClampNeg then S.2.1 a j else S.2.1 y j) = S.2.1 y j
      rw [show (y == b) = false by simpa using hy]
      rfl
    · unfold zcell
      show (match zLAY b with | (0, ci) => _ | (1, n9) => (H.setIfInBounds (g.2.2.1 + b) _)[g.2.2.1 + b]? = some (arrV g.2.1.1 n9 (fun j => .int (zcpI S.2.1 a b n.toNatClampNeg b j))) | (2, n9) => _ | (3, n9) => _ | _ => _)
      rw [show zLAY b = (1, (zLAY b).2) from hkb]
      show (H.setIfInBounds (g.2.2.1 + b) _)[g.2.2.1 + b]? = some (arrV g.2.1.1 (zLAY b).2 (fun j => .int (zcpI S.2.1 a b n.toNatClampNeg b j)))
      rw [Array.getElem?_setIfInBounds_self_of_lt hlB, vp_cell_i]
      congr 2
      funext j
      congr 1
      unfold va_cpy zcpI
      rw [sb_cl0, Nat.zero_add, Nat.zero_add, Nat.sub_zero]
      by_cases hj : j < n.toNatClampNeg
      · rw [if_pos ⟨Nat.zero_le _, hj⟩, beq_self_eq_true, Bool.true_and, show Nat.blt j n.toNatClampNeg = true from Nat.blt_eq.mpr hj]
        rfl
      · rw [if_neg (fun z => hj z.2), beq_self_eq_true, Bool.true_and, show Nat.blt j n.toNatClampNeg = false by
          cases hb : Nat.blt j n.toNatClampNeg
          · rfl
          · exact absurd (Nat.blt_eq.mp hb) hj]
        rfl
  have hk := fun (L : List Loc) (hL : ∀ q ∈ L, g.2.2.1 ≤ q.base) => h g p e R s m args below meth c _ (locs ++ L) cells slots ls hC a2 a3 a4 a5 (fun q hq => (List.mem_append.mp hq).elim (a6 q) (hL q)) hz a8
  obtain ⟨t, b1, b2⟩ := hk _ (fun q hq => by
      obtain ⟨z, -, hz⟩ := List.mem_map.mp hq
      rw [← hz]
      exact Nat.le_add_right _ _) _ hheap X'
  exact ⟨t, step t b1, b2⟩
theorem zs_nest (d' mc' ms' : Nat) {idx n nL : Nat} {y : MethodName} {cc : ByteArray} {ret : Option FieldType} {host : String} {a rest : List Value} {Qc : zR → zS → Prop} (hd : decode f.2.1 pc = .ok (.invokestatic idx, 3)) (hl : Cond.methodLinkNest (zown f.1) idx y host ∈ zNest) (hm : zMth y (.code y cc nL ret) n) (hi : Cond.static y ∈ zws)
    (hst : st = a.reverse ++ rest) (hn : a.length = n) (hq : zrq d mc ms d' mc' ms' rest = true) (hnl : Nat.ble nL 18 = true)
    (hR : zRs l d' mc' ms' y (.code y cc nL ret) a S Qc) (hx : ∀ E S', ¬ Qc (.inr E) S')
    (k : ∀ v S', Qc (.inl v) S' → zGs l d (mc - mc') (ms - ms') f S' (pc + 3) lo (v.toList ++ rest) Q) : zGs l d mc ms f S pc lo st Q := by
  intro g p e R s m args below meth c H locs cells slots ls hC a2 a3 a4 a5 a6 a7 a8
  obtain ⟨q1, q3, q4, q5⟩ := zrq_ok hq
  have q2 := Nat.ble_eq.mp hnl
  subst hst
  obtain ⟨hxx, hcb, hr, hml, hown, hlocks, hts, hw, ht, hin⟩ := id hC
  have hno : ∀ E st t, ¬ zQx g (zQs Qc) E st t := by
    rintro E st t ⟨M, ⟨S', -, hq⟩, -⟩
    exact hx E S' hq
  obtain ⟨m1, m2, m3, m4⟩ := id hm
  have hrun := va_runSN (l := l) (R := R) (H := H) (p := p) (e := e) (below := below) (meth := meth) (locs := locs) (cells := cells) (slots := slots) (g := F0 m pc ls ((a.reverse ++ rest).map (zc g))) (As := a.map (zc g)) (rest := rest.map (zc g)) (Ts := zws) (n := n) (host := host) ⟨hxx, hcb, hml, hown, hts⟩ (zvx_met (hR g) hno)
    ⟨⟨⟨rfl, rfl, by show d' + 1 ≤ R.frames; omega, by show 8 + (nL + 11) + 37 * d' ≤ R.locals; omega, fun w hw => (by
        rcases List.mem_cons.mp hw with rfl | hw
        · exact zwarm hts _ m1
        · exact zwarm hts _ hw), List.mem_cons_self⟩, hts _ m1, hts _ m2, m3, fun sig h => (by rw [h] at m4; exact (Option.some.inj m4).symm), va_Nw.use rfl (hw.2.2.2.2.2.2.1 _ hl)⟩, hts _ hi, trivial⟩
    ⟨zblind, fun U hU hW => ⟨rfl, zW.warm hW hw, by rw [hU]; exact a7⟩⟩
    rfl (by rw [List.length_map]; exact hn) a8.1 (by simp) (by rw [zcat]; show 2 * 0 + _ ≤ 8; omega) hd ⟨by omega, by omega⟩
  refine zback (Qc := zQs Qc) (fun T hT X => Or.inl (hrun T hT X)) hC a2 a3 a4 a5 a6 a8 q3 q4 (fun v M' hq => ?_) (fun E M' ce q9 H1 locs1 hqx => ?_)
  · obtain ⟨S', rfl, hq⟩ := hq
    exact k v S' hq
  · obtain ⟨S', -, hq⟩ := hqx
    exact absurd hq (hx E S')
set_option maxHeartbeats 2000000 in
theorem zca_ok {orc : zO} {e : zC} {K : Nat → Nat → zS → Nat → List (Nat × Value) → List Value → Prop} (he : zcok l orc f pc e) (hh : f.2.2.2.2.1 = []) (h : zca d orc e mc ms S pc lo st K Q) (hK : ∀ mc ms S pc lo st, K mc ms S pc lo st → zGs l d mc ms f S pc lo st Q) : zGs l d mc ms f S pc lo st Q := by
  unfold zca at h
  split at h
  case h_1 j n d' mc' ms' ci =>
    obtain ⟨o, rest, hst, h⟩ := tvr_ok h
    obtain ⟨h1, h⟩ := zif_ok h
    rw [Bool.and_eq_true] at h1
    obtain ⟨idx, y, cc, nL, ret, e1, e2, e3, e4, e5, e6, e7, e8⟩ := he
    have hst2 : st = ((st.take n).reverse).reverse ++ .ref o :: rest := by rw [List.reverse_reverse, ← hst, List.take_append_drop]
    have hn : (st.take n).reverse.length = n := by
      have hl : (st.drop n).length = rest.length + 1 := by rw [hst]; rfl
      rw [List.length_drop] at hl
      rw [List.length_reverse, List.length_take]
      omega
    refine zcallV d' mc' ms' e1 e2 e3 e4 e5 hst2 h1.1 e6 hn (zrq5 h1.2 e7) hh (e8 _ _ _ h) ?_ ?_
    · rintro E M' ⟨S', hM, hq⟩
      exact ⟨S', hM, hq⟩
    · rintro v M' ⟨S', rfl, hq⟩
      exact hK _ _ _ _ _ _ hq
  case h_2 j n d' mc' ms' _ =>
    obtain ⟨h1, h⟩ := zif_ok h
    rw [Bool.and_eq_true] at h1
    have hlen := Nat.ble_eq.mp h1.1
    obtain ⟨idx, y, cc, nL, ret, e1, e2, e3, e4, e7, e8⟩ := he
    have hst2 : st = ((st.take n).reverse).reverse ++ st.drop n := by rw [List.reverse_reverse, List.take_append_drop]
    have hn : (st.take n).reverse.length = n := by
      rw [List.length_reverse, List.length_take]
      omega
    refine zcallS d' mc' ms' e1 e2 e3 e4 hst2 hn (zrq5 h1.2 e7) hh (e8 _ _ _ h) ?_ ?_
    · rintro E M' ⟨S', hM, hq⟩
      exact ⟨S', hM, hq⟩
    · rintro v M' ⟨S', rfl, hq⟩
      exact hK _ _ _ _ _ _ hq
  case h_3 j n d' mc' ms' _ =>
    obtain ⟨h1, h⟩ := zif_ok h
    rw [Bool.and_eq_true] at h1
    have hlen := Nat.ble_eq.mp h1.1
    obtain ⟨idx, y, cc, nL, ret, host, e1, e2, e3, e4, e7, e8⟩ := he
    have hst2 : st = ((st.take n).reverse).reverse ++ st.drop n := by rw [List.reverse_reverse, List.take_append_drop]
    have hn : (st.take n).reverse.length = n := by
      rw [List.length_reverse, List.length_take]
      omega
    refine zs_nest d' mc' ms' e1 e2 e3 e4 hst2 hn h1.2 e7 (e8 _ _ _ h) (fun E S' hq => hq) (fun v S' hq => hK _ _ _ _ _ _ hq)
  case h_4 => obtain ⟨x, y, r, rfl, h⟩ := t2i_ok h; obtain ⟨h1, h⟩ := zif_ok h; exact zs_min he h1 (hK _ _ _ _ _ _ h)
  case h_5 => obtain ⟨x, y, r, rfl, h⟩ := t2i_ok h; obtain ⟨h1, h⟩ := zif_ok h; exact zs_max he h1 (hK _ _ _ _ _ _ h)
  case h_6 => obtain ⟨x, r, rfl, h⟩ := t1i_ok h; obtain ⟨h1, h⟩ := zif_ok h; exact zs_abs he h1 (hK _ _ _ _ _ _ h)
  case h_7 =>
    obtain ⟨a, b, n, r, rfl, h⟩ := tcp_ok h
    obtain ⟨h1, h2, h3, h4, h⟩ := zif_ok h
    simp only [Bool.and_eq_true] at h1
    exact zs_copy he h1.1 h1.2.1 h1.2.2.1 h1.2.2.2 h2 h3 h4 (hK _ _ _ _ _ _ h)
  case h_8 x w ik is ic _ =>
    obtain ⟨h1, h⟩ := zif_ok h
    obtain ⟨e1, e2, e3, e4, e5, e6, e7, e8⟩ := he
    exact zs_throw e1 e2 e3 e4 e5 e6 e7 e8 h1 h
  case h_9 => exact h.elim
end
/-- steps and calls, up to n, until a place of sp, or one that the tables haven't -/
def zwq (d : Nat) (f : zF) (tb : List (Nat × zI)) (cb : List (Nat × zC)) (orc : zO) (sp : List Nat) (K : Nat → Nat → zS → Nat → List (Nat × Value) → List Value → Prop) (Q : zR → zS → Prop) : Nat → Nat → Nat → zS → Nat → List (Nat × Value) → List Value → Prop
  | 0, mc, ms, S, pc, lo, st => K mc ms S pc lo st
  | n + 1, mc, ms, S, pc, lo, st => match zfind tb pc with
    | some e => zst d f e mc ms (zmk S) lo st (fun mc ms M pc lo st => match sp.elem pc with
      | true => K mc ms (zpj M) pc lo st
      | false => zwq d f tb cb orc sp K Q n mc ms (zpj M) pc lo st) (fun r M => Q r (zpj M))
    | none => match zfc cb pc with
      | some e => zca d orc e mc ms S pc lo st (fun mc ms S pc lo st => match sp.elem pc with
        | true => K mc ms S pc lo st
        | false => zwq d f tb cb orc sp K Q n mc ms S pc lo st) Q
      | none => K mc ms S pc lo st
def ztbs (tb : List (Nat × zI)) : Bool := tb.all (fun q => zsafe q.2)
theorem zwq_ok {l : Launch} {d : Nat} {f : zF} {tb : List (Nat × zI)} {cb : List (Nat × zC)} {orc : zO} (htb : ztbok f tb) (hsf : ztbs tb = true) (hcb : ∀ q ∈ cb, zcok l orc f q.1 q.2) (hh : f.2.2.2.2.1 = []) (sp : List Nat) {Q : zR → zS → Prop} (n : Nat) : ∀ {mc ms : Nat} {S : zS} {pc : Nat} {lo : List (Nat × Value)} {st : List Value},
    zwq d f tb cb orc sp (fun mc ms S pc lo st => zGs l d mc ms f S pc lo st Q) Q n mc ms S pc lo st → zGs l d mc ms f S pc lo st Q := by
  induction n with
  | zero => intro mc ms S pc lo st h; exact h
  | succ n ih =>
    intro mc ms S pc lo st h
    unfold zwq at h
    split at h
    · rename_i e he
      have he2 : zpre f.1 f.2.1 pc = some e := htb (pc, e) (zfind_ok he)
      have hs2 : zsafe e = true := List.all_eq_true.mp hsf (pc, e) (zfind_ok he)
      have h2 : zst d f e mc ms (zmk S) lo st (fun mc ms M pc lo st => zGo l d mc ms f M pc lo st (zQs Q)) (zQs Q) := by
        apply zst_keep hs2 h
        · intro mc ms M pc lo st e1 e2 h
          have e3 : zmk (zpj M) = M := zmk_pj e1 e2
          split at h
          · have h : zGo l d mc ms f (zmk (zpj M)) pc lo st (zQs Q) := h
            rw [e3] at h
            exact h
          · have h : zGo l d mc ms f (zmk (zpj M)) pc lo st (zQs Q) := ih h
            rw [e3] at h
            exact h
        · intro r h
          exact ⟨zpj (zmk S), rfl, h⟩
      exact z_step he2 h2
    · split at h
      · rename_i e he
        refine zca_ok (hcb (pc, e) (zfc_ok he)) hh h (fun mc ms S pc lo st h => ?_)
        split at h
        · exact h
        · exact ih h
      · exact h
/-- a method's contract, no handlers -/
theorem zRs_of {l : Launch} {d mc ms nL : Nat} (o : Nat) {y : MethodName} {cc : ByteArray} {ret : Option FieldType} {a : List Value} {S : zS} {Q : zR → zS → Prop} (hy : plainName y.cls = true) (ho : zown o = y.cls) (hn : Nat.ble (lg_sl a).length nL = true)
    (k : zGs l d mc ms (o, cc, ret, nL, [], false) S 0 (lv_args 0 a) [] Q) : zRs l d mc ms y (.code y cc nL ret) a S Q :=
  zRet_of (ini := false) o hy ho (Nat.ble_eq.mp hn) (fun h => by cases h) k
