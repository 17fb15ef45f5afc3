/-! CONSTRUCTORS: memories by their number of cells and the rest -/
abbrev zT : Type := (Nat → Nat × Nat) × (Nat → Nat → Nat) × (Nat → Nat → Int32) × (Nat → Nat → Int64)
def nw (n : Nat) (kd : Nat × Nat) (t : zT) : zT := (fun x => bif x == n then kd else t.1 x, fun x j => bif x == n then 0 else t.2.1 x j, fun x j => bif x == n then 0 else t.2.2.1 x j, fun x j => bif x == n then 0 else t.2.2.2 x j)
def sR (c k v : Nat) (t : zT) : zT := (t.1, zu t.2.1 c k v, t.2.2.1, t.2.2.2)
def sI (c k : Nat) (v : Int32) (t : zT) : zT := (t.1, t.2.1, zu t.2.2.1 c k v, t.2.2.2)
def zone (Mf : zM) : zR → zM → Prop := fun r M' => r = .inl none ∧ M' = Mf
theorem zone_no {Mf : zM} : ∀ E M', ¬ zone Mf (.inr E) M' := fun E M' h => by cases h.1
theorem zGo_of {l : Launch} {d mc ms : Nat} {f : zF} {M : zM} {pc : Nat} {lo : List (Nat × Value)} {st : List Value} {Q : zR → zM → Prop} (h : zGp (fun _ _ => True) l d mc ms f M pc lo st Q) : zGo l d mc ms f M pc lo st Q :=
  fun g p e R s m args below meth c H locs cells slots ls a1 a2 a3 a4 a5 a6 a7 a8 => h g p e R s m args below meth c H locs cells slots ls trivial a1 a2 a3 a4 a5 a6 a7 a8
theorem zGp_of {P : zG → State → Prop} {l : Launch} {d mc ms : Nat} {f : zF} {M : zM} {pc : Nat} {lo : List (Nat × Value)} {st : List Value} {Q : zR → zM → Prop} (h : zGo l d mc ms f M pc lo st Q) : zGp P l d mc ms f M pc lo st Q :=
  fun g p e R s m args below meth c H locs cells slots ls _ a1 a2 a3 a4 a5 a6 a7 a8 => h g p e R s m args below meth c H locs cells slots ls a1 a2 a3 a4 a5 a6 a7 a8
section
variable {P : zG → State → Prop} {l : Launch} {d mc ms : Nat} {f : zF} {M : zM} {pc : Nat} {lo : List (Nat × Value)} {st : List Value} {Q : zR → zM → Prop}
theorem zcallIP (d' mc' ms' : Nat) {idx o n nL : Nat} {y : MethodName} {cc : ByteArray} {a rest : List Value} {Mf : zM} (hd : decode f.2.1 pc = .ok (.invokespecial idx, 3)) (hl : Cond.methodLink (zown f.1) idx y ∈ zws) (hm : zMth y (.code y cc nL none) n) (hi : Cond.instanceMethod y ∈ zws) (hy : y.name = "<init>")
    (hst : st = a.reverse ++ .ref o :: rest) (hn : a.length = n) (hq : (Nat.ble (d' + 1) d && Nat.ble nL 18 && Nat.ble mc' mc && Nat.ble ms' ms && Nat.ble ((rest.map Value.category).sum) 8) = true)
    (hR : zRet l d' mc' ms' y (.code y cc nL none) (.ref o :: a) M (zone Mf))
    (k : zGp P l d (mc - mc') (ms - ms') f Mf (pc + 3) lo rest Q) : zGp P l d mc ms f M pc lo st Q := by
  intro g p e R s m args below meth c H locs cells slots ls hPP hC a2 a3 a4 a5 a6 a7 a8
  simp only [Bool.and_eq_true, Nat.ble_eq] at hq
  obtain ⟨⟨⟨⟨q1, q2⟩, q3⟩, q4⟩, q5⟩ := hq
  subst hst
  obtain ⟨hx, hcb, hr, hml, hown, hlocks, hts, hw, ht, hin⟩ := id hC
  have hno : ∀ E st t, ¬ zQx g (zone Mf) E st t := by
    rintro E st t ⟨M', hq, -⟩
    exact zone_no E M' hq
  have hrun := va_runI (l := l) (R := R) (H := H) (p := p) (e := e) (below := below) (meth := meth) (locs := locs) (cells := cells) (slots := slots) (g := F0 m pc ls ((a.reverse ++ .ref o :: rest).map (zc g))) (As := a.map (zc g)) (rest := rest.map (zc g)) (b := zad g o) (Ts := zws) ⟨hx, hcb, hml, hown, hts⟩ (zvx_met (hR g) hno)
    ⟨zcallB hm (hts _ hl) hts (by omega) (by omega), hy, hts _ hi⟩
    ⟨zblind, fun U hU hW => ⟨rfl, zW.warm hW hw, by rw [hU]; exact a7⟩⟩
    rfl (by rw [List.length_map]; exact hn) a8.1 (by simp [zc]) (by rw [zcat]; show 2 * 0 + _ ≤ 8; omega) hd ⟨by omega, by omega⟩
  exact zbackP (fun T hT X => Or.inl (hrun T hT X)) hPP hC a2 a3 a4 a5 a6 a8 q3 q4 (fun v M' h => by
    obtain ⟨h1, rfl⟩ := h
    cases h1
    exact k) (fun E M' ce q9 H1 locs1 hqx => absurd hqx (zone_no E M'))
theorem zcallJP (d' mc' ms' : Nat) {idx o n nL : Nat} {y : MethodName} {cc : ByteArray} {host : String} {a rest : List Value} {Mf : zM} (hd : decode f.2.1 pc = .ok (.invokespecial idx, 3)) (hl : Cond.methodLinkNest (zown f.1) idx y host ∈ zNest) (hm : zMth y (.code y cc nL none) n) (hi : Cond.instanceMethod y ∈ zws) (hy : y.name = "<init>")
    (hst : st = a.reverse ++ .ref o :: rest) (hn : a.length = n) (hq : (Nat.ble (d' + 1) d && Nat.ble nL 18 && Nat.ble mc' mc && Nat.ble ms' ms && Nat.ble ((rest.map Value.category).sum) 8) = true)
    (hR : zRet l d' mc' ms' y (.code y cc nL none) (.ref o :: a) M (zone Mf))
    (k : zGp P l d (mc - mc') (ms - ms') f Mf (pc + 3) lo rest Q) : zGp P l d mc ms f M pc lo st Q := by
  intro g p e R s m args below meth c H locs cells slots ls hPP hC a2 a3 a4 a5 a6 a7 a8
  simp only [Bool.and_eq_true, Nat.ble_eq] at hq
  obtain ⟨⟨⟨⟨q1, q2⟩, q3⟩, q4⟩, q5⟩ := hq
  subst hst
  obtain ⟨hx, hcb, hr, hml, hown, hlocks, hts, hw, ht, hin⟩ := id hC
  have hno : ∀ E st t, ¬ zQx g (zone Mf) E st t := by
    rintro E st t ⟨M', hq, -⟩
    exact zone_no E M' hq
  obtain ⟨m1, m2, m3, m4⟩ := id hm
  have hrun := va_runIN (l := l) (R := R) (H := H) (p := p) (e := e) (below := below) (meth := meth) (locs := locs) (cells := cells) (slots := slots) (g := F0 m pc ls ((a.reverse ++ .ref o :: rest).map (zc g))) (As := a.map (zc g)) (rest := rest.map (zc g)) (b := zad g o) (Ts := zws) (n := n) (host := host) ⟨hx, hcb, hml, hown, hts⟩ (zvx_met (hR g) hno)
    ⟨⟨⟨rfl, rfl, by show d' + 1 ≤ R.frames; omega, by show 8 + (nL + 11) + 37 * d' ≤ R.locals; omega, fun w hw => (by
        rcases List.mem_cons.mp hw with rfl | hw
        · exact zwarm hts _ m1
        · exact zwarm hts _ hw), List.mem_cons_self⟩, hts _ m1, hts _ m2, m3, fun sig h => (by rw [h] at m4; exact (Option.some.inj m4).symm), va_Nw.use rfl (hw.2.2.2.2.2.2.1 _ hl)⟩, hy, hts _ hi⟩
    ⟨zblind, fun U hU hW => ⟨rfl, zW.warm hW hw, by rw [hU]; exact a7⟩⟩
    rfl (by rw [List.length_map]; exact hn) a8.1 (by simp [zc]) (by rw [zcat]; show 2 * 0 + _ ≤ 8; omega) hd ⟨by omega, by omega⟩
  exact zbackP (fun T hT X => Or.inl (hrun T hT X)) hPP hC a2 a3 a4 a5 a6 a8 q3 q4 (fun v M' h => by
    obtain ⟨h1, rfl⟩ := h
    cases h1
    exact k) (fun E M' ce q9 H1 locs1 hqx => absurd hqx (zone_no E M'))
end
section
variable {l : Launch} {d mc ms : Nat} {f : zF} {M : zM} {pc : Nat} {lo : List (Nat × Value)} {st : List Value} {Q : zR → zM → Prop}
theorem zcallI (d' mc' ms' : Nat) {idx o n nL : Nat} {y : MethodName} {cc : ByteArray} {a rest : List Value} {Mf : zM} (hd : decode f.2.1 pc = .ok (.invokespecial idx, 3)) (hl : Cond.methodLink (zown f.1) idx y ∈ zws) (hm : zMth y (.code y cc nL none) n) (hi : Cond.instanceMethod y ∈ zws) (hy : y.name = "<init>")
    (hst : st = a.reverse ++ .ref o :: rest) (hn : a.length = n) (hq : (Nat.ble (d' + 1) d && Nat.ble nL 18 && Nat.ble mc' mc && Nat.ble ms' ms && Nat.ble ((rest.map Value.category).sum) 8) = true)
    (hR : zRet l d' mc' ms' y (.code y cc nL none) (.ref o :: a) M (zone Mf))
    (k : zGo l d (mc - mc') (ms - ms') f Mf (pc + 3) lo rest Q) : zGo l d mc ms f M pc lo st Q := zGo_of (zcallIP d' mc' ms' hd hl hm hi hy hst hn hq hR (zGp_of k))
theorem zcallJ (d' mc' ms' : Nat) {idx o n nL : Nat} {y : MethodName} {cc : ByteArray} {host : String} {a rest : List Value} {Mf : zM} (hd : decode f.2.1 pc = .ok (.invokespecial idx, 3)) (hl : Cond.methodLinkNest (zown f.1) idx y host ∈ zNest) (hm : zMth y (.code y cc nL none) n) (hi : Cond.instanceMethod y ∈ zws) (hy : y.name = "<init>")
    (hst : st = a.reverse ++ .ref o :: rest) (hn : a.length = n) (hq : (Nat.ble (d' + 1) d && Nat.ble nL 18 && Nat.ble mc' mc && Nat.ble ms' ms && Nat.ble ((rest.map Value.category).sum) 8) = true)
    (hR : zRet l d' mc' ms' y (.code y cc nL none) (.ref o :: a) M (zone Mf))
    (k : zGo l d (mc - mc') (ms - ms') f Mf (pc + 3) lo rest Q) : zGo l d mc ms f M pc lo st Q := zGo_of (zcallJP d' mc' ms' hd hl hm hi hy hst hn hq hR (zGp_of k))
theorem zcallW0 (d' mc' ms' : Nat) {idx o ci n nL : Nat} {y : MethodName} {cc : ByteArray} {a rest : List Value} {Mf : zM} (hd : decode f.2.1 pc = .ok (.invokevirtual idx, 3)) (hl : Cond.methodLink (zown f.1) idx y ∈ zws) (hm : zMth y (.code y cc nL none) n) (hi : Cond.instanceMethod y ∈ zws) (hs : Cond.selects y.cls y y ∈ zws)
    (hst : st = a.reverse ++ .ref o :: rest) (hk : zisk M o 0 ci = true) (hcl : (zcl[ci]?).map (fun q => q.1) = some y.cls) (hn : a.length = n) (hq : (Nat.ble (d' + 1) d && Nat.ble nL 18 && Nat.ble mc' mc && Nat.ble ms' ms && Nat.ble ((rest.map Value.category).sum) 8) = true) (hh : f.2.2.2.2.1 = [])
    (hR : zRet l d' mc' ms' y (.code y cc nL none) (.ref o :: a) M (zone Mf))
    (k : zGo l d (mc - mc') (ms - ms') f Mf (pc + 3) lo rest Q) : zGo l d mc ms f M pc lo st Q :=
  zcallV d' mc' ms' hd hl hm hi hs hst hk hcl hn hq hh hR (fun E M' h => absurd h (zone_no E M')) (fun v M' h => by
    obtain ⟨h1, rfl⟩ := h
    cases h1
    exact k)
end
def f_X9_init_1 (t : zT) : zT := (sR 1 0 3 (nw 2 (2, ((700 : Int32).toNatClampNeg)) (nw 1 (0, 9) t)))
set_option maxRecDepth 20000 in
set_option maxHeartbeats 4000000 in
theorem N_X9_init_1 (l : Launch) (t : zT) : zRet l 2 1 700 yX9_init (.code yX9_init cX9_init 1 none) [.ref 1] (2, nw 1 (0, 9) t) (zone (3, f_X9_init_1 t)) := by
  refine zRet_of 9 (by decide) rfl (by decide) (ini := true) (fun _ => rfl) ?_
  refine zwp_ok K_X9_init [] 400 ?_
  exact ⟨rfl, rfl, rfl, rfl⟩
def g_X6_setFirstLaw_3 (t : zT) : zT := (sR 3 6 11 (nw 10 (1, ((4 : Int32).toNatClampNeg)) (sR 3 5 10 (nw 9 (1, ((144 : Int32).toNatClampNeg)) (sR 3 4 9 (nw 8 (1, ((3 : Int32).toNatClampNeg)) (sR 3 3 8 (nw 7 (1, ((6 : Int32).toNatClampNeg)) (sR 3 2 7 (nw 6 (1, ((6 : Int32).toNatClampNeg)) (sR 3 1 6 (nw 5 (1, ((8 : Int32).toNatClampNeg)) (sR 3 0 5 (nw 4 (1, ((8 : Int32).toNatClampNeg)) (nw 3 (0, 6) t)))))))))))))))
def f_X6_setFirstLaw_3 (t : zT) : zT := (sI 10 ((3 : Int32).toNatClampNeg) 1 (sI 10 ((2 : Int32).toNatClampNeg) 2 (sI 10 ((1 : Int32).toNatClampNeg) 1 (sI 10 ((0 : Int32).toNatClampNeg) 3 (g_X6_setFirstLaw_3 t)))))
set_option maxRecDepth 20000 in
set_option maxHeartbeats 4000000 in
theorem N_X6_setFirstLaw_3 (l : Launch) (t : zT) : zRet l 1 0 0 yX6_setFirstLaw (.code yX6_setFirstLaw cX6_setFirstLaw 1 none) [.ref 3] (11, g_X6_setFirstLaw_3 t) (zone (11, f_X6_setFirstLaw_3 t)) := by
  refine zRet_of (ini := false) 6 (by decide) rfl (by decide) (fun h => by cases h) ?_
  refine zwp_ok K_X6_setFirstLaw [] 400 ?_
  exact ⟨show vp_in 0 4 by unfold vp_in; decide +kernel, ⟨show vp_in 1 4 by unfold vp_in; decide +kernel, ⟨show vp_in 2 4 by unfold vp_in; decide +kernel, ⟨show vp_in 3 4 by unfold vp_in; decide +kernel, ⟨rfl, rfl, rfl, rfl⟩⟩⟩⟩⟩
def f_X6_init_3 (t : zT) : zT := (f_X6_setFirstLaw_3 t)
set_option maxRecDepth 20000 in
set_option maxHeartbeats 4000000 in
theorem N_X6_init_3 (l : Launch) (t : zT) : zRet l 2 7 179 yX6_init (.code yX6_init cX6_init 1 none) [.ref 3] (4, nw 3 (0, 6) t) (zone (11, f_X6_init_3 t)) := by
  refine zRet_of 6 (by decide) rfl (by decide) (ini := true) (fun _ => rfl) ?_
  refine zwp_ok K_X6_init [] 400 ?_
  refine zcallW0 (lo := [(0, .ref 3)]) 1 0 0 (a := []) (rest := []) (ci := 6) (by decide +kernel) C_6_33 W_X6_setFirstLaw I_X6_setFirstLaw S_X6_setFirstLaw rfl rfl rfl rfl (by decide +kernel) rfl (N_X6_setFirstLaw_3 l t) ?_
  refine zwp_ok K_X6_init [] 400 ?_
  exact ⟨rfl, rfl, rfl, rfl⟩
def g_X6_setFirstLaw_11 (t : zT) : zT := (sR 11 6 19 (nw 18 (1, ((4 : Int32).toNatClampNeg)) (sR 11 5 18 (nw 17 (1, ((144 : Int32).toNatClampNeg)) (sR 11 4 17 (nw 16 (1, ((3 : Int32).toNatClampNeg)) (sR 11 3 16 (nw 15 (1, ((6 : Int32).toNatClampNeg)) (sR 11 2 15 (nw 14 (1, ((6 : Int32).toNatClampNeg)) (sR 11 1 14 (nw 13 (1, ((8 : Int32).toNatClampNeg)) (sR 11 0 13 (nw 12 (1, ((8 : Int32).toNatClampNeg)) (nw 11 (0, 6) t)))))))))))))))
def f_X6_setFirstLaw_11 (t : zT) : zT := (sI 18 ((3 : Int32).toNatClampNeg) 1 (sI 18 ((2 : Int32).toNatClampNeg) 2 (sI 18 ((1 : Int32).toNatClampNeg) 1 (sI 18 ((0 : Int32).toNatClampNeg) 3 (g_X6_setFirstLaw_11 t)))))
set_option maxRecDepth 20000 in
set_option maxHeartbeats 4000000 in
theorem N_X6_setFirstLaw_11 (l : Launch) (t : zT) : zRet l 1 0 0 yX6_setFirstLaw (.code yX6_setFirstLaw cX6_setFirstLaw 1 none) [.ref 11] (19, g_X6_setFirstLaw_11 t) (zone (19, f_X6_setFirstLaw_11 t)) := by
  refine zRet_of (ini := false) 6 (by decide) rfl (by decide) (fun h => by cases h) ?_
  refine zwp_ok K_X6_setFirstLaw [] 400 ?_
  exact ⟨show vp_in 0 4 by unfold vp_in; decide +kernel, ⟨show vp_in 1 4 by unfold vp_in; decide +kernel, ⟨show vp_in 2 4 by unfold vp_in; decide +kernel, ⟨show vp_in 3 4 by unfold vp_in; decide +kernel, ⟨rfl, rfl, rfl, rfl⟩⟩⟩⟩⟩
def f_X6_init_11 (t : zT) : zT := (f_X6_setFirstLaw_11 t)
set_option maxRecDepth 20000 in
set_option maxHeartbeats 4000000 in
theorem N_X6_init_11 (l : Launch) (t : zT) : zRet l 2 7 179 yX6_init (.code yX6_init cX6_init 1 none) [.ref 11] (12, nw 11 (0, 6) t) (zone (19, f_X6_init_11 t)) := by
  refine zRet_of 6 (by decide) rfl (by decide) (ini := true) (fun _ => rfl) ?_
  refine zwp_ok K_X6_init [] 400 ?_
  refine zcallW0 (lo := [(0, .ref 11)]) 1 0 0 (a := []) (rest := []) (ci := 6) (by decide +kernel) C_6_33 W_X6_setFirstLaw I_X6_setFirstLaw S_X6_setFirstLaw rfl rfl rfl rfl (by decide +kernel) rfl (N_X6_setFirstLaw_11 l t) ?_
  refine zwp_ok K_X6_init [] 400 ?_
  exact ⟨rfl, rfl, rfl, rfl⟩
def f_X7_init_19 (t : zT) : zT := (sR 19 1 12 (sR 19 0 3 (nw 19 (0, 7) t)))
set_option maxRecDepth 20000 in
set_option maxHeartbeats 4000000 in
theorem N_X7_init_19 (l : Launch) (t : zT) : zRet l 2 0 0 yX7_init (.code yX7_init cX7_init 3 none) [.ref 19, .ref 2, .ref 11] (20, nw 19 (0, 7) t) (zone (20, f_X7_init_19 t)) := by
  refine zRet_of 7 (by decide) rfl (by decide) (ini := true) (fun _ => rfl) ?_
  refine zwp_ok K_X7_init [] 400 ?_
  exact ⟨rfl, rfl, rfl, rfl⟩
def f_X0_init_20 (t : zT) : zT := (sI 20 8 (-1) (sR 20 6 28 (nw 27 (1, ((8 : Int32).toNatClampNeg)) (sR 20 5 27 (nw 26 (1, ((72 : Int32).toNatClampNeg)) (sR 20 4 26 (nw 25 (1, ((144 : Int32).toNatClampNeg)) (sR 20 3 25 (nw 24 (1, ((12 : Int32).toNatClampNeg)) (sR 20 2 24 (nw 23 (1, ((12 : Int32).toNatClampNeg)) (sR 20 1 23 (nw 22 (1, ((12 : Int32).toNatClampNeg)) (sR 20 0 22 (nw 21 (1, ((12 : Int32).toNatClampNeg)) (nw 20 (0, 0) t))))))))))))))))
set_option maxRecDepth 20000 in
set_option maxHeartbeats 4000000 in
theorem N_X0_init_20 (l : Launch) (t : zT) : zRet l 2 7 272 yX0_init (.code yX0_init cX0_init 1 none) [.ref 20] (21, nw 20 (0, 0) t) (zone (28, f_X0_init_20 t)) := by
  refine zRet_of 0 (by decide) rfl (by decide) (ini := true) (fun _ => rfl) ?_
  refine zwp_ok K_X0_init [] 400 ?_
  exact ⟨rfl, rfl, rfl, rfl⟩
def f_X0_init_28 (t : zT) : zT := (sI 28 8 (-1) (sR 28 6 36 (nw 35 (1, ((8 : Int32).toNatClampNeg)) (sR 28 5 35 (nw 34 (1, ((72 : Int32).toNatClampNeg)) (sR 28 4 34 (nw 33 (1, ((144 : Int32).toNatClampNeg)) (sR 28 3 33 (nw 32 (1, ((12 : Int32).toNatClampNeg)) (sR 28 2 32 (nw 31 (1, ((12 : Int32).toNatClampNeg)) (sR 28 1 31 (nw 30 (1, ((12 : Int32).toNatClampNeg)) (sR 28 0 30 (nw 29 (1, ((12 : Int32).toNatClampNeg)) (nw 28 (0, 0) t))))))))))))))))
set_option maxRecDepth 20000 in
set_option maxHeartbeats 4000000 in
theorem N_X0_init_28 (l : Launch) (t : zT) : zRet l 2 7 272 yX0_init (.code yX0_init cX0_init 1 none) [.ref 28] (29, nw 28 (0, 0) t) (zone (36, f_X0_init_28 t)) := by
  refine zRet_of 0 (by decide) rfl (by decide) (ini := true) (fun _ => rfl) ?_
  refine zwp_ok K_X0_init [] 400 ?_
  exact ⟨rfl, rfl, rfl, rfl⟩
def f_X3_init_36 (t : zT) : zT := (sR 36 1 21 (sR 36 0 4 (nw 36 (0, 3) t)))
set_option maxRecDepth 20000 in
set_option maxHeartbeats 4000000 in
theorem N_X3_init_36 (l : Launch) (t : zT) : zRet l 2 0 0 yX3_init (.code yX3_init cX3_init 3 none) [.ref 36, .ref 3, .ref 20] (37, nw 36 (0, 3) t) (zone (37, f_X3_init_36 t)) := by
  refine zRet_of 3 (by decide) rfl (by decide) (ini := true) (fun _ => rfl) ?_
  refine zwp_ok K_X3_init [] 400 ?_
  exact ⟨rfl, rfl, rfl, rfl⟩
def f_X1_init_37 (t : zT) : zT := (sR 37 2 37 (sR 37 1 21 (sR 37 0 4 (sR 37 3 39 (nw 38 (1, ((6 : Int32).toNatClampNeg)) (nw 37 (0, 1) t))))))
set_option maxRecDepth 20000 in
set_option maxHeartbeats 4000000 in
theorem N_X1_init_37 (l : Launch) (t : zT) : zRet l 2 1 6 yX1_init (.code yX1_init cX1_init 4 none) [.ref 37, .ref 3, .ref 20, .ref 36] (38, nw 37 (0, 1) t) (zone (39, f_X1_init_37 t)) := by
  refine zRet_of 1 (by decide) rfl (by decide) (ini := true) (fun _ => rfl) ?_
  refine zwp_ok K_X1_init [] 400 ?_
  exact ⟨rfl, rfl, rfl, rfl⟩
def f_X2_init_39 (t : zT) : zT := (sR 39 2 37 (sR 39 1 21 (sR 39 0 4 (sR 39 4 42 (nw 41 (1, ((24 : Int32).toNatClampNeg)) (sR 39 3 41 (nw 40 (1, ((6 : Int32).toNatClampNeg)) (nw 39 (0, 2) t))))))))
set_option maxRecDepth 20000 in
set_option maxHeartbeats 4000000 in
theorem N_X2_init_39 (l : Launch) (t : zT) : zRet l 2 2 30 yX2_init (.code yX2_init cX2_init 4 none) [.ref 39, .ref 3, .ref 20, .ref 36] (40, nw 39 (0, 2) t) (zone (42, f_X2_init_39 t)) := by
  refine zRet_of 2 (by decide) rfl (by decide) (ini := true) (fun _ => rfl) ?_
  refine zwp_ok K_X2_init [] 400 ?_
  exact ⟨rfl, rfl, rfl, rfl⟩
def f_X10_init_42 (t : zT) : zT := (sR 42 1 37 (sR 42 0 4 (sR 42 5 47 (nw 46 (1, ((6 : Int32).toNatClampNeg)) (sR 42 4 46 (nw 45 (1, ((6 : Int32).toNatClampNeg)) (sR 42 3 45 (nw 44 (1, ((6 : Int32).toNatClampNeg)) (sR 42 2 44 (nw 43 (1, ((48 : Int32).toNatClampNeg)) (nw 42 (0, 10) t)))))))))))
set_option maxRecDepth 20000 in
set_option maxHeartbeats 4000000 in
theorem N_X10_init_42 (l : Launch) (t : zT) : zRet l 2 4 66 yX10_init (.code yX10_init cX10_init 3 none) [.ref 42, .ref 3, .ref 36] (43, nw 42 (0, 10) t) (zone (47, f_X10_init_42 t)) := by
  refine zRet_of 10 (by decide) rfl (by decide) (ini := true) (fun _ => rfl) ?_
  refine zwp_ok K_X10_init [] 400 ?_
  exact ⟨rfl, rfl, rfl, rfl⟩
def f_X4_init_47 (t : zT) : zT := (sR 47 1 37 (sR 47 0 4 (sR 47 5 52 (nw 51 (1, ((3 : Int32).toNatClampNeg)) (sR 47 4 51 (nw 50 (1, ((3 : Int32).toNatClampNeg)) (sR 47 3 50 (nw 49 (1, ((8 : Int32).toNatClampNeg)) (sR 47 2 49 (nw 48 (1, ((8 : Int32).toNatClampNeg)) (nw 47 (0, 4) t)))))))))))
set_option maxRecDepth 20000 in
set_option maxHeartbeats 4000000 in
theorem N_X4_init_47 (l : Launch) (t : zT) : zRet l 2 4 22 yX4_init (.code yX4_init cX4_init 3 none) [.ref 47, .ref 3, .ref 36] (48, nw 47 (0, 4) t) (zone (52, f_X4_init_47 t)) := by
  refine zRet_of 4 (by decide) rfl (by decide) (ini := true) (fun _ => rfl) ?_
  refine zwp_ok K_X4_init [] 400 ?_
  exact ⟨rfl, rfl, rfl, rfl⟩
def f_X5_init_52 (t : zT) : zT := (sR 52 2 37 (sR 52 1 21 (sR 52 0 4 (sR 52 8 59 (nw 58 (1, ((6 : Int32).toNatClampNeg)) (sR 52 7 58 (nw 57 (1, ((6 : Int32).toNatClampNeg)) (sR 52 6 57 (nw 56 (1, ((3 : Int32).toNatClampNeg)) (sR 52 5 56 (nw 55 (1, ((4 : Int32).toNatClampNeg)) (sR 52 4 55 (nw 54 (1, ((12 : Int32).toNatClampNeg)) (sR 52 3 54 (nw 53 (1, ((6 : Int32).toNatClampNeg)) (nw 52 (0, 5) t))))))))))))))))
set_option maxRecDepth 20000 in
set_option maxHeartbeats 4000000 in
theorem N_X5_init_52 (l : Launch) (t : zT) : zRet l 2 6 37 yX5_init (.code yX5_init cX5_init 4 none) [.ref 52, .ref 3, .ref 20, .ref 36] (53, nw 52 (0, 5) t) (zone (59, f_X5_init_52 t)) := by
  refine zRet_of 5 (by decide) rfl (by decide) (ini := true) (fun _ => rfl) ?_
  refine zwp_ok K_X5_init [] 400 ?_
  exact ⟨rfl, rfl, rfl, rfl⟩
def f_X8_init_59 (t : zT) : zT := (sR 59 0 61 (nw 60 (1, ((40 : Int32).toNatClampNeg)) (nw 59 (0, 8) t)))
set_option maxRecDepth 20000 in
set_option maxHeartbeats 4000000 in
theorem N_X8_init_59 (l : Launch) (t : zT) : zRet l 2 1 40 yX8_init (.code yX8_init cX8_init 1 none) [.ref 59] (60, nw 59 (0, 8) t) (zone (61, f_X8_init_59 t)) := by
  refine zRet_of 8 (by decide) rfl (by decide) (ini := true) (fun _ => rfl) ?_
  refine zwp_ok K_X8_init [] 400 ?_
  exact ⟨rfl, rfl, rfl, rfl⟩
def f_X11_init_0 (t : zT) : zT := (sI 0 15 0 (sI 0 14 (-1) (sR 0 13 62 (nw 61 (1, ((3 : Int32).toNatClampNeg)) (sR 0 12 60 (f_X8_init_59 (sR 0 11 53 (f_X5_init_52 (sR 0 10 48 (f_X4_init_47 (sR 0 9 43 (f_X10_init_42 (sR 0 8 40 (f_X2_init_39 (sR 0 7 38 (f_X1_init_37 (sR 0 6 37 (f_X3_init_36 (sR 0 5 29 (f_X0_init_28 (sR 0 4 21 (f_X0_init_20 (sR 0 3 20 (f_X7_init_19 (sR 0 2 12 (f_X6_init_11 (sR 0 1 4 (f_X6_init_3 (sR 0 0 2 (f_X9_init_1 (nw 0 (0, 11) t)))))))))))))))))))))))))))))))
set_option maxRecDepth 20000 in
set_option maxHeartbeats 4000000 in
theorem N_X11_init_0 (l : Launch) (t : zT) : zRet l 3 61 1899 yX11_init (.code yX11_init cX11_init 1 none) [.ref 0] (1, nw 0 (0, 11) t) (zone (62, f_X11_init_0 t)) := by
  refine zRet_of 11 (by decide) rfl (by decide) (ini := true) (fun _ => rfl) ?_
  refine zwp_ok K_X11_init [] 400 ?_
  refine zcallJ (lo := [(0, .ref 0)]) (idx := 11) (host := RX11) 2 1 700 (a := []) (rest := [.ref 1, .ref 0]) (by decide +kernel) (by decide +kernel) W_X9_init I_X9_init rfl rfl rfl (by decide +kernel) (N_X9_init_1 l (nw 0 (0, 11) t)) ?_
  refine zwp_ok K_X11_init [] 400 ?_
  refine zcallI (lo := [(0, .ref 0)]) 2 7 179 (a := []) (rest := [.ref 3, .ref 0]) (by decide +kernel) C_11_18 W_X6_init I_X6_init rfl rfl rfl (by decide +kernel) (N_X6_init_3 l (sR 0 0 2 (f_X9_init_1 (nw 0 (0, 11) t)))) ?_
  refine zwp_ok K_X11_init [] 400 ?_
  refine zcallI (lo := [(0, .ref 0)]) 2 7 179 (a := []) (rest := [.ref 11, .ref 0]) (by decide +kernel) C_11_18 W_X6_init I_X6_init rfl rfl rfl (by decide +kernel) (N_X6_init_11 l (sR 0 1 4 (f_X6_init_3 (sR 0 0 2 (f_X9_init_1 (nw 0 (0, 11) t)))))) ?_
  refine zwp_ok K_X11_init [] 400 ?_
  refine zcallI (lo := [(0, .ref 0)]) 2 0 0 (a := [.ref 2, .ref 11]) (rest := [.ref 19, .ref 0]) (by decide +kernel) C_11_32 W_X7_init I_X7_init rfl rfl rfl (by decide +kernel) (N_X7_init_19 l (sR 0 2 12 (f_X6_init_11 (sR 0 1 4 (f_X6_init_3 (sR 0 0 2 (f_X9_init_1 (nw 0 (0, 11) t)))))))) ?_
  refine zwp_ok K_X11_init [] 400 ?_
  refine zcallJ (lo := [(0, .ref 0)]) (idx := 41) (host := RX11) 2 7 272 (a := []) (rest := [.ref 20, .ref 0]) (by decide +kernel) (by decide +kernel) W_X0_init I_X0_init rfl rfl rfl (by decide +kernel) (N_X0_init_20 l (sR 0 3 20 (f_X7_init_19 (sR 0 2 12 (f_X6_init_11 (sR 0 1 4 (f_X6_init_3 (sR 0 0 2 (f_X9_init_1 (nw 0 (0, 11) t)))))))))) ?_
  refine zwp_ok K_X11_init [] 400 ?_
  refine zcallJ (lo := [(0, .ref 0)]) (idx := 41) (host := RX11) 2 7 272 (a := []) (rest := [.ref 28, .ref 0]) (by decide +kernel) (by decide +kernel) W_X0_init I_X0_init rfl rfl rfl (by decide +kernel) (N_X0_init_28 l (sR 0 4 21 (f_X0_init_20 (sR 0 3 20 (f_X7_init_19 (sR 0 2 12 (f_X6_init_11 (sR 0 1 4 (f_X6_init_3 (sR 0 0 2 (f_X9_init_1 (nw 0 (0, 11) t)))))))))))) ?_
  refine zwp_ok K_X11_init [] 400 ?_
  refine zcallI (lo := [(0, .ref 0)]) 2 0 0 (a := [.ref 3, .ref 20]) (rest := [.ref 36, .ref 0]) (by decide +kernel) C_11_51 W_X3_init I_X3_init rfl rfl rfl (by decide +kernel) (N_X3_init_36 l (sR 0 5 29 (f_X0_init_28 (sR 0 4 21 (f_X0_init_20 (sR 0 3 20 (f_X7_init_19 (sR 0 2 12 (f_X6_init_11 (sR 0 1 4 (f_X6_init_3 (sR 0 0 2 (f_X9_init_1 (nw 0 (0, 11) t)))))))))))))) ?_
  refine zwp_ok K_X11_init [] 400 ?_
  refine zcallI (lo := [(0, .ref 0)]) 2 1 6 (a := [.ref 3, .ref 20, .ref 36]) (rest := [.ref 37, .ref 0]) (by decide +kernel) C_11_60 W_X1_init I_X1_init rfl rfl rfl (by decide +kernel) (N_X1_init_37 l (sR 0 6 37 (f_X3_init_36 (sR 0 5 29 (f_X0_init_28 (sR 0 4 21 (f_X0_init_20 (sR 0 3 20 (f_X7_init_19 (sR 0 2 12 (f_X6_init_11 (sR 0 1 4 (f_X6_init_3 (sR 0 0 2 (f_X9_init_1 (nw 0 (0, 11) t)))))))))))))))) ?_
  refine zwp_ok K_X11_init [] 400 ?_
  refine zcallI (lo := [(0, .ref 0)]) 2 2 30 (a := [.ref 3, .ref 20, .ref 36]) (rest := [.ref 39, .ref 0]) (by decide +kernel) C_11_69 W_X2_init I_X2_init rfl rfl rfl (by decide +kernel) (N_X2_init_39 l (sR 0 7 38 (f_X1_init_37 (sR 0 6 37 (f_X3_init_36 (sR 0 5 29 (f_X0_init_28 (sR 0 4 21 (f_X0_init_20 (sR 0 3 20 (f_X7_init_19 (sR 0 2 12 (f_X6_init_11 (sR 0 1 4 (f_X6_init_3 (sR 0 0 2 (f_X9_init_1 (nw 0 (0, 11) t)))))))))))))))))) ?_
  refine zwp_ok K_X11_init [] 400 ?_
  refine zcallI (lo := [(0, .ref 0)]) 2 4 66 (a := [.ref 3, .ref 36]) (rest := [.ref 42, .ref 0]) (by decide +kernel) C_11_76 W_X10_init I_X10_init rfl rfl rfl (by decide +kernel) (N_X10_init_42 l (sR 0 8 40 (f_X2_init_39 (sR 0 7 38 (f_X1_init_37 (sR 0 6 37 (f_X3_init_36 (sR 0 5 29 (f_X0_init_28 (sR 0 4 21 (f_X0_init_20 (sR 0 3 20 (f_X7_init_19 (sR 0 2 12 (f_X6_init_11 (sR 0 1 4 (f_X6_init_3 (sR 0 0 2 (f_X9_init_1 (nw 0 (0, 11) t)))))))))))))))))))) ?_
  refine zwp_ok K_X11_init [] 400 ?_
  refine zcallI (lo := [(0, .ref 0)]) 2 4 22 (a := [.ref 3, .ref 36]) (rest := [.ref 47, .ref 0]) (by decide +kernel) C_11_85 W_X4_init I_X4_init rfl rfl rfl (by decide +kernel) (N_X4_init_47 l (sR 0 9 43 (f_X10_init_42 (sR 0 8 40 (f_X2_init_39 (sR 0 7 38 (f_X1_init_37 (sR 0 6 37 (f_X3_init_36 (sR 0 5 29 (f_X0_init_28 (sR 0 4 21 (f_X0_init_20 (sR 0 3 20 (f_X7_init_19 (sR 0 2 12 (f_X6_init_11 (sR 0 1 4 (f_X6_init_3 (sR 0 0 2 (f_X9_init_1 (nw 0 (0, 11) t)))))))))))))))))))))) ?_
  refine zwp_ok K_X11_init [] 400 ?_
  refine zcallI (lo := [(0, .ref 0)]) 2 6 37 (a := [.ref 3, .ref 20, .ref 36]) (rest := [.ref 52, .ref 0]) (by decide +kernel) C_11_92 W_X5_init I_X5_init rfl rfl rfl (by decide +kernel) (N_X5_init_52 l (sR 0 10 48 (f_X4_init_47 (sR 0 9 43 (f_X10_init_42 (sR 0 8 40 (f_X2_init_39 (sR 0 7 38 (f_X1_init_37 (sR 0 6 37 (f_X3_init_36 (sR 0 5 29 (f_X0_init_28 (sR 0 4 21 (f_X0_init_20 (sR 0 3 20 (f_X7_init_19 (sR 0 2 12 (f_X6_init_11 (sR 0 1 4 (f_X6_init_3 (sR 0 0 2 (f_X9_init_1 (nw 0 (0, 11) t)))))))))))))))))))))))) ?_
  refine zwp_ok K_X11_init [] 400 ?_
  refine zcallJ (lo := [(0, .ref 0)]) (idx := 99) (host := RX11) 2 1 40 (a := []) (rest := [.ref 59, .ref 0]) (by decide +kernel) (by decide +kernel) W_X8_init I_X8_init rfl rfl rfl (by decide +kernel) (N_X8_init_59 l (sR 0 11 53 (f_X5_init_52 (sR 0 10 48 (f_X4_init_47 (sR 0 9 43 (f_X10_init_42 (sR 0 8 40 (f_X2_init_39 (sR 0 7 38 (f_X1_init_37 (sR 0 6 37 (f_X3_init_36 (sR 0 5 29 (f_X0_init_28 (sR 0 4 21 (f_X0_init_20 (sR 0 3 20 (f_X7_init_19 (sR 0 2 12 (f_X6_init_11 (sR 0 1 4 (f_X6_init_3 (sR 0 0 2 (f_X9_init_1 (nw 0 (0, 11) t)))))))))))))))))))))))))) ?_
  refine zwp_ok K_X11_init [] 400 ?_
  exact ⟨Or.inl rfl, ⟨rfl, rfl, rfl, rfl⟩⟩
def f_X12_init_62 (t : zT) : zT := (sR 62 68 102 (nw 101 (1, ((72 : Int32).toNatClampNeg)) (sR 62 67 101 (nw 100 (1, ((144 : Int32).toNatClampNeg)) (sR 62 66 100 (nw 99 (1, ((8 : Int32).toNatClampNeg)) (sR 62 65 99 (nw 98 (1, ((36 : Int32).toNatClampNeg)) (sR 62 64 98 (nw 97 (1, ((3 : Int32).toNatClampNeg)) (sR 62 61 97 (nw 96 (1, ((256 : Int32).toNatClampNeg)) (sR 62 58 96 (nw 95 (1, ((6 : Int32).toNatClampNeg)) (sR 62 57 95 (nw 94 (1, ((6 : Int32).toNatClampNeg)) (sR 62 55 94 (nw 93 (1, ((8 : Int32).toNatClampNeg)) (sR 62 54 93 (nw 92 (1, ((3 : Int32).toNatClampNeg)) (sR 62 53 92 (nw 91 (1, ((3 : Int32).toNatClampNeg)) (sR 62 51 91 (nw 90 (1, ((6 : Int32).toNatClampNeg)) (sR 62 50 90 (nw 89 (1, ((6 : Int32).toNatClampNeg)) (sR 62 49 89 (nw 88 (1, ((6 : Int32).toNatClampNeg)) (sR 62 48 88 (nw 87 (1, ((48 : Int32).toNatClampNeg)) (sR 62 47 87 (nw 86 (1, ((8 : Int32).toNatClampNeg)) (sR 62 46 86 (nw 85 (1, ((8 : Int32).toNatClampNeg)) (sR 62 44 85 (nw 84 (1, ((24000 : Int32).toNatClampNeg)) (sR 62 43 84 (nw 83 (1, ((6 : Int32).toNatClampNeg)) (sR 62 42 83 (nw 82 (1, ((8 : Int32).toNatClampNeg)) (sI 62 40 (-1) (sR 62 39 82 (nw 81 (1, ((72 : Int32).toNatClampNeg)) (sR 62 38 81 (nw 80 (1, ((144 : Int32).toNatClampNeg)) (sR 62 37 80 (nw 79 (1, ((36 : Int32).toNatClampNeg)) (sR 62 35 79 (nw 78 (1, ((144 : Int32).toNatClampNeg)) (sR 62 34 78 (nw 77 (1, ((4 : Int32).toNatClampNeg)) (sR 62 33 77 (nw 76 (1, ((3 : Int32).toNatClampNeg)) (sR 62 32 76 (nw 75 (1, ((12 : Int32).toNatClampNeg)) (sR 62 31 75 (nw 74 (1, ((6 : Int32).toNatClampNeg)) (sR 62 30 74 (nw 73 (1, ((8 : Int32).toNatClampNeg)) (sR 62 29 73 (nw 72 (1, ((8 : Int32).toNatClampNeg)) (sR 62 16 72 (nw 71 (1, ((3 : Int32).toNatClampNeg)) (sI 62 15 (-1) (sR 62 12 71 (nw 70 (1, ((700 : Int32).toNatClampNeg)) (sR 62 11 70 (nw 69 (1, ((144 : Int32).toNatClampNeg)) (sR 62 10 69 (sI 68 ((3 : Int32).toNatClampNeg) 1 (sI 68 ((2 : Int32).toNatClampNeg) 2 (sI 68 ((1 : Int32).toNatClampNeg) 1 (sI 68 ((0 : Int32).toNatClampNeg) 3 (nw 68 (1, ((4 : Int32).toNatClampNeg)) (sR 62 9 68 (nw 67 (1, ((3 : Int32).toNatClampNeg)) (sR 62 8 67 (nw 66 (1, ((12 : Int32).toNatClampNeg)) (sR 62 7 66 (nw 65 (1, ((6 : Int32).toNatClampNeg)) (sR 62 6 65 (nw 64 (1, ((8 : Int32).toNatClampNeg)) (sR 62 5 64 (nw 63 (1, ((8 : Int32).toNatClampNeg)) (nw 62 (0, 12) t)))))))))))))))))))))))))))))))))))))))))))))))))))))))))))))))))))))))))))))))))))))
set_option maxRecDepth 20000 in
set_option maxHeartbeats 4000000 in
theorem N_X12_init_62 (l : Launch) (t : zT) : zRet l 2 39 25966 yX12_init (.code yX12_init cX12_init 1 none) [.ref 62] (63, nw 62 (0, 12) t) (zone (102, f_X12_init_62 t)) := by
  refine zRet_of 12 (by decide) rfl (by decide) (ini := true) (fun _ => rfl) ?_
  refine zwp_ok K_X12_init [] 400 ?_
  exact ⟨show vp_in 0 4 by unfold vp_in; decide +kernel, ⟨show vp_in 1 4 by unfold vp_in; decide +kernel, ⟨show vp_in 2 4 by unfold vp_in; decide +kernel, ⟨show vp_in 3 4 by unfold vp_in; decide +kernel, ⟨rfl, rfl, rfl, rfl⟩⟩⟩⟩⟩
