/-! A THROW THAT IS CAUGHT: the search through a table of one row or two, each naming a class by a link -/
section
variable {E : CtlPost} {e : Env} {d : Bool} {acts : List Action} {s : State} {f : JFrame} {a : Addr} {Q : Handler → Pre}
/-- a row over this pc: it catches, or the search goes on; either way its class is noted -/
theorem zh_row {x : ExceptionTableEntry} {t : List ExceptionTableEntry} {k : ClassId} {cell : Cell} (hx : covers x f.pc = true) (h0 : x.catchType ≠ 0) (hl : s.vm.ClassLinks e.platform f.method.cls x.catchType k) (hcell : s.heap[a]? = some cell) (hobj : ∀ j, cell.vm ≠ .statics j) (hk : ∃ z, s.vm.classes[cell.cls]? = some z) (hc : ∃ z, s.vm.classes[k]? = some z) :
    wp (findHandler.go f a (x :: t)) Q E e d acts s ↔ if s.vm.assignable cell.cls k = true then Q (.found x.handlerPc) d acts (s.setVm (s.vm.noted f.method.cls x.catchType (.cls k))) else wp (findHandler.go f a t) Q E e d acts (s.setVm (s.vm.noted f.method.cls x.catchType (.cls k))) := by
  have al : s.vm.Alike (s.vm.noted f.method.cls x.catchType (.cls k)) := (Vm.Alike.refl s.vm).noted _ _ _
  obtain ⟨z1, hz1⟩ := hk
  obtain ⟨z2, hz2⟩ := hc
  obtain ⟨w1, hw1, -⟩ := al.2.2 _ _ hz1
  obtain ⟨w2, hw2, -⟩ := al.2.2 _ _ hz2
  obtain ⟨r1, r2⟩ := (resolveClass_links e.toSetting hl).op (op := VmOp.resolveClass f.method.cls x.catchType) rfl
  simp only [covers] at hx
  cases hq : s.vm.assignable cell.cls k with
  | true =>
    have hq' : (s.vm.noted f.method.cls x.catchType (.cls k)).assignable cell.cls k = true := by rw [al.assignable]; exact hq
    simp [findHandler.go, hx, h0, r1, r2, hcell, hobj, hw1, hw2, hq', VmOp.dirties, VmOp.acts]
  | false =>
    have hq' : (s.vm.noted f.method.cls x.catchType (.cls k)).assignable cell.cls k = false := by rw [al.assignable]; exact hq
    simp [findHandler.go, hx, h0, r1, r2, hcell, hobj, hw1, hw2, hq', VmOp.dirties, VmOp.acts]
end
section
variable {p : Program} {l : Launch} {e : Env} {R : Room} {s : State} {m : MethodId} {args : Array Value} {below : List Frame} {meth : Method} {c : Code} {H : Heap} {locs : List Loc} {cells slots : Nat} {Q : State → Prop} {T : State}
/-- the search's answer turned into steps -/
theorem zh_go (X : Stand p l e R s m args below meth c T locs cells slots) {g : JFrame} (hg : g.method = m) {q : Addr} {vm' : Vm} {pc' : Nat} (hf : ∀ (Q : Handler → Pre) (E : CtlPost) (d : Bool) (acts : List Action), wp (findHandler g q) Q E e d acts ((T.setTop g).pushFrame (.throwing q)) ↔ Q (.found pc') d acts (((T.setTop g).pushFrame (.throwing q)).setVm vm')) {target : State}
    (hrest : Steps p.tables e below ((T.setVm vm').setTop { g with pc := pc', stack := [.ref q] }) target) : Steps p.tables e below ((T.setTop g).pushFrame (.throwing q)) target := by
  have hat : At T g.method c below := by rw [hg]; exact X.here
  obtain ⟨b1, b2⟩ := hat.throwing q
  refine Steps.head b1 b2 ?_
  have st : (stepThrowing e ((T.setTop g).pushFrame (.throwing q)) q (.java g :: T.frames.tail)).Is ((((T.setTop g).pushFrame (.throwing q)).setVm vm').setFrames (.java { g with pc := pc', stack := [.ref q] } :: T.frames.tail)) [] := by
    simp only [stepThrowing, searchFrame, vmDo]
    generalize hr : Sem.go _ e false [] ((T.setTop g).pushFrame (.throwing q)) = res
    obtain ⟨as, rfl, ha⟩ := Sem.eq_ok_of hr (a := Handler.found pc') (s' := ((T.setTop g).pushFrame (.throwing q)).setVm vm') (acts' := []) (by simp [hf _ _ _ _])
    exact ⟨rfl, ha⟩
  obtain ⟨g0, h0⟩ := Option.isSome_iff_exists.mp hat.top
  obtain ⟨r, hr⟩ := State.topJava?_eq_some.mp h0
  have hv : ∀ (u : State) (F G : List Frame), ((u.setFrames F).setVm vm').setFrames G = (u.setVm vm').setFrames G := fun u F G => by
    have h1 : (u.setFrames F).setVm vm' = (u.setVm vm').setFrames F := rfl
    rw [h1, State.setFrames_setFrames]
  have hr' : (T.setVm vm').frames = .java g0 :: r := hr
  rw [State.setTop_of_frames _ hr'] at hrest
  rw [stepThread_throwing (frames_entered hat.top _), st.1]
  rw [hr, List.tail_cons, State.pushFrame, hv, State.setTop_of_frames _ hr, hv]
  exact hrest
theorem zh_1 {pc : Nat} {ls : Array Slot} {rest : List Value} {own E : String} {ce : Cell} {q : Addr} {x : ExceptionTableEntry} {suf : List ExceptionTableEntry} (hown : s.vm.findClass own = some m.cls) (ht : c.exceptionTable.toList = x :: suf) (hx : covers x pc = true) (h0 : x.catchType ≠ 0) (hlink : (Cond.classLink own x.catchType E).before args s = true) (hcast : (Cond.castable E E).before args s = true) (hcell : H[q]? = some ce) (hv : ce.vm = .none) (hcl : s.vm.findClass E = some ce.cls)
    (kk : W p l e R s m args below meth c H locs cells slots Q (F0 m x.handlerPc ls [.ref q])) : vx_W p l e R s m args below meth c H locs cells slots Q (F0 m pc ls rest) q := by
  intro T hT X
  have hpl : e.platform.magicAccessors = ({} : Platform).magicAccessors := by rw [X.admits.platform]
  obtain ⟨c3, c4, hc3, hc4, hasg⟩ := Cond.castable_spec hcast
  cases Option.some.inj (hc3.symm.trans hcl)
  obtain ⟨c5, hc5, hl5⟩ := Cond.classLink_spec hown hlink e.platform hpl
  cases Option.some.inj (hc4.symm.trans hc5)
  obtain ⟨dk, _, _, kt, hd, _, _, _, _, hkt, _, hopen⟩ := hl5.here
  have al := X.warmed.alike
  obtain ⟨kt', hkt', -⟩ := al.2.2 _ _ hkt
  have hW' : s.WarmedH (T.vm.noted m.cls x.catchType (.cls c4)) := X.warmed.noted hd hopen (State.rightAt_cls hl5)
  have hfit : T.vm.assignable ce.cls c4 = true := by rw [al.assignable]; exact hasg
  obtain ⟨k9, h9, -⟩ := Vm.findClass_spec hcl
  obtain ⟨k9', h9', -⟩ := al.2.2 _ _ h9
  obtain ⟨t, a1, b1⟩ := kk (T.setVm (T.vm.noted m.cls x.catchType (.cls c4))) hT (X.noted hW')
  refine ⟨t, zh_go X (g := F0 m pc ls rest) rfl (fun Q E d acts => ?_) a1, b1⟩
  refine (W.findHandler_eq (meth := meth) (code := c) X.method' X.code).trans ?_
  rw [ht]
  refine (zh_row (s := (T.setTop (F0 m pc ls rest)).pushFrame (.throwing q)) (f := F0 m pc ls rest) (k := c4) (cell := ce) hx h0 (X.warmed.classLinks hl5) (by show T.heap[q]? = _; rw [hT]; exact hcell) (fun j h => by rw [hv] at h; cases h) ⟨k9', h9'⟩ ⟨kt', hkt'⟩).trans ?_
  exact iff_of_eq (if_pos hfit)
theorem zh_2 {pc : Nat} {ls : Array Slot} {rest : List Value} {own E F : String} {ce : Cell} {q : Addr} {y x : ExceptionTableEntry} {suf : List ExceptionTableEntry} (hown : s.vm.findClass own = some m.cls) (ht : c.exceptionTable.toList = y :: x :: suf) (hy : covers y pc = true) (hx : covers x pc = true) (h1 : y.catchType ≠ 0) (h0 : x.catchType ≠ 0) (hlinkF : (Cond.classLink own y.catchType F).before args s = true) (hno : va_Nc E F s) (hlink : (Cond.classLink own x.catchType E).before args s = true) (hcast : (Cond.castable E E).before args s = true) (hcell : H[q]? = some ce) (hv : ce.vm = .none) (hcl : s.vm.findClass E = some ce.cls)
    (kk : W p l e R s m args below meth c H locs cells slots Q (F0 m x.handlerPc ls [.ref q])) : vx_W p l e R s m args below meth c H locs cells slots Q (F0 m pc ls rest) q := by
  intro T hT X
  have hpl : e.platform.magicAccessors = ({} : Platform).magicAccessors := by rw [X.admits.platform]
  obtain ⟨c3, c4, hc3, hc4, hasg⟩ := Cond.castable_spec hcast
  cases Option.some.inj (hc3.symm.trans hcl)
  obtain ⟨c5, hc5, hl5⟩ := Cond.classLink_spec hown hlink e.platform hpl
  cases Option.some.inj (hc4.symm.trans hc5)
  obtain ⟨c6, hc6, hl6⟩ := Cond.classLink_spec hown hlinkF e.platform hpl
  obtain ⟨a8, b8, n1, n2, n3⟩ := hno
  cases Option.some.inj (n1.symm.trans hcl)
  cases Option.some.inj (n2.symm.trans hc6)
  obtain ⟨dk, _, _, kt, hd, _, _, _, _, hkt, _, hopen⟩ := hl5.here
  obtain ⟨dk6, _, _, kt6, hd6, _, _, _, _, hkt6, _, hopen6⟩ := hl6.here
  have al := X.warmed.alike
  have hW1 : s.WarmedH (T.vm.noted m.cls y.catchType (.cls c6)) := X.warmed.noted hd6 hopen6 (State.rightAt_cls hl6)
  have X1 := X.noted hW1
  have al1 := hW1.alike
  have hW' : s.WarmedH ((T.vm.noted m.cls y.catchType (.cls c6)).noted m.cls x.catchType (.cls c4)) := hW1.noted hd hopen (State.rightAt_cls hl5)
  obtain ⟨k9, h9, -⟩ := Vm.findClass_spec hcl
  obtain ⟨k9', h9', -⟩ := al.2.2 _ _ h9
  obtain ⟨k9'', h9'', -⟩ := al1.2.2 _ _ h9
  obtain ⟨kt', hkt', -⟩ := al1.2.2 _ _ hkt
  obtain ⟨kt6', hkt6', -⟩ := al.2.2 _ _ hkt6
  have hfit : (T.vm.noted m.cls y.catchType (.cls c6)).assignable ce.cls c4 = true := by rw [al1.assignable]; exact hasg
  have hnf : ¬ T.vm.assignable ce.cls c6 = true := by rw [al.assignable, n3]; decide
  obtain ⟨t, a1, b1⟩ := kk (T.setVm ((T.vm.noted m.cls y.catchType (.cls c6)).noted m.cls x.catchType (.cls c4))) hT (X.noted hW')
  refine ⟨t, zh_go X (g := F0 m pc ls rest) rfl (fun Q E d acts => ?_) a1, b1⟩
  refine (W.findHandler_eq (meth := meth) (code := c) X.method' X.code).trans ?_
  rw [ht]
  refine (zh_row (s := (T.setTop (F0 m pc ls rest)).pushFrame (.throwing q)) (f := F0 m pc ls rest) (k := c6) (cell := ce) hy h1 (X.warmed.classLinks hl6) (by show T.heap[q]? = _; rw [hT]; exact hcell) (fun j h => by rw [hv] at h; cases h) ⟨k9', h9'⟩ ⟨kt6', hkt6'⟩).trans ?_
  refine (iff_of_eq (if_neg hnf)).trans ?_
  refine (zh_row (s := ((T.setTop (F0 m pc ls rest)).pushFrame (.throwing q)).setVm (T.vm.noted m.cls y.catchType (.cls c6))) (f := F0 m pc ls rest) (k := c4) (cell := ce) hx h0 (hW1.classLinks hl5) (by show T.heap[q]? = _; rw [hT]; exact hcell) (fun j h => by rw [hv] at h; cases h) ⟨k9'', h9''⟩ ⟨kt', hkt'⟩).trans ?_
  exact iff_of_eq (if_pos hfit)
end
