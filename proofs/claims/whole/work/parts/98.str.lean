/-! the JDK's texts: length, charAt -/
abbrev zLV : Type := List (Nat × Value)
def zJc (l : Launch) (g : zG) (M : zM) (P : State → Prop) (own : String) (cc : ByteArray) (ret : Option FieldType) (nL : Nat) (d : Nat) (lo : zLV) (p : Program) (R : Room) (s : State) (m : MethodId) (args : Array Value) (meth : Method) (c : Code) (H : Heap) (locs : List Loc) (ls : Array Slot) : Prop := (p.tables.exec = Jvm.exec) ∧ (c.code = cc) ∧ (meth.sig.returnType = ret) ∧ (c.maxLocals = nL) ∧ (s.vm.findClass own = some m.cls) ∧ (meth.locks = false) ∧ (∀ w ∈ zws, w.before args s = true) ∧ (zW l g s) ∧ (P s) ∧ (d ≤ R.frames) ∧ (37 * d ≤ R.locals) ∧ (zH g M s.heap) ∧ (zH g M H) ∧ (∀ q ∈ locs, g.2.2.1 ≤ q.base) ∧ (lv_has ls nL lo)
theorem zJc.ex {l : Launch} {g : zG} {M : zM} {P : State → Prop} {own : String} {cc : ByteArray} {ret : Option FieldType} {nL : Nat} {d : Nat} {lo : zLV} {p : Program} {R : Room} {s : State} {m : MethodId} {args : Array Value} {meth : Method} {c : Code} {H : Heap} {locs : List Loc} {ls : Array Slot} (h : zJc l g M P own cc ret nL d lo p R s m args meth c H locs ls) : p.tables.exec = Jvm.exec := h.1
theorem zJc.cd {l : Launch} {g : zG} {M : zM} {P : State → Prop} {own : String} {cc : ByteArray} {ret : Option FieldType} {nL : Nat} {d : Nat} {lo : zLV} {p : Program} {R : Room} {s : State} {m : MethodId} {args : Array Value} {meth : Method} {c : Code} {H : Heap} {locs : List Loc} {ls : Array Slot} (h : zJc l g M P own cc ret nL d lo p R s m args meth c H locs ls) : c.code = cc := h.2.1
theorem zJc.rt {l : Launch} {g : zG} {M : zM} {P : State → Prop} {own : String} {cc : ByteArray} {ret : Option FieldType} {nL : Nat} {d : Nat} {lo : zLV} {p : Program} {R : Room} {s : State} {m : MethodId} {args : Array Value} {meth : Method} {c : Code} {H : Heap} {locs : List Loc} {ls : Array Slot} (h : zJc l g M P own cc ret nL d lo p R s m args meth c H locs ls) : meth.sig.returnType = ret := h.2.2.1
theorem zJc.ml {l : Launch} {g : zG} {M : zM} {P : State → Prop} {own : String} {cc : ByteArray} {ret : Option FieldType} {nL : Nat} {d : Nat} {lo : zLV} {p : Program} {R : Room} {s : State} {m : MethodId} {args : Array Value} {meth : Method} {c : Code} {H : Heap} {locs : List Loc} {ls : Array Slot} (h : zJc l g M P own cc ret nL d lo p R s m args meth c H locs ls) : c.maxLocals = nL := h.2.2.2.1
theorem zJc.ow {l : Launch} {g : zG} {M : zM} {P : State → Prop} {own : String} {cc : ByteArray} {ret : Option FieldType} {nL : Nat} {d : Nat} {lo : zLV} {p : Program} {R : Room} {s : State} {m : MethodId} {args : Array Value} {meth : Method} {c : Code} {H : Heap} {locs : List Loc} {ls : Array Slot} (h : zJc l g M P own cc ret nL d lo p R s m args meth c H locs ls) : s.vm.findClass own = some m.cls := h.2.2.2.2.1
theorem zJc.lk {l : Launch} {g : zG} {M : zM} {P : State → Prop} {own : String} {cc : ByteArray} {ret : Option FieldType} {nL : Nat} {d : Nat} {lo : zLV} {p : Program} {R : Room} {s : State} {m : MethodId} {args : Array Value} {meth : Method} {c : Code} {H : Heap} {locs : List Loc} {ls : Array Slot} (h : zJc l g M P own cc ret nL d lo p R s m args meth c H locs ls) : meth.locks = false := h.2.2.2.2.2.1
theorem zJc.ts {l : Launch} {g : zG} {M : zM} {P : State → Prop} {own : String} {cc : ByteArray} {ret : Option FieldType} {nL : Nat} {d : Nat} {lo : zLV} {p : Program} {R : Room} {s : State} {m : MethodId} {args : Array Value} {meth : Method} {c : Code} {H : Heap} {locs : List Loc} {ls : Array Slot} (h : zJc l g M P own cc ret nL d lo p R s m args meth c H locs ls) : ∀ w ∈ zws, w.before args s = true := h.2.2.2.2.2.2.1
theorem zJc.w {l : Launch} {g : zG} {M : zM} {P : State → Prop} {own : String} {cc : ByteArray} {ret : Option FieldType} {nL : Nat} {d : Nat} {lo : zLV} {p : Program} {R : Room} {s : State} {m : MethodId} {args : Array Value} {meth : Method} {c : Code} {H : Heap} {locs : List Loc} {ls : Array Slot} (h : zJc l g M P own cc ret nL d lo p R s m args meth c H locs ls) : zW l g s := h.2.2.2.2.2.2.2.1
theorem zJc.pp {l : Launch} {g : zG} {M : zM} {P : State → Prop} {own : String} {cc : ByteArray} {ret : Option FieldType} {nL : Nat} {d : Nat} {lo : zLV} {p : Program} {R : Room} {s : State} {m : MethodId} {args : Array Value} {meth : Method} {c : Code} {H : Heap} {locs : List Loc} {ls : Array Slot} (h : zJc l g M P own cc ret nL d lo p R s m args meth c H locs ls) : P s := h.2.2.2.2.2.2.2.2.1
theorem zJc.fr {l : Launch} {g : zG} {M : zM} {P : State → Prop} {own : String} {cc : ByteArray} {ret : Option FieldType} {nL : Nat} {d : Nat} {lo : zLV} {p : Program} {R : Room} {s : State} {m : MethodId} {args : Array Value} {meth : Method} {c : Code} {H : Heap} {locs : List Loc} {ls : Array Slot} (h : zJc l g M P own cc ret nL d lo p R s m args meth c H locs ls) : d ≤ R.frames := h.2.2.2.2.2.2.2.2.2.1
theorem zJc.lc {l : Launch} {g : zG} {M : zM} {P : State → Prop} {own : String} {cc : ByteArray} {ret : Option FieldType} {nL : Nat} {d : Nat} {lo : zLV} {p : Program} {R : Room} {s : State} {m : MethodId} {args : Array Value} {meth : Method} {c : Code} {H : Heap} {locs : List Loc} {ls : Array Slot} (h : zJc l g M P own cc ret nL d lo p R s m args meth c H locs ls) : 37 * d ≤ R.locals := h.2.2.2.2.2.2.2.2.2.2.1
theorem zJc.h1 {l : Launch} {g : zG} {M : zM} {P : State → Prop} {own : String} {cc : ByteArray} {ret : Option FieldType} {nL : Nat} {d : Nat} {lo : zLV} {p : Program} {R : Room} {s : State} {m : MethodId} {args : Array Value} {meth : Method} {c : Code} {H : Heap} {locs : List Loc} {ls : Array Slot} (h : zJc l g M P own cc ret nL d lo p R s m args meth c H locs ls) : zH g M s.heap := h.2.2.2.2.2.2.2.2.2.2.2.1
theorem zJc.h2 {l : Launch} {g : zG} {M : zM} {P : State → Prop} {own : String} {cc : ByteArray} {ret : Option FieldType} {nL : Nat} {d : Nat} {lo : zLV} {p : Program} {R : Room} {s : State} {m : MethodId} {args : Array Value} {meth : Method} {c : Code} {H : Heap} {locs : List Loc} {ls : Array Slot} (h : zJc l g M P own cc ret nL d lo p R s m args meth c H locs ls) : zH g M H := h.2.2.2.2.2.2.2.2.2.2.2.2.1
theorem zJc.lo {l : Launch} {g : zG} {M : zM} {P : State → Prop} {own : String} {cc : ByteArray} {ret : Option FieldType} {nL : Nat} {d : Nat} {lo : zLV} {p : Program} {R : Room} {s : State} {m : MethodId} {args : Array Value} {meth : Method} {c : Code} {H : Heap} {locs : List Loc} {ls : Array Slot} (h : zJc l g M P own cc ret nL d lo p R s m args meth c H locs ls) : ∀ q ∈ locs, g.2.2.1 ≤ q.base := h.2.2.2.2.2.2.2.2.2.2.2.2.2.1
theorem zJc.lv {l : Launch} {g : zG} {M : zM} {P : State → Prop} {own : String} {cc : ByteArray} {ret : Option FieldType} {nL : Nat} {d : Nat} {lo : zLV} {p : Program} {R : Room} {s : State} {m : MethodId} {args : Array Value} {meth : Method} {c : Code} {H : Heap} {locs : List Loc} {ls : Array Slot} (h : zJc l g M P own cc ret nL d lo p R s m args meth c H locs ls) : lv_has ls nL lo := h.2.2.2.2.2.2.2.2.2.2.2.2.2.2
def zJq (r : Option Value) (M : zM) : zR → zM → Prop := fun x M' => x = .inl r ∧ M' = M
def zJ (l : Launch) (g : zG) (M : zM) (P : State → Prop) (own : String) (cc : ByteArray) (ret : Option FieldType) (nL : Nat) (d : Nat) (pc : Nat) (lo : List (Nat × Value)) (st : List Value) (r : Option Value) : Prop :=
  ∀ (p : Program) (e : Env) (R : Room) (s : State) (m : MethodId) (args : Array Value) (below : List Frame) (meth : Method) (c : Code) (H : Heap) (locs : List Loc) (ls : Array Slot), zJc l g M P own cc ret nL d lo p R s m args meth c H locs ls →
    W p l e R s m args below meth c H locs 0 0 (vx_MQ below (zQr g (zJq r M)) (zQx g (zJq r M)) args s 0 0 (fun q => g.2.2.1 ≤ q)) (F0 m pc ls st)
def zJm (l : Launch) (g : zG) (M : zM) (d : Nat) (y : MethodName) (cd : Cond) (a : List Value) (P : State → Prop) (r : Option Value) : Prop :=
  vx_Met l y (cd :: zws) (zrm d 0 0) (va_Pc a (fun U => (zW l g U ∧ P U) ∧ zH g M U.heap)) (zQr g (zJq r M)) (zQx g (zJq r M)) 0 0 (fun q => g.2.2.1 ≤ q)
theorem zJm_of {l : Launch} {g : zG} {M : zM} {P : State → Prop} {y : MethodName} {cc : ByteArray} {ret : Option FieldType} {nL d : Nat} {a : List Value} {r : Option Value} (hy : plainName y.cls = true) (hn : (lg_sl a).length ≤ nL) (k : zJ l g M P y.cls cc ret nL d 0 (lv_args 0 a) [] r) : zJm l g M d y (.code y cc nL ret) a P r := by
  refine vx_ofW (cc := cc) (maxL := nL) (ret := ret) hy rfl ?_
  intro p e s m args below meth c s₁ B hml ht hv
  obtain ⟨rfl, ⟨hw, hp⟩, hH⟩ := hv
  have hts := atoms_spec (ws := .code y cc nL ret :: zws) B.pre
  have hl := lv_entry a (n := nL) hn
  rw [lg_entry_eq]
  generalize (lg_sl a ++ List.replicate (nL - (lg_sl a).length) Slot.unset).toArray = ls at hl ⊢
  exact k p e _ s m _ below meth c s.heap [] ls ⟨B.exec, B.bytes, B.returns, hml, findClass_of_methodNamed B.named, B.notSynchronized, fun w hw => hts w (List.mem_cons_of_mem _ hw), hw, hp, Nat.le_refl _, Nat.le_refl _, hH, hH, fun q hq => (by cases hq), hl⟩
theorem zag {l : Launch} {g : zG} {M : zM} {s : State} (hw : zW l g s) (h1 : zH g M s.heap) : ∀ a : Nat, a < g.2.2.2.2.size → ¬ g.2.2.1 ≤ a → s.heap[a]? = g.2.2.2.2[a]? := fun a _ h => h1.2.1 a (by omega)
section
variable {l : Launch} {g : zG} {M : zM} {P : State → Prop} {own : String} {cc : ByteArray} {ret : Option FieldType} {nL d pc : Nat} {lo : List (Nat × Value)} {st : List Value} {r : Option Value}
theorem zJc.S {p : Program} {R : Room} {s : State} {m : MethodId} {args : Array Value} {meth : Method} {c : Code} {H : Heap} {locs : List Loc} {ls : Array Slot} (C : zJc l g M P own cc ret nL d lo p R s m args meth c H locs ls) : va_S (fun q => g.2.2.1 ≤ q) s.heap H locs :=
  ⟨by rw [C.h1.1, C.h2.1]; exact Nat.le_refl _, fun q _ h => by rw [C.h1.2.1 q (by omega), C.h2.2.1 q (by omega)], C.lo⟩
theorem zj_aload {k : Fin 4} {x : Nat} (hx : (k.val, Value.ref x) ∈ lo) (hd : decode cc pc = .ok (.aload_n k, 1)) (h : zJ l g M P own cc ret nL d (pc + 1) lo (.ref x :: st) r) : zJ l g M P own cc ret nL d pc lo st r := by
  intro p e R s m args below meth c H locs ls C
  exact lv_aload_n C.ex C.cd hd rfl (C.lv.2.2 _ hx) (h p e R s m args below meth c H locs ls C)
theorem zj_iload {k : Fin 4} {x : Int32} (hx : (k.val, Value.int x) ∈ lo) (hd : decode cc pc = .ok (.iload_n k, 1)) (h : zJ l g M P own cc ret nL d (pc + 1) lo (.int x :: st) r) : zJ l g M P own cc ret nL d pc lo st r := by
  intro p e R s m args below meth c H locs ls C
  exact lv_iload_n C.ex C.cd hd rfl (C.lv.2.2 _ hx) (h p e R s m args below meth c H locs ls C)
theorem zj_get {o n dd : String} {idx q : Nat} {v : Value} (hE : ∀ s, zW l g s → P s → va_OF o n dd v q (fun q => g.2.2.1 ≤ q) s g.2.2.2.2) (hl : Cond.fieldLink own idx o n dd ∈ zws) (hd : decode cc pc = .ok (.getfield idx, 3)) (h : zJ l g M P own cc ret nL d (pc + 3) lo (v :: st) r) : zJ l g M P own cc ret nL d pc lo (.ref q :: st) r := by
  intro p e R s m args below meth c H locs ls C
  exact vk_getf C.ex C.cd ((hE s C.w C.pp).kept (zag C.w C.h1)) C.S C.ow (C.ts _ hl) (fun x hx => hx) hd (h p e R s m args below meth c H locs ls C)
theorem zj_gets {o n dd : String} {idx : Nat} {v : Value} (hE : ∀ s, zW l g s → P s → va_Z o n dd v (fun q => g.2.2.1 ≤ q) s g.2.2.2.2) (hl : Cond.fieldLink own idx o n dd ∈ zws) (hd : decode cc pc = .ok (.getstatic idx, 3)) (h : zJ l g M P own cc ret nL d (pc + 3) lo (v :: st) r) : zJ l g M P own cc ret nL d pc lo st r := by
  intro p e R s m args below meth c H locs ls C
  exact va_gets C.ex C.cd ((hE s C.w C.pp).kept (zag C.w C.h1)) C.S C.ow (C.ts _ hl) (fun x hx => hx) hd (h p e R s m args below meth c H locs ls C)
theorem zj_alen {t N : Nat} {f : Nat → Value} (hT : ∀ s, zW l g s → P s → va_T .byte t N f (fun q => g.2.2.1 ≤ q) s g.2.2.2.2) (hd : decode cc pc = .ok (.arraylength, 1)) (h : zJ l g M P own cc ret nL d (pc + 1) lo (.int (Int32.ofNat N) :: st) r) : zJ l g M P own cc ret nL d pc lo (.ref t :: st) r := by
  intro p e R s m args below meth c H locs ls C
  exact va_tlen C.ex C.cd ((hT s C.w C.pp).kept (zag C.w C.h1)) C.S rfl hd (h p e R s m args below meth c H locs ls C)
theorem zj_bald {t N : Nat} {f : Nat → Value} {i : Int32} {v : Value} (hT : ∀ s, zW l g s → P s → va_T .byte t N f (fun q => g.2.2.1 ≤ q) s g.2.2.2.2) (hin : vp_in i N) (hv : f i.toNatClampNeg = v) (hd : decode cc pc = .ok (.baload, 1)) (h : zJ l g M P own cc ret nL d (pc + 1) lo (v :: st) r) : zJ l g M P own cc ret nL d pc lo (.int i :: .ref t :: st) r := by
  intro p e R s m args below meth c H locs ls C
  exact va_tb C.ex C.cd ((hT s C.w C.pp).kept (zag C.w C.h1)) C.S hin hv hd (h p e R s m args below meth c H locs ls C)
theorem zj_ifeq {x : Int32} {off : Int} (hx : ¬ x = 0) (tgt : Nat) (ht : (pc : Int) + off = (tgt : Int)) (hd : decode cc pc = .ok (.ifCond .eq off, 3)) (h : zJ l g M P own cc ret nL d (pc + 3) lo st r) : zJ l g M P own cc ret nL d pc lo (.int x :: st) r := by
  intro p e R s m args below meth c H locs ls C
  exact lv_if_eq C.ex C.cd hd ht (fun z => absurd z hx) (fun _ => h p e R s m args below meth c H locs ls C)
theorem zj_ifne {off : Int} (tgt : Nat) (ht : (pc : Int) + off = (tgt : Int)) (hd : decode cc pc = .ok (.ifCond .ne off, 3)) (h : zJ l g M P own cc ret nL d (pc + 3) lo st r) : zJ l g M P own cc ret nL d pc lo (.int 0 :: st) r := by
  intro p e R s m args below meth c H locs ls C
  exact lv_if_ne C.ex C.cd hd ht (fun z => absurd rfl z) (fun _ => h p e R s m args below meth c H locs ls C)
theorem zj_iflt {x : Int32} {off : Int} (hx : ¬ x < 0) (tgt : Nat) (ht : (pc : Int) + off = (tgt : Int)) (hd : decode cc pc = .ok (.ifCond .lt off, 3)) (h : zJ l g M P own cc ret nL d (pc + 3) lo st r) : zJ l g M P own cc ret nL d pc lo (.int x :: st) r := by
  intro p e R s m args below meth c H locs ls C
  exact lv_if_lt C.ex C.cd hd ht (fun z => absurd z hx) (fun _ => h p e R s m args below meth c H locs ls C)
theorem zj_icmplt {x y : Int32} {off : Int} (hx : x < y) (tgt : Nat) (ht : (pc : Int) + off = (tgt : Int)) (hd : decode cc pc = .ok (.if_icmp .lt off, 3)) (h : zJ l g M P own cc ret nL d tgt lo st r) : zJ l g M P own cc ret nL d pc lo (.int y :: .int x :: st) r := by
  intro p e R s m args below meth c H locs ls C
  exact lv_icmp_lt C.ex C.cd hd ht (fun _ => h p e R s m args below meth c H locs ls C) (fun z => absurd hx z)
theorem zj_goto {off : Int} (tgt : Nat) (ht : (pc : Int) + off = (tgt : Int)) (hd : decode cc pc = .ok (.goto off, 3)) (h : zJ l g M P own cc ret nL d tgt lo st r) : zJ l g M P own cc ret nL d pc lo st r := by
  intro p e R s m args below meth c H locs ls C
  exact lv_goto C.ex C.cd hd ht (h p e R s m args below meth c H locs ls C)
theorem zj_iconst {n : Int} (hd : decode cc pc = .ok (.iconst n, 1)) (h : zJ l g M P own cc ret nL d (pc + 1) lo (.int (Int32.ofInt n) :: st) r) : zJ l g M P own cc ret nL d pc lo st r := by
  intro p e R s m args below meth c H locs ls C
  exact lv_iconst C.ex C.cd hd rfl (h p e R s m args below meth c H locs ls C)
theorem zj_sipush {n : Int} (hd : decode cc pc = .ok (.sipush n, 3)) (h : zJ l g M P own cc ret nL d (pc + 3) lo (.int ((Int16.ofInt n).toInt32) :: st) r) : zJ l g M P own cc ret nL d pc lo st r := by
  intro p e R s m args below meth c H locs ls C
  exact lv_sipush C.ex C.cd hd rfl (h p e R s m args below meth c H locs ls C)
theorem zj_iand {x y : Int32} (hd : decode cc pc = .ok (.iand, 1)) (h : zJ l g M P own cc ret nL d (pc + 1) lo (.int (x &&& y) :: st) r) : zJ l g M P own cc ret nL d pc lo (.int y :: .int x :: st) r := by
  intro p e R s m args below meth c H locs ls C
  exact lv_iand C.ex C.cd hd (h p e R s m args below meth c H locs ls C)
theorem zj_ishr {x y : Int32} (hd : decode cc pc = .ok (.ishr, 1)) (h : zJ l g M P own cc ret nL d (pc + 1) lo (.int (x >>> (y &&& 31)) :: st) r) : zJ l g M P own cc ret nL d pc lo (.int y :: .int x :: st) r := by
  intro p e R s m args below meth c H locs ls C
  exact lv_ishr C.ex C.cd hd (h p e R s m args below meth c H locs ls C)
theorem zj_i2c {x v : Int32} (hv : (x.toUInt32 % 65536).toInt32 = v) (hd : decode cc pc = .ok (.i2c, 1)) (h : zJ l g M P own cc ret nL d (pc + 1) lo (.int v :: st) r) : zJ l g M P own cc ret nL d pc lo (.int x :: st) r := by
  intro p e R s m args below meth c H locs ls C
  exact lv_i2c C.ex C.cd hd hv (h p e R s m args below meth c H locs ls C)
theorem zj_pop {x : Int32} (hd : decode cc pc = .ok (.pop, 1)) (h : zJ l g M P own cc ret nL d (pc + 1) lo st r) : zJ l g M P own cc ret nL d pc lo (.int x :: st) r := by
  intro p e R s m args below meth c H locs ls C
  exact lv_pop C.ex C.cd hd rfl (h p e R s m args below meth c H locs ls C)
theorem zj_ret {x : Int32} {ty : FieldType} (hr : ret = some ty) (hn : narrow ty (.int x) = .int x) (hd : decode cc pc = .ok (.ireturn, 1)) (he : r = some (.int x)) : zJ l g M P own cc ret nL d pc lo [.int x] r := by
  intro p e R s m args below meth c H locs ls C
  refine vx_ret ?_
  exact W.zret C.ex C.cd (C.rt.trans hr) hn (fun t ht _ => ⟨some (.int x), M, rfl, ⟨by rw [he], rfl⟩, by rw [ht]; exact C.h2⟩) C.lo hd (hlocks := C.lk)
theorem zj_vret (hr : ret = none) (hd : decode cc pc = .ok (.return_, 1)) (he : r = none) : zJ l g M P own cc ret nL d pc lo [] r := by
  intro p e R s m args below meth c H locs ls C
  refine vx_ret ?_
  exact W.vret C.ex C.cd (C.rt.trans hr) (fun t ht _ => ⟨none, M, rfl, ⟨by rw [he], rfl⟩, by rw [ht]; exact C.h2⟩) C.lo hd (hlocks := C.lk)
theorem zjblind {av : List Value} (hP : ∀ s U : State, s.WarmedH U.vm → P s → P U) : FrameBlind (va_Pc av (fun U => (zW l g U ∧ P U) ∧ zH g M U.heap)) := by
  intro a U g' mk h
  obtain ⟨h1, ⟨h2, h3⟩, h4⟩ := h
  exact ⟨h1, ⟨zW.warm (s := U) (U := U.calling g' mk a) (State.WarmedH.refl U) h2, hP U (U.calling g' mk a) (State.WarmedH.refl U) h3⟩, h4⟩
theorem zj_static {idx n nL' d' : Nat} {y : MethodName} {cc' : ByteArray} {ret' : Option FieldType} {a rest : List Value} {P' : State → Prop} {r' : Option Value} (hd : decode cc pc = .ok (.invokestatic idx, 3)) (hl : Cond.methodLink own idx y ∈ zws) (hm : zMth y (.code y cc' nL' ret') n) (hi : Cond.static y ∈ zws)
    (hst : st = a.reverse ++ rest) (hn : a.length = n) (h1 : d' + 1 ≤ d) (h2 : nL' ≤ 18) (h3 : (rest.map Value.category).sum ≤ 8) (hr' : r'.map (zc g) = r') (hP' : ∀ s U : State, s.WarmedH U.vm → P' s → P' U) (hPP : ∀ s, zW l g s → P s → P' s) (hR : zJm l g M d' y (.code y cc' nL' ret') a P' r')
    (k : zJ l g M P own cc ret nL d (pc + 3) lo (r'.toList ++ rest) r) : zJ l g M P own cc ret nL d pc lo st r := by
  intro p e R s m args below meth c H locs ls C
  subst hst
  have q1 := C.fr
  have q2 := C.lc
  have hrun := vx_runS (l := l) (R := R) (H := H) (p := p) (e := e) (below := below) (meth := meth) (locs := locs) (cells := 0) (slots := 0) (g := F0 m pc ls (a.reverse ++ rest)) (As := a) (rest := rest) (Ts := zws) ⟨C.ex, C.cd, C.ml, C.ow, C.ts⟩ hR
    ⟨zcallB hm (C.ts _ hl) C.ts (by omega) (by omega), C.ts _ hi⟩
    ⟨zjblind hP', fun U hU hW => ⟨rfl, ⟨zW.warm hW C.w, hP' s U hW (hPP s C.w C.pp)⟩, by rw [hU]; exact C.h2⟩⟩
    rfl hn C.lv.1 rfl (by show 2 * 0 + (rest.map Value.category).sum ≤ 8; omega) hd ⟨Nat.zero_le _, Nat.zero_le _⟩
  intro T hT X
  rcases hrun T hT X with ⟨v, st₀, t, T', L, h0, X', hL, e1, e2, ⟨w, M', hv, ⟨hw, hM'⟩, hH⟩, stp⟩ | ⟨q, st₀, t, T', L, E, ce, h0, X', hL, e1, e2, ⟨M', ⟨hq, -⟩, hH⟩, -⟩
  · cases hv
    have hw := Sum.inl.inj hw
    subst hw
    subst hM'
    rw [hr'] at stp
    obtain ⟨t2, b1, b2⟩ := k p e R s m args below meth c T'.heap (locs ++ L) ls ⟨C.ex, C.cd, C.rt, C.ml, C.ow, C.lk, C.ts, C.w, C.pp, C.fr, C.lc, C.h1, by rw [e1]; exact hH, fun q hq => (List.mem_append.mp hq).elim (C.lo q) (hL q), C.lv⟩ T' rfl X'
    exact ⟨t2, stp t2 b1, b2⟩
  · cases hq
theorem zj_virt {idx n nL' d' b : Nat} {y : MethodName} {cc' : ByteArray} {ret' : Option FieldType} {a rest : List Value} {P' : State → Prop} {r' : Option Value} (hd : decode cc pc = .ok (.invokevirtual idx, 3)) (hl : Cond.methodLink own idx y ∈ zws) (hm : zMth y (.code y cc' nL' ret') n) (hi : Cond.instanceMethod y ∈ zws) (hs : Cond.selects y.cls y y ∈ zws) (hO : ∀ s, zW l g s → P s → va_O y.cls b (fun q => g.2.2.1 ≤ q) s g.2.2.2.2)
    (hst : st = a.reverse ++ .ref b :: rest) (hn : a.length = n) (h1 : d' + 1 ≤ d) (h2 : nL' ≤ 18) (h3 : (rest.map Value.category).sum ≤ 8) (hr' : r'.map (zc g) = r') (hP' : ∀ s U : State, s.WarmedH U.vm → P' s → P' U) (hPP : ∀ s, zW l g s → P s → P' s) (hR : zJm l g M d' y (.code y cc' nL' ret') (.ref b :: a) P' r')
    (k : zJ l g M P own cc ret nL d (pc + 3) lo (r'.toList ++ rest) r) : zJ l g M P own cc ret nL d pc lo st r := by
  intro p e R s m args below meth c H locs ls C
  subst hst
  have q1 := C.fr
  have q2 := C.lc
  obtain ⟨cell, c1, c2, c3, -⟩ := ((hO s C.w C.pp).kept (zag C.w C.h1)).kept C.S.2.1
  have hrun := vx_runV (l := l) (R := R) (H := H) (p := p) (e := e) (below := below) (meth := meth) (locs := locs) (cells := 0) (slots := 0) (g := F0 m pc ls (a.reverse ++ .ref b :: rest)) (As := a) (rest := rest) (b := b) (C := y.cls) (Ts := zws) ⟨C.ex, C.cd, C.ml, C.ow, C.ts⟩ hR
    ⟨zcallB hm (C.ts _ hl) C.ts (by omega) (by omega), C.ts _ hi, C.ts _ hs⟩
    ⟨zjblind hP', ⟨cell, c1, c2, c3⟩, fun U hU hW => ⟨rfl, ⟨zW.warm hW C.w, hP' s U hW (hPP s C.w C.pp)⟩, by rw [hU]; exact C.h2⟩⟩
    rfl hn C.lv.1 rfl (by show 2 * 0 + (rest.map Value.category).sum ≤ 8; omega) hd ⟨Nat.zero_le _, Nat.zero_le _⟩
  intro T hT X
  rcases hrun T hT X with ⟨v, st₀, t, T', L, h0, X', hL, e1, e2, ⟨w, M', hv, ⟨hw, hM'⟩, hH⟩, stp⟩ | ⟨q, st₀, t, T', L, E, ce, h0, X', hL, e1, e2, ⟨M', ⟨hq, -⟩, hH⟩, -⟩
  · cases hv
    have hw := Sum.inl.inj hw
    subst hw
    subst hM'
    rw [hr'] at stp
    obtain ⟨t2, b1, b2⟩ := k p e R s m args below meth c T'.heap (locs ++ L) ls ⟨C.ex, C.cd, C.rt, C.ml, C.ow, C.lk, C.ts, C.w, C.pp, C.fr, C.lc, C.h1, by rw [e1]; exact hH, fun q hq => (List.mem_append.mp hq).elim (C.lo q) (hL q), C.lv⟩ T' rfl X'
    exact ⟨t2, stp t2 b1, b2⟩
  · cases hq
end
/-- a text, as the world has it: its bytes' row -/
def zJt (g : zG) (i av : Nat) (bs : List Int32) (s : State) : Prop := va_O "java/lang/String" (g.2.2.2.1 i) (fun q => g.2.2.1 ≤ q) s g.2.2.2.2 ∧ va_OF "java/lang/String" "coder" "B" (.int 0) (g.2.2.2.1 i) (fun q => g.2.2.1 ≤ q) s g.2.2.2.2 ∧ va_OF "java/lang/String" "value" "[B" (.ref av) (g.2.2.2.1 i) (fun q => g.2.2.1 ≤ q) s g.2.2.2.2 ∧ va_T .byte av bs.length (fun j => .int (bs.getD j 0)) (fun q => g.2.2.1 ≤ q) s g.2.2.2.2
theorem zJt.warm {g : zG} {i av : Nat} {bs : List Int32} : ∀ s U : State, s.WarmedH U.vm → zJt g i av bs s → zJt g i av bs U := fun _ _ hW h => ⟨va_O.moved hW.alike h.1, va_OF.moved hW.alike h.2.1, va_OF.moved hW.alike h.2.2.1, va_T.moved hW.alike h.2.2.2⟩
section
variable {l : Launch} {g : zG} {M : zM} {i av : Nat} {bs : List Int32}
theorem J_coder : zJm l g M 0 yJ0_coder_7d493 (.code yJ0_coder_7d493 cJ0_coder_7d493 1 (some .byte)) [.ref (g.2.2.2.1 i)] (zJt g i av bs) (some (.int 0)) := by
  refine zJm_of (by decide) (by show 1 ≤ 1; decide) ?_
  refine zj_gets (idx := 38) (fun s hw _ => hw.2.2.2.2.2.1.1) (z_at 656 (by decide +kernel) (by decide +kernel)) (by decide +kernel) ?_
  refine zj_ifeq (off := 10) (by decide) 13 (by decide) (by decide +kernel) ?_
  refine zj_aload (k := 0) List.mem_cons_self (by decide +kernel) ?_
  refine zj_get (idx := 15) (fun s _ hp => hp.2.1) (z_at 1851 (by decide +kernel) (by decide +kernel)) (by decide +kernel) ?_
  refine zj_goto (off := 4) 14 (by decide) (by decide +kernel) ?_
  exact zj_ret rfl rfl (by decide +kernel) rfl
theorem J_latin : zJm l g M 0 yJ0_isLatin1_aae02 (.code yJ0_isLatin1_aae02 cJ0_isLatin1_aae02 1 (some .boolean)) [.ref (g.2.2.2.1 i)] (zJt g i av bs) (some (.int 1)) := by
  refine zJm_of (by decide) (by show 1 ≤ 1; decide) ?_
  refine zj_gets (idx := 38) (fun s hw _ => hw.2.2.2.2.2.1.1) (z_at 656 (by decide +kernel) (by decide +kernel)) (by decide +kernel) ?_
  refine zj_ifeq (off := 14) (by decide) 17 (by decide) (by decide +kernel) ?_
  refine zj_aload (k := 0) List.mem_cons_self (by decide +kernel) ?_
  refine zj_get (idx := 15) (fun s _ hp => hp.2.1) (z_at 1851 (by decide +kernel) (by decide +kernel)) (by decide +kernel) ?_
  refine zj_ifne (off := 7) 17 (by decide) (by decide +kernel) ?_
  refine zj_iconst (n := 1) (by decide +kernel) ?_
  refine zj_goto (off := 4) 18 (by decide) (by decide +kernel) ?_
  exact zj_ret rfl rfl (by decide +kernel) rfl
theorem J_mth {y : MethodName} {cc : ByteArray} {nL n : Nat} {ret : Option FieldType} (h1 : Cond.code y cc nL ret ∈ zws) (h2 : Cond.initialized y.cls ∈ zws) (h3 : (y.cls ≠ "java/lang/invoke/MethodHandle" ∧ y.cls ≠ "java/lang/invoke/VarHandle")) (h4 : (parseMethodDescriptor y.desc).map (fun d => d.parameters.length) = some n) : zMth y (.code y cc nL ret) n := ⟨h1, h2, h3, h4⟩
theorem J_length : zJm l g M 1 yJ0_length_8abf5 (.code yJ0_length_8abf5 cJ0_length_8abf5 1 (some .int)) [.ref (g.2.2.2.1 i)] (zJt g i av bs) (some (.int (Int32.ofNat bs.length >>> ((0 : Int32) &&& 31)))) := by
  refine zJm_of (by decide) (by show 1 ≤ 1; decide) ?_
  refine zj_aload (k := 0) List.mem_cons_self (by decide +kernel) ?_
  refine zj_get (idx := 9) (fun s _ hp => hp.2.2.1) (z_at 1850 (by decide +kernel) (by decide +kernel)) (by decide +kernel) ?_
  refine zj_alen (fun s _ hp => hp.2.2.2) (by decide +kernel) ?_
  refine zj_aload (k := 0) List.mem_cons_self (by decide +kernel) ?_
  refine zj_virt (idx := 335) (y := yJ0_coder_7d493) (a := []) (d' := 0) (by decide +kernel) (z_at 652 (by decide +kernel) (by decide +kernel)) (J_mth (n := 0) (z_at 655 (by decide +kernel) (by decide +kernel)) (z_at 20 (by decide +kernel) (by decide +kernel)) (by decide) (by decide +kernel)) (z_at 653 (by decide +kernel) (by decide +kernel)) (z_at 654 (by decide +kernel) (by decide +kernel)) (fun s _ hp => hp.1) rfl rfl (by decide) (by decide) (by show 1 + 0 ≤ 8; decide) rfl zJt.warm (fun _ _ h => h) J_coder ?_
  refine zj_ishr (by decide +kernel) ?_
  exact zj_ret rfl rfl (by decide +kernel) rfl
theorem J_pre {k n : Int32} {v : Value} (hv : v.category = 1) (h0 : ¬ k < 0) (hk : k < n) : zJm l g M 0 yJ3_checkIndex_8e157 (.code yJ3_checkIndex_8e157 cJ3_checkIndex_8e157 3 (some .int)) [.int k, .int n, v] (fun _ => True) (some (.int k)) := by
  have e : ∀ (a : Value) (as : List Value), lg_sl (a :: as) = (if a.category = 2 then [.val a, .second] else [.val a]) ++ lg_sl as := fun a as => rfl
  refine zJm_of (by decide) (by rw [e, e, e, hv]; show 3 ≤ 3; decide) ?_
  refine zj_iload (k := 0) List.mem_cons_self (by decide +kernel) ?_
  refine zj_iflt (off := 8) h0 9 (by decide) (by decide +kernel) ?_
  refine zj_iload (k := 0) List.mem_cons_self (by decide +kernel) ?_
  refine zj_iload (k := 1) (List.mem_cons_of_mem _ List.mem_cons_self) (by decide +kernel) ?_
  refine zj_icmplt (off := 10) hk 16 (by decide) (by decide +kernel) ?_
  refine zj_iload (k := 0) List.mem_cons_self (by decide +kernel) ?_
  exact zj_ret rfl rfl (by decide +kernel) rfl
theorem J_check {k n : Int32} (h0 : ¬ k < 0) (hk : k < n) : zJm l g M 1 yJ0_checkIndex_df160 (.code yJ0_checkIndex_df160 cJ0_checkIndex_df160 2 none) [.int k, .int n] (fun _ => True) none := by
  refine zJm_of (by decide) (by show 2 ≤ 2; decide) ?_
  refine zj_iload (k := 0) List.mem_cons_self (by decide +kernel) ?_
  refine zj_iload (k := 1) (List.mem_cons_of_mem _ List.mem_cons_self) (by decide +kernel) ?_
  intro p e R s m args below meth c H locs ls C
  have go : ∀ v : Value, v.category = 1 → va_Z "jdk/internal/util/Preconditions" "SIOOBE_FORMATTER" "Ljava/util/function/BiFunction;" v (fun q => g.2.2.1 ≤ q) s g.2.2.2.2 → W p l e R s m args below meth c H locs 0 0 (vx_MQ below (zQr g (zJq none M)) (zQx g (zJq none M)) args s 0 0 (fun q => g.2.2.1 ≤ q)) (F0 m 2 ls [.int n, .int k]) := fun v hv hz => by
    refine va_gets (index := 1053) C.ex C.cd (hz.kept (zag C.w C.h1)) C.S C.ow (C.ts _ (z_at 672 (by decide +kernel) (by decide +kernel))) (fun x hx => hx) (by decide +kernel) ?_
    refine zj_static (idx := 1059) (y := yJ3_checkIndex_8e157) (a := [.int k, .int n, v]) (rest := []) (d' := 0) (by decide +kernel) (z_at 674 (by decide +kernel) (by decide +kernel)) (J_mth (n := 3) (z_at 676 (by decide +kernel) (by decide +kernel)) (z_at 22 (by decide +kernel) (by decide +kernel)) (by decide) (by decide +kernel)) (z_at 675 (by decide +kernel) (by decide +kernel)) rfl rfl (by decide) (by decide) (by decide) rfl (fun _ _ _ h => h) (fun _ _ h => h) (J_pre hv h0 hk) ?_ p e R s m args below meth c H locs ls C
    refine zj_pop (by decide +kernel) ?_
    exact zj_vret rfl (by decide +kernel) rfl
  rcases C.w.2.2.2.2.2.1.2.1 with h | ⟨t, h⟩
  · exact go .null rfl h
  · exact go (.ref t) rfl h
theorem J_char1 {k : Nat} (hk : k < bs.length) (hl : bs.length < 2147483648) {x : Int32} (hx : (((bs.getD k 0) &&& (Int16.ofInt 255).toInt32).toUInt32 % 65536).toInt32 = x) (hn : narrow .char (.int x) = .int x) : zJm l g M 2 yJ1_charAt_3b067 (.code yJ1_charAt_3b067 cJ1_charAt_3b067 2 (some .char)) [.ref av, .int (Int32.ofNat k)] (zJt g i av bs) (some (.int x)) := by
  have k0 : ¬ Int32.ofNat k < 0 := nI_pos (by omega)
  have k1 : Int32.ofNat k < Int32.ofNat bs.length := nI_lt hk (by omega)
  refine zJm_of (by decide) (by show 2 ≤ 2; decide) ?_
  refine zj_iload (k := 1) (List.mem_cons_of_mem _ List.mem_cons_self) (by decide +kernel) ?_
  refine zj_aload (k := 0) List.mem_cons_self (by decide +kernel) ?_
  refine zj_alen (fun s _ hp => hp.2.2.2) (by decide +kernel) ?_
  refine zj_static (idx := 9) (y := yJ0_checkIndex_df160) (a := [.int (Int32.ofNat k), .int (Int32.ofNat bs.length)]) (rest := []) (d' := 1) (by decide +kernel) (z_at 669 (by decide +kernel) (by decide +kernel)) (J_mth (n := 2) (z_at 671 (by decide +kernel) (by decide +kernel)) (z_at 20 (by decide +kernel) (by decide +kernel)) (by decide) (by decide +kernel)) (z_at 670 (by decide +kernel) (by decide +kernel)) rfl rfl (by decide) (by decide) (by decide) rfl (fun _ _ _ h => h) (fun _ _ _ => trivial) (J_check k0 k1) ?_
  refine zj_aload (k := 0) List.mem_cons_self (by decide +kernel) ?_
  refine zj_iload (k := 1) (List.mem_cons_of_mem _ List.mem_cons_self) (by decide +kernel) ?_
  refine zj_bald (fun s _ hp => hp.2.2.2) (vp_in_nI hk (by omega)) rfl (by decide +kernel) ?_
  refine zj_sipush (n := 255) (by decide +kernel) ?_
  refine zj_iand (by decide +kernel) ?_
  have e9 : (Int32.ofNat k).toNatClampNeg = k := nI_clamp (by omega)
  rw [e9]
  refine zj_i2c hx (by decide +kernel) ?_
  exact zj_ret rfl hn (by decide +kernel) rfl
theorem J_charAt {k : Nat} (hk : k < bs.length) (hl : bs.length < 2147483648) {x : Int32} (hx : (((bs.getD k 0) &&& (Int16.ofInt 255).toInt32).toUInt32 % 65536).toInt32 = x) (hn : narrow .char (.int x) = .int x) : zJm l g M 3 yJ0_charAt_5068e (.code yJ0_charAt_5068e cJ0_charAt_5068e 2 (some .char)) [.ref (g.2.2.2.1 i), .int (Int32.ofNat k)] (zJt g i av bs) (some (.int x)) := by
  refine zJm_of (by decide) (by show 2 ≤ 2; decide) ?_
  refine zj_aload (k := 0) List.mem_cons_self (by decide +kernel) ?_
  refine zj_virt (idx := 492) (y := yJ0_isLatin1_aae02) (a := []) (rest := []) (d' := 0) (by decide +kernel) (z_at 662 (by decide +kernel) (by decide +kernel)) (J_mth (n := 0) (z_at 665 (by decide +kernel) (by decide +kernel)) (z_at 20 (by decide +kernel) (by decide +kernel)) (by decide) (by decide +kernel)) (z_at 663 (by decide +kernel) (by decide +kernel)) (z_at 664 (by decide +kernel) (by decide +kernel)) (fun s _ hp => hp.1) rfl rfl (by decide) (by decide) (by decide) rfl zJt.warm (fun _ _ h => h) J_latin ?_
  refine zj_ifeq (off := 12) (by decide) 16 (by decide) (by decide +kernel) ?_
  refine zj_aload (k := 0) List.mem_cons_self (by decide +kernel) ?_
  refine zj_get (idx := 9) (fun s _ hp => hp.2.2.1) (z_at 1850 (by decide +kernel) (by decide +kernel)) (by decide +kernel) ?_
  refine zj_iload (k := 1) (List.mem_cons_of_mem _ List.mem_cons_self) (by decide +kernel) ?_
  refine zj_static (idx := 495) (y := yJ1_charAt_3b067) (a := [.ref av, .int (Int32.ofNat k)]) (rest := []) (d' := 2) (by decide +kernel) (z_at 666 (by decide +kernel) (by decide +kernel)) (J_mth (n := 2) (z_at 668 (by decide +kernel) (by decide +kernel)) (z_at 21 (by decide +kernel) (by decide +kernel)) (by decide) (by decide +kernel)) (z_at 667 (by decide +kernel) (by decide +kernel)) rfl rfl (by decide) (by decide) (by decide) rfl zJt.warm (fun _ _ h => h) (J_char1 hk hl hx hn) ?_
  exact zj_ret rfl hn (by decide +kernel) rfl
end
