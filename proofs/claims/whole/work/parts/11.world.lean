/-! THE WORLD: a memory of numbers. Cells are counted in the order of their making, from the law's first 'new' on; cell c lies at the address B + c; B: the heap's size at the law's entry. -/
/-- ghosts: class numbers and slots; array classes (int, byte, long); B; addresses of what lay there before (texts); the heap at the law's entry -/
abbrev zG : Type := va_G × (ClassId × ClassId × ClassId) × Nat × (Nat → Nat) × Heap
/-- how many cells; their kinds (0, class) (1, length: int[]) (2, length: byte[]) (3, length: long[]) (9, _: nothing is said); references (0: null, q + 1: cell q); ints; longs -/
abbrev zM : Type := Nat × (Nat → Nat × Nat) × (Nat → Nat → Nat) × (Nat → Nat → Int32) × (Nat → Nat → Int64)
def zad (g : zG) (k : Nat) : Nat := if k < 100000 then g.2.2.1 + k else g.2.2.2.1 (k - 100000)
def zc (g : zG) : Value → Value
  | .ref k => .ref (zad g k)
  | v => v
theorem zc_cat (g : zG) (v : Value) : (zc g v).category = v.category := by cases v <;> rfl
def zr : Nat → Value
  | 0 => .null
  | k + 1 => .ref k
/-- what the field k of the cell c, of the class ci, holds -/
def zfv (M : zM) (ci c k : Nat) : Value := match tyT ci k with
  | .long => .long (M.2.2.2.2 c k)
  | .object _ => zr (M.2.2.1 c k)
  | .array _ => zr (M.2.2.1 c k)
  | _ => .int (M.2.2.2.1 c k)
def zcell (g : zG) (M : zM) (H : Heap) (c : Nat) : Prop := match M.2.1 c with
  | (0, ci) => ∃ q : vw_C, zcl[ci]? = some q ∧ t_OB (g.2.2.1 + c) (g.1.1 ci) q.2.2 (g.1.2 ci) H (fun k => zc g (zfv M ci c k))
  | (1, n) => H[g.2.2.1 + c]? = some (arrV g.2.1.1 n (fun j => .int (M.2.2.2.1 c j)))
  | (2, n) => H[g.2.2.1 + c]? = some (arrV g.2.1.2.1 n (fun j => .int (M.2.2.2.1 c j)))
  | (3, n) => H[g.2.2.1 + c]? = some (arrV g.2.1.2.2 n (fun j => .long (M.2.2.2.2 c j)))
  | _ => True
/-- the heap holds the memory -/
def zH (g : zG) (M : zM) (H : Heap) : Prop := H.size = g.2.2.1 + M.1 ∧ (∀ q : Nat, q < g.2.2.1 → H[q]? = g.2.2.2.2[q]?) ∧ ∀ c : Nat, (M.2.1 c).1 ≠ 9 → c < M.1 ∧ c < 100000 ∧ zcell g M H c
def zNest : List Cond := [.methodLinkNest RX11 11 yX9_init RX11, .methodLinkNest RX11 41 yX0_init RX11, .methodLinkNest RX11 99 yX8_init RX11, .methodLinkNest RX0 55 yX11_nthBit RX11, .methodLinkNest RX1 81 yX11_nthBit RX11]
def zCast : List (String × String) := [("java/lang/IllegalArgumentException", "java/lang/IllegalArgumentException"), ("java/util/NoSuchElementException", "java/util/NoSuchElementException")]
def zDecl : List Cond := [.declares ⟨"java/lang/RuntimeException", "<init>", "()V"⟩, .declares ⟨"java/lang/RuntimeException", "<init>", "(Ljava/lang/String;)V"⟩, .declares ⟨"java/lang/Exception", "<init>", "()V"⟩, .declares ⟨"java/lang/Exception", "<init>", "(Ljava/lang/String;)V"⟩, .declares ⟨"java/lang/Throwable", "<init>", "()V"⟩, .declares ⟨"java/lang/Throwable", "<init>", "(Ljava/lang/String;)V"⟩]
/-- the texts: the class, its pool number, the text, its bytes; the reader's words first -/
def zTx : List (String × Nat × String × List Int32) := [(RX7, 52, "room", [114, 111, 111, 109]), (RX7, 61, "lodger", [108, 111, 100, 103, 101, 114]), (RX7, 112, "left", [108, 101, 102, 116]), (RX7, 117, "right", [114, 105, 103, 104, 116]), (RX7, 66, "finder", [102, 105, 110, 100, 101, 114]), (RX7, 71, "may", [109, 97, 121]), (RX7, 135, "at", [97, 116]), (RX7, 154, "out", [111, 117, 116]), (RX7, 156, "asleep", [97, 115, 108, 101, 101, 112]), (RX7, 158, "cross", [99, 114, 111, 115, 115]), (RX7, 160, "calm", [99, 97, 108, 109]), (RX7, 76, "law", [108, 97, 119]), (RX7, 162, "none", [110, 111, 110, 101]), (RX7, 164, "both", [98, 111, 116, 104]), (RX11, 129, "the tape has not so many bytes", [116, 104, 101, 32, 116, 97, 112, 101, 32, 104, 97, 115, 32, 110, 111, 116, 32, 115, 111, 32, 109, 97, 110, 121, 32, 98, 121, 116, 101, 115]), (RX11, 176, "nothing is counted by this number", [110, 111, 116, 104, 105, 110, 103, 32, 105, 115, 32, 99, 111, 117, 110, 116, 101, 100, 32, 98, 121, 32, 116, 104, 105, 115, 32, 110, 117, 109, 98, 101, 114]), (RX11, 363, "no such room", [110, 111, 32, 115, 117, 99, 104, 32, 114, 111, 111, 109]), (RX11, 369, "no such one", [110, 111, 32, 115, 117, 99, 104, 32, 111, 110, 101]), (RX11, 365, "no such lodger", [110, 111, 32, 115, 117, 99, 104, 32, 108, 111, 100, 103, 101, 114]), (RX11, 367, "no such hour", [110, 111, 32, 115, 117, 99, 104, 32, 104, 111, 117, 114]), (RX11, 220, "nothing that he can do", [110, 111, 116, 104, 105, 110, 103, 32, 116, 104, 97, 116, 32, 104, 101, 32, 99, 97, 110, 32, 100, 111]), (RX11, 291, "no such number of hours", [110, 111, 32, 115, 117, 99, 104, 32, 110, 117, 109, 98, 101, 114, 32, 111, 102, 32, 104, 111, 117, 114, 115]), (RX11, 302, "no such number of finders", [110, 111, 32, 115, 117, 99, 104, 32, 110, 117, 109, 98, 101, 114, 32, 111, 102, 32, 102, 105, 110, 100, 101, 114, 115]), (RX11, 307, "no row rests", [110, 111, 32, 114, 111, 119, 32, 114, 101, 115, 116, 115]), (RX11, 312, "no such hours", [110, 111, 32, 115, 117, 99, 104, 32, 104, 111, 117, 114, 115]), (RX11, 317, "no lending is kept", [110, 111, 32, 108, 101, 110, 100, 105, 110, 103, 32, 105, 115, 32, 107, 101, 112, 116]), (RX11, 371, "no such number of words", [110, 111, 32, 115, 117, 99, 104, 32, 110, 117, 109, 98, 101, 114, 32, 111, 102, 32, 119, 111, 114, 100, 115]), (RX11, 373, "no such number of kinds apart", [110, 111, 32, 115, 117, 99, 104, 32, 110, 117, 109, 98, 101, 114, 32, 111, 102, 32, 107, 105, 110, 100, 115, 32, 97, 112, 97, 114, 116]), (RX11, 340, "no such number", [110, 111, 32, 115, 117, 99, 104, 32, 110, 117, 109, 98, 101, 114]), (RX11, 342, "there are not so many words", [116, 104, 101, 114, 101, 32, 97, 114, 101, 32, 110, 111, 116, 32, 115, 111, 32, 109, 97, 110, 121, 32, 119, 111, 114, 100, 115]), (RX11, 347, "no such tenths", [110, 111, 32, 115, 117, 99, 104, 32, 116, 101, 110, 116, 104, 115])]
/-- a text lies there -/
def zStr (B a : Nat) (bs : List Int32) (U : State) (H : Heap) : Prop := ∃ av : Nat, va_O "java/lang/String" a (fun q => B ≤ q) U H ∧ va_OF "java/lang/String" "coder" "B" (.int 0) a (fun q => B ≤ q) U H ∧ va_OF "java/lang/String" "value" "[B" (.ref av) a (fun q => B ≤ q) U H ∧ va_T .byte av bs.length (fun j => .int (bs.getD j 0)) (fun q => B ≤ q) U H
/-- what the tables and the outer heap say -/
def zW (l : Launch) (g : zG) (U : State) : Prop :=
  va_K g.1 zcl [(g.2.1.1, .int), (g.2.1.2.1, .byte), (g.2.1.2.2, .long)] U ∧ g.2.2.2.2.size = g.2.2.1 ∧ l.stackTraces = false ∧
  vx_Zq Bundle.tN "UNASSIGNED_STACK" Bundle.steD (fun q => g.2.2.1 ≤ q) U g.2.2.2.2 ∧ vx_Zq Bundle.tN "SUPPRESSED_SENTINEL" Bundle.listD (fun q => g.2.2.1 ≤ q) U g.2.2.2.2 ∧
  (va_Z "java/lang/String" "COMPACT_STRINGS" "Z" (.int 1) (fun q => g.2.2.1 ≤ q) U g.2.2.2.2 ∧ vx_Zq "jdk/internal/util/Preconditions" "SIOOBE_FORMATTER" "Ljava/util/function/BiFunction;" (fun q => g.2.2.1 ≤ q) U g.2.2.2.2) ∧
  (∀ w ∈ zNest, va_Nw w U) ∧ (∀ q ∈ zCast, va_Nw (.castable q.1 q.2) U) ∧ va_Nc "java/lang/IllegalArgumentException" "java/util/NoSuchElementException" U ∧
  (∀ (i : Nat) (q : String × Nat × String × List Int32), zTx[i]? = some q → vk_R q.1 q.2.1 q.2.2.1 (g.2.2.2.1 i) U ∧ zStr g.2.2.1 (g.2.2.2.1 i) q.2.2.2 U g.2.2.2.2) ∧ (∀ w ∈ zDecl, va_Nw w U)
theorem zW.warm {l : Launch} {g : zG} {s U : State} (hW : s.WarmedH U.vm) (h : zW l g s) : zW l g U := by
  obtain ⟨h1, h2, h3, h4, h5, h6, h7, h8, h9, h10, h11⟩ := h
  refine ⟨va_K.moved hW.alike h1, h2, h3, vx_Zq.moved hW.alike h4, vx_Zq.moved hW.alike h5, ⟨va_Z.moved hW.alike h6.1, vx_Zq.moved hW.alike h6.2⟩, ?_, ?_, va_Nc.moved hW.alike h9, fun i q hq => ⟨vk_R.warm hW (h10 i q hq).1, ?_⟩, ?_⟩
  · intro w hw
    have h := h7 w hw
    simp only [zNest, List.mem_cons, List.not_mem_nil, or_false] at hw
    rcases hw with rfl | rfl | rfl | rfl | rfl <;> exact va_Nw.warmM hW h
  · intro q hq
    exact va_Nw.warmC hW (h8 q hq)
  · obtain ⟨av, b1, b2, b3, b4⟩ := (h10 i q hq).2
    exact ⟨av, va_O.moved hW.alike b1, va_OF.moved hW.alike b2, va_OF.moved hW.alike b3, va_T.moved hW.alike b4⟩
  · intro w hw
    have h := h11 w hw
    simp only [zDecl, List.mem_cons, List.not_mem_nil, or_false] at hw
    rcases hw with rfl | rfl | rfl | rfl | rfl | rfl <;> exact va_Nw.warmD hW h
/-- how a method ends: by a value, or by an exception of a class -/
abbrev zR : Type := Option Value ⊕ String
def zQr (g : zG) (Q : zR → zM → Prop) : Array Value → State → Outcome → State → Prop := fun _ _ o t => ∃ (v : Option Value) (M : zM), o = .returned (v.map (zc g)) ∧ Q (.inl v) M ∧ zH g M t.heap
def zQx (g : zG) (Q : zR → zM → Prop) : String → State → State → Prop := fun E _ t => ∃ M : zM, Q (.inr E) M ∧ zH g M t.heap
def zrm (d mc ms : Nat) : Room := { frames := d, cells := mc, slots := ms, locals := 37 * d }
/-- A METHOD's CONTRACT: called with a in the memory M, with d frames, mc cells, ms slots to spare, it ends by Q -/
def zRet (l : Launch) (d mc ms : Nat) (y : MethodName) (cd : Cond) (a : List Value) (M : zM) (Q : zR → zM → Prop) : Prop :=
  ∀ g : zG, vx_Met l y (cd :: zws) (zrm d mc ms) (va_Pc (a.map (zc g)) (fun U => zW l g U ∧ zH g M U.heap)) (zQr g Q) (zQx g Q) mc ms (fun q => g.2.2.1 ≤ q)
def zCx (l : Launch) (g : zG) (f : zF) (p : Program) (s : State) (m : MethodId) (args : Array Value) (meth : Method) (c : Code) : Prop :=
  p.tables.exec = Jvm.exec ∧ c.code = f.2.1 ∧ meth.sig.returnType = f.2.2.1 ∧ c.maxLocals = f.2.2.2.1 ∧ s.vm.findClass (zown f.1) = some m.cls ∧ meth.locks = false ∧ (∀ w ∈ zws, w.before args s = true) ∧ zW l g s ∧ c.exceptionTable.toList = tableOf f.2.2.2.2.1 ∧ (f.2.2.2.2.2 = true → meth.name = "<init>") ∧ g.2.2.1 ≤ s.heap.size
def zlm (g : zG) (lo : List (Nat × Value)) : List (Nat × Value) := lo.map (fun q => (q.1, zc g q.2))
/-- THE FRAME GOES ON: from pc with these locals, this stack, this memory it ends by Q -/
def zGo (l : Launch) (d mc ms : Nat) (f : zF) (M : zM) (pc : Nat) (lo : List (Nat × Value)) (st : List Value) (Q : zR → zM → Prop) : Prop :=
  ∀ (g : zG) (p : Program) (e : Env) (R : Room) (s : State) (m : MethodId) (args : Array Value) (below : List Frame) (meth : Method) (c : Code) (H : Heap) (locs : List Loc) (cells slots : Nat) (ls : Array Slot),
    zCx l g f p s m args meth c → d ≤ R.frames → 37 * d ≤ R.locals → cells + mc ≤ R.cells → slots + ms ≤ R.slots → (∀ q ∈ locs, g.2.2.1 ≤ q.base) → zH g M H → lv_has ls f.2.2.2.1 (zlm g lo) →
    W p l e R s m args below meth c H locs cells slots (vx_MQ below (zQr g Q) (zQx g Q) args s R.cells R.slots (fun q => g.2.2.1 ≤ q)) (F0 m pc ls (st.map (zc g)))
theorem zlm_args (g : zG) (vs : List Value) : ∀ i : Nat, lv_args i (vs.map (zc g)) = zlm g (lv_args i vs) := by
  induction vs with
  | nil => intro i; rfl
  | cons v vs ih =>
    intro i
    show (i, zc g v) :: lv_args (if (zc g v).category = 2 then i + 2 else i + 1) (vs.map (zc g)) = (i, zc g v) :: zlm g (lv_args (if v.category = 2 then i + 2 else i + 1) vs)
    rw [zc_cat, ih]
theorem zsl_len (g : zG) (vs : List Value) : (lg_sl (vs.map (zc g))).length = (lg_sl vs).length := by
  induction vs with
  | nil => rfl
  | cons v vs ih =>
    have e : ∀ (a : Value) (as : List Value), lg_sl (a :: as) = (if a.category = 2 then [.val a, .second] else [.val a]) ++ lg_sl as := fun a as => rfl
    rw [List.map_cons, e, e, List.length_append, List.length_append, ih, zc_cat]
    by_cases h : v.category = 2 <;> simp [h]
/-- a method's contract out of its body, no handlers -/
theorem zRet_of {l : Launch} {d mc ms nL : Nat} (o : Nat) {y : MethodName} {cc : ByteArray} {ret : Option FieldType} {a : List Value} {M : zM} {Q : zR → zM → Prop} {ini : Bool} (hy : plainName y.cls = true) (ho : zown o = y.cls) (hn : (lg_sl a).length ≤ nL) (hi : ini = true → y.name = "<init>")
    (k : zGo l d mc ms (o, cc, ret, nL, [], ini) M 0 (lv_args 0 a) [] Q) : zRet l d mc ms y (.code y cc nL ret) a M Q := by
  intro g
  refine vx_ofW (cc := cc) (maxL := nL) (ret := ret) hy rfl ?_
  intro p e s m args below meth c s₁ B hml ht hv
  obtain ⟨rfl, hw, hH⟩ := hv
  have hts := atoms_spec (ws := .code y cc nL ret :: zws) B.pre
  have hl := lv_entry (a.map (zc g)) (n := nL) (by rw [zsl_len]; exact hn)
  rw [lg_entry_eq]
  generalize (lg_sl (a.map (zc g)) ++ List.replicate (nL - (lg_sl (a.map (zc g))).length) Slot.unset).toArray = ls at hl ⊢
  rw [zlm_args] at hl
  exact k g p e _ s m _ below meth c s.heap [] 0 0 ls ⟨B.exec, B.bytes, B.returns, hml, (by show s.vm.findClass (zown o) = _; rw [ho]; exact findClass_of_methodNamed B.named), B.notSynchronized, fun w hw => hts w (List.mem_cons_of_mem _ hw), hw, (by
      cases h : c.exceptionTable.toList with
      | nil => rfl
      | cons x xs => exact absurd (List.mem_cons_self (a := x) (l := xs)) (fun hx => ht x (by rw [h]; exact hx))), (fun h => by rw [(name_of_methodNamed B.named B.method).1]; exact hi h), (by rw [hH.1]; exact Nat.le_add_right _ _)⟩
    (Nat.le_refl _) (Nat.le_refl _) (by show 0 + mc ≤ mc; omega) (by show 0 + ms ≤ ms; omega) (fun q hq => by cases hq) hH hl
/-- .. and with handlers -/
theorem zRet_ofH {l : Launch} {d mc ms nL : Nat} (o : Nat) {y : MethodName} {cc : ByteArray} {ret : Option FieldType} {hh : List (Nat × Nat × Nat × Nat)} {a : List Value} {M : zM} {Q : zR → zM → Prop} (hy : plainName y.cls = true) (ho : zown o = y.cls) (hn : (lg_sl a).length ≤ nL)
    (k : zGo l d mc ms (o, cc, ret, nL, hh, false) M 0 (lv_args 0 a) [] Q) : zRet l d mc ms y (.codeWith y cc nL ret hh) a M Q := by
  intro g
  refine vx_ofWH (cc := cc) (maxL := nL) (ret := ret) (hh := hh) hy rfl ?_
  intro p e s m args below meth c s₁ B hml hv
  obtain ⟨rfl, hw, hH⟩ := hv
  have hts := atoms_spec (ws := .codeWith y cc nL ret hh :: zws) B.pre
  have hl := lv_entry (a.map (zc g)) (n := nL) (by rw [zsl_len]; exact hn)
  rw [lg_entry_eq]
  generalize (lg_sl (a.map (zc g)) ++ List.replicate (nL - (lg_sl (a.map (zc g))).length) Slot.unset).toArray = ls at hl ⊢
  rw [zlm_args] at hl
  exact k g p e _ s m _ below meth c s.heap [] 0 0 ls ⟨B.exec, B.bytes, B.returns, hml, (by show s.vm.findClass (zown o) = _; rw [ho]; exact findClass_of_methodNamed B.named), B.notSynchronized, fun w hw => hts w (List.mem_cons_of_mem _ hw), hw, vx_table (x := y) B (hts _ List.mem_cons_self), (fun h => by cases h), (by rw [hH.1]; exact Nat.le_add_right _ _)⟩
    (Nat.le_refl _) (Nat.le_refl _) (by show 0 + mc ≤ mc; omega) (by show 0 + ms ≤ ms; omega) (fun q hq => by cases hq) hH hl
/-- less is asked for -/
theorem zGo.mono {l : Launch} {d mc ms mc' ms' : Nat} {f : zF} {M : zM} {pc : Nat} {lo : List (Nat × Value)} {st : List Value} {Q : zR → zM → Prop} (h : zGo l d mc ms f M pc lo st Q) (h1 : mc ≤ mc') (h2 : ms ≤ ms') : zGo l d mc' ms' f M pc lo st Q :=
  fun g p e R s m args below meth c H locs cells slots ls a1 a2 a3 a4 a5 a6 a7 a8 => h g p e R s m args below meth c H locs cells slots ls a1 a2 a3 (by omega) (by omega) a6 a7 a8
theorem zH.cell {g : zG} {M : zM} {H : Heap} (h : zH g M H) (c : Nat) {a b : Nat} (hk : M.2.1 c = (a, b)) (ha : a ≠ 9) : c < M.1 ∧ zad g c = g.2.2.1 + c ∧ zcell g M H c := by
  obtain ⟨h1, h2, h3⟩ := h.2.2 c (by rw [hk]; exact ha)
  refine ⟨h1, ?_, h3⟩
  unfold zad
  rw [if_pos (by omega)]
/-- a cell is written: the others stay -/
theorem zH.put {g : zG} {M M' : zM} {H H' : Heap} (h : zH g M H) (c : Nat) (h1 : M'.1 = M.1) (h2 : M'.2.1 = M.2.1) (hs : H'.size = H.size) (ho : ∀ q : Nat, q ≠ g.2.2.1 + c → H'[q]? = H[q]?) (hc : c < M.1)
    (hR : ∀ x, x ≠ c → M'.2.2.1 x = M.2.2.1 x) (hI : ∀ x, x ≠ c → M'.2.2.2.1 x = M.2.2.2.1 x) (hJ : ∀ x, x ≠ c → M'.2.2.2.2 x = M.2.2.2.2 x) (hn : zcell g M' H' c) : zH g M' H' := by
  obtain ⟨a1, a2, a3⟩ := h
  refine ⟨by rw [hs, h1]; exact a1, fun q hq => by rw [ho q (by omega)]; exact a2 q hq, fun x hx => ?_⟩
  rw [h2] at hx
  obtain ⟨b1, b2, b3⟩ := a3 x hx
  refine ⟨by rw [h1]; exact b1, b2, ?_⟩
  by_cases hxc : x = c
  · subst hxc; exact hn
  · have e : H'[g.2.2.1 + x]? = H[g.2.2.1 + x]? := ho _ (by omega)
    unfold zcell at b3 ⊢
    rw [h2]
    have ef : ∀ ci k, zfv M' ci x k = zfv M ci x k := fun ci k => by unfold zfv; rw [hR x hxc, hI x hxc, hJ x hxc]
    split at b3
    · obtain ⟨q, q1, q2⟩ := b3
      exact ⟨q, q1, (q2.kept e).to (fun k _ => by rw [ef])⟩
    · rw [e, hI x hxc]; exact b3
    · rw [e, hI x hxc]; exact b3
    · rw [e, hJ x hxc]; exact b3
    · trivial
/-- a cell is made -/
theorem zH.new {g : zG} {M M' : zM} {H H' : Heap} (h : zH g M H) (h1 : M'.1 = M.1 + 1) (hlt : (M'.2.1 M.1).1 ≠ 9 → M.1 < 100000) (h2 : ∀ x, x ≠ M.1 → M'.2.1 x = M.2.1 x) (hs : H'.size = H.size + 1) (ho : ∀ q : Nat, q < H.size → H'[q]? = H[q]?)
    (hR : ∀ x, x ≠ M.1 → M'.2.2.1 x = M.2.2.1 x) (hI : ∀ x, x ≠ M.1 → M'.2.2.2.1 x = M.2.2.2.1 x) (hJ : ∀ x, x ≠ M.1 → M'.2.2.2.2 x = M.2.2.2.2 x) (hn : (M'.2.1 M.1).1 ≠ 9 → zcell g M' H' M.1) : zH g M' H' := by
  obtain ⟨a1, a2, a3⟩ := h
  refine ⟨by rw [hs, h1, a1]; omega, fun q hq => by rw [ho q (by omega)]; exact a2 q hq, fun x hx => ?_⟩
  by_cases hxc : x = M.1
  · subst hxc; exact ⟨by omega, hlt hx, hn hx⟩
  · rw [h2 x hxc] at hx
    obtain ⟨b1, b2, b3⟩ := a3 x hx
    refine ⟨by omega, by omega, ?_⟩
    have e : H'[g.2.2.1 + x]? = H[g.2.2.1 + x]? := ho _ (by omega)
    unfold zcell at b3 ⊢
    rw [h2 x hxc]
    have ef : ∀ ci k, zfv M' ci x k = zfv M ci x k := fun ci k => by unfold zfv; rw [hR x hxc, hI x hxc, hJ x hxc]
    split at b3
    · obtain ⟨q, q1, q2⟩ := b3
      exact ⟨q, q1, (q2.kept e).to (fun k _ => by rw [ef])⟩
    · rw [e, hI x hxc]; exact b3
    · rw [e, hI x hxc]; exact b3
    · rw [e, hJ x hxc]; exact b3
    · trivial
