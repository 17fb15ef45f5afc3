abbrev zI : Type := Nat × Nat × Nat × Int32 × Nat × List Nat
def ztg (pc : Nat) (off : Int) : Nat := ((pc : Int) + off).toNat
def zgo (pc : Nat) (off : Int) : Bool := decide (0 ≤ (pc : Int) + off)
theorem ztg_ok {pc : Nat} {off : Int} (h : zgo pc off = true) : (pc : Int) + off = (ztg pc off : Int) := by
  unfold zgo at h
  unfold ztg
  have := of_decide_eq_true h
  omega
def zpre (o : Nat) (cc : ByteArray) (pc : Nat) : Option zI := match decode cc pc with
  | .ok (.iconst n, 1) => some (0, 0, 0, Int32.ofInt n, pc + 1, [])
  | .ok (.bipush n, 2) => some (0, 0, 0, (Int8.ofInt n).toInt32, pc + 2, [])
  | .ok (.sipush n, 3) => some (0, 0, 0, (Int16.ofInt n).toInt32, pc + 3, [])
  | .ok (.ldc i, 2) => (zcv o i).map (fun v => (0, 0, 0, v, pc + 2, []))
  | .ok (.ldc_w i, 3) => (zcv o i).map (fun v => (0, 0, 0, v, pc + 3, []))
  | .ok (.lconst n, 1) => some (1, n.val, 0, 0, pc + 1, [])
  | .ok (.ldc2_w i, 3) => bif o == 12 && i == 177 then some (1, 96, 0, 0, pc + 3, []) else none
  | .ok (.iload i, 2) => some (2, i, 0, 0, pc + 2, [])
  | .ok (.iload_n k, 1) => some (2, k.val, 0, 0, pc + 1, [])
  | .ok (.lload i, 2) => some (3, i, 0, 0, pc + 2, [])
  | .ok (.aload i, 2) => some (4, i, 0, 0, pc + 2, [])
  | .ok (.aload_n k, 1) => some (4, k.val, 0, 0, pc + 1, [])
  | .ok (.istore i, 2) => some (5, i, 0, 0, pc + 2, [])
  | .ok (.istore_n k, 1) => some (5, k.val, 0, 0, pc + 1, [])
  | .ok (.lstore i, 2) => some (6, i, 0, 0, pc + 2, [])
  | .ok (.astore i, 2) => some (7, i, 0, 0, pc + 2, [])
  | .ok (.astore_n k, 1) => some (7, k.val, 0, 0, pc + 1, [])
  | .ok (.iinc i n, 3) => some (8, i, 0, Int32.ofInt n, pc + 3, [])
  | .ok (.iadd, 1) => some (9, 0, 0, 0, pc + 1, [])
  | .ok (.isub, 1) => some (9, 1, 0, 0, pc + 1, [])
  | .ok (.imul, 1) => some (9, 2, 0, 0, pc + 1, [])
  | .ok (.iand, 1) => some (9, 3, 0, 0, pc + 1, [])
  | .ok (.ior, 1) => some (9, 4, 0, 0, pc + 1, [])
  | .ok (.ixor, 1) => some (9, 5, 0, 0, pc + 1, [])
  | .ok (.ishl, 1) => some (9, 6, 0, 0, pc + 1, [])
  | .ok (.ishr, 1) => some (9, 7, 0, 0, pc + 1, [])
  | .ok (.iushr, 1) => some (9, 8, 0, 0, pc + 1, [])
  | .ok (.idiv, 1) => some (9, 9, 0, 0, pc + 1, [])
  | .ok (.irem, 1) => some (9, 10, 0, 0, pc + 1, [])
  | .ok (.i2l, 1) => some (10, 0, 0, 0, pc + 1, [])
  | .ok (.i2b, 1) => some (10, 1, 0, 0, pc + 1, [])
  | .ok (.lor, 1) => some (11, 0, 0, 0, pc + 1, [])
  | .ok (.lsub, 1) => some (11, 1, 0, 0, pc + 1, [])
  | .ok (.lcmp, 1) => some (11, 2, 0, 0, pc + 1, [])
  | .ok (.lshl, 1) => some (11, 3, 0, 0, pc + 1, [])
  | .ok (.dup, 1) => some (12, 0, 0, 0, pc + 1, [])
  | .ok (.dup2, 1) => some (13, 0, 0, 0, pc + 1, [])
  | .ok (.pop, 1) => some (14, 0, 0, 0, pc + 1, [])
  | .ok (.goto off, 3) => bif zgo pc off then some (15, 0, 0, 0, ztg pc off, []) else none
  | .ok (.if_icmp .eq off, 3) => bif zgo pc off then some (16, 0, ztg pc off, 0, pc + 3, []) else none
  | .ok (.if_icmp .ne off, 3) => bif zgo pc off then some (16, 0, pc + 3, 0, ztg pc off, []) else none
  | .ok (.if_icmp .lt off, 3) => bif zgo pc off then some (16, 1, ztg pc off, 0, pc + 3, []) else none
  | .ok (.if_icmp .ge off, 3) => bif zgo pc off then some (16, 1, pc + 3, 0, ztg pc off, []) else none
  | .ok (.if_icmp .gt off, 3) => bif zgo pc off then some (16, 2, ztg pc off, 0, pc + 3, []) else none
  | .ok (.if_icmp .le off, 3) => bif zgo pc off then some (16, 2, pc + 3, 0, ztg pc off, []) else none
  | .ok (.ifCond .eq off, 3) => bif zgo pc off then some (17, 0, ztg pc off, 0, pc + 3, []) else none
  | .ok (.ifCond .ne off, 3) => bif zgo pc off then some (17, 0, pc + 3, 0, ztg pc off, []) else none
  | .ok (.ifCond .lt off, 3) => bif zgo pc off then some (17, 1, ztg pc off, 0, pc + 3, []) else none
  | .ok (.ifCond .ge off, 3) => bif zgo pc off then some (17, 1, pc + 3, 0, ztg pc off, []) else none
  | .ok (.ifCond .gt off, 3) => bif zgo pc off then some (17, 2, ztg pc off, 0, pc + 3, []) else none
  | .ok (.ifCond .le off, 3) => bif zgo pc off then some (17, 2, pc + 3, 0, ztg pc off, []) else none
  | .ok (.getfield i, 3) => (zfd o i).map (fun q => (18, q.1, q.2, 0, pc + 3, []))
  | .ok (.putfield i, 3) => (zfd o i).map (fun q => (19, q.1, q.2, 0, pc + 3, []))
  | .ok (.iaload, 1) => some (20, 0, 0, 0, pc + 1, [])
  | .ok (.iastore, 1) => some (21, 0, 0, 0, pc + 1, [])
  | .ok (.baload, 1) => some (22, 0, 0, 0, pc + 1, [])
  | .ok (.bastore, 1) => some (23, 0, 0, 0, pc + 1, [])
  | .ok (.laload, 1) => some (24, 0, 0, 0, pc + 1, [])
  | .ok (.lastore, 1) => some (25, 0, 0, 0, pc + 1, [])
  | .ok (.arraylength, 1) => some (26, 0, 0, 0, pc + 1, [])
  | .ok (.ireturn, 1) => some (27, 0, 0, 0, pc + 1, [])
  | .ok (.lreturn, 1) => some (28, 0, 0, 0, pc + 1, [])
  | .ok (.return_, 1) => some (29, 0, 0, 0, pc + 1, [])
  | .ok (.new i, 3) => (znc o i).map (fun q => (30, q.1, q.2, 0, pc + 3, []))
  | .ok (.newarray .int, 2) => some (31, 1, 0, 0, pc + 2, [])
  | .ok (.newarray .byte, 2) => some (31, 2, 0, 0, pc + 2, [])
  | .ok (.newarray .long, 2) => some (31, 3, 0, 0, pc + 2, [])
  | .ok (.tableswitch df 0 hi offs, _) => bif (zgo pc df && offs.toList.all (zgo pc) && decide (hi = (offs.size : Int) - 1)) && Nat.blt offs.size 1000 then some (32, 0, ztg pc df, 0, 0, offs.toList.map (ztg pc)) else none
  | .ok (.invokespecial i, 3) => bif zoi o i then some (35, 0, 0, 0, pc + 3, []) else none
  | _ => none
def ztbok (f : zF) (tb : List (Nat × zI)) : Prop := ∀ q ∈ tb, zpre f.1 f.2.1 q.1 = some q.2
def zeqB (a b : zI) : Bool := decide (a.1 = b.1) && (decide (a.2.1 = b.2.1) && (decide (a.2.2.1 = b.2.2.1) && (decide (a.2.2.2.1 = b.2.2.2.1) && (decide (a.2.2.2.2.1 = b.2.2.2.2.1) && decide (a.2.2.2.2.2 = b.2.2.2.2.2)))))
def ztbB (f : zF) (tb : List (Nat × zI)) : Bool := tb.all (fun q => match zpre f.1 f.2.1 q.1 with
  | some e => zeqB e q.2
  | none => false)
theorem ztbB_ok {f : zF} {tb : List (Nat × zI)} (h : ztbB f tb = true) : ztbok f tb := by
  intro q hq
  have h1 := List.all_eq_true.mp h q hq
  cases hz : zpre f.1 f.2.1 q.1 with
  | none => rw [hz] at h1; cases h1
  | some e =>
    rw [hz] at h1
    simp only [zeqB, Bool.and_eq_true, decide_eq_true_eq] at h1
    obtain ⟨e1, e2, e3, e4, e5, e6⟩ := h1
    exact congrArg some (Prod.ext e1 (Prod.ext e2 (Prod.ext e3 (Prod.ext e4 (Prod.ext e5 e6)))))
/-- a method's own words -/
def zMth (y : MethodName) (cd : Cond) (n : Nat) : Prop := cd ∈ zws ∧ Cond.initialized y.cls ∈ zws ∧ (y.cls ≠ "java/lang/invoke/MethodHandle" ∧ y.cls ≠ "java/lang/invoke/VarHandle") ∧ (parseMethodDescriptor y.desc).map (fun d => d.parameters.length) = some n
