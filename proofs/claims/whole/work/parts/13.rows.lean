section
variable {l : Launch} {d mc ms : Nat} {f : zF} {M : zM} {pc : Nat} {lo : List (Nat × Value)} {st : List Value} {Q : zR → zM → Prop}
theorem zs_iconst {n : Int} (hd : decode f.2.1 pc = .ok (.iconst n, 1)) (h : zGo l d mc ms f M (pc + 1) lo (.int (Int32.ofInt n) :: st) Q) : zGo l d mc ms f M pc lo (st) Q := by
  intro g p e R s m args below meth c H locs cells slots ls hC a2 a3 a4 a5 a6 a7 a8
  exact lv_iconst hC.1 hC.2.1 hd rfl (h g p e R s m args below meth c H locs cells slots ls hC a2 a3 a4 a5 a6 a7 a8)
theorem zs_bipush {n : Int} (hd : decode f.2.1 pc = .ok (.bipush n, 2)) (h : zGo l d mc ms f M (pc + 2) lo (.int ((Int8.ofInt n).toInt32) :: st) Q) : zGo l d mc ms f M pc lo (st) Q := by
  intro g p e R s m args below meth c H locs cells slots ls hC a2 a3 a4 a5 a6 a7 a8
  exact lv_bipush hC.1 hC.2.1 hd rfl (h g p e R s m args below meth c H locs cells slots ls hC a2 a3 a4 a5 a6 a7 a8)
theorem zs_sipush {n : Int} (hd : decode f.2.1 pc = .ok (.sipush n, 3)) (h : zGo l d mc ms f M (pc + 3) lo (.int ((Int16.ofInt n).toInt32) :: st) Q) : zGo l d mc ms f M pc lo (st) Q := by
  intro g p e R s m args below meth c H locs cells slots ls hC a2 a3 a4 a5 a6 a7 a8
  exact lv_sipush hC.1 hC.2.1 hd rfl (h g p e R s m args below meth c H locs cells slots ls hC a2 a3 a4 a5 a6 a7 a8)
theorem zs_ldc {i : Nat} {v : Int32} (hv : zcv f.1 i = some v) (hd : decode f.2.1 pc = .ok (.ldc i, 2)) (h : zGo l d mc ms f M (pc + 2) lo (.int v :: st) Q) : zGo l d mc ms f M pc lo (st) Q := by
  intro g p e R s m args below meth c H locs cells slots ls hC a2 a3 a4 a5 a6 a7 a8
  exact lv_ldc hC.1 hC.2.1 hC.2.2.2.2.1 (hC.2.2.2.2.2.2.1 _ (zcv_ok hv)) hd (h g p e R s m args below meth c H locs cells slots ls hC a2 a3 a4 a5 a6 a7 a8)
theorem zs_ldcw {i : Nat} {v : Int32} (hv : zcv f.1 i = some v) (hd : decode f.2.1 pc = .ok (.ldc_w i, 3)) (h : zGo l d mc ms f M (pc + 3) lo (.int v :: st) Q) : zGo l d mc ms f M pc lo (st) Q := by
  intro g p e R s m args below meth c H locs cells slots ls hC a2 a3 a4 a5 a6 a7 a8
  exact lv_ldcw hC.1 hC.2.1 hC.2.2.2.2.1 (hC.2.2.2.2.2.2.1 _ (zcv_ok hv)) hd (h g p e R s m args below meth c H locs cells slots ls hC a2 a3 a4 a5 a6 a7 a8)
theorem zs_lconst {n : Fin 2} (hd : decode f.2.1 pc = .ok (.lconst n, 1)) (h : zGo l d mc ms f M (pc + 1) lo (.long (Int64.ofNat n.val) :: st) Q) : zGo l d mc ms f M pc lo (st) Q := by
  intro g p e R s m args below meth c H locs cells slots ls hC a2 a3 a4 a5 a6 a7 a8
  exact lv_lconst hC.1 hC.2.1 hd rfl (h g p e R s m args below meth c H locs cells slots ls hC a2 a3 a4 a5 a6 a7 a8)
theorem zs_ldc2 (ho : f.1 = 12) (hd : decode f.2.1 pc = .ok (.ldc2_w 177, 3)) (h : zGo l d mc ms f M (pc + 3) lo (.long (Int64.ofNat 96) :: st) Q) : zGo l d mc ms f M pc lo (st) Q := by
  intro g p e R s m args below meth c H locs cells slots ls hC a2 a3 a4 a5 a6 a7 a8
  exact lv_ldc2 (v := 96) hC.1 hC.2.1 hC.2.2.2.2.1 (by rw [ho]; exact hC.2.2.2.2.2.2.1 _ zkl) hd (h g p e R s m args below meth c H locs cells slots ls hC a2 a3 a4 a5 a6 a7 a8)
theorem zs_iload {i : Nat} {x : Int32} (hx : zlk lo i = some (.int x)) (hd : decode f.2.1 pc = .ok (.iload i, 2)) (h : zGo l d mc ms f M (pc + 2) lo (.int x :: st) Q) : zGo l d mc ms f M pc lo (st) Q := by
  intro g p e R s m args below meth c H locs cells slots ls hC a2 a3 a4 a5 a6 a7 a8
  exact lv_iload hC.1 hC.2.1 hd (zlv a8 hx) (h g p e R s m args below meth c H locs cells slots ls hC a2 a3 a4 a5 a6 a7 a8)
theorem zs_iload_n {k : Fin 4} {x : Int32} (hx : zlk lo k.val = some (.int x)) (hd : decode f.2.1 pc = .ok (.iload_n k, 1)) (h : zGo l d mc ms f M (pc + 1) lo (.int x :: st) Q) : zGo l d mc ms f M pc lo (st) Q := by
  intro g p e R s m args below meth c H locs cells slots ls hC a2 a3 a4 a5 a6 a7 a8
  exact lv_iload_n hC.1 hC.2.1 hd rfl (zlv a8 hx) (h g p e R s m args below meth c H locs cells slots ls hC a2 a3 a4 a5 a6 a7 a8)
theorem zs_lload {i : Nat} {x : Int64} (hx : zlk lo i = some (.long x)) (hd : decode f.2.1 pc = .ok (.lload i, 2)) (h : zGo l d mc ms f M (pc + 2) lo (.long x :: st) Q) : zGo l d mc ms f M pc lo (st) Q := by
  intro g p e R s m args below meth c H locs cells slots ls hC a2 a3 a4 a5 a6 a7 a8
  exact lv_lload hC.1 hC.2.1 hd (zlv a8 hx) (h g p e R s m args below meth c H locs cells slots ls hC a2 a3 a4 a5 a6 a7 a8)
theorem zs_aload {i : Nat} {x : Nat} (hx : zlk lo i = some (.ref x)) (hd : decode f.2.1 pc = .ok (.aload i, 2)) (h : zGo l d mc ms f M (pc + 2) lo (.ref x :: st) Q) : zGo l d mc ms f M pc lo (st) Q := by
  intro g p e R s m args below meth c H locs cells slots ls hC a2 a3 a4 a5 a6 a7 a8
  exact lv_aload hC.1 hC.2.1 hd (zlv a8 hx) (h g p e R s m args below meth c H locs cells slots ls hC a2 a3 a4 a5 a6 a7 a8)
theorem zs_aload_n {k : Fin 4} {x : Nat} (hx : zlk lo k.val = some (.ref x)) (hd : decode f.2.1 pc = .ok (.aload_n k, 1)) (h : zGo l d mc ms f M (pc + 1) lo (.ref x :: st) Q) : zGo l d mc ms f M pc lo (st) Q := by
  intro g p e R s m args below meth c H locs cells slots ls hC a2 a3 a4 a5 a6 a7 a8
  exact lv_aload_n hC.1 hC.2.1 hd rfl (zlv a8 hx) (h g p e R s m args below meth c H locs cells slots ls hC a2 a3 a4 a5 a6 a7 a8)
theorem zs_iadd {x y : Int32} (hd : decode f.2.1 pc = .ok (.iadd, 1)) (h : zGo l d mc ms f M (pc + 1) lo (.int (x + y) :: st) Q) : zGo l d mc ms f M pc lo (.int y :: .int x :: st) Q := by
  intro g p e R s m args below meth c H locs cells slots ls hC a2 a3 a4 a5 a6 a7 a8
  exact lv_iadd hC.1 hC.2.1 hd (h g p e R s m args below meth c H locs cells slots ls hC a2 a3 a4 a5 a6 a7 a8)
theorem zs_isub {x y : Int32} (hd : decode f.2.1 pc = .ok (.isub, 1)) (h : zGo l d mc ms f M (pc + 1) lo (.int (x - y) :: st) Q) : zGo l d mc ms f M pc lo (.int y :: .int x :: st) Q := by
  intro g p e R s m args below meth c H locs cells slots ls hC a2 a3 a4 a5 a6 a7 a8
  exact lv_isub hC.1 hC.2.1 hd (h g p e R s m args below meth c H locs cells slots ls hC a2 a3 a4 a5 a6 a7 a8)
theorem zs_imul {x y : Int32} (hd : decode f.2.1 pc = .ok (.imul, 1)) (h : zGo l d mc ms f M (pc + 1) lo (.int (x * y) :: st) Q) : zGo l d mc ms f M pc lo (.int y :: .int x :: st) Q := by
  intro g p e R s m args below meth c H locs cells slots ls hC a2 a3 a4 a5 a6 a7 a8
  exact lv_imul hC.1 hC.2.1 hd (h g p e R s m args below meth c H locs cells slots ls hC a2 a3 a4 a5 a6 a7 a8)
theorem zs_iand {x y : Int32} (hd : decode f.2.1 pc = .ok (.iand, 1)) (h : zGo l d mc ms f M (pc + 1) lo (.int (x &&& y) :: st) Q) : zGo l d mc ms f M pc lo (.int y :: .int x :: st) Q := by
  intro g p e R s m args below meth c H locs cells slots ls hC a2 a3 a4 a5 a6 a7 a8
  exact lv_iand hC.1 hC.2.1 hd (h g p e R s m args below meth c H locs cells slots ls hC a2 a3 a4 a5 a6 a7 a8)
theorem zs_ior {x y : Int32} (hd : decode f.2.1 pc = .ok (.ior, 1)) (h : zGo l d mc ms f M (pc + 1) lo (.int (x ||| y) :: st) Q) : zGo l d mc ms f M pc lo (.int y :: .int x :: st) Q := by
  intro g p e R s m args below meth c H locs cells slots ls hC a2 a3 a4 a5 a6 a7 a8
  exact lv_ior hC.1 hC.2.1 hd (h g p e R s m args below meth c H locs cells slots ls hC a2 a3 a4 a5 a6 a7 a8)
theorem zs_ixor {x y : Int32} (hd : decode f.2.1 pc = .ok (.ixor, 1)) (h : zGo l d mc ms f M (pc + 1) lo (.int (x ^^^ y) :: st) Q) : zGo l d mc ms f M pc lo (.int y :: .int x :: st) Q := by
  intro g p e R s m args below meth c H locs cells slots ls hC a2 a3 a4 a5 a6 a7 a8
  exact lv_ixor hC.1 hC.2.1 hd (h g p e R s m args below meth c H locs cells slots ls hC a2 a3 a4 a5 a6 a7 a8)
theorem zs_ishl {x y : Int32} (hd : decode f.2.1 pc = .ok (.ishl, 1)) (h : zGo l d mc ms f M (pc + 1) lo (.int (x <<< (y &&& 31)) :: st) Q) : zGo l d mc ms f M pc lo (.int y :: .int x :: st) Q := by
  intro g p e R s m args below meth c H locs cells slots ls hC a2 a3 a4 a5 a6 a7 a8
  exact lv_ishl hC.1 hC.2.1 hd (h g p e R s m args below meth c H locs cells slots ls hC a2 a3 a4 a5 a6 a7 a8)
theorem zs_ishr {x y : Int32} (hd : decode f.2.1 pc = .ok (.ishr, 1)) (h : zGo l d mc ms f M (pc + 1) lo (.int (x >>> (y &&& 31)) :: st) Q) : zGo l d mc ms f M pc lo (.int y :: .int x :: st) Q := by
  intro g p e R s m args below meth c H locs cells slots ls hC a2 a3 a4 a5 a6 a7 a8
  exact lv_ishr hC.1 hC.2.1 hd (h g p e R s m args below meth c H locs cells slots ls hC a2 a3 a4 a5 a6 a7 a8)
theorem zs_iushr {x y : Int32} (hd : decode f.2.1 pc = .ok (.iushr, 1)) (h : zGo l d mc ms f M (pc + 1) lo (.int ((x.toUInt32 >>> (y.toUInt32 &&& Int32.toUInt32 31)).toInt32) :: st) Q) : zGo l d mc ms f M pc lo (.int y :: .int x :: st) Q := by
  intro g p e R s m args below meth c H locs cells slots ls hC a2 a3 a4 a5 a6 a7 a8
  exact lv_iushr hC.1 hC.2.1 hd rfl (h g p e R s m args below meth c H locs cells slots ls hC a2 a3 a4 a5 a6 a7 a8)
theorem zs_idiv {x y : Int32} (hd : decode f.2.1 pc = .ok (.idiv, 1)) (hn : ¬ y = 0) (h : zGo l d mc ms f M (pc + 1) lo (.int (x / y) :: st) Q) : zGo l d mc ms f M pc lo (.int y :: .int x :: st) Q := by
  intro g p e R s m args below meth c H locs cells slots ls hC a2 a3 a4 a5 a6 a7 a8
  exact lv_idiv hC.1 hC.2.1 hd hn (h g p e R s m args below meth c H locs cells slots ls hC a2 a3 a4 a5 a6 a7 a8)
theorem zs_irem {x y : Int32} (hd : decode f.2.1 pc = .ok (.irem, 1)) (hn : ¬ y = 0) (h : zGo l d mc ms f M (pc + 1) lo (.int (x - x / y * y) :: st) Q) : zGo l d mc ms f M pc lo (.int y :: .int x :: st) Q := by
  intro g p e R s m args below meth c H locs cells slots ls hC a2 a3 a4 a5 a6 a7 a8
  exact lv_irem hC.1 hC.2.1 hd hn (h g p e R s m args below meth c H locs cells slots ls hC a2 a3 a4 a5 a6 a7 a8)
theorem zs_i2l {x : Int32} (hd : decode f.2.1 pc = .ok (.i2l, 1)) (h : zGo l d mc ms f M (pc + 1) lo (.long x.toInt64 :: st) Q) : zGo l d mc ms f M pc lo (.int x :: st) Q := by
  intro g p e R s m args below meth c H locs cells slots ls hC a2 a3 a4 a5 a6 a7 a8
  exact lv_i2l hC.1 hC.2.1 hd rfl (h g p e R s m args below meth c H locs cells slots ls hC a2 a3 a4 a5 a6 a7 a8)
theorem zs_i2b {x : Int32} (hd : decode f.2.1 pc = .ok (.i2b, 1)) (h : zGo l d mc ms f M (pc + 1) lo (.int x.toInt8.toInt32 :: st) Q) : zGo l d mc ms f M pc lo (.int x :: st) Q := by
  intro g p e R s m args below meth c H locs cells slots ls hC a2 a3 a4 a5 a6 a7 a8
  exact lv_i2b hC.1 hC.2.1 hd rfl (h g p e R s m args below meth c H locs cells slots ls hC a2 a3 a4 a5 a6 a7 a8)
theorem zs_lor {x y : Int64} (hd : decode f.2.1 pc = .ok (.lor, 1)) (h : zGo l d mc ms f M (pc + 1) lo (.long (x ||| y) :: st) Q) : zGo l d mc ms f M pc lo (.long y :: .long x :: st) Q := by
  intro g p e R s m args below meth c H locs cells slots ls hC a2 a3 a4 a5 a6 a7 a8
  exact lv_lor hC.1 hC.2.1 hd (h g p e R s m args below meth c H locs cells slots ls hC a2 a3 a4 a5 a6 a7 a8)
theorem zs_lsub {x y : Int64} (hd : decode f.2.1 pc = .ok (.lsub, 1)) (h : zGo l d mc ms f M (pc + 1) lo (.long (x - y) :: st) Q) : zGo l d mc ms f M pc lo (.long y :: .long x :: st) Q := by
  intro g p e R s m args below meth c H locs cells slots ls hC a2 a3 a4 a5 a6 a7 a8
  exact lv_lsub hC.1 hC.2.1 hd (h g p e R s m args below meth c H locs cells slots ls hC a2 a3 a4 a5 a6 a7 a8)
theorem zs_lcmp {x y : Int64} (hd : decode f.2.1 pc = .ok (.lcmp, 1)) (h : zGo l d mc ms f M (pc + 1) lo (.int (lg_cmp x y) :: st) Q) : zGo l d mc ms f M pc lo (.long y :: .long x :: st) Q := by
  intro g p e R s m args below meth c H locs cells slots ls hC a2 a3 a4 a5 a6 a7 a8
  exact W.lcmp hC.1 hC.2.1 hd (h g p e R s m args below meth c H locs cells slots ls hC a2 a3 a4 a5 a6 a7 a8)
theorem zs_lshl {x : Int64} {y : Int32} (hd : decode f.2.1 pc = .ok (.lshl, 1)) (h : zGo l d mc ms f M (pc + 1) lo (.long (x <<< (y.toInt64 &&& 63)) :: st) Q) : zGo l d mc ms f M pc lo (.int y :: .long x :: st) Q := by
  intro g p e R s m args below meth c H locs cells slots ls hC a2 a3 a4 a5 a6 a7 a8
  exact lv_lshl hC.1 hC.2.1 hd rfl (h g p e R s m args below meth c H locs cells slots ls hC a2 a3 a4 a5 a6 a7 a8)
theorem zs_dupi {x : Int32} (hd : decode f.2.1 pc = .ok (.dup, 1)) (h : zGo l d mc ms f M (pc + 1) lo (.int x :: .int x :: st) Q) : zGo l d mc ms f M pc lo (.int x :: st) Q := by
  intro g p e R s m args below meth c H locs cells slots ls hC a2 a3 a4 a5 a6 a7 a8
  exact lv_dup hC.1 hC.2.1 hd rfl (h g p e R s m args below meth c H locs cells slots ls hC a2 a3 a4 a5 a6 a7 a8)
theorem zs_dupr {x : Nat} (hd : decode f.2.1 pc = .ok (.dup, 1)) (h : zGo l d mc ms f M (pc + 1) lo (.ref x :: .ref x :: st) Q) : zGo l d mc ms f M pc lo (.ref x :: st) Q := by
  intro g p e R s m args below meth c H locs cells slots ls hC a2 a3 a4 a5 a6 a7 a8
  exact lv_dup hC.1 hC.2.1 hd rfl (h g p e R s m args below meth c H locs cells slots ls hC a2 a3 a4 a5 a6 a7 a8)
theorem zs_dup2 {x : Nat} {y : Int32} (hd : decode f.2.1 pc = .ok (.dup2, 1)) (h : zGo l d mc ms f M (pc + 1) lo (.int y :: .ref x :: .int y :: .ref x :: st) Q) : zGo l d mc ms f M pc lo (.int y :: .ref x :: st) Q := by
  intro g p e R s m args below meth c H locs cells slots ls hC a2 a3 a4 a5 a6 a7 a8
  exact lv_dup2_11 hC.1 hC.2.1 hd rfl rfl (h g p e R s m args below meth c H locs cells slots ls hC a2 a3 a4 a5 a6 a7 a8)
theorem zs_popi {x : Int32} (hd : decode f.2.1 pc = .ok (.pop, 1)) (h : zGo l d mc ms f M (pc + 1) lo (st) Q) : zGo l d mc ms f M pc lo (.int x :: st) Q := by
  intro g p e R s m args below meth c H locs cells slots ls hC a2 a3 a4 a5 a6 a7 a8
  exact lv_pop (va := .int x) hC.1 hC.2.1 hd rfl (h g p e R s m args below meth c H locs cells slots ls hC a2 a3 a4 a5 a6 a7 a8)
theorem zs_goto {off : Int} (hd : decode f.2.1 pc = .ok (.goto off, 3)) (hg : zgo pc off = true) (h : zGo l d mc ms f M (ztg pc off) lo st Q) : zGo l d mc ms f M pc lo st Q := by
  intro g p e R s m args below meth c H locs cells slots ls hC a2 a3 a4 a5 a6 a7 a8
  exact lv_goto hC.1 hC.2.1 hd (ztg_ok hg) (h g p e R s m args below meth c H locs cells slots ls hC a2 a3 a4 a5 a6 a7 a8)
theorem zs_icmp_eq {x y : Int32} {off : Int} (hd : decode f.2.1 pc = .ok (.if_icmp .eq off, 3)) (hg : zgo pc off = true) (h : (zcp 0 x y → zGo l d mc ms f M (ztg pc off) lo st Q) ∧ (¬ zcp 0 x y → zGo l d mc ms f M (pc + 3) lo st Q)) : zGo l d mc ms f M pc lo (.int y :: .int x :: st) Q := by
  intro g p e R s m args below meth c H locs cells slots ls hC a2 a3 a4 a5 a6 a7 a8
  exact lv_icmp_eq hC.1 hC.2.1 hd (ztg_ok hg) (fun z => h.1 z g p e R s m args below meth c H locs cells slots ls hC a2 a3 a4 a5 a6 a7 a8) (fun z => h.2 z g p e R s m args below meth c H locs cells slots ls hC a2 a3 a4 a5 a6 a7 a8)
theorem zs_if_eq {x : Int32} {off : Int} (hd : decode f.2.1 pc = .ok (.ifCond .eq off, 3)) (hg : zgo pc off = true) (h : (zcp 0 x 0 → zGo l d mc ms f M (ztg pc off) lo st Q) ∧ (¬ zcp 0 x 0 → zGo l d mc ms f M (pc + 3) lo st Q)) : zGo l d mc ms f M pc lo (.int x :: st) Q := by
  intro g p e R s m args below meth c H locs cells slots ls hC a2 a3 a4 a5 a6 a7 a8
  exact lv_if_eq hC.1 hC.2.1 hd (ztg_ok hg) (fun z => h.1 z g p e R s m args below meth c H locs cells slots ls hC a2 a3 a4 a5 a6 a7 a8) (fun z => h.2 z g p e R s m args below meth c H locs cells slots ls hC a2 a3 a4 a5 a6 a7 a8)
theorem zs_icmp_ne {x y : Int32} {off : Int} (hd : decode f.2.1 pc = .ok (.if_icmp .ne off, 3)) (hg : zgo pc off = true) (h : (zcp 0 x y → zGo l d mc ms f M (pc + 3) lo st Q) ∧ (¬ zcp 0 x y → zGo l d mc ms f M (ztg pc off) lo st Q)) : zGo l d mc ms f M pc lo (.int y :: .int x :: st) Q := by
  intro g p e R s m args below meth c H locs cells slots ls hC a2 a3 a4 a5 a6 a7 a8
  exact lv_icmp_ne hC.1 hC.2.1 hd (ztg_ok hg) (fun z => h.2 z g p e R s m args below meth c H locs cells slots ls hC a2 a3 a4 a5 a6 a7 a8) (fun z => h.1 z g p e R s m args below meth c H locs cells slots ls hC a2 a3 a4 a5 a6 a7 a8)
theorem zs_if_ne {x : Int32} {off : Int} (hd : decode f.2.1 pc = .ok (.ifCond .ne off, 3)) (hg : zgo pc off = true) (h : (zcp 0 x 0 → zGo l d mc ms f M (pc + 3) lo st Q) ∧ (¬ zcp 0 x 0 → zGo l d mc ms f M (ztg pc off) lo st Q)) : zGo l d mc ms f M pc lo (.int x :: st) Q := by
  intro g p e R s m args below meth c H locs cells slots ls hC a2 a3 a4 a5 a6 a7 a8
  exact lv_if_ne hC.1 hC.2.1 hd (ztg_ok hg) (fun z => h.2 z g p e R s m args below meth c H locs cells slots ls hC a2 a3 a4 a5 a6 a7 a8) (fun z => h.1 z g p e R s m args below meth c H locs cells slots ls hC a2 a3 a4 a5 a6 a7 a8)
theorem zs_icmp_lt {x y : Int32} {off : Int} (hd : decode f.2.1 pc = .ok (.if_icmp .lt off, 3)) (hg : zgo pc off = true) (h : (zcp 1 x y → zGo l d mc ms f M (ztg pc off) lo st Q) ∧ (¬ zcp 1 x y → zGo l d mc ms f M (pc + 3) lo st Q)) : zGo l d mc ms f M pc lo (.int y :: .int x :: st) Q := by
  intro g p e R s m args below meth c H locs cells slots ls hC a2 a3 a4 a5 a6 a7 a8
  exact lv_icmp_lt hC.1 hC.2.1 hd (ztg_ok hg) (fun z => h.1 z g p e R s m args below meth c H locs cells slots ls hC a2 a3 a4 a5 a6 a7 a8) (fun z => h.2 z g p e R s m args below meth c H locs cells slots ls hC a2 a3 a4 a5 a6 a7 a8)
theorem zs_if_lt {x : Int32} {off : Int} (hd : decode f.2.1 pc = .ok (.ifCond .lt off, 3)) (hg : zgo pc off = true) (h : (zcp 1 x 0 → zGo l d mc ms f M (ztg pc off) lo st Q) ∧ (¬ zcp 1 x 0 → zGo l d mc ms f M (pc + 3) lo st Q)) : zGo l d mc ms f M pc lo (.int x :: st) Q := by
  intro g p e R s m args below meth c H locs cells slots ls hC a2 a3 a4 a5 a6 a7 a8
  exact lv_if_lt hC.1 hC.2.1 hd (ztg_ok hg) (fun z => h.1 z g p e R s m args below meth c H locs cells slots ls hC a2 a3 a4 a5 a6 a7 a8) (fun z => h.2 z g p e R s m args below meth c H locs cells slots ls hC a2 a3 a4 a5 a6 a7 a8)
theorem zs_icmp_ge {x y : Int32} {off : Int} (hd : decode f.2.1 pc = .ok (.if_icmp .ge off, 3)) (hg : zgo pc off = true) (h : (zcp 1 x y → zGo l d mc ms f M (pc + 3) lo st Q) ∧ (¬ zcp 1 x y → zGo l d mc ms f M (ztg pc off) lo st Q)) : zGo l d mc ms f M pc lo (.int y :: .int x :: st) Q := by
  intro g p e R s m args below meth c H locs cells slots ls hC a2 a3 a4 a5 a6 a7 a8
  exact lv_icmp_ge hC.1 hC.2.1 hd (ztg_ok hg) (fun z => h.2 (Int32.not_lt.mpr z) g p e R s m args below meth c H locs cells slots ls hC a2 a3 a4 a5 a6 a7 a8) (fun z => h.1 (Int32.not_le.mp z) g p e R s m args below meth c H locs cells slots ls hC a2 a3 a4 a5 a6 a7 a8)
theorem zs_if_ge {x : Int32} {off : Int} (hd : decode f.2.1 pc = .ok (.ifCond .ge off, 3)) (hg : zgo pc off = true) (h : (zcp 1 x 0 → zGo l d mc ms f M (pc + 3) lo st Q) ∧ (¬ zcp 1 x 0 → zGo l d mc ms f M (ztg pc off) lo st Q)) : zGo l d mc ms f M pc lo (.int x :: st) Q := by
  intro g p e R s m args below meth c H locs cells slots ls hC a2 a3 a4 a5 a6 a7 a8
  exact lv_if_ge hC.1 hC.2.1 hd (ztg_ok hg) (fun z => h.2 (Int32.not_lt.mpr z) g p e R s m args below meth c H locs cells slots ls hC a2 a3 a4 a5 a6 a7 a8) (fun z => h.1 (Int32.not_le.mp z) g p e R s m args below meth c H locs cells slots ls hC a2 a3 a4 a5 a6 a7 a8)
theorem zs_icmp_gt {x y : Int32} {off : Int} (hd : decode f.2.1 pc = .ok (.if_icmp .gt off, 3)) (hg : zgo pc off = true) (h : (zcp 2 x y → zGo l d mc ms f M (ztg pc off) lo st Q) ∧ (¬ zcp 2 x y → zGo l d mc ms f M (pc + 3) lo st Q)) : zGo l d mc ms f M pc lo (.int y :: .int x :: st) Q := by
  intro g p e R s m args below meth c H locs cells slots ls hC a2 a3 a4 a5 a6 a7 a8
  exact lv_icmp_gt hC.1 hC.2.1 hd (ztg_ok hg) (fun z => h.1 z g p e R s m args below meth c H locs cells slots ls hC a2 a3 a4 a5 a6 a7 a8) (fun z => h.2 z g p e R s m args below meth c H locs cells slots ls hC a2 a3 a4 a5 a6 a7 a8)
theorem zs_if_gt {x : Int32} {off : Int} (hd : decode f.2.1 pc = .ok (.ifCond .gt off, 3)) (hg : zgo pc off = true) (h : (zcp 2 x 0 → zGo l d mc ms f M (ztg pc off) lo st Q) ∧ (¬ zcp 2 x 0 → zGo l d mc ms f M (pc + 3) lo st Q)) : zGo l d mc ms f M pc lo (.int x :: st) Q := by
  intro g p e R s m args below meth c H locs cells slots ls hC a2 a3 a4 a5 a6 a7 a8
  exact lv_if_gt hC.1 hC.2.1 hd (ztg_ok hg) (fun z => h.1 z g p e R s m args below meth c H locs cells slots ls hC a2 a3 a4 a5 a6 a7 a8) (fun z => h.2 z g p e R s m args below meth c H locs cells slots ls hC a2 a3 a4 a5 a6 a7 a8)
theorem zs_icmp_le {x y : Int32} {off : Int} (hd : decode f.2.1 pc = .ok (.if_icmp .le off, 3)) (hg : zgo pc off = true) (h : (zcp 2 x y → zGo l d mc ms f M (pc + 3) lo st Q) ∧ (¬ zcp 2 x y → zGo l d mc ms f M (ztg pc off) lo st Q)) : zGo l d mc ms f M pc lo (.int y :: .int x :: st) Q := by
  intro g p e R s m args below meth c H locs cells slots ls hC a2 a3 a4 a5 a6 a7 a8
  exact lv_icmp_le hC.1 hC.2.1 hd (ztg_ok hg) (fun z => h.2 (Int32.not_lt.mpr z) g p e R s m args below meth c H locs cells slots ls hC a2 a3 a4 a5 a6 a7 a8) (fun z => h.1 (Int32.not_le.mp z) g p e R s m args below meth c H locs cells slots ls hC a2 a3 a4 a5 a6 a7 a8)
theorem zs_if_le {x : Int32} {off : Int} (hd : decode f.2.1 pc = .ok (.ifCond .le off, 3)) (hg : zgo pc off = true) (h : (zcp 2 x 0 → zGo l d mc ms f M (pc + 3) lo st Q) ∧ (¬ zcp 2 x 0 → zGo l d mc ms f M (ztg pc off) lo st Q)) : zGo l d mc ms f M pc lo (.int x :: st) Q := by
  intro g p e R s m args below meth c H locs cells slots ls hC a2 a3 a4 a5 a6 a7 a8
  exact lv_if_le hC.1 hC.2.1 hd (ztg_ok hg) (fun z => h.2 (Int32.not_lt.mpr z) g p e R s m args below meth c H locs cells slots ls hC a2 a3 a4 a5 a6 a7 a8) (fun z => h.1 (Int32.not_le.mp z) g p e R s m args below meth c H locs cells slots ls hC a2 a3 a4 a5 a6 a7 a8)
theorem zs_istore {i : Nat} {x : Int32} (hd : decode f.2.1 pc = .ok (.istore i, 2)) (hi : Nat.blt i f.2.2.2.1 = true) (h : zGo l d mc ms f M (pc + 2) (zup lo i (.int x)) st Q) : zGo l d mc ms f M pc lo (.int x :: st) Q := by
  intro g p e R s m args below meth c H locs cells slots ls hC a2 a3 a4 a5 a6 a7 a8
  refine lv_istore hC.1 hC.2.1 hd a8 (Nat.blt_eq.mp hi) rfl (fun ls' hl => h g p e R s m args below meth c H locs cells slots ls' hC a2 a3 a4 a5 a6 a7 ?_)
  rw [zlm_filter] at hl
  exact zlm_zin (v := .int x) hl
theorem zs_istore_n {k : Fin 4} {x : Int32} (hd : decode f.2.1 pc = .ok (.istore_n k, 1)) (hi : Nat.blt k.val f.2.2.2.1 = true) (h : zGo l d mc ms f M (pc + 1) (zup lo k.val (.int x)) st Q) : zGo l d mc ms f M pc lo (.int x :: st) Q := by
  intro g p e R s m args below meth c H locs cells slots ls hC a2 a3 a4 a5 a6 a7 a8
  refine lv_istore_n hC.1 hC.2.1 hd rfl a8 (Nat.blt_eq.mp hi) rfl (fun ls' hl => h g p e R s m args below meth c H locs cells slots ls' hC a2 a3 a4 a5 a6 a7 ?_)
  rw [zlm_filter] at hl
  exact zlm_zin (v := .int x) hl
theorem zs_astore {i : Nat} {x : Nat} (hd : decode f.2.1 pc = .ok (.astore i, 2)) (hi : Nat.blt i f.2.2.2.1 = true) (h : zGo l d mc ms f M (pc + 2) (zup lo i (.ref x)) st Q) : zGo l d mc ms f M pc lo (.ref x :: st) Q := by
  intro g p e R s m args below meth c H locs cells slots ls hC a2 a3 a4 a5 a6 a7 a8
  refine lv_astore hC.1 hC.2.1 hd a8 (Nat.blt_eq.mp hi) rfl (fun ls' hl => h g p e R s m args below meth c H locs cells slots ls' hC a2 a3 a4 a5 a6 a7 ?_)
  rw [zlm_filter] at hl
  exact zlm_zin (v := .ref x) hl
theorem zs_astore_n {k : Fin 4} {x : Nat} (hd : decode f.2.1 pc = .ok (.astore_n k, 1)) (hi : Nat.blt k.val f.2.2.2.1 = true) (h : zGo l d mc ms f M (pc + 1) (zup lo k.val (.ref x)) st Q) : zGo l d mc ms f M pc lo (.ref x :: st) Q := by
  intro g p e R s m args below meth c H locs cells slots ls hC a2 a3 a4 a5 a6 a7 a8
  refine lv_astore_n hC.1 hC.2.1 hd rfl a8 (Nat.blt_eq.mp hi) rfl (fun ls' hl => h g p e R s m args below meth c H locs cells slots ls' hC a2 a3 a4 a5 a6 a7 ?_)
  rw [zlm_filter] at hl
  exact zlm_zin (v := .ref x) hl
theorem zs_lstore {i : Nat} {x : Int64} (hd : decode f.2.1 pc = .ok (.lstore i, 2)) (hi : Nat.blt (i + 1) f.2.2.2.1 = true) (h : zGo l d mc ms f M (pc + 2) (zup2 lo i (.long x)) st Q) : zGo l d mc ms f M pc lo (.long x :: st) Q := by
  intro g p e R s m args below meth c H locs cells slots ls hC a2 a3 a4 a5 a6 a7 a8
  refine lv_lstore hC.1 hC.2.1 hd a8 (Nat.blt_eq.mp hi) rfl (fun ls' hl => h g p e R s m args below meth c H locs cells slots ls' hC a2 a3 a4 a5 a6 a7 ?_)
  rw [zlm_filter2] at hl
  exact zlm_zin (v := .long x) hl
theorem zs_iinc {i : Nat} {n : Int} {x : Int32} (hd : decode f.2.1 pc = .ok (.iinc i n, 3)) (hx : zlk lo i = some (.int x)) (hi : Nat.blt i f.2.2.2.1 = true) (h : zGo l d mc ms f M (pc + 3) (zup lo i (.int (x + Int32.ofInt n))) st Q) : zGo l d mc ms f M pc lo st Q := by
  intro g p e R s m args below meth c H locs cells slots ls hC a2 a3 a4 a5 a6 a7 a8
  obtain ⟨k, hk⟩ := List.getElem?_of_mem (List.mem_map.mpr ⟨(i, .int x), zlk_mem hx, rfl⟩ : (i, Value.int x) ∈ zlm g lo)
  refine lv_iinc hC.1 hC.2.1 hd a8 hk rfl (Nat.blt_eq.mp hi) rfl (fun ls' hl => h g p e R s m args below meth c H locs cells slots ls' hC a2 a3 a4 a5 a6 a7 ?_)
  rw [zlm_filter] at hl
  exact zlm_zin (v := .int (x + Int32.ofInt n)) hl
theorem zisk_ok {c a b : Nat} (h : zisk M c a b = true) : M.2.1 c = (a, b) := by
  unfold zisk at h
  simp only [Bool.and_eq_true, beq_iff_eq] at h
  exact Prod.ext h.1 h.2
theorem zK1 {k : Nat} (h : (k == 1) = true) {x : Nat × Nat} (hx : x.1 = k) : x = (1, x.2) := by
  have e : k = 1 := by simpa using h
  exact Prod.ext (hx.trans e) rfl
theorem zs_get {i a b c0 : Nat} (hd : decode f.2.1 pc = .ok (.getfield i, 3)) (hf : zfd f.1 i = some (a, b)) (hk : zisk M c0 0 a = true) (h : zGo l d mc ms f M (pc + 3) lo (zfv M a c0 b :: st) Q) : zGo l d mc ms f M pc lo (.ref c0 :: st) Q := by
  intro g p e R s m args below meth c H locs cells slots ls hC a2 a3 a4 a5 a6 a7 a8
  obtain ⟨q, hq, hb, hlink⟩ := zfd_ok hf
  have hk := zisk_ok hk
  obtain ⟨-, had, hce⟩ := a7.cell c0 hk (by decide)
  unfold zcell at hce
  rw [hk] at hce
  obtain ⟨q', hq', cell, q1, q2, q3, q4⟩ := hce
  cases Option.some.inj (hq.symm.trans hq')
  obtain ⟨hx, hcb, hr, hml, hown, hlocks, hts, hw, ht, hin⟩ := id hC
  obtain ⟨hS, hfc, kC, hkC, hkind⟩ := hw.1.1 a q hq
  obtain ⟨cf, kf, fi, fd, hi, hsl⟩ := hS b hb
  have hl0 := u_lays hts (z_lays a q hq) hb
  show W p l e R s m args below meth c H locs cells slots _ (F0 m pc ls (.ref (zad g c0) :: st.map (zc g)))
  rw [had]
  exact W.getf hx hcb hown (hts _ hlink) hi (u_facts hfc hkC hl0 hi).1 q1 (by rw [q3]; exact fun h => by cases h) (v := zc g (zfv M a c0 b)) (by rw [hsl]; exact q4 b hb) rfl rfl hd (h g p e R s m args below meth c H locs cells slots ls hC a2 a3 a4 a5 a6 a7 a8)
end
