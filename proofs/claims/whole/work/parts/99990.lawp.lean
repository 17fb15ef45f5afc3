/-! A FRAME OVER A GHOST OF WHICH P IS KNOWN (rows turned from parts 13-17, 22, 23 by gen/lawp.py) -/
def zGp (P : zG → State → Prop) (l : Launch) (d mc ms : Nat) (f : zF) (M : zM) (pc : Nat) (lo : List (Nat × Value)) (st : List Value) (Q : zR → zM → Prop) : Prop :=
  ∀ (g : zG) (p : Program) (e : Env) (R : Room) (s : State) (m : MethodId) (args : Array Value) (below : List Frame) (meth : Method) (c : Code) (H : Heap) (locs : List Loc) (cells slots : Nat) (ls : Array Slot), P g s →
    zCx l g f p s m args meth c → d ≤ R.frames → 37 * d ≤ R.locals → cells + mc ≤ R.cells → slots + ms ≤ R.slots → (∀ q ∈ locs, g.2.2.1 ≤ q.base) → zH g M H → lv_has ls f.2.2.2.1 (zlm g lo) →
    W p l e R s m args below meth c H locs cells slots (vx_MQ below (zQr g Q) (zQx g Q) args s R.cells R.slots (fun q => g.2.2.1 ≤ q)) (F0 m pc ls (st.map (zc g)))
def zGt (P : zG → State → Prop) (l : Launch) (d mc ms : Nat) (f : zF) (S : zS) (pc : Nat) (lo : List (Nat × zV)) (st : List zV) (Q : zR2 → zS → Prop) : Prop := ∀ M, zev M S → (∀ q ∈ lo, zok q.2) → (∀ v ∈ st, zok v) → zGp P l d mc ms f M pc (zmp lo) (st.map zvv) (zQs Q)
theorem zGp.sub {P : zG → State → Prop} {l : Launch} {d mc ms : Nat} {f : zF} {M : zM} {pc : Nat} {lo lo' : List (Nat × Value)} {st : List Value} {Q : zR → zM → Prop} (h : zGp P l d mc ms f M pc lo' st Q) (hs : ∀ q ∈ lo', q ∈ lo) : zGp P l d mc ms f M pc lo st Q :=
  fun g p e R s m args below meth c H locs cells slots ls a0 a1 a2 a3 a4 a5 a6 a7 a8 => h g p e R s m args below meth c H locs cells slots ls a0 a1 a2 a3 a4 a5 a6 a7 ⟨a8.1, a8.2.1, fun q hq => by
    obtain ⟨q', hq', rfl⟩ := List.mem_map.mp hq
    exact a8.2.2 _ (List.mem_map.mpr ⟨q', hs q' hq', rfl⟩)⟩
section
variable {P : zG → State → Prop} {l : Launch} {d mc ms : Nat} {f : zF} {M : zM} {pc : Nat} {lo : List (Nat × Value)} {st : List Value} {Q : zR → zM → Prop}
theorem zs_iconstP {n : Int} (hd : decode f.2.1 pc = .ok (.iconst n, 1)) (h : zGp P l d mc ms f M (pc + 1) lo (.int (Int32.ofInt n) :: st) Q) : zGp P l d mc ms f M pc lo (st) Q := by
  intro g p e R s m args below meth c H locs cells slots ls hPP hC a2 a3 a4 a5 a6 a7 a8
  exact lv_iconst hC.1 hC.2.1 hd rfl (h g p e R s m args below meth c H locs cells slots ls hPP hC a2 a3 a4 a5 a6 a7 a8)
theorem zs_bipushP {n : Int} (hd : decode f.2.1 pc = .ok (.bipush n, 2)) (h : zGp P l d mc ms f M (pc + 2) lo (.int ((Int8.ofInt n).toInt32) :: st) Q) : zGp P l d mc ms f M pc lo (st) Q := by
  intro g p e R s m args below meth c H locs cells slots ls hPP hC a2 a3 a4 a5 a6 a7 a8
  exact lv_bipush hC.1 hC.2.1 hd rfl (h g p e R s m args below meth c H locs cells slots ls hPP hC a2 a3 a4 a5 a6 a7 a8)
theorem zs_sipushP {n : Int} (hd : decode f.2.1 pc = .ok (.sipush n, 3)) (h : zGp P l d mc ms f M (pc + 3) lo (.int ((Int16.ofInt n).toInt32) :: st) Q) : zGp P l d mc ms f M pc lo (st) Q := by
  intro g p e R s m args below meth c H locs cells slots ls hPP hC a2 a3 a4 a5 a6 a7 a8
  exact lv_sipush hC.1 hC.2.1 hd rfl (h g p e R s m args below meth c H locs cells slots ls hPP hC a2 a3 a4 a5 a6 a7 a8)
theorem zs_ldcP {i : Nat} {v : Int32} (hv : zcv f.1 i = some v) (hd : decode f.2.1 pc = .ok (.ldc i, 2)) (h : zGp P l d mc ms f M (pc + 2) lo (.int v :: st) Q) : zGp P l d mc ms f M pc lo (st) Q := by
  intro g p e R s m args below meth c H locs cells slots ls hPP hC a2 a3 a4 a5 a6 a7 a8
  exact lv_ldc hC.1 hC.2.1 hC.2.2.2.2.1 (hC.2.2.2.2.2.2.1 _ (zcv_ok hv)) hd (h g p e R s m args below meth c H locs cells slots ls hPP hC a2 a3 a4 a5 a6 a7 a8)
theorem zs_ldcwP {i : Nat} {v : Int32} (hv : zcv f.1 i = some v) (hd : decode f.2.1 pc = .ok (.ldc_w i, 3)) (h : zGp P l d mc ms f M (pc + 3) lo (.int v :: st) Q) : zGp P l d mc ms f M pc lo (st) Q := by
  intro g p e R s m args below meth c H locs cells slots ls hPP hC a2 a3 a4 a5 a6 a7 a8
  exact lv_ldcw hC.1 hC.2.1 hC.2.2.2.2.1 (hC.2.2.2.2.2.2.1 _ (zcv_ok hv)) hd (h g p e R s m args below meth c H locs cells slots ls hPP hC a2 a3 a4 a5 a6 a7 a8)
theorem zs_lconstP {n : Fin 2} (hd : decode f.2.1 pc = .ok (.lconst n, 1)) (h : zGp P l d mc ms f M (pc + 1) lo (.long (Int64.ofNat n.val) :: st) Q) : zGp P l d mc ms f M pc lo (st) Q := by
  intro g p e R s m args below meth c H locs cells slots ls hPP hC a2 a3 a4 a5 a6 a7 a8
  exact lv_lconst hC.1 hC.2.1 hd rfl (h g p e R s m args below meth c H locs cells slots ls hPP hC a2 a3 a4 a5 a6 a7 a8)
theorem zs_ldc2P (ho : f.1 = 12) (hd : decode f.2.1 pc = .ok (.ldc2_w 177, 3)) (h : zGp P l d mc ms f M (pc + 3) lo (.long (Int64.ofNat 96) :: st) Q) : zGp P l d mc ms f M pc lo (st) Q := by
  intro g p e R s m args below meth c H locs cells slots ls hPP hC a2 a3 a4 a5 a6 a7 a8
  exact lv_ldc2 (v := 96) hC.1 hC.2.1 hC.2.2.2.2.1 (by rw [ho]; exact hC.2.2.2.2.2.2.1 _ zkl) hd (h g p e R s m args below meth c H locs cells slots ls hPP hC a2 a3 a4 a5 a6 a7 a8)
theorem zs_iloadP {i : Nat} {x : Int32} (hx : zlk lo i = some (.int x)) (hd : decode f.2.1 pc = .ok (.iload i, 2)) (h : zGp P l d mc ms f M (pc + 2) lo (.int x :: st) Q) : zGp P l d mc ms f M pc lo (st) Q := by
  intro g p e R s m args below meth c H locs cells slots ls hPP hC a2 a3 a4 a5 a6 a7 a8
  exact lv_iload hC.1 hC.2.1 hd (zlv a8 hx) (h g p e R s m args below meth c H locs cells slots ls hPP hC a2 a3 a4 a5 a6 a7 a8)
theorem zs_iload_nP {k : Fin 4} {x : Int32} (hx : zlk lo k.val = some (.int x)) (hd : decode f.2.1 pc = .ok (.iload_n k, 1)) (h : zGp P l d mc ms f M (pc + 1) lo (.int x :: st) Q) : zGp P l d mc ms f M pc lo (st) Q := by
  intro g p e R s m args below meth c H locs cells slots ls hPP hC a2 a3 a4 a5 a6 a7 a8
  exact lv_iload_n hC.1 hC.2.1 hd rfl (zlv a8 hx) (h g p e R s m args below meth c H locs cells slots ls hPP hC a2 a3 a4 a5 a6 a7 a8)
theorem zs_lloadP {i : Nat} {x : Int64} (hx : zlk lo i = some (.long x)) (hd : decode f.2.1 pc = .ok (.lload i, 2)) (h : zGp P l d mc ms f M (pc + 2) lo (.long x :: st) Q) : zGp P l d mc ms f M pc lo (st) Q := by
  intro g p e R s m args below meth c H locs cells slots ls hPP hC a2 a3 a4 a5 a6 a7 a8
  exact lv_lload hC.1 hC.2.1 hd (zlv a8 hx) (h g p e R s m args below meth c H locs cells slots ls hPP hC a2 a3 a4 a5 a6 a7 a8)
theorem zs_aloadP {i : Nat} {x : Nat} (hx : zlk lo i = some (.ref x)) (hd : decode f.2.1 pc = .ok (.aload i, 2)) (h : zGp P l d mc ms f M (pc + 2) lo (.ref x :: st) Q) : zGp P l d mc ms f M pc lo (st) Q := by
  intro g p e R s m args below meth c H locs cells slots ls hPP hC a2 a3 a4 a5 a6 a7 a8
  exact lv_aload hC.1 hC.2.1 hd (zlv a8 hx) (h g p e R s m args below meth c H locs cells slots ls hPP hC a2 a3 a4 a5 a6 a7 a8)
theorem zs_aload_nP {k : Fin 4} {x : Nat} (hx : zlk lo k.val = some (.ref x)) (hd : decode f.2.1 pc = .ok (.aload_n k, 1)) (h : zGp P l d mc ms f M (pc + 1) lo (.ref x :: st) Q) : zGp P l d mc ms f M pc lo (st) Q := by
  intro g p e R s m args below meth c H locs cells slots ls hPP hC a2 a3 a4 a5 a6 a7 a8
  exact lv_aload_n hC.1 hC.2.1 hd rfl (zlv a8 hx) (h g p e R s m args below meth c H locs cells slots ls hPP hC a2 a3 a4 a5 a6 a7 a8)
theorem zs_iaddP {x y : Int32} (hd : decode f.2.1 pc = .ok (.iadd, 1)) (h : zGp P l d mc ms f M (pc + 1) lo (.int (x + y) :: st) Q) : zGp P l d mc ms f M pc lo (.int y :: .int x :: st) Q := by
  intro g p e R s m args below meth c H locs cells slots ls hPP hC a2 a3 a4 a5 a6 a7 a8
  exact lv_iadd hC.1 hC.2.1 hd (h g p e R s m args below meth c H locs cells slots ls hPP hC a2 a3 a4 a5 a6 a7 a8)
theorem zs_isubP {x y : Int32} (hd : decode f.2.1 pc = .ok (.isub, 1)) (h : zGp P l d mc ms f M (pc + 1) lo (.int (x - y) :: st) Q) : zGp P l d mc ms f M pc lo (.int y :: .int x :: st) Q := by
  intro g p e R s m args below meth c H locs cells slots ls hPP hC a2 a3 a4 a5 a6 a7 a8
  exact lv_isub hC.1 hC.2.1 hd (h g p e R s m args below meth c H locs cells slots ls hPP hC a2 a3 a4 a5 a6 a7 a8)
theorem zs_imulP {x y : Int32} (hd : decode f.2.1 pc = .ok (.imul, 1)) (h : zGp P l d mc ms f M (pc + 1) lo (.int (x * y) :: st) Q) : zGp P l d mc ms f M pc lo (.int y :: .int x :: st) Q := by
  intro g p e R s m args below meth c H locs cells slots ls hPP hC a2 a3 a4 a5 a6 a7 a8
  exact lv_imul hC.1 hC.2.1 hd (h g p e R s m args below meth c H locs cells slots ls hPP hC a2 a3 a4 a5 a6 a7 a8)
theorem zs_iandP {x y : Int32} (hd : decode f.2.1 pc = .ok (.iand, 1)) (h : zGp P l d mc ms f M (pc + 1) lo (.int (x &&& y) :: st) Q) : zGp P l d mc ms f M pc lo (.int y :: .int x :: st) Q := by
  intro g p e R s m args below meth c H locs cells slots ls hPP hC a2 a3 a4 a5 a6 a7 a8
  exact lv_iand hC.1 hC.2.1 hd (h g p e R s m args below meth c H locs cells slots ls hPP hC a2 a3 a4 a5 a6 a7 a8)
theorem zs_iorP {x y : Int32} (hd : decode f.2.1 pc = .ok (.ior, 1)) (h : zGp P l d mc ms f M (pc + 1) lo (.int (x ||| y) :: st) Q) : zGp P l d mc ms f M pc lo (.int y :: .int x :: st) Q := by
  intro g p e R s m args below meth c H locs cells slots ls hPP hC a2 a3 a4 a5 a6 a7 a8
  exact lv_ior hC.1 hC.2.1 hd (h g p e R s m args below meth c H locs cells slots ls hPP hC a2 a3 a4 a5 a6 a7 a8)
theorem zs_ixorP {x y : Int32} (hd : decode f.2.1 pc = .ok (.ixor, 1)) (h : zGp P l d mc ms f M (pc + 1) lo (.int (x ^^^ y) :: st) Q) : zGp P l d mc ms f M pc lo (.int y :: .int x :: st) Q := by
  intro g p e R s m args below meth c H locs cells slots ls hPP hC a2 a3 a4 a5 a6 a7 a8
  exact lv_ixor hC.1 hC.2.1 hd (h g p e R s m args below meth c H locs cells slots ls hPP hC a2 a3 a4 a5 a6 a7 a8)
theorem zs_ishlP {x y : Int32} (hd : decode f.2.1 pc = .ok (.ishl, 1)) (h : zGp P l d mc ms f M (pc + 1) lo (.int (x <<< (y &&& 31)) :: st) Q) : zGp P l d mc ms f M pc lo (.int y :: .int x :: st) Q := by
  intro g p e R s m args below meth c H locs cells slots ls hPP hC a2 a3 a4 a5 a6 a7 a8
  exact lv_ishl hC.1 hC.2.1 hd (h g p e R s m args below meth c H locs cells slots ls hPP hC a2 a3 a4 a5 a6 a7 a8)
theorem zs_ishrP {x y : Int32} (hd : decode f.2.1 pc = .ok (.ishr, 1)) (h : zGp P l d mc ms f M (pc + 1) lo (.int (x >>> (y &&& 31)) :: st) Q) : zGp P l d mc ms f M pc lo (.int y :: .int x :: st) Q := by
  intro g p e R s m args below meth c H locs cells slots ls hPP hC a2 a3 a4 a5 a6 a7 a8
  exact lv_ishr hC.1 hC.2.1 hd (h g p e R s m args below meth c H locs cells slots ls hPP hC a2 a3 a4 a5 a6 a7 a8)
theorem zs_iushrP {x y : Int32} (hd : decode f.2.1 pc = .ok (.iushr, 1)) (h : zGp P l d mc ms f M (pc + 1) lo (.int ((x.toUInt32 >>> (y.toUInt32 &&& Int32.toUInt32 31)).toInt32) :: st) Q) : zGp P l d mc ms f M pc lo (.int y :: .int x :: st) Q := by
  intro g p e R s m args below meth c H locs cells slots ls hPP hC a2 a3 a4 a5 a6 a7 a8
  exact lv_iushr hC.1 hC.2.1 hd rfl (h g p e R s m args below meth c H locs cells slots ls hPP hC a2 a3 a4 a5 a6 a7 a8)
theorem zs_idivP {x y : Int32} (hd : decode f.2.1 pc = .ok (.idiv, 1)) (hn : ¬ y = 0) (h : zGp P l d mc ms f M (pc + 1) lo (.int (x / y) :: st) Q) : zGp P l d mc ms f M pc lo (.int y :: .int x :: st) Q := by
  intro g p e R s m args below meth c H locs cells slots ls hPP hC a2 a3 a4 a5 a6 a7 a8
  exact lv_idiv hC.1 hC.2.1 hd hn (h g p e R s m args below meth c H locs cells slots ls hPP hC a2 a3 a4 a5 a6 a7 a8)
theorem zs_iremP {x y : Int32} (hd : decode f.2.1 pc = .ok (.irem, 1)) (hn : ¬ y = 0) (h : zGp P l d mc ms f M (pc + 1) lo (.int (x - x / y * y) :: st) Q) : zGp P l d mc ms f M pc lo (.int y :: .int x :: st) Q := by
  intro g p e R s m args below meth c H locs cells slots ls hPP hC a2 a3 a4 a5 a6 a7 a8
  exact lv_irem hC.1 hC.2.1 hd hn (h g p e R s m args below meth c H locs cells slots ls hPP hC a2 a3 a4 a5 a6 a7 a8)
theorem zs_i2lP {x : Int32} (hd : decode f.2.1 pc = .ok (.i2l, 1)) (h : zGp P l d mc ms f M (pc + 1) lo (.long x.toInt64 :: st) Q) : zGp P l d mc ms f M pc lo (.int x :: st) Q := by
  intro g p e R s m args below meth c H locs cells slots ls hPP hC a2 a3 a4 a5 a6 a7 a8
  exact lv_i2l hC.1 hC.2.1 hd rfl (h g p e R s m args below meth c H locs cells slots ls hPP hC a2 a3 a4 a5 a6 a7 a8)
theorem zs_i2bP {x : Int32} (hd : decode f.2.1 pc = .ok (.i2b, 1)) (h : zGp P l d mc ms f M (pc + 1) lo (.int x.toInt8.toInt32 :: st) Q) : zGp P l d mc ms f M pc lo (.int x :: st) Q := by
  intro g p e R s m args below meth c H locs cells slots ls hPP hC a2 a3 a4 a5 a6 a7 a8
  exact lv_i2b hC.1 hC.2.1 hd rfl (h g p e R s m args below meth c H locs cells slots ls hPP hC a2 a3 a4 a5 a6 a7 a8)
theorem zs_lorP {x y : Int64} (hd : decode f.2.1 pc = .ok (.lor, 1)) (h : zGp P l d mc ms f M (pc + 1) lo (.long (x ||| y) :: st) Q) : zGp P l d mc ms f M pc lo (.long y :: .long x :: st) Q := by
  intro g p e R s m args below meth c H locs cells slots ls hPP hC a2 a3 a4 a5 a6 a7 a8
  exact lv_lor hC.1 hC.2.1 hd (h g p e R s m args below meth c H locs cells slots ls hPP hC a2 a3 a4 a5 a6 a7 a8)
theorem zs_lsubP {x y : Int64} (hd : decode f.2.1 pc = .ok (.lsub, 1)) (h : zGp P l d mc ms f M (pc + 1) lo (.long (x - y) :: st) Q) : zGp P l d mc ms f M pc lo (.long y :: .long x :: st) Q := by
  intro g p e R s m args below meth c H locs cells slots ls hPP hC a2 a3 a4 a5 a6 a7 a8
  exact lv_lsub hC.1 hC.2.1 hd (h g p e R s m args below meth c H locs cells slots ls hPP hC a2 a3 a4 a5 a6 a7 a8)
theorem zs_lcmpP {x y : Int64} (hd : decode f.2.1 pc = .ok (.lcmp, 1)) (h : zGp P l d mc ms f M (pc + 1) lo (.int (lg_cmp x y) :: st) Q) : zGp P l d mc ms f M pc lo (.long y :: .long x :: st) Q := by
  intro g p e R s m args below meth c H locs cells slots ls hPP hC a2 a3 a4 a5 a6 a7 a8
  exact W.lcmp hC.1 hC.2.1 hd (h g p e R s m args below meth c H locs cells slots ls hPP hC a2 a3 a4 a5 a6 a7 a8)
theorem zs_lshlP {x : Int64} {y : Int32} (hd : decode f.2.1 pc = .ok (.lshl, 1)) (h : zGp P l d mc ms f M (pc + 1) lo (.long (x <<< (y.toInt64 &&& 63)) :: st) Q) : zGp P l d mc ms f M pc lo (.int y :: .long x :: st) Q := by
  intro g p e R s m args below meth c H locs cells slots ls hPP hC a2 a3 a4 a5 a6 a7 a8
  exact lv_lshl hC.1 hC.2.1 hd rfl (h g p e R s m args below meth c H locs cells slots ls hPP hC a2 a3 a4 a5 a6 a7 a8)
theorem zs_dupiP {x : Int32} (hd : decode f.2.1 pc = .ok (.dup, 1)) (h : zGp P l d mc ms f M (pc + 1) lo (.int x :: .int x :: st) Q) : zGp P l d mc ms f M pc lo (.int x :: st) Q := by
  intro g p e R s m args below meth c H locs cells slots ls hPP hC a2 a3 a4 a5 a6 a7 a8
  exact lv_dup hC.1 hC.2.1 hd rfl (h g p e R s m args below meth c H locs cells slots ls hPP hC a2 a3 a4 a5 a6 a7 a8)
theorem zs_duprP {x : Nat} (hd : decode f.2.1 pc = .ok (.dup, 1)) (h : zGp P l d mc ms f M (pc + 1) lo (.ref x :: .ref x :: st) Q) : zGp P l d mc ms f M pc lo (.ref x :: st) Q := by
  intro g p e R s m args below meth c H locs cells slots ls hPP hC a2 a3 a4 a5 a6 a7 a8
  exact lv_dup hC.1 hC.2.1 hd rfl (h g p e R s m args below meth c H locs cells slots ls hPP hC a2 a3 a4 a5 a6 a7 a8)
theorem zs_dup2P {x : Nat} {y : Int32} (hd : decode f.2.1 pc = .ok (.dup2, 1)) (h : zGp P l d mc ms f M (pc + 1) lo (.int y :: .ref x :: .int y :: .ref x :: st) Q) : zGp P l d mc ms f M pc lo (.int y :: .ref x :: st) Q := by
  intro g p e R s m args below meth c H locs cells slots ls hPP hC a2 a3 a4 a5 a6 a7 a8
  exact lv_dup2_11 hC.1 hC.2.1 hd rfl rfl (h g p e R s m args below meth c H locs cells slots ls hPP hC a2 a3 a4 a5 a6 a7 a8)
theorem zs_popiP {x : Int32} (hd : decode f.2.1 pc = .ok (.pop, 1)) (h : zGp P l d mc ms f M (pc + 1) lo (st) Q) : zGp P l d mc ms f M pc lo (.int x :: st) Q := by
  intro g p e R s m args below meth c H locs cells slots ls hPP hC a2 a3 a4 a5 a6 a7 a8
  exact lv_pop (va := .int x) hC.1 hC.2.1 hd rfl (h g p e R s m args below meth c H locs cells slots ls hPP hC a2 a3 a4 a5 a6 a7 a8)
theorem zs_gotoP {off : Int} (hd : decode f.2.1 pc = .ok (.goto off, 3)) (hg : zgo pc off = true) (h : zGp P l d mc ms f M (ztg pc off) lo st Q) : zGp P l d mc ms f M pc lo st Q := by
  intro g p e R s m args below meth c H locs cells slots ls hPP hC a2 a3 a4 a5 a6 a7 a8
  exact lv_goto hC.1 hC.2.1 hd (ztg_ok hg) (h g p e R s m args below meth c H locs cells slots ls hPP hC a2 a3 a4 a5 a6 a7 a8)
theorem zs_icmp_eqP {x y : Int32} {off : Int} (hd : decode f.2.1 pc = .ok (.if_icmp .eq off, 3)) (hg : zgo pc off = true) (h : (zcp 0 x y → zGp P l d mc ms f M (ztg pc off) lo st Q) ∧ (¬ zcp 0 x y → zGp P l d mc ms f M (pc + 3) lo st Q)) : zGp P l d mc ms f M pc lo (.int y :: .int x :: st) Q := by
  intro g p e R s m args below meth c H locs cells slots ls hPP hC a2 a3 a4 a5 a6 a7 a8
  exact lv_icmp_eq hC.1 hC.2.1 hd (ztg_ok hg) (fun z => h.1 z g p e R s m args below meth c H locs cells slots ls hPP hC a2 a3 a4 a5 a6 a7 a8) (fun z => h.2 z g p e R s m args below meth c H locs cells slots ls hPP hC a2 a3 a4 a5 a6 a7 a8)
theorem zs_if_eqP {x : Int32} {off : Int} (hd : decode f.2.1 pc = .ok (.ifCond .eq off, 3)) (hg : zgo pc off = true) (h : (zcp 0 x 0 → zGp P l d mc ms f M (ztg pc off) lo st Q) ∧ (¬ zcp 0 x 0 → zGp P l d mc ms f M (pc + 3) lo st Q)) : zGp P l d mc ms f M pc lo (.int x :: st) Q := by
  intro g p e R s m args below meth c H locs cells slots ls hPP hC a2 a3 a4 a5 a6 a7 a8
  exact lv_if_eq hC.1 hC.2.1 hd (ztg_ok hg) (fun z => h.1 z g p e R s m args below meth c H locs cells slots ls hPP hC a2 a3 a4 a5 a6 a7 a8) (fun z => h.2 z g p e R s m args below meth c H locs cells slots ls hPP hC a2 a3 a4 a5 a6 a7 a8)
theorem zs_icmp_neP {x y : Int32} {off : Int} (hd : decode f.2.1 pc = .ok (.if_icmp .ne off, 3)) (hg : zgo pc off = true) (h : (zcp 0 x y → zGp P l d mc ms f M (pc + 3) lo st Q) ∧ (¬ zcp 0 x y → zGp P l d mc ms f M (ztg pc off) lo st Q)) : zGp P l d mc ms f M pc lo (.int y :: .int x :: st) Q := by
  intro g p e R s m args below meth c H locs cells slots ls hPP hC a2 a3 a4 a5 a6 a7 a8
  exact lv_icmp_ne hC.1 hC.2.1 hd (ztg_ok hg) (fun z => h.2 z g p e R s m args below meth c H locs cells slots ls hPP hC a2 a3 a4 a5 a6 a7 a8) (fun z => h.1 z g p e R s m args below meth c H locs cells slots ls hPP hC a2 a3 a4 a5 a6 a7 a8)
theorem zs_if_neP {x : Int32} {off : Int} (hd : decode f.2.1 pc = .ok (.ifCond .ne off, 3)) (hg : zgo pc off = true) (h : (zcp 0 x 0 → zGp P l d mc ms f M (pc + 3) lo st Q) ∧ (¬ zcp 0 x 0 → zGp P l d mc ms f M (ztg pc off) lo st Q)) : zGp P l d mc ms f M pc lo (.int x :: st) Q := by
  intro g p e R s m args below meth c H locs cells slots ls hPP hC a2 a3 a4 a5 a6 a7 a8
  exact lv_if_ne hC.1 hC.2.1 hd (ztg_ok hg) (fun z => h.2 z g p e R s m args below meth c H locs cells slots ls hPP hC a2 a3 a4 a5 a6 a7 a8) (fun z => h.1 z g p e R s m args below meth c H locs cells slots ls hPP hC a2 a3 a4 a5 a6 a7 a8)
theorem zs_icmp_ltP {x y : Int32} {off : Int} (hd : decode f.2.1 pc = .ok (.if_icmp .lt off, 3)) (hg : zgo pc off = true) (h : (zcp 1 x y → zGp P l d mc ms f M (ztg pc off) lo st Q) ∧ (¬ zcp 1 x y → zGp P l d mc ms f M (pc + 3) lo st Q)) : zGp P l d mc ms f M pc lo (.int y :: .int x :: st) Q := by
  intro g p e R s m args below meth c H locs cells slots ls hPP hC a2 a3 a4 a5 a6 a7 a8
  exact lv_icmp_lt hC.1 hC.2.1 hd (ztg_ok hg) (fun z => h.1 z g p e R s m args below meth c H locs cells slots ls hPP hC a2 a3 a4 a5 a6 a7 a8) (fun z => h.2 z g p e R s m args below meth c H locs cells slots ls hPP hC a2 a3 a4 a5 a6 a7 a8)
theorem zs_if_ltP {x : Int32} {off : Int} (hd : decode f.2.1 pc = .ok (.ifCond .lt off, 3)) (hg : zgo pc off = true) (h : (zcp 1 x 0 → zGp P l d mc ms f M (ztg pc off) lo st Q) ∧ (¬ zcp 1 x 0 → zGp P l d mc ms f M (pc + 3) lo st Q)) : zGp P l d mc ms f M pc lo (.int x :: st) Q := by
  intro g p e R s m args below meth c H locs cells slots ls hPP hC a2 a3 a4 a5 a6 a7 a8
  exact lv_if_lt hC.1 hC.2.1 hd (ztg_ok hg) (fun z => h.1 z g p e R s m args below meth c H locs cells slots ls hPP hC a2 a3 a4 a5 a6 a7 a8) (fun z => h.2 z g p e R s m args below meth c H locs cells slots ls hPP hC a2 a3 a4 a5 a6 a7 a8)
theorem zs_icmp_geP {x y : Int32} {off : Int} (hd : decode f.2.1 pc = .ok (.if_icmp .ge off, 3)) (hg : zgo pc off = true) (h : (zcp 1 x y → zGp P l d mc ms f M (pc + 3) lo st Q) ∧ (¬ zcp 1 x y → zGp P l d mc ms f M (ztg pc off) lo st Q)) : zGp P l d mc ms f M pc lo (.int y :: .int x :: st) Q := by
  intro g p e R s m args below meth c H locs cells slots ls hPP hC a2 a3 a4 a5 a6 a7 a8
  exact lv_icmp_ge hC.1 hC.2.1 hd (ztg_ok hg) (fun z => h.2 (Int32.not_lt.mpr z) g p e R s m args below meth c H locs cells slots ls hPP hC a2 a3 a4 a5 a6 a7 a8) (fun z => h.1 (Int32.not_le.mp z) g p e R s m args below meth c H locs cells slots ls hPP hC a2 a3 a4 a5 a6 a7 a8)
theorem zs_if_geP {x : Int32} {off : Int} (hd : decode f.2.1 pc = .ok (.ifCond .ge off, 3)) (hg : zgo pc off = true) (h : (zcp 1 x 0 → zGp P l d mc ms f M (pc + 3) lo st Q) ∧ (¬ zcp 1 x 0 → zGp P l d mc ms f M (ztg pc off) lo st Q)) : zGp P l d mc ms f M pc lo (.int x :: st) Q := by
  intro g p e R s m args below meth c H locs cells slots ls hPP hC a2 a3 a4 a5 a6 a7 a8
  exact lv_if_ge hC.1 hC.2.1 hd (ztg_ok hg) (fun z => h.2 (Int32.not_lt.mpr z) g p e R s m args below meth c H locs cells slots ls hPP hC a2 a3 a4 a5 a6 a7 a8) (fun z => h.1 (Int32.not_le.mp z) g p e R s m args below meth c H locs cells slots ls hPP hC a2 a3 a4 a5 a6 a7 a8)
theorem zs_icmp_gtP {x y : Int32} {off : Int} (hd : decode f.2.1 pc = .ok (.if_icmp .gt off, 3)) (hg : zgo pc off = true) (h : (zcp 2 x y → zGp P l d mc ms f M (ztg pc off) lo st Q) ∧ (¬ zcp 2 x y → zGp P l d mc ms f M (pc + 3) lo st Q)) : zGp P l d mc ms f M pc lo (.int y :: .int x :: st) Q := by
  intro g p e R s m args below meth c H locs cells slots ls hPP hC a2 a3 a4 a5 a6 a7 a8
  exact lv_icmp_gt hC.1 hC.2.1 hd (ztg_ok hg) (fun z => h.1 z g p e R s m args below meth c H locs cells slots ls hPP hC a2 a3 a4 a5 a6 a7 a8) (fun z => h.2 z g p e R s m args below meth c H locs cells slots ls hPP hC a2 a3 a4 a5 a6 a7 a8)
theorem zs_if_gtP {x : Int32} {off : Int} (hd : decode f.2.1 pc = .ok (.ifCond .gt off, 3)) (hg : zgo pc off = true) (h : (zcp 2 x 0 → zGp P l d mc ms f M (ztg pc off) lo st Q) ∧ (¬ zcp 2 x 0 → zGp P l d mc ms f M (pc + 3) lo st Q)) : zGp P l d mc ms f M pc lo (.int x :: st) Q := by
  intro g p e R s m args below meth c H locs cells slots ls hPP hC a2 a3 a4 a5 a6 a7 a8
  exact lv_if_gt hC.1 hC.2.1 hd (ztg_ok hg) (fun z => h.1 z g p e R s m args below meth c H locs cells slots ls hPP hC a2 a3 a4 a5 a6 a7 a8) (fun z => h.2 z g p e R s m args below meth c H locs cells slots ls hPP hC a2 a3 a4 a5 a6 a7 a8)
theorem zs_icmp_leP {x y : Int32} {off : Int} (hd : decode f.2.1 pc = .ok (.if_icmp .le off, 3)) (hg : zgo pc off = true) (h : (zcp 2 x y → zGp P l d mc ms f M (pc + 3) lo st Q) ∧ (¬ zcp 2 x y → zGp P l d mc ms f M (ztg pc off) lo st Q)) : zGp P l d mc ms f M pc lo (.int y :: .int x :: st) Q := by
  intro g p e R s m args below meth c H locs cells slots ls hPP hC a2 a3 a4 a5 a6 a7 a8
  exact lv_icmp_le hC.1 hC.2.1 hd (ztg_ok hg) (fun z => h.2 (Int32.not_lt.mpr z) g p e R s m args below meth c H locs cells slots ls hPP hC a2 a3 a4 a5 a6 a7 a8) (fun z => h.1 (Int32.not_le.mp z) g p e R s m args below meth c H locs cells slots ls hPP hC a2 a3 a4 a5 a6 a7 a8)
theorem zs_if_leP {x : Int32} {off : Int} (hd : decode f.2.1 pc = .ok (.ifCond .le off, 3)) (hg : zgo pc off = true) (h : (zcp 2 x 0 → zGp P l d mc ms f M (pc + 3) lo st Q) ∧ (¬ zcp 2 x 0 → zGp P l d mc ms f M (ztg pc off) lo st Q)) : zGp P l d mc ms f M pc lo (.int x :: st) Q := by
  intro g p e R s m args below meth c H locs cells slots ls hPP hC a2 a3 a4 a5 a6 a7 a8
  exact lv_if_le hC.1 hC.2.1 hd (ztg_ok hg) (fun z => h.2 (Int32.not_lt.mpr z) g p e R s m args below meth c H locs cells slots ls hPP hC a2 a3 a4 a5 a6 a7 a8) (fun z => h.1 (Int32.not_le.mp z) g p e R s m args below meth c H locs cells slots ls hPP hC a2 a3 a4 a5 a6 a7 a8)
theorem zs_istoreP {i : Nat} {x : Int32} (hd : decode f.2.1 pc = .ok (.istore i, 2)) (hi : Nat.blt i f.2.2.2.1 = true) (h : zGp P l d mc ms f M (pc + 2) (zup lo i (.int x)) st Q) : zGp P l d mc ms f M pc lo (.int x :: st) Q := by
  intro g p e R s m args below meth c H locs cells slots ls hPP hC a2 a3 a4 a5 a6 a7 a8
  refine lv_istore hC.1 hC.2.1 hd a8 (Nat.blt_eq.mp hi) rfl (fun ls' hl => h g p e R s m args below meth c H locs cells slots ls' hPP hC a2 a3 a4 a5 a6 a7 ?_)
  rw [zlm_filter] at hl
  exact zlm_zin (v := .int x) hl
theorem zs_istore_nP {k : Fin 4} {x : Int32} (hd : decode f.2.1 pc = .ok (.istore_n k, 1)) (hi : Nat.blt k.val f.2.2.2.1 = true) (h : zGp P l d mc ms f M (pc + 1) (zup lo k.val (.int x)) st Q) : zGp P l d mc ms f M pc lo (.int x :: st) Q := by
  intro g p e R s m args below meth c H locs cells slots ls hPP hC a2 a3 a4 a5 a6 a7 a8
  refine lv_istore_n hC.1 hC.2.1 hd rfl a8 (Nat.blt_eq.mp hi) rfl (fun ls' hl => h g p e R s m args below meth c H locs cells slots ls' hPP hC a2 a3 a4 a5 a6 a7 ?_)
  rw [zlm_filter] at hl
  exact zlm_zin (v := .int x) hl
theorem zs_astoreP {i : Nat} {x : Nat} (hd : decode f.2.1 pc = .ok (.astore i, 2)) (hi : Nat.blt i f.2.2.2.1 = true) (h : zGp P l d mc ms f M (pc + 2) (zup lo i (.ref x)) st Q) : zGp P l d mc ms f M pc lo (.ref x :: st) Q := by
  intro g p e R s m args below meth c H locs cells slots ls hPP hC a2 a3 a4 a5 a6 a7 a8
  refine lv_astore hC.1 hC.2.1 hd a8 (Nat.blt_eq.mp hi) rfl (fun ls' hl => h g p e R s m args below meth c H locs cells slots ls' hPP hC a2 a3 a4 a5 a6 a7 ?_)
  rw [zlm_filter] at hl
  exact zlm_zin (v := .ref x) hl
theorem zs_astore_nP {k : Fin 4} {x : Nat} (hd : decode f.2.1 pc = .ok (.astore_n k, 1)) (hi : Nat.blt k.val f.2.2.2.1 = true) (h : zGp P l d mc ms f M (pc + 1) (zup lo k.val (.ref x)) st Q) : zGp P l d mc ms f M pc lo (.ref x :: st) Q := by
  intro g p e R s m args below meth c H locs cells slots ls hPP hC a2 a3 a4 a5 a6 a7 a8
  refine lv_astore_n hC.1 hC.2.1 hd rfl a8 (Nat.blt_eq.mp hi) rfl (fun ls' hl => h g p e R s m args below meth c H locs cells slots ls' hPP hC a2 a3 a4 a5 a6 a7 ?_)
  rw [zlm_filter] at hl
  exact zlm_zin (v := .ref x) hl
theorem zs_lstoreP {i : Nat} {x : Int64} (hd : decode f.2.1 pc = .ok (.lstore i, 2)) (hi : Nat.blt (i + 1) f.2.2.2.1 = true) (h : zGp P l d mc ms f M (pc + 2) (zup2 lo i (.long x)) st Q) : zGp P l d mc ms f M pc lo (.long x :: st) Q := by
  intro g p e R s m args below meth c H locs cells slots ls hPP hC a2 a3 a4 a5 a6 a7 a8
  refine lv_lstore hC.1 hC.2.1 hd a8 (Nat.blt_eq.mp hi) rfl (fun ls' hl => h g p e R s m args below meth c H locs cells slots ls' hPP hC a2 a3 a4 a5 a6 a7 ?_)
  rw [zlm_filter2] at hl
  exact zlm_zin (v := .long x) hl
theorem zs_iincP {i : Nat} {n : Int} {x : Int32} (hd : decode f.2.1 pc = .ok (.iinc i n, 3)) (hx : zlk lo i = some (.int x)) (hi : Nat.blt i f.2.2.2.1 = true) (h : zGp P l d mc ms f M (pc + 3) (zup lo i (.int (x + Int32.ofInt n))) st Q) : zGp P l d mc ms f M pc lo st Q := by
  intro g p e R s m args below meth c H locs cells slots ls hPP hC a2 a3 a4 a5 a6 a7 a8
  obtain ⟨k, hk⟩ := List.getElem?_of_mem (List.mem_map.mpr ⟨(i, .int x), zlk_mem hx, rfl⟩ : (i, Value.int x) ∈ zlm g lo)
  refine lv_iinc hC.1 hC.2.1 hd a8 hk rfl (Nat.blt_eq.mp hi) rfl (fun ls' hl => h g p e R s m args below meth c H locs cells slots ls' hPP hC a2 a3 a4 a5 a6 a7 ?_)
  rw [zlm_filter] at hl
  exact zlm_zin (v := .int (x + Int32.ofInt n)) hl
theorem zs_getP {i a b c0 : Nat} (hd : decode f.2.1 pc = .ok (.getfield i, 3)) (hf : zfd f.1 i = some (a, b)) (hk : zisk M c0 0 a = true) (h : zGp P l d mc ms f M (pc + 3) lo (zfv M a c0 b :: st) Q) : zGp P l d mc ms f M pc lo (.ref c0 :: st) Q := by
  intro g p e R s m args below meth c H locs cells slots ls hPP hC a2 a3 a4 a5 a6 a7 a8
  obtain ⟨q, hq, hb, hlink⟩ := zfd_ok hf
  have hk := zisk_ok hk
  obtain ⟨-, had, hce⟩ := a7.cell c0 hk (by decide)
  unfold zcell at hce
  rw [hk] at hce
  obtain ⟨q', hq', cell, q1, q2, q3, q4⟩ := hce
  cases Option.some.inj (hq.symm.trans hq')
  obtain ⟨hx, hcb, hr, hml, hown, hlocks, hts, hw, ht, hin⟩ := id hC
  obtain ⟨hS, hfc, kC, hkC, hkind⟩ := hw.1.1 a q hq
  obtain ⟨cf, kf, fi, fd, hi, hsl⟩ := hS b hb
  have hl0 := u_lays hts (z_lays a q hq) hb
  show W p l e R s m args below meth c H locs cells slots _ (F0 m pc ls (.ref (zad g c0) :: st.map (zc g)))
  rw [had]
  exact W.getf hx hcb hown (hts _ hlink) hi (u_facts hfc hkC hl0 hi).1 q1 (by rw [q3]; exact fun h => by cases h) (v := zc g (zfv M a c0 b)) (by rw [hsl]; exact q4 b hb) rfl rfl hd (h g p e R s m args below meth c H locs cells slots ls hPP hC a2 a3 a4 a5 a6 a7 a8)
/-- a store into a field that isn't final -/
theorem zs_putP {M' : zM} {i a b c0 : Nat} {v : Value} {ty : FieldType} (hd : decode f.2.1 pc = .ok (.putfield i, 3)) (hf : zfd f.1 i = some (a, b)) (hk : zisk M c0 0 a = true) (hfin : (!zfin a b) = true) (hty : tyT a b = ty) (hn : ∀ g, narrow ty (zc g v) = zc g v) (hfit : ∀ g, fits ty (zc g v) = true)
    (m1 : M'.1 = M.1) (m2 : M'.2.1 = M.2.1) (mR : ∀ x, x ≠ c0 → M'.2.2.1 x = M.2.2.1 x) (mI : ∀ x, x ≠ c0 → M'.2.2.2.1 x = M.2.2.2.1 x) (mJ : ∀ x, x ≠ c0 → M'.2.2.2.2 x = M.2.2.2.2 x)
    (mv : zfv M' a c0 b = v) (mo : ∀ k, k ≠ b → zfv M' a c0 k = zfv M a c0 k)
    (h : zGp P l d mc ms f M' (pc + 3) lo st Q) : zGp P l d mc ms f M pc lo (v :: .ref c0 :: st) Q := by
  intro g p e R s m args below meth c H locs cells slots ls hPP hC a2 a3 a4 a5 a6 a7 a8
  obtain ⟨q, hq, hb, hlink⟩ := zfd_ok hf
  have hk := zisk_ok hk
  obtain ⟨-, had, hce⟩ := a7.cell c0 hk (by decide)
  unfold zcell at hce
  rw [hk] at hce
  obtain ⟨q', hq', cell, q1, q2, q3, q4⟩ := hce
  cases Option.some.inj (hq.symm.trans hq')
  obtain ⟨hx, hcb, hr, hml, hown, hlocks, hts, hw, ht, hin⟩ := id hC
  have hap := va_apart (own := zown f.1) hts (z_lays a q hq) (tyT a) (z_ty a q hq) (z_nm a q hq) hw.1 hq
  obtain ⟨hS, hfc, kC, hkC, hkind⟩ := hw.1.1 a q hq
  obtain ⟨cf, kf, fi, fd, hi, hsl⟩ := hS b hb
  have hlay := hts _ (z_lays a q hq _ (u_in_lay hb))
  unfold u_lay at hlay
  rw [if_neg (by rw [zfinF hq hfin]; decide)] at hlay
  have hst := (u_facts hfc hkC (u_lays hts (z_lays a q hq) hb) hi).1
  have h6 := u_store (v := zc g v) hfc hkC hkind hlay hi ((z_ty a q hq b hb).trans (by rw [hty])) (hn g) (hfit g)
  show W p l e R s m args below meth c H locs cells slots _ (F0 m pc ls (zc g v :: .ref (zad g c0) :: st.map (zc g)))
  rw [had]
  refine W.putK hx hcb (f := fd) ⟨hown, hts _ hlink, ⟨_, _, _, hi⟩, hst⟩ (by rw [q2]; exact h6) q1 q3 (by rw [hsl]; exact k2_hasslot (q4 b hb)) rfl rfl hd fun H' e1 e2 e3 => ?_
  refine h g p e R s m args below meth c H' _ cells slots ls hPP hC a2 a3 a4 a5 (fun z hz => ?_) (zfld (s := s) a7 hk hq hb q1 q2 q3 q4 hap hsl e1 e2 e3 m1 m2 mR mI mJ (by rw [mv]) (fun k _ hk => mo k hk)) a8
  rcases List.mem_append.mp hz with hz | hz
  · exact a6 z hz
  · rw [List.mem_singleton.mp hz]; exact Nat.le_add_right _ _
/-- a store into a final field, in a constructor of its class -/
theorem zs_putFP {M' : zM} {i a b c0 : Nat} {v : Value} {ty : FieldType} (hd : decode f.2.1 pc = .ok (.putfield i, 3)) (hf : zfd f.1 i = some (a, b)) (hk : zisk M c0 0 a = true) (hfin : zfin a b = true) (hini : f.2.2.2.2.2 = true) (hoa : f.1 = a) (hty : tyT a b = ty) (hn : ∀ g, narrow ty (zc g v) = zc g v) (hfit : ∀ g, fits ty (zc g v) = true)
    (m1 : M'.1 = M.1) (m2 : M'.2.1 = M.2.1) (mR : ∀ x, x ≠ c0 → M'.2.2.1 x = M.2.2.1 x) (mI : ∀ x, x ≠ c0 → M'.2.2.2.1 x = M.2.2.2.1 x) (mJ : ∀ x, x ≠ c0 → M'.2.2.2.2 x = M.2.2.2.2 x)
    (mv : zfv M' a c0 b = v) (mo : ∀ k, k ≠ b → zfv M' a c0 k = zfv M a c0 k)
    (h : zGp P l d mc ms f M' (pc + 3) lo st Q) : zGp P l d mc ms f M pc lo (v :: .ref c0 :: st) Q := by
  intro g p e R s m args below meth c H locs cells slots ls hPP hC a2 a3 a4 a5 a6 a7 a8
  obtain ⟨q, hq, hb, hlink⟩ := zfd_ok hf
  have hk := zisk_ok hk
  obtain ⟨-, had, hce⟩ := a7.cell c0 hk (by decide)
  unfold zcell at hce
  rw [hk] at hce
  obtain ⟨q', hq', cell, q1, q2, q3, q4⟩ := hce
  cases Option.some.inj (hq.symm.trans hq')
  obtain ⟨hx, hcb, hr, hml, hown, hlocks, hts, hw, ht, hin⟩ := id hC
  have hap := va_apart (own := zown f.1) hts (z_lays a q hq) (tyT a) (z_ty a q hq) (z_nm a q hq) hw.1 hq
  obtain ⟨hS, hfc, kC, hkC, hkind⟩ := hw.1.1 a q hq
  obtain ⟨cf, kf, fi, fd, hi, hsl⟩ := hS b hb
  have hlay := hts _ (z_lays a q hq _ (u_in_lay hb))
  unfold u_lay at hlay
  rw [if_pos (zfinT hq hfin)] at hlay
  have hst := (u_facts hfc hkC (u_lays hts (z_lays a q hq) hb) hi).1
  have hcf : m.cls = cf := by
    obtain ⟨_, _, c', _, _, _, -, -, hf', -, -, -, hown2, -⟩ := Cond.laysFinal_spec hlay
    have e1 : c' = cf := by have := hi.symm.trans hf'; simp at this; exact this.1.symm
    rw [(z_decl a q hq).2 b hb, ← (z_decl a q hq).1, ← hoa] at hown2
    rw [← e1]; exact Option.some.inj (hown.symm.trans hown2)
  have h6 := u_fits (v := zc g v) hfc hkC hkind (Or.inr hlay) hi ((z_ty a q hq b hb).trans (by rw [hty])) (hn g) (hfit g)
  show W p l e R s m args below meth c H locs cells slots _ (F0 m pc ls (zc g v :: .ref (zad g c0) :: st.map (zc g)))
  rw [had]
  refine W.putFinK hx hcb hown (hts _ hlink) hi hst hcf (hin.1 hini) (by rw [q2]; exact h6) q1 q3 (by rw [hsl]; exact k2_hasslot (q4 b hb)) rfl rfl hd fun H' e1 e2 e3 => ?_
  refine h g p e R s m args below meth c H' _ cells slots ls hPP hC a2 a3 a4 a5 (fun z hz => ?_) (zfld (s := s) a7 hk hq hb q1 q2 q3 q4 hap hsl e1 e2 e3 m1 m2 mR mI mJ (by rw [mv]) (fun k _ hk => mo k hk)) a8
  rcases List.mem_append.mp hz with hz | hz
  · exact a6 z hz
  · rw [List.mem_singleton.mp hz]; exact Nat.le_add_right _ _
theorem zs_putIP {i a b c0 : Nat} {x : Int32} (hd : decode f.2.1 pc = .ok (.putfield i, 3)) (hf : zfd f.1 i = some (a, b)) (hk : zisk M c0 0 a = true) (hfin : (!zfin a b) = true) (hty : tyT a b = .int) (h : zGp P l d mc ms f (zsI M c0 b x) (pc + 3) lo st Q) : zGp P l d mc ms f M pc lo (.int x :: .ref c0 :: st) Q :=
  zs_putP (M' := zsI M c0 b x) hd hf hk hfin hty (fun _ => rfl) (fun _ => rfl) rfl rfl (fun _ _ => rfl) (fun y hy => zu_row _ x hy) (fun _ _ => rfl) (by unfold zfv; rw [hty]; show Value.int (zu _ c0 b x c0 b) = _; rw [zu_same]) (fun k hk => by unfold zfv; show (match tyT a k with | .long => _ | .object _ => _ | .array _ => _ | _ => Value.int (zu _ c0 b x c0 k)) = _; rw [zu_ne _ x (Or.inr hk)]; rfl) h
theorem zs_putZP {i a b c0 : Nat} {x : Int32} (hd : decode f.2.1 pc = .ok (.putfield i, 3)) (hf : zfd f.1 i = some (a, b)) (hk : zisk M c0 0 a = true) (hfin : (!zfin a b) = true) (hty : tyT a b = .boolean) (hx : x = 0 ∨ x = 1) (h : zGp P l d mc ms f (zsI M c0 b x) (pc + 3) lo st Q) : zGp P l d mc ms f M pc lo (.int x :: .ref c0 :: st) Q :=
  zs_putP (M' := zsI M c0 b x) hd hf hk hfin hty (fun _ => by rcases hx with rfl | rfl <;> rfl) (fun _ => by rcases hx with rfl | rfl <;> rfl) rfl rfl (fun _ _ => rfl) (fun y hy => zu_row _ x hy) (fun _ _ => rfl) (by unfold zfv; rw [hty]; show Value.int (zu _ c0 b x c0 b) = _; rw [zu_same]) (fun k hk => by unfold zfv; show (match tyT a k with | .long => _ | .object _ => _ | .array _ => _ | _ => Value.int (zu _ c0 b x c0 k)) = _; rw [zu_ne _ x (Or.inr hk)]; rfl) h
theorem zs_putJP {i a b c0 : Nat} {x : Int64} (hd : decode f.2.1 pc = .ok (.putfield i, 3)) (hf : zfd f.1 i = some (a, b)) (hk : zisk M c0 0 a = true) (hfin : (!zfin a b) = true) (hty : tyT a b = .long) (h : zGp P l d mc ms f (zsJ M c0 b x) (pc + 3) lo st Q) : zGp P l d mc ms f M pc lo (.long x :: .ref c0 :: st) Q :=
  zs_putP (M' := zsJ M c0 b x) hd hf hk hfin hty (fun _ => rfl) (fun _ => rfl) rfl rfl (fun _ _ => rfl) (fun _ _ => rfl) (fun y hy => zu_row _ x hy) (by unfold zfv; rw [hty]; show Value.long (zu _ c0 b x c0 b) = _; rw [zu_same]) (fun k hk => by unfold zfv; show (match tyT a k with | .long => Value.long (zu _ c0 b x c0 k) | .object _ => _ | .array _ => _ | _ => _) = _; rw [zu_ne _ x (Or.inr hk)]; rfl) h
theorem zs_putRP {i a b c0 x : Nat} {ty : FieldType} (hd : decode f.2.1 pc = .ok (.putfield i, 3)) (hf : zfd f.1 i = some (a, b)) (hk : zisk M c0 0 a = true) (hfin : zfin a b = true) (hini : f.2.2.2.2.2 = true) (hoa : f.1 = a) (hty : tyT a b = ty) (hr : (∃ n, ty = .object n) ∨ ∃ t, ty = .array t) (h : zGp P l d mc ms f (zsR M c0 b (x + 1)) (pc + 3) lo st Q) : zGp P l d mc ms f M pc lo (.ref x :: .ref c0 :: st) Q := by
  refine zs_putFP (M' := zsR M c0 b (x + 1)) hd hf hk hfin hini hoa hty (fun _ => ?_) (fun _ => ?_) rfl rfl (fun y hy => zu_row _ (x + 1) hy) (fun _ _ => rfl) (fun _ _ => rfl) ?_ (fun k hk => ?_) h
  · rcases hr with ⟨n, rfl⟩ | ⟨t, rfl⟩ <;> rfl
  · rcases hr with ⟨n, rfl⟩ | ⟨t, rfl⟩ <;> rfl
  · unfold zfv
    rw [hty]
    rcases hr with ⟨n, rfl⟩ | ⟨t, rfl⟩
    · show zr (zu _ c0 b (x + 1) c0 b) = _; rw [zu_same]; rfl
    · show zr (zu _ c0 b (x + 1) c0 b) = _; rw [zu_same]; rfl
  · unfold zfv
    show (match tyT a k with | .long => _ | .object _ => zr (zu _ c0 b (x + 1) c0 k) | .array _ => zr (zu _ c0 b (x + 1) c0 k) | _ => _) = _
    rw [zu_ne _ (x + 1) (Or.inr hk)]; rfl
theorem zs_ialdP {c0 : Nat} {i : Int32} (hd : decode f.2.1 pc = .ok (.iaload, 1)) (hk : ((M.2.1 c0).1 == 1) = true) (hi : vp_in i (M.2.1 c0).2) (h : zGp P l d mc ms f M (pc + 1) lo (.int (M.2.2.2.1 c0 i.toNatClampNeg) :: st) Q) : zGp P l d mc ms f M pc lo (.int i :: .ref c0 :: st) Q := by
  intro g p e R s m args below meth c H locs cells slots ls hPP hC a2 a3 a4 a5 a6 a7 a8
  have hk := zkk hk
  obtain ⟨-, had, hce⟩ := a7.cell c0 hk (by decide)
  unfold zcell at hce
  rw [hk] at hce
  show W p l e R s m args below meth c H locs cells slots _ (F0 m pc ls (.int i :: .ref (zad g c0) :: st.map (zc g)))
  rw [had]
  exact W.iald (v := .int (M.2.2.2.1 c0 i.toNatClampNeg)) hC.1 hC.2.1 hce ((hC.2.2.2.2.2.2.2.1.1.2 0 _ rfl).1 _ _) (fun q => by cases q) (by rw [arrV_size]; exact hi) (by rw [arrV_read _ _ (Nat.not_le.mp fun q => hi (Or.inr q))]) rfl rfl hd
    (h g p e R s m args below meth c H locs cells slots ls hPP hC a2 a3 a4 a5 a6 a7 a8)
theorem zs_baldP {c0 : Nat} {i : Int32} (hd : decode f.2.1 pc = .ok (.baload, 1)) (hk : ((M.2.1 c0).1 == 2) = true) (hi : vp_in i (M.2.1 c0).2) (h : zGp P l d mc ms f M (pc + 1) lo (.int (M.2.2.2.1 c0 i.toNatClampNeg) :: st) Q) : zGp P l d mc ms f M pc lo (.int i :: .ref c0 :: st) Q := by
  intro g p e R s m args below meth c H locs cells slots ls hPP hC a2 a3 a4 a5 a6 a7 a8
  have hk := zkk hk
  obtain ⟨-, had, hce⟩ := a7.cell c0 hk (by decide)
  unfold zcell at hce
  rw [hk] at hce
  show W p l e R s m args below meth c H locs cells slots _ (F0 m pc ls (.int i :: .ref (zad g c0) :: st.map (zc g)))
  rw [had]
  exact W.bald (v := .int (M.2.2.2.1 c0 i.toNatClampNeg)) hC.1 hC.2.1 hce ((hC.2.2.2.2.2.2.2.1.1.2 1 _ rfl).1 _ _) (fun q => by cases q) (by rw [arrV_size]; exact hi) (by rw [arrV_read _ _ (Nat.not_le.mp fun q => hi (Or.inr q))]) rfl rfl hd
    (h g p e R s m args below meth c H locs cells slots ls hPP hC a2 a3 a4 a5 a6 a7 a8)
theorem zs_laldP {c0 : Nat} {i : Int32} (hd : decode f.2.1 pc = .ok (.laload, 1)) (hk : ((M.2.1 c0).1 == 3) = true) (hi : vp_in i (M.2.1 c0).2) (h : zGp P l d mc ms f M (pc + 1) lo (.long (M.2.2.2.2 c0 i.toNatClampNeg) :: st) Q) : zGp P l d mc ms f M pc lo (.int i :: .ref c0 :: st) Q := by
  intro g p e R s m args below meth c H locs cells slots ls hPP hC a2 a3 a4 a5 a6 a7 a8
  have hk := zkk hk
  obtain ⟨-, had, hce⟩ := a7.cell c0 hk (by decide)
  unfold zcell at hce
  rw [hk] at hce
  show W p l e R s m args below meth c H locs cells slots _ (F0 m pc ls (.int i :: .ref (zad g c0) :: st.map (zc g)))
  rw [had]
  exact W.lald (v := .long (M.2.2.2.2 c0 i.toNatClampNeg)) hC.1 hC.2.1 hce ((hC.2.2.2.2.2.2.2.1.1.2 2 _ rfl).1 _ _) (fun q => by cases q) (by rw [arrV_size]; exact hi) (by rw [arrV_read _ _ (Nat.not_le.mp fun q => hi (Or.inr q))]) rfl rfl hd
    (h g p e R s m args below meth c H locs cells slots ls hPP hC a2 a3 a4 a5 a6 a7 a8)
theorem zs_iastP {c0 : Nat} {i x : Int32} (hd : decode f.2.1 pc = .ok (.iastore, 1)) (hk : ((M.2.1 c0).1 == 1) = true) (hi : vp_in i (M.2.1 c0).2) (h : zGp P l d mc ms f (zsI M c0 i.toNatClampNeg x) (pc + 1) lo st Q) : zGp P l d mc ms f M pc lo (.int x :: .int i :: .ref c0 :: st) Q := by
  intro g p e R s m args below meth c H locs cells slots ls hPP hC a2 a3 a4 a5 a6 a7 a8
  have hk := zkk hk
  obtain ⟨hlt, had, hce⟩ := a7.cell c0 hk (by decide)
  unfold zcell at hce
  rw [hk] at hce
  show W p l e R s m args below meth c H locs cells slots _ (F0 m pc ls (.int x :: .int i :: .ref (zad g c0) :: st.map (zc g)))
  rw [had]
  refine W.iast hC.1 hC.2.1 hce ((hC.2.2.2.2.2.2.2.1.1.2 0 _ rfl).1 _ _) (fun q => by cases q) (by rw [arrV_size]; exact hi) rfl rfl hd fun H1 e1 z oq => ?_
  refine h g p e R s m args below meth c H1 _ cells slots ls hPP hC a2 a3 a4 a5 (zlocs a6) (a7.put c0 rfl rfl z oq hlt (fun _ _ => rfl) (fun y hy => zu_row _ x hy) (fun _ _ => rfl) ?_) a8
  unfold zcell
  show (match M.2.1 c0 with | (0, ci) => _ | (1, n) => H1[g.2.2.1 + c0]? = some (arrV g.2.1.1 n (fun j => .int (zu M.2.2.2.1 c0 i.toNatClampNeg x c0 j))) | (2, n) => _ | (3, n) => _ | _ => _)
  rw [hk]
  show H1[g.2.2.1 + c0]? = some (arrV g.2.1.1 _ (fun j => .int (zu M.2.2.2.1 c0 i.toNatClampNeg x c0 j)))
  rw [e1, arrV_store, zu_arr _ _ _ _ Value.int]
theorem zs_bastP {c0 : Nat} {i x : Int32} (hd : decode f.2.1 pc = .ok (.bastore, 1)) (hk : ((M.2.1 c0).1 == 2) = true) (hi : vp_in i (M.2.1 c0).2) (h : zGp P l d mc ms f (zsI M c0 i.toNatClampNeg x.toInt8.toInt32) (pc + 1) lo st Q) : zGp P l d mc ms f M pc lo (.int x :: .int i :: .ref c0 :: st) Q := by
  intro g p e R s m args below meth c H locs cells slots ls hPP hC a2 a3 a4 a5 a6 a7 a8
  have hk := zkk hk
  obtain ⟨hlt, had, hce⟩ := a7.cell c0 hk (by decide)
  unfold zcell at hce
  rw [hk] at hce
  show W p l e R s m args below meth c H locs cells slots _ (F0 m pc ls (.int x :: .int i :: .ref (zad g c0) :: st.map (zc g)))
  rw [had]
  refine W.bast hC.1 hC.2.1 hce ((hC.2.2.2.2.2.2.2.1.1.2 1 _ rfl).1 _ _) (fun q => by cases q) (by rw [arrV_size]; exact hi) rfl rfl hd fun H1 e1 z oq => ?_
  refine h g p e R s m args below meth c H1 _ cells slots ls hPP hC a2 a3 a4 a5 (zlocs a6) (a7.put c0 rfl rfl z oq hlt (fun _ _ => rfl) (fun y hy => zu_row _ _ hy) (fun _ _ => rfl) ?_) a8
  unfold zcell
  show (match M.2.1 c0 with | (0, ci) => _ | (1, n) => _ | (2, n) => H1[g.2.2.1 + c0]? = some (arrV g.2.1.2.1 n (fun j => .int (zu M.2.2.2.1 c0 i.toNatClampNeg x.toInt8.toInt32 c0 j))) | (3, n) => _ | _ => _)
  rw [hk]
  show H1[g.2.2.1 + c0]? = some (arrV g.2.1.2.1 _ (fun j => .int (zu M.2.2.2.1 c0 i.toNatClampNeg x.toInt8.toInt32 c0 j)))
  rw [e1, arrV_store, zu_arr _ _ _ _ Value.int]
  rfl
theorem zs_lastP {c0 : Nat} {i : Int32} {x : Int64} (hd : decode f.2.1 pc = .ok (.lastore, 1)) (hk : ((M.2.1 c0).1 == 3) = true) (hi : vp_in i (M.2.1 c0).2) (h : zGp P l d mc ms f (zsJ M c0 i.toNatClampNeg x) (pc + 1) lo st Q) : zGp P l d mc ms f M pc lo (.long x :: .int i :: .ref c0 :: st) Q := by
  intro g p e R s m args below meth c H locs cells slots ls hPP hC a2 a3 a4 a5 a6 a7 a8
  have hk := zkk hk
  obtain ⟨hlt, had, hce⟩ := a7.cell c0 hk (by decide)
  unfold zcell at hce
  rw [hk] at hce
  show W p l e R s m args below meth c H locs cells slots _ (F0 m pc ls (.long x :: .int i :: .ref (zad g c0) :: st.map (zc g)))
  rw [had]
  refine W.last hC.1 hC.2.1 hce ((hC.2.2.2.2.2.2.2.1.1.2 2 _ rfl).1 _ _) (fun q => by cases q) (by rw [arrV_size]; exact hi) rfl rfl hd fun H1 e1 z oq => ?_
  refine h g p e R s m args below meth c H1 _ cells slots ls hPP hC a2 a3 a4 a5 (zlocs a6) (a7.put c0 rfl rfl z oq hlt (fun _ _ => rfl) (fun _ _ => rfl) (fun y hy => zu_row _ x hy) ?_) a8
  unfold zcell
  show (match M.2.1 c0 with | (0, ci) => _ | (1, n) => _ | (2, n) => _ | (3, n) => H1[g.2.2.1 + c0]? = some (arrV g.2.1.2.2 n (fun j => .long (zu M.2.2.2.2 c0 i.toNatClampNeg x c0 j))) | _ => _)
  rw [hk]
  show H1[g.2.2.1 + c0]? = some (arrV g.2.1.2.2 _ (fun j => .long (zu M.2.2.2.2 c0 i.toNatClampNeg x c0 j)))
  rw [e1, arrV_store, zu_arr _ _ _ _ Value.long]
theorem zs_alenP {c0 : Nat} (hd : decode f.2.1 pc = .ok (.arraylength, 1)) (hk : ((M.2.1 c0).1 == 1 || (M.2.1 c0).1 == 2) = true) (h : zGp P l d mc ms f M (pc + 1) lo (.int (Int32.ofNat (M.2.1 c0).2) :: st) Q) : zGp P l d mc ms f M pc lo (.ref c0 :: st) Q := by
  intro g p e R s m args below meth c H locs cells slots ls hPP hC a2 a3 a4 a5 a6 a7 a8
  simp only [Bool.or_eq_true] at hk
  rcases hk with hk | hk
  · have hk := zkk hk
    obtain ⟨-, had, hce⟩ := a7.cell c0 hk (by decide)
    unfold zcell at hce
    rw [hk] at hce
    show W p l e R s m args below meth c H locs cells slots _ (F0 m pc ls (.ref (zad g c0) :: st.map (zc g)))
    rw [had]
    exact W.alen (n := Int32.ofNat (M.2.1 c0).2) hC.1 hC.2.1 hce ((hC.2.2.2.2.2.2.2.1.1.2 0 _ rfl).1 _ _) (by rw [arrV_size] <;> rfl) rfl rfl hd
      (h g p e R s m args below meth c H locs cells slots ls hPP hC a2 a3 a4 a5 a6 a7 a8)
  · have hk := zkk hk
    obtain ⟨-, had, hce⟩ := a7.cell c0 hk (by decide)
    unfold zcell at hce
    rw [hk] at hce
    show W p l e R s m args below meth c H locs cells slots _ (F0 m pc ls (.ref (zad g c0) :: st.map (zc g)))
    rw [had]
    exact W.alen (n := Int32.ofNat (M.2.1 c0).2) hC.1 hC.2.1 hce ((hC.2.2.2.2.2.2.2.1.1.2 1 _ rfl).1 _ _) (by rw [arrV_size] <;> rfl) rfl rfl hd
      (h g p e R s m args below meth c H locs cells slots ls hPP hC a2 a3 a4 a5 a6 a7 a8)
theorem zs_iretP {x : Int32} (hd : decode f.2.1 pc = .ok (.ireturn, 1)) (hr : f.2.2.1 = some .int) (h : Q (.inl (some (.int x))) M) : zGp P l d mc ms f M pc lo [.int x] Q := by
  intro g p e R s m args below meth c H locs cells slots ls hPP hC a2 a3 a4 a5 a6 a7 a8
  refine vx_ret (W.widen (k := R.cells) (n := R.slots) (by omega) (by omega) ?_)
  exact W.iret hC.1 hC.2.1 (hC.2.2.1.trans hr) (fun t ht _ => ⟨some (.int x), M, rfl, h, by rw [ht]; exact a7⟩) a6 hd (hlocks := hC.2.2.2.2.2.1)
theorem zs_zretP {x : Int32} (hd : decode f.2.1 pc = .ok (.ireturn, 1)) (hr : f.2.2.1 = some .boolean) (hx : x = 0 ∨ x = 1) (h : Q (.inl (some (.int x))) M) : zGp P l d mc ms f M pc lo [.int x] Q := by
  intro g p e R s m args below meth c H locs cells slots ls hPP hC a2 a3 a4 a5 a6 a7 a8
  refine vx_ret (W.widen (k := R.cells) (n := R.slots) (by omega) (by omega) ?_)
  exact W.zret hC.1 hC.2.1 (hC.2.2.1.trans hr) (by rcases hx with rfl | rfl <;> rfl) (fun t ht _ => ⟨some (.int x), M, rfl, h, by rw [ht]; exact a7⟩) a6 hd (hlocks := hC.2.2.2.2.2.1)
theorem zs_lretP {x : Int64} (hd : decode f.2.1 pc = .ok (.lreturn, 1)) (hr : f.2.2.1 = some .long) (h : Q (.inl (some (.long x))) M) : zGp P l d mc ms f M pc lo [.long x] Q := by
  intro g p e R s m args below meth c H locs cells slots ls hPP hC a2 a3 a4 a5 a6 a7 a8
  refine vx_ret (W.widen (k := R.cells) (n := R.slots) (by omega) (by omega) ?_)
  exact W.lret hC.1 hC.2.1 (hC.2.2.1.trans hr) (fun t ht _ => ⟨some (.long x), M, rfl, h, by rw [ht]; exact a7⟩) a6 hd (hlocks := hC.2.2.2.2.2.1)
theorem zs_vretP (hd : decode f.2.1 pc = .ok (.return_, 1)) (hr : f.2.2.1 = none) (h : Q (.inl none) M) : zGp P l d mc ms f M pc lo [] Q := by
  intro g p e R s m args below meth c H locs cells slots ls hPP hC a2 a3 a4 a5 a6 a7 a8
  refine vx_ret (W.widen (k := R.cells) (n := R.slots) (by omega) (by omega) ?_)
  exact W.vret hC.1 hC.2.1 (hC.2.2.1.trans hr) (fun t ht _ => ⟨none, M, rfl, h, by rw [ht]; exact a7⟩) a6 hd (hlocks := hC.2.2.2.2.2.1)
theorem zs_objinitP {i c0 : Nat} (hd : decode f.2.1 pc = .ok (.invokespecial i, 3)) (hi : zoi f.1 i = true) (hq : (Nat.ble 1 d && Nat.ble ((st.map Value.category).sum) 8) = true) (h : zGp P l d mc ms f M (pc + 3) lo st Q) : zGp P l d mc ms f M pc lo (.ref c0 :: st) Q := by
  intro g p e R s m args below meth c H locs cells slots ls hPP hC a2 a3 a4 a5 a6 a7 a8
  simp only [Bool.and_eq_true, Nat.ble_eq] at hq
  have hs : ((st.map (zc g)).map fun v => v.category).sum ≤ 8 := by
    rw [List.map_map]
    have e1 : ((fun v => v.category) ∘ zc g) = Value.category := funext fun v => zc_cat g v
    rw [e1]; exact hq.2
  refine W.objInit hC.1 hC.2.1 hC.2.2.2.2.1 (hC.2.2.2.2.2.2.1 _ (zoi_ok hi)) (hC.2.2.2.2.2.2.1 _ zob_i) (hC.2.2.2.2.2.2.1 _ zob_c) rfl (a8.1.trans hC.2.2.2.1.symm) (a := zad g c0) (rest := st.map (zc g)) rfl hd (by omega) ?_
    (h g p e R s m args below meth c H locs cells slots ls hPP hC a2 a3 a4 a5 a6 a7 a8)
  show 2 * 0 + _ + 12 ≤ R.locals
  omega
theorem zs_switchP {df hi : Int} {offs : Array Int} {len : Nat} {x : Int32} (hd : decode f.2.1 pc = .ok (.tableswitch df 0 hi offs, len)) (hg : (zgo pc df && offs.toList.all (zgo pc) && decide (hi = (offs.size : Int) - 1)) = true)
    (h : (∀ k : Nat, k < (offs.toList.map (ztg pc)).length → x = Int32.ofNat k → zGp P l d mc ms f M (zpick (offs.toList.map (ztg pc)) k (ztg pc df)) lo st Q) ∧ ((x < 0 ∨ Int32.ofNat (offs.toList.map (ztg pc)).length ≤ x) → zGp P l d mc ms f M (ztg pc df) lo st Q)) (hsz : offs.size < 1000) : zGp P l d mc ms f M pc lo (.int x :: st) Q := by
  intro g p e R s m args below meth c H locs cells slots ls hPP hC a2 a3 a4 a5 a6 a7 a8
  simp only [Bool.and_eq_true, decide_eq_true_eq] at hg
  obtain ⟨⟨hg1, hg2⟩, hg3⟩ := hg
  have hlen : (offs.toList.map (ztg pc)).length = offs.size := by simp
  rw [hlen] at h
  by_cases hx : x.toInt < 0 ∨ hi < x.toInt
  · refine lv_tableOut hC.1 hC.2.1 hd hx (ztg_ok hg1) (h.2 ?_ g p e R s m args below meth c H locs cells slots ls hPP hC a2 a3 a4 a5 a6 a7 a8)
    rcases hx with hx | hx
    · left; rw [Int32.lt_iff_toInt_lt]; exact hx
    · right; rw [Int32.le_iff_toInt_le, show (Int32.ofNat offs.size).toInt = (offs.size : Int) from nI_toInt (by omega)]; omega
  · have h1 : ¬ x.toInt < 0 := fun q => hx (Or.inl q)
    have h2 : ¬ hi < x.toInt := fun q => hx (Or.inr q)
    have hk : (x.toInt - 0).toNat < offs.size := by omega
    have hx0 : x = Int32.ofNat (x.toInt - 0).toNat := by
      apply Int32.toInt_inj.mp
      rw [show (Int32.ofNat (x.toInt - 0).toNat).toInt = (((x.toInt - 0).toNat : Nat) : Int) from nI_toInt (by omega)]
      omega
    have ho : offs[(x.toInt - 0).toNat]? = some offs[(x.toInt - 0).toNat] := Array.getElem?_eq_getElem hk
    have hgo : zgo pc offs[(x.toInt - 0).toNat] = true := List.all_eq_true.mp hg2 _ (by rw [Array.mem_toList_iff]; exact Array.getElem_mem hk)
    have hp : ∀ (L : List Int) (k dd : Nat) (v : Int), L[k]? = some v → zpick (L.map (ztg pc)) k dd = ztg pc v := by
      intro L
      induction L with
      | nil => intro k dd v hv; cases hv
      | cons a r ih =>
        intro k dd v hv
        cases k with
        | zero => cases hv; rfl
        | succ k => exact ih k dd v hv
    have hpk := hp offs.toList (x.toInt - 0).toNat (ztg pc df) offs[(x.toInt - 0).toNat] (by rw [Array.getElem?_toList]; exact ho)
    refine lv_tableIn hC.1 hC.2.1 hd h1 h2 ho (ztg_ok hgo) ?_
    rw [← hpk]
    exact h.1 _ hk hx0 g p e R s m args below meth c H locs cells slots ls hPP hC a2 a3 a4 a5 a6 a7 a8
theorem zs_newP {i a b : Nat} (hd : decode f.2.1 pc = .ok (.new i, 3)) (hf : znc f.1 i = some (a, b)) (hq : (Nat.ble 1 mc && Nat.ble b ms && Nat.blt (M.1 + 1) 100000) = true)
    (h : zGp P l d (mc - 1) (ms - b) f (znew M (0, a)) (pc + 3) lo (.ref M.1 :: st) Q) : zGp P l d mc ms f M pc lo st Q := by
  intro g p e R s m args below meth c H locs cells slots ls hPP hC a2 a3 a4 a5 a6 a7 a8
  simp only [Bool.and_eq_true, Nat.ble_eq, Nat.blt_eq] at hq
  obtain ⟨⟨hq1, hq2⟩, hq3⟩ := hq
  obtain ⟨q, hq, hb, hl1, hl2, hl3⟩ := znc_ok hf
  obtain ⟨hx, hcb, hr, hml, hown, hlocks, hts, hw, ht, hin⟩ := id hC
  have hKn := hw.1.1 a q hq
  refine W.newcK (n := q.2.2) hx hcb hown (hts _ hl1) (hts _ hl2) (hts _ hl3) rfl hd (by omega) (by omega) hKn.2.1 rfl fun H1 kC hkC e1 z1 o1 => ?_
  have hsz := a7.1
  have had : zad g M.1 = H.size := by
    unfold zad
    rw [if_pos (by omega)]; omega
  have hst : (Value.ref H.size :: st.map (zc g)) = ((.ref M.1 :: st : List Value).map (zc g)) := by
    show _ = Value.ref (zad g M.1) :: _
    rw [had]
  show W p l e R s m args below meth c H1 locs _ _ _ (F0 m (pc + 3) ls (Value.ref H.size :: st.map (zc g)))
  rw [hst]
  refine h g p e R s m args below meth c H1 locs _ _ ls hPP hC a2 a3 (by omega) (by rw [hb]; omega) a6 (a7.new rfl (fun _ => by omega) (fun x hx => znew_o M _ hx) z1 (fun q hq => o1 q hq) (fun x hx => znew_r hx) (fun x hx => znew_i hx) (fun x hx => znew_j hx) (fun _ => ?_)) a8
  unfold zcell
  rw [znew_k]
  refine ⟨q, hq, ?_⟩
  rw [← hsz]
  refine (u_born (tyT a) hts (z_lays a q hq) hKn hkC e1 (z_ty a q hq)).to (fun k hk => ?_)
  refine zdef (tyT a k) g _ ?_ (zprim_ok (zprim_all a q hq k hk))
  unfold zfv
  simp only [znew, beq_self_eq_true, cond_true]
  rcases zprim_ok (zprim_all a q hq k hk) with h | h | h | ⟨n, h⟩ | ⟨t, h⟩ <;> rw [h] <;> rfl
theorem znewaP {at0 : ArrayType} {a : Nat} {n : Int32} {ty : FieldType} {cA : zG → ClassId} (hd : decode f.2.1 pc = .ok (.newarray at0, 2)) (hty : newarray.typeOf at0 = ty) (hq : (Nat.ble 1 mc && Nat.ble n.toNatClampNeg ms && Nat.ble n.toNatClampNeg 1000000 && decide (¬ n < 0) && Nat.blt (M.1 + 1) 100000) = true) (hw0 : Cond.arrayClass ty ∈ zws) (hcb : componentBytes ty ≤ 8)
    (hca : ∀ g U, zW l g U → U.vm.findClass ("[" ++ ty.toString) = some (cA g))
    (hce : ∀ g H1, H1[g.2.2.1 + M.1]? = some (arrV (cA g) n.toNatClampNeg (fun _ => defaultValue ty)) → zcell g (znew M (a, n.toNatClampNeg)) H1 M.1)
    (h : zGp P l d (mc - 1) (ms - n.toNatClampNeg) f (znew M (a, n.toNatClampNeg)) (pc + 2) lo (.ref M.1 :: st) Q) : zGp P l d mc ms f M pc lo (.int n :: st) Q := by
  intro g p e R s m args below meth c H locs cells slots ls hPP hC a2 a3 a4 a5 a6 a7 a8
  simp only [Bool.and_eq_true, Nat.ble_eq, Nat.blt_eq, decide_eq_true_eq] at hq
  obtain ⟨⟨⟨⟨q1, q2⟩, q3⟩, q4⟩, q5⟩ := hq
  obtain ⟨hx, hcc, hr, hml, hown, hlocks, hts, hw, ht, hin⟩ := id hC
  subst hty
  have hbytes : n.toNatClampNeg * componentBytes (newarray.typeOf at0) ≤ 536870912 := Nat.le_trans (Nat.mul_le_mul q3 hcb) (by decide)
  refine va_newaK hx hcc (hts _ hw0) rfl hd rfl q4 rfl hbytes (by omega) (by omega) rfl fun H1 cB e1 z1 o1 hAr hNm => ?_
  have hcA : cB = cA g := Option.some.inj (hNm.symm.trans (hca g s hw))
  subst hcA
  have hsz := a7.1
  have had : zad g M.1 = H.size := by
    unfold zad
    rw [if_pos (by omega)]; omega
  have hst : (Value.ref H.size :: st.map (zc g)) = ((.ref M.1 :: st : List Value).map (zc g)) := by
    show _ = Value.ref (zad g M.1) :: _
    rw [had]
  show W p l e R s m args below meth c H1 locs _ _ _ (F0 m (pc + 2) ls (Value.ref H.size :: st.map (zc g)))
  rw [hst]
  exact h g p e R s m args below meth c H1 locs _ _ ls hPP hC a2 a3 (by omega) (by omega) a6 (a7.new rfl (fun _ => by omega) (fun x hx => znew_o M _ hx) z1 (fun q hq => o1 q hq) (fun x hx => znew_r hx) (fun x hx => znew_i hx) (fun x hx => znew_j hx) (fun _ => hce g H1 (by rw [← hsz]; exact e1))) a8
theorem zs_newIP {n : Int32} (hd : decode f.2.1 pc = .ok (.newarray .int, 2)) (hq : (Nat.ble 1 mc && Nat.ble n.toNatClampNeg ms && Nat.ble n.toNatClampNeg 1000000 && decide (¬ n < 0) && Nat.blt (M.1 + 1) 100000) = true)
    (h : zGp P l d (mc - 1) (ms - n.toNatClampNeg) f (znew M (1, n.toNatClampNeg)) (pc + 2) lo (.ref M.1 :: st) Q) : zGp P l d mc ms f M pc lo (.int n :: st) Q :=
  znewaP (a := 1) (cA := fun g => g.2.1.1) hd rfl hq zar_i (by decide) (fun g U hw => (hw.1.2 0 _ rfl).2) (fun g H1 e => by
    unfold zcell
    rw [znew_k]
    simp only [znew, beq_self_eq_true, cond_true]
    exact e) h
theorem zs_newBP {n : Int32} (hd : decode f.2.1 pc = .ok (.newarray .byte, 2)) (hq : (Nat.ble 1 mc && Nat.ble n.toNatClampNeg ms && Nat.ble n.toNatClampNeg 1000000 && decide (¬ n < 0) && Nat.blt (M.1 + 1) 100000) = true)
    (h : zGp P l d (mc - 1) (ms - n.toNatClampNeg) f (znew M (2, n.toNatClampNeg)) (pc + 2) lo (.ref M.1 :: st) Q) : zGp P l d mc ms f M pc lo (.int n :: st) Q :=
  znewaP (a := 2) (cA := fun g => g.2.1.2.1) hd rfl hq zar_b (by decide) (fun g U hw => (hw.1.2 1 _ rfl).2) (fun g H1 e => by
    unfold zcell
    rw [znew_k]
    simp only [znew, beq_self_eq_true, cond_true]
    exact e) h
theorem zs_newLP {n : Int32} (hd : decode f.2.1 pc = .ok (.newarray .long, 2)) (hq : (Nat.ble 1 mc && Nat.ble n.toNatClampNeg ms && Nat.ble n.toNatClampNeg 1000000 && decide (¬ n < 0) && Nat.blt (M.1 + 1) 100000) = true)
    (h : zGp P l d (mc - 1) (ms - n.toNatClampNeg) f (znew M (3, n.toNatClampNeg)) (pc + 2) lo (.ref M.1 :: st) Q) : zGp P l d mc ms f M pc lo (.int n :: st) Q :=
  znewaP (a := 3) (cA := fun g => g.2.1.2.2) hd rfl hq zar_l (by decide) (fun g U hw => (hw.1.2 2 _ rfl).2) (fun g H1 e => by
    unfold zcell
    rw [znew_k]
    simp only [znew, beq_self_eq_true, cond_true]
    exact e) h
set_option maxHeartbeats 4000000 in
/-- ONE STEP -/
theorem z_stepP {e : zI} (he : zpre f.1 f.2.1 pc = some e) (h : zst d f e mc ms M lo st (fun mc ms M pc lo st => zGp P l d mc ms f M pc lo st Q) Q) : zGp P l d mc ms f M pc lo st Q := by
  unfold zpre at he
  split at he
  case h_1 n hd => cases he; exact zs_iconstP hd h
  case h_2 n hd => cases he; exact zs_bipushP hd h
  case h_3 n hd => cases he; exact zs_sipushP hd h
  case h_4 i hd =>
    cases hv : zcv f.1 i with
    | none => rw [hv] at he; cases he
    | some v => rw [hv] at he; cases he; exact zs_ldcP hv hd h
  case h_5 i hd =>
    cases hv : zcv f.1 i with
    | none => rw [hv] at he; cases he
    | some v => rw [hv] at he; cases he; exact zs_ldcwP hv hd h
  case h_6 n hd => cases he; exact zs_lconstP hd h
  case h_7 i hd =>
    cases hv : (f.1 == 12 && i == 177) with
    | false => rw [hv] at he; cases he
    | true =>
      rw [hv] at he; cases he
      simp only [Bool.and_eq_true, beq_iff_eq] at hv
      obtain ⟨h1, rfl⟩ := hv
      exact zs_ldc2P h1 hd h
  case h_8 i hd =>
    cases he
    change (match zlk lo i with | some (.int x) => _ | _ => False) at h
    split at h
    · exact zs_iloadP (by assumption) hd h
    · exact h.elim
  case h_9 k hd =>
    cases he
    change (match zlk lo k.val with | some (.int x) => _ | _ => False) at h
    split at h
    · exact zs_iload_nP (by assumption) hd h
    · exact h.elim
  case h_10 i hd =>
    cases he
    change (match zlk lo i with | some (.long x) => _ | _ => False) at h
    split at h
    · exact zs_lloadP (by assumption) hd h
    · exact h.elim
  case h_11 i hd =>
    cases he
    change (match zlk lo i with | some (.ref x) => _ | _ => False) at h
    split at h
    · exact zs_aloadP (by assumption) hd h
    · exact h.elim
  case h_12 k hd =>
    cases he
    change (match zlk lo k.val with | some (.ref x) => _ | _ => False) at h
    split at h
    · exact zs_aload_nP (by assumption) hd h
    · exact h.elim
  case h_13 i hd => cases he; obtain ⟨x, r, rfl, h⟩ := t1i_ok h; obtain ⟨h1, h⟩ := zif_ok h; exact zs_istoreP hd h1 h
  case h_14 i hd => cases he; obtain ⟨x, r, rfl, h⟩ := t1i_ok h; obtain ⟨h1, h⟩ := zif_ok h; exact zs_istore_nP hd h1 h
  case h_15 i hd => cases he; obtain ⟨x, r, rfl, h⟩ := t1l_ok h; obtain ⟨h1, h⟩ := zif_ok h; exact zs_lstoreP hd h1 h
  case h_16 i hd => cases he; obtain ⟨x, r, rfl, h⟩ := t1r_ok h; obtain ⟨h1, h⟩ := zif_ok h; exact zs_astoreP hd h1 h
  case h_17 i hd => cases he; obtain ⟨x, r, rfl, h⟩ := t1r_ok h; obtain ⟨h1, h⟩ := zif_ok h; exact zs_astore_nP hd h1 h
  case h_18 i n hd =>
    cases he
    change (match zlk lo i with | some (.int y) => _ | _ => False) at h
    split at h
    · obtain ⟨h1, h⟩ := zif_ok h; exact zs_iincP hd (by assumption) h1 h
    · exact h.elim
  case h_19 hd => cases he; obtain ⟨x, y, r, rfl, h⟩ := t2i_ok h; exact zs_iaddP hd h
  case h_20 hd => cases he; obtain ⟨x, y, r, rfl, h⟩ := t2i_ok h; exact zs_isubP hd h
  case h_21 hd => cases he; obtain ⟨x, y, r, rfl, h⟩ := t2i_ok h; exact zs_imulP hd h
  case h_22 hd => cases he; obtain ⟨x, y, r, rfl, h⟩ := t2i_ok h; exact zs_iandP hd h
  case h_23 hd => cases he; obtain ⟨x, y, r, rfl, h⟩ := t2i_ok h; exact zs_iorP hd h
  case h_24 hd => cases he; obtain ⟨x, y, r, rfl, h⟩ := t2i_ok h; exact zs_ixorP hd h
  case h_25 hd => cases he; obtain ⟨x, y, r, rfl, h⟩ := t2i_ok h; exact zs_ishlP hd h
  case h_26 hd => cases he; obtain ⟨x, y, r, rfl, h⟩ := t2i_ok h; exact zs_ishrP hd h
  case h_27 hd => cases he; obtain ⟨x, y, r, rfl, h⟩ := t2i_ok h; exact zs_iushrP hd h
  case h_28 hd => cases he; obtain ⟨x, y, r, rfl, h⟩ := t2i_ok h; exact zs_idivP hd h.1 h.2
  case h_29 hd => cases he; obtain ⟨x, y, r, rfl, h⟩ := t2i_ok h; exact zs_iremP hd h.1 h.2
  case h_30 hd => cases he; obtain ⟨x, r, rfl, h⟩ := t1i_ok h; exact zs_i2lP hd h
  case h_31 hd => cases he; obtain ⟨x, r, rfl, h⟩ := t1i_ok h; exact zs_i2bP hd h
  case h_32 hd => cases he; obtain ⟨x, y, r, rfl, h⟩ := t2l_ok h; exact zs_lorP hd h
  case h_33 hd => cases he; obtain ⟨x, y, r, rfl, h⟩ := t2l_ok h; exact zs_lsubP hd h
  case h_34 hd => cases he; obtain ⟨x, y, r, rfl, h⟩ := t2l_ok h; exact zs_lcmpP hd h
  case h_35 hd => cases he; obtain ⟨x, y, r, rfl, h⟩ := til_ok h; exact zs_lshlP hd h
  case h_36 hd =>
    cases he
    rcases t1d_ok (st := st) (k := fun v r => zGp P l d mc ms f M (pc + 1) lo (v :: v :: r) Q) h with ⟨x, r, rfl, h⟩ | ⟨x, r, rfl, h⟩
    · exact zs_dupiP hd h
    · exact zs_duprP hd h
  case h_37 hd => cases he; obtain ⟨x, y, r, rfl, h⟩ := tir_ok h; exact zs_dup2P hd h
  case h_38 hd => cases he; obtain ⟨x, r, rfl, h⟩ := t1i_ok h; exact zs_popiP hd h
  case h_39 off hd =>
    cases hv : zgo pc off with
    | false => rw [hv] at he; cases he
    | true => rw [hv] at he; cases he; exact zs_gotoP hd hv h
  case h_40 off hd =>
    cases hv : zgo pc off with
    | false => rw [hv] at he; cases he
    | true => rw [hv] at he; cases he; obtain ⟨x, y, r, rfl, h⟩ := t2i_ok h; exact zs_icmp_eqP hd hv h
  case h_41 off hd =>
    cases hv : zgo pc off with
    | false => rw [hv] at he; cases he
    | true => rw [hv] at he; cases he; obtain ⟨x, y, r, rfl, h⟩ := t2i_ok h; exact zs_icmp_neP hd hv h
  case h_42 off hd =>
    cases hv : zgo pc off with
    | false => rw [hv] at he; cases he
    | true => rw [hv] at he; cases he; obtain ⟨x, y, r, rfl, h⟩ := t2i_ok h; exact zs_icmp_ltP hd hv h
  case h_43 off hd =>
    cases hv : zgo pc off with
    | false => rw [hv] at he; cases he
    | true => rw [hv] at he; cases he; obtain ⟨x, y, r, rfl, h⟩ := t2i_ok h; exact zs_icmp_geP hd hv h
  case h_44 off hd =>
    cases hv : zgo pc off with
    | false => rw [hv] at he; cases he
    | true => rw [hv] at he; cases he; obtain ⟨x, y, r, rfl, h⟩ := t2i_ok h; exact zs_icmp_gtP hd hv h
  case h_45 off hd =>
    cases hv : zgo pc off with
    | false => rw [hv] at he; cases he
    | true => rw [hv] at he; cases he; obtain ⟨x, y, r, rfl, h⟩ := t2i_ok h; exact zs_icmp_leP hd hv h
  case h_46 off hd =>
    cases hv : zgo pc off with
    | false => rw [hv] at he; cases he
    | true => rw [hv] at he; cases he; obtain ⟨x, r, rfl, h⟩ := t1i_ok h; exact zs_if_eqP hd hv h
  case h_47 off hd =>
    cases hv : zgo pc off with
    | false => rw [hv] at he; cases he
    | true => rw [hv] at he; cases he; obtain ⟨x, r, rfl, h⟩ := t1i_ok h; exact zs_if_neP hd hv h
  case h_48 off hd =>
    cases hv : zgo pc off with
    | false => rw [hv] at he; cases he
    | true => rw [hv] at he; cases he; obtain ⟨x, r, rfl, h⟩ := t1i_ok h; exact zs_if_ltP hd hv h
  case h_49 off hd =>
    cases hv : zgo pc off with
    | false => rw [hv] at he; cases he
    | true => rw [hv] at he; cases he; obtain ⟨x, r, rfl, h⟩ := t1i_ok h; exact zs_if_geP hd hv h
  case h_50 off hd =>
    cases hv : zgo pc off with
    | false => rw [hv] at he; cases he
    | true => rw [hv] at he; cases he; obtain ⟨x, r, rfl, h⟩ := t1i_ok h; exact zs_if_gtP hd hv h
  case h_51 off hd =>
    cases hv : zgo pc off with
    | false => rw [hv] at he; cases he
    | true => rw [hv] at he; cases he; obtain ⟨x, r, rfl, h⟩ := t1i_ok h; exact zs_if_leP hd hv h
  case h_52 i hd =>
    cases hv : zfd f.1 i with
    | none => rw [hv] at he; cases he
    | some q => rw [hv] at he; cases he; obtain ⟨x, r, rfl, h⟩ := t1r_ok h; obtain ⟨h1, h⟩ := zif_ok h; exact zs_getP hd hv h1 h
  case h_53 i hd =>
    cases hv : zfd f.1 i with
    | none => rw [hv] at he; cases he
    | some q =>
      obtain ⟨a, b⟩ := q
      rw [hv] at he; cases he
      change (match tyT a b with | .int => _ | .boolean => _ | .long => _ | .object _ => _ | .array _ => _ | _ => False) at h
      split at h
      · obtain ⟨x, y, r, rfl, h⟩ := tir_ok h; obtain ⟨h1, h⟩ := zif_ok h; simp only [Bool.and_eq_true] at h1; exact zs_putIP hd hv h1.1 h1.2 (by assumption) h
      · obtain ⟨x, y, r, rfl, h⟩ := tir_ok h; obtain ⟨h1, h⟩ := zif_ok h; simp only [Bool.and_eq_true] at h1; exact zs_putZP hd hv h1.1 h1.2 (by assumption) h.1 h.2
      · obtain ⟨x, y, r, rfl, h⟩ := tlr_ok h; obtain ⟨h1, h⟩ := zif_ok h; simp only [Bool.and_eq_true] at h1; exact zs_putJP hd hv h1.1 h1.2 (by assumption) h
      · obtain ⟨x, y, r, rfl, h⟩ := trr_ok h; obtain ⟨h1, h⟩ := zif_ok h; simp only [Bool.and_eq_true] at h1; exact zs_putRP hd hv h1.1 h1.2.1 h1.2.2.1 (Nat.eq_of_beq_eq_true h1.2.2.2) (by assumption) (Or.inl ⟨_, rfl⟩) h
      · obtain ⟨x, y, r, rfl, h⟩ := trr_ok h; obtain ⟨h1, h⟩ := zif_ok h; simp only [Bool.and_eq_true] at h1; exact zs_putRP hd hv h1.1 h1.2.1 h1.2.2.1 (Nat.eq_of_beq_eq_true h1.2.2.2) (by assumption) (Or.inr ⟨_, rfl⟩) h
      · exact h.elim
  case h_54 hd => cases he; obtain ⟨x, y, r, rfl, h⟩ := tir_ok h; obtain ⟨h1, h⟩ := zif_ok h; exact zs_ialdP hd h1 h.1 h.2
  case h_55 hd => cases he; obtain ⟨x, y, z, r, rfl, h⟩ := tiir_ok h; obtain ⟨h1, h⟩ := zif_ok h; exact zs_iastP hd h1 h.1 h.2
  case h_56 hd => cases he; obtain ⟨x, y, r, rfl, h⟩ := tir_ok h; obtain ⟨h1, h⟩ := zif_ok h; exact zs_baldP hd h1 h.1 h.2
  case h_57 hd => cases he; obtain ⟨x, y, z, r, rfl, h⟩ := tiir_ok h; obtain ⟨h1, h⟩ := zif_ok h; exact zs_bastP hd h1 h.1 h.2
  case h_58 hd => cases he; obtain ⟨x, y, r, rfl, h⟩ := tir_ok h; obtain ⟨h1, h⟩ := zif_ok h; exact zs_laldP hd h1 h.1 h.2
  case h_59 hd => cases he; obtain ⟨x, y, z, r, rfl, h⟩ := tlir_ok h; obtain ⟨h1, h⟩ := zif_ok h; exact zs_lastP hd h1 h.1 h.2
  case h_60 hd => cases he; obtain ⟨x, r, rfl, h⟩ := t1r_ok h; obtain ⟨h1, h⟩ := zif_ok h; exact zs_alenP hd h1 h
  case h_61 hd =>
    cases he
    obtain ⟨x, r, rfl, rfl, h2⟩ := t1i_ok h
    clear h
    split at h2
    · exact zs_iretP hd (by assumption) h2
    · exact zs_zretP hd (by assumption) h2.1 h2.2
    · exact h2.elim
  case h_62 hd =>
    cases he
    obtain ⟨x, r, rfl, rfl, h2⟩ := t1l_ok h
    clear h
    split at h2
    · exact zs_lretP hd (by assumption) h2
    · exact h2.elim
  case h_63 hd => cases he; obtain ⟨rfl, h1, h⟩ := h; exact zs_vretP hd h1 h
  case h_64 i hd =>
    cases hv : znc f.1 i with
    | none => rw [hv] at he; cases he
    | some q => rw [hv] at he; cases he; obtain ⟨h1, h⟩ := zif_ok h; exact zs_newP hd hv h1 h
  case h_65 hd => cases he; obtain ⟨x, r, rfl, h⟩ := t1i_ok h; obtain ⟨h1, h⟩ := zif_ok h; exact zs_newIP hd h1 h
  case h_66 hd => cases he; obtain ⟨x, r, rfl, h⟩ := t1i_ok h; obtain ⟨h1, h⟩ := zif_ok h; exact zs_newBP hd h1 h
  case h_67 hd => cases he; obtain ⟨x, r, rfl, h⟩ := t1i_ok h; obtain ⟨h1, h⟩ := zif_ok h; exact zs_newLP hd h1 h
  case h_68 df hi offs len hd =>
    cases hv : ((zgo pc df && offs.toList.all (zgo pc) && decide (hi = (offs.size : Int) - 1)) && Nat.blt offs.size 1000) with
    | false => rw [hv] at he; cases he
    | true =>
      rw [hv] at he; cases he
      obtain ⟨x, r, rfl, h⟩ := t1i_ok h
      rw [Bool.and_eq_true] at hv
      exact zs_switchP hd hv.1 h (Nat.blt_eq.mp hv.2)
  case h_69 i hd =>
    cases hv : zoi f.1 i with
    | false => rw [hv] at he; cases he
    | true => rw [hv] at he; cases he; obtain ⟨x, r, rfl, h⟩ := t1r_ok h; obtain ⟨h1, h⟩ := zif_ok h; exact zs_objinitP hd hv h1 h
  case h_70 => cases he
/-- behind a call: the machine's end of it, as a memory -/
theorem zbackP {l : Launch} {d mc ms mc' ms' : Nat} {f : zF} {pc : Nat} {lo : List (Nat × Value)} {rest : List Value} {Q Qc : zR → zM → Prop} {g : zG} {p : Program} {e : Env} {R : Room} {s : State} {m : MethodId} {args : Array Value} {below : List Frame} {meth : Method} {c : Code} {H : Heap} {locs : List Loc} {cells slots : Nat} {ls : Array Slot} {st0 : List Value} {a : Array Value}
    (hr : vx_Run p l e R s m args below meth c H locs cells slots mc' ms' (F0 m pc ls st0) (rest.map (zc g)) (zQr g Qc a) (zQx g Qc) (fun q => g.2.2.1 ≤ q))
    (hPP : P g s) (hC : zCx l g f p s m args meth c) (a2 : d ≤ R.frames) (a3 : 37 * d ≤ R.locals) (a4 : cells + mc ≤ R.cells) (a5 : slots + ms ≤ R.slots) (a6 : ∀ q ∈ locs, g.2.2.1 ≤ q.base) (a8 : lv_has ls f.2.2.2.1 (zlm g lo)) (hmc : mc' ≤ mc) (hms : ms' ≤ ms)
    (k : ∀ v M', Qc (.inl v) M' → zGp P l d (mc - mc') (ms - ms') f M' (pc + 3) lo (v.toList ++ rest) Q)
    (kx : ∀ (E : String) (M' : zM) (ce : Cell) (q9 : Addr) (H1 : Heap) (locs1 : List Loc), Qc (.inr E) M' → zH g M' H1 → (∀ q ∈ locs1, g.2.2.1 ≤ q.base) → H1[q9]? = some ce → ce.vm = .none → s.vm.findClass E = some ce.cls → vx_W p l e R s m args below meth c H1 locs1 (cells + mc') (slots + ms') (vx_MQ below (zQr g Q) (zQx g Q) args s R.cells R.slots (fun q => g.2.2.1 ≤ q)) (F0 m pc ls (rest.map (zc g))) q9) :
    W p l e R s m args below meth c H locs cells slots (vx_MQ below (zQr g Q) (zQx g Q) args s R.cells R.slots (fun q => g.2.2.1 ≤ q)) (F0 m pc ls st0) := by
  intro T hT X
  have hL2 : ∀ {L : List Loc}, (∀ q ∈ L, g.2.2.1 ≤ q.base) → ∀ q ∈ locs ++ L, g.2.2.1 ≤ q.base := fun hL q hq => (List.mem_append.mp hq).elim (a6 q) (hL q)
  rcases hr T hT X with ⟨v, st₀, t, T', L, h0, X', hL, e1, e2, ⟨w, M', hv, hq, hH⟩, stp⟩ | ⟨q, st₀, t, T', L, E, ce, h0, X', hL, e1, e2, ⟨M', hq, hH⟩, hce, hcv, hcl, stp⟩
  · cases hv
    have hk := k w M' hq g p e R s m args below meth c T'.heap (locs ++ L) (cells + mc') (slots + ms') ls hPP hC a2 a3 (by omega) (by omega) (hL2 hL) (by rw [e1]; exact hH) a8
    have hst : ((w.toList ++ rest).map (zc g)) = (w.map (zc g)).toList ++ rest.map (zc g) := by cases w <;> simp
    rw [hst] at hk
    obtain ⟨t2, b1, b2⟩ := hk T' rfl X'
    exact ⟨t2, stp t2 b1, b2⟩
  · obtain ⟨t2, b1, b2⟩ := kx E M' ce q T'.heap (locs ++ L) hq (by rw [e1]; exact hH) (hL2 hL) (by rw [e1]; exact hce) hcv hcl T' rfl X'
    exact ⟨t2, stp.trans b1, b2⟩
theorem zcallVP (d' mc' ms' : Nat) {idx o ci n nL : Nat} {y : MethodName} {cc : ByteArray} {ret : Option FieldType} {a rest : List Value} {Qc : zR → zM → Prop} (hd : decode f.2.1 pc = .ok (.invokevirtual idx, 3)) (hl : Cond.methodLink (zown f.1) idx y ∈ zws) (hm : zMth y (.code y cc nL ret) n) (hi : Cond.instanceMethod y ∈ zws) (hs : Cond.selects y.cls y y ∈ zws)
    (hst : st = a.reverse ++ .ref o :: rest) (hk : zisk M o 0 ci = true) (hcl : (zcl[ci]?).map (fun q => q.1) = some y.cls) (hn : a.length = n) (hq : (Nat.ble (d' + 1) d && Nat.ble nL 18 && Nat.ble mc' mc && Nat.ble ms' ms && Nat.ble ((rest.map Value.category).sum) 8) = true) (hh : f.2.2.2.2.1 = [])
    (hR : zRet l d' mc' ms' y (.code y cc nL ret) (.ref o :: a) M Qc)
    (kx : ∀ E M', Qc (.inr E) M' → Q (.inr E) M')
    (k : ∀ v M', Qc (.inl v) M' → zGp P l d (mc - mc') (ms - ms') f M' (pc + 3) lo (v.toList ++ rest) Q) : zGp P l d mc ms f M pc lo st Q := by
  intro g p e R s m args below meth c H locs cells slots ls hPP hC a2 a3 a4 a5 a6 a7 a8
  simp only [Bool.and_eq_true, Nat.ble_eq] at hq
  obtain ⟨⟨⟨⟨q1, q2⟩, q3⟩, q4⟩, q5⟩ := hq
  subst hst
  obtain ⟨hx, hcb, hr, hml, hown, hlocks, hts, hw, ht, hin⟩ := id hC
  have hk := zisk_ok hk
  obtain ⟨-, had, hce⟩ := a7.cell o hk (by decide)
  unfold zcell at hce
  rw [hk] at hce
  obtain ⟨q', hq', cell, c1, c2, c3, c4⟩ := hce
  have hcls : q'.1 = y.cls := by rw [hq'] at hcl; exact Option.some.inj hcl
  have hrun := vx_runV (l := l) (R := R) (H := H) (p := p) (e := e) (below := below) (meth := meth) (locs := locs) (cells := cells) (slots := slots) (g := F0 m pc ls ((a.reverse ++ .ref o :: rest).map (zc g))) (As := a.map (zc g)) (rest := rest.map (zc g)) (b := zad g o) (C := y.cls) (Ts := zws) ⟨hx, hcb, hml, hown, hts⟩ (hR g)
    ⟨zcallB hm (hts _ hl) hts (by omega) (by omega), hts _ hi, hts _ hs⟩
    ⟨zblind, ⟨cell, by rw [had]; exact c1, by rw [c3]; rfl, by rw [c2, ← hcls]; exact (hw.1.1 ci q' hq').2.1⟩, fun U hU hW => ⟨rfl, zW.warm hW hw, by rw [hU]; exact a7⟩⟩
    rfl (by rw [List.length_map]; exact hn) a8.1 (by simp [zc]) (by rw [zcat]; show 2 * 0 + _ ≤ 8; omega) hd ⟨by omega, by omega⟩
  refine zbackP hrun hPP hC a2 a3 a4 a5 a6 a8 q3 q4 k (fun E M' ce q9 H1 locs1 hqx hH1 hl1 hce hcv hclx => ?_)
  refine vx_out (fun x hx => ?_) hlocks hce hcv hclx (fun t ht _ => ⟨M', kx E M' hqx, by rw [ht]; exact hH1⟩) hl1 (by omega) (by omega)
  rw [ht, hh] at hx
  cases hx
end
section
variable {P : zG → State → Prop} {l : Launch} {d mc ms : Nat} {f : zF} {S : zS} {lo : List (Nat × zV)} {st : List zV} {Q : zR2 → zS → Prop} {e : zI2} {K : Nat → Nat → zS → Nat → List (Nat × zV) → List zV → Prop}
set_option maxHeartbeats 4000000 in
theorem zst3_okP (hx : zir e.2.2.2.1) (h : zst3 f e mc ms S lo st K Q) (hK : ∀ mc ms S pc lo st, K mc ms S pc lo st → zGt P l d mc ms f S pc lo st Q) {M : zM} (hM : zev M S) (hlo : ∀ q ∈ lo, zok q.2) (hst : ∀ v ∈ st, zok v) :
    zst d f (zdn e) mc ms M (zmp lo) (st.map zvv) (fun mc ms M pc lo st => zGp P l d mc ms f M pc lo st (zQs Q)) (zQs Q) := by
  obtain ⟨m1, m2, m3, m4, m5⟩ := id hM
  have bit : ∀ {pc : Nat} {z : Int32} {r : List zV}, K mc ms S pc lo (.inl z.toInt :: r) → (∀ v ∈ r, zok v) → zGp P l d mc ms f M pc (zmp lo) (.int z :: r.map zvv) (zQs Q) := by
    intro pc z r h hr
    have := hK _ _ _ _ _ _ h M hM hlo (zall1 (zir_to z) hr)
    have e : ((Sum.inl z.toInt :: r : List zV).map zvv) = .int z :: r.map zvv := by
      show Value.int (Int32.ofInt z.toInt) :: _ = _
      rw [Int32.ofInt_toInt]
    rw [e] at this
    exact this
  have bitl : ∀ {pc : Nat} {z : Int64} {r : List zV}, K mc ms S pc lo (.inr (.inr z.toInt) :: r) → (∀ v ∈ r, zok v) → zGp P l d mc ms f M pc (zmp lo) (.long z :: r.map zvv) (zQs Q) := by
    intro pc z r h hr
    have := hK _ _ _ _ _ _ h M hM hlo (zall1 (zil_to z) hr)
    have e : ((Sum.inr (Sum.inr z.toInt) :: r : List zV).map zvv) = .long z :: r.map zvv := by
      show Value.long (Int64.ofInt z.toInt) :: _ = _
      rw [Int64.ofInt_toInt]
    rw [e] at this
    exact this
  have ari : ∀ {pc : Nat} {z : Int32} {w : Int} {r : List zV}, K mc ms S pc lo (.inl w :: r) → Int32.ofInt w = z → zir w → (∀ v ∈ r, zok v) → zGp P l d mc ms f M pc (zmp lo) (.int z :: r.map zvv) (zQs Q) := by
    intro pc z w r h hz hw hr
    subst hz
    exact hK _ _ _ _ _ _ h M hM hlo (zall1 hw hr)
  unfold zst3 at h
  split at h
  case h_1 => exact hK _ _ _ _ _ _ h M hM hlo (zall1 hx hst)
  case h_2 a b x nx ts =>
    replace h := zif_ok h; obtain ⟨h1, h⟩ := h
    have h1 := Nat.ble_eq.mp h1
    have := hK _ _ _ _ _ _ h M hM hlo (zall1 (v := .inr (.inr (a : Int))) ⟨by omega, by omega⟩ hst)
    have e : ((Sum.inr (Sum.inr (a : Int)) :: st : List zV).map zvv) = .long (Int64.ofNat a) :: st.map zvv := by
      show Value.long (Int64.ofInt (a : Int)) :: _ = _
      rw [Int64.ofInt_eq_ofNat]
    rw [e] at this
    exact this
  case h_3 a _ _ nx _ =>
    split at h
    · rename_i x hl
      obtain ⟨h1, h2⟩ := zlkN_ok hl
      show (match zlk (zmp lo) a with | some (.int x) => _ | _ => False)
      rw [h1]
      exact hK _ _ _ _ _ _ h M hM hlo (zall1 (hlo _ h2) hst)
    · exact h.elim
  case h_4 a _ _ nx _ =>
    split at h
    · rename_i x hl
      obtain ⟨h1, h2⟩ := zlkN_ok hl
      show (match zlk (zmp lo) a with | some (.long x) => _ | _ => False)
      rw [h1]
      exact hK _ _ _ _ _ _ h M hM hlo (zall1 (hlo _ h2) hst)
    · exact h.elim
  case h_5 a _ _ nx _ =>
    split at h
    · rename_i x hl
      obtain ⟨h1, h2⟩ := zlkN_ok hl
      show (match zlk (zmp lo) a with | some (.ref x) => _ | _ => False)
      rw [h1]
      exact hK _ _ _ _ _ _ h M hM hlo (zall1 (hlo _ h2) hst)
    · exact h.elim
  case h_6 a _ _ nx _ =>
    replace h := u1i_ok h; obtain ⟨x, r, rfl, h⟩ := h
    replace h := zif_ok h; obtain ⟨h1, h⟩ := h
    obtain ⟨s1, s2⟩ := zall2 hst
    show zif (Nat.blt a f.2.2.2.1) (zGp P l d mc ms f M nx (zup (zmp lo) a (zvv (.inl x))) (r.map zvv) (zQs Q))
    rw [h1, zupN_ok]
    exact hK _ _ _ _ _ _ h M hM (zupN_rng hlo s1) s2
  case h_7 a _ _ nx _ =>
    replace h := u1l_ok h; obtain ⟨x, r, rfl, h⟩ := h
    replace h := zif_ok h; obtain ⟨h1, h⟩ := h
    obtain ⟨s1, s2⟩ := zall2 hst
    show zif (Nat.blt (a + 1) f.2.2.2.1) (zGp P l d mc ms f M nx (zup2 (zmp lo) a (zvv (.inr (.inr x)))) (r.map zvv) (zQs Q))
    rw [h1, zupL_ok]
    exact hK _ _ _ _ _ _ h M hM (zupL_rng hlo s1) s2
  case h_8 a _ _ nx _ =>
    replace h := u1r_ok h; obtain ⟨x, r, rfl, h⟩ := h
    replace h := zif_ok h; obtain ⟨h1, h⟩ := h
    obtain ⟨s1, s2⟩ := zall2 hst
    show zif (Nat.blt a f.2.2.2.1) (zGp P l d mc ms f M nx (zup (zmp lo) a (zvv (.inr (.inl x)))) (r.map zvv) (zQs Q))
    rw [h1, zupN_ok]
    exact hK _ _ _ _ _ _ h M hM (zupN_rng hlo s1) s2
  case h_9 a _ x nx _ =>
    split at h
    · rename_i y hl
      obtain ⟨h1, h2⟩ := zlkN_ok hl
      replace h := zif_ok h; obtain ⟨h3, h4, h⟩ := h
      show (match zlk (zmp lo) a with | some (.int y) => zif (Nat.blt a f.2.2.2.1) (zGp P l d mc ms f M nx (zup (zmp lo) a (.int (y + Int32.ofInt x))) (st.map zvv) (zQs Q)) | _ => False)
      rw [h1]
      show zif (Nat.blt a f.2.2.2.1) (zGp P l d mc ms f M nx (zup (zmp lo) a (.int (Int32.ofInt y + Int32.ofInt x))) (st.map zvv) (zQs Q))
      rw [h3, ← Int32.ofInt_add]
      show zGp P l d mc ms f M nx (zup (zmp lo) a (zvv (.inl (y + x)))) (st.map zvv) (zQs Q)
      rw [zupN_ok]
      exact hK _ _ _ _ _ _ h M hM (zupN_rng hlo h4) hst
    · exact h.elim
  case h_10 => replace h := u2i_ok h; obtain ⟨x, y, r, rfl, h1, h⟩ := h; exact ari h (Int32.ofInt_add x y) h1 (zall2 (zall2 hst).2).2
  case h_11 => replace h := u2i_ok h; obtain ⟨x, y, r, rfl, h⟩ := h; exact ari h (by unfold zwr; rw [Int32.ofInt_toInt]; exact Int32.ofInt_add x y) (zir_to _) (zall2 (zall2 hst).2).2
  case h_12 => replace h := u2i_ok h; obtain ⟨x, y, r, rfl, h1, h⟩ := h; exact ari h (Int32.ofInt_sub x y) h1 (zall2 (zall2 hst).2).2
  case h_13 => replace h := u2i_ok h; obtain ⟨x, y, r, rfl, h1, h⟩ := h; exact ari h (Int32.ofInt_mul x y) h1 (zall2 (zall2 hst).2).2
  case h_14 => replace h := u2i_ok h; obtain ⟨x, y, r, rfl, h⟩ := h; exact ari h (by unfold zwr; rw [Int32.ofInt_toInt]; exact Int32.ofInt_mul x y) (zir_to _) (zall2 (zall2 hst).2).2
  case h_15 => replace h := u2i_ok h; obtain ⟨x, y, r, rfl, h⟩ := h; exact bit h (zall2 (zall2 hst).2).2
  case h_16 => replace h := u2i_ok h; obtain ⟨x, y, r, rfl, h⟩ := h; exact bit h (zall2 (zall2 hst).2).2
  case h_17 => replace h := u2i_ok h; obtain ⟨x, y, r, rfl, h⟩ := h; exact bit h (zall2 (zall2 hst).2).2
  case h_18 => replace h := u2i_ok h; obtain ⟨x, y, r, rfl, h⟩ := h; exact bit h (zall2 (zall2 hst).2).2
  case h_19 => replace h := u2i_ok h; obtain ⟨x, y, r, rfl, h⟩ := h; exact bit h (zall2 (zall2 hst).2).2
  case h_20 => replace h := u2i_ok h; obtain ⟨x, y, r, rfl, h⟩ := h; exact bit h (zall2 (zall2 hst).2).2
  case h_21 =>
    replace h := u2i_ok h; obtain ⟨x, y, r, rfl, h1, h⟩ := h
    have sy := (zall2 hst).1
    have sx := (zall2 (zall2 hst).2).1
    obtain ⟨e1, e2⟩ := zof_div sx sy h1.1 h1.2
    refine ⟨fun z => ?_, ari h e1.symm e2 (zall2 (zall2 hst).2).2⟩
    exact absurd ((zof_eq sy zir_0).mp z) (by omega)
  case h_22 =>
    replace h := u2i_ok h; obtain ⟨x, y, r, rfl, h1, h⟩ := h
    have sy := (zall2 hst).1
    have sx := (zall2 (zall2 hst).2).1
    obtain ⟨e1, e2⟩ := zof_mod sx sy h1.1 h1.2
    refine ⟨fun z => ?_, ari h e1.symm e2 (zall2 (zall2 hst).2).2⟩
    exact absurd ((zof_eq sy zir_0).mp z) (by omega)
  case h_23 =>
    replace h := u1i_ok h; obtain ⟨x, r, rfl, h⟩ := h
    obtain ⟨s1, s2⟩ := zall2 hst
    have s1 : zir x := s1
    have := hK _ _ _ _ _ _ h M hM hlo (zall1 (v := .inr (.inr x)) ⟨by have := s1.1; omega, by have := s1.2; omega⟩ s2)
    have e : ((Sum.inr (Sum.inr x) :: r : List zV).map zvv) = .long (Int32.ofInt x).toInt64 :: r.map zvv := by
      show Value.long (Int64.ofInt x) :: _ = _
      congr 2
      refine Int64.toInt_inj.mp ?_
      rw [Int32.toInt_toInt64, zto s1, ztl ⟨by have := s1.1; omega, by have := s1.2; omega⟩]
    rw [e] at this
    exact this
  case h_24 => replace h := u1i_ok h; obtain ⟨x, r, rfl, h⟩ := h; exact bit h (zall2 hst).2
  case h_25 => replace h := u2l_ok h; obtain ⟨x, y, r, rfl, h⟩ := h; exact bitl h (zall2 (zall2 hst).2).2
  case h_26 =>
    replace h := u2l_ok h; obtain ⟨x, y, r, rfl, h1, h⟩ := h
    have := hK _ _ _ _ _ _ h M hM hlo (zall1 (v := .inr (.inr (x - y))) h1 (zall2 (zall2 hst).2).2)
    have e : ((Sum.inr (Sum.inr (x - y)) :: r : List zV).map zvv) = .long (Int64.ofInt x - Int64.ofInt y) :: r.map zvv := by
      show Value.long (Int64.ofInt (x - y)) :: _ = _
      rw [Int64.ofInt_sub]
    rw [e] at this
    exact this
  case h_27 =>
    replace h := u2l_ok h; obtain ⟨x, y, r, rfl, h1, h2, h3⟩ := h
    have sy : zil y := (zall2 hst).1
    have sx : zil x := (zall2 (zall2 hst).2).1
    have sr := (zall2 (zall2 hst).2).2
    show zGp P l d mc ms f M _ (zmp lo) (.int (lg_cmp (Int64.ofInt x) (Int64.ofInt y)) :: r.map zvv) (zQs Q)
    unfold lg_cmp
    have c1 : Int64.ofInt x > Int64.ofInt y ↔ y < x := by show Int64.ofInt y < Int64.ofInt x ↔ _; rw [Int64.lt_iff_toInt_lt, ztl sx, ztl sy]
    have c2 : Int64.ofInt x = Int64.ofInt y ↔ x = y := by rw [← Int64.toInt_inj, ztl sx, ztl sy]
    by_cases g1 : y < x
    · rw [if_pos (c1.mpr g1)]
      exact ari (w := 1) (h3 g1) rfl ⟨by omega, by omega⟩ sr
    · rw [if_neg (fun z => g1 (c1.mp z))]
      by_cases g2 : x = y
      · rw [if_pos (c2.mpr g2)]
        exact ari (w := 0) (h2 g2) rfl ⟨by omega, by omega⟩ sr
      · rw [if_neg (fun z => g2 (c2.mp z))]
        exact ari (w := -1) (h1 (by omega)) rfl ⟨by omega, by omega⟩ sr
  case h_28 => replace h := uil_ok h; obtain ⟨x, y, r, rfl, h⟩ := h; exact bitl h (zall2 (zall2 hst).2).2
  case h_29 =>
    rcases u1d_ok h with ⟨x, r, rfl, h⟩ | ⟨x, r, rfl, h⟩
    · exact hK _ _ _ _ _ _ h M hM hlo (zall1 (zall2 hst).1 hst)
    · exact hK _ _ _ _ _ _ h M hM hlo (zall1 (zall2 hst).1 hst)
  case h_30 =>
    replace h := uir_ok h; obtain ⟨x, y, r, rfl, h⟩ := h
    exact hK _ _ _ _ _ _ h M hM hlo (zall1 (zall2 hst).1 (zall1 trivial hst))
  case h_31 => replace h := u1i_ok h; obtain ⟨x, r, rfl, h⟩ := h; exact hK _ _ _ _ _ _ h M hM hlo (zall2 hst).2
  case h_32 => exact hK _ _ _ _ _ _ h M hM hlo hst
  case h_33 =>
    replace h := u2i_ok h; obtain ⟨x, y, r, rfl, h1, h2⟩ := h
    have c := zof_eq (zall2 (zall2 hst).2).1 (zall2 hst).1
    exact ⟨fun z => hK _ _ _ _ _ _ (h1 (c.mp z)) M hM hlo (zall2 (zall2 hst).2).2, fun z => hK _ _ _ _ _ _ (h2 (fun w => z (c.mpr w))) M hM hlo (zall2 (zall2 hst).2).2⟩
  case h_34 =>
    replace h := u2i_ok h; obtain ⟨x, y, r, rfl, h1, h2⟩ := h
    have c := zof_lt (zall2 (zall2 hst).2).1 (zall2 hst).1
    exact ⟨fun z => hK _ _ _ _ _ _ (h1 (c.mp z)) M hM hlo (zall2 (zall2 hst).2).2, fun z => hK _ _ _ _ _ _ (h2 (fun w => z (c.mpr w))) M hM hlo (zall2 (zall2 hst).2).2⟩
  case h_35 =>
    replace h := u2i_ok h; obtain ⟨x, y, r, rfl, h1, h2⟩ := h
    have c := zof_lt (zall2 hst).1 (zall2 (zall2 hst).2).1
    exact ⟨fun z => hK _ _ _ _ _ _ (h1 (c.mp z)) M hM hlo (zall2 (zall2 hst).2).2, fun z => hK _ _ _ _ _ _ (h2 (fun w => z (c.mpr w))) M hM hlo (zall2 (zall2 hst).2).2⟩
  case h_36 =>
    replace h := u1i_ok h; obtain ⟨x, r, rfl, h1, h2⟩ := h
    have c := zof_eq (zall2 hst).1 zir_0
    exact ⟨fun z => hK _ _ _ _ _ _ (h1 (c.mp z)) M hM hlo (zall2 hst).2, fun z => hK _ _ _ _ _ _ (h2 (fun w => z (c.mpr w))) M hM hlo (zall2 hst).2⟩
  case h_37 =>
    replace h := u1i_ok h; obtain ⟨x, r, rfl, h1, h2⟩ := h
    have c := zof_lt (zall2 hst).1 zir_0
    exact ⟨fun z => hK _ _ _ _ _ _ (h1 (c.mp z)) M hM hlo (zall2 hst).2, fun z => hK _ _ _ _ _ _ (h2 (fun w => z (c.mpr w))) M hM hlo (zall2 hst).2⟩
  case h_38 =>
    replace h := u1i_ok h; obtain ⟨x, r, rfl, h1, h2⟩ := h
    have c := zof_lt zir_0 (zall2 hst).1
    exact ⟨fun z => hK _ _ _ _ _ _ (h1 (c.mp z)) M hM hlo (zall2 hst).2, fun z => hK _ _ _ _ _ _ (h2 (fun w => z (c.mpr w))) M hM hlo (zall2 hst).2⟩
  case h_39 a b _ nx _ =>
    replace h := u1r_ok h; obtain ⟨c, r, rfl, h⟩ := h
    replace h := zif_ok h; obtain ⟨g1, h⟩ := h
    simp only [Bool.and_eq_true, Nat.blt_eq] at g1
    obtain ⟨⟨g1, g2⟩, g3⟩ := g1
    have sr := (zall2 hst).2
    show zif (zisk M c 0 a) (zGp P l d mc ms f M nx (zmp lo) (zfv M a c b :: r.map zvv) (zQs Q))
    have hk : zisk M c 0 a = true := by unfold zisk; rw [m2, g1, g2]; rfl
    rw [hk]
    show zGp P l d mc ms f M nx (zmp lo) (zfv M a c b :: r.map zvv) (zQs Q)
    unfold zfv
    split at h
    · rename_i ht
      try rw [ht]
      show zGp P l d mc ms f M nx (zmp lo) (.long (M.2.2.2.2 c b) :: r.map zvv) (zQs Q)
      rw [(m5 c b g3).2]
      exact hK _ _ _ _ _ _ h M hM hlo (zall1 (v := .inr (.inr _)) (m5 c b g3).1 sr)
    · rename_i ht
      try rw [ht]
      obtain ⟨q, hq, h⟩ := zlit_ok h
      show zGp P l d mc ms f M nx (zmp lo) (zr (M.2.2.1 c b) :: r.map zvv) (zQs Q)
      rw [m3, hq]
      exact hK _ _ _ _ _ _ h M hM hlo (zall1 (v := .inr (.inl _)) trivial sr)
    · rename_i ht
      try rw [ht]
      obtain ⟨q, hq, h⟩ := zlit_ok h
      show zGp P l d mc ms f M nx (zmp lo) (zr (M.2.2.1 c b) :: r.map zvv) (zQs Q)
      rw [m3, hq]
      exact hK _ _ _ _ _ _ h M hM hlo (zall1 (v := .inr (.inl _)) trivial sr)
    · rename_i t1 t2 t3
      have et : zfv M a c b = .int (M.2.2.2.1 c b) := by
        unfold zfv
        split
        · rename_i z; exact absurd z t1
        · rename_i z; exact absurd z (t2 _)
        · rename_i z; exact absurd z (t3 _)
        · rfl
      first | (show zGp P l d mc ms f M nx (zmp lo) (zfv M a c b :: r.map zvv) (zQs Q); rw [et, (m4 c b g3).2]) | rw [(m4 c b g3).2]
      exact hK _ _ _ _ _ _ h M hM hlo (zall1 (v := .inl _) (m4 c b g3).1 sr)
  case h_40 a b _ nx _ =>
    show (match tyT a b with | .int => _ | .boolean => _ | .long => _ | .object _ => _ | .array _ => _ | _ => False)
    split at h
    · rename_i ht
      try rw [ht]
      replace h := uir_ok h; obtain ⟨c, x, r, rfl, h⟩ := h
      replace h := zif_ok h; obtain ⟨g1, h⟩ := h
      simp only [Bool.and_eq_true, Nat.blt_eq] at g1
      obtain ⟨⟨g1, g2⟩, g3, g4⟩ := g1
      have sr := (zall2 (zall2 hst).2).2
      show zif (zisk M c 0 a && !zfin a b) (zGp P l d mc ms f (zsI M c b (Int32.ofInt x)) nx (zmp lo) (r.map zvv) (zQs Q))
      have hk : zisk M c 0 a = true := by unfold zisk; rw [m2, g1, g2]; rfl
      rw [hk, g4]
      exact hK _ _ _ _ _ _ h _ (zev_I hM g3 (zall2 hst).1) hlo sr
    · rename_i ht
      try rw [ht]
      replace h := uir_ok h; obtain ⟨c, x, r, rfl, h⟩ := h
      replace h := zif_ok h; obtain ⟨g1, g5, h⟩ := h
      simp only [Bool.and_eq_true, Nat.blt_eq] at g1
      obtain ⟨⟨g1, g2⟩, g3, g4⟩ := g1
      have sr := (zall2 (zall2 hst).2).2
      show zif (zisk M c 0 a && !zfin a b) ((Int32.ofInt x = 0 ∨ Int32.ofInt x = 1) ∧ zGp P l d mc ms f (zsI M c b (Int32.ofInt x)) nx (zmp lo) (r.map zvv) (zQs Q))
      have hk : zisk M c 0 a = true := by unfold zisk; rw [m2, g1, g2]; rfl
      rw [hk, g4]
      refine ⟨?_, hK _ _ _ _ _ _ h _ (zev_I hM g3 (zall2 hst).1) hlo sr⟩
      rcases g5 with rfl | rfl
      · exact Or.inl rfl
      · exact Or.inr rfl
    · rename_i ht
      try rw [ht]
      replace h := ulr_ok h; obtain ⟨c, x, r, rfl, h⟩ := h
      replace h := zif_ok h; obtain ⟨g1, h⟩ := h
      simp only [Bool.and_eq_true, Nat.blt_eq] at g1
      obtain ⟨⟨g1, g2⟩, g3, g4⟩ := g1
      have sr := (zall2 (zall2 hst).2).2
      show zif (zisk M c 0 a && !zfin a b) (zGp P l d mc ms f (zsJ M c b (Int64.ofInt x)) nx (zmp lo) (r.map zvv) (zQs Q))
      have hk : zisk M c 0 a = true := by unfold zisk; rw [m2, g1, g2]; rfl
      rw [hk, g4]
      exact hK _ _ _ _ _ _ h _ (zev_J hM g3 (zall2 hst).1) hlo sr
    · exact h.elim
  case h_41 =>
    replace h := uir_ok h; obtain ⟨c, i, r, rfl, h⟩ := h
    split at h
    · rename_i n hn
      replace h := zif_ok h; obtain ⟨g1, k, ⟨rfl, g2⟩, h⟩ := h
      have g1 := Nat.blt_eq.mp g1
      have hk := zof_in2 g2 (zall2 hst).1.2
      have hn2 : M.2.1 c = (1, n) := by rw [m2]; exact hn
      show zif ((M.2.1 c).1 == 1) (vp_in (Int32.ofInt (k : Int)) (M.2.1 c).2 ∧ zGp P l d mc ms f M _ (zmp lo) (.int (M.2.2.2.1 c (Int32.ofInt (k : Int)).toNatClampNeg) :: r.map zvv) (zQs Q))
      rw [hn2, hk.2, (m4 c k g1).2]
      exact ⟨hk.1, hK _ _ _ _ _ _ h M hM hlo (zall1 (v := .inl _) (m4 c k g1).1 (zall2 (zall2 hst).2).2)⟩
    · exact h.elim
  case h_42 =>
    replace h := uiir_ok h; obtain ⟨c, i, x, r, rfl, h⟩ := h
    split at h
    · rename_i n hn
      replace h := zif_ok h; obtain ⟨g1, k, ⟨rfl, g2⟩, h⟩ := h
      have g1 := Nat.blt_eq.mp g1
      have hk := zof_in2 g2 (zall2 (zall2 hst).2).1.2
      have hn2 : M.2.1 c = (1, n) := by rw [m2]; exact hn
      show zif ((M.2.1 c).1 == 1) (vp_in (Int32.ofInt (k : Int)) (M.2.1 c).2 ∧ zGp P l d mc ms f (zsI M c (Int32.ofInt (k : Int)).toNatClampNeg (Int32.ofInt x)) _ (zmp lo) (r.map zvv) (zQs Q))
      rw [hn2, hk.2]
      exact ⟨hk.1, hK _ _ _ _ _ _ h _ (zev_I hM g1 (zall2 hst).1) hlo (zall2 (zall2 (zall2 hst).2).2).2⟩
    · exact h.elim
  case h_43 =>
    replace h := uir_ok h; obtain ⟨c, i, r, rfl, h⟩ := h
    split at h
    · rename_i n hn
      replace h := zif_ok h; obtain ⟨g1, k, ⟨rfl, g2⟩, h⟩ := h
      have g1 := Nat.blt_eq.mp g1
      have hk := zof_in2 g2 (zall2 hst).1.2
      have hn2 : M.2.1 c = (2, n) := by rw [m2]; exact hn
      show zif ((M.2.1 c).1 == 2) (vp_in (Int32.ofInt (k : Int)) (M.2.1 c).2 ∧ zGp P l d mc ms f M _ (zmp lo) (.int (M.2.2.2.1 c (Int32.ofInt (k : Int)).toNatClampNeg) :: r.map zvv) (zQs Q))
      rw [hn2, hk.2, (m4 c k g1).2]
      exact ⟨hk.1, hK _ _ _ _ _ _ h M hM hlo (zall1 (v := .inl _) (m4 c k g1).1 (zall2 (zall2 hst).2).2)⟩
    · exact h.elim
  case h_44 =>
    replace h := uiir_ok h; obtain ⟨c, i, x, r, rfl, h⟩ := h
    split at h
    · rename_i n hn
      replace h := zif_ok h; obtain ⟨g1, k, ⟨rfl, g2⟩, h⟩ := h
      have g1 := Nat.blt_eq.mp g1
      have hk := zof_in2 g2 (zall2 (zall2 hst).2).1.2
      have hn2 : M.2.1 c = (2, n) := by rw [m2]; exact hn
      show zif ((M.2.1 c).1 == 2) (vp_in (Int32.ofInt (k : Int)) (M.2.1 c).2 ∧ zGp P l d mc ms f (zsI M c (Int32.ofInt (k : Int)).toNatClampNeg (Int32.ofInt x).toInt8.toInt32) _ (zmp lo) (r.map zvv) (zQs Q))
      rw [hn2, hk.2]
      have e9 : (Int32.ofInt x).toInt8.toInt32 = Int32.ofInt (zi2b x) := by unfold zi2b; rw [Int32.ofInt_toInt]
      rw [e9]
      exact ⟨hk.1, hK _ _ _ _ _ _ h _ (zev_I hM g1 (zir_to _)) hlo (zall2 (zall2 (zall2 hst).2).2).2⟩
    · exact h.elim
  case h_45 =>
    replace h := uir_ok h; obtain ⟨c, i, r, rfl, h⟩ := h
    split at h
    · rename_i n hn
      replace h := zif_ok h; obtain ⟨g1, k, ⟨rfl, g2⟩, h⟩ := h
      have g1 := Nat.blt_eq.mp g1
      have hk := zof_in2 g2 (zall2 hst).1.2
      have hn2 : M.2.1 c = (3, n) := by rw [m2]; exact hn
      show zif ((M.2.1 c).1 == 3) (vp_in (Int32.ofInt (k : Int)) (M.2.1 c).2 ∧ zGp P l d mc ms f M _ (zmp lo) (.long (M.2.2.2.2 c (Int32.ofInt (k : Int)).toNatClampNeg) :: r.map zvv) (zQs Q))
      rw [hn2, hk.2, (m5 c k g1).2]
      exact ⟨hk.1, hK _ _ _ _ _ _ h M hM hlo (zall1 (v := .inr (.inr _)) (m5 c k g1).1 (zall2 (zall2 hst).2).2)⟩
    · exact h.elim
  case h_46 =>
    replace h := ulir_ok h; obtain ⟨c, i, x, r, rfl, h⟩ := h
    split at h
    · rename_i n hn
      replace h := zif_ok h; obtain ⟨g1, k, ⟨rfl, g2⟩, h⟩ := h
      have g1 := Nat.blt_eq.mp g1
      have hk := zof_in2 g2 (zall2 (zall2 hst).2).1.2
      have hn2 : M.2.1 c = (3, n) := by rw [m2]; exact hn
      show zif ((M.2.1 c).1 == 3) (vp_in (Int32.ofInt (k : Int)) (M.2.1 c).2 ∧ zGp P l d mc ms f (zsJ M c (Int32.ofInt (k : Int)).toNatClampNeg (Int64.ofInt x)) _ (zmp lo) (r.map zvv) (zQs Q))
      rw [hn2, hk.2]
      exact ⟨hk.1, hK _ _ _ _ _ _ h _ (zev_J hM g1 (zall2 hst).1) hlo (zall2 (zall2 (zall2 hst).2).2).2⟩
    · exact h.elim
  case h_47 =>
    replace h := u1r_ok h; obtain ⟨c, r, rfl, h⟩ := h
    split at h
    · rename_i n hn
      replace h := zif_ok h; obtain ⟨g1, h⟩ := h
      have g1 := Nat.ble_eq.mp g1
      have hn2 : M.2.1 c = (1, n) := by rw [m2]; exact hn
      show zif ((M.2.1 c).1 == 1 || (M.2.1 c).1 == 2) (zGp P l d mc ms f M _ (zmp lo) (.int (Int32.ofNat (M.2.1 c).2) :: r.map zvv) (zQs Q))
      rw [hn2]
      exact ari h Int32.ofInt_eq_ofNat ⟨by omega, by omega⟩ (zall2 hst).2
    · rename_i n hn
      replace h := zif_ok h; obtain ⟨g1, h⟩ := h
      have g1 := Nat.ble_eq.mp g1
      have hn2 : M.2.1 c = (2, n) := by rw [m2]; exact hn
      show zif ((M.2.1 c).1 == 1 || (M.2.1 c).1 == 2) (zGp P l d mc ms f M _ (zmp lo) (.int (Int32.ofNat (M.2.1 c).2) :: r.map zvv) (zQs Q))
      rw [hn2]
      exact ari h Int32.ofInt_eq_ofNat ⟨by omega, by omega⟩ (zall2 hst).2
    · exact h.elim
  case h_48 =>
    replace h := u1i_ok h; obtain ⟨x, r, rfl, h⟩ := h
    split at h
    · refine ⟨rfl, ?_⟩
      split at h
      · rename_i ht
        try rw [ht]
        exact ⟨.inl (some (.inl x)), S, rfl, (zall2 hst).1, hM, h⟩
      · rename_i ht
        try rw [ht]
        refine ⟨?_, ⟨.inl (some (.inl x)), S, rfl, (zall2 hst).1, hM, h.2⟩⟩
        rcases h.1 with rfl | rfl
        · exact Or.inl rfl
        · exact Or.inr rfl
      · exact h.elim
    · exact h.elim
  case h_49 =>
    replace h := u1l_ok h; obtain ⟨x, r, rfl, h⟩ := h
    split at h
    · refine ⟨rfl, ?_⟩
      split at h
      · rename_i ht
        try rw [ht]
        exact ⟨.inl (some (.inr (.inr x))), S, rfl, (zall2 hst).1, hM, h⟩
      · exact h.elim
    · exact h.elim
  case h_50 =>
    split at h
    · split at h
      · rename_i ht
        exact ⟨rfl, ht, .inl none, S, rfl, trivial, hM, h⟩
      · exact h.elim
    · exact h.elim
  case h_51 b _ _ ts =>
    replace h := u1i_ok h; obtain ⟨x, r, rfl, h⟩ := h
    replace h := zif_ok h; obtain ⟨g1, h⟩ := h
    have g1 := Nat.ble_eq.mp g1
    obtain ⟨h1, h2⟩ := zsw_ok h
    have sx : zir x := (zall2 hst).1
    refine ⟨fun k hk hx2 => ?_, fun hx2 => ?_⟩
    · refine hK _ _ _ _ _ _ (h1 k hk ?_) M hM hlo (zall2 hst).2
      rw [Nat.zero_add]
      refine (zof_eq sx ⟨by omega, by omega⟩).mp ?_
      rw [Int32.ofInt_eq_ofNat (n := k)]
      exact hx2
    · refine hK _ _ _ _ _ _ (h2 ?_) M hM hlo (zall2 hst).2
      rw [Nat.zero_add]
      rcases hx2 with z | z
      · exact Or.inl ((zof_lt sx zir_0).mp z)
      · refine Or.inr (Int.not_lt.mp (fun w => ?_))
        have z2 := Int32.le_iff_toInt_le.mp z
        rw [← Int32.ofInt_eq_ofNat, zto ⟨by omega, by omega⟩, zto sx] at z2
        omega
  case h_52 => exact h.elim
end
theorem zGt.sub {P : zG → State → Prop} {l : Launch} {d mc ms : Nat} {f : zF} {S : zS} {pc : Nat} {lo lo' : List (Nat × zV)} {st : List zV} {Q : zR2 → zS → Prop} (h : zGt P l d mc ms f S pc lo' st Q) (hs : ∀ q ∈ lo', q ∈ lo) : zGt P l d mc ms f S pc lo st Q := by
  intro M hM hlo hst
  refine zGp.sub (h M hM (fun q hq => hlo q (hs q hq)) hst) (fun q hq => ?_)
  obtain ⟨q', hq', rfl⟩ := List.mem_map.mp hq
  exact List.mem_map.mpr ⟨q', hs q' hq', rfl⟩
