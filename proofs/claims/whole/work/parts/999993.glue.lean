/-! AT THE LAW'S ENTRY: the world out of the statement's premises -/
def gn1 : Cond := Jvm.Cond.and given_1 narrow_1
def wyF (q : String × Nat × String × List Int32) : Term := .field (.string q.1 q.2.1) "java/lang/String" "value" "[B"
def wyW (q : String × Nat × String × List Int32) : List Cond := [.exactly (.string q.1 q.2.1) "java/lang/String", .eq (.field (.string q.1 q.2.1) "java/lang/String" "coder" "B") (.int 0), .arrayOf (wyF q) .byte, .eq (.length (wyF q)) (.int (Int32.ofNat q.2.2.2.length))] ++ (List.range q.2.2.2.length).map (fun j => .eq (.elem (wyF q) (.int (Int32.ofNat j))) (.int (q.2.2.2.getD j 0)))
def wyP : List Nat := [73, 81, 91, 99, 108, 118, 125, 131, 138, 148, 157, 165, 172, 180, 39, 188, 225, 241, 256, 274, 290, 316, 343, 372, 388, 405, 427, 454, 487, 505, 536]
def wyR : List Nat := [643, 720, 733, 734, 735, 744, 753, 758, 759, 760, 761, 766, 775, 776, 587, 808, 826, 830, 842, 857, 871, 1051, 1099, 1119, 1127, 1174, 1185, 1189, 1217, 1218, 1230]
set_option maxRecDepth 100000 in
theorem wy_1 : (List.range 31).all (fun i => match zTx[i]? with
  | some q => decide (((flatC gn1).drop (wyP.getD i 0)).take (wyW q).length = wyW q) && Nat.blt q.2.2.2.length 100
  | none => true) = true := by decide +kernel
set_option maxRecDepth 100000 in
theorem wy_2 : (List.range 31).all (fun i => match zTx[i]? with
  | some q => decide (tables_1[wyR.getD i 0]? = some (Cond.stringRef q.1 q.2.1 q.2.2.1))
  | none => true) = true := by decide +kernel
theorem wy_len : zTx.length = 31 := rfl
theorem wy_in {i : Nat} {q : String × Nat × String × List Int32} (h : zTx[i]? = some q) : (∀ w ∈ wyW q, w ∈ flatC gn1) ∧ q.2.2.2.length < 100 ∧ Cond.stringRef q.1 q.2.1 q.2.2.1 ∈ tables_1 := by
  have hi : i < 31 := by
    have := (List.getElem?_eq_some_iff.mp h).1
    rwa [wy_len] at this
  have h1 := List.all_eq_true.mp wy_1 i (List.mem_range.mpr hi)
  have h2 := List.all_eq_true.mp wy_2 i (List.mem_range.mpr hi)
  rw [h] at h1 h2
  simp only [Bool.and_eq_true, decide_eq_true_eq] at h1 h2
  refine ⟨fun w hw => ?_, Nat.blt_eq.mp h1.2, List.mem_of_getElem? h2⟩
  rw [← h1.1] at hw
  exact List.mem_of_mem_drop (List.mem_of_mem_take hw)
theorem wy_ok {args : Array Value} {s : State} (hg : gn1.before args s = true) (ht : ∀ w ∈ tables_1, w.before args s = true) {i : Nat} {q : String × Nat × String × List Int32} (h : zTx[i]? = some q) :
    ∃ a : Nat, vk_R q.1 q.2.1 q.2.2.1 a s ∧ zStr s.heap.size a q.2.2.2 s s.heap := by
  obtain ⟨h1, h2, h3⟩ := wy_in h
  have hf := flat_of_before _ hg
  have hb : ∀ w ∈ wyW q, w.before args s = true := fun w hw => hf w (h1 w hw)
  have hl : ∀ i : Nat, i < 1 → i = 0 := fun i hi => by omega
  obtain ⟨adK, adV, hS, hE⟩ := vk_Sof (args := args) (s := s) (N := 1) (tm := fun _ => .string q.1 q.2.1) (len := [q.2.2.2.length]) (byt := [q.2.2.2]) (A := fun z => s.heap.size ≤ z)
    (fun i hi => by
      rw [hl i hi]
      show q.2.2.2.length < 2 ^ 31
      omega)
    (fun i hi => hb _ (by unfold wyW; simp))
    (fun i hi => hb _ (by unfold wyW; simp))
    (fun i hi => hb _ (by unfold wyW wyF; simp))
    (fun i hi => by
      rw [hl i hi]
      exact hb (.eq (.length (wyF q)) (.int (Int32.ofNat q.2.2.2.length))) (by unfold wyW; simp))
    (fun i hi j hj => by
      rw [hl i hi] at hj ⊢
      exact hb (.eq (.elem (wyF q) (.int (Int32.ofNat j))) (.int (q.2.2.2.getD j 0))) (List.mem_append_right _ (List.mem_map.mpr ⟨j, List.mem_range.mpr hj, rfl⟩)))
    (fun i j hi hj hne => absurd ((hl i hi).trans (hl j hj).symm) hne) (fun a ha => Nat.not_le.mpr ha)
  obtain ⟨b1, b2, b3, b4⟩ := hS.1 0 (by decide)
  exact ⟨adK 0, vk_R.of (ht _ h3) (hE 0 (by decide)), adV 0, b1, b2, b3, b4⟩
theorem cl_ok {args : Array Value} {s : State} (hz : ∀ w ∈ zws, w.before args s = true) : ∀ (ci : Nat) (q : vw_C), zcl[ci]? = some q → ∃ (cC : ClassId) (iS : Nat → Nat), u_Kn s q.1 q.2.1 q.2.2 cC iS
  | 0, _, h => by cases h; exact u_known (n := 10) hz (z_lays 0 _ rfl) (hz (.instantiable RX0 10) (z_at 165 (by decide +kernel) (by decide +kernel)))
  | 1, _, h => by cases h; exact u_known (n := 5) hz (z_lays 1 _ rfl) (hz (.instantiable RX1 5) (z_at 222 (by decide +kernel) (by decide +kernel)))
  | 2, _, h => by cases h; exact u_known (n := 5) hz (z_lays 2 _ rfl) (hz (.instantiable RX2 5) (z_at 244 (by decide +kernel) (by decide +kernel)))
  | 3, _, h => by cases h; exact u_known (n := 2) hz (z_lays 3 _ rfl) (hz (.instantiable RX3 2) (z_at 209 (by decide +kernel) (by decide +kernel)))
  | 4, _, h => by cases h; exact u_known (n := 6) hz (z_lays 4 _ rfl) (hz (.instantiable RX4 6) (z_at 297 (by decide +kernel) (by decide +kernel)))
  | 5, _, h => by cases h; exact u_known (n := 10) hz (z_lays 5 _ rfl) (hz (.instantiable RX5 10) (z_at 323 (by decide +kernel) (by decide +kernel)))
  | 6, _, h => by cases h; exact u_known (n := 12) hz (z_lays 6 _ rfl) (hz (.instantiable RX6 12) (z_at 52 (by decide +kernel) (by decide +kernel)))
  | 7, _, h => by cases h; exact u_known (n := 9) hz (z_lays 7 _ rfl) (hz (.instantiable RX7 9) (z_at 130 (by decide +kernel) (by decide +kernel)))
  | 8, _, h => by cases h; exact u_known (n := 3) hz (z_lays 8 _ rfl) (hz (.instantiable RX8 3) (z_at 362 (by decide +kernel) (by decide +kernel)))
  | 9, _, h => by cases h; exact u_known (n := 2) hz (z_lays 9 _ rfl) (hz (.instantiable RX9 2) (z_at 36 (by decide +kernel) (by decide +kernel)))
  | 10, _, h => by cases h; exact u_known (n := 7) hz (z_lays 10 _ rfl) (hz (.instantiable RX10 7) (z_at 266 (by decide +kernel) (by decide +kernel)))
  | 11, _, h => by cases h; exact u_known (n := 16) hz (z_lays 11 _ rfl) (hz (.instantiable RX11 16) (z_at 28 (by decide +kernel) (by decide +kernel)))
  | 12, _, h => by cases h; exact u_known (n := 69) hz (z_lays 12 _ rfl) (hz (.instantiable RX12 69) (z_at 1242 (by decide +kernel) (by decide +kernel)))
  | k + 13, _, h => by cases h
theorem ar_ok {args : Array Value} {s : State} {ty : FieldType} (h : (Cond.arrayClass ty).before args s = true) : ∃ cA : ClassId, ArrOfT s cA ty ∧ s.vm.findClass ("[" ++ ty.toString) = some cA := by
  obtain ⟨c, k, comp, h1, h2, h3⟩ := Cond.arrayClass_spec h
  exact ⟨c, fun n z => ⟨fun k h => (by cases h), k, h2, comp, h3⟩, h1⟩
set_option maxRecDepth 100000 in
theorem nest_in : ∀ w ∈ zNest, w ∈ tables_1 := List.forall_mem_cons.mpr ⟨(List.mem_of_getElem? (i := 37) (by decide +kernel)), List.forall_mem_cons.mpr ⟨(List.mem_of_getElem? (i := 166) (by decide +kernel)), List.forall_mem_cons.mpr ⟨(List.mem_of_getElem? (i := 363) (by decide +kernel)), List.forall_mem_cons.mpr ⟨(List.mem_of_getElem? (i := 475) (by decide +kernel)), List.forall_mem_cons.mpr ⟨(List.mem_of_getElem? (i := 964) (by decide +kernel)), fun _ h => by cases h⟩⟩⟩⟩⟩
theorem decl_in : ∀ w ∈ zDecl, w ∈ tables_1 := List.forall_mem_cons.mpr ⟨(List.mem_of_getElem? (i := 550) (by decide +kernel)), List.forall_mem_cons.mpr ⟨(List.mem_of_getElem? (i := 551) (by decide +kernel)), List.forall_mem_cons.mpr ⟨(List.mem_of_getElem? (i := 552) (by decide +kernel)), List.forall_mem_cons.mpr ⟨(List.mem_of_getElem? (i := 553) (by decide +kernel)), List.forall_mem_cons.mpr ⟨(List.mem_of_getElem? (i := 554) (by decide +kernel)), List.forall_mem_cons.mpr ⟨(List.mem_of_getElem? (i := 555) (by decide +kernel)), fun _ h => by cases h⟩⟩⟩⟩⟩⟩
theorem cast_in : ∀ q ∈ zCast, Cond.castable q.1 q.2 ∈ tables_1 := List.forall_mem_cons.mpr ⟨(List.mem_of_getElem? (i := 549) (by decide +kernel)), List.forall_mem_cons.mpr ⟨(List.mem_of_getElem? (i := 801) (by decide +kernel)), fun _ h => by cases h⟩⟩
theorem nest_t : ∀ w ∈ zNest, w.onTables = true := by decide +kernel
theorem decl_t : ∀ w ∈ zDecl, w.onTables = true := by decide +kernel
/-- the ghost at the entry -/
theorem world_ok {l : Launch} {args : Array Value} {s : State} {b L : Nat} {xs : Nat → Int32} (hl : l.stackTraces = false) (hL : L ≤ 3072) (hg : gn1.before args s = true) (ht : ∀ w ∈ lw_tbl, w.before args s = true) (hX : va_X b L xs s s.heap) (hb : b < s.heap.size) : ∃ g : zG, zW l g s ∧ scP b L xs g s ∧ g.2.2.1 = s.heap.size ∧ g.2.2.2.2 = s.heap := by
  have hz : ∀ w ∈ zws, w.before args s = true := fun w hw => ht w (List.mem_filter.mp hw).1
  have h1 : ∀ w ∈ tables_1, w.before args s = true := fun w hw => ht w (z_tab hw)
  have hf := flat_of_before _ hg
  have hA : ∀ a : Nat, a < s.heap.size → ¬ s.heap.size ≤ a := fun a ha => Nat.not_le.mpr ha
  have hc : ∀ ci : Nat, ∃ x : ClassId × (Nat → Nat), ∀ q, zcl[ci]? = some q → u_Kn s q.1 q.2.1 q.2.2 x.1 x.2 := fun ci => by
    cases h : zcl[ci]? with
    | none => exact ⟨(0, fun _ => 0), fun q hq => by cases hq⟩
    | some q =>
      obtain ⟨cC, iS, hk⟩ := cl_ok hz ci q h
      exact ⟨(cC, iS), fun q' hq' => by cases hq'; exact hk⟩
  obtain ⟨fc, hfc⟩ := Classical.axiomOfChoice hc
  have hx : ∀ i : Nat, ∃ a : Nat, ∀ q, zTx[i]? = some q → vk_R q.1 q.2.1 q.2.2.1 a s ∧ zStr s.heap.size a q.2.2.2 s s.heap := fun i => by
    cases h : zTx[i]? with
    | none => exact ⟨0, fun q hq => by cases hq⟩
    | some q =>
      obtain ⟨a, ha⟩ := wy_ok hg h1 h
      exact ⟨a, fun q' hq' => by cases hq'; exact ha⟩
  obtain ⟨fa, hfa⟩ := Classical.axiomOfChoice hx
  obtain ⟨cI, i1, i2⟩ := ar_ok (hz _ zar_i)
  obtain ⟨cB, b1, b2⟩ := ar_ok (hz _ zar_b)
  obtain ⟨cJ, j1, j2⟩ := ar_ok (hz _ zar_l)
  refine ⟨((fun ci => (fc ci).1, fun ci => (fc ci).2), (cI, cB, cJ), s.heap.size, fun i => if i = 31 then b else fa i, s.heap), ⟨⟨fun c q hq => hfc c q hq, fun k q hk => ?_⟩, rfl, hl, ?_, ?_, ⟨?_, ?_⟩, fun w hw => va_Nw.of (nest_t w hw) (h1 w (nest_in w hw)), fun q hq => va_Nw.of rfl (h1 _ (cast_in q hq)), ?_, fun i q hq => ?_, fun w hw => va_Nw.of (decl_t w hw) (h1 w (decl_in w hw))⟩, ⟨rfl, ?_⟩, rfl, rfl⟩
  · match k, hk with
    | 0, hk => cases hk; exact ⟨i1, i2⟩
    | 1, hk => cases hk; exact ⟨b1, b2⟩
    | 2, hk => cases hk; exact ⟨j1, j2⟩
    | k + 3, hk => cases hk
  · exact vx_Zqof (h1 (.laysStatic "java/lang/Throwable" "UNASSIGNED_STACK" "[Ljava/lang/StackTraceElement;") (List.mem_of_getElem? (i := 574) (by decide +kernel))) (h1 (.initialized "java/lang/Throwable") (List.mem_of_getElem? (i := 14) (by decide +kernel))) (hf (.isRef (.static "java/lang/Throwable" "UNASSIGNED_STACK" "[Ljava/lang/StackTraceElement;")) (List.mem_of_getElem? (i := 4) (by decide +kernel))) hA
  · exact vx_Zqof (h1 (.laysStatic "java/lang/Throwable" "SUPPRESSED_SENTINEL" "Ljava/util/List;") (List.mem_of_getElem? (i := 576) (by decide +kernel))) (h1 (.initialized "java/lang/Throwable") (List.mem_of_getElem? (i := 14) (by decide +kernel))) (hf (.isRef (.static "java/lang/Throwable" "SUPPRESSED_SENTINEL" "Ljava/util/List;")) (List.mem_of_getElem? (i := 5) (by decide +kernel))) hA
  · exact va_Zof (h1 (.laysStatic "java/lang/String" "COMPACT_STRINGS" "Z") (List.mem_of_getElem? (i := 657) (by decide +kernel))) (h1 (.initialized "java/lang/String") (List.mem_of_getElem? (i := 20) (by decide +kernel))) (va_eqt (hf (.eq (.static "java/lang/String" "COMPACT_STRINGS" "Z") (.int 1)) (List.mem_of_getElem? (i := 6) (by decide +kernel)))) hA
  · exact vx_Zqof (h1 (.laysStatic "jdk/internal/util/Preconditions" "SIOOBE_FORMATTER" "Ljava/util/function/BiFunction;") (List.mem_of_getElem? (i := 673) (by decide +kernel))) (h1 (.initialized "jdk/internal/util/Preconditions") (List.mem_of_getElem? (i := 22) (by decide +kernel))) (hf (.isRef (.static "jdk/internal/util/Preconditions" "SIOOBE_FORMATTER" "Ljava/util/function/BiFunction;")) (List.mem_of_getElem? (i := 7) (by decide +kernel))) hA
  · exact va_Nc.of (hf (.not (.castable "java/lang/IllegalArgumentException" "java/util/NoSuchElementException")) (List.mem_of_getElem? (i := 38) (by decide +kernel)))
  · have hi : i < 31 := by
      have := (List.getElem?_eq_some_iff.mp hq).1
      rwa [wy_len] at this
    show vk_R q.1 q.2.1 q.2.2.1 (if i = 31 then b else fa i) s ∧ zStr s.heap.size (if i = 31 then b else fa i) q.2.2.2 s s.heap
    rw [if_neg (by omega)]
    exact hfa i q hq
  · obtain ⟨scr, x1, x2, x3, x4, x5⟩ := hX
    exact ⟨scr, x1, x2, x3, Nat.le_of_eq x4.symm, congrArg Nat.toInt32 x4, x5, hA b hb⟩
