/-- fields: the class that speaks, its pool number, the field's class, its number, the place of the word -/
def zfl : List (Nat × Nat × Nat × Nat × Nat) := [(9, 9, 9, 0, 41), (11, 28, 9, 0, 42), (9, 15, 9, 1, 43), (11, 124, 9, 1, 44), (6, 9, 6, 0, 61), (3, 53, 6, 0, 62), (11, 186, 6, 0, 63), (6, 15, 6, 1, 64), (3, 30, 6, 1, 65), (1, 64, 6, 1, 66), (7, 105, 6, 1, 67), (11, 189, 6, 1, 68), (6, 18, 6, 2, 69), (1, 70, 6, 2, 70), (11, 195, 6, 2, 71), (7, 141, 6, 2, 72), (6, 21, 6, 3, 73), (0, 48, 6, 3, 74), (7, 114, 6, 3, 75), (6, 24, 6, 4, 76), (0, 61, 6, 4, 77), (6, 27, 6, 5, 78), (6, 30, 6, 6, 79), (11, 171, 6, 6, 80), (4, 32, 6, 7, 81), (6, 36, 6, 7, 82), (1, 58, 6, 7, 83), (10, 48, 6, 7, 84), (7, 85, 6, 7, 85), (11, 150, 6, 7, 86), (0, 43, 6, 8, 87), (2, 34, 6, 8, 88), (5, 48, 6, 8, 89), (1, 46, 6, 8, 90), (6, 40, 6, 8, 91), (7, 99, 6, 8, 92), (11, 153, 6, 8, 93), (0, 58, 6, 9, 94), (6, 43, 6, 9, 95), (11, 156, 6, 9, 96), (7, 119, 6, 9, 97), (6, 46, 6, 10, 98), (11, 159, 6, 10, 99), (7, 125, 6, 10, 100), (6, 49, 6, 11, 101), (7, 144, 6, 11, 102), (7, 9, 7, 0, 135), (7, 15, 7, 1, 136), (7, 25, 7, 2, 137), (7, 29, 7, 3, 138), (7, 46, 7, 4, 139), (7, 172, 7, 5, 140), (7, 169, 7, 6, 141), (7, 32, 7, 7, 142), (7, 35, 7, 8, 143), (11, 138, 7, 8, 144), (0, 9, 0, 0, 170), (0, 15, 0, 1, 171), (0, 18, 0, 2, 172), (0, 21, 0, 3, 173), (0, 24, 0, 4, 174), (0, 27, 0, 5, 175), (11, 245, 0, 5, 176), (0, 30, 0, 6, 177), (1, 67, 0, 6, 178), (0, 37, 0, 7, 179), (11, 162, 0, 7, 180), (0, 33, 0, 8, 181), (1, 27, 0, 8, 182), (11, 165, 0, 8, 183), (1, 61, 0, 9, 184), (0, 70, 0, 9, 185), (11, 168, 0, 9, 186), (3, 9, 3, 0, 214), (3, 15, 3, 1, 215), (1, 15, 1, 0, 227), (1, 19, 1, 1, 228), (1, 23, 1, 2, 229), (1, 9, 1, 3, 230), (1, 39, 1, 4, 231), (2, 18, 2, 0, 249), (2, 22, 2, 1, 250), (2, 26, 2, 2, 251), (2, 9, 2, 3, 252), (2, 15, 2, 4, 253), (10, 24, 10, 0, 271), (10, 28, 10, 1, 272), (10, 9, 10, 2, 273), (10, 15, 10, 3, 274), (10, 18, 10, 4, 275), (11, 297, 10, 4, 276), (10, 21, 10, 5, 277), (11, 299, 10, 5, 278), (11, 148, 10, 6, 279), (10, 66, 10, 6, 280), (4, 24, 4, 0, 302), (4, 28, 4, 1, 303), (4, 9, 4, 2, 304), (4, 15, 4, 3, 305), (4, 18, 4, 4, 306), (4, 21, 4, 5, 307), (11, 309, 4, 5, 308), (5, 30, 5, 0, 328), (5, 34, 5, 1, 329), (5, 38, 5, 2, 330), (5, 9, 5, 3, 331), (5, 15, 5, 4, 332), (5, 18, 5, 5, 333), (5, 21, 5, 6, 334), (5, 24, 5, 7, 335), (5, 27, 5, 8, 336), (11, 319, 5, 8, 337), (5, 79, 5, 9, 338), (11, 149, 5, 9, 339), (8, 9, 8, 0, 367), (11, 337, 8, 0, 368), (8, 19, 8, 1, 369), (11, 334, 8, 1, 370), (8, 15, 8, 2, 371), (11, 12, 11, 0, 379), (11, 19, 11, 1, 380), (11, 23, 11, 2, 381), (11, 35, 11, 3, 382), (11, 42, 11, 4, 383), (11, 46, 11, 5, 384), (11, 54, 11, 6, 385), (11, 63, 11, 7, 386), (11, 70, 11, 8, 387), (11, 79, 11, 9, 388), (11, 86, 11, 10, 389), (11, 93, 11, 11, 390), (11, 100, 11, 12, 391), (11, 104, 11, 13, 392), (11, 108, 11, 14, 393), (11, 112, 11, 15, 394), (12, 134, 12, 0, 1247), (12, 248, 12, 1, 1248), (12, 251, 12, 2, 1249), (12, 254, 12, 3, 1250), (12, 257, 12, 4, 1251), (12, 7, 12, 5, 1252), (12, 13, 12, 6, 1253), (12, 16, 12, 7, 1254), (12, 19, 12, 8, 1255), (12, 22, 12, 9, 1256), (12, 25, 12, 10, 1257), (12, 28, 12, 11, 1258), (12, 31, 12, 12, 1259), (12, 137, 12, 13, 1260), (12, 187, 12, 14, 1261), (12, 34, 12, 15, 1262), (12, 38, 12, 16, 1263), (12, 144, 12, 17, 1264), (12, 147, 12, 18, 1265), (12, 164, 12, 19, 1266), (12, 154, 12, 20, 1267), (12, 174, 12, 21, 1268), (12, 161, 12, 22, 1269), (12, 157, 12, 23, 1270), (12, 209, 12, 24, 1271), (12, 206, 12, 25, 1272), (12, 232, 12, 26, 1273), (12, 212, 12, 27, 1274), (12, 238, 12, 28, 1275), (12, 41, 12, 29, 1276), (12, 44, 12, 30, 1277), (12, 47, 12, 31, 1278), (12, 50, 12, 32, 1279), (12, 53, 12, 33, 1280), (12, 56, 12, 34, 1281), (12, 59, 12, 35, 1282), (12, 264, 12, 36, 1283), (12, 62, 12, 37, 1284), (12, 65, 12, 38, 1285), (12, 68, 12, 39, 1286), (12, 71, 12, 40, 1287), (12, 267, 12, 41, 1288), (12, 74, 12, 42, 1289), (12, 77, 12, 43, 1290), (12, 80, 12, 44, 1291), (12, 331, 12, 45, 1292), (12, 83, 12, 46, 1293), (12, 86, 12, 47, 1294), (12, 89, 12, 48, 1295), (12, 92, 12, 49, 1296), (12, 95, 12, 50, 1297), (12, 98, 12, 51, 1298), (12, 270, 12, 52, 1299), (12, 101, 12, 53, 1300), (12, 104, 12, 54, 1301), (12, 107, 12, 55, 1302), (12, 273, 12, 56, 1303), (12, 110, 12, 57, 1304), (12, 113, 12, 58, 1305), (12, 389, 12, 59, 1306), (12, 392, 12, 60, 1307), (12, 116, 12, 61, 1308), (12, 407, 12, 62, 1309), (12, 277, 12, 63, 1310), (12, 119, 12, 64, 1311), (12, 122, 12, 65, 1312), (12, 125, 12, 66, 1313), (12, 128, 12, 67, 1314), (12, 131, 12, 68, 1315)]
def zkc : List (Nat × Nat × Int32 × Nat) := [(14, 265, 1431655765, 471), (14, 266, 858993459, 472), (14, 267, 252645135, 473), (0, 86, 1103515245, 474), (12, 320, 1103515245, 1628)]
def znw : List (Nat × Nat × Nat × Nat × Nat × Nat × Nat) := [(13, 8, 11, 16, 27, 28, 1), (11, 9, 9, 2, 35, 36, 2), (11, 16, 6, 12, 51, 52, 3), (11, 26, 7, 9, 129, 130, 4), (11, 39, 0, 10, 164, 165, 5), (11, 49, 3, 2, 208, 209, 6), (11, 58, 1, 5, 221, 222, 7), (11, 67, 2, 5, 243, 244, 8), (11, 74, 10, 7, 265, 266, 9), (11, 83, 4, 6, 296, 297, 10), (11, 90, 5, 10, 322, 323, 11), (11, 97, 8, 3, 361, 362, 12), (13, 96, 12, 69, 1241, 1242, 13)]
def zob : List (Nat × Nat × Nat) := [(11, 3, 32), (9, 3, 40), (6, 3, 56), (7, 3, 134), (0, 3, 169), (3, 3, 213), (1, 3, 226), (2, 3, 248), (10, 3, 270), (4, 3, 301), (5, 3, 327), (8, 3, 366), (12, 1, 1246)]
def zflB (q : Nat × Nat × Nat × Nat × Nat) : Bool := match zcl[q.2.2.1]? with
  | some c => decide (q.2.2.2.1 < c.2.2) && decide (tables_1[q.2.2.2.2]? = some (.fieldLink (zown q.1) q.2.1 (c.2.1 q.2.2.2.1).1 (c.2.1 q.2.2.2.1).2.1 (c.2.1 q.2.2.2.1).2.2.1)) && goodWord (.fieldLink (zown q.1) q.2.1 (c.2.1 q.2.2.2.1).1 (c.2.1 q.2.2.2.1).2.1 (c.2.1 q.2.2.2.1).2.2.1)
  | none => false
set_option maxRecDepth 100000 in
theorem zfl_ok : zfl.all zflB = true := by decide +kernel
/-- which field a pool number names -/
def zfd (o i : Nat) : Option (Nat × Nat) := (zfl.find? (fun q => q.1 == o && q.2.1 == i)).map (fun q => (q.2.2.1, q.2.2.2.1))
theorem zfd_ok {o i ci k : Nat} (h : zfd o i = some (ci, k)) : ∃ c : vw_C, zcl[ci]? = some c ∧ k < c.2.2 ∧ Cond.fieldLink (zown o) i (c.2.1 k).1 (c.2.1 k).2.1 (c.2.1 k).2.2.1 ∈ zws := by
  unfold zfd at h
  cases hf : zfl.find? (fun q => q.1 == o && q.2.1 == i) with
  | none => rw [hf] at h; cases h
  | some q =>
    rw [hf] at h
    have h1 := List.find?_some hf
    have h2 := List.all_eq_true.mp zfl_ok q (List.mem_of_find?_eq_some hf)
    simp only [Bool.and_eq_true, beq_iff_eq] at h1
    simp only [Option.map_some, Option.some.injEq, Prod.mk.injEq] at h
    obtain ⟨rfl, rfl⟩ := h
    obtain ⟨rfl, rfl⟩ := h1
    unfold zflB at h2
    cases hc : zcl[q.2.2.1]? with
    | none => rw [hc] at h2; cases h2
    | some c =>
      rw [hc] at h2
      simp only [Bool.and_eq_true, decide_eq_true_eq] at h2
      exact ⟨c, rfl, h2.1.1, z_at _ h2.1.2 h2.2⟩
def zkcB (q : Nat × Nat × Int32 × Nat) : Bool := decide (tables_1[q.2.2.2]? = some (.constant (zown q.1) q.2.1 q.2.2.1)) && goodWord (.constant (zown q.1) q.2.1 q.2.2.1)
theorem zkc_ok : zkc.all zkcB = true := by decide +kernel
def zcv (o i : Nat) : Option Int32 := (zkc.find? (fun q => q.1 == o && q.2.1 == i)).map (fun q => q.2.2.1)
theorem zcv_ok {o i : Nat} {v : Int32} (h : zcv o i = some v) : Cond.constant (zown o) i v ∈ zws := by
  unfold zcv at h
  cases hf : zkc.find? (fun q => q.1 == o && q.2.1 == i) with
  | none => rw [hf] at h; cases h
  | some q =>
    rw [hf] at h
    have h1 := List.find?_some hf
    have h2 := List.all_eq_true.mp zkc_ok q (List.mem_of_find?_eq_some hf)
    simp only [Bool.and_eq_true, beq_iff_eq] at h1
    simp only [Option.map_some, Option.some.injEq] at h
    subst h
    obtain ⟨rfl, rfl⟩ := h1
    simp only [zkcB, Bool.and_eq_true, decide_eq_true_eq] at h2
    exact z_at _ h2.1 h2.2
def znwB (q : Nat × Nat × Nat × Nat × Nat × Nat × Nat) : Bool := match zcl[q.2.2.1]? with
  | some c => decide (c.2.2 = q.2.2.2.1) && decide (tables_1[q.2.2.2.2.1]? = some (.classLink (zown q.1) q.2.1 c.1)) && decide (tables_1[q.2.2.2.2.2.1]? = some (.instantiable c.1 c.2.2)) && decide (tables_1[q.2.2.2.2.2.2]? = some (.initialized c.1)) && goodWord (.classLink (zown q.1) q.2.1 c.1) && goodWord (.instantiable c.1 c.2.2) && goodWord (.initialized c.1)
  | none => false
theorem znw_ok : znw.all znwB = true := by decide +kernel
def znc (o i : Nat) : Option (Nat × Nat) := (znw.find? (fun q => q.1 == o && q.2.1 == i)).map (fun q => (q.2.2.1, q.2.2.2.1))
theorem znc_ok {o i ci n : Nat} (h : znc o i = some (ci, n)) : ∃ c : vw_C, zcl[ci]? = some c ∧ c.2.2 = n ∧ Cond.classLink (zown o) i c.1 ∈ zws ∧ Cond.instantiable c.1 c.2.2 ∈ zws ∧ Cond.initialized c.1 ∈ zws := by
  unfold znc at h
  cases hf : znw.find? (fun q => q.1 == o && q.2.1 == i) with
  | none => rw [hf] at h; cases h
  | some q =>
    rw [hf] at h
    have h1 := List.find?_some hf
    have h2 := List.all_eq_true.mp znw_ok q (List.mem_of_find?_eq_some hf)
    simp only [Bool.and_eq_true, beq_iff_eq] at h1
    simp only [Option.map_some, Option.some.injEq, Prod.mk.injEq] at h
    obtain ⟨rfl, rfl⟩ := h
    obtain ⟨rfl, rfl⟩ := h1
    unfold znwB at h2
    cases hc : zcl[q.2.2.1]? with
    | none => rw [hc] at h2; cases h2
    | some c =>
      rw [hc] at h2
      simp only [Bool.and_eq_true, decide_eq_true_eq] at h2
      exact ⟨c, rfl, h2.1.1.1.1.1.1, z_at _ h2.1.1.1.1.1.2 h2.1.1.2, z_at _ h2.1.1.1.1.2 h2.1.2, z_at _ h2.1.1.1.2 h2.2⟩
def zobB (q : Nat × Nat × Nat) : Bool := decide (tables_1[q.2.2]? = some (.methodLink (zown q.1) q.2.1 Lib.objectInit)) && goodWord (.methodLink (zown q.1) q.2.1 Lib.objectInit)
theorem zob_ok : zob.all zobB = true := by decide +kernel
def zoi (o i : Nat) : Bool := zob.any (fun q => q.1 == o && q.2.1 == i)
theorem zoi_ok {o i : Nat} (h : zoi o i = true) : Cond.methodLink (zown o) i Lib.objectInit ∈ zws := by
  unfold zoi at h
  obtain ⟨q, hq, h1⟩ := List.any_eq_true.mp h
  have h2 := List.all_eq_true.mp zob_ok q hq
  simp only [Bool.and_eq_true, beq_iff_eq] at h1
  obtain ⟨rfl, rfl⟩ := h1
  simp only [zobB, Bool.and_eq_true, decide_eq_true_eq] at h2
  exact z_at _ h2.1 h2.2
theorem zob_i : Cond.instanceMethod Lib.objectInit ∈ zws := z_at 33 (by decide +kernel) (by decide +kernel)
theorem zob_c : Cond.code Lib.objectInit ⟨#[0xb1]⟩ 1 none ∈ zws := z_at 34 (by decide +kernel) (by decide +kernel)
theorem zar_i : Cond.arrayClass .int ∈ zws := z_at 128 (by decide +kernel) (by decide +kernel)
theorem zar_b : Cond.arrayClass .byte ∈ zws := z_at 50 (by decide +kernel) (by decide +kernel)
theorem zar_l : Cond.arrayClass .long ∈ zws := z_at 1831 (by decide +kernel) (by decide +kernel)
theorem zkl : Cond.constantLong RX12 177 96 ∈ zws := z_at 1507 (by decide +kernel) (by decide +kernel)
theorem z_decl : ∀ (ci : Nat) (q : vw_C), zcl[ci]? = some q → zown ci = q.1 ∧ ∀ k, k < q.2.2 → (q.2.1 k).1 = q.1
  | 0, _, h => by cases h; exact ⟨rfl, by decide +kernel⟩
  | 1, _, h => by cases h; exact ⟨rfl, by decide +kernel⟩
  | 2, _, h => by cases h; exact ⟨rfl, by decide +kernel⟩
  | 3, _, h => by cases h; exact ⟨rfl, by decide +kernel⟩
  | 4, _, h => by cases h; exact ⟨rfl, by decide +kernel⟩
  | 5, _, h => by cases h; exact ⟨rfl, by decide +kernel⟩
  | 6, _, h => by cases h; exact ⟨rfl, by decide +kernel⟩
  | 7, _, h => by cases h; exact ⟨rfl, by decide +kernel⟩
  | 8, _, h => by cases h; exact ⟨rfl, by decide +kernel⟩
  | 9, _, h => by cases h; exact ⟨rfl, by decide +kernel⟩
  | 10, _, h => by cases h; exact ⟨rfl, by decide +kernel⟩
  | 11, _, h => by cases h; exact ⟨rfl, by decide +kernel⟩
  | 12, _, h => by cases h; exact ⟨rfl, by decide +kernel⟩
  | _ + 13, _, h => by cases h
