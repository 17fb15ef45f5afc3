section
variable {l : Launch} {d mc ms : Nat} {f : zF} {M : zM} {pc : Nat} {lo : List (Nat × Value)} {st : List Value} {Q : zR → zM → Prop}
theorem znew_k (M : zM) (kd : Nat × Nat) : (znew M kd).2.1 M.1 = kd := by simp [znew]
theorem znew_o (M : zM) (kd : Nat × Nat) {x : Nat} (h : x ≠ M.1) : (znew M kd).2.1 x = M.2.1 x := by show (bif x == M.1 then kd else M.2.1 x) = _; rw [show (x == M.1) = false by simpa using h]; rfl
theorem znew_b {x y : Nat} (h : x ≠ y) : (x == y) = false := by simpa using h
theorem znew_r {M : zM} {kd : Nat × Nat} {x : Nat} (h : x ≠ M.1) : (znew M kd).2.2.1 x = M.2.2.1 x := funext fun j => by show (bif x == M.1 then 0 else M.2.2.1 x j) = _; rw [znew_b h]; rfl
theorem znew_i {M : zM} {kd : Nat × Nat} {x : Nat} (h : x ≠ M.1) : (znew M kd).2.2.2.1 x = M.2.2.2.1 x := funext fun j => by show (bif x == M.1 then 0 else M.2.2.2.1 x j) = _; rw [znew_b h]; rfl
theorem znew_j {M : zM} {kd : Nat × Nat} {x : Nat} (h : x ≠ M.1) : (znew M kd).2.2.2.2 x = M.2.2.2.2 x := funext fun j => by show (bif x == M.1 then 0 else M.2.2.2.2 x j) = _; rw [znew_b h]; rfl
theorem zdef (ty : FieldType) (g : zG) (v : Value) (h : v = match ty with | .long => Value.long 0 | .object _ => Value.null | .array _ => Value.null | _ => Value.int 0) (hty : ty = .int ∨ ty = .boolean ∨ ty = .long ∨ (∃ n, ty = .object n) ∨ ∃ t, ty = .array t) : defaultValue ty = zc g v := by
  rcases hty with rfl | rfl | rfl | ⟨n, rfl⟩ | ⟨t, rfl⟩ <;> subst h <;> rfl
def zprim (t : FieldType) : Bool := match t with
  | .int => true
  | .boolean => true
  | .long => true
  | .object _ => true
  | .array _ => true
  | _ => false
theorem zprim_ok {t : FieldType} (h : zprim t = true) : t = .int ∨ t = .boolean ∨ t = .long ∨ (∃ n, t = .object n) ∨ ∃ u, t = .array u := by
  cases t <;> first | (cases h; done) | simp
theorem zprim_all : ∀ (ci : Nat) (q : vw_C), zcl[ci]? = some q → ∀ k, k < q.2.2 → zprim (tyT ci k) = true
  | 0, _, h => by cases h; decide +kernel
  | 1, _, h => by cases h; decide +kernel
  | 2, _, h => by cases h; decide +kernel
  | 3, _, h => by cases h; decide +kernel
  | 4, _, h => by cases h; decide +kernel
  | 5, _, h => by cases h; decide +kernel
  | 6, _, h => by cases h; decide +kernel
  | 7, _, h => by cases h; decide +kernel
  | 8, _, h => by cases h; decide +kernel
  | 9, _, h => by cases h; decide +kernel
  | 10, _, h => by cases h; decide +kernel
  | 11, _, h => by cases h; decide +kernel
  | 12, _, h => by cases h; decide +kernel
  | _ + 13, _, h => by cases h
theorem zs_new {i a b : Nat} (hd : decode f.2.1 pc = .ok (.new i, 3)) (hf : znc f.1 i = some (a, b)) (hq : (Nat.ble 1 mc && Nat.ble b ms && Nat.blt (M.1 + 1) 100000) = true)
    (h : zGo l d (mc - 1) (ms - b) f (znew M (0, a)) (pc + 3) lo (.ref M.1 :: st) Q) : zGo l d mc ms f M pc lo st Q := by
  intro g p e R s m args below meth c H locs cells slots ls hC a2 a3 a4 a5 a6 a7 a8
  simp only [Bool.and_eq_true, Nat.ble_eq, Nat.blt_eq] at hq
  obtain ⟨⟨hq1, hq2⟩, hq3⟩ := hq
  obtain ⟨q, hq, hb, hl1, hl2, hl3⟩ := znc_ok hf
  obtain ⟨hx, hcb, hr, hml, hown, hlocks, hts, hw, ht, hin⟩ := id hC
  have hKn := hw.1.1 a q hq
  refine W.newcK (n := q.2.2) hx hcb hown (hts _ hl1) (hts _ hl2) (hts _ hl3) rfl hd (by omega) (by omega) hKn.2.1 rfl fun H1 kC hkC e1 z1 o1 => ?_
  have hsz := a7.1
  have had : zad g M.1 = H.size := by
    unfold zad
    rw [if_pos (by omega)]; omega
  have hst : (Value.ref H.size :: st.map (zc g)) = ((.ref M.1 :: st : List Value).map (zc g)) := by
    show _ = Value.ref (zad g M.1) :: _
    rw [had]
  show W p l e R s m args below meth c H1 locs _ _ _ (F0 m (pc + 3) ls (Value.ref H.size :: st.map (zc g)))
  rw [hst]
  refine h g p e R s m args below meth c H1 locs _ _ ls hC a2 a3 (by omega) (by rw [hb]; omega) a6 (a7.new rfl (fun _ => by omega) (fun x hx => znew_o M _ hx) z1 (fun q hq => o1 q hq) (fun x hx => znew_r hx) (fun x hx => znew_i hx) (fun x hx => znew_j hx) (fun _ => ?_)) a8
  unfold zcell
  rw [znew_k]
  refine ⟨q, hq, ?_⟩
  rw [← hsz]
  refine (u_born (tyT a) hts (z_lays a q hq) hKn hkC e1 (z_ty a q hq)).to (fun k hk => ?_)
  refine zdef (tyT a k) g _ ?_ (zprim_ok (zprim_all a q hq k hk))
  unfold zfv
  simp only [znew, beq_self_eq_true, cond_true]
  rcases zprim_ok (zprim_all a q hq k hk) with h | h | h | ⟨n, h⟩ | ⟨t, h⟩ <;> rw [h] <;> rfl
theorem znewa {at0 : ArrayType} {a : Nat} {n : Int32} {ty : FieldType} {cA : zG → ClassId} (hd : decode f.2.1 pc = .ok (.newarray at0, 2)) (hty : newarray.typeOf at0 = ty) (hq : (Nat.ble 1 mc && Nat.ble n.toNatClampNeg ms && Nat.ble n.toNatClampNeg 1000000 && decide (¬ n < 0) && Nat.blt (M.1 + 1) 100000) = true) (hw0 : Cond.arrayClass ty ∈ zws) (hcb : componentBytes ty ≤ 8)
    (hca : ∀ g U, zW l g U → U.vm.findClass ("[" ++ ty.toString) = some (cA g))
    (hce : ∀ g H1, H1[g.2.2.1 + M.1]? = some (arrV (cA g) n.toNatClampNeg (fun _ => defaultValue ty)) → zcell g (znew M (a, n.toNatClampNeg)) H1 M.1)
    (h : zGo l d (mc - 1) (ms - n.toNatClampNeg) f (znew M (a, n.toNatClampNeg)) (pc + 2) lo (.ref M.1 :: st) Q) : zGo l d mc ms f M pc lo (.int n :: st) Q := by
  intro g p e R s m args below meth c H locs cells slots ls hC a2 a3 a4 a5 a6 a7 a8
  simp only [Bool.and_eq_true, Nat.ble_eq, Nat.blt_eq, decide_eq_true_eq] at hq
  obtain ⟨⟨⟨⟨q1, q2⟩, q3⟩, q4⟩, q5⟩ := hq
  obtain ⟨hx, hcc, hr, hml, hown, hlocks, hts, hw, ht, hin⟩ := id hC
  subst hty
  have hbytes : n.toNatClampNeg * componentBytes (newarray.typeOf at0) ≤ 536870912 := Nat.le_trans (Nat.mul_le_mul q3 hcb) (by decide)
  refine va_newaK hx hcc (hts _ hw0) rfl hd rfl q4 rfl hbytes (by omega) (by omega) rfl fun H1 cB e1 z1 o1 hAr hNm => ?_
  have hcA : cB = cA g := Option.some.inj (hNm.symm.trans (hca g s hw))
  subst hcA
  have hsz := a7.1
  have had : zad g M.1 = H.size := by
    unfold zad
    rw [if_pos (by omega)]; omega
  have hst : (Value.ref H.size :: st.map (zc g)) = ((.ref M.1 :: st : List Value).map (zc g)) := by
    show _ = Value.ref (zad g M.1) :: _
    rw [had]
  show W p l e R s m args below meth c H1 locs _ _ _ (F0 m (pc + 2) ls (Value.ref H.size :: st.map (zc g)))
  rw [hst]
  exact h g p e R s m args below meth c H1 locs _ _ ls hC a2 a3 (by omega) (by omega) a6 (a7.new rfl (fun _ => by omega) (fun x hx => znew_o M _ hx) z1 (fun q hq => o1 q hq) (fun x hx => znew_r hx) (fun x hx => znew_i hx) (fun x hx => znew_j hx) (fun _ => hce g H1 (by rw [← hsz]; exact e1))) a8
theorem zs_newI {n : Int32} (hd : decode f.2.1 pc = .ok (.newarray .int, 2)) (hq : (Nat.ble 1 mc && Nat.ble n.toNatClampNeg ms && Nat.ble n.toNatClampNeg 1000000 && decide (¬ n < 0) && Nat.blt (M.1 + 1) 100000) = true)
    (h : zGo l d (mc - 1) (ms - n.toNatClampNeg) f (znew M (1, n.toNatClampNeg)) (pc + 2) lo (.ref M.1 :: st) Q) : zGo l d mc ms f M pc lo (.int n :: st) Q :=
  znewa (a := 1) (cA := fun g => g.2.1.1) hd rfl hq zar_i (by decide) (fun g U hw => (hw.1.2 0 _ rfl).2) (fun g H1 e => by
    unfold zcell
    rw [znew_k]
    simp only [znew, beq_self_eq_true, cond_true]
    exact e) h
theorem zs_newB {n : Int32} (hd : decode f.2.1 pc = .ok (.newarray .byte, 2)) (hq : (Nat.ble 1 mc && Nat.ble n.toNatClampNeg ms && Nat.ble n.toNatClampNeg 1000000 && decide (¬ n < 0) && Nat.blt (M.1 + 1) 100000) = true)
    (h : zGo l d (mc - 1) (ms - n.toNatClampNeg) f (znew M (2, n.toNatClampNeg)) (pc + 2) lo (.ref M.1 :: st) Q) : zGo l d mc ms f M pc lo (.int n :: st) Q :=
  znewa (a := 2) (cA := fun g => g.2.1.2.1) hd rfl hq zar_b (by decide) (fun g U hw => (hw.1.2 1 _ rfl).2) (fun g H1 e => by
    unfold zcell
    rw [znew_k]
    simp only [znew, beq_self_eq_true, cond_true]
    exact e) h
theorem zs_newL {n : Int32} (hd : decode f.2.1 pc = .ok (.newarray .long, 2)) (hq : (Nat.ble 1 mc && Nat.ble n.toNatClampNeg ms && Nat.ble n.toNatClampNeg 1000000 && decide (¬ n < 0) && Nat.blt (M.1 + 1) 100000) = true)
    (h : zGo l d (mc - 1) (ms - n.toNatClampNeg) f (znew M (3, n.toNatClampNeg)) (pc + 2) lo (.ref M.1 :: st) Q) : zGo l d mc ms f M pc lo (.int n :: st) Q :=
  znewa (a := 3) (cA := fun g => g.2.1.2.2) hd rfl hq zar_l (by decide) (fun g U hw => (hw.1.2 2 _ rfl).2) (fun g H1 e => by
    unfold zcell
    rw [znew_k]
    simp only [znew, beq_self_eq_true, cond_true]
    exact e) h
set_option maxHeartbeats 4000000 in
/-- ONE STEP -/
theorem z_step {e : zI} (he : zpre f.1 f.2.1 pc = some e) (h : zst d f e mc ms M lo st (fun mc ms M pc lo st => zGo l d mc ms f M pc lo st Q) Q) : zGo l d mc ms f M pc lo st Q := by
  unfold zpre at he
  split at he
  case h_1 n hd => cases he; exact zs_iconst hd h
  case h_2 n hd => cases he; exact zs_bipush hd h
  case h_3 n hd => cases he; exact zs_sipush hd h
  case h_4 i hd =>
    cases hv : zcv f.1 i with
    | none => rw [hv] at he; cases he
    | some v => rw [hv] at he; cases he; exact zs_ldc hv hd h
  case h_5 i hd =>
    cases hv : zcv f.1 i with
    | none => rw [hv] at he; cases he
    | some v => rw [hv] at he; cases he; exact zs_ldcw hv hd h
  case h_6 n hd => cases he; exact zs_lconst hd h
  case h_7 i hd =>
    cases hv : (f.1 == 12 && i == 177) with
    | false => rw [hv] at he; cases he
    | true =>
      rw [hv] at he; cases he
      simp only [Bool.and_eq_true, beq_iff_eq] at hv
      obtain ⟨h1, rfl⟩ := hv
      exact zs_ldc2 h1 hd h
  case h_8 i hd =>
    cases he
    change (match zlk lo i with | some (.int x) => _ | _ => False) at h
    split at h
    · exact zs_iload (by assumption) hd h
    · exact h.elim
  case h_9 k hd =>
    cases he
    change (match zlk lo k.val with | some (.int x) => _ | _ => False) at h
    split at h
    · exact zs_iload_n (by assumption) hd h
    · exact h.elim
  case h_10 i hd =>
    cases he
    change (match zlk lo i with | some (.long x) => _ | _ => False) at h
    split at h
    · exact zs_lload (by assumption) hd h
    · exact h.elim
  case h_11 i hd =>
    cases he
    change (match zlk lo i with | some (.ref x) => _ | _ => False) at h
    split at h
    · exact zs_aload (by assumption) hd h
    · exact h.elim
  case h_12 k hd =>
    cases he
    change (match zlk lo k.val with | some (.ref x) => _ | _ => False) at h
    split at h
    · exact zs_aload_n (by assumption) hd h
    · exact h.elim
  case h_13 i hd => cases he; obtain ⟨x, r, rfl, h⟩ := t1i_ok h; obtain ⟨h1, h⟩ := zif_ok h; exact zs_istore hd h1 h
  case h_14 i hd => cases he; obtain ⟨x, r, rfl, h⟩ := t1i_ok h; obtain ⟨h1, h⟩ := zif_ok h; exact zs_istore_n hd h1 h
  case h_15 i hd => cases he; obtain ⟨x, r, rfl, h⟩ := t1l_ok h; obtain ⟨h1, h⟩ := zif_ok h; exact zs_lstore hd h1 h
  case h_16 i hd => cases he; obtain ⟨x, r, rfl, h⟩ := t1r_ok h; obtain ⟨h1, h⟩ := zif_ok h; exact zs_astore hd h1 h
  case h_17 i hd => cases he; obtain ⟨x, r, rfl, h⟩ := t1r_ok h; obtain ⟨h1, h⟩ := zif_ok h; exact zs_astore_n hd h1 h
  case h_18 i n hd =>
    cases he
    change (match zlk lo i with | some (.int y) => _ | _ => False) at h
    split at h
    · obtain ⟨h1, h⟩ := zif_ok h; exact zs_iinc hd (by assumption) h1 h
    · exact h.elim
  case h_19 hd => cases he; obtain ⟨x, y, r, rfl, h⟩ := t2i_ok h; exact zs_iadd hd h
  case h_20 hd => cases he; obtain ⟨x, y, r, rfl, h⟩ := t2i_ok h; exact zs_isub hd h
  case h_21 hd => cases he; obtain ⟨x, y, r, rfl, h⟩ := t2i_ok h; exact zs_imul hd h
  case h_22 hd => cases he; obtain ⟨x, y, r, rfl, h⟩ := t2i_ok h; exact zs_iand hd h
  case h_23 hd => cases he; obtain ⟨x, y, r, rfl, h⟩ := t2i_ok h; exact zs_ior hd h
  case h_24 hd => cases he; obtain ⟨x, y, r, rfl, h⟩ := t2i_ok h; exact zs_ixor hd h
  case h_25 hd => cases he; obtain ⟨x, y, r, rfl, h⟩ := t2i_ok h; exact zs_ishl hd h
  case h_26 hd => cases he; obtain ⟨x, y, r, rfl, h⟩ := t2i_ok h; exact zs_ishr hd h
  case h_27 hd => cases he; obtain ⟨x, y, r, rfl, h⟩ := t2i_ok h; exact zs_iushr hd h
  case h_28 hd => cases he; obtain ⟨x, y, r, rfl, h⟩ := t2i_ok h; exact zs_idiv hd h.1 h.2
  case h_29 hd => cases he; obtain ⟨x, y, r, rfl, h⟩ := t2i_ok h; exact zs_irem hd h.1 h.2
  case h_30 hd => cases he; obtain ⟨x, r, rfl, h⟩ := t1i_ok h; exact zs_i2l hd h
  case h_31 hd => cases he; obtain ⟨x, r, rfl, h⟩ := t1i_ok h; exact zs_i2b hd h
  case h_32 hd => cases he; obtain ⟨x, y, r, rfl, h⟩ := t2l_ok h; exact zs_lor hd h
  case h_33 hd => cases he; obtain ⟨x, y, r, rfl, h⟩ := t2l_ok h; exact zs_lsub hd h
  case h_34 hd => cases he; obtain ⟨x, y, r, rfl, h⟩ := t2l_ok h; exact zs_lcmp hd h
  case h_35 hd => cases he; obtain ⟨x, y, r, rfl, h⟩ := til_ok h; exact zs_lshl hd h
  case h_36 hd =>
    cases he
    rcases t1d_ok (st := st) (k := fun v r => zGo l d mc ms f M (pc + 1) lo (v :: v :: r) Q) h with ⟨x, r, rfl, h⟩ | ⟨x, r, rfl, h⟩
    · exact zs_dupi hd h
    · exact zs_dupr hd h
  case h_37 hd => cases he; obtain ⟨x, y, r, rfl, h⟩ := tir_ok h; exact zs_dup2 hd h
  case h_38 hd => cases he; obtain ⟨x, r, rfl, h⟩ := t1i_ok h; exact zs_popi hd h
  case h_39 off hd =>
    cases hv : zgo pc off with
    | false => rw [hv] at he; cases he
    | true => rw [hv] at he; cases he; exact zs_goto hd hv h
  case h_40 off hd =>
    cases hv : zgo pc off with
    | false => rw [hv] at he; cases he
    | true => rw [hv] at he; cases he; obtain ⟨x, y, r, rfl, h⟩ := t2i_ok h; exact zs_icmp_eq hd hv h
  case h_41 off hd =>
    cases hv : zgo pc off with
    | false => rw [hv] at he; cases he
    | true => rw [hv] at he; cases he; obtain ⟨x, y, r, rfl, h⟩ := t2i_ok h; exact zs_icmp_ne hd hv h
  case h_42 off hd =>
    cases hv : zgo pc off with
    | false => rw [hv] at he; cases he
    | true => rw [hv] at he; cases he; obtain ⟨x, y, r, rfl, h⟩ := t2i_ok h; exact zs_icmp_lt hd hv h
  case h_43 off hd =>
    cases hv : zgo pc off with
    | false => rw [hv] at he; cases he
    | true => rw [hv] at he; cases he; obtain ⟨x, y, r, rfl, h⟩ := t2i_ok h; exact zs_icmp_ge hd hv h
  case h_44 off hd =>
    cases hv : zgo pc off with
    | false => rw [hv] at he; cases he
    | true => rw [hv] at he; cases he; obtain ⟨x, y, r, rfl, h⟩ := t2i_ok h; exact zs_icmp_gt hd hv h
  case h_45 off hd =>
    cases hv : zgo pc off with
    | false => rw [hv] at he; cases he
    | true => rw [hv] at he; cases he; obtain ⟨x, y, r, rfl, h⟩ := t2i_ok h; exact zs_icmp_le hd hv h
  case h_46 off hd =>
    cases hv : zgo pc off with
    | false => rw [hv] at he; cases he
    | true => rw [hv] at he; cases he; obtain ⟨x, r, rfl, h⟩ := t1i_ok h; exact zs_if_eq hd hv h
  case h_47 off hd =>
    cases hv : zgo pc off with
    | false => rw [hv] at he; cases he
    | true => rw [hv] at he; cases he; obtain ⟨x, r, rfl, h⟩ := t1i_ok h; exact zs_if_ne hd hv h
  case h_48 off hd =>
    cases hv : zgo pc off with
    | false => rw [hv] at he; cases he
    | true => rw [hv] at he; cases he; obtain ⟨x, r, rfl, h⟩ := t1i_ok h; exact zs_if_lt hd hv h
  case h_49 off hd =>
    cases hv : zgo pc off with
    | false => rw [hv] at he; cases he
    | true => rw [hv] at he; cases he; obtain ⟨x, r, rfl, h⟩ := t1i_ok h; exact zs_if_ge hd hv h
  case h_50 off hd =>
    cases hv : zgo pc off with
    | false => rw [hv] at he; cases he
    | true => rw [hv] at he; cases he; obtain ⟨x, r, rfl, h⟩ := t1i_ok h; exact zs_if_gt hd hv h
  case h_51 off hd =>
    cases hv : zgo pc off with
    | false => rw [hv] at he; cases he
    | true => rw [hv] at he; cases he; obtain ⟨x, r, rfl, h⟩ := t1i_ok h; exact zs_if_le hd hv h
  case h_52 i hd =>
    cases hv : zfd f.1 i with
    | none => rw [hv] at he; cases he
    | some q => rw [hv] at he; cases he; obtain ⟨x, r, rfl, h⟩ := t1r_ok h; obtain ⟨h1, h⟩ := zif_ok h; exact zs_get hd hv h1 h
  case h_53 i hd =>
    cases hv : zfd f.1 i with
    | none => rw [hv] at he; cases he
    | some q =>
      obtain ⟨a, b⟩ := q
      rw [hv] at he; cases he
      change (match tyT a b with | .int => _ | .boolean => _ | .long => _ | .object _ => _ | .array _ => _ | _ => False) at h
      split at h
      · obtain ⟨x, y, r, rfl, h⟩ := tir_ok h; obtain ⟨h1, h⟩ := zif_ok h; simp only [Bool.and_eq_true] at h1; exact zs_putI hd hv h1.1 h1.2 (by assumption) h
      · obtain ⟨x, y, r, rfl, h⟩ := tir_ok h; obtain ⟨h1, h⟩ := zif_ok h; simp only [Bool.and_eq_true] at h1; exact zs_putZ hd hv h1.1 h1.2 (by assumption) h.1 h.2
      · obtain ⟨x, y, r, rfl, h⟩ := tlr_ok h; obtain ⟨h1, h⟩ := zif_ok h; simp only [Bool.and_eq_true] at h1; exact zs_putJ hd hv h1.1 h1.2 (by assumption) h
      · obtain ⟨x, y, r, rfl, h⟩ := trr_ok h; obtain ⟨h1, h⟩ := zif_ok h; simp only [Bool.and_eq_true] at h1; exact zs_putR hd hv h1.1 h1.2.1 h1.2.2.1 (Nat.eq_of_beq_eq_true h1.2.2.2) (by assumption) (Or.inl ⟨_, rfl⟩) h
      · obtain ⟨x, y, r, rfl, h⟩ := trr_ok h; obtain ⟨h1, h⟩ := zif_ok h; simp only [Bool.and_eq_true] at h1; exact zs_putR hd hv h1.1 h1.2.1 h1.2.2.1 (Nat.eq_of_beq_eq_true h1.2.2.2) (by assumption) (Or.inr ⟨_, rfl⟩) h
      · exact h.elim
  case h_54 hd => cases he; obtain ⟨x, y, r, rfl, h⟩ := tir_ok h; obtain ⟨h1, h⟩ := zif_ok h; exact zs_iald hd h1 h.1 h.2
  case h_55 hd => cases he; obtain ⟨x, y, z, r, rfl, h⟩ := tiir_ok h; obtain ⟨h1, h⟩ := zif_ok h; exact zs_iast hd h1 h.1 h.2
  case h_56 hd => cases he; obtain ⟨x, y, r, rfl, h⟩ := tir_ok h; obtain ⟨h1, h⟩ := zif_ok h; exact zs_bald hd h1 h.1 h.2
  case h_57 hd => cases he; obtain ⟨x, y, z, r, rfl, h⟩ := tiir_ok h; obtain ⟨h1, h⟩ := zif_ok h; exact zs_bast hd h1 h.1 h.2
  case h_58 hd => cases he; obtain ⟨x, y, r, rfl, h⟩ := tir_ok h; obtain ⟨h1, h⟩ := zif_ok h; exact zs_lald hd h1 h.1 h.2
  case h_59 hd => cases he; obtain ⟨x, y, z, r, rfl, h⟩ := tlir_ok h; obtain ⟨h1, h⟩ := zif_ok h; exact zs_last hd h1 h.1 h.2
  case h_60 hd => cases he; obtain ⟨x, r, rfl, h⟩ := t1r_ok h; obtain ⟨h1, h⟩ := zif_ok h; exact zs_alen hd h1 h
  case h_61 hd =>
    cases he
    obtain ⟨x, r, rfl, rfl, h2⟩ := t1i_ok h
    clear h
    split at h2
    · exact zs_iret hd (by assumption) h2
    · exact zs_zret hd (by assumption) h2.1 h2.2
    · exact h2.elim
  case h_62 hd =>
    cases he
    obtain ⟨x, r, rfl, rfl, h2⟩ := t1l_ok h
    clear h
    split at h2
    · exact zs_lret hd (by assumption) h2
    · exact h2.elim
  case h_63 hd => cases he; obtain ⟨rfl, h1, h⟩ := h; exact zs_vret hd h1 h
  case h_64 i hd =>
    cases hv : znc f.1 i with
    | none => rw [hv] at he; cases he
    | some q => rw [hv] at he; cases he; obtain ⟨h1, h⟩ := zif_ok h; exact zs_new hd hv h1 h
  case h_65 hd => cases he; obtain ⟨x, r, rfl, h⟩ := t1i_ok h; obtain ⟨h1, h⟩ := zif_ok h; exact zs_newI hd h1 h
  case h_66 hd => cases he; obtain ⟨x, r, rfl, h⟩ := t1i_ok h; obtain ⟨h1, h⟩ := zif_ok h; exact zs_newB hd h1 h
  case h_67 hd => cases he; obtain ⟨x, r, rfl, h⟩ := t1i_ok h; obtain ⟨h1, h⟩ := zif_ok h; exact zs_newL hd h1 h
  case h_68 df hi offs len hd =>
    cases hv : ((zgo pc df && offs.toList.all (zgo pc) && decide (hi = (offs.size : Int) - 1)) && Nat.blt offs.size 1000) with
    | false => rw [hv] at he; cases he
    | true =>
      rw [hv] at he; cases he
      obtain ⟨x, r, rfl, h⟩ := t1i_ok h
      rw [Bool.and_eq_true] at hv
      exact zs_switch hd hv.1 h (Nat.blt_eq.mp hv.2)
  case h_69 i hd =>
    cases hv : zoi f.1 i with
    | false => rw [hv] at he; cases he
    | true => rw [hv] at he; cases he; obtain ⟨x, r, rfl, h⟩ := t1r_ok h; obtain ⟨h1, h⟩ := zif_ok h; exact zs_objinit hd hv h1 h
  case h_70 => cases he
end
