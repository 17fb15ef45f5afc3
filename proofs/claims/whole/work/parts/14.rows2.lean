section
variable {l : Launch} {d mc ms : Nat} {f : zF} {M : zM} {pc : Nat} {lo : List (Nat × Value)} {st : List Value} {Q : zR → zM → Prop}
theorem zkk {c a : Nat} (h : ((M.2.1 c).1 == a) = true) : M.2.1 c = (a, (M.2.1 c).2) := Prod.ext (by simpa using h) rfl
theorem zu_same {α : Type} (F : Nat → Nat → α) (c k : Nat) (v : α) : zu F c k v c k = v := by simp [zu]
theorem zu_ne {α : Type} (F : Nat → Nat → α) {c k x j : Nat} (v : α) (h : x ≠ c ∨ j ≠ k) : zu F c k v x j = F x j := by
  unfold zu
  cases h1 : (x == c && j == k) with
  | false => rfl
  | true =>
    simp only [Bool.and_eq_true, beq_iff_eq] at h1
    rcases h with h | h
    · exact absurd h1.1 h
    · exact absurd h1.2 h
theorem zu_row {α : Type} (F : Nat → Nat → α) {c k x : Nat} (v : α) (h : x ≠ c) : zu F c k v x = F x := funext fun j => zu_ne F v (Or.inl h)
theorem zu_arr {α : Type} (F : Nat → Nat → α) (c k : Nat) (v : α) (w : α → Value) : (fun j => w (zu F c k v c j)) = updV (fun j => w (F c j)) k (w v) := by
  funext j
  unfold updV
  by_cases h : j = k
  · subst h; rw [zu_same, if_pos rfl]
  · rw [zu_ne F v (Or.inr h), if_neg h]
/-- a field of a new value: the memory that holds it -/
theorem zfld {g : zG} {M' : zM} {H H' : Heap} {a b c0 fs : Nat} {q : vw_C} {v : Value} {cell : Cell} {s : State} (hH : zH g M H) (hk : M.2.1 c0 = (0, a)) (hq : zcl[a]? = some q) (hb : b < q.2.2) (q1 : H[g.2.2.1 + c0]? = some cell) (q2 : cell.cls = g.1.1 a) (q3 : cell.vm = .none) (q4 : ∀ k, k < q.2.2 → cell.slots[g.1.2 a k]? = some (zc g (zfv M a c0 k)))
    (hap : ∀ x y, x < q.2.2 → y < q.2.2 → x ≠ y → g.1.2 a x ≠ g.1.2 a y) (hsl : fs = g.1.2 a b)
    (e1 : H'[g.2.2.1 + c0]? = some (cell.setSlot fs v)) (e2 : H'.size = H.size) (e3 : ∀ x, x ≠ g.2.2.1 + c0 → H'[x]? = H[x]?)
    (m1 : M'.1 = M.1) (m2 : M'.2.1 = M.2.1) (mR : ∀ x, x ≠ c0 → M'.2.2.1 x = M.2.2.1 x) (mI : ∀ x, x ≠ c0 → M'.2.2.2.1 x = M.2.2.2.1 x) (mJ : ∀ x, x ≠ c0 → M'.2.2.2.2 x = M.2.2.2.2 x)
    (mv : zc g (zfv M' a c0 b) = v) (mo : ∀ k, k < q.2.2 → k ≠ b → zfv M' a c0 k = zfv M a c0 k) : zH g M' H' := by
  refine hH.put c0 m1 m2 e2 e3 (hH.cell c0 hk (by decide)).1 mR mI mJ ?_
  unfold zcell
  rw [m2, hk]
  refine ⟨q, hq, ?_⟩
  rw [hsl] at e1
  have h1 : t_OB (g.2.2.1 + c0) (g.1.1 a) q.2.2 (g.1.2 a) H' (updV (fun k => zc g (zfv M a c0 k)) b v) := ⟨_, e1, q2, q3, t_set q4 hap hb v⟩
  refine h1.to (fun k hkq => ?_)
  unfold updV
  by_cases h : k = b
  · subst h; rw [if_pos rfl]; exact mv.symm
  · rw [if_neg h, mo k hkq h]
theorem zfinT {a b : Nat} {q : vw_C} (hq : zcl[a]? = some q) (h : zfin a b = true) : (q.2.1 b).2.2.2 = true := by
  unfold zfin at h; rw [hq] at h; exact h
theorem zfinF {a b : Nat} {q : vw_C} (hq : zcl[a]? = some q) (h : (!zfin a b) = true) : (q.2.1 b).2.2.2 = false := by
  unfold zfin at h; rw [hq] at h; simpa using h
/-- a store into a field that isn't final -/
theorem zs_put {M' : zM} {i a b c0 : Nat} {v : Value} {ty : FieldType} (hd : decode f.2.1 pc = .ok (.putfield i, 3)) (hf : zfd f.1 i = some (a, b)) (hk : zisk M c0 0 a = true) (hfin : (!zfin a b) = true) (hty : tyT a b = ty) (hn : ∀ g, narrow ty (zc g v) = zc g v) (hfit : ∀ g, fits ty (zc g v) = true)
    (m1 : M'.1 = M.1) (m2 : M'.2.1 = M.2.1) (mR : ∀ x, x ≠ c0 → M'.2.2.1 x = M.2.2.1 x) (mI : ∀ x, x ≠ c0 → M'.2.2.2.1 x = M.2.2.2.1 x) (mJ : ∀ x, x ≠ c0 → M'.2.2.2.2 x = M.2.2.2.2 x)
    (mv : zfv M' a c0 b = v) (mo : ∀ k, k ≠ b → zfv M' a c0 k = zfv M a c0 k)
    (h : zGo l d mc ms f M' (pc + 3) lo st Q) : zGo l d mc ms f M pc lo (v :: .ref c0 :: st) Q := by
  intro g p e R s m args below meth c H locs cells slots ls hC a2 a3 a4 a5 a6 a7 a8
  obtain ⟨q, hq, hb, hlink⟩ := zfd_ok hf
  have hk := zisk_ok hk
  obtain ⟨-, had, hce⟩ := a7.cell c0 hk (by decide)
  unfold zcell at hce
  rw [hk] at hce
  obtain ⟨q', hq', cell, q1, q2, q3, q4⟩ := hce
  cases Option.some.inj (hq.symm.trans hq')
  obtain ⟨hx, hcb, hr, hml, hown, hlocks, hts, hw, ht, hin⟩ := id hC
  have hap := va_apart (own := zown f.1) hts (z_lays a q hq) (tyT a) (z_ty a q hq) (z_nm a q hq) hw.1 hq
  obtain ⟨hS, hfc, kC, hkC, hkind⟩ := hw.1.1 a q hq
  obtain ⟨cf, kf, fi, fd, hi, hsl⟩ := hS b hb
  have hlay := hts _ (z_lays a q hq _ (u_in_lay hb))
  unfold u_lay at hlay
  rw [if_neg (by rw [zfinF hq hfin]; decide)] at hlay
  have hst := (u_facts hfc hkC (u_lays hts (z_lays a q hq) hb) hi).1
  have h6 := u_store (v := zc g v) hfc hkC hkind hlay hi ((z_ty a q hq b hb).trans (by rw [hty])) (hn g) (hfit g)
  show W p l e R s m args below meth c H locs cells slots _ (F0 m pc ls (zc g v :: .ref (zad g c0) :: st.map (zc g)))
  rw [had]
  refine W.putK hx hcb (f := fd) ⟨hown, hts _ hlink, ⟨_, _, _, hi⟩, hst⟩ (by rw [q2]; exact h6) q1 q3 (by rw [hsl]; exact k2_hasslot (q4 b hb)) rfl rfl hd fun H' e1 e2 e3 => ?_
  refine h g p e R s m args below meth c H' _ cells slots ls hC a2 a3 a4 a5 (fun z hz => ?_) (zfld (s := s) a7 hk hq hb q1 q2 q3 q4 hap hsl e1 e2 e3 m1 m2 mR mI mJ (by rw [mv]) (fun k _ hk => mo k hk)) a8
  rcases List.mem_append.mp hz with hz | hz
  · exact a6 z hz
  · rw [List.mem_singleton.mp hz]; exact Nat.le_add_right _ _
/-- a store into a final field, in a constructor of its class -/
theorem zs_putF {M' : zM} {i a b c0 : Nat} {v : Value} {ty : FieldType} (hd : decode f.2.1 pc = .ok (.putfield i, 3)) (hf : zfd f.1 i = some (a, b)) (hk : zisk M c0 0 a = true) (hfin : zfin a b = true) (hini : f.2.2.2.2.2 = true) (hoa : f.1 = a) (hty : tyT a b = ty) (hn : ∀ g, narrow ty (zc g v) = zc g v) (hfit : ∀ g, fits ty (zc g v) = true)
    (m1 : M'.1 = M.1) (m2 : M'.2.1 = M.2.1) (mR : ∀ x, x ≠ c0 → M'.2.2.1 x = M.2.2.1 x) (mI : ∀ x, x ≠ c0 → M'.2.2.2.1 x = M.2.2.2.1 x) (mJ : ∀ x, x ≠ c0 → M'.2.2.2.2 x = M.2.2.2.2 x)
    (mv : zfv M' a c0 b = v) (mo : ∀ k, k ≠ b → zfv M' a c0 k = zfv M a c0 k)
    (h : zGo l d mc ms f M' (pc + 3) lo st Q) : zGo l d mc ms f M pc lo (v :: .ref c0 :: st) Q := by
  intro g p e R s m args below meth c H locs cells slots ls hC a2 a3 a4 a5 a6 a7 a8
  obtain ⟨q, hq, hb, hlink⟩ := zfd_ok hf
  have hk := zisk_ok hk
  obtain ⟨-, had, hce⟩ := a7.cell c0 hk (by decide)
  unfold zcell at hce
  rw [hk] at hce
  obtain ⟨q', hq', cell, q1, q2, q3, q4⟩ := hce
  cases Option.some.inj (hq.symm.trans hq')
  obtain ⟨hx, hcb, hr, hml, hown, hlocks, hts, hw, ht, hin⟩ := id hC
  have hap := va_apart (own := zown f.1) hts (z_lays a q hq) (tyT a) (z_ty a q hq) (z_nm a q hq) hw.1 hq
  obtain ⟨hS, hfc, kC, hkC, hkind⟩ := hw.1.1 a q hq
  obtain ⟨cf, kf, fi, fd, hi, hsl⟩ := hS b hb
  have hlay := hts _ (z_lays a q hq _ (u_in_lay hb))
  unfold u_lay at hlay
  rw [if_pos (zfinT hq hfin)] at hlay
  have hst := (u_facts hfc hkC (u_lays hts (z_lays a q hq) hb) hi).1
  have hcf : m.cls = cf := by
    obtain ⟨_, _, c', _, _, _, -, -, hf', -, -, -, hown2, -⟩ := Cond.laysFinal_spec hlay
    have e1 : c' = cf := by have := hi.symm.trans hf'; simp at this; exact this.1.symm
    rw [(z_decl a q hq).2 b hb, ← (z_decl a q hq).1, ← hoa] at hown2
    rw [← e1]; exact Option.some.inj (hown.symm.trans hown2)
  have h6 := u_fits (v := zc g v) hfc hkC hkind (Or.inr hlay) hi ((z_ty a q hq b hb).trans (by rw [hty])) (hn g) (hfit g)
  show W p l e R s m args below meth c H locs cells slots _ (F0 m pc ls (zc g v :: .ref (zad g c0) :: st.map (zc g)))
  rw [had]
  refine W.putFinK hx hcb hown (hts _ hlink) hi hst hcf (hin.1 hini) (by rw [q2]; exact h6) q1 q3 (by rw [hsl]; exact k2_hasslot (q4 b hb)) rfl rfl hd fun H' e1 e2 e3 => ?_
  refine h g p e R s m args below meth c H' _ cells slots ls hC a2 a3 a4 a5 (fun z hz => ?_) (zfld (s := s) a7 hk hq hb q1 q2 q3 q4 hap hsl e1 e2 e3 m1 m2 mR mI mJ (by rw [mv]) (fun k _ hk => mo k hk)) a8
  rcases List.mem_append.mp hz with hz | hz
  · exact a6 z hz
  · rw [List.mem_singleton.mp hz]; exact Nat.le_add_right _ _
theorem zs_putI {i a b c0 : Nat} {x : Int32} (hd : decode f.2.1 pc = .ok (.putfield i, 3)) (hf : zfd f.1 i = some (a, b)) (hk : zisk M c0 0 a = true) (hfin : (!zfin a b) = true) (hty : tyT a b = .int) (h : zGo l d mc ms f (zsI M c0 b x) (pc + 3) lo st Q) : zGo l d mc ms f M pc lo (.int x :: .ref c0 :: st) Q :=
  zs_put (M' := zsI M c0 b x) hd hf hk hfin hty (fun _ => rfl) (fun _ => rfl) rfl rfl (fun _ _ => rfl) (fun y hy => zu_row _ x hy) (fun _ _ => rfl) (by unfold zfv; rw [hty]; show Value.int (zu _ c0 b x c0 b) = _; rw [zu_same]) (fun k hk => by unfold zfv; show (match tyT a k with | .long => _ | .object _ => _ | .array _ => _ | _ => Value.int (zu _ c0 b x c0 k)) = _; rw [zu_ne _ x (Or.inr hk)]; rfl) h
theorem zs_putZ {i a b c0 : Nat} {x : Int32} (hd : decode f.2.1 pc = .ok (.putfield i, 3)) (hf : zfd f.1 i = some (a, b)) (hk : zisk M c0 0 a = true) (hfin : (!zfin a b) = true) (hty : tyT a b = .boolean) (hx : x = 0 ∨ x = 1) (h : zGo l d mc ms f (zsI M c0 b x) (pc + 3) lo st Q) : zGo l d mc ms f M pc lo (.int x :: .ref c0 :: st) Q :=
  zs_put (M' := zsI M c0 b x) hd hf hk hfin hty (fun _ => by rcases hx with rfl | rfl <;> rfl) (fun _ => by rcases hx with rfl | rfl <;> rfl) rfl rfl (fun _ _ => rfl) (fun y hy => zu_row _ x hy) (fun _ _ => rfl) (by unfold zfv; rw [hty]; show Value.int (zu _ c0 b x c0 b) = _; rw [zu_same]) (fun k hk => by unfold zfv; show (match tyT a k with | .long => _ | .object _ => _ | .array _ => _ | _ => Value.int (zu _ c0 b x c0 k)) = _; rw [zu_ne _ x (Or.inr hk)]; rfl) h
theorem zs_putJ {i a b c0 : Nat} {x : Int64} (hd : decode f.2.1 pc = .ok (.putfield i, 3)) (hf : zfd f.1 i = some (a, b)) (hk : zisk M c0 0 a = true) (hfin : (!zfin a b) = true) (hty : tyT a b = .long) (h : zGo l d mc ms f (zsJ M c0 b x) (pc + 3) lo st Q) : zGo l d mc ms f M pc lo (.long x :: .ref c0 :: st) Q :=
  zs_put (M' := zsJ M c0 b x) hd hf hk hfin hty (fun _ => rfl) (fun _ => rfl) rfl rfl (fun _ _ => rfl) (fun _ _ => rfl) (fun y hy => zu_row _ x hy) (by unfold zfv; rw [hty]; show Value.long (zu _ c0 b x c0 b) = _; rw [zu_same]) (fun k hk => by unfold zfv; show (match tyT a k with | .long => Value.long (zu _ c0 b x c0 k) | .object _ => _ | .array _ => _ | _ => _) = _; rw [zu_ne _ x (Or.inr hk)]; rfl) h
theorem zs_putR {i a b c0 x : Nat} {ty : FieldType} (hd : decode f.2.1 pc = .ok (.putfield i, 3)) (hf : zfd f.1 i = some (a, b)) (hk : zisk M c0 0 a = true) (hfin : zfin a b = true) (hini : f.2.2.2.2.2 = true) (hoa : f.1 = a) (hty : tyT a b = ty) (hr : (∃ n, ty = .object n) ∨ ∃ t, ty = .array t) (h : zGo l d mc ms f (zsR M c0 b (x + 1)) (pc + 3) lo st Q) : zGo l d mc ms f M pc lo (.ref x :: .ref c0 :: st) Q := by
  refine zs_putF (M' := zsR M c0 b (x + 1)) hd hf hk hfin hini hoa hty (fun _ => ?_) (fun _ => ?_) rfl rfl (fun y hy => zu_row _ (x + 1) hy) (fun _ _ => rfl) (fun _ _ => rfl) ?_ (fun k hk => ?_) h
  · rcases hr with ⟨n, rfl⟩ | ⟨t, rfl⟩ <;> rfl
  · rcases hr with ⟨n, rfl⟩ | ⟨t, rfl⟩ <;> rfl
  · unfold zfv
    rw [hty]
    rcases hr with ⟨n, rfl⟩ | ⟨t, rfl⟩
    · show zr (zu _ c0 b (x + 1) c0 b) = _; rw [zu_same]; rfl
    · show zr (zu _ c0 b (x + 1) c0 b) = _; rw [zu_same]; rfl
  · unfold zfv
    show (match tyT a k with | .long => _ | .object _ => zr (zu _ c0 b (x + 1) c0 k) | .array _ => zr (zu _ c0 b (x + 1) c0 k) | _ => _) = _
    rw [zu_ne _ (x + 1) (Or.inr hk)]; rfl
end
