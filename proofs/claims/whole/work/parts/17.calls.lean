/-! MANY STEPS; CALLS -/
theorem t1i_m {st : List Value} {k k' : Int32 → List Value → Prop} (h : t1i st k) (hk : ∀ x r, k x r → k' x r) : t1i st k' := by
  obtain ⟨x, r, rfl, h⟩ := t1i_ok h; exact hk x r h
theorem t1l_m {st : List Value} {k k' : Int64 → List Value → Prop} (h : t1l st k) (hk : ∀ x r, k x r → k' x r) : t1l st k' := by
  obtain ⟨x, r, rfl, h⟩ := t1l_ok h; exact hk x r h
theorem t1r_m {st : List Value} {k k' : Nat → List Value → Prop} (h : t1r st k) (hk : ∀ x r, k x r → k' x r) : t1r st k' := by
  obtain ⟨x, r, rfl, h⟩ := t1r_ok h; exact hk x r h
theorem t2i_m {st : List Value} {k k' : Int32 → Int32 → List Value → Prop} (h : t2i st k) (hk : ∀ x y r, k x y r → k' x y r) : t2i st k' := by
  obtain ⟨x, y, r, rfl, h⟩ := t2i_ok h; exact hk x y r h
theorem t2l_m {st : List Value} {k k' : Int64 → Int64 → List Value → Prop} (h : t2l st k) (hk : ∀ x y r, k x y r → k' x y r) : t2l st k' := by
  obtain ⟨x, y, r, rfl, h⟩ := t2l_ok h; exact hk x y r h
theorem til_m {st : List Value} {k k' : Int64 → Int32 → List Value → Prop} (h : til st k) (hk : ∀ x y r, k x y r → k' x y r) : til st k' := by
  obtain ⟨x, y, r, rfl, h⟩ := til_ok h; exact hk x y r h
theorem tir_m {st : List Value} {k k' : Nat → Int32 → List Value → Prop} (h : tir st k) (hk : ∀ x y r, k x y r → k' x y r) : tir st k' := by
  obtain ⟨x, y, r, rfl, h⟩ := tir_ok h; exact hk x y r h
theorem tiir_m {st : List Value} {k k' : Nat → Int32 → Int32 → List Value → Prop} (h : tiir st k) (hk : ∀ x y z r, k x y z r → k' x y z r) : tiir st k' := by
  obtain ⟨x, y, z, r, rfl, h⟩ := tiir_ok h; exact hk x y z r h
theorem tlir_m {st : List Value} {k k' : Nat → Int32 → Int64 → List Value → Prop} (h : tlir st k) (hk : ∀ x y z r, k x y z r → k' x y z r) : tlir st k' := by
  obtain ⟨x, y, z, r, rfl, h⟩ := tlir_ok h; exact hk x y z r h
theorem tlr_m {st : List Value} {k k' : Nat → Int64 → List Value → Prop} (h : tlr st k) (hk : ∀ x z r, k x z r → k' x z r) : tlr st k' := by
  obtain ⟨x, z, r, rfl, h⟩ := tlr_ok h; exact hk x z r h
theorem trr_m {st : List Value} {k k' : Nat → Nat → List Value → Prop} (h : trr st k) (hk : ∀ x z r, k x z r → k' x z r) : trr st k' := by
  obtain ⟨x, z, r, rfl, h⟩ := trr_ok h; exact hk x z r h
theorem t1d_m {st : List Value} {k k' : Value → List Value → Prop} (h : t1d st k) (hk : ∀ x r, k x r → k' x r) : t1d st k' := by
  rcases t1d_ok h with ⟨x, r, rfl, h⟩ | ⟨x, r, rfl, h⟩
  · exact hk _ r h
  · exact hk _ r h
theorem zif_m {b : Bool} {p q : Prop} (h : zif b p) (hk : p → q) : zif b q := by
  cases b
  · exact h.elim
  · exact hk h
set_option maxHeartbeats 2000000 in
theorem zst_m {d : Nat} {f : zF} {e : zI} {mc ms : Nat} {M : zM} {lo : List (Nat × Value)} {st : List Value} {K K' : Nat → Nat → zM → Nat → List (Nat × Value) → List Value → Prop} {Q : zR → zM → Prop} (h : zst d f e mc ms M lo st K Q) (hK : ∀ mc ms M pc lo st, K mc ms M pc lo st → K' mc ms M pc lo st) : zst d f e mc ms M lo st K' Q := by
  unfold zst at h ⊢
  split at h
  case h_1 => exact hK _ _ _ _ _ _ h
  case h_2 => exact hK _ _ _ _ _ _ h
  case h_3 => split at h <;> first | exact hK _ _ _ _ _ _ h | exact h.elim
  case h_4 => split at h <;> first | exact hK _ _ _ _ _ _ h | exact h.elim
  case h_5 => split at h <;> first | exact hK _ _ _ _ _ _ h | exact h.elim
  case h_6 => exact t1i_m h (fun x r h => zif_m h (hK _ _ _ _ _ _))
  case h_7 => exact t1l_m h (fun x r h => zif_m h (hK _ _ _ _ _ _))
  case h_8 => exact t1r_m h (fun x r h => zif_m h (hK _ _ _ _ _ _))
  case h_9 => split at h <;> first | exact zif_m h (hK _ _ _ _ _ _) | exact h.elim
  case h_10 => exact t2i_m h (fun x y r h => ⟨h.1, hK _ _ _ _ _ _ h.2⟩)
  case h_11 => exact t2i_m h (fun x y r h => ⟨h.1, hK _ _ _ _ _ _ h.2⟩)
  case h_12 => exact t2i_m h (fun x y r h => hK _ _ _ _ _ _ h)
  case h_13 => exact t1i_m h (fun x r h => hK _ _ _ _ _ _ h)
  case h_14 => exact t1i_m h (fun x r h => hK _ _ _ _ _ _ h)
  case h_15 => exact t2l_m h (fun x y r h => hK _ _ _ _ _ _ h)
  case h_16 => exact t2l_m h (fun x y r h => hK _ _ _ _ _ _ h)
  case h_17 => exact t2l_m h (fun x y r h => hK _ _ _ _ _ _ h)
  case h_18 => exact til_m h (fun x y r h => hK _ _ _ _ _ _ h)
  case h_19 => exact t1d_m h (fun x r h => hK _ _ _ _ _ _ h)
  case h_20 => exact tir_m h (fun x y r h => hK _ _ _ _ _ _ h)
  case h_21 => exact t1i_m h (fun x r h => hK _ _ _ _ _ _ h)
  case h_22 => exact hK _ _ _ _ _ _ h
  case h_23 => exact t2i_m h (fun x y r h => ⟨fun z => hK _ _ _ _ _ _ (h.1 z), fun z => hK _ _ _ _ _ _ (h.2 z)⟩)
  case h_24 => exact t1i_m h (fun x r h => ⟨fun z => hK _ _ _ _ _ _ (h.1 z), fun z => hK _ _ _ _ _ _ (h.2 z)⟩)
  case h_25 => exact t1r_m h (fun x r h => zif_m h (hK _ _ _ _ _ _))
  case h_26 =>
    split at h
    · exact tir_m h (fun x y r h => zif_m h (hK _ _ _ _ _ _))
    · exact tir_m h (fun x y r h => zif_m h (fun h => ⟨h.1, hK _ _ _ _ _ _ h.2⟩))
    · exact tlr_m h (fun x y r h => zif_m h (hK _ _ _ _ _ _))
    · exact trr_m h (fun x y r h => zif_m h (hK _ _ _ _ _ _))
    · exact trr_m h (fun x y r h => zif_m h (hK _ _ _ _ _ _))
    · exact h.elim
  case h_27 => exact tir_m h (fun x y r h => zif_m h (fun h => ⟨h.1, hK _ _ _ _ _ _ h.2⟩))
  case h_28 => exact tiir_m h (fun x y z r h => zif_m h (fun h => ⟨h.1, hK _ _ _ _ _ _ h.2⟩))
  case h_29 => exact tir_m h (fun x y r h => zif_m h (fun h => ⟨h.1, hK _ _ _ _ _ _ h.2⟩))
  case h_30 => exact tiir_m h (fun x y z r h => zif_m h (fun h => ⟨h.1, hK _ _ _ _ _ _ h.2⟩))
  case h_31 => exact tir_m h (fun x y r h => zif_m h (fun h => ⟨h.1, hK _ _ _ _ _ _ h.2⟩))
  case h_32 => exact tlir_m h (fun x y z r h => zif_m h (fun h => ⟨h.1, hK _ _ _ _ _ _ h.2⟩))
  case h_33 => exact t1r_m h (fun x r h => zif_m h (hK _ _ _ _ _ _))
  case h_34 => exact h
  case h_35 => exact h
  case h_36 => exact h
  case h_37 => exact zif_m h (hK _ _ _ _ _ _)
  case h_38 => exact t1i_m h (fun x r h => zif_m h (hK _ _ _ _ _ _))
  case h_39 => exact t1i_m h (fun x r h => ⟨fun k hk hx => hK _ _ _ _ _ _ (h.1 k hk hx), fun z => hK _ _ _ _ _ _ (h.2 z)⟩)
  case h_40 => exact t1r_m h (fun x r h => zif_m h (hK _ _ _ _ _ _))
  case h_41 => exact h.elim
def zfind : List (Nat × zI) → Nat → Option zI
  | [], _ => none
  | q :: r, i => bif q.1 == i then some q.2 else zfind r i
theorem zfind_ok {tb : List (Nat × zI)} {i : Nat} {e : zI} (h : zfind tb i = some e) : (i, e) ∈ tb := by
  induction tb with
  | nil => cases h
  | cons q r ih =>
    unfold zfind at h
    cases hq : (q.1 == i) with
    | true =>
      rw [hq] at h
      have e1 : q.1 = i := by simpa using hq
      have e2 : q.2 = e := Option.some.inj h
      rw [← e1, ← e2]
      exact List.mem_cons_self
    | false => rw [hq] at h; exact List.mem_cons_of_mem _ (ih h)
/-- steps, up to n, until a place of sp, or one that the table hasn't -/
def zwp (d : Nat) (f : zF) (tb : List (Nat × zI)) (sp : List Nat) (K : Nat → Nat → zM → Nat → List (Nat × Value) → List Value → Prop) (Q : zR → zM → Prop) : Nat → Nat → Nat → zM → Nat → List (Nat × Value) → List Value → Prop
  | 0, mc, ms, M, pc, lo, st => K mc ms M pc lo st
  | n + 1, mc, ms, M, pc, lo, st => match zfind tb pc with
    | none => K mc ms M pc lo st
    | some e => zst d f e mc ms M lo st (fun mc ms M pc lo st => match sp.elem pc with
      | true => K mc ms M pc lo st
      | false => zwp d f tb sp K Q n mc ms M pc lo st) Q
theorem zwp_ok {l : Launch} {d : Nat} {f : zF} {tb : List (Nat × zI)} (htb : ztbok f tb) (sp : List Nat) {Q : zR → zM → Prop} (n : Nat) : ∀ {mc ms : Nat} {M : zM} {pc : Nat} {lo : List (Nat × Value)} {st : List Value},
    zwp d f tb sp (fun mc ms M pc lo st => zGo l d mc ms f M pc lo st Q) Q n mc ms M pc lo st → zGo l d mc ms f M pc lo st Q := by
  induction n with
  | zero => intro mc ms M pc lo st h; exact h
  | succ n ih =>
    intro mc ms M pc lo st h
    unfold zwp at h
    split at h
    · exact h
    · rename_i e he
      have he2 : zpre f.1 f.2.1 pc = some e := htb (pc, e) (zfind_ok he)
      have h2 : zst d f e mc ms M lo st (fun mc ms M pc lo st => zGo l d mc ms f M pc lo st Q) Q := by
        apply zst_m h
        intro mc ms M pc lo st h
        split at h
        · exact h
        · exact ih h
      exact z_step he2 h2
/-- consequence -/
theorem zRet.mono {l : Launch} {d mc ms : Nat} {y : MethodName} {cd : Cond} {a : List Value} {M : zM} {Q Q' : zR → zM → Prop} (h : zRet l d mc ms y cd a M Q) (hQ : ∀ r M', Q r M' → Q' r M') : zRet l d mc ms y cd a M Q' := by
  intro g p e ha hc hk s m args below hf happ hP hK
  obtain ⟨n, o, h1, h2, h3, h4⟩ := h g p e ha hc hk s m args below hf happ hP hK
  refine ⟨n, o, h1, h2, h3, ?_⟩
  rcases h4 with ⟨⟨v, M', hv, hq, hH⟩, hL⟩ | ⟨q, ho, E, ce, L, ⟨M', hq, hH⟩, h5⟩
  · exact Or.inl ⟨⟨v, M', hv, hQ _ _ hq, hH⟩, hL⟩
  · exact Or.inr ⟨q, ho, E, ce, L, ⟨M', hQ _ _ hq, hH⟩, h5⟩
theorem zGo.post {l : Launch} {d mc ms : Nat} {f : zF} {M : zM} {pc : Nat} {lo : List (Nat × Value)} {st : List Value} {Q Q' : zR → zM → Prop} (h : zGo l d mc ms f M pc lo st Q) (hQ : ∀ r M', Q r M' → Q' r M') : zGo l d mc ms f M pc lo st Q' := by
  intro g p e R s m args below meth c H locs cells slots ls a1 a2 a3 a4 a5 a6 a7 a8 T hT X
  obtain ⟨t, st, o, b1, b2, b3⟩ := h g p e R s m args below meth c H locs cells slots ls a1 a2 a3 a4 a5 a6 a7 a8 T hT X
  refine ⟨t, st, o, b1, b2, ?_⟩
  rcases b3 with ⟨⟨v, M', hv, hq, hH⟩, hL⟩ | ⟨q, ho, E, ce, L, ⟨M', hq, hH⟩, h5⟩
  · exact Or.inl ⟨⟨v, M', hv, hQ _ _ hq, hH⟩, hL⟩
  · exact Or.inr ⟨q, ho, E, ce, L, ⟨M', hQ _ _ hq, hH⟩, h5⟩
/-- fewer locals are known, in any order -/
theorem zGo.sub {l : Launch} {d mc ms : Nat} {f : zF} {M : zM} {pc : Nat} {lo lo' : List (Nat × Value)} {st : List Value} {Q : zR → zM → Prop} (h : zGo l d mc ms f M pc lo' st Q) (hs : ∀ q ∈ lo', q ∈ lo) : zGo l d mc ms f M pc lo st Q :=
  fun g p e R s m args below meth c H locs cells slots ls a1 a2 a3 a4 a5 a6 a7 a8 => h g p e R s m args below meth c H locs cells slots ls a1 a2 a3 a4 a5 a6 a7 ⟨a8.1, a8.2.1, fun q hq => by
    obtain ⟨q', hq', rfl⟩ := List.mem_map.mp hq
    exact a8.2.2 _ (List.mem_map.mpr ⟨q', hs q' hq', rfl⟩)⟩
theorem zblind {l : Launch} {g : zG} {M : zM} {av : List Value} : FrameBlind (va_Pc av (fun U => zW l g U ∧ zH g M U.heap)) := by
  intro a U g' mk h
  obtain ⟨h1, h2, h3⟩ := h
  exact ⟨h1, zW.warm (s := U) (U := U.calling g' mk a) (State.WarmedH.refl U) h2, h3⟩
theorem zwarm {args : Array Value} {s : State} (hts : ∀ w ∈ zws, w.before args s = true) : ∀ w ∈ zws, ∀ (a' : Array Value) (U : State), s.WarmedH U.vm → w.before a' U = true := fun w hw a' U hW => word_at hW (z_good w hw) (hts w hw)
theorem zcat (g : zG) (st : List Value) : ((st.map (zc g)).map fun v => v.category).sum = (st.map Value.category).sum := by
  rw [List.map_map]
  have e1 : ((fun v => v.category) ∘ zc g) = Value.category := funext fun v => zc_cat g v
  rw [e1]
theorem zcallB {R : Room} {s : State} {args : Array Value} {own : String} {idx : Nat} {y : MethodName} {cc : ByteArray} {nL n d mc ms : Nat} {ret : Option FieldType} (hm : zMth y (.code y cc nL ret) n) (hl : (Cond.methodLink own idx y).before args s = true) (hts : ∀ w ∈ zws, w.before args s = true) (h1 : d + 1 ≤ R.frames) (h2 : 8 + (nL + 11) + 37 * d ≤ R.locals) :
    CallB R s args own idx y cc nL ret (.code y cc nL ret :: zws) (zrm d mc ms) mc ms n := by
  obtain ⟨m1, m2, m3, m4⟩ := hm
  refine ⟨rfl, rfl, h1, h2, ?_, List.mem_cons_self, hts _ m1, hts _ m2, m3, fun sig h => ?_, hl⟩
  · intro w hw
    rcases List.mem_cons.mp hw with rfl | hw
    · exact zwarm hts _ m1
    · exact zwarm hts _ hw
  · rw [h] at m4
    exact (Option.some.inj m4).symm
/-- behind a call: the machine's end of it, as a memory -/
theorem zback {l : Launch} {d mc ms mc' ms' : Nat} {f : zF} {pc : Nat} {lo : List (Nat × Value)} {rest : List Value} {Q Qc : zR → zM → Prop} {g : zG} {p : Program} {e : Env} {R : Room} {s : State} {m : MethodId} {args : Array Value} {below : List Frame} {meth : Method} {c : Code} {H : Heap} {locs : List Loc} {cells slots : Nat} {ls : Array Slot} {st0 : List Value} {a : Array Value}
    (hr : vx_Run p l e R s m args below meth c H locs cells slots mc' ms' (F0 m pc ls st0) (rest.map (zc g)) (zQr g Qc a) (zQx g Qc) (fun q => g.2.2.1 ≤ q))
    (hC : zCx l g f p s m args meth c) (a2 : d ≤ R.frames) (a3 : 37 * d ≤ R.locals) (a4 : cells + mc ≤ R.cells) (a5 : slots + ms ≤ R.slots) (a6 : ∀ q ∈ locs, g.2.2.1 ≤ q.base) (a8 : lv_has ls f.2.2.2.1 (zlm g lo)) (hmc : mc' ≤ mc) (hms : ms' ≤ ms)
    (k : ∀ v M', Qc (.inl v) M' → zGo l d (mc - mc') (ms - ms') f M' (pc + 3) lo (v.toList ++ rest) Q)
    (kx : ∀ (E : String) (M' : zM) (ce : Cell) (q9 : Addr) (H1 : Heap) (locs1 : List Loc), Qc (.inr E) M' → zH g M' H1 → (∀ q ∈ locs1, g.2.2.1 ≤ q.base) → H1[q9]? = some ce → ce.vm = .none → s.vm.findClass E = some ce.cls → vx_W p l e R s m args below meth c H1 locs1 (cells + mc') (slots + ms') (vx_MQ below (zQr g Q) (zQx g Q) args s R.cells R.slots (fun q => g.2.2.1 ≤ q)) (F0 m pc ls (rest.map (zc g))) q9) :
    W p l e R s m args below meth c H locs cells slots (vx_MQ below (zQr g Q) (zQx g Q) args s R.cells R.slots (fun q => g.2.2.1 ≤ q)) (F0 m pc ls st0) := by
  intro T hT X
  have hL2 : ∀ {L : List Loc}, (∀ q ∈ L, g.2.2.1 ≤ q.base) → ∀ q ∈ locs ++ L, g.2.2.1 ≤ q.base := fun hL q hq => (List.mem_append.mp hq).elim (a6 q) (hL q)
  rcases hr T hT X with ⟨v, st₀, t, T', L, h0, X', hL, e1, e2, ⟨w, M', hv, hq, hH⟩, stp⟩ | ⟨q, st₀, t, T', L, E, ce, h0, X', hL, e1, e2, ⟨M', hq, hH⟩, hce, hcv, hcl, stp⟩
  · cases hv
    have hk := k w M' hq g p e R s m args below meth c T'.heap (locs ++ L) (cells + mc') (slots + ms') ls hC a2 a3 (by omega) (by omega) (hL2 hL) (by rw [e1]; exact hH) a8
    have hst : ((w.toList ++ rest).map (zc g)) = (w.map (zc g)).toList ++ rest.map (zc g) := by cases w <;> simp
    rw [hst] at hk
    obtain ⟨t2, b1, b2⟩ := hk T' rfl X'
    exact ⟨t2, stp t2 b1, b2⟩
  · obtain ⟨t2, b1, b2⟩ := kx E M' ce q T'.heap (locs ++ L) hq (by rw [e1]; exact hH) (hL2 hL) (by rw [e1]; exact hce) hcv hcl T' rfl X'
    exact ⟨t2, stp.trans b1, b2⟩
section
variable {l : Launch} {d mc ms : Nat} {f : zF} {M : zM} {pc : Nat} {lo : List (Nat × Value)} {st : List Value} {Q : zR → zM → Prop}
theorem zcallV (d' mc' ms' : Nat) {idx o ci n nL : Nat} {y : MethodName} {cc : ByteArray} {ret : Option FieldType} {a rest : List Value} {Qc : zR → zM → Prop} (hd : decode f.2.1 pc = .ok (.invokevirtual idx, 3)) (hl : Cond.methodLink (zown f.1) idx y ∈ zws) (hm : zMth y (.code y cc nL ret) n) (hi : Cond.instanceMethod y ∈ zws) (hs : Cond.selects y.cls y y ∈ zws)
    (hst : st = a.reverse ++ .ref o :: rest) (hk : zisk M o 0 ci = true) (hcl : (zcl[ci]?).map (fun q => q.1) = some y.cls) (hn : a.length = n) (hq : (Nat.ble (d' + 1) d && Nat.ble nL 18 && Nat.ble mc' mc && Nat.ble ms' ms && Nat.ble ((rest.map Value.category).sum) 8) = true) (hh : f.2.2.2.2.1 = [])
    (hR : zRet l d' mc' ms' y (.code y cc nL ret) (.ref o :: a) M Qc)
    (kx : ∀ E M', Qc (.inr E) M' → Q (.inr E) M')
    (k : ∀ v M', Qc (.inl v) M' → zGo l d (mc - mc') (ms - ms') f M' (pc + 3) lo (v.toList ++ rest) Q) : zGo l d mc ms f M pc lo st Q := by
  intro g p e R s m args below meth c H locs cells slots ls hC a2 a3 a4 a5 a6 a7 a8
  simp only [Bool.and_eq_true, Nat.ble_eq] at hq
  obtain ⟨⟨⟨⟨q1, q2⟩, q3⟩, q4⟩, q5⟩ := hq
  subst hst
  obtain ⟨hx, hcb, hr, hml, hown, hlocks, hts, hw, ht, hin⟩ := id hC
  have hk := zisk_ok hk
  obtain ⟨-, had, hce⟩ := a7.cell o hk (by decide)
  unfold zcell at hce
  rw [hk] at hce
  obtain ⟨q', hq', cell, c1, c2, c3, c4⟩ := hce
  have hcls : q'.1 = y.cls := by rw [hq'] at hcl; exact Option.some.inj hcl
  have hrun := vx_runV (l := l) (R := R) (H := H) (p := p) (e := e) (below := below) (meth := meth) (locs := locs) (cells := cells) (slots := slots) (g := F0 m pc ls ((a.reverse ++ .ref o :: rest).map (zc g))) (As := a.map (zc g)) (rest := rest.map (zc g)) (b := zad g o) (C := y.cls) (Ts := zws) ⟨hx, hcb, hml, hown, hts⟩ (hR g)
    ⟨zcallB hm (hts _ hl) hts (by omega) (by omega), hts _ hi, hts _ hs⟩
    ⟨zblind, ⟨cell, by rw [had]; exact c1, by rw [c3]; rfl, by rw [c2, ← hcls]; exact (hw.1.1 ci q' hq').2.1⟩, fun U hU hW => ⟨rfl, zW.warm hW hw, by rw [hU]; exact a7⟩⟩
    rfl (by rw [List.length_map]; exact hn) a8.1 (by simp [zc]) (by rw [zcat]; show 2 * 0 + _ ≤ 8; omega) hd ⟨by omega, by omega⟩
  refine zback hrun hC a2 a3 a4 a5 a6 a8 q3 q4 k (fun E M' ce q9 H1 locs1 hqx hH1 hl1 hce hcv hclx => ?_)
  refine vx_out (fun x hx => ?_) hlocks hce hcv hclx (fun t ht _ => ⟨M', kx E M' hqx, by rw [ht]; exact hH1⟩) hl1 (by omega) (by omega)
  rw [ht, hh] at hx
  cases hx
theorem zcallS (d' mc' ms' : Nat) {idx n nL : Nat} {y : MethodName} {cc : ByteArray} {ret : Option FieldType} {a rest : List Value} {Qc : zR → zM → Prop} (hd : decode f.2.1 pc = .ok (.invokestatic idx, 3)) (hl : Cond.methodLink (zown f.1) idx y ∈ zws) (hm : zMth y (.code y cc nL ret) n) (hi : Cond.static y ∈ zws)
    (hst : st = a.reverse ++ rest) (hn : a.length = n) (hq : (Nat.ble (d' + 1) d && Nat.ble nL 18 && Nat.ble mc' mc && Nat.ble ms' ms && Nat.ble ((rest.map Value.category).sum) 8) = true) (hh : f.2.2.2.2.1 = [])
    (hR : zRet l d' mc' ms' y (.code y cc nL ret) a M Qc)
    (kx : ∀ E M', Qc (.inr E) M' → Q (.inr E) M')
    (k : ∀ v M', Qc (.inl v) M' → zGo l d (mc - mc') (ms - ms') f M' (pc + 3) lo (v.toList ++ rest) Q) : zGo l d mc ms f M pc lo st Q := by
  intro g p e R s m args below meth c H locs cells slots ls hC a2 a3 a4 a5 a6 a7 a8
  simp only [Bool.and_eq_true, Nat.ble_eq] at hq
  obtain ⟨⟨⟨⟨q1, q2⟩, q3⟩, q4⟩, q5⟩ := hq
  subst hst
  obtain ⟨hx, hcb, hr, hml, hown, hlocks, hts, hw, ht, hin⟩ := id hC
  have hrun := vx_runS (l := l) (R := R) (H := H) (p := p) (e := e) (below := below) (meth := meth) (locs := locs) (cells := cells) (slots := slots) (g := F0 m pc ls ((a.reverse ++ rest).map (zc g))) (As := a.map (zc g)) (rest := rest.map (zc g)) (Ts := zws) ⟨hx, hcb, hml, hown, hts⟩ (hR g)
    ⟨zcallB hm (hts _ hl) hts (by omega) (by omega), hts _ hi⟩
    ⟨zblind, fun U hU hW => ⟨rfl, zW.warm hW hw, by rw [hU]; exact a7⟩⟩
    rfl (by rw [List.length_map]; exact hn) a8.1 (by simp) (by rw [zcat]; show 2 * 0 + _ ≤ 8; omega) hd ⟨by omega, by omega⟩
  refine zback hrun hC a2 a3 a4 a5 a6 a8 q3 q4 k (fun E M' ce q9 H1 locs1 hqx hH1 hl1 hce hcv hclx => ?_)
  refine vx_out (fun x hx => ?_) hlocks hce hcv hclx (fun t ht _ => ⟨M', kx E M' hqx, by rw [ht]; exact hH1⟩) hl1 (by omega) (by omega)
  rw [ht, hh] at hx
  cases hx
end
