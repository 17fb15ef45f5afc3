/-! the law's own frame: script, calls -/
/-- what is known of the ghost: the script lies there -/
def scP (b L : Nat) (xs : Nat → Int32) (g : zG) (s : State) : Prop := g.2.2.2.1 31 = b ∧ va_T .int b L (fun j => .int (xs j)) (fun q => g.2.2.1 ≤ q) s g.2.2.2.2
section
variable {P : zG → State → Prop} {l : Launch} {d mc ms : Nat} {f : zF} {M : zM} {pc : Nat} {lo : List (Nat × Value)} {st : List Value} {Q : zR → zM → Prop}
theorem zcallW (d' mc' ms' : Nat) {idx n nL : Nat} {y : MethodName} {cc : ByteArray} {ret : Option FieldType} {hh : List (Nat × Nat × Nat × Nat)} {a rest : List Value} {Qc : zR → zM → Prop} (hd : decode f.2.1 pc = .ok (.invokestatic idx, 3)) (hl : Cond.methodLink (zown f.1) idx y ∈ zws) (hm : zMth y (.codeWith y cc nL ret hh) n) (hi : Cond.static y ∈ zws)
    (hst : st = a.reverse ++ rest) (hn : a.length = n) (hq : (Nat.ble (d' + 1) d && Nat.ble nL 18 && Nat.ble mc' mc && Nat.ble ms' ms && Nat.ble ((rest.map Value.category).sum) 8) = true)
    (hR : zRet l d' mc' ms' y (.codeWith y cc nL ret hh) a M Qc) (hno : ∀ E M', ¬ Qc (.inr E) M')
    (k : ∀ v M', Qc (.inl v) M' → zGp P l d (mc - mc') (ms - ms') f M' (pc + 3) lo (v.toList ++ rest) Q) : zGp P l d mc ms f M pc lo st Q := by
  intro g p e R s m args below meth c H locs cells slots ls hPP hC a2 a3 a4 a5 a6 a7 a8
  simp only [Bool.and_eq_true, Nat.ble_eq] at hq
  obtain ⟨⟨⟨⟨q1, q2⟩, q3⟩, q4⟩, q5⟩ := hq
  subst hst
  obtain ⟨hx, hcb, hr, hml, hown, hlocks, hts, hw, ht, hin⟩ := id hC
  obtain ⟨m1, m2, m3, m4⟩ := id hm
  have hrun := vx_runSX (l := l) (R := R) (H := H) (p := p) (e := e) (below := below) (meth := meth) (locs := locs) (cells := cells) (slots := slots) (g := F0 m pc ls ((a.reverse ++ rest).map (zc g))) (As := a.map (zc g)) (rest := rest.map (zc g)) (Ts := zws) (n := n) ⟨hx, hcb, hml, hown, hts⟩ (hR g)
    ⟨⟨rfl, rfl, by show d' + 1 ≤ R.frames; omega, by show 8 + (nL + 11) + 37 * d' ≤ R.locals; omega, fun w hw => (by
        rcases List.mem_cons.mp hw with rfl | hw
        · exact zwarm hts _ m1
        · exact zwarm hts _ hw), List.mem_cons_self⟩, hts _ m1, hts _ m2, m3, fun sig h => (by rw [h] at m4; exact (Option.some.inj m4).symm), hts _ hl, hts _ hi⟩
    ⟨zblind, fun U hU hW => ⟨rfl, zW.warm hW hw, by rw [hU]; exact a7⟩⟩
    rfl (by rw [List.length_map]; exact hn) a8.1 (by simp) (by rw [zcat]; show 2 * 0 + _ ≤ 8; omega) hd ⟨by omega, by omega⟩
  exact zbackP hrun hPP hC a2 a3 a4 a5 a6 a8 q3 q4 k (fun E M' ce q9 H1 locs1 hqx => absurd hqx (hno E M'))
theorem zs_scr {b L i : Nat} {xs : Nat → Int32} (hP : ∀ g s, P g s → scP b L xs g s) (hi : i < L) (hL : L < 2147483648) (hd : decode f.2.1 pc = .ok (.iaload, 1)) (h : zGp P l d mc ms f M (pc + 1) lo (.int (xs i) :: st) Q) : zGp P l d mc ms f M pc lo (.int (Int32.ofNat i) :: .ref 100031 :: st) Q := by
  intro g p e R s m args below meth c H locs cells slots ls hPP hC a2 a3 a4 a5 a6 a7 a8
  obtain ⟨s1, s2⟩ := hP g s hPP
  have hB := hC.2.2.2.2.2.2.2.2.2.2
  have hsz := hC.2.2.2.2.2.2.2.1.2.1
  have this := h g p e R s m args below meth c H locs cells slots ls hPP hC a2 a3 a4 a5 a6 a7 a8
  intro T hT X
  obtain ⟨f1, f2⟩ := vx_frame (U := T) X.same
  have hS : va_S (fun q => g.2.2.1 ≤ q) s.heap H locs := ⟨by rw [← hT]; exact f1, fun q h1 h2 => by rw [← hT]; exact f2 q h1 (fun z hz e => h2 (by rw [← e]; exact a6 z hz)), a6⟩
  have hag : ∀ q, q < g.2.2.1 → s.heap[q]? = g.2.2.2.2[q]? := fun q hq => by rw [← hS.2.1 q (by omega) (by omega)]; exact a7.2.1 q hq
  have e9 : ((Value.int (Int32.ofNat i) :: Value.ref 100031 :: st).map (zc g)) = .int (Int32.ofNat i) :: .ref b :: st.map (zc g) := by
    show Value.int _ :: Value.ref (zad g (100000 + 31)) :: _ = _
    rw [zad_t, s1]
  rw [e9]
  exact va_ti hC.1 hC.2.1 (s2.kept (H1 := s.heap) (fun a _ h => hag a (by omega))) hS (vp_in_nI hi hL) (by rw [nI_clamp (by omega)]; rfl) hd this T hT X
theorem zs_scn {b L : Nat} {xs : Nat → Int32} (hP : ∀ g s, P g s → scP b L xs g s) (hd : decode f.2.1 pc = .ok (.arraylength, 1)) (h : zGp P l d mc ms f M (pc + 1) lo (.int (Int32.ofNat L) :: st) Q) : zGp P l d mc ms f M pc lo (.ref 100031 :: st) Q := by
  intro g p e R s m args below meth c H locs cells slots ls hPP hC a2 a3 a4 a5 a6 a7 a8
  obtain ⟨s1, s2⟩ := hP g s hPP
  have hB := hC.2.2.2.2.2.2.2.2.2.2
  have this := h g p e R s m args below meth c H locs cells slots ls hPP hC a2 a3 a4 a5 a6 a7 a8
  intro T hT X
  obtain ⟨f1, f2⟩ := vx_frame (U := T) X.same
  have hS : va_S (fun q => g.2.2.1 ≤ q) s.heap H locs := ⟨by rw [← hT]; exact f1, fun q h1 h2 => by rw [← hT]; exact f2 q h1 (fun z hz e => h2 (by rw [← e]; exact a6 z hz)), a6⟩
  have hag : ∀ q, q < g.2.2.1 → s.heap[q]? = g.2.2.2.2[q]? := fun q hq => by rw [← hS.2.1 q (by omega) (by omega)]; exact a7.2.1 q hq
  have e9 : ((Value.ref 100031 :: st).map (zc g)) = .ref b :: st.map (zc g) := by
    show Value.ref (zad g (100000 + 31)) :: _ = _
    rw [zad_t, s1]
  rw [e9]
  exact va_tlen hC.1 hC.2.1 (s2.kept (H1 := s.heap) (fun a _ h => hag a (by omega))) hS rfl hd this T hT X
end
/-- what a call of the law's does -/
def zcaP (L : Nat) (X : Nat → Int) (d : Nat) (orc : zO) (e : zC) (mc ms : Nat) (S : zS) (pc : Nat) (lo : List (Nat × zV)) (st : List zV) (K : Nat → Nat → zS → Nat → List (Nat × zV) → List zV → Prop) : Prop := match e with
  | (0, j, n, d', mc', ms', ci) => uvr (st.drop n) (fun o rest => zif ((zLAY o).1 == 0 && (zLAY o).2 == ci && zrq d mc ms d' mc' ms' rest) (orc j (.inr (.inl o) :: (st.take n).reverse) S (fun r S' => zaf r (fun v => K (mc - mc') (ms - ms') S' (pc + 3) lo (v.toList ++ rest)) (fun _ => False))))
  | (1, j, n, d', mc', ms', _) => zif (Nat.ble n st.length && zrq d mc ms d' mc' ms' (st.drop n)) (orc j (st.take n).reverse S (fun r S' => zaf r (fun v => K (mc - mc') (ms - ms') S' (pc + 3) lo (v.toList ++ st.drop n)) (fun _ => False)))
  | (20, _) => uir st (fun c i r => zif (Nat.beq c 100031) (∃ k : Nat, (i = (k : Int) ∧ k < L) ∧ K mc ms S (pc + 1) lo (.inl (X k) :: r)))
  | (21, _) => u1r st (fun c r => zif (Nat.beq c 100031) (K mc ms S (pc + 1) lo (.inl (L : Int) :: r)))
  | _ => False
def zcokP (l : Launch) (orc : zO) (f : zF) (pc : Nat) (e : zC) : Prop := match e with
  | (0, j, n, d', mc', ms', ci) => ∃ (idx : Nat) (y : MethodName) (cc : ByteArray) (nL : Nat) (ret : Option FieldType), decode f.2.1 pc = .ok (.invokevirtual idx, 3) ∧ Cond.methodLink (zown f.1) idx y ∈ zws ∧ zMth y (.code y cc nL ret) n ∧ Cond.instanceMethod y ∈ zws ∧ Cond.selects y.cls y y ∈ zws ∧ (zcl[ci]?).map (fun q => q.1) = some y.cls ∧ Nat.ble nL 18 = true ∧ ∀ a S Q, orc j a S Q → zRs l d' mc' ms' y (.code y cc nL ret) a S Q
  | (1, j, n, d', mc', ms', _) => ∃ (idx : Nat) (y : MethodName) (cc : ByteArray) (nL : Nat) (ret : Option FieldType) (hh : List (Nat × Nat × Nat × Nat)), decode f.2.1 pc = .ok (.invokestatic idx, 3) ∧ Cond.methodLink (zown f.1) idx y ∈ zws ∧ zMth y (.codeWith y cc nL ret hh) n ∧ Cond.static y ∈ zws ∧ Nat.ble nL 18 = true ∧ ∀ a S Q, orc j a S Q → zRs l d' mc' ms' y (.codeWith y cc nL ret hh) a S Q
  | (20, _) => decode f.2.1 pc = .ok (.iaload, 1)
  | (21, _) => decode f.2.1 pc = .ok (.arraylength, 1)
  | _ => False
section
variable {P : zG → State → Prop} {l : Launch} {d mc ms : Nat} {f : zF} {S : zS} {pc : Nat} {lo : List (Nat × zV)} {st : List zV} {Q : zR2 → zS → Prop} {b L : Nat} {xs : Nat → Int32}
theorem zaf_no {E : String} {M' : zM} {k1 : Option zV → zS → Prop} : ¬ zQs (fun r S' => zaf r (fun v => k1 v S') (fun _ => False)) (.inr E) M' := by
  rintro ⟨r', S', g1, g2, g3, g4⟩
  rcases r' with w | E'
  · cases g1
  · exact g4
set_option maxHeartbeats 2000000 in
theorem zca_okP {orc : zO} {e : zC} {K : Nat → Nat → zS → Nat → List (Nat × zV) → List zV → Prop} (hP : ∀ g s, P g s → scP b L xs g s) (hL : L < 2147483648) (he : zcokP l orc f pc e) (hh : f.2.2.2.2.1 = []) (h : zcaP L (fun k => (xs k).toInt) d orc e mc ms S pc lo st K) (hK : ∀ mc ms S pc lo st, K mc ms S pc lo st → zGt P l d mc ms f S pc lo st Q) : zGt P l d mc ms f S pc lo st Q := by
  intro M hM hlo hst
  obtain ⟨m1, m2, m3, m4, m5⟩ := id hM
  unfold zcaP at h
  split at h
  · rename_i j n d' mc' ms' ci
    obtain ⟨o, rest, hs, h⟩ := uvr_ok h
    obtain ⟨h1, h⟩ := zif_ok h
    simp only [Bool.and_eq_true] at h1
    obtain ⟨⟨h1, h2⟩, h3⟩ := h1
    obtain ⟨idx, y, cc, nL, ret, e1, e2, e3, e4, e5, e6, e7, e8⟩ := he
    have hst2 : st = ((st.take n).reverse).reverse ++ .inr (.inl o) :: rest := by rw [List.reverse_reverse, ← hs, List.take_append_drop]
    have hn : ((st.take n).reverse.map zvv).length = n := by
      have hl : (st.drop n).length = rest.length + 1 := by rw [hs]; rfl
      rw [List.length_drop] at hl
      rw [List.length_map, List.length_reverse, List.length_take]
      omega
    have hst3 : st.map zvv = ((st.take n).reverse.map zvv).reverse ++ .ref o :: rest.map zvv := by
      conv => lhs; rw [hst2]
      rw [List.map_append, List.map_reverse]
      rfl
    have ha : ∀ v ∈ Sum.inr (Sum.inl o) :: (st.take n).reverse, zok v := by
      intro v hv
      rcases List.mem_cons.mp hv with rfl | hv
      · trivial
      · exact hst v (List.mem_of_mem_take (List.mem_reverse.mp hv))
    have hr : ∀ v ∈ rest, zok v := fun v hv => hst v (List.mem_of_mem_drop (by rw [hs]; exact List.mem_cons_of_mem _ hv))
    have hk : zisk M o 0 ci = true := by unfold zisk; rw [m2, h1, h2]; rfl
    refine zcallVP d' mc' ms' e1 e2 e3 e4 e5 hst3 hk e6 hn (zrq5 h3 e7) hh (e8 _ _ _ h M hM ha) (fun E M' hq => absurd hq zaf_no) ?_
    intro v M' hq
    obtain ⟨w, S', rfl, q1, q2, q3⟩ := zaf_res (k2 := fun _ _ => False) hq
    rw [zrest]
    exact hK _ _ _ _ _ _ q3 M' q2 hlo (zrest_ok q1 hr)
  · rename_i j n d' mc' ms' _
    obtain ⟨h1, h⟩ := zif_ok h
    rw [Bool.and_eq_true] at h1
    have hlen := Nat.ble_eq.mp h1.1
    obtain ⟨idx, y, cc, nL, ret, hh9, e1, e2, e3, e4, e7, e8⟩ := he
    have hst3 : st.map zvv = ((st.take n).reverse.map zvv).reverse ++ (st.drop n).map zvv := by rw [List.map_reverse, List.reverse_reverse, ← List.map_append, List.take_append_drop]
    have hn : ((st.take n).reverse.map zvv).length = n := by
      rw [List.length_map, List.length_reverse, List.length_take]
      omega
    have ha : ∀ v ∈ (st.take n).reverse, zok v := fun v hv => hst v (List.mem_of_mem_take (List.mem_reverse.mp hv))
    have hr : ∀ v ∈ st.drop n, zok v := fun v hv => hst v (List.mem_of_mem_drop hv)
    refine zcallW d' mc' ms' e1 e2 e3 e4 hst3 hn (zrq5 h1.2 e7) (e8 _ _ _ h M hM ha) (fun E M' => zaf_no) ?_
    intro v M' hq
    obtain ⟨w, S', rfl, q1, q2, q3⟩ := zaf_res (k2 := fun _ _ => False) hq
    rw [zrest]
    exact hK _ _ _ _ _ _ q3 M' q2 hlo (zrest_ok q1 hr)
  · replace h := uir_ok h
    obtain ⟨c, i, r, rfl, h⟩ := h
    obtain ⟨h1, k, ⟨rfl, h2⟩, h3⟩ := zif_ok h
    have h1 := Nat.eq_of_beq_eq_true h1
    subst h1
    show zGp P l d mc ms f M pc (zmp lo) (.int (Int32.ofInt (k : Int)) :: .ref 100031 :: r.map zvv) (zQs Q)
    rw [Int32.ofInt_eq_ofNat]
    refine zs_scr hP h2 hL he ?_
    have this := hK _ _ _ _ _ _ h3 M hM hlo (zall1 (v := .inl _) (zir_to _) (zall2 (zall2 hst).2).2)
    have e9 : ((Sum.inl (xs k).toInt :: r : List zV).map zvv) = .int (xs k) :: r.map zvv := by
      show Value.int (Int32.ofInt (xs k).toInt) :: _ = _
      rw [Int32.ofInt_toInt]
    rw [e9] at this
    exact this
  · replace h := u1r_ok h
    obtain ⟨c, r, rfl, h⟩ := h
    obtain ⟨h1, h3⟩ := zif_ok h
    have h1 := Nat.eq_of_beq_eq_true h1
    subst h1
    refine zs_scn hP he ?_
    have this := hK _ _ _ _ _ _ h3 M hM hlo (zall1 (v := .inl _) ⟨by omega, by omega⟩ (zall2 hst).2)
    rw [← Int32.ofInt_eq_ofNat]
    exact this
  · exact h.elim
end
def zTokP (l : Launch) (orc : zO) (f : zF) (q : Nat × zE) : Prop := match q.2 with
  | .inl e => zpre f.1 f.2.1 q.1 = some (zdn e) ∧ zir e.2.2.2.1
  | .inr e => zcokP l orc f q.1 e
def zwqP (L : Nat) (X : Nat → Int) (d : Nat) (f : zF) (tb : List (Nat × zE)) (orc : zO) (sp : List Nat) (K : Nat → Nat → zS → Nat → List (Nat × zV) → List zV → Prop) (Q : zR2 → zS → Prop) : Nat → List (Nat × zE) → Nat → Nat → zS → Nat → List (Nat × zV) → List zV → Prop
  | 0, _, mc, ms, S, pc, lo, st => K mc ms S pc lo st
  | n + 1, sf, mc, ms, S, pc, lo, st => match znx sf tb pc with
    | some (.inl e, r) => zst3 f e mc ms S lo st (fun mc ms S pc lo st => match sp.elem pc with
      | true => K mc ms S pc lo st
      | false => zwqP L X d f tb orc sp K Q n r mc ms S pc lo st) Q
    | some (.inr e, r) => zcaP L X d orc e mc ms S pc lo st (fun mc ms S pc lo st => match sp.elem pc with
      | true => K mc ms S pc lo st
      | false => zwqP L X d f tb orc sp K Q n r mc ms S pc lo st)
    | none => K mc ms S pc lo st
theorem zwq_okP {P : zG → State → Prop} {l : Launch} {d b L : Nat} {xs : Nat → Int32} {X : Nat → Int} (eX : X = fun k => (xs k).toInt) {f : zF} {tb : List (Nat × zE)} {orc : zO} (hP : ∀ g s, P g s → scP b L xs g s) (hL : L < 2147483648) (htb : ∀ q ∈ tb, zTokP l orc f q) (hh : f.2.2.2.2.1 = []) (sp : List Nat) {K : Nat → Nat → zS → Nat → List (Nat × zV) → List zV → Prop} {Q : zR2 → zS → Prop} (hK : ∀ mc ms S pc lo st, K mc ms S pc lo st → zGt P l d mc ms f S pc lo st Q) (n : Nat) : ∀ {sf : List (Nat × zE)} {mc ms : Nat} {S : zS} {pc : Nat} {lo : List (Nat × zV)} {st : List zV}, (∀ q ∈ sf, zTokP l orc f q) →
    zwqP L X d f tb orc sp K Q n sf mc ms S pc lo st → zGt P l d mc ms f S pc lo st Q := by
  subst eX
  induction n with
  | zero => intro sf mc ms S pc lo st hsf h; exact hK _ _ _ _ _ _ h
  | succ n ih =>
    intro sf mc ms S pc lo st hsf h
    unfold zwqP at h
    split at h
    · rename_i e r he
      obtain ⟨h1, h2⟩ := znx_ok (P := zTokP l orc f) he hsf htb
      intro M hM hlo hst
      refine z_stepP h1.1 (zst3_okP h1.2 h (fun mc ms S pc lo st h => ?_) hM hlo hst)
      split at h
      · exact hK _ _ _ _ _ _ h
      · exact ih h2 h
    · rename_i e r he
      obtain ⟨h1, h2⟩ := znx_ok (P := zTokP l orc f) he hsf htb
      refine zca_okP hP hL h1 hh h (fun mc ms S pc lo st h => ?_)
      split at h
      · exact hK _ _ _ _ _ _ h
      · exact ih h2 h
    · exact hK _ _ _ _ _ _ h
theorem zU_okP {l : Launch} {orc : zO} {f : zF} {U : List (Nat × zE)} : ∀ {T : List (Nat × zI)} {B : List (Nat × zC)}, zspI U = T → zspC U = B → zspR U = true → ztbok f T → (∀ q ∈ B, zcokP l orc f q.1 q.2) → ∀ q ∈ U, zTokP l orc f q := by
  induction U with
  | nil => intro T B _ _ _ _ _ q hq; cases hq
  | cons u r ih =>
    intro T B h1 h2 h3 h4 h5 q hq
    obtain ⟨pc, e⟩ := u
    rcases e with e | e
    · subst h1
      have h3 : (decide (-2147483648 ≤ e.2.2.2.1) && (decide (e.2.2.2.1 < 2147483648) && zspR r)) = true := h3
      simp only [Bool.and_eq_true, decide_eq_true_eq] at h3
      rcases List.mem_cons.mp hq with rfl | hq
      · exact ⟨h4 (pc, zdn e) List.mem_cons_self, h3.1, h3.2.1⟩
      · exact ih rfl h2 h3.2.2 (fun x hx => h4 x (List.mem_cons_of_mem _ hx)) h5 q hq
    · subst h2
      rcases List.mem_cons.mp hq with rfl | hq
      · exact h5 (pc, e) List.mem_cons_self
      · exact ih h1 rfl h3 h4 (fun x hx => h5 x (List.mem_cons_of_mem _ hx)) q hq
