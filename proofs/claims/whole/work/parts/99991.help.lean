/-! the law's helpers: a call whose throw is caught -/
def zHd (f : zF) (h : Nat) (v : Int32) : Prop := f.2.2.1 = some .int ∧ ∃ n : Int, v = Int32.ofInt n ∧ ((∃ i : Fin 4, i.val < f.2.2.2.1 ∧ decode f.2.1 h = .ok (.astore_n i, 1) ∧ decode f.2.1 (h + 1) = .ok (.iconst n, 1) ∧ decode f.2.1 (h + 1 + 1) = .ok (.ireturn, 1)) ∨ (∃ i : Nat, i < f.2.2.2.1 ∧ decode f.2.1 h = .ok (.astore i, 2) ∧ decode f.2.1 (h + 2) = .ok (.iconst n, 1) ∧ decode f.2.1 (h + 2 + 1) = .ok (.ireturn, 1)))
def zCt (f : zF) (pc : Nat) (E : String) (v : Int32) : Prop := ∃ h k sp ep : Nat, ((∃ suf, f.2.2.2.2.1 = (sp, ep, h, k) :: suf) ∨ ∃ (sp1 ep1 h1 k1 : Nat) (suf : List (Nat × Nat × Nat × Nat)), f.2.2.2.2.1 = (sp1, ep1, h1, k1) :: (sp, ep, h, k) :: suf ∧ (sp1 ≤ pc ∧ pc < ep1) ∧ k1 ≠ 0 ∧ Cond.classLink (zown f.1) k1 "java/util/NoSuchElementException" ∈ zws ∧ E = "java/lang/IllegalArgumentException") ∧ (sp ≤ pc ∧ pc < ep) ∧ k ≠ 0 ∧ Cond.classLink (zown f.1) k E ∈ zws ∧ (E, E) ∈ zCast ∧ zHd f h v
section
variable {l : Launch} {d mc ms : Nat} {f : zF} {M : zM} {pc : Nat} {lo : List (Nat × Value)} {st : List Value} {Q : zR → zM → Prop}
theorem zh_end {g : zG} {p : Program} {e : Env} {R : Room} {s : State} {m : MethodId} {args : Array Value} {below : List Frame} {meth : Method} {c : Code} {H : Heap} {locs : List Loc} {cells slots : Nat} {ls : Array Slot} {h q : Nat} {v : Int32} (hC : zCx l g f p s m args meth c) (hh : zHd f h v) (a4 : cells ≤ R.cells) (a5 : slots ≤ R.slots) (a6 : ∀ q ∈ locs, g.2.2.1 ≤ q.base) (a7 : zH g M H) (a8 : lv_has ls f.2.2.2.1 (zlm g lo)) (hQ : Q (.inl (some (.int v))) M) :
    W p l e R s m args below meth c H locs cells slots (vx_MQ below (zQr g Q) (zQx g Q) args s R.cells R.slots (fun q => g.2.2.1 ≤ q)) (F0 m h ls [.ref q]) := by
  obtain ⟨hr, n, rfl, ⟨i, hi, d1, d2, d3⟩ | ⟨i, hi, d1, d2, d3⟩⟩ := hh
  · refine lv_astore_n hC.1 hC.2.1 d1 rfl a8 hi rfl (fun ls' _ => lv_iconst hC.1 hC.2.1 d2 rfl ?_)
    refine vx_ret (W.widen (k := R.cells) (n := R.slots) (by omega) (by omega) ?_)
    exact W.iret hC.1 hC.2.1 (hC.2.2.1.trans hr) (fun t ht _ => ⟨some (.int _), M, rfl, hQ, by rw [ht]; exact a7⟩) a6 d3 (hlocks := hC.2.2.2.2.2.1)
  · refine lv_astore hC.1 hC.2.1 d1 a8 hi rfl (fun ls' _ => lv_iconst hC.1 hC.2.1 d2 rfl ?_)
    refine vx_ret (W.widen (k := R.cells) (n := R.slots) (by omega) (by omega) ?_)
    exact W.iret hC.1 hC.2.1 (hC.2.2.1.trans hr) (fun t ht _ => ⟨some (.int _), M, rfl, hQ, by rw [ht]; exact a7⟩) a6 d3 (hlocks := hC.2.2.2.2.2.1)
theorem zcallC (d' mc' ms' : Nat) {idx o ci n nL : Nat} {y : MethodName} {cc : ByteArray} {ret : Option FieldType} {a rest : List Value} {Qc : zR → zM → Prop} (hd : decode f.2.1 pc = .ok (.invokevirtual idx, 3)) (hl : Cond.methodLink (zown f.1) idx y ∈ zws) (hm : zMth y (.code y cc nL ret) n) (hi : Cond.instanceMethod y ∈ zws) (hs : Cond.selects y.cls y y ∈ zws)
    (hst : st = a.reverse ++ .ref o :: rest) (hk : zisk M o 0 ci = true) (hcl : (zcl[ci]?).map (fun q => q.1) = some y.cls) (hn : a.length = n) (hq : (Nat.ble (d' + 1) d && Nat.ble nL 18 && Nat.ble mc' mc && Nat.ble ms' ms && Nat.ble ((rest.map Value.category).sum) 8) = true)
    (hR : zRet l d' mc' ms' y (.code y cc nL ret) (.ref o :: a) M Qc)
    (hE : ∀ E M', Qc (.inr E) M' → ∃ v : Int32, zCt f pc E v ∧ Q (.inl (some (.int v))) M')
    (k : ∀ v M', Qc (.inl v) M' → zGo l d (mc - mc') (ms - ms') f M' (pc + 3) lo (v.toList ++ rest) Q) : zGo l d mc ms f M pc lo st Q := by
  intro g p e R s m args below meth c H locs cells slots ls hC a2 a3 a4 a5 a6 a7 a8
  simp only [Bool.and_eq_true, Nat.ble_eq] at hq
  obtain ⟨⟨⟨⟨q1, q2⟩, q3⟩, q4⟩, q5⟩ := hq
  subst hst
  obtain ⟨hx, hcb, hr, hml, hown, hlocks, hts, hw, ht, hin⟩ := id hC
  have hk := zisk_ok hk
  obtain ⟨-, had, hce⟩ := a7.cell o hk (by decide)
  unfold zcell at hce
  rw [hk] at hce
  obtain ⟨q', hq', cell, c1, c2, c3, c4⟩ := hce
  have hcls : q'.1 = y.cls := by rw [hq'] at hcl; exact Option.some.inj hcl
  have hrun := vx_runV (l := l) (R := R) (H := H) (p := p) (e := e) (below := below) (meth := meth) (locs := locs) (cells := cells) (slots := slots) (g := F0 m pc ls ((a.reverse ++ .ref o :: rest).map (zc g))) (As := a.map (zc g)) (rest := rest.map (zc g)) (b := zad g o) (C := y.cls) (Ts := zws) ⟨hx, hcb, hml, hown, hts⟩ (hR g)
    ⟨zcallB hm (hts _ hl) hts (by omega) (by omega), hts _ hi, hts _ hs⟩
    ⟨zblind, ⟨cell, by rw [had]; exact c1, by rw [c3]; rfl, by rw [c2, ← hcls]; exact (hw.1.1 ci q' hq').2.1⟩, fun U hU hW => ⟨rfl, zW.warm hW hw, by rw [hU]; exact a7⟩⟩
    rfl (by rw [List.length_map]; exact hn) a8.1 (by simp [zc]) (by rw [zcat]; show 2 * 0 + _ ≤ 8; omega) hd ⟨by omega, by omega⟩
  refine zback hrun hC a2 a3 a4 a5 a6 a8 q3 q4 k (fun E M' ce q9 H1 locs1 hqx hH1 hl1 hce hcv hclx => ?_)
  obtain ⟨v, ⟨h9, k9, sp, ep, hrow, hcov, hk0, hlk, hca, hhd⟩, hQ⟩ := hE E M' hqx
  have hw9 := zh_end (l := l) (f := f) (lo := lo) (M := M') (Q := Q) (R := R) (p := p) (e := e) (below := below) (cells := cells + mc') (slots := slots + ms') (q := q9) hC hhd (by omega) (by omega) hl1 hH1 a8 hQ
  have hcast : (Cond.castable E E).before args s = true := va_Nw.use rfl (hw.2.2.2.2.2.2.2.1 _ hca)
  rcases hrow with ⟨suf, hh⟩ | ⟨sp1, ep1, h1, k1, suf, hh, hcov1, hk1, hlk1, rfl⟩
  · exact zh_1 (own := zown f.1) (E := E) (x := ⟨sp, ep, h9, k9⟩) (suf := tableOf suf) hown (by rw [ht, hh]; rfl) (by simp [covers, hcov]) hk0 (hts _ hlk) hcast hce hcv hclx hw9
  · exact zh_2 (own := zown f.1) (y := ⟨sp1, ep1, h1, k1⟩) (x := ⟨sp, ep, h9, k9⟩) (suf := tableOf suf) hown (by rw [ht, hh]; rfl) (by simp [covers, hcov1]) (by simp [covers, hcov]) hk1 hk0 (hts _ hlk1) hw.2.2.2.2.2.2.2.2.1 (hts _ hlk) hcast hce hcv hclx hw9
end
theorem zGs_callC (d' mc' ms' : Nat) {l : Launch} {d mc ms : Nat} {f : zF} {S : zS} {pc : Nat} {lo : List (Nat × zV)} {Q : zR2 → zS → Prop} {idx o ci n nL : Nat} {y : MethodName} {cc : ByteArray} {ret : Option FieldType} {a rest : List zV} {Qc : zR2 → zS → Prop} (hd : decode f.2.1 pc = .ok (.invokevirtual idx, 3)) (hl : Cond.methodLink (zown f.1) idx y ∈ zws) (hm : zMth y (.code y cc nL ret) n) (hi : Cond.instanceMethod y ∈ zws) (hs : Cond.selects y.cls y y ∈ zws)
    (ho : zLAY o = (0, ci)) (hcl : (zcl[ci]?).map (fun q => q.1) = some y.cls) (hn : a.length = n) (h1 : zrq d mc ms d' mc' ms' rest = true) (h2 : Nat.ble nL 18 = true) (hR : zRs l d' mc' ms' y (.code y cc nL ret) (.inr (.inl o) :: a) S Qc)
    (hE : ∀ E S', Qc (.inr E) S' → ∃ v : Int, zir v ∧ zCt f pc E (Int32.ofInt v) ∧ Q (.inl (some (.inl v))) S')
    (k : ∀ v S', Qc (.inl v) S' → zGs l d (mc - mc') (ms - ms') f S' (pc + 3) lo (v.toList ++ rest) Q) : zGs l d mc ms f S pc lo (a.reverse ++ .inr (.inl o) :: rest) Q := by
  intro M hM hlo hst
  have m2 := hM.2.1
  have hst3 : (a.reverse ++ .inr (.inl o) :: rest).map zvv = (a.map zvv).reverse ++ .ref o :: rest.map zvv := by
    rw [List.map_append, List.map_reverse]; rfl
  have ha : ∀ v ∈ Sum.inr (Sum.inl o) :: a, zok v := by
    intro v hv
    rcases List.mem_cons.mp hv with rfl | hv
    · trivial
    · exact hst v (List.mem_append_left _ (List.mem_reverse.mpr hv))
  have hr : ∀ v ∈ rest, zok v := fun v hv => hst v (List.mem_append_right _ (List.mem_cons_of_mem _ hv))
  have hk : zisk M o 0 ci = true := by unfold zisk; rw [m2, ho]; simp
  refine zcallC (Qc := zQs Qc) d' mc' ms' hd hl hm hi hs hst3 hk hcl (by rw [List.length_map]; exact hn) (zrq5 h1 h2) (hR M hM ha) ?_ ?_
  · rintro E M' ⟨r', S', g1, g2, g3, g4⟩
    rcases r' with w | E'
    · cases g1
    · cases g1
      obtain ⟨v, hv, hc, hq⟩ := hE E S' g4
      exact ⟨Int32.ofInt v, hc, ⟨.inl (some (.inl v)), S', rfl, hv, g3, hq⟩⟩
  · rintro v M' ⟨r', S', g1, g2, g3, g4⟩
    rcases r' with w | E'
    · have e1 : v = w.map zvv := (Sum.inl.inj g1).symm
      subst e1
      rw [zrest]
      refine k w S' g4 M' g3 hlo (zrest_ok ?_ hr)
      cases w with
      | none => intro z hz; cases hz
      | some w => intro z hz; rw [Option.toList_some, List.mem_singleton] at hz; rw [hz]; exact g2
    · cases g1
/-- steps alone: handlers don't matter -/
theorem zwq_okN {l : Launch} {d : Nat} {f : zF} {tb : List (Nat × zE)} {orc : zO} (htb : ∀ q ∈ tb, zTok l orc f q ∧ ∃ e, q.2 = .inl e) (sp : List Nat) {K : Nat → Nat → zS → Nat → List (Nat × zV) → List zV → Prop} {Q : zR2 → zS → Prop} (hK : ∀ mc ms S pc lo st, K mc ms S pc lo st → zGs l d mc ms f S pc lo st Q) (n : Nat) : ∀ {sf : List (Nat × zE)} {mc ms : Nat} {S : zS} {pc : Nat} {lo : List (Nat × zV)} {st : List zV}, (∀ q ∈ sf, zTok l orc f q ∧ ∃ e, q.2 = .inl e) →
    zwq d f tb orc sp K Q n sf mc ms S pc lo st → zGs l d mc ms f S pc lo st Q := by
  induction n with
  | zero => intro sf mc ms S pc lo st hsf h; exact hK _ _ _ _ _ _ h
  | succ n ih =>
    intro sf mc ms S pc lo st hsf h
    unfold zwq at h
    split at h
    · rename_i e r he
      obtain ⟨h1, h2⟩ := znx_ok (P := fun q => zTok l orc f q ∧ ∃ e, q.2 = .inl e) he hsf htb
      intro M hM hlo hst
      refine z_step h1.1.1 (zst3_ok h1.1.2 h (fun mc ms S pc lo st h => ?_) hM hlo hst)
      split at h
      · exact hK _ _ _ _ _ _ h
      · exact ih h2 h
    · rename_i e r he
      obtain ⟨h1, h2⟩ := znx_ok (P := fun q => zTok l orc f q ∧ ∃ e, q.2 = .inl e) he hsf htb
      obtain ⟨-, e', he'⟩ := h1
      cases he'
    · exact hK _ _ _ _ _ _ h
theorem zRs_ofH {l : Launch} {d mc ms nL : Nat} (o : Nat) {y : MethodName} {cc : ByteArray} {ret : Option FieldType} {hh : List (Nat × Nat × Nat × Nat)} {a : List zV} {S : zS} {Q : zR2 → zS → Prop} (hy : plainName y.cls = true) (ho : zown o = y.cls) (hn : Nat.ble (zsum a) nL = true)
    (k : zGs l d mc ms (o, cc, ret, nL, hh, false) S 0 (zar 0 a) [] Q) : zRs l d mc ms y (.codeWith y cc nL ret hh) a S Q := by
  intro M hM ha
  refine zRet_ofH o hy ho (by rw [zsl_vv]; exact Nat.ble_eq.mp hn) ?_
  rw [zar_ok]
  exact k M hM (fun q hq => ha _ (zar_mem a 0 q hq)) (fun v hv => by cases hv)
def orcN : zO := fun _ _ _ _ => False
theorem zok1 : zir 1 := ⟨by decide, by decide⟩
theorem zok2 : zir 2 := ⟨by decide, by decide⟩
theorem cI : Cond.classLink (zown 13) 13 "java/lang/IllegalArgumentException" ∈ zws := z_at 542 (by decide +kernel) (by decide +kernel)
theorem cN : Cond.classLink (zown 13) 18 "java/util/NoSuchElementException" ∈ zws := z_at 794 (by decide +kernel) (by decide +kernel)
theorem caI : (("java/lang/IllegalArgumentException", "java/lang/IllegalArgumentException") : String × String) ∈ zCast := by decide +kernel
theorem caN : (("java/util/NoSuchElementException", "java/util/NoSuchElementException") : String × String) ∈ zCast := by decide +kernel
/-- how a helper answers: by IllegalArgumentException alone, by NoSuchElementException alone, by both -/
def hpA (K : zR2 → zS → Prop) (r : zR2) (S : zS) : Prop := match r with
  | .inl (some (.inl w)) => K (.inl (some (.inl 0))) (zu S 1102 0 w)
  | .inr E => E = zIA ∧ K (.inl (some (.inl 1))) S
  | _ => False
def hpN (K : zR2 → zS → Prop) (r : zR2) (S : zS) : Prop := match r with
  | .inl (some (.inl w)) => K (.inl (some (.inl 0))) (zu S 1102 0 w)
  | .inr E => E = zNS ∧ K (.inl (some (.inl 1))) S
  | _ => False
def hpB (K : zR2 → zS → Prop) (r : zR2) (S : zS) : Prop := match r with
  | .inl (some (.inl w)) => K (.inl (some (.inl 0))) (zu S 1102 0 w)
  | .inr E => (E = zNS ∧ K (.inl (some (.inl 1))) S) ∨ (E = zIA ∧ K (.inl (some (.inl 2))) S)
  | _ => False
def hpF (K : zR2 → zS → Prop) (r : zR2) (S : zS) : Prop := match r with
  | .inl (some (.inr (.inr w))) => K (.inl (some (.inl 0))) (zu S 1102 0 w)
  | .inr E => (E = zNS ∧ K (.inl (some (.inl 1))) S) ∨ (E = zIA ∧ K (.inl (some (.inl 2))) S)
  | _ => False
