/-! the house: the reader's words (class) -/
theorem zad_t (g : zG) (i : Nat) : zad g (100000 + i) = g.2.2.2.1 i := by unfold zad; rw [if_neg (by omega), Nat.add_sub_cancel_left]
section
variable {l : Launch} {d mc ms : Nat} {f : zF} {M : zM} {pc : Nat} {lo : List (Nat × Value)} {st : List Value} {Q : zR → zM → Prop}
theorem zs_ldcT {i : Nat} {q : String × Nat × String × List Int32} (hq : zTx[i]? = some q) (h1 : q.1 = zown f.1) (hd : decode f.2.1 pc = .ok (.ldc q.2.1, 2)) (h : zGo l d mc ms f M (pc + 2) lo (.ref (100000 + i) :: st) Q) : zGo l d mc ms f M pc lo st Q := by
  intro g p e R s m args below meth c H locs cells slots ls hC a2 a3 a4 a5 a6 a7 a8
  have hk := (hC.2.2.2.2.2.2.2.1.2.2.2.2.2.2.2.2.2.1 i q hq).1
  rw [h1] at hk
  have this := h g p e R s m args below meth c H locs cells slots ls hC a2 a3 a4 a5 a6 a7 a8
  have e9 : ((Value.ref (100000 + i) :: st).map (zc g)) = .ref (g.2.2.2.1 i) :: st.map (zc g) := by
    show Value.ref (zad g _) :: _ = _
    rw [zad_t]
  rw [e9] at this
  exact va_ldcS hC.1 hC.2.1 hC.2.2.2.2.1 hk hd this
theorem zs_txt (d' : Nat) {idx n nL i : Nat} {y : MethodName} {cc : ByteArray} {ret : Option FieldType} {a rest : List Value} {q : String × Nat × String × List Int32} {x : Int32} (hq : zTx[i]? = some q) (hd : decode f.2.1 pc = .ok (.invokevirtual idx, 3)) (hl : Cond.methodLink (zown f.1) idx y ∈ zws) (hm : zMth y (.code y cc nL ret) n) (hi : Cond.instanceMethod y ∈ zws) (hs : Cond.selects y.cls y y ∈ zws) (hc : y.cls = "java/lang/String")
    (ha : ∀ g, a.map (zc g) = a) (hn : a.length = n) (h1 : d' + 1 ≤ d) (h2 : nL ≤ 18) (h3 : (rest.map Value.category).sum ≤ 8) (hR : ∀ g av, zJm l g M d' y (.code y cc nL ret) (.ref (g.2.2.2.1 i) :: a) (zJt g i av q.2.2.2) (some (.int x))) (k : zGo l d mc ms f M (pc + 3) lo (.int x :: rest) Q) : zGo l d mc ms f M pc lo (a.reverse ++ .ref (100000 + i) :: rest) Q := by
  intro g p e R s m args below meth c H locs cells slots ls hC a2 a3 a4 a5 a6 a7 a8
  obtain ⟨hx, hcb, hr, hml, hown, hlocks, hts, hw, ht, hin⟩ := id hC
  obtain ⟨av, b1, b2, b3, b4⟩ := (hw.2.2.2.2.2.2.2.2.2.1 i q hq).2
  have hJ : zJt g i av q.2.2.2 s := ⟨b1, b2, b3, b4⟩
  obtain ⟨cell, c1, c2, c3, -⟩ := b1.kept (H1 := H) (fun a _ h => a7.2.1 a (by omega))
  have hrun := vx_runV (l := l) (R := R) (H := H) (p := p) (e := e) (below := below) (meth := meth) (locs := locs) (cells := cells) (slots := slots) (g := F0 m pc ls ((a.reverse ++ .ref (100000 + i) :: rest).map (zc g))) (As := a) (rest := rest.map (zc g)) (b := g.2.2.2.1 i) (C := y.cls) (Ts := zws) ⟨hx, hcb, hml, hown, hts⟩ (hR g av)
    ⟨zcallB hm (hts _ hl) hts (by omega) (by omega), hts _ hi, hts _ hs⟩
    ⟨zjblind zJt.warm, ⟨cell, c1, c2, by rw [hc]; exact c3⟩, fun U hU hW => ⟨rfl, ⟨zW.warm hW hw, zJt.warm s U hW hJ⟩, by rw [hU]; exact a7⟩⟩
    rfl hn a8.1 (by
      show (a.reverse ++ .ref (100000 + i) :: rest).map (zc g) = _
      rw [List.map_append, List.map_cons, List.map_reverse, ha g]
      show a.reverse ++ Value.ref (zad g (100000 + i)) :: _ = _
      rw [zad_t]) (by rw [zcat]; show 2 * 0 + _ ≤ 8; omega) hd ⟨by omega, by omega⟩
  refine zback (mc' := 0) (ms' := 0) (Qc := zJq (some (.int x)) M) hrun hC a2 a3 a4 a5 a6 a8 (Nat.zero_le _) (Nat.zero_le _) (fun v M' hv => ?_) (fun E M' ce q9 H1 locs1 hqx _ _ _ _ _ => by cases hqx.1)
  obtain ⟨h1, h2⟩ := hv
  cases h1
  subst h2
  exact k
end
theorem getD_in {α : Type} {l : List α} {k : Nat} {d : α} (h : k < l.length) : l.getD k d = l[k]'h := by rw [List.getD_eq_getElem?_getD, List.getElem?_eq_getElem h]; rfl
/-- which word a text of the reader is -/
def txW (i : Nat) : Nat := [9, 10, 6, 7, 11, 12, 4, 0, 1, 2, 3, 13, 5, 8].getD i 0
theorem zTx_w : ∀ i, i < 14 → (zTx[i]?).map (fun q => (q.1, q.2.2.2)) = some (RX7, (wdL (txW i)).map Int32.ofNat) := by decide +kernel
theorem wdL_s : ∀ i, i < 14 → (wdL (txW i)).length < 7 ∧ ∀ c ∈ wdL (txW i), 97 ≤ c ∧ c ≤ 122 := by decide +kernel
theorem zch : ∀ c, c < 128 → (((Int32.ofNat c) &&& (Int16.ofInt 255).toInt32).toUInt32 % 65536).toInt32 = Int32.ofNat c ∧ narrow .char (.int (Int32.ofNat c)) = .int (Int32.ofNat c) := by decide +kernel
theorem zln : ∀ n, n < 7 → Int32.ofNat n >>> ((0 : Int32) &&& 31) = Int32.ofInt (n : Int) := by decide +kernel
theorem zTx_of {i : Nat} (hi : i < 14) : ∃ q : String × Nat × String × List Int32, zTx[i]? = some q ∧ q.1 = RX7 ∧ q.2.2.2 = (wdL (txW i)).map Int32.ofNat := by
  have h := zTx_w i hi
  cases hq : zTx[i]? with
  | none => rw [hq] at h; cases h
  | some q => rw [hq] at h; have h := Option.some.inj h; exact ⟨q, rfl, congrArg Prod.fst h, congrArg Prod.snd h⟩
section
variable {l : Launch} {d mc ms : Nat} {f : zF} {S : zS} {pc : Nat} {lo : List (Nat × zV)} {st : List zV} {Q : zR2 → zS → Prop}
theorem zGs.ldc (i : Nat) (q : String × Nat × String × List Int32) (hq : zTx[i]? = some q) (h1 : q.1 = zown f.1) (hd : decode f.2.1 pc = .ok (.ldc q.2.1, 2)) (h : zGs l d mc ms f S (pc + 2) lo (.inr (.inl (100000 + i)) :: st) Q) : zGs l d mc ms f S pc lo st Q :=
  fun M hM hlo hst => zs_ldcT hq h1 hd (h M hM hlo (zall1 (v := .inr (.inl _)) trivial hst))
theorem zGs.len {i : Nat} (hi : i < 14) (hf : f.1 = 7) (hd : decode f.2.1 pc = .ok (.invokevirtual 175, 3)) (h1 : 2 ≤ d) (h3 : zsum st ≤ 8) (h : zGs l d mc ms f S (pc + 3) lo (.inl ((wdL (txW i)).length : Int) :: st) Q) : zGs l d mc ms f S pc lo (.inr (.inl (100000 + i)) :: st) Q := by
  intro M hM hlo hst
  obtain ⟨q, hq, e1, e2⟩ := zTx_of hi
  obtain ⟨w1, w2⟩ := wdL_s i hi
  refine zs_txt (a := []) (y := yJ0_length_8abf5) (n := 0) 1 hq hd (by rw [hf]; exact C_7_175) (J_mth (z_at 651 (by decide +kernel) (by decide +kernel)) (z_at 20 (by decide +kernel) (by decide +kernel)) (by decide) (by decide +kernel)) (z_at 649 (by decide +kernel) (by decide +kernel)) (z_at 650 (by decide +kernel) (by decide +kernel)) rfl (fun _ => rfl) rfl h1 (by decide) (by rw [zsum_ok]; exact h3) (fun g av => J_length) ?_
  rw [e2, List.length_map, zln _ w1]
  exact h M hM hlo (zall1 (v := .inl _) ⟨by omega, by omega⟩ (zall2 hst).2)
theorem zGs.chr {i k : Nat} (hi : i < 14) (hf : f.1 = 7) (hd : decode f.2.1 pc = .ok (.invokevirtual 180, 3)) (h1 : 4 ≤ d) (h3 : zsum st ≤ 8) (hk : k < (wdL (txW i)).length) (h : zGs l d mc ms f S (pc + 3) lo (.inl ((wdL (txW i)).getD k 0 : Int) :: st) Q) : zGs l d mc ms f S pc lo (.inl (k : Int) :: .inr (.inl (100000 + i)) :: st) Q := by
  intro M hM hlo hst
  obtain ⟨q, hq, e1, e2⟩ := zTx_of hi
  obtain ⟨w1, w2⟩ := wdL_s i hi
  have hc : 97 ≤ (wdL (txW i)).getD k 0 ∧ (wdL (txW i)).getD k 0 ≤ 122 := by
    rw [getD_in hk]
    exact w2 _ (List.getElem_mem hk)
  have hg : q.2.2.2.getD k 0 = Int32.ofNat ((wdL (txW i)).getD k 0) := by
    rw [e2, getD_in (by rw [List.length_map]; exact hk), List.getElem_map, getD_in hk]
  obtain ⟨z1, z2⟩ := zch ((wdL (txW i)).getD k 0) (by omega)
  have hk2 : k < q.2.2.2.length := by rw [e2, List.length_map]; exact hk
  have ek : Int32.ofInt (k : Int) = Int32.ofNat k := Int32.ofInt_eq_ofNat
  show zGo l d mc ms f M pc (zmp lo) (([.int (Int32.ofInt (k : Int))] : List Value).reverse ++ .ref (100000 + i) :: st.map zvv) (zQs Q)
  rw [ek]
  refine zs_txt (a := [.int (Int32.ofNat k)]) (y := yJ0_charAt_5068e) (n := 1) (x := Int32.ofNat ((wdL (txW i)).getD k 0)) 3 hq hd (by rw [hf]; exact C_7_180) (J_mth (z_at 661 (by decide +kernel) (by decide +kernel)) (z_at 20 (by decide +kernel) (by decide +kernel)) (by decide) (by decide +kernel)) (z_at 659 (by decide +kernel) (by decide +kernel)) (z_at 660 (by decide +kernel) (by decide +kernel)) rfl (fun _ => rfl) rfl h1 (by decide) (by rw [zsum_ok]; exact h3) (fun g av => J_charAt hk2 (by rw [e2, List.length_map]; omega) (by rw [hg]; exact z1) z2) ?_
  have this := h M hM hlo (zall1 (v := .inl _) ⟨by omega, by omega⟩ (zall2 (zall2 hst).2).2)
  rw [← Int32.ofInt_eq_ofNat]
  exact this
end
theorem tk_le {T : zD} {n p : Nat} (hp : p ≤ n) : p ≤ tkP T n p ∧ tkP T n p ≤ tkN T n p ∧ tkN T n p ≤ n ∧ (tkS T n p ≠ 0 → tkP T n p < tkN T n p) := by
  have h1 := skS_le T (n - p) p
  have e1 : tkP T n p = skS T (n - p) p := rfl
  have eN : tkN T n p = if n ≤ tkP T n p then tkP T n p else if tin T 97 122 (tkP T n p) = true then rwE T n 97 122 (tkP T n p + 1) else if tin T 48 57 (tkP T n p) = true then rwE T n 48 57 (tkP T n p + 1) else tkP T n p + 1 := rfl
  have eS : tkS T n p = if n ≤ tkP T n p then 0 else if tin T 97 122 (tkP T n p) = true then 1 else if tin T 48 57 (tkP T n p) = true then 2 else if T 1 (tkP T n p) = 59 then 3 else 4 := rfl
  rw [← e1] at h1
  generalize tkP T n p = q at *
  have r1 := rwS_le T 97 122 (n - (q + 1)) (q + 1)
  have r2 := rwS_le T 48 57 (n - (q + 1)) (q + 1)
  have x1 : rwE T n 97 122 (q + 1) = rwS T 97 122 (n - (q + 1)) (q + 1) := rfl
  have x2 : rwE T n 48 57 (q + 1) = rwS T 48 57 (n - (q + 1)) (q + 1) := rfl
  rw [eN, eS, x1, x2]
  by_cases c1 : n ≤ q
  · rw [if_pos c1, if_pos c1]; exact ⟨h1.1, Nat.le_refl q, by omega, fun z => absurd rfl z⟩
  · rw [if_neg c1, if_neg c1]
    by_cases c2 : tin T 97 122 q = true
    · rw [if_pos c2, if_pos c2]; exact ⟨h1.1, by omega, by omega, fun _ => by omega⟩
    · rw [if_neg c2, if_neg c2]
      by_cases c3 : tin T 48 57 q = true
      · rw [if_pos c3, if_pos c3]; exact ⟨h1.1, by omega, by omega, fun _ => by omega⟩
      · rw [if_neg c3, if_neg c3]; exact ⟨h1.1, by omega, by omega, fun _ => by omega⟩
theorem tkS_le {T : zD} {n p : Nat} : tkS T n p ≤ 4 := by
  unfold tkS
  repeat' split
  all_goals omega
def B_X7_isWord : List (Nat × zC) := []
def O_X7_isWord : zO := fun j a S K => match j with
  | _ => False
theorem E_X7_isWord (l : Launch) : ∀ q ∈ B_X7_isWord, zcok l O_X7_isWord F_X7_isWord q.1 q.2 := fun _ h => by cases h
def U_X7_isWord : List (Nat × zE) := [(0, Sum.inl (4, 0, 0, 0, 1, [])), (1, Sum.inl (18, 7, 4, 0, 4, [])), (4, Sum.inl (0, 0, 0, 1, 5, [])), (5, Sum.inl (16, 0, 8, 0, 24, [])), (8, Sum.inl (4, 0, 0, 0, 9, [])), (9, Sum.inl (18, 7, 3, 0, 12, [])), (12, Sum.inl (4, 0, 0, 0, 13, [])), (13, Sum.inl (18, 7, 5, 0, 16, [])), (16, Sum.inl (9, 1, 0, 0, 17, [])), (17, Sum.inl (4, 1, 0, 0, 18, [])), (21, Sum.inl (16, 0, 26, 0, 24, [])), (24, Sum.inl (0, 0, 0, 0, 25, [])), (25, Sum.inl (27, 0, 0, 0, 26, [])), (26, Sum.inl (0, 0, 0, 0, 27, [])), (27, Sum.inl (5, 2, 0, 0, 28, [])), (28, Sum.inl (2, 2, 0, 0, 29, [])), (29, Sum.inl (4, 1, 0, 0, 30, [])), (33, Sum.inl (16, 1, 36, 0, 63, [])), (36, Sum.inl (4, 0, 0, 0, 37, [])), (37, Sum.inl (18, 7, 0, 0, 40, [])), (40, Sum.inl (4, 0, 0, 0, 41, [])), (41, Sum.inl (18, 7, 5, 0, 44, [])), (44, Sum.inl (2, 2, 0, 0, 45, [])), (45, Sum.inl (9, 0, 0, 0, 46, [])), (46, Sum.inl (22, 0, 0, 0, 47, [])), (47, Sum.inl (4, 1, 0, 0, 48, [])), (48, Sum.inl (2, 2, 0, 0, 49, [])), (52, Sum.inl (16, 0, 57, 0, 55, [])), (55, Sum.inl (0, 0, 0, 0, 56, [])), (56, Sum.inl (27, 0, 0, 0, 57, [])), (57, Sum.inl (8, 2, 0, 1, 60, [])), (60, Sum.inl (15, 0, 0, 0, 28, [])), (63, Sum.inl (0, 0, 0, 1, 64, [])), (64, Sum.inl (27, 0, 0, 0, 65, []))]
theorem Z_X7_isWord (l : Launch) : ∀ q ∈ U_X7_isWord, zTok l O_X7_isWord F_X7_isWord q := zU_ok rfl rfl rfl K_X7_isWord (E_X7_isWord l)
def wp_X7_isWord (a : List zV) (S : zS) (K : zR2 → zS → Prop) : Prop := match a with
  | [.inr (.inl c), .inr (.inl w)] => ∃ (T : zD) (n p i : Nat), (c = 19 ∧ w = 100000 + i ∧ i < 14 ∧ rdT S T n ∧ rdS S T n p ∧ p ≤ n) ∧ K (.inl (some (.inl (bti (isW T n p (wdL (txW i))) : Int)))) S
  | _ => False
theorem L_X7_isWord {l : Launch} {S : zS} {Q : zR2 → zS → Prop} {T : zD} {n p i : Nat} (hT : rdT S T n) (hS : rdS S T n p) (hp : p ≤ n) (hi : i < 14) (hl : tkN T n p - tkP T n p = (wdL (txW i)).length) : ∀ (w : List Nat) (k : Nat), (wdL (txW i)).drop k = w → k ≤ (wdL (txW i)).length → Q (.inl (some (.inl (bti (mtB T w (tkP T n p + k)) : Int)))) S → zGs l 4 0 0 F_X7_isWord S 28 [(0, .inr (.inl 19)), (1, .inr (.inl (100000 + i))), (2, .inl (k : Int))] [] Q := by
  obtain ⟨e2, hn, hb, h256⟩ := hT
  obtain ⟨s3, s4, s5, -⟩ := hS
  obtain ⟨t1, t2, t3, -⟩ := tk_le (T := T) hp
  obtain ⟨w1, w2⟩ := wdL_s i hi
  intro w
  induction w with
  | nil =>
    intro k hw hk q
    have hk2 : (wdL (txW i)).length ≤ k := List.drop_eq_nil_iff.mp hw
    refine zwq_ok (Z_X7_isWord l) rfl [28] (fun _ _ _ _ _ _ h => h) 400 (Z_X7_isWord l) ?_
    refine zGs.len hi rfl (by decide +kernel) (by decide) (by show 1 + 0 ≤ 8; decide) ?_
    refine zwq_ok (Z_X7_isWord l) rfl [28] (fun _ _ _ _ _ _ h => h) 400 (Z_X7_isWord l) ?_
    exact ⟨fun c => by omega, fun c => ⟨Or.inr rfl, q⟩⟩
  | cons c w ih =>
    intro k hw hk q
    have hk2 : k < (wdL (txW i)).length := by
      rcases Nat.lt_or_ge k (wdL (txW i)).length with h | h
      · exact h
      · rw [List.drop_eq_nil_iff.mpr h] at hw; cases hw
    have hc : (wdL (txW i)).getD k 0 = c := by
      rw [getD_in hk2]
      rw [List.drop_eq_getElem_cons hk2] at hw
      exact (List.cons.inj hw).1
    have hw2 : (wdL (txW i)).drop (k + 1) = w := by
      rw [List.drop_eq_getElem_cons hk2] at hw
      exact (List.cons.inj hw).2
    have hc2 : 97 ≤ c ∧ c ≤ 122 := by
      rw [← hc, getD_in hk2]
      exact w2 _ (List.getElem_mem hk2)
    have q : Q (.inl (some (.inl (bti (Nat.beq (T 1 (tkP T n p + k)) c && mtB T w (tkP T n p + k + 1)) : Int)))) S := q
    have eb := hb (tkP T n p + k) (by omega)
    have es := sby_in (lo := c) (hi := c) (h256 (tkP T n p + k)) (by omega)
    have go : zGs l 4 0 0 F_X7_isWord S 52 [(0, .inr (.inl 19)), (1, .inr (.inl (100000 + i))), (2, .inl (k : Int))] [.inl (c : Int), .inl (S 2 (tkP T n p + k))] Q := by
      refine zwq_ok (Z_X7_isWord l) rfl [28] (fun _ _ _ _ _ _ h => h) 400 (Z_X7_isWord l) ?_
      refine ⟨fun c1 => ⟨by omega, ?_⟩, fun c1 => ⟨Or.inl rfl, ?_⟩⟩
      · rw [show Nat.beq (T 1 (tkP T n p + k)) c = true from nbeq.mpr (by omega), Bool.true_and] at q
        exact ih (k + 1) hw2 (by omega) q
      · rw [show Nat.beq (T 1 (tkP T n p + k)) c = false by
          cases hz : Nat.beq (T 1 (tkP T n p + k)) c
          · rfl
          · exact absurd (nbeq.mp hz) (by omega)] at q
        exact q
    refine zwq_ok (Z_X7_isWord l) rfl [28] (fun _ _ _ _ _ _ h => h) 400 (Z_X7_isWord l) ?_
    refine zGs.len hi rfl (by decide +kernel) (by decide) (by show 1 + 0 ≤ 8; decide) ?_
    refine zwq_ok (Z_X7_isWord l) rfl [28] (fun _ _ _ _ _ _ h => h) 400 (Z_X7_isWord l) ?_
    refine ⟨fun c1 => ⟨by omega, tkP T n p + k, ⟨by omega, by omega⟩, ?_⟩, fun c1 => by omega⟩
    refine zGs.chr hi rfl (by decide +kernel) (by decide) (by show 1 + 0 ≤ 8; decide) hk2 ?_
    rw [hc]
    exact go
theorem R_X7_isWord (l : Launch) (a : List zV) (S : zS) (Q : zR2 → zS → Prop) (h : wp_X7_isWord a S Q) : zRs l 4 0 0 yX7_isWord (.code yX7_isWord cX7_isWord 3 (some .boolean)) a S Q := by
  unfold wp_X7_isWord at h
  split at h
  · obtain ⟨T, n, p, i, ⟨rfl, rfl, hi, hT, hS, hp⟩, h⟩ := h
    obtain ⟨s3, s4, s5, -⟩ := id hS
    obtain ⟨t1, t2, t3, -⟩ := tk_le (T := T) hp
    obtain ⟨w1, w2⟩ := wdL_s i hi
    obtain ⟨e2, hn, -, -⟩ := id hT
    have h : Q (.inl (some (.inl (bti (Nat.beq (tkS T n p) 1 && (Nat.beq (tkN T n p - tkP T n p) (wdL (txW i)).length && mtB T (wdL (txW i)) (tkP T n p))) : Int)))) S := h
    have no : ¬ (tkS T n p = 1 ∧ tkN T n p - tkP T n p = (wdL (txW i)).length) → Q (.inl (some (.inl 0))) S := fun c => by
      by_cases c1 : tkS T n p = 1
      · rw [show Nat.beq (tkN T n p - tkP T n p) (wdL (txW i)).length = false by
          cases hz : Nat.beq (tkN T n p - tkP T n p) (wdL (txW i)).length
          · rfl
          · exact absurd (nbeq.mp hz) (fun z => c ⟨c1, z⟩), Bool.false_and, Bool.and_false] at h
        exact h
      · rw [show Nat.beq (tkS T n p) 1 = false by
          cases hz : Nat.beq (tkS T n p) 1
          · rfl
          · exact absurd (nbeq.mp hz) c1] at h
        exact h
    have go : tkS T n p = 1 → zGs l 4 0 0 F_X7_isWord S 21 [(0, .inr (.inl 19)), (1, .inr (.inl (100000 + i)))] [.inl ((wdL (txW i)).length : Int), .inl (S 19 3 - S 19 5)] Q := fun c => by
      refine zwq_ok (Z_X7_isWord l) rfl [28] (fun _ _ _ _ _ _ h => h) 400 (Z_X7_isWord l) ?_
      refine ⟨fun c1 => ?_, fun c1 => ⟨Or.inl rfl, no (by omega)⟩⟩
      have hl : tkN T n p - tkP T n p = (wdL (txW i)).length := by omega
      rw [show Nat.beq (tkS T n p) 1 = true from nbeq.mpr c, show Nat.beq (tkN T n p - tkP T n p) (wdL (txW i)).length = true from nbeq.mpr hl] at h
      exact L_X7_isWord (l := l) hT hS hp hi hl _ 0 rfl (Nat.zero_le _) h
    refine zRs_of 7 (by decide) rfl rfl ?_; refine zwq_ok (Z_X7_isWord l) rfl [28] (fun _ _ _ _ _ _ h => h) 400 (Z_X7_isWord l) ?_
    refine ⟨fun c => ⟨by omega, ?_⟩, fun c => ⟨Or.inl rfl, no (by omega)⟩⟩
    exact zGs.len hi rfl (by decide +kernel) (by decide) (by show 1 + 0 ≤ 8; decide) (go (by omega))
  · exact h.elim
