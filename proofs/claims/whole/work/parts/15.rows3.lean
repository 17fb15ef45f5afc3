section
variable {l : Launch} {d mc ms : Nat} {f : zF} {M : zM} {pc : Nat} {lo : List (Nat × Value)} {st : List Value} {Q : zR → zM → Prop}
theorem zlocs {g : zG} {locs : List Loc} {c k : Nat} (h : ∀ q ∈ locs, g.2.2.1 ≤ q.base) : ∀ q ∈ locs ++ [(⟨g.2.2.1 + c, k⟩ : Loc)], g.2.2.1 ≤ q.base := by
  intro z hz
  rcases List.mem_append.mp hz with hz | hz
  · exact h z hz
  · rw [List.mem_singleton.mp hz]; exact Nat.le_add_right _ _
theorem zs_iald {c0 : Nat} {i : Int32} (hd : decode f.2.1 pc = .ok (.iaload, 1)) (hk : ((M.2.1 c0).1 == 1) = true) (hi : vp_in i (M.2.1 c0).2) (h : zGo l d mc ms f M (pc + 1) lo (.int (M.2.2.2.1 c0 i.toNatClampNeg) :: st) Q) : zGo l d mc ms f M pc lo (.int i :: .ref c0 :: st) Q := by
  intro g p e R s m args below meth c H locs cells slots ls hC a2 a3 a4 a5 a6 a7 a8
  have hk := zkk hk
  obtain ⟨-, had, hce⟩ := a7.cell c0 hk (by decide)
  unfold zcell at hce
  rw [hk] at hce
  show W p l e R s m args below meth c H locs cells slots _ (F0 m pc ls (.int i :: .ref (zad g c0) :: st.map (zc g)))
  rw [had]
  exact W.iald (v := .int (M.2.2.2.1 c0 i.toNatClampNeg)) hC.1 hC.2.1 hce ((hC.2.2.2.2.2.2.2.1.1.2 0 _ rfl).1 _ _) (fun q => by cases q) (by rw [arrV_size]; exact hi) (by rw [arrV_read _ _ (Nat.not_le.mp fun q => hi (Or.inr q))]) rfl rfl hd
    (h g p e R s m args below meth c H locs cells slots ls hC a2 a3 a4 a5 a6 a7 a8)
theorem zs_bald {c0 : Nat} {i : Int32} (hd : decode f.2.1 pc = .ok (.baload, 1)) (hk : ((M.2.1 c0).1 == 2) = true) (hi : vp_in i (M.2.1 c0).2) (h : zGo l d mc ms f M (pc + 1) lo (.int (M.2.2.2.1 c0 i.toNatClampNeg) :: st) Q) : zGo l d mc ms f M pc lo (.int i :: .ref c0 :: st) Q := by
  intro g p e R s m args below meth c H locs cells slots ls hC a2 a3 a4 a5 a6 a7 a8
  have hk := zkk hk
  obtain ⟨-, had, hce⟩ := a7.cell c0 hk (by decide)
  unfold zcell at hce
  rw [hk] at hce
  show W p l e R s m args below meth c H locs cells slots _ (F0 m pc ls (.int i :: .ref (zad g c0) :: st.map (zc g)))
  rw [had]
  exact W.bald (v := .int (M.2.2.2.1 c0 i.toNatClampNeg)) hC.1 hC.2.1 hce ((hC.2.2.2.2.2.2.2.1.1.2 1 _ rfl).1 _ _) (fun q => by cases q) (by rw [arrV_size]; exact hi) (by rw [arrV_read _ _ (Nat.not_le.mp fun q => hi (Or.inr q))]) rfl rfl hd
    (h g p e R s m args below meth c H locs cells slots ls hC a2 a3 a4 a5 a6 a7 a8)
theorem zs_lald {c0 : Nat} {i : Int32} (hd : decode f.2.1 pc = .ok (.laload, 1)) (hk : ((M.2.1 c0).1 == 3) = true) (hi : vp_in i (M.2.1 c0).2) (h : zGo l d mc ms f M (pc + 1) lo (.long (M.2.2.2.2 c0 i.toNatClampNeg) :: st) Q) : zGo l d mc ms f M pc lo (.int i :: .ref c0 :: st) Q := by
  intro g p e R s m args below meth c H locs cells slots ls hC a2 a3 a4 a5 a6 a7 a8
  have hk := zkk hk
  obtain ⟨-, had, hce⟩ := a7.cell c0 hk (by decide)
  unfold zcell at hce
  rw [hk] at hce
  show W p l e R s m args below meth c H locs cells slots _ (F0 m pc ls (.int i :: .ref (zad g c0) :: st.map (zc g)))
  rw [had]
  exact W.lald (v := .long (M.2.2.2.2 c0 i.toNatClampNeg)) hC.1 hC.2.1 hce ((hC.2.2.2.2.2.2.2.1.1.2 2 _ rfl).1 _ _) (fun q => by cases q) (by rw [arrV_size]; exact hi) (by rw [arrV_read _ _ (Nat.not_le.mp fun q => hi (Or.inr q))]) rfl rfl hd
    (h g p e R s m args below meth c H locs cells slots ls hC a2 a3 a4 a5 a6 a7 a8)
theorem zs_iast {c0 : Nat} {i x : Int32} (hd : decode f.2.1 pc = .ok (.iastore, 1)) (hk : ((M.2.1 c0).1 == 1) = true) (hi : vp_in i (M.2.1 c0).2) (h : zGo l d mc ms f (zsI M c0 i.toNatClampNeg x) (pc + 1) lo st Q) : zGo l d mc ms f M pc lo (.int x :: .int i :: .ref c0 :: st) Q := by
  intro g p e R s m args below meth c H locs cells slots ls hC a2 a3 a4 a5 a6 a7 a8
  have hk := zkk hk
  obtain ⟨hlt, had, hce⟩ := a7.cell c0 hk (by decide)
  unfold zcell at hce
  rw [hk] at hce
  show W p l e R s m args below meth c H locs cells slots _ (F0 m pc ls (.int x :: .int i :: .ref (zad g c0) :: st.map (zc g)))
  rw [had]
  refine W.iast hC.1 hC.2.1 hce ((hC.2.2.2.2.2.2.2.1.1.2 0 _ rfl).1 _ _) (fun q => by cases q) (by rw [arrV_size]; exact hi) rfl rfl hd fun H1 e1 z oq => ?_
  refine h g p e R s m args below meth c H1 _ cells slots ls hC a2 a3 a4 a5 (zlocs a6) (a7.put c0 rfl rfl z oq hlt (fun _ _ => rfl) (fun y hy => zu_row _ x hy) (fun _ _ => rfl) ?_) a8
  unfold zcell
  show (match M.2.1 c0 with | (0, ci) => _ | (1, n) => H1[g.2.2.1 + c0]? = some (arrV g.2.1.1 n (fun j => .int (zu M.2.2.2.1 c0 i.toNatClampNeg x c0 j))) | (2, n) => _ | (3, n) => _ | _ => _)
  rw [hk]
  show H1[g.2.2.1 + c0]? = some (arrV g.2.1.1 _ (fun j => .int (zu M.2.2.2.1 c0 i.toNatClampNeg x c0 j)))
  rw [e1, arrV_store, zu_arr _ _ _ _ Value.int]
theorem zs_bast {c0 : Nat} {i x : Int32} (hd : decode f.2.1 pc = .ok (.bastore, 1)) (hk : ((M.2.1 c0).1 == 2) = true) (hi : vp_in i (M.2.1 c0).2) (h : zGo l d mc ms f (zsI M c0 i.toNatClampNeg x.toInt8.toInt32) (pc + 1) lo st Q) : zGo l d mc ms f M pc lo (.int x :: .int i :: .ref c0 :: st) Q := by
  intro g p e R s m args below meth c H locs cells slots ls hC a2 a3 a4 a5 a6 a7 a8
  have hk := zkk hk
  obtain ⟨hlt, had, hce⟩ := a7.cell c0 hk (by decide)
  unfold zcell at hce
  rw [hk] at hce
  show W p l e R s m args below meth c H locs cells slots _ (F0 m pc ls (.int x :: .int i :: .ref (zad g c0) :: st.map (zc g)))
  rw [had]
  refine W.bast hC.1 hC.2.1 hce ((hC.2.2.2.2.2.2.2.1.1.2 1 _ rfl).1 _ _) (fun q => by cases q) (by rw [arrV_size]; exact hi) rfl rfl hd fun H1 e1 z oq => ?_
  refine h g p e R s m args below meth c H1 _ cells slots ls hC a2 a3 a4 a5 (zlocs a6) (a7.put c0 rfl rfl z oq hlt (fun _ _ => rfl) (fun y hy => zu_row _ _ hy) (fun _ _ => rfl) ?_) a8
  unfold zcell
  show (match M.2.1 c0 with | (0, ci) => _ | (1, n) => _ | (2, n) => H1[g.2.2.1 + c0]? = some (arrV g.2.1.2.1 n (fun j => .int (zu M.2.2.2.1 c0 i.toNatClampNeg x.toInt8.toInt32 c0 j))) | (3, n) => _ | _ => _)
  rw [hk]
  show H1[g.2.2.1 + c0]? = some (arrV g.2.1.2.1 _ (fun j => .int (zu M.2.2.2.1 c0 i.toNatClampNeg x.toInt8.toInt32 c0 j)))
  rw [e1, arrV_store, zu_arr _ _ _ _ Value.int]
  rfl
theorem zs_last {c0 : Nat} {i : Int32} {x : Int64} (hd : decode f.2.1 pc = .ok (.lastore, 1)) (hk : ((M.2.1 c0).1 == 3) = true) (hi : vp_in i (M.2.1 c0).2) (h : zGo l d mc ms f (zsJ M c0 i.toNatClampNeg x) (pc + 1) lo st Q) : zGo l d mc ms f M pc lo (.long x :: .int i :: .ref c0 :: st) Q := by
  intro g p e R s m args below meth c H locs cells slots ls hC a2 a3 a4 a5 a6 a7 a8
  have hk := zkk hk
  obtain ⟨hlt, had, hce⟩ := a7.cell c0 hk (by decide)
  unfold zcell at hce
  rw [hk] at hce
  show W p l e R s m args below meth c H locs cells slots _ (F0 m pc ls (.long x :: .int i :: .ref (zad g c0) :: st.map (zc g)))
  rw [had]
  refine W.last hC.1 hC.2.1 hce ((hC.2.2.2.2.2.2.2.1.1.2 2 _ rfl).1 _ _) (fun q => by cases q) (by rw [arrV_size]; exact hi) rfl rfl hd fun H1 e1 z oq => ?_
  refine h g p e R s m args below meth c H1 _ cells slots ls hC a2 a3 a4 a5 (zlocs a6) (a7.put c0 rfl rfl z oq hlt (fun _ _ => rfl) (fun _ _ => rfl) (fun y hy => zu_row _ x hy) ?_) a8
  unfold zcell
  show (match M.2.1 c0 with | (0, ci) => _ | (1, n) => _ | (2, n) => _ | (3, n) => H1[g.2.2.1 + c0]? = some (arrV g.2.1.2.2 n (fun j => .long (zu M.2.2.2.2 c0 i.toNatClampNeg x c0 j))) | _ => _)
  rw [hk]
  show H1[g.2.2.1 + c0]? = some (arrV g.2.1.2.2 _ (fun j => .long (zu M.2.2.2.2 c0 i.toNatClampNeg x c0 j)))
  rw [e1, arrV_store, zu_arr _ _ _ _ Value.long]
theorem zs_alen {c0 : Nat} (hd : decode f.2.1 pc = .ok (.arraylength, 1)) (hk : ((M.2.1 c0).1 == 1 || (M.2.1 c0).1 == 2) = true) (h : zGo l d mc ms f M (pc + 1) lo (.int (Int32.ofNat (M.2.1 c0).2) :: st) Q) : zGo l d mc ms f M pc lo (.ref c0 :: st) Q := by
  intro g p e R s m args below meth c H locs cells slots ls hC a2 a3 a4 a5 a6 a7 a8
  simp only [Bool.or_eq_true] at hk
  rcases hk with hk | hk
  · have hk := zkk hk
    obtain ⟨-, had, hce⟩ := a7.cell c0 hk (by decide)
    unfold zcell at hce
    rw [hk] at hce
    show W p l e R s m args below meth c H locs cells slots _ (F0 m pc ls (.ref (zad g c0) :: st.map (zc g)))
    rw [had]
    exact W.alen (n := Int32.ofNat (M.2.1 c0).2) hC.1 hC.2.1 hce ((hC.2.2.2.2.2.2.2.1.1.2 0 _ rfl).1 _ _) (by rw [arrV_size] <;> rfl) rfl rfl hd
      (h g p e R s m args below meth c H locs cells slots ls hC a2 a3 a4 a5 a6 a7 a8)
  · have hk := zkk hk
    obtain ⟨-, had, hce⟩ := a7.cell c0 hk (by decide)
    unfold zcell at hce
    rw [hk] at hce
    show W p l e R s m args below meth c H locs cells slots _ (F0 m pc ls (.ref (zad g c0) :: st.map (zc g)))
    rw [had]
    exact W.alen (n := Int32.ofNat (M.2.1 c0).2) hC.1 hC.2.1 hce ((hC.2.2.2.2.2.2.2.1.1.2 1 _ rfl).1 _ _) (by rw [arrV_size] <;> rfl) rfl rfl hd
      (h g p e R s m args below meth c H locs cells slots ls hC a2 a3 a4 a5 a6 a7 a8)
theorem zs_iret {x : Int32} (hd : decode f.2.1 pc = .ok (.ireturn, 1)) (hr : f.2.2.1 = some .int) (h : Q (.inl (some (.int x))) M) : zGo l d mc ms f M pc lo [.int x] Q := by
  intro g p e R s m args below meth c H locs cells slots ls hC a2 a3 a4 a5 a6 a7 a8
  refine vx_ret (W.widen (k := R.cells) (n := R.slots) (by omega) (by omega) ?_)
  exact W.iret hC.1 hC.2.1 (hC.2.2.1.trans hr) (fun t ht _ => ⟨some (.int x), M, rfl, h, by rw [ht]; exact a7⟩) a6 hd (hlocks := hC.2.2.2.2.2.1)
theorem zs_zret {x : Int32} (hd : decode f.2.1 pc = .ok (.ireturn, 1)) (hr : f.2.2.1 = some .boolean) (hx : x = 0 ∨ x = 1) (h : Q (.inl (some (.int x))) M) : zGo l d mc ms f M pc lo [.int x] Q := by
  intro g p e R s m args below meth c H locs cells slots ls hC a2 a3 a4 a5 a6 a7 a8
  refine vx_ret (W.widen (k := R.cells) (n := R.slots) (by omega) (by omega) ?_)
  exact W.zret hC.1 hC.2.1 (hC.2.2.1.trans hr) (by rcases hx with rfl | rfl <;> rfl) (fun t ht _ => ⟨some (.int x), M, rfl, h, by rw [ht]; exact a7⟩) a6 hd (hlocks := hC.2.2.2.2.2.1)
theorem zs_lret {x : Int64} (hd : decode f.2.1 pc = .ok (.lreturn, 1)) (hr : f.2.2.1 = some .long) (h : Q (.inl (some (.long x))) M) : zGo l d mc ms f M pc lo [.long x] Q := by
  intro g p e R s m args below meth c H locs cells slots ls hC a2 a3 a4 a5 a6 a7 a8
  refine vx_ret (W.widen (k := R.cells) (n := R.slots) (by omega) (by omega) ?_)
  exact W.lret hC.1 hC.2.1 (hC.2.2.1.trans hr) (fun t ht _ => ⟨some (.long x), M, rfl, h, by rw [ht]; exact a7⟩) a6 hd (hlocks := hC.2.2.2.2.2.1)
theorem zs_vret (hd : decode f.2.1 pc = .ok (.return_, 1)) (hr : f.2.2.1 = none) (h : Q (.inl none) M) : zGo l d mc ms f M pc lo [] Q := by
  intro g p e R s m args below meth c H locs cells slots ls hC a2 a3 a4 a5 a6 a7 a8
  refine vx_ret (W.widen (k := R.cells) (n := R.slots) (by omega) (by omega) ?_)
  exact W.vret hC.1 hC.2.1 (hC.2.2.1.trans hr) (fun t ht _ => ⟨none, M, rfl, h, by rw [ht]; exact a7⟩) a6 hd (hlocks := hC.2.2.2.2.2.1)
theorem zs_objinit {i c0 : Nat} (hd : decode f.2.1 pc = .ok (.invokespecial i, 3)) (hi : zoi f.1 i = true) (hq : (Nat.ble 1 d && Nat.ble ((st.map Value.category).sum) 8) = true) (h : zGo l d mc ms f M (pc + 3) lo st Q) : zGo l d mc ms f M pc lo (.ref c0 :: st) Q := by
  intro g p e R s m args below meth c H locs cells slots ls hC a2 a3 a4 a5 a6 a7 a8
  simp only [Bool.and_eq_true, Nat.ble_eq] at hq
  have hs : ((st.map (zc g)).map fun v => v.category).sum ≤ 8 := by
    rw [List.map_map]
    have e1 : ((fun v => v.category) ∘ zc g) = Value.category := funext fun v => zc_cat g v
    rw [e1]; exact hq.2
  refine W.objInit hC.1 hC.2.1 hC.2.2.2.2.1 (hC.2.2.2.2.2.2.1 _ (zoi_ok hi)) (hC.2.2.2.2.2.2.1 _ zob_i) (hC.2.2.2.2.2.2.1 _ zob_c) rfl (a8.1.trans hC.2.2.2.1.symm) (a := zad g c0) (rest := st.map (zc g)) rfl hd (by omega) ?_
    (h g p e R s m args below meth c H locs cells slots ls hC a2 a3 a4 a5 a6 a7 a8)
  show 2 * 0 + _ + 12 ≤ R.locals
  omega
theorem zs_switch {df hi : Int} {offs : Array Int} {len : Nat} {x : Int32} (hd : decode f.2.1 pc = .ok (.tableswitch df 0 hi offs, len)) (hg : (zgo pc df && offs.toList.all (zgo pc) && decide (hi = (offs.size : Int) - 1)) = true)
    (h : (∀ k : Nat, k < (offs.toList.map (ztg pc)).length → x = Int32.ofNat k → zGo l d mc ms f M (zpick (offs.toList.map (ztg pc)) k (ztg pc df)) lo st Q) ∧ ((x < 0 ∨ Int32.ofNat (offs.toList.map (ztg pc)).length ≤ x) → zGo l d mc ms f M (ztg pc df) lo st Q)) (hsz : offs.size < 1000) : zGo l d mc ms f M pc lo (.int x :: st) Q := by
  intro g p e R s m args below meth c H locs cells slots ls hC a2 a3 a4 a5 a6 a7 a8
  simp only [Bool.and_eq_true, decide_eq_true_eq] at hg
  obtain ⟨⟨hg1, hg2⟩, hg3⟩ := hg
  have hlen : (offs.toList.map (ztg pc)).length = offs.size := by simp
  rw [hlen] at h
  by_cases hx : x.toInt < 0 ∨ hi < x.toInt
  · refine lv_tableOut hC.1 hC.2.1 hd hx (ztg_ok hg1) (h.2 ?_ g p e R s m args below meth c H locs cells slots ls hC a2 a3 a4 a5 a6 a7 a8)
    rcases hx with hx | hx
    · left; rw [Int32.lt_iff_toInt_lt]; exact hx
    · right; rw [Int32.le_iff_toInt_le, show (Int32.ofNat offs.size).toInt = (offs.size : Int) from nI_toInt (by omega)]; omega
  · have h1 : ¬ x.toInt < 0 := fun q => hx (Or.inl q)
    have h2 : ¬ hi < x.toInt := fun q => hx (Or.inr q)
    have hk : (x.toInt - 0).toNat < offs.size := by omega
    have hx0 : x = Int32.ofNat (x.toInt - 0).toNat := by
      apply Int32.toInt_inj.mp
      rw [show (Int32.ofNat (x.toInt - 0).toNat).toInt = (((x.toInt - 0).toNat : Nat) : Int) from nI_toInt (by omega)]
      omega
    have ho : offs[(x.toInt - 0).toNat]? = some offs[(x.toInt - 0).toNat] := Array.getElem?_eq_getElem hk
    have hgo : zgo pc offs[(x.toInt - 0).toNat] = true := List.all_eq_true.mp hg2 _ (by rw [Array.mem_toList_iff]; exact Array.getElem_mem hk)
    have hp : ∀ (L : List Int) (k dd : Nat) (v : Int), L[k]? = some v → zpick (L.map (ztg pc)) k dd = ztg pc v := by
      intro L
      induction L with
      | nil => intro k dd v hv; cases hv
      | cons a r ih =>
        intro k dd v hv
        cases k with
        | zero => cases hv; rfl
        | succ k => exact ih k dd v hv
    have hpk := hp offs.toList (x.toInt - 0).toNat (ztg pc df) offs[(x.toInt - 0).toNat] (by rw [Array.getElem?_toList]; exact ho)
    refine lv_tableIn hC.1 hC.2.1 hd h1 h2 ho (ztg_ok hgo) ?_
    rw [← hpk]
    exact h.1 _ hk hx0 g p e R s m args below meth c H locs cells slots ls hC a2 a3 a4 a5 a6 a7 a8
end
