/-! the fewest shoes: the model's search -/
theorem pk_t {wn : Nat → Int} {L : Nat} {sp : Nat → Nat} {l k : Nat} : pkB wn L sp l k = true ↔ cnP wn L sp l k ∧ HSP wn L (dnN sp k) (l + 1) := by
  unfold pkB
  rw [Bool.and_eq_true, cnB_iff (L := L), HSB_iff]
theorem pk_f {wn : Nat → Int} {L : Nat} {sp : Nat → Nat} {l k : Nat} (h : ¬ (cnP wn L sp l k ∧ HSP wn L (dnN sp k) (l + 1))) : pkB wn L sp l k = false := by
  cases hb : pkB wn L sp l k
  · rfl
  · exact absurd (pk_t.mp hb) h
theorem wn_ny {D : zD} {a b i : Nat} (h : nyB D a b i = true) : 0 ≤ wnD D a b i ∧ wnD D a b i < 4 ∧ wnD D a b i ≠ -1 := by
  have e : wnD D a b i = (hpD D a b i : Int) := by unfold wnD; rw [h]; rfl
  rcases wn_ok D a b i with q | q
  · rw [e] at q; omega
  · omega
theorem wn_no {D : zD} {a b i : Nat} (h : nyB D a b i = false) : wnD D a b i = -1 := by unfold wnD; rw [h]; rfl
section
variable {lc : Launch} {S0 : zS} {Q : zR2 → zS → Prop} {D : zD} {a b m : Nat} {x y : Int}
theorem fw_need (hD : dOK D) (hM : mOK S0 D) (hab : abM S0 a b) (hm : m < 64) {f l : Nat} {sp : Nat → Nat} {S : zS} (hl : l + (f + 1) = dL D) (hb : bt1 m l = 1) (hny : nyB D a b l = true) (hN : ∀ i, l ≤ i → i < dL D → S 94 i = -1) (hsp : spR D a b S sp)
    (ih : ∀ (sp : Nat → Nat) (S : zS), frG S S0 → (∀ i, l + 1 ≤ i → i < dL D → S 94 i = -1) → spR D a b S sp → (HSP (wnD D a b) (dL D) sp (l + 1) → ∀ S', frG S' S0 → (∀ i, i < l + 1 → S' 94 i = S 94 i) → (∀ i, i < f → S' 94 (l + 1 + i) = ((grS (wnD D a b) (dL D) f (l + 1) sp).getD i 0 : Int) - 1) → zFw lc Q x y m S' 213 (dL D : Int)) → (¬ HSP (wnD D a b) (dL D) sp (l + 1) → ∀ S', frG S' S0 → (∀ i, i < l + 1 → S' 94 i = S 94 i) → (∀ i, l + 1 ≤ i → i < dL D → S' 94 i = -1) → zFw lc Q x y m S' 190 (((l + 1 : Nat) : Int) + -1)) → zFw lc Q x y m S 97 ((l + 1 : Nat) : Int))
    (kY : HSP (wnD D a b) (dL D) sp l → ∀ S', frG S' S0 → (∀ i, i < l → S' 94 i = S 94 i) → (∀ i, i < f + 1 → S' 94 (l + i) = ((grS (wnD D a b) (dL D) (f + 1) l sp).getD i 0 : Int) - 1) → zFw lc Q x y m S' 213 (dL D : Int))
    (kN : ¬ HSP (wnD D a b) (dL D) sp l → ∀ S', frG S' S0 → (∀ i, i < l → S' 94 i = S 94 i) → (∀ i, l ≤ i → i < dL D → S' 94 i = -1) → zFw lc Q x y m S' 190 ((l : Int) + -1)) (n : Nat) :
    ∀ (v0 : Nat) (S1 : zS), 10 * dL D < v0 + n → v0 ≤ 10 * dL D → frG S1 S0 → (∀ i, i < l → S1 94 i = S 94 i) → S1 94 l = (v0 : Int) - 1 → (∀ i, l < i → i < dL D → S1 94 i = -1) → (∀ k, k < 2 * dL D → vlN k < v0 → pkB (wnD D a b) (dL D) sp l k = false) → zFw lc Q x y m S1 97 (l : Int) := by
  have h6 := hD.lodgers
  have hll : l < dL D := by omega
  obtain ⟨w1, w2, w3⟩ := wn_ny hny
  induction n with
  | zero => intro v0 S1 h1 h2; omega
  | succ n ih2 =>
    intro v0 S1 h1 h2 hf1 hlo hg hhi hn
    have hS2 : ∀ i, i < dL D → zu S1 94 l (-1) 94 i = S 94 i := fun i hi => by
      by_cases e : i = l
      · rw [e, zuE, hN l (Nat.le_refl l) hll]
      · rw [zuN (Or.inr e)]
        by_cases e2 : i < l
        · exact hlo i e2
        · rw [hhi i (by omega) hi, hN i (by omega) hi]
    have hvc : ∀ k, k < 2 * dL D → (vcQ D a b (zu S1 94 l (-1) 94) l (k / 2) (k % 2 + 1) ↔ cnP (wnD D a b) (dL D) sp l k) := fun k hk => by
      have e : 2 * (k / 2) + (k % 2 + 1) - 1 = k := by omega
      have := vc_iff (a := a) (b := b) (l := l) (w := k / 2) (s := k % 2 + 1) (g := zu S1 94 l (-1) 94) (sp := sp) hD hny (by omega) (by rw [e, gv_congr hS2]; exact hsp k hk)
      rw [e] at this
      exact this
    have hvd : ∀ k, (vlN k) / 10 = k / 2 ∧ (vlN k) % 10 = k % 2 + 1 := fun k => by unfold vlN; omega
    have hvl : ∀ k, k < 2 * dL D → vlN k < 10 * dL D := fun k hk => by unfold vlN; omega
    refine fw_try hD hM hab hm hf1 hll hb h2 hg (fun hr => ?_) (fun v hr => ?_)
    · have hr : ∀ v, v0 ≤ v → v < 10 * dL D → ¬ vcQ D a b (zu S1 94 l (-1) 94) l (v / 10) (v % 10) := by
        rcases hr with ⟨_, q⟩ | ⟨v, _, _, q, _⟩
        · exact q
        · omega
      refine kN (fun h => ?_) _ hf1.u.u (fun i hi => by rw [zuN (Or.inr (by omega)), zuN (Or.inr (by omega))]; exact hlo i hi) (fun i hi1 hi2 => ?_)
      · obtain ⟨k, hk, hc, hh⟩ := HSP_forth hll ⟨w1, w2⟩ h
        by_cases e : vlN k < v0
        · have := hn k hk e
          rw [pk_t.mpr ⟨hc, hh⟩] at this
          cases this
        · refine hr (vlN k) (by omega) (hvl k hk) ?_
          rw [(hvd k).1, (hvd k).2]
          exact (hvc k hk).mpr hc
      · by_cases e : i = l
        · rw [e, zuE]
        · rw [zuN (Or.inr e), zuN (Or.inr e)]; exact hhi i (by omega) hi2
    · obtain ⟨hv1, hv2, hq, hno⟩ : v0 ≤ v ∧ v < 10 * dL D ∧ vcQ D a b (zu S1 94 l (-1) 94) l (v / 10) (v % 10) ∧ ∀ u, v0 ≤ u → u < v → ¬ vcQ D a b (zu S1 94 l (-1) 94) l (u / 10) (u % 10) := by
        rcases hr with ⟨q, _⟩ | ⟨v', q1, q2, q3, q4, q5⟩
        · omega
        · have : v = v' := by omega
          subst this
          exact ⟨q1, q2, q4, q5⟩
      have hs := hq.1
      obtain ⟨k, hk, ek⟩ : ∃ k, k < 2 * dL D ∧ vlN k = v := ⟨2 * (v / 10) + v % 10 - 1, by omega, by unfold vlN; omega⟩
      subst ek
      rw [(hvd k).1, (hvd k).2] at hq
      have hc := (hvc k hk).mp hq
      have old : ∀ i, i < k → pkB (wnD D a b) (dL D) sp l i = false := fun i hi => by
        by_cases e : vlN i < v0
        · exact hn i (by omega) e
        · refine pk_f (fun q => hno (vlN i) (by omega) (vl_lt.mpr hi) ?_)
          rw [(hvd i).1, (hvd i).2]
          exact (hvc i (by omega)).mpr q.1
      have at3 : zu (zu S1 94 l (-1)) 94 l (vlN k : Int) 94 l = (vlN k : Int) := zuE
      have hi3 : ∀ i, i ≠ l → zu (zu S1 94 l (-1)) 94 l (vlN k : Int) 94 i = S1 94 i := fun i hi => by rw [zuN (Or.inr hi), zuN (Or.inr hi)]
      refine ih (dnN sp k) _ hf1.u.u (fun i q1 q2 => by rw [hi3 i (by omega)]; exact hhi i (by omega) q2) (fun j hj => ?_) (fun h S' f1 f2 f3 => ?_) (fun h S' f1 f2 f3 => ?_)
      · have e := gv_set (g := S 94) (g' := zu (zu S1 94 l (-1)) 94 l (vlN k : Int) 94) (v := (vlN j : Int)) (u := (vlN k : Int)) hll (hN l (Nat.le_refl l) hll) (by omega) at3 (fun i q1 q2 => by rw [zuN (Or.inr q2)]; exact hS2 i q1)
        rw [e]
        have := hsp j hj
        unfold dnN
        by_cases q : j = k
        · subst q
          rw [if_pos rfl, if_pos rfl]
          omega
        · rw [if_neg q, if_neg (fun z => q (vl_eq.mp z).symm)]
          exact this
      · have hp := pkS_first (pk_t.mpr ⟨hc, h⟩) old (2 * dL D) 0 (Nat.zero_le k) (by omega)
        have eg : grS (wnD D a b) (dL D) (f + 1) l sp = (vlN k + 1) :: grS (wnD D a b) (dL D) f (l + 1) (dnN sp k) := by
          show (if wnD D a b l = -1 then _ else match pkS (wnD D a b) (dL D) sp l (2 * dL D) 0 with | some k => (vlN k + 1) :: grS (wnD D a b) (dL D) f (l + 1) (dnN sp k) | none => 0 :: grS (wnD D a b) (dL D) f (l + 1) sp) = _
          rw [if_neg w3, hp]
        refine kY (HSP_back hll ⟨w1, w2⟩ hk hc h) S' f1 (fun i hi => by rw [f2 i (by omega), hi3 i (by omega)]; exact hlo i hi) (fun i hi => ?_)
        rw [eg]
        cases i with
        | zero =>
          rw [Nat.add_zero, f2 l (by omega), at3]
          show (vlN k : Int) = ((vlN k + 1 : Nat) : Int) - 1
          omega
        | succ i =>
          rw [show l + (i + 1) = l + 1 + i by omega]
          exact f3 i (by omega)
      · rw [show ((l + 1 : Nat) : Int) + -1 = (l : Int) by omega]
        refine fw_back1 hD hm hll hb (ih2 (vlN k + 1) S' (by omega) (by omega) f1 (fun i hi => by rw [f2 i (by omega), hi3 i (by omega)]; exact hlo i hi) (by rw [f2 l (by omega), at3]; omega) (fun i q1 q2 => f3 i (by omega) q2) (fun j hj hv => ?_))
        by_cases e : j = k
        · rw [e]; exact pk_f (fun q => h q.2)
        · exact old j (vl_lt.mp (by have := mt (fun z => vl_eq.mp (congrArg Nat.cast z)) e; omega))
theorem fw_seek (hD : dOK D) (hM : mOK S0 D) (hab : abM S0 a b) (hm : m < 64) (hbit : ∀ i, i < dL D → bt1 m i = bti (nyB D a b i)) (f : Nat) : ∀ (l : Nat) (sp : Nat → Nat) (S : zS), l + f = dL D → frG S S0 → (∀ i, l ≤ i → i < dL D → S 94 i = -1) → spR D a b S sp → (HSP (wnD D a b) (dL D) sp l → ∀ S', frG S' S0 → (∀ i, i < l → S' 94 i = S 94 i) → (∀ i, i < f → S' 94 (l + i) = ((grS (wnD D a b) (dL D) f l sp).getD i 0 : Int) - 1) → zFw lc Q x y m S' 213 (dL D : Int)) → (¬ HSP (wnD D a b) (dL D) sp l → ∀ S', frG S' S0 → (∀ i, i < l → S' 94 i = S 94 i) → (∀ i, l ≤ i → i < dL D → S' 94 i = -1) → zFw lc Q x y m S' 190 ((l : Int) + -1)) → zFw lc Q x y m S 97 (l : Int) := by
  have h6 := hD.lodgers
  induction f with
  | zero =>
    intro l sp S hl hf hN hsp kY kN
    have e : l = dL D := by omega
    have eL := (hM.fg hf).lodgers
    have := kY (by rw [e]; exact HSP_end) S hf (fun i _ => rfl) (fun i hi => by omega)
    rw [← e] at this
    refine zwq_ok (Z_X12_fewest lc) rfl [97, 213] (fun _ _ _ _ _ _ h => h) 400 (Z_X12_fewest lc) ?_
    exact ⟨fun c => by omega, fun c => ⟨fun c2 => by omega, fun c2 => this⟩⟩
  | succ f ih =>
    intro l sp S hl hf hN hsp kY kN
    have hll : l < dL D := by omega
    have hb := hbit l hll
    cases hny : nyB D a b l with
    | true =>
      rw [hny] at hb
      exact fw_need hD hM hab hm hl hb hny hN hsp (fun sp S a1 a2 a3 a4 a5 => ih (l + 1) sp S (by omega) a1 a2 a3 a4 a5) kY kN (10 * dL D + 1) 0 S (by omega) (by omega) hf (fun i _ => rfl) (by rw [hN l (Nat.le_refl l) hll]; rfl) (fun i q1 q2 => hN i (by omega) q2) (fun k _ q => by omega)
    | false =>
      rw [hny] at hb
      have hw := wn_no hny
      have hk := HSP_skip (sp := sp) hll hw
      have eg : grS (wnD D a b) (dL D) (f + 1) l sp = 0 :: grS (wnD D a b) (dL D) f (l + 1) sp := by
        show (if wnD D a b l = -1 then _ else _) = _
        rw [if_pos hw]
      refine fw_pass hD hM hm hf hll hb (ih (l + 1) sp S (by omega) hf (fun i q1 q2 => hN i (by omega) q2) hsp (fun h S' f1 f2 f3 => kY (hk.mpr h) S' f1 (fun i hi => f2 i (by omega)) (fun i hi => ?_)) (fun h S' f1 f2 f3 => ?_))
      · rw [eg]
        cases i with
        | zero => rw [Nat.add_zero, f2 l (by omega), hN l (Nat.le_refl l) hll]; rfl
        | succ i =>
          rw [show l + (i + 1) = l + 1 + i by omega]
          exact f3 i (by omega)
      · rw [show ((l + 1 : Nat) : Int) + -1 = (l : Int) by omega]
        refine fw_back0 hD hm hll hb (kN (fun z => h (hk.mp z)) S' f1 (fun i hi => f2 i (by omega)) (fun i q1 q2 => ?_))
        by_cases e : i = l
        · rw [e, f2 l (by omega)]; exact hN l (Nat.le_refl l) hll
        · exact f3 i (by omega) q2
end
