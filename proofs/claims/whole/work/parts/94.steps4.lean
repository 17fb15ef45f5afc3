/-! the house: the model's token -/
def rdV (S : zS) (T : zD) (n p : Nat) : Prop := S 62 18 = (tkN T n p : Int) ∧ S 62 19 = (tkS T n p : Int) ∧ S 62 20 = (tkP T n p : Int) ∧ S 62 21 = (tkN T n p : Int) - (tkP T n p : Int) ∧ (tkS T n p = 2 → S 62 22 = (tkV T n p : Int)) ∧ (tkS T n p = 1 → S 1062 23 = (wpS T (min 6 (tkN T n p - tkP T n p)) (tkP T n p) 0 : Int))
def wp_X12_steps (a : List zV) (S : zS) (K : zR2 → zS → Prop) : Prop := match a with
  | [.inr (.inl c)] => ∃ (T : zD) (n p : Nat), (c = 62 ∧ rdM S T n ∧ S 62 18 = (p : Int) ∧ p ≤ n) ∧ ∀ S', rdV S' T n p → frY S' S → K (.inl none) S'
  | _ => False
theorem rwS_1 {T : zD} {lo hi f p : Nat} (h : tin T lo hi p = true) : rwS T lo hi (f + 1) p = rwS T lo hi f (p + 1) := by
  show (bif tin T lo hi p then rwS T lo hi f (p + 1) else p) = _
  rw [h]; rfl
theorem R_X12_steps (l : Launch) (a : List zV) (S : zS) (Q : zR2 → zS → Prop) (h : wp_X12_steps a S Q) : zRs l 1 0 0 yX12_steps (.code yX12_steps cX12_steps 2 (none)) a S Q := by
  unfold wp_X12_steps at h
  split at h
  · obtain ⟨T, n, p, ⟨rfl, hT, h3, hp⟩, h⟩ := h
    refine zRs_of 12 (by decide) rfl rfl ?_
    refine L1_X12_steps (lc := l) (q0 := tkP T n p) hT (fun S1 g3 hf hs hle => ?_) (n - p) p S (by omega) h3 (fun _ _ _ _ => rfl) rfl
    have eS : tkS T n p = if n ≤ tkP T n p then 0 else if tin T 97 122 (tkP T n p) = true then 1 else if tin T 48 57 (tkP T n p) = true then 2 else if T 1 (tkP T n p) = 59 then 3 else 4 := rfl
    have eN : tkN T n p = if n ≤ tkP T n p then tkP T n p else if tin T 97 122 (tkP T n p) = true then rwE T n 97 122 (tkP T n p + 1) else if tin T 48 57 (tkP T n p) = true then rwE T n 48 57 (tkP T n p + 1) else tkP T n p + 1 := rfl
    have eV : tkV T n p = vaS T (min 3 (tkN T n p - tkP T n p)) (tkP T n p) 0 := rfl
    unfold rdV at h
    generalize tkV T n p = V at h eV
    generalize tkN T n p = N at h eN eV
    generalize tkS T n p = Z at h eS
    generalize tkP T n p = q at g3 hs hle h eS eN eV
    have e278 : ∀ (S2 : zS) (b : Int), S2 62 18 = (N : Int) → S2 62 19 = (Z : Int) → S2 62 20 = (q : Int) → (Z = 2 → S2 62 22 = (V : Int)) → (Z = 1 → S2 1062 23 = (wpS T (min 6 (N - q)) q 0 : Int)) → frY S2 S → N ≤ 701 → zGs l 1 0 0 F_X12_steps S2 278 [(0, .inr (.inl 62)), (1, .inl b)] [] Q := fun S2 b a1 a2 a3 a4 a5 a6 a7 => by
      have hn := hT.2.1
      have k := h (zu S2 62 21 (S2 62 18 - S2 62 20)) ⟨by rw [zuN (by omega)]; exact a1, by rw [zuN (by omega)]; exact a2, by rw [zuN (by omega)]; exact a3, by rw [zuE, a1, a3], fun z => by rw [zuN (by omega)]; exact a4 z, fun z => by rw [zuN (by omega)]; exact a5 z⟩ (a6.u (by omega))
      refine zwq_ok (Z_X12_steps l) rfl [0] (fun _ _ _ _ _ _ h => h) 400 (Z_X12_steps l) ?_
      exact ⟨by omega, k⟩
    have f2 : frY (zu (zu (zu S1 62 20 (q : Int)) 1062 23 0) 62 22 0) S := ((hf.u (by omega)).w).u (by omega)
    have r18 : zu (zu (zu S1 62 20 (q : Int)) 1062 23 0) 62 22 0 62 18 = (q : Int) := by rw [zuN (by omega), zuN (by omega), zuN (by omega)]; exact g3
    have r20 : zu (zu (zu S1 62 20 (q : Int)) 1062 23 0) 62 22 0 62 20 = (q : Int) := by rw [zuN (by omega), zuN (by omega), zuE]
    have r22 : zu (zu (zu S1 62 20 (q : Int)) 1062 23 0) 62 22 0 62 22 = 0 := zuE
    have r23 : zu (zu (zu S1 62 20 (q : Int)) 1062 23 0) 62 22 0 1062 23 = 0 := by rw [zuN (by omega), zuE]
    have go : zGs l 1 0 0 F_X12_steps (zu (zu (zu S1 62 20 (q : Int)) 1062 23 0) 62 22 0) 77 [(0, .inr (.inl 62)), (1, .inl (btN T n q : Int))] [] Q := by
      generalize zu (zu (zu S1 62 20 (q : Int)) 1062 23 0) 62 22 0 = S2 at f2 r18 r20 r22 r23
      have hM := hT.fy f2
      obtain ⟨e2, hn, hb, h256⟩ := id hM
      by_cases hq : n ≤ q
      · rw [if_pos hq] at eS eN
        subst eS eN
        have k := e278 (zu S2 62 19 0) (btN T n N : Int) (by rw [zuN (by omega)]; exact r18) zuE (by rw [zuN (by omega)]; exact r20) (fun z => absurd z (by decide)) (fun z => absurd z (by decide)) (f2.u (by omega)) (by omega)
        refine zwq_ok (Z_X12_steps l) rfl [278] (fun _ _ _ _ _ _ h => h) 400 (Z_X12_steps l) ?_
        exact ⟨fun c => by omega, fun c => k⟩
      · rw [if_neg hq] at eS eN
        have eb := hM.bt (p := q) (by omega)
        by_cases t1 : tin T 97 122 q = true
        · rw [if_pos t1] at eS eN
          subst eS
          have hr := rwS_1 (f := n - (q + 1)) t1
          have hl := rwS_le T 97 122 (n - (q + 1)) (q + 1)
          have eN : N = rwS T 97 122 (n - (q + 1)) (q + 1) := eN
          rw [← eN] at hr hl
          have k := L2_X12_steps (lc := l) (Q := Q) (q := q) (e := N) (b := (btN T n q : Int)) hT (fun S3 a1 a2 a3 a4 => by
            have k := e278 (zu S3 62 19 1) (btN T n q : Int) (by rw [zuN (by omega)]; exact a1) zuE (by rw [zuN (by omega)]; exact a2) (fun z => absurd z (by decide)) (fun _ => by rw [zuN (by omega)]; exact a3) (a4.u (by omega)) (by omega)
            refine zwq_ok (Z_X12_steps l) rfl [278] (fun _ _ _ _ _ _ h => h) 400 (Z_X12_steps l) ?_
            exact k) (n - (q + 1) + 1) q S2 (by omega) (Nat.le_refl q) r18 r20 (by rw [r23, Nat.sub_self]; rfl) (by rw [Nat.sub_self]; exact Nat.one_pos) f2 hr
          refine zwq_ok (Z_X12_steps l) rfl [103, 175] (fun _ _ _ _ _ _ h => h) 400 (Z_X12_steps l) ?_
          refine ⟨fun c => ⟨btN T n q, rfl, fun c2 => ?_, fun c2 => k⟩, fun c => by omega⟩
          rw [eb, show inB 97 122 (T 1 q) = true from t1] at c2
          exact absurd c2 (by decide)
        · rw [if_neg t1] at eS eN
          have t1f : inB 97 122 (btN T n q) = false := by rw [eb]; exact inB_f (fun z => t1 (tin_t.mpr z))
          have e175 : zGs l 1 0 0 F_X12_steps S2 175 [(0, .inr (.inl 62)), (1, .inl (btN T n q : Int))] [] Q := by
            by_cases t2 : tin T 48 57 q = true
            · rw [if_pos t2] at eS eN
              subst eS
              have hr := rwS_1 (f := n - (q + 1)) t2
              have hl := rwS_le T 48 57 (n - (q + 1)) (q + 1)
              have eN : N = rwS T 48 57 (n - (q + 1)) (q + 1) := eN
              rw [← eN] at hr hl
              have k := L3_X12_steps (lc := l) (Q := Q) (q := q) (e := N) (b := (btN T n q : Int)) hT (fun S3 a1 a2 a3 a4 => by
                have k := e278 (zu S3 62 19 2) (btN T n q : Int) (by rw [zuN (by omega)]; exact a1) zuE (by rw [zuN (by omega)]; exact a2) (fun _ => by rw [zuN (by omega), eV]; exact a3) (fun z => absurd z (by decide)) (a4.u (by omega)) (by omega)
                refine zwq_ok (Z_X12_steps l) rfl [278] (fun _ _ _ _ _ _ h => h) 400 (Z_X12_steps l) ?_
                exact k) (n - (q + 1) + 1) q S2 (by omega) (Nat.le_refl q) r18 r20 (by rw [r22, Nat.sub_self]; rfl) (by rw [Nat.sub_self]; exact Nat.one_pos) f2 hr
              refine zwq_ok (Z_X12_steps l) rfl [182, 253] (fun _ _ _ _ _ _ h => h) 400 (Z_X12_steps l) ?_
              refine ⟨btN T n q, rfl, fun c2 => ?_, fun c2 => k⟩
              rw [eb, show inB 48 57 (T 1 q) = true from t2] at c2
              exact absurd c2 (by decide)
            · rw [if_neg t2] at eS eN
              have t2f : inB 48 57 (btN T n q) = false := by rw [eb]; exact inB_f (fun z => t2 (tin_t.mpr z))
              have k := fun v (hv : (v : Int) = (Z : Int)) (h1 : Z ≠ 1) (h2 : Z ≠ 2) => e278 (zu (zu S2 62 18 (S2 62 18 + 1)) 62 19 v) (btN T n q : Int) (by rw [zuN (by omega), zuE, r18, eN]; rfl) (by rw [zuE]; exact hv) (by rw [zuN (by omega), zuN (by omega)]; exact r20) (fun z => absurd z h2) (fun z => absurd z h1) ((f2.u (by omega)).u (by omega)) (by omega)
              refine zwq_ok (Z_X12_steps l) rfl [182, 278] (fun _ _ _ _ _ _ h => h) 400 (Z_X12_steps l) ?_
              refine ⟨btN T n q, rfl, fun c2 => ⟨by omega, fun c3 => k 3 ?_ ?_ ?_, fun c3 => k 4 ?_ ?_ ?_⟩, fun c2 => by rw [t2f] at c2; exact absurd rfl c2⟩
              · rw [eS, if_pos (by omega)]; rfl
              · rw [eS, if_pos (by omega)]; decide
              · rw [eS, if_pos (by omega)]; decide
              · rw [eS, if_neg (by omega)]; rfl
              · rw [eS, if_neg (by omega)]; decide
              · rw [eS, if_neg (by omega)]; decide
          refine zwq_ok (Z_X12_steps l) rfl [103, 175] (fun _ _ _ _ _ _ h => h) 400 (Z_X12_steps l) ?_
          exact ⟨fun c => ⟨btN T n q, rfl, fun c2 => e175, fun c2 => by rw [t1f] at c2; exact absurd rfl c2⟩, fun c => by omega⟩
    rw [← g3] at go
    refine zwq_ok (Z_X12_steps l) rfl [77] (fun _ _ _ _ _ _ h => h) 400 (Z_X12_steps l) ?_
    refine ⟨T, n, q, ⟨rfl, ?_, ?_⟩, ?_⟩
    · rw [← g3] at f2
      exact hT.fy f2
    · exact g3
    · exact go
  · exact h.elim
