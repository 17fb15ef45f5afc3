/-! the house: the model's digits -/
section
variable {lc : Launch} {S0 : zS} {Q : zR2 → zS → Prop} {T : zD} {n : Nat}
theorem L3_X12_steps {q e : Nat} {b : Int} (hT : rdM S0 T n) (k : ∀ S, S 62 18 = (e : Int) → S 62 20 = (q : Int) → S 62 22 = (vaS T (min 3 (e - q)) q 0 : Int) → frY S S0 → zGs lc 1 0 0 F_X12_steps S 245 [(0, .inr (.inl 62)), (1, .inl b)] [] Q) (f : Nat) : ∀ i S, i + f = n → q ≤ i → S 62 18 = (i : Int) → S 62 20 = (q : Int) → S 62 22 = (vaS T (min 3 (i - q)) q 0 : Int) → vaS T (min 3 (i - q)) q 0 < 10 ^ (min 3 (i - q)) → frY S S0 → rwS T 48 57 f i = e → zGs lc 1 0 0 F_X12_steps S 182 [(0, .inr (.inl 62)), (1, .inl b)] [] Q := by
  induction f with
  | zero =>
    intro i S hi hq h3 h20 h23 hw hf he
    have he : i = e := he
    subst he
    have hM := hT.fy hf
    obtain ⟨e2, hn, hb, h256⟩ := id hM
    have eb : btN T n i = 0 := if_neg (by omega)
    refine zwq_ok (Z_X12_steps lc) rfl [182, 245] (fun _ _ _ _ _ _ h => h) 400 (Z_X12_steps lc) ?_
    refine ⟨T, n, i, ⟨rfl, hM, h3⟩, btN T n i, rfl, fun c => k S h3 h20 h23 hf, fun c => ?_⟩
    rw [eb] at c
    exact absurd rfl c
  | succ f ih =>
    intro i S hi hq h3 h20 h23 hw hf he
    have he : (bif tin T 48 57 i then rwS T 48 57 f (i + 1) else i) = e := he
    have hM := hT.fy hf
    obtain ⟨e2, hn, hb, h256⟩ := id hM
    have eb := hM.bt (p := i) (by omega)
    by_cases t : tin T 48 57 i = true
    · rw [t] at he
      have t := tin_t.mp t
      have nx : ∀ S1, S1 62 18 = (i : Int) → S1 62 20 = (q : Int) → S1 62 22 = (vaS T (min 3 (i + 1 - q)) q 0 : Int) → vaS T (min 3 (i + 1 - q)) q 0 < 10 ^ (min 3 (i + 1 - q)) → frY S1 S0 → zGs lc 1 0 0 F_X12_steps S1 232 [(0, .inr (.inl 62)), (1, .inl b)] [] Q := fun S1 g1 g2 g3 g4 g5 => by
        have this := ih (i + 1) (zu S1 62 18 ((i : Int) + 1)) (by omega) (by omega) zuE (by rw [zuN (by omega)]; exact g2) (by rw [zuN (by omega)]; exact g3) g4 (g5.u (by omega)) he
        rw [← g1] at this
        refine zwq_ok (Z_X12_steps lc) rfl [182, 245] (fun _ _ _ _ _ _ h => h) 400 (Z_X12_steps lc) ?_
        exact ⟨by omega, this⟩
      have hp : 10 ^ (min 3 (i - q)) ≤ 10 ^ 3 := Nat.pow_le_pow_right (by decide) (by omega)
      refine zwq_ok (Z_X12_steps lc) rfl [182, 232, 245] (fun _ _ _ _ _ _ h => h) 400 (Z_X12_steps lc) ?_
      refine ⟨T, n, i, ⟨rfl, hM, h3⟩, btN T n i, rfl, fun c => ?_, fun c => ⟨by omega, fun c2 => ⟨by omega, T, n, i, ⟨rfl, hM, h3⟩, by omega, by omega, ?_⟩, fun c2 => ?_⟩⟩
      · rw [eb, inB_t.mpr t] at c
        exact absurd c (by decide)
      · have em : min 3 (i + 1 - q) = min 3 (i - q) + 1 := by omega
        have ei : q + min 3 (i - q) = i := by omega
        have es := vaS_snoc T (min 3 (i - q)) q 0
        rw [← em, ei] at es
        have go := nx (zu S 62 22 (vaS T (min 3 (i + 1 - q)) q 0 : Int)) (by rw [zuN (by omega)]; exact h3) (by rw [zuN (by omega)]; exact h20) zuE (by rw [es, em, Nat.pow_succ]; omega) (hf.u (by omega))
        rw [show (vaS T (min 3 (i + 1 - q)) q 0 : Int) = 10 * S 62 22 + (btN T n i : Int) - 48 by omega] at go
        exact go
      · rw [show min 3 (i - q) = min 3 (i + 1 - q) by omega] at h23 hw
        exact nx S h3 h20 h23 hw hf
    · have t2 : tin T 48 57 i = false := by
        cases hz : tin T 48 57 i
        · rfl
        · exact absurd hz t
      rw [t2] at he
      have he : i = e := he
      subst he
      refine zwq_ok (Z_X12_steps lc) rfl [182, 232, 245] (fun _ _ _ _ _ _ h => h) 400 (Z_X12_steps lc) ?_
      refine ⟨T, n, i, ⟨rfl, hM, h3⟩, btN T n i, rfl, fun c => k S h3 h20 h23 hf, fun c => ?_⟩
      rw [eb, show inB 48 57 (T 1 i) = false from t2] at c
      exact absurd rfl c
end
