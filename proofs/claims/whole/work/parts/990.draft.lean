/-! the house: a draft, and lines that are read into it -/
/-- rows of P: 0 how many rooms, lodgers, finders, mays, which laws are told; 1 goods; 2 whose and 1; 3 home; 4 shoes; 5 begins; 6 law; 7 what is told -/
def pOK (P : zD) : Prop := (P 0 0 ≤ 8) ∧ (P 0 1 ≤ 6) ∧ (P 0 2 ≤ 3) ∧ (P 0 3 ≤ 40) ∧ (P 0 4 < 16) ∧ (∀ r, r < P 0 0 → P 1 r ≤ 99) ∧ (∀ r, r < P 0 0 → P 2 r ≤ P 0 1) ∧ (∀ r, r < P 0 0 → P 2 r ≠ 0 → P 3 (P 2 r - 1) = r) ∧ (∀ l, l < P 0 1 → P 3 l < P 0 0) ∧ (∀ l, l < P 0 1 → P 2 (P 3 l) = l + 1) ∧ (∀ k, P 4 k ≤ 1) ∧ (∀ f, f < P 0 2 → P 5 f < P 0 0) ∧ (∀ a, a < 4 → P 6 a < 4) ∧ (∀ k, P 7 k < 4096) ∧ (∀ l h a, l < P 0 1 → h < 24 → bt1 (P 7 (24 * l + h)) (4 + a) = 1 → a < P 0 0 ∧ a ≠ P 3 l) ∧ (∀ k, 24 * P 0 1 ≤ k → P 7 k = 0)
theorem pOK.rooms {P : zD} (h : pOK P) : P 0 0 ≤ 8 := h.1
theorem pOK.lodgers {P : zD} (h : pOK P) : P 0 1 ≤ 6 := h.2.1
theorem pOK.finders {P : zD} (h : pOK P) : P 0 2 ≤ 3 := h.2.2.1
theorem pOK.mays {P : zD} (h : pOK P) : P 0 3 ≤ 40 := h.2.2.2.1
theorem pOK.laws {P : zD} (h : pOK P) : P 0 4 < 16 := h.2.2.2.2.1
theorem pOK.goods {P : zD} (h : pOK P) : ∀ r, r < P 0 0 → P 1 r ≤ 99 := h.2.2.2.2.2.1
theorem pOK.whose {P : zD} (h : pOK P) : ∀ r, r < P 0 0 → P 2 r ≤ P 0 1 := h.2.2.2.2.2.2.1
theorem pOK.livesIn {P : zD} (h : pOK P) : ∀ r, r < P 0 0 → P 2 r ≠ 0 → P 3 (P 2 r - 1) = r := h.2.2.2.2.2.2.2.1
theorem pOK.home {P : zD} (h : pOK P) : ∀ l, l < P 0 1 → P 3 l < P 0 0 := h.2.2.2.2.2.2.2.2.1
theorem pOK.whoseHome {P : zD} (h : pOK P) : ∀ l, l < P 0 1 → P 2 (P 3 l) = l + 1 := h.2.2.2.2.2.2.2.2.2.1
theorem pOK.feet {P : zD} (h : pOK P) : ∀ k, P 4 k ≤ 1 := h.2.2.2.2.2.2.2.2.2.2.1
theorem pOK.begins {P : zD} (h : pOK P) : ∀ f, f < P 0 2 → P 5 f < P 0 0 := h.2.2.2.2.2.2.2.2.2.2.2.1
theorem pOK.law {P : zD} (h : pOK P) : ∀ a, a < 4 → P 6 a < 4 := h.2.2.2.2.2.2.2.2.2.2.2.2.1
theorem pOK.may {P : zD} (h : pOK P) : ∀ k, P 7 k < 4096 := h.2.2.2.2.2.2.2.2.2.2.2.2.2.1
theorem pOK.mayRoom {P : zD} (h : pOK P) : ∀ l h a, l < P 0 1 → h < 24 → bt1 (P 7 (24 * l + h)) (4 + a) = 1 → a < P 0 0 ∧ a ≠ P 3 l := h.2.2.2.2.2.2.2.2.2.2.2.2.2.2.1
theorem pOK.mayNone {P : zD} (h : pOK P) : ∀ k, 24 * P 0 1 ≤ k → P 7 k = 0 := h.2.2.2.2.2.2.2.2.2.2.2.2.2.2.2
def adR (P : zD) (g : Nat) : zD := zu (zu (zu P 1 (P 0 0) g) 2 (P 0 0) 0) 0 0 (P 0 0 + 1)
def adL (P : zD) (r e1 e2 : Nat) : zD := zu (zu (zu (zu (zu P 3 (P 0 1) r) 2 r (P 0 1 + 1)) 4 (2 * P 0 1) e1) 4 (2 * P 0 1 + 1) e2) 0 1 (P 0 1 + 1)
def adF (P : zD) (r : Nat) : zD := zu (zu P 5 (P 0 2) r) 0 2 (P 0 2 + 1)
def adA (P : zD) (a s : Nat) : zD := zu (zu P 6 a s) 0 4 (P 0 4 ||| 2 ^ a)
/-- f hours from k on are told a -/
def mrk (P : zD) (a k f : Nat) : zD := fun c j => bif Nat.beq c 7 && (Nat.ble k j && Nat.blt j (k + f)) then P c j ||| 2 ^ a else P c j
def adM (P : zD) (a k f : Nat) : zD := zu (mrk P a k f) 0 3 (P 0 3 + 1)
theorem mrk_c {P : zD} {a k f c j : Nat} (h : c ≠ 7) : mrk P a k f c j = P c j := by
  show (bif Nat.beq c 7 && _ then _ else _) = _
  rw [beqN h]; rfl
theorem mrk_in {P : zD} {a k f j : Nat} (h1 : k ≤ j) (h2 : j < k + f) : mrk P a k f 7 j = P 7 j ||| 2 ^ a := by
  show (bif Nat.beq 7 7 && (Nat.ble k j && Nat.blt j (k + f)) then _ else _) = _
  rw [show Nat.ble k j = true from Nat.ble_eq.mpr h1, bltT h2]; rfl
theorem mrk_out {P : zD} {a k f j : Nat} (h : ¬ (k ≤ j ∧ j < k + f)) : mrk P a k f 7 j = P 7 j := by
  show (bif Nat.beq 7 7 && (Nat.ble k j && Nat.blt j (k + f)) then _ else _) = _
  by_cases h1 : k ≤ j
  · rw [bltF (fun z => h ⟨h1, z⟩), Bool.and_false, Bool.and_false]; rfl
  · rw [show Nat.ble k j = false by
      cases hb : Nat.ble k j
      · rfl
      · exact absurd (Nat.ble_eq.mp hb) h1, Bool.false_and, Bool.and_false]; rfl
theorem or_bit {m a : Nat} (hm : m < 4096) (ha : a < 12) : m ||| 2 ^ a < 4096 := Nat.or_lt_two_pow (n := 12) hm (Nat.pow_lt_pow_right (by decide) ha)
theorem or_bt {m a j : Nat} : bt1 (m ||| 2 ^ a) j = 1 ↔ bt1 m j = 1 ∨ j = a := by
  have h : (m ||| 2 ^ a).testBit j = (m.testBit j || (2 ^ a).testBit j) := Nat.testBit_or _ _ _
  rw [tbt, tbt, tb_p2] at h
  constructor
  · intro z
    rw [show Nat.beq (bt1 (m ||| 2 ^ a) j) 1 = true from nbeq.mpr z] at h
    rcases Bool.or_eq_true_iff.mp h.symm with h | h
    · exact Or.inl (nbeq.mp h)
    · exact Or.inr (nbeq.mp h)
  · intro z
    have h2 : (Nat.beq (bt1 m j) 1 || Nat.beq j a) = true := by
      rcases z with z | z
      · rw [show Nat.beq (bt1 m j) 1 = true from nbeq.mpr z]; rfl
      · rw [show Nat.beq j a = true from nbeq.mpr z, Bool.or_true]
    rw [h2] at h
    exact nbeq.mp h
theorem spr_or {m a : Nat} (hm : m < 4096) (ha : a < 12) : spr m ||| 2 ^ tol a = spr (m ||| 2 ^ a) := by
  have hs := (chkA_ok hm).2.2.2
  have ht := tol_lt ha
  have e1 : spr m ||| 2 ^ tol a = msk (fun j => (spr m).testBit j || Nat.beq j (tol a)) 18 := eq_msk (Nat.or_lt_two_pow (n := 18) hs (Nat.pow_lt_pow_right (by decide) ht)) (fun j _ => by rw [Nat.testBit_or, tb_p2])
  have e2 : m ||| 2 ^ a = msk (fun j => m.testBit j || Nat.beq j a) 12 := eq_msk (or_bit hm ha) (fun j _ => by rw [Nat.testBit_or, tb_p2])
  have key : ∀ c, c < 12 → ((spr m).testBit (tol c) || Nat.beq (tol c) (tol a)) = (m.testBit c || Nat.beq c a) := fun c hc => by
    rw [spr_tol hm hc, ← tbt]
    by_cases h : c = a
    · subst h; rw [show Nat.beq (tol c) (tol c) = true from nbeq.mpr rfl, show Nat.beq c c = true from nbeq.mpr rfl]
    · rw [beqN h, beqN (fun z => h (tol_inj z))]
  rw [e1, e2]
  refine msk_tol (fun c hc => ?_) (fun c hc => ?_) (fun c hc => ?_)
  · have := key c (by omega)
    rw [show tol c = c from if_pos hc] at this
    exact this
  · show ((spr m).testBit (4 + c) || Nat.beq (4 + c) (tol a)) = false
    rw [spr_gap hm hc, beqN (by unfold tol; split <;> omega)]; rfl
  · have := key (4 + c) (by omega)
    rw [show tol (4 + c) = 10 + c by unfold tol; rw [if_neg (by omega)]; omega] at this
    exact this
section
variable {P : zD}
theorem pOK.aR (h : pOK P) {g : Nat} (hg : g ≤ 99) (hr : P 0 0 < 8) : pOK (adR P g) := by
  have e0 : adR P g 0 0 = P 0 0 + 1 := rfl
  have eN : ∀ j, j ≠ 0 → adR P g 0 j = P 0 j := fun j hj => (zuD_n (Or.inr hj)).trans ((zuD_n (Or.inl (by omega))).trans (zuD_n (Or.inl (by omega))))
  have e1 : ∀ r, adR P g 1 r = if r = P 0 0 then g else P 1 r := fun r => (zuD_n (Or.inl (by omega))).trans ((zuD_n (Or.inl (by omega))).trans zu_if)
  have e2 : ∀ r, adR P g 2 r = if r = P 0 0 then 0 else P 2 r := fun r => (zuD_n (Or.inl (by omega))).trans zu_if
  have eC : ∀ c, 3 ≤ c → adR P g c = P c := fun c hc => funext fun j => (zuD_n (Or.inl (by omega))).trans ((zuD_n (Or.inl (by omega))).trans (zuD_n (Or.inl (by omega))))
  unfold pOK
  rw [e0, eN 1 (by omega), eN 2 (by omega), eN 3 (by omega), eN 4 (by omega), eC 3 (by omega), eC 4 (by omega), eC 5 (by omega), eC 6 (by omega), eC 7 (by omega)]
  refine ⟨(by omega), h.lodgers, h.finders, h.mays, h.laws, ?_, ?_, ?_, ?_, ?_, h.feet, ?_, h.law, h.may, ?_, h.mayNone⟩
  · intro r hr
    rw [e1]
    split
    · exact hg
    · exact h.goods r (by omega)
  · intro r hr
    rw [e2]
    split
    · exact Nat.zero_le _
    · exact h.whose r (by omega)
  · intro r hr
    rw [e2]
    split
    · intro z; exact absurd rfl z
    · exact h.livesIn r (by omega)
  · intro l hl; have := h.home l hl; omega
  · intro l hl
    have := h.home l hl
    rw [e2, if_neg (by omega)]
    exact h.whoseHome l hl
  · intro f hf; have := h.begins f hf; omega
  · intro l t a hl ht hb; have := h.mayRoom l t a hl ht hb; omega
theorem pOK.aF (h : pOK P) {r : Nat} (hr : r < P 0 0) (hf : P 0 2 < 3) : pOK (adF P r) := by
  have e0 : adF P r 0 2 = P 0 2 + 1 := rfl
  have eN : ∀ j, j ≠ 2 → adF P r 0 j = P 0 j := fun j hj => (zuD_n (Or.inr hj)).trans (zuD_n (Or.inl (by omega)))
  have e5 : ∀ f, adF P r 5 f = if f = P 0 2 then r else P 5 f := fun f => (zuD_n (Or.inl (by omega))).trans zu_if
  have eC : ∀ c, c ≠ 0 → c ≠ 5 → adF P r c = P c := fun c h1 h2 => funext fun j => (zuD_n (Or.inl h1)).trans (zuD_n (Or.inl h2))
  unfold pOK
  rw [e0, eN 0 (by omega), eN 1 (by omega), eN 3 (by omega), eN 4 (by omega), eC 1 (by omega) (by omega), eC 2 (by omega) (by omega), eC 3 (by omega) (by omega), eC 4 (by omega) (by omega), eC 6 (by omega) (by omega), eC 7 (by omega) (by omega)]
  refine ⟨h.rooms, h.lodgers, (by omega), h.mays, h.laws, h.goods, h.whose, h.livesIn, h.home, h.whoseHome, h.feet, ?_, h.law, h.may, h.mayRoom, h.mayNone⟩
  intro f hf
  rw [e5]
  split
  · exact hr
  · exact h.begins f (by omega)
theorem pOK.aA (h : pOK P) {a s : Nat} (ha : a < 4) (hs : s < 4) : pOK (adA P a s) := by
  have e0 : adA P a s 0 4 = P 0 4 ||| 2 ^ a := rfl
  have eN : ∀ j, j ≠ 4 → adA P a s 0 j = P 0 j := fun j hj => (zuD_n (Or.inr hj)).trans (zuD_n (Or.inl (by omega)))
  have e6 : ∀ b, adA P a s 6 b = if b = a then s else P 6 b := fun f => (zuD_n (Or.inl (by omega))).trans zu_if
  have eC : ∀ c, c ≠ 0 → c ≠ 6 → adA P a s c = P c := fun c h1 h2 => funext fun j => (zuD_n (Or.inl h1)).trans (zuD_n (Or.inl h2))
  unfold pOK
  rw [e0, eN 0 (by omega), eN 1 (by omega), eN 2 (by omega), eN 3 (by omega), eC 1 (by omega) (by omega), eC 2 (by omega) (by omega), eC 3 (by omega) (by omega), eC 4 (by omega) (by omega), eC 5 (by omega) (by omega), eC 7 (by omega) (by omega)]
  refine ⟨h.rooms, h.lodgers, h.finders, h.mays, (Nat.or_lt_two_pow (n := 4) h.laws (Nat.pow_lt_pow_right (by decide) ha)), h.goods, h.whose, h.livesIn, h.home, h.whoseHome, h.feet, h.begins, ?_, h.may, h.mayRoom, h.mayNone⟩
  intro b hb
  rw [e6]
  split
  · exact hs
  · exact h.law b hb
theorem pOK.aL (h : pOK P) {r e1 e2 : Nat} (hr : r < P 0 0) (hw : P 2 r = 0) (hl : P 0 1 < 6) (h1 : e1 ≤ 1) (h2 : e2 ≤ 1) : pOK (adL P r e1 e2) := by
  have e0 : adL P r e1 e2 0 1 = P 0 1 + 1 := rfl
  have eN : ∀ j, j ≠ 1 → adL P r e1 e2 0 j = P 0 j := fun j hj => (zuD_n (Or.inr hj)).trans ((zuD_n (Or.inl (by omega))).trans ((zuD_n (Or.inl (by omega))).trans ((zuD_n (Or.inl (by omega))).trans (zuD_n (Or.inl (by omega))))))
  have e2' : ∀ q, adL P r e1 e2 2 q = if q = r then P 0 1 + 1 else P 2 q := fun q => (zuD_n (Or.inl (by omega))).trans ((zuD_n (Or.inl (by omega))).trans ((zuD_n (Or.inl (by omega))).trans (zu_if.trans (by rw [zuD_n (Or.inl (by omega))]))))
  have e3 : ∀ l, adL P r e1 e2 3 l = if l = P 0 1 then r else P 3 l := fun l => (zuD_n (Or.inl (by omega))).trans ((zuD_n (Or.inl (by omega))).trans ((zuD_n (Or.inl (by omega))).trans ((zuD_n (Or.inl (by omega))).trans zu_if)))
  have e4 : ∀ k, adL P r e1 e2 4 k ≤ 1 := fun k => by
    have : adL P r e1 e2 4 k = if k = 2 * P 0 1 + 1 then e2 else if k = 2 * P 0 1 then e1 else P 4 k := (zuD_n (Or.inl (by omega))).trans (zu_if.trans (by rw [zu_if]; split; rfl; split; rfl; exact (zuD_n (Or.inl (by omega))).trans (zuD_n (Or.inl (by omega)))))
    rw [this]
    have := h.feet k
    split
    · exact h2
    · split
      · exact h1
      · exact this
  have eC : ∀ c, c = 1 ∨ 5 ≤ c → adL P r e1 e2 c = P c := fun c hc => funext fun j => (zuD_n (Or.inl (by omega))).trans ((zuD_n (Or.inl (by omega))).trans ((zuD_n (Or.inl (by omega))).trans ((zuD_n (Or.inl (by omega))).trans (zuD_n (Or.inl (by omega))))))
  unfold pOK
  rw [e0, eN 0 (by omega), eN 2 (by omega), eN 3 (by omega), eN 4 (by omega), eC 1 (by omega), eC 5 (by omega), eC 6 (by omega), eC 7 (by omega)]
  refine ⟨h.rooms, (by omega), h.finders, h.mays, h.laws, h.goods, ?_, ?_, ?_, ?_, e4, h.begins, h.law, h.may, ?_, ?_⟩
  · intro q hq
    rw [e2']
    split
    · omega
    · have := h.whose q hq; omega
  · intro q hq
    rw [e2']
    split
    · rename_i c
      intro _
      rw [e3, if_pos (by omega), c]
    · intro z
      have := h.whose q hq
      rw [e3, if_neg (by omega)]
      exact h.livesIn q hq z
  · intro l hl2
    rw [e3]
    split
    · exact hr
    · exact h.home l (by omega)
  · intro l hl2
    rw [e3, e2']
    by_cases c : l = P 0 1
    · rw [if_pos c, if_pos rfl, c]
    · rw [if_neg c]
      have w := h.whoseHome l (by omega)
      rw [if_neg (fun z => by rw [z] at w; omega)]
      exact w
  · intro l t a hl2 ht hb
    rw [e3]
    by_cases c : l = P 0 1
    · have : P 7 (24 * l + t) = 0 := h.mayNone _ (by omega)
      rw [this] at hb
      unfold bt1 at hb
      rw [Nat.zero_div] at hb
      exact absurd hb (by decide)
    · rw [if_neg c]
      exact h.mayRoom l t a (by omega) ht hb
  · intro k hk; exact h.mayNone k (by omega)
theorem pOK.aM (h : pOK P) {l a t f : Nat} (hl : l < P 0 1) (ha : a < 12) (ht : t + f ≤ 24) (hm : P 0 3 < 40) (hr : ∀ b, a = 4 + b → b < P 0 0 ∧ b ≠ P 3 l) : pOK (adM P a (24 * l + t) f) := by
  have e0 : adM P a (24 * l + t) f 0 3 = P 0 3 + 1 := rfl
  have eN : ∀ j, j ≠ 3 → adM P a (24 * l + t) f 0 j = P 0 j := fun j hj => (zuD_n (Or.inr hj)).trans (mrk_c (by omega))
  have eC : ∀ c, c ≠ 0 → c ≠ 7 → adM P a (24 * l + t) f c = P c := fun c h1 h2 => funext fun j => (zuD_n (Or.inl h1)).trans (mrk_c h2)
  have e7 : ∀ k, adM P a (24 * l + t) f 7 k = mrk P a (24 * l + t) f 7 k := fun k => zuD_n (Or.inl (by omega))
  unfold pOK
  rw [e0, eN 0 (by omega), eN 1 (by omega), eN 2 (by omega), eN 4 (by omega), eC 1 (by omega) (by omega), eC 2 (by omega) (by omega), eC 3 (by omega) (by omega), eC 4 (by omega) (by omega), eC 5 (by omega) (by omega), eC 6 (by omega) (by omega)]
  refine ⟨h.rooms, h.lodgers, h.finders, (by omega), h.laws, h.goods, h.whose, h.livesIn, h.home, h.whoseHome, h.feet, h.begins, h.law, ?_, ?_, ?_⟩
  · intro k
    rw [e7]
    by_cases c : 24 * l + t ≤ k ∧ k < 24 * l + t + f
    · rw [mrk_in c.1 c.2]; exact or_bit (h.may k) ha
    · rw [mrk_out c]; exact h.may k
  · intro l2 t2 b hl2 ht2 hb
    rw [e7] at hb
    by_cases c : 24 * l + t ≤ 24 * l2 + t2 ∧ 24 * l2 + t2 < 24 * l + t + f
    · rw [mrk_in c.1 c.2] at hb
      have e : l2 = l := by omega
      rcases or_bt.mp hb with hb | hb
      · exact h.mayRoom l2 t2 b hl2 ht2 hb
      · rw [e]; exact hr b hb.symm
    · rw [mrk_out c] at hb
      exact h.mayRoom l2 t2 b hl2 ht2 hb
  · intro k hk
    rw [e7, mrk_out (by omega)]
    exact h.mayNone k hk
end
