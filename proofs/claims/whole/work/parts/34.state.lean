/-! THE WHOLE STATE: D the house now, E what the image keeps, T the rest -/
def sby (b : Nat) : Int := if b < 128 then (b : Int) else (b : Int) - 256
/-- rows of T: 0 how much is on the tape, 1 its bytes, 2 the fault's place and 1, 3 refused, 4 is an image kept, 5 how long the path is, 6 its rooms, 7 its looks, 8 is a lending kept, 9 lenders and 1 -/
def kOK (S : zS) (E : zD) : Prop := (S 28 7 = (dN E : Int)) ∧ (S 28 8 = (dQ E : Int) - 1) ∧ (S 28 9 = (dP E : Int)) ∧ (∀ k, k < dN E → S 29 k = (dT E (3 * k) : Int)) ∧ (∀ k, k < dN E → S 30 k = (dT E (3 * k + 1) : Int)) ∧ (∀ k, k < dN E → S 31 k = (dT E (3 * k + 2) : Int)) ∧ (∀ k, k < 2 * dL E → S 32 k = (dU E k : Int)) ∧ (∀ k, k < 144 → S 33 k = (tol (dD E k) : Int)) ∧ (∀ k, k < 72 → S 34 k = (dK E k : Int)) ∧ (∀ r, r < 8 → S 35 r = (dS E r : Int))
theorem kOK.lent {S : zS} {E : zD} (h : kOK S E) : S 28 7 = (dN E : Int) := h.1
theorem kOK.seenHour {S : zS} {E : zD} (h : kOK S E) : S 28 8 = (dQ E : Int) - 1 := h.2.1
theorem kOK.seenRooms {S : zS} {E : zD} (h : kOK S E) : S 28 9 = (dP E : Int) := h.2.2.1
theorem kOK.givers {S : zS} {E : zD} (h : kOK S E) : ∀ k, k < dN E → S 29 k = (dT E (3 * k) : Int) := h.2.2.2.1
theorem kOK.takers {S : zS} {E : zD} (h : kOK S E) : ∀ k, k < dN E → S 30 k = (dT E (3 * k + 1) : Int) := h.2.2.2.2.1
theorem kOK.lentShoes {S : zS} {E : zD} (h : kOK S E) : ∀ k, k < dN E → S 31 k = (dT E (3 * k + 2) : Int) := h.2.2.2.2.2.1
theorem kOK.shoes {S : zS} {E : zD} (h : kOK S E) : ∀ k, k < 2 * dL E → S 32 k = (dU E k : Int) := h.2.2.2.2.2.2.1
theorem kOK.day {S : zS} {E : zD} (h : kOK S E) : ∀ k, k < 144 → S 33 k = (tol (dD E k) : Int) := h.2.2.2.2.2.2.2.1
theorem kOK.rounds {S : zS} {E : zD} (h : kOK S E) : ∀ k, k < 72 → S 34 k = (dK E k : Int) := h.2.2.2.2.2.2.2.2.1
theorem kOK.seen {S : zS} {E : zD} (h : kOK S E) : ∀ r, r < 8 → S 35 r = (dS E r : Int) := h.2.2.2.2.2.2.2.2.2
def iOK (S : zS) (E : zD) : Prop := (S 97 0 = (dN E : Int)) ∧ (S 97 1 = (dQ E : Int) - 1) ∧ (S 97 2 = (dP E : Int)) ∧ (∀ k, k < 3 * dN E → S 98 k = (dT E k : Int)) ∧ (∀ k, k < 144 → S 100 k = (dD E k : Int)) ∧ (∀ k, k < 72 → S 101 k = (dK E k : Int)) ∧ (∀ r, r < 8 → S 99 r = (dS E r : Int))
theorem iOK.lent {S : zS} {E : zD} (h : iOK S E) : S 97 0 = (dN E : Int) := h.1
theorem iOK.seenHour {S : zS} {E : zD} (h : iOK S E) : S 97 1 = (dQ E : Int) - 1 := h.2.1
theorem iOK.seenRooms {S : zS} {E : zD} (h : iOK S E) : S 97 2 = (dP E : Int) := h.2.2.1
theorem iOK.lending {S : zS} {E : zD} (h : iOK S E) : ∀ k, k < 3 * dN E → S 98 k = (dT E k : Int) := h.2.2.2.1
theorem iOK.day {S : zS} {E : zD} (h : iOK S E) : ∀ k, k < 144 → S 100 k = (dD E k : Int) := h.2.2.2.2.1
theorem iOK.looks {S : zS} {E : zD} (h : iOK S E) : ∀ k, k < 72 → S 101 k = (dK E k : Int) := h.2.2.2.2.2.1
theorem iOK.seen {S : zS} {E : zD} (h : iOK S E) : ∀ r, r < 8 → S 99 r = (dS E r : Int) := h.2.2.2.2.2.2
/-- the words of a code -/
def dst (a b : Nat) : Nat := (bl (a ^^^ b)).length
def codS (d : Nat) : Nat → Nat → List Nat → List Nat
  | 0, _, ws => ws
  | f + 1, v, ws => codS d f (v + 1) (bif ws.all (fun w => Nat.ble d (dst v w)) then ws ++ [v] else ws)
def cod (d : Nat) : List Nat := codS d 256 0 []
def eC (S : zS) (D E T : zD) : Prop := (cOK S D) ∧ (S 1 1 = (T 0 0 : Int)) ∧ (∀ k, k < T 0 0 → S 2 k = sby (T 1 k)) ∧ (S 0 14 = (T 2 0 : Int) - 1) ∧ (∀ i, i < 3 → S 61 i = (T 3 i : Int)) ∧ (S 0 15 = (T 4 0 : Int)) ∧ (T 4 0 = 1 → kOK S E) ∧ (S 42 6 = (T 5 0 : Int)) ∧ (∀ i, i < T 5 0 → S 45 i = (T 6 i : Int)) ∧ (∀ i, i < T 5 0 → S 46 i = (T 7 i : Int)) ∧ (S 52 9 = (T 8 0 : Int)) ∧ (T 8 0 = 1 → ∀ l, l < dL D → S 58 l = (T 9 l : Int) - 1) ∧ (S 59 2 = 0 ∨ ∃ d : Nat, 1 ≤ d ∧ d ≤ 3 ∧ S 59 2 = (d : Int) ∧ S 59 1 = (((cod d).take 40).length : Int) ∧ ∀ i w : Nat, ((cod d).take 40)[i]? = some w → S 60 i = (w : Int))
theorem eC.now {S : zS} {D E T : zD} (h : eC S D E T) : cOK S D := h.1
theorem eC.tape {S : zS} {D E T : zD} (h : eC S D E T) : S 1 1 = (T 0 0 : Int) := h.2.1
theorem eC.bytes {S : zS} {D E T : zD} (h : eC S D E T) : ∀ k, k < T 0 0 → S 2 k = sby (T 1 k) := h.2.2.1
theorem eC.fault {S : zS} {D E T : zD} (h : eC S D E T) : S 0 14 = (T 2 0 : Int) - 1 := h.2.2.2.1
theorem eC.refused {S : zS} {D E T : zD} (h : eC S D E T) : ∀ i, i < 3 → S 61 i = (T 3 i : Int) := h.2.2.2.2.1
theorem eC.isKept {S : zS} {D E T : zD} (h : eC S D E T) : S 0 15 = (T 4 0 : Int) := h.2.2.2.2.2.1
theorem eC.kept {S : zS} {D E T : zD} (h : eC S D E T) : T 4 0 = 1 → kOK S E := h.2.2.2.2.2.2.1
theorem eC.path {S : zS} {D E T : zD} (h : eC S D E T) : S 42 6 = (T 5 0 : Int) := h.2.2.2.2.2.2.2.1
theorem eC.pathRooms {S : zS} {D E T : zD} (h : eC S D E T) : ∀ i, i < T 5 0 → S 45 i = (T 6 i : Int) := h.2.2.2.2.2.2.2.2.1
theorem eC.pathLooks {S : zS} {D E T : zD} (h : eC S D E T) : ∀ i, i < T 5 0 → S 46 i = (T 7 i : Int) := h.2.2.2.2.2.2.2.2.2.1
theorem eC.lends {S : zS} {D E T : zD} (h : eC S D E T) : S 52 9 = (T 8 0 : Int) := h.2.2.2.2.2.2.2.2.2.2.1
theorem eC.lenders {S : zS} {D E T : zD} (h : eC S D E T) : T 8 0 = 1 → ∀ l, l < dL D → S 58 l = (T 9 l : Int) - 1 := h.2.2.2.2.2.2.2.2.2.2.2.1
theorem eC.slippers {S : zS} {D E T : zD} (h : eC S D E T) : S 59 2 = 0 ∨ ∃ d : Nat, 1 ≤ d ∧ d ≤ 3 ∧ S 59 2 = (d : Int) ∧ S 59 1 = (((cod d).take 40).length : Int) ∧ ∀ i w : Nat, ((cod d).take 40)[i]? = some w → S 60 i = (w : Int) := h.2.2.2.2.2.2.2.2.2.2.2.2
def eM (S : zS) (D E T : zD) : Prop := (mOK S D) ∧ (S 62 13 = (T 0 0 : Int)) ∧ (∀ k, k < T 0 0 → S 70 k = (T 1 k : Int)) ∧ (S 62 15 = (T 2 0 : Int) - 1) ∧ (∀ i, i < 3 → S 71 i = (T 3 i : Int)) ∧ (S 62 63 = (T 4 0 : Int)) ∧ (T 4 0 = 1 → iOK S E) ∧ (S 62 52 = (T 5 0 : Int)) ∧ (∀ i, i < T 5 0 → S 89 i = (T 6 i : Int)) ∧ (∀ i, i < T 5 0 → S 90 i = (T 7 i : Int)) ∧ (S 62 56 = (T 8 0 : Int)) ∧ (T 8 0 = 1 → ∀ l, l < dL D → S 95 l = (T 9 l : Int) - 1)
theorem eM.now {S : zS} {D E T : zD} (h : eM S D E T) : mOK S D := h.1
theorem eM.tape {S : zS} {D E T : zD} (h : eM S D E T) : S 62 13 = (T 0 0 : Int) := h.2.1
theorem eM.bytes {S : zS} {D E T : zD} (h : eM S D E T) : ∀ k, k < T 0 0 → S 70 k = (T 1 k : Int) := h.2.2.1
theorem eM.fault {S : zS} {D E T : zD} (h : eM S D E T) : S 62 15 = (T 2 0 : Int) - 1 := h.2.2.2.1
theorem eM.refused {S : zS} {D E T : zD} (h : eM S D E T) : ∀ i, i < 3 → S 71 i = (T 3 i : Int) := h.2.2.2.2.1
theorem eM.hasImage {S : zS} {D E T : zD} (h : eM S D E T) : S 62 63 = (T 4 0 : Int) := h.2.2.2.2.2.1
theorem eM.image {S : zS} {D E T : zD} (h : eM S D E T) : T 4 0 = 1 → iOK S E := h.2.2.2.2.2.2.1
theorem eM.path {S : zS} {D E T : zD} (h : eM S D E T) : S 62 52 = (T 5 0 : Int) := h.2.2.2.2.2.2.2.1
theorem eM.pathRooms {S : zS} {D E T : zD} (h : eM S D E T) : ∀ i, i < T 5 0 → S 89 i = (T 6 i : Int) := h.2.2.2.2.2.2.2.2.1
theorem eM.pathLooks {S : zS} {D E T : zD} (h : eM S D E T) : ∀ i, i < T 5 0 → S 90 i = (T 7 i : Int) := h.2.2.2.2.2.2.2.2.2.1
theorem eM.lends {S : zS} {D E T : zD} (h : eM S D E T) : S 62 56 = (T 8 0 : Int) := h.2.2.2.2.2.2.2.2.2.2.1
theorem eM.lenders {S : zS} {D E T : zD} (h : eM S D E T) : T 8 0 = 1 → ∀ l, l < dL D → S 95 l = (T 9 l : Int) - 1 := h.2.2.2.2.2.2.2.2.2.2.2
/-- the same plan -/
def sPl (D E : zD) : Prop := ∀ c, c < 8 → D c = E c
def xOK (D E T : zD) (N : Nat) : Prop := (dOK D) ∧ (T 0 0 ≤ 700) ∧ (∀ k, T 1 k < 256) ∧ (T 2 0 ≤ 701) ∧ (∀ i, T 3 i ≤ N) ∧ (T 4 0 ≤ 1) ∧ (T 4 0 = 1 → dOK E ∧ sPl D E) ∧ (T 5 0 ≤ 6) ∧ (T 8 0 ≤ 1) ∧ (N < 100000)
theorem xOK.now {D E T : zD} {N : Nat} (h : xOK D E T N) : dOK D := h.1
theorem xOK.tape {D E T : zD} {N : Nat} (h : xOK D E T N) : T 0 0 ≤ 700 := h.2.1
theorem xOK.bytes {D E T : zD} {N : Nat} (h : xOK D E T N) : ∀ k, T 1 k < 256 := h.2.2.1
theorem xOK.fault {D E T : zD} {N : Nat} (h : xOK D E T N) : T 2 0 ≤ 701 := h.2.2.2.1
theorem xOK.refused {D E T : zD} {N : Nat} (h : xOK D E T N) : ∀ i, T 3 i ≤ N := h.2.2.2.2.1
theorem xOK.isKept {D E T : zD} {N : Nat} (h : xOK D E T N) : T 4 0 ≤ 1 := h.2.2.2.2.2.1
theorem xOK.kept {D E T : zD} {N : Nat} (h : xOK D E T N) : T 4 0 = 1 → dOK E ∧ sPl D E := h.2.2.2.2.2.2.1
theorem xOK.path {D E T : zD} {N : Nat} (h : xOK D E T N) : T 5 0 ≤ 6 := h.2.2.2.2.2.2.2.1
theorem xOK.lends {D E T : zD} {N : Nat} (h : xOK D E T N) : T 8 0 ≤ 1 := h.2.2.2.2.2.2.2.2.1
theorem xOK.few {D E T : zD} {N : Nat} (h : xOK D E T N) : N < 100000 := h.2.2.2.2.2.2.2.2.2
def frM (S S' : zS) : Prop := ∀ c, (c < 62 ∨ 102 ≤ c) → S' c = S c
def frC (S S' : zS) : Prop := ∀ c, 62 ≤ c → S' c = S c
theorem frM.u {S S' : zS} {c k : Nat} {v : Int} (h : frM S S') (h1 : 62 ≤ c) (h2 : c < 102) : frM S (zu S' c k v) := by
  intro x hx
  rw [← h x hx]
  funext j
  show (bif x == c && j == k then v else S' x j) = S' x j
  rw [show (x == c) = false by simp; omega]
  rfl
theorem frC.u {S S' : zS} {c k : Nat} {v : Int} (h : frC S S') (h2 : c < 62) : frC S (zu S' c k v) := by
  intro x hx
  rw [← h x hx]
  funext j
  show (bif x == c && j == k then v else S' x j) = S' x j
  rw [show (x == c) = false by simp; omega]
  rfl
theorem frM.r (S : zS) : frM S S := fun _ _ => rfl
theorem frC.r (S : zS) : frC S S := fun _ _ => rfl
theorem zuN {S : zS} {c k x j : Nat} {v : Int} (h : x ≠ c ∨ j ≠ k) : zu S c k v x j = S x j := by
  show (bif x == c && j == k then v else S x j) = S x j
  rcases h with h | h
  · rw [show (x == c) = false by simpa using h]; rfl
  · rw [show (j == k) = false by simpa using h, Bool.and_false]; rfl
theorem zuE {S : zS} {c k : Nat} {v : Int} : zu S c k v c k = v := by
  show (bif c == c && k == k then v else S c k) = v
  rw [beq_self_eq_true, beq_self_eq_true]; rfl
theorem zu_c {S : zS} {c k x : Nat} {v : Int} (h : x ≠ c) : zu S c k v x = S x := funext fun j => zuN (Or.inl h)
theorem eM.u {S : zS} {D E T : zD} {k : Nat} {v : Int} (h : eM S D E T) (hk : k = 0 ∨ (17 ≤ k ∧ k ≤ 28) ∨ k = 14 ∨ k = 45 ∨ k = 59 ∨ k = 60 ∨ k = 62) : eM (zu S 62 k v) D E T := by
  have h0 := h.now.u (v := v) hk
  have e : ∀ j, j ≠ k → zu S 62 k v 62 j = S 62 j := fun j hj => zuN (Or.inr hj)
  unfold eM at h ⊢
  rw [e 13 (by omega), e 15 (by omega), e 63 (by omega), e 52 (by omega), e 56 (by omega)]
  exact ⟨h0, h.2⟩
/-- how an answer is told -/
def mRes (S : zS) (D E T : zD) (r : Nat × Int) (K : zR2 → zS → Prop) : Prop := ∀ S' v, eM S' D E T → frM S S' → S' 62 0 = (r.1 : Int) → (r.1 = 0 → v = r.2) → K (.inl (some (.inl v))) S'
def cRes (S : zS) (D E T : zD) (r : zR2) (K : zR2 → zS → Prop) : Prop := ∀ S', eC S' D E T → frC S S' → K r S'
def cr1 (r : Nat × Int) : zR2 := match r.1 with
  | 0 => .inl (some (.inl r.2))
  | _ => .inr zNS
def cr2 (r : Nat × Int) : zR2 := match r.1 with
  | 0 => .inl (some (.inl r.2))
  | _ => .inr zIA
def cr3 (r : Nat × Int) : zR2 := match r.1 with
  | 0 => .inl (some (.inl r.2))
  | 1 => .inr zNS
  | _ => .inr zIA
section
variable {S : zS} {D E T : zD} {K : zR2 → zS → Prop} {v : Int}
theorem mFail1 (hM : eM S D E T) (h : mRes S D E T (1, v) K) : K (.inl (some (.inl 0))) (zu (zu S 62 0 0) 62 0 1) :=
  h _ 0 ((hM.u (Or.inl rfl)).u (Or.inl rfl)) (((frM.r S).u (by omega) (by omega)).u (by omega) (by omega)) zuE (fun z => absurd z (Nat.succ_ne_zero _))
theorem mFail2 (hM : eM S D E T) (h : mRes S D E T (2, v) K) : K (.inl (some (.inl 0))) (zu (zu S 62 0 0) 62 0 2) :=
  h _ 0 ((hM.u (Or.inl rfl)).u (Or.inl rfl)) (((frM.r S).u (by omega) (by omega)).u (by omega) (by omega)) zuE (fun z => absurd z (Nat.succ_ne_zero _))
theorem mGood (hM : eM S D E T) (h : mRes S D E T (0, v) K) : K (.inl (some (.inl v))) (zu S 62 0 0) :=
  h _ v (hM.u (Or.inl rfl)) ((frM.r S).u (by omega) (by omega)) zuE (fun _ => rfl)
theorem cGood {r : zR2} (hC : eC S D E T) (h : cRes S D E T r K) : K r S := h S hC (frC.r S)
end
