/-! the house: a token is a word -/
/-- f bytes from q on are w -/
def mtB (T : zD) : List Nat → Nat → Bool
  | [], _ => true
  | c :: w, i => Nat.beq (T 1 i) c && mtB T w (i + 1)
/-- the token at p is the word w -/
def isW (T : zD) (n p : Nat) (w : List Nat) : Bool := Nat.beq (tkS T n p) 1 && (Nat.beq (tkN T n p - tkP T n p) w.length && mtB T w (tkP T n p))
def ltL (w : List Nat) : Prop := ∀ c ∈ w, 97 ≤ c ∧ c ≤ 122
theorem pk_low {a b c d : Nat} (hc : c < 32) (hd : d < 32) : a * 32 + c = b * 32 + d ↔ a = b ∧ c = d := by omega
/-- packed words of one length are equal where the words are -/
theorem pk_inj (T : zD) : ∀ (w : List Nat) (i a b : Nat), ltL w → (∀ j, i ≤ j → j < i + w.length → 97 ≤ T 1 j ∧ T 1 j ≤ 122) → (wpS T w.length i a = w.foldl (fun a c => a * 32 + (c - 96)) b ↔ a = b ∧ mtB T w i = true) := by
  intro w
  induction w with
  | nil => intro i a b _ _; exact ⟨fun h => ⟨h, rfl⟩, fun h => h.1⟩
  | cons c w ih =>
    intro i a b hw hT
    have hc := hw c (List.mem_cons_self ..)
    have ht := hT i (Nat.le_refl i) (by rw [List.length_cons]; omega)
    show wpS T w.length (i + 1) (a * 32 + (T 1 i - 96)) = w.foldl (fun a c => a * 32 + (c - 96)) (b * 32 + (c - 96)) ↔ a = b ∧ (Nat.beq (T 1 i) c && mtB T w (i + 1)) = true
    rw [ih (i + 1) _ _ (fun x hx => hw x (List.mem_cons_of_mem c hx)) (fun j h1 h2 => hT j (by omega) (by rw [List.length_cons]; omega)), pk_low (by omega) (by omega), Bool.and_eq_true, nbeq]
    constructor
    · rintro ⟨⟨h1, h2⟩, h3⟩; exact ⟨h1, by omega, h3⟩
    · rintro ⟨h1, h2, h3⟩; exact ⟨⟨h1, by omega⟩, h3⟩
