/-! walks along the landing -/
def lowR (p : Nat) : Nat := if 0 < p then p - 1 else 0
def aftR (R p a : Nat) : List Nat := (if a + 1 ≤ p + 1 ∧ a + 1 < R then [a + 1] else []) ++ (if a + 2 ≤ p + 1 ∧ a + 2 < R then [a + 2] else [])
def wN (R : Nat) : Nat → Nat → List (List Nat)
  | 0, _ => [[]]
  | f + 1, p => (lowR p :: aftR R p (lowR p)).flatMap (fun a => (wN R f a).map (fun r => a :: r))
def sW (R : Nat) (path : Nat → Nat) : Nat → Nat → List (List Nat)
  | 0, _ => [[]]
  | f + 1, k => (sW R path f (k + 1)).map (fun r => path k :: r) ++ (aftR R (path (k - 1)) (path k)).flatMap (fun a => (wN R f a).map (fun r => a :: r))
theorem sW_hd (R : Nat) (path : Nat → Nat) : ∀ f k, ∃ r, sW R path f k = rowN path f k :: r := by
  intro f
  induction f with
  | zero => intro k; exact ⟨[], rfl⟩
  | succ f ih =>
    intro k
    obtain ⟨r, hr⟩ := ih (k + 1)
    refine ⟨r.map (fun r => path k :: r) ++ (aftR R (path (k - 1)) (path k)).flatMap (fun a => (wN R f a).map (fun r => a :: r)), ?_⟩
    show (sW R path f (k + 1)).map (fun r => path k :: r) ++ _ = _
    rw [hr]
    rfl
theorem sW_up {R : Nat} {path path' : Nat → Nat} : ∀ k f l, 1 ≤ l → (∀ i, l - 1 ≤ i → i < l + k → path' i = path i) → sW R path' f (l + k) = (sW R path f (l + k)).tail → sW R path' (k + f) l = (sW R path (k + f) l).tail := by
  intro k
  induction k with
  | zero => intro f l _ _ h; rw [Nat.zero_add]; exact h
  | succ k ih =>
    intro f l hl h1 h2
    rw [show k + 1 + f = (k + f) + 1 by omega]
    have i1 := ih f (l + 1) (by omega) (fun i a b => h1 i (by omega) (by omega)) (by rw [show l + 1 + k = l + (k + 1) by omega]; exact h2)
    obtain ⟨r, hr⟩ := sW_hd R path (k + f) (l + 1)
    show (sW R path' (k + f) (l + 1)).map (fun r => path' l :: r) ++ (aftR R (path' (l - 1)) (path' l)).flatMap (fun a => (wN R (k + f) a).map (fun r => a :: r)) = ((sW R path (k + f) (l + 1)).map (fun r => path l :: r) ++ (aftR R (path (l - 1)) (path l)).flatMap (fun a => (wN R (k + f) a).map (fun r => a :: r))).tail
    rw [i1, hr, h1 l (by omega) (by omega), h1 (l - 1) (by omega) (by omega)]
    rfl
theorem sW_all {R : Nat} {path : Nat → Nat} : ∀ f k, (∀ i, k ≤ i → i < k + f → path i = lowR (path (i - 1))) → sW R path f k = wN R f (path (k - 1)) := by
  intro f
  induction f with
  | zero => intro k _; rfl
  | succ f ih =>
    intro k h
    have i1 := ih (k + 1) (fun i a b => h i (by omega) (by omega))
    rw [Nat.add_sub_cancel] at i1
    show (sW R path f (k + 1)).map (fun r => path k :: r) ++ (aftR R (path (k - 1)) (path k)).flatMap (fun a => (wN R f a).map (fun r => a :: r)) = (lowR (path (k - 1)) :: aftR R (path (k - 1)) (lowR (path (k - 1)))).flatMap (fun a => (wN R f a).map (fun r => a :: r))
    rw [i1, List.flatMap_cons, ← h k (by omega) (by omega)]
theorem aftR_cons {R p a : Nat} (ha : p ≤ a + 1) (h : a + 1 ≤ p + 1 ∧ a + 1 < R) : aftR R p a = (a + 1) :: aftR R p (a + 1) := by
  unfold aftR
  rw [if_pos h, if_neg (show ¬ (a + 1 + 2 ≤ p + 1 ∧ a + 1 + 2 < R) by omega), List.append_nil]
  rfl
theorem aftR_nil {R p a : Nat} (h : ¬ (a + 1 ≤ p + 1 ∧ a + 1 < R)) : aftR R p a = [] := by
  unfold aftR
  rw [if_neg h, if_neg (by omega)]
  rfl
theorem sW_next {R : Nat} {path path' : Nat → Nat} {f k : Nat} (hk : 1 ≤ k) (ha : path (k - 1) ≤ path k + 1) (h1 : (sW R path f (k + 1)).tail = []) (h2 : path k + 1 ≤ path (k - 1) + 1 ∧ path k + 1 < R) (h3 : path' k = path k + 1) (h5 : path' (k - 1) = path (k - 1)) (h4 : ∀ i, k + 1 ≤ i → i < k + 1 + f → path' i = lowR (path' (i - 1))) : sW R path' (f + 1) k = (sW R path (f + 1) k).tail := by
  obtain ⟨q, hq⟩ := sW_hd R path f (k + 1)
  rw [hq] at h1
  have h1 : q = [] := h1
  subst h1
  have h6 := sW_all (R := R) f (k + 1) h4
  rw [Nat.add_sub_cancel] at h6
  show (sW R path' f (k + 1)).map (fun r => path' k :: r) ++ (aftR R (path' (k - 1)) (path' k)).flatMap (fun a => (wN R f a).map (fun r => a :: r)) = ((sW R path f (k + 1)).map (fun r => path k :: r) ++ (aftR R (path (k - 1)) (path k)).flatMap (fun a => (wN R f a).map (fun r => a :: r))).tail
  rw [hq, h6, h3, h5, aftR_cons ha h2, List.flatMap_cons]
  rfl
theorem sW_last {R : Nat} {path : Nat → Nat} {f k : Nat} (h1 : (sW R path f (k + 1)).tail = []) (h2 : ¬ (path k + 1 ≤ path (k - 1) + 1 ∧ path k + 1 < R)) : (sW R path (f + 1) k).tail = [] := by
  obtain ⟨q, hq⟩ := sW_hd R path f (k + 1)
  rw [hq] at h1
  have h1 : q = [] := h1
  subst h1
  show ((sW R path f (k + 1)).map (fun r => path k :: r) ++ (aftR R (path (k - 1)) (path k)).flatMap (fun a => (wN R f a).map (fun r => a :: r))).tail = []
  rw [hq, aftR_nil h2]
  rfl
/-- the same walks by numbers of threes -/
def wz (R : Nat) : Nat → Nat → Nat → Option (List Nat)
  | 0, _, _ => some []
  | f + 1, c, w => if 1 ≤ c + w / 3 ^ f % 3 ∧ c + w / 3 ^ f % 3 - 1 < R then (wz R f (c + w / 3 ^ f % 3 - 1) w).map (fun r => (c + w / 3 ^ f % 3 - 1) :: r) else none
def enW (R f c : Nat) : Nat → Nat → List (List Nat)
  | 0, _ => []
  | k + 1, w => (wz R f c w).toList ++ enW R f c k (w + 1)
theorem enW_split (R f c : Nat) : ∀ k m w, enW R f c (k + m) w = enW R f c k w ++ enW R f c m (w + k) := by
  intro k
  induction k with
  | zero => intro m w; rw [Nat.zero_add]; rfl
  | succ k ih =>
    intro m w
    rw [show k + 1 + m = (k + m) + 1 by omega]
    show (wz R f c w).toList ++ enW R f c (k + m) (w + 1) = (wz R f c w).toList ++ enW R f c k (w + 1) ++ _
    rw [ih, List.append_assoc, show w + 1 + k = w + (k + 1) by omega]
theorem enW_part (R f c d : Nat) : ∀ k w, (∀ v, w ≤ v → v < w + k → v / 3 ^ f % 3 = d) → enW R (f + 1) c k w = if 1 ≤ c + d ∧ c + d - 1 < R then (enW R f (c + d - 1) k w).map (fun r => (c + d - 1) :: r) else [] := by
  intro k
  induction k with
  | zero => intro w _; split <;> rfl
  | succ k ih =>
    intro w h
    have hd := h w (by omega) (by omega)
    show (wz R (f + 1) c w).toList ++ enW R (f + 1) c k (w + 1) = _
    rw [ih (w + 1) (fun v a b => h v (by omega) (by omega))]
    have e : wz R (f + 1) c w = if 1 ≤ c + d ∧ c + d - 1 < R then (wz R f (c + d - 1) w).map (fun r => (c + d - 1) :: r) else none := by rw [← hd]; rfl
    rw [e]
    by_cases hv : 1 ≤ c + d ∧ c + d - 1 < R
    · rw [if_pos hv, if_pos hv, if_pos hv]
      show _ = ((wz R f (c + d - 1) w).toList ++ enW R f (c + d - 1) k (w + 1)).map _
      rw [List.map_append]
      cases wz R f (c + d - 1) w <;> rfl
    · rw [if_neg hv, if_neg hv, if_neg hv]
      rfl
theorem div3 {f b d v : Nat} (hd : d < 3) (h1 : (3 * b + d) * 3 ^ f ≤ v) (h2 : v < (3 * b + d) * 3 ^ f + 3 ^ f) : v / 3 ^ f % 3 = d := by
  have hp : 0 < 3 ^ f := Nat.pos_of_ne_zero (by simp)
  have : v / 3 ^ f = 3 * b + d := Nat.div_eq_of_lt_le h1 (by rw [Nat.add_mul (3 * b + d) 1, Nat.one_mul]; exact h2)
  omega
theorem enW_wN (R : Nat) : ∀ f c b, c < R → enW R f c (3 ^ f) (b * 3 ^ f) = wN R f c := by
  intro f
  induction f with
  | zero => intro c b _; rfl
  | succ f ih =>
    intro c b hc
    have hm : 3 ^ (f + 1) = 3 ^ f + (3 ^ f + 3 ^ f) := by rw [Nat.pow_succ]; omega
    have hb : b * 3 ^ (f + 1) = (3 * b + 0) * 3 ^ f := by rw [Nat.pow_succ, Nat.add_zero, Nat.mul_comm 3 b, Nat.mul_assoc, Nat.mul_comm 3 (3 ^ f)]
    have h1 : (3 * b + 0) * 3 ^ f + 3 ^ f = (3 * b + 1) * 3 ^ f := by rw [← Nat.succ_mul]
    have h2 : (3 * b + 1) * 3 ^ f + 3 ^ f = (3 * b + 2) * 3 ^ f := by rw [← Nat.succ_mul]
    rw [hb, hm, enW_split, enW_split, h1, h2]
    rw [enW_part R f c 0 _ _ (fun v x y => div3 (b := b) (by decide) x y), enW_part R f c 1 _ _ (fun v x y => div3 (b := b) (by decide) x y), enW_part R f c 2 _ _ (fun v x y => div3 (b := b) (by decide) x y)]
    show _ = (lowR c :: aftR R c (lowR c)).flatMap (fun a => (wN R f a).map (fun r => a :: r))
    have e1 : c + 1 - 1 = c := by omega
    have e2 : c + 2 - 1 = c + 1 := by omega
    rw [if_pos (show 1 ≤ c + 1 ∧ c + 1 - 1 < R by omega), e1, e2, ih c _ hc, List.flatMap_cons]
    by_cases c0 : 0 < c
    · have el : lowR c = c - 1 := by unfold lowR; rw [if_pos c0]
      rw [if_pos (show 1 ≤ c + 0 ∧ c + 0 - 1 < R by omega), Nat.add_zero, ih (c - 1) _ (by omega), el]
      unfold aftR
      rw [if_pos (show c - 1 + 1 ≤ c + 1 ∧ c - 1 + 1 < R by omega), show c - 1 + 1 = c by omega, show c - 1 + 2 = c + 1 by omega]
      by_cases cR : c + 1 < R
      · rw [if_pos (show 1 ≤ c + 2 ∧ c + 1 < R by omega), if_pos (show c + 1 ≤ c + 1 ∧ c + 1 < R by omega), ih (c + 1) _ cR]
        simp [List.flatMap_cons, List.flatMap_nil]
      · rw [if_neg (show ¬ (1 ≤ c + 2 ∧ c + 1 < R) by omega), if_neg (show ¬ (c + 1 ≤ c + 1 ∧ c + 1 < R) by omega)]
        simp [List.flatMap_cons, List.flatMap_nil]
    · have z : c = 0 := by omega
      subst z
      have el : lowR 0 = 0 := rfl
      rw [if_neg (show ¬ (1 ≤ 0 + 0 ∧ 0 + 0 - 1 < R) by omega), el]
      unfold aftR
      by_cases cR : 0 + 1 < R
      · rw [if_pos (show 1 ≤ 0 + 2 ∧ 0 + 1 < R by omega), if_pos (show 0 + 1 ≤ 0 + 1 ∧ 0 + 1 < R by omega), if_neg (show ¬ (0 + 2 ≤ 0 + 1 ∧ 0 + 2 < R) by omega), ih (0 + 1) _ cR]
        simp [List.flatMap_cons, List.flatMap_nil]
      · rw [if_neg (show ¬ (1 ≤ 0 + 2 ∧ 0 + 1 < R) by omega), if_neg (show ¬ (0 + 1 ≤ 0 + 1 ∧ 0 + 1 < R) by omega), if_neg (show ¬ (0 + 2 ≤ 0 + 1 ∧ 0 + 2 < R) by omega)]
        simp [List.flatMap_nil]
