/-! words of the packing: the least table, the count that is chosen, the cut -/
def zup (a b : Nat) : Nat := (a + b - 1) / b
def zsum (f : Nat → Nat) : Nat → Nat
  | 0 => 0
  | n + 1 => zsum f n + f n
theorem zup_le {a b : Nat} (hb : 0 < b) (ha : 1 ≤ a) : zup a b ≤ a := by
  unfold zup
  rw [Nat.div_le_iff_le_mul_add_pred hb]
  have : a * b = a * (b - 1) + a := by
    conv => lhs; rw [show b = b - 1 + 1 by omega, Nat.mul_add, Nat.mul_one]
  have h2 : 1 * (b - 1) ≤ a * (b - 1) := Nat.mul_le_mul_right _ ha
  have h3 : b * a = a * b := Nat.mul_comm _ _
  omega
theorem zsum_le {f : Nat → Nat} {c : Nat} : ∀ {n : Nat}, (∀ i, i < n → f i ≤ c) → zsum f n ≤ c * n
  | 0, _ => by simp [zsum]
  | n + 1, h => by
    have h1 := zsum_le (f := f) (c := c) (n := n) (fun i hi => h i (by omega))
    have h2 := h n (by omega)
    simp only [zsum, Nat.mul_add, Nat.mul_one]; omega
/-- the ideas, the draft -/
def zDr (σ : zIn) (ni : Nat) (lt : Nat → Nat) (nd : Nat) (dd : Nat → Nat) : Prop := σ 2 4 = nI ni ∧ ni ≤ 30 ∧ (∀ k, k < ni → σ 3 k = nI (lt k) ∧ 1 ≤ lt k ∧ lt k ≤ 20) ∧ σ 11 1 = nI nd ∧ nd ≤ 24 ∧ ∀ i, i < nd → σ 12 i = nI (dd i) ∧ dd i < ni
/-- rules: letters of a plain word, of code, vowels -/
def zRl (σ : zIn) (ru pl cd vw : Nat) : Prop := σ ru 2 = nI pl ∧ 5 ≤ pl ∧ pl ≤ 20 ∧ σ ru 3 = nI cd ∧ 5 ≤ cd ∧ cd ≤ 15 ∧ σ ru 4 = nI vw ∧ vw ≤ 3
def zLT (B nd : Nat) (pl : Nat → Nat) (us : Nat → Nat → Bool) (p n : Nat) : Nat :=
  if h : p < nd then min B (min (min (min (min (pl p + zLT B nd pl us (p + 1) n) (if us p 1 && decide (0 < n) then zLT B nd pl us (p + 1) (n - 1) else B)) (if us p 2 && decide (0 < n) then zLT B nd pl us (p + 2) (n - 1) else B)) (if us p 3 && decide (0 < n) then zLT B nd pl us (p + 3) (n - 1) else B)) (if us p 4 && decide (0 < n) then zLT B nd pl us (p + 4) (n - 1) else B))
  else if n = 0 then 0 else B
termination_by nd - p
decreasing_by all_goals omega
/-- the same, by the lengths looked at -/
def zLTm (B nd : Nat) (pl : Nat → Nat) (us : Nat → Nat → Bool) (p n : Nat) : Nat → Nat
  | 0 => pl p + zLT B nd pl us (p + 1) n
  | m + 1 => min (zLTm B nd pl us p n m) (if us p (m + 1) && decide (0 < n) then zLT B nd pl us (p + (m + 1)) (n - 1) else B)
theorem zLT_lt {B nd : Nat} {pl : Nat → Nat} {us : Nat → Nat → Bool} {p n : Nat} (h : p < nd) : zLT B nd pl us p n = min B (zLTm B nd pl us p n 4) := by
  rw [zLT, dif_pos h]; rfl
theorem zLT_ge {B nd : Nat} {pl : Nat → Nat} {us : Nat → Nat → Bool} {p n : Nat} (h : nd ≤ p) : zLT B nd pl us p n = if n = 0 then 0 else B := by
  rw [zLT, dif_neg (by omega)]
theorem zLT_le {B nd : Nat} {pl : Nat → Nat} {us : Nat → Nat → Bool} {p n : Nat} : zLT B nd pl us p n ≤ B := by
  by_cases h : p < nd
  · rw [zLT_lt h]; exact Nat.min_le_left _ _
  · rw [zLT_ge (by omega)]; split <;> omega
/-- more code words than places: B -/
theorem zLT_big {B nd : Nat} {pl : Nat → Nat} {us : Nat → Nat → Bool} : ∀ (f p n : Nat), nd - p = f → nd - p < n → zLT B nd pl us p n = B := by
  intro f
  induction f using Nat.strongRecOn with
  | _ f ih =>
    intro p n hf hn
    by_cases h : p < nd
    · rw [zLT_lt h]
      have e : ∀ m, 1 ≤ m → (if us p m && decide (0 < n) then zLT B nd pl us (p + m) (n - 1) else B) = B := by
        intro m hm
        split
        · exact ih (nd - (p + m)) (by omega) (p + m) (n - 1) rfl (by omega)
        · rfl
      have e0 : zLT B nd pl us (p + 1) n = B := ih (nd - (p + 1)) (by omega) (p + 1) n rfl (by omega)
      simp only [zLTm, e 1 (by decide), e 2 (by decide), e 3 (by decide), e 4 (by decide), e0]
      omega
    · rw [zLT_ge (by omega), if_neg (by omega)]
def zch (T0 : Nat → Nat) (cd pc : Nat) : Nat → Nat × Nat
  | 0 => (pc, 0)
  | n + 1 => if T0 (n + 1) + zup (5 * (n + 1)) cd < (zch T0 cd pc n).1 then (T0 (n + 1) + zup (5 * (n + 1)) cd, n + 1) else zch T0 cd pc n
theorem zch_le {T0 : Nat → Nat} {cd pc : Nat} : ∀ n, (zch T0 cd pc n).1 ≤ pc ∧ (zch T0 cd pc n).2 ≤ n
  | 0 => ⟨Nat.le_refl _, Nat.le_refl _⟩
  | n + 1 => by
    have h := zch_le (T0 := T0) (cd := cd) (pc := pc) n
    simp only [zch]; split
    · exact ⟨by dsimp only; omega, Nat.le_refl _⟩
    · exact ⟨h.1, by omega⟩
def zlc (T : Nat → Nat → Nat) (us : Nat → Nat → Bool) (p left : Nat) : Nat → Nat
  | 0 => 0
  | m + 1 => if us p (m + 1) = true ∧ T (p + (m + 1)) (left - 1) = T p left then m + 1 else zlc T us p left m
theorem zlc_le {T : Nat → Nat → Nat} {us : Nat → Nat → Bool} {p left : Nat} : ∀ m, zlc T us p left m ≤ m
  | 0 => Nat.le_refl _
  | m + 1 => by
    have h := zlc_le (T := T) (us := us) (p := p) (left := left) m
    simp only [zlc]; split <;> omega
/-- the length taken at a place -/
def zln (T : Nat → Nat → Nat) (us : Nat → Nat → Bool) (p left : Nat) : Nat := if 0 < left then zlc T us p left 4 else 0
/-- the cut: places and lengths, 0 for a plain word -/
def zcut (nd : Nat) (T : Nat → Nat → Nat) (us : Nat → Nat → Bool) (p left : Nat) : List (Nat × Nat) :=
  if h : p < nd then
    if h2 : 0 < zln T us p left then (p, zln T us p left) :: zcut nd T us (p + zln T us p left) (left - 1)
    else (p, 0) :: zcut nd T us (p + 1) left
  else []
termination_by nd - p
decreasing_by all_goals omega
theorem zcut_c {nd : Nat} {T : Nat → Nat → Nat} {us : Nat → Nat → Bool} {p left : Nat} (h : p < nd) (h2 : 0 < zln T us p left) : zcut nd T us p left = (p, zln T us p left) :: zcut nd T us (p + zln T us p left) (left - 1) := by
  rw [zcut, dif_pos h, dif_pos h2]
theorem zcut_p {nd : Nat} {T : Nat → Nat → Nat} {us : Nat → Nat → Bool} {p left : Nat} (h : p < nd) (h2 : zln T us p left = 0) : zcut nd T us p left = (p, 0) :: zcut nd T us (p + 1) left := by
  rw [zcut, dif_pos h, dif_neg (by omega)]
theorem zcut_e {nd : Nat} {T : Nat → Nat → Nat} {us : Nat → Nat → Bool} {p left : Nat} (h : nd ≤ p) : zcut nd T us p left = [] := by
  rw [zcut, dif_neg (by omega)]
/-- the word of a piece -/
def zwo (cd : Nat → Nat → Int32) (dd : Nat → Nat) (q : Nat × Nat) : Int32 := if q.2 = 0 then (-1) - nI (dd q.1) - 1 else cd q.1 q.2
/-- the code word at a place, of a length: usable, or -1 -/
def zcode (Ph D C : Nat → Int32) (ne key vw p m : Nat) (x : Int32) : Prop := (∃ k, k < ne ∧ zmt Ph D k p m ∧ vw ≤ zvw (C ((k + key) % ne)) ∧ x = C ((k + key) % ne)) ∨ ((∀ k, k < ne → zmt Ph D k p m → ¬ vw ≤ zvw (C ((k + key) % ne))) ∧ x = -1)
