/-! more words: counting, the book -/
theorem z_up_app {σ : zIn} {i k i' k' : Nat} {v : Int32} : z_up σ i k v i' k' = if i' = i then (if k' = k then v else σ i' k') else σ i' k' := rfl
/-- σ with row i written anew -/
def z_put (σ : zIn) (i : Nat) (f : Nat → Int32) : zIn := fun i' k' => if i' = i then f k' else σ i' k'
theorem z_put_app {σ : zIn} {i i' k' : Nat} {f : Nat → Int32} : z_put σ i f i' k' = if i' = i then f k' else σ i' k' := rfl
theorem zin_neg {e : Int32} {n : Nat} (h : e < 0) : zin e n = false := by
  unfold zin; rw [Int32.lt_iff_toInt_lt] at h
  have : (0 : Int32).toInt = 0 := by decide
  exact decide_eq_false (by omega)
theorem zin_ge {e : Int32} {n : Nat} (hn : n < 2 ^ 31) (h : nI n ≤ e) : zin e n = false := by
  unfold zin; rw [Int32.le_iff_toInt_le, nI_toInt hn] at h
  exact decide_eq_false (by omega)
theorem zin_of {e : Int32} {n : Nat} (hn : n < 2 ^ 31) (h0 : ¬ e < 0) (h : ¬ nI n ≤ e) : zin e n = true := by
  unfold zin; rw [Int32.le_iff_toInt_le, nI_toInt hn] at h; rw [Int32.lt_iff_toInt_lt] at h0
  have : (0 : Int32).toInt = 0 := by decide
  exact decide_eq_true (by omega)
theorem zno {e : Int32} {n m : Nat} (hn : n ≤ m) (hm : m < 2 ^ 31) (h : ¬ nI n ≤ e) (h2 : nI m ≤ e) : False := by
  rw [Int32.le_iff_toInt_le, nI_toInt (by omega)] at h; rw [Int32.le_iff_toInt_le, nI_toInt hm] at h2; omega
theorem tOut {l : Launch} {D : va_G} {cy : Nat → ClassId} {z0 : Nat} {g : zSh} {σ : zIn} {n : Nat} (i : Int32) (hn : n < 2 ^ 30) : z_Ct l D cy z0 MX8_isOutside [.int i, .int (nI 0), .int (nI n - nI 1)] g σ (zI (zb (!zin i n)) g σ) := by
  rw [← zout hn]; exact tX8_isOutside i 0 (nI n - 1)
theorem tOutc {l : Launch} {D : va_G} {cy : Nat → ClassId} {z0 : Nat} {g : zSh} {σ : zIn} (n : Nat) (i : Int32) (hn : n < 100000000) : z_Ct l D cy z0 MX8_isOutside [.int i, .int (nI 0), .int (nI n)] g σ (zI (zb (!zin i (n + 1))) g σ) := by
  have e := zoutN (i := i) (n := n + 1) (by omega) (by omega)
  rw [← e]; exact tX8_isOutside i (nI 0) (nI n)
noncomputable def zcnt (P : Nat → Prop) : Nat → Nat
  | 0 => 0
  | n + 1 => zcnt P n + @ite Nat (P n) (Classical.propDecidable _) 1 0
theorem zcnt_y {P : Nat → Prop} {n : Nat} (h : P n) : zcnt P (n + 1) = zcnt P n + 1 := by simp [zcnt, h]
theorem zcnt_n {P : Nat → Prop} {n : Nat} (h : ¬ P n) : zcnt P (n + 1) = zcnt P n := by simp [zcnt, h]
theorem zcnt_le (P : Nat → Prop) : ∀ n, zcnt P n ≤ n
  | 0 => Nat.le_refl 0
  | n + 1 => by
    have h := zcnt_le P n
    by_cases hp : P n
    · rw [zcnt_y hp]; omega
    · rw [zcnt_n hp]; omega
theorem zcnt_mono (P : Nat → Prop) {a b : Nat} (h : a ≤ b) : zcnt P a ≤ zcnt P b := by
  induction b with
  | zero => have : a = 0 := by omega
            subst this; exact Nat.le_refl _
  | succ b ih =>
    by_cases e : a = b + 1
    · subst e; exact Nat.le_refl _
    · have h1 := ih (by omega)
      by_cases hp : P b
      · rw [zcnt_y hp]; omega
      · rw [zcnt_n hp]; omega
theorem zcnt_lt {P : Nat → Prop} {k n : Nat} (h : k < n) (hp : P k) : zcnt P k < zcnt P n := by
  have h1 := zcnt_mono P (show k + 1 ≤ n from h)
  rw [zcnt_y hp] at h1; omega
theorem zcnt_inj {P : Nat → Prop} {j k : Nat} (hj : P j) (hk : P k) (h : zcnt P j = zcnt P k) : j = k := by
  rcases Nat.lt_trichotomy j k with q | q | q
  · have := zcnt_lt q hj; omega
  · exact q
  · have := zcnt_lt q hk; omega
theorem zcnt_sur {P : Nat → Prop} : ∀ {n j : Nat}, j < zcnt P n → ∃ k, k < n ∧ P k ∧ zcnt P k = j
  | 0, j, h => by simp [zcnt] at h
  | n + 1, j, h => by
    by_cases hp : P n
    · rw [zcnt_y hp] at h
      by_cases e : j = zcnt P n
      · exact ⟨n, by omega, hp, e.symm⟩
      · obtain ⟨k, h1, h2, h3⟩ := zcnt_sur (P := P) (n := n) (j := j) (by omega)
        exact ⟨k, by omega, h2, h3⟩
    · rw [zcnt_n hp] at h
      obtain ⟨k, h1, h2, h3⟩ := zcnt_sur (P := P) (n := n) h
      exact ⟨k, by omega, h2, h3⟩
theorem zcnt_congr {P Q : Nat → Prop} : ∀ {n : Nat}, (∀ k, k < n → (P k ↔ Q k)) → zcnt P n = zcnt Q n
  | 0, _ => rfl
  | n + 1, h => by
    have h1 := zcnt_congr (n := n) (fun k hk => h k (by omega))
    by_cases hp : P n
    · rw [zcnt_y hp, zcnt_y ((h n (by omega)).mp hp), h1]
    · rw [zcnt_n hp, zcnt_n (fun q => hp ((h n (by omega)).mpr q)), h1]
/-- what a word may have been: entry k -/
def zP (C : Nat → Int32) (n : Nat) (w : Int32) (k : Nat) : Prop := C k = w ∨ ((∀ j, j < n → C j ≠ w) ∧ (zp w (C k) = 1 ∨ zt w (C k)))
/-- the phrase of entry k stands in the draft D from a place on, of m ideas -/
def zmt (Ph D : Nat → Int32) (k st m : Nat) : Prop := (∀ i, i < m → Ph (4 * k + i) = D (st + i)) ∧ (m < 4 → Ph (4 * k + m) = -1)
def zmtR (Ph D : Nat → Int32) (n st m : Nat) (r : Int32) : Prop := (∃ k, k < n ∧ r = nI k ∧ zmt Ph D k st m ∧ ∀ j, j < k → ¬ zmt Ph D j st m) ∨ (r = -1 ∧ ∀ k, k < n → ¬ zmt Ph D k st m)
def zwd (x : Int32) : Prop := ∃ W, W < 11881376 ∧ x = nI W
def zplen (Ph : Nat → Int32) (k m : Nat) : Prop := m ≤ 4 ∧ (∀ j, j < m → Ph (4 * k + j) ≠ -1) ∧ (m < 4 → Ph (4 * k + m) = -1)
/-- all but the scratch of a search stays -/
def zfo (σ σ' : zIn) : Prop := (∀ i, i ≠ 6 → i ≠ 2 → σ' i = σ i) ∧ ∀ k, k ≠ 6 → σ' 2 k = σ 2 k
theorem zfo_r {σ : zIn} : zfo σ σ := ⟨fun _ _ _ => rfl, fun _ _ => rfl⟩
theorem zfo_t {a b c : zIn} (h1 : zfo a b) (h2 : zfo b c) : zfo a c := ⟨fun i h3 h4 => (h2.1 i h3 h4).trans (h1.1 i h3 h4), fun k h => (h2.2 k h).trans (h1.2 k h)⟩
