/-! the letters of words, as numbers -/
def zl (w : Int32) (k : Nat) : Nat := w.toInt.toNat / 26 ^ (4 - k) % 26
def zpk (w v : Int32) : Nat → Nat
  | 0 => 0
  | n + 1 => zpk w v n + (if zl w n = zl v n then 0 else 1)
def zp (w v : Int32) : Nat := zpk w v 5
def zvl (l : Nat) : Bool := decide (l = 0 ∨ l = 4 ∨ l = 8 ∨ l = 14 ∨ l = 20)
def zvk (w : Int32) : Nat → Nat
  | 0 => 0
  | n + 1 => zvk w n + (if zvl (zl w n) then 1 else 0)
def zvw (w : Int32) : Nat := zvk w 5
def ztn (w v : Int32) (k : Nat) : Prop := zl w k = zl v (k + 1) ∧ zl w (k + 1) = zl v k ∧ zl w k ≠ zl v k
def zt (w v : Int32) : Prop := zp w v = 2 ∧ ∃ k, k < 4 ∧ ztn w v k
theorem zl_lt (w : Int32) (k : Nat) : zl w k < 26 := Nat.mod_lt _ (by decide)
theorem zpk_le (w v : Int32) : ∀ n, zpk w v n ≤ n
  | 0 => Nat.le_refl 0
  | n + 1 => by have h := zpk_le w v n; simp only [zpk]; split <;> omega
theorem zvk_le (w : Int32) : ∀ n, zvk w n ≤ n
  | 0 => Nat.le_refl 0
  | n + 1 => by have h := zvk_le w n; simp only [zvk]; split <;> omega
theorem zpk_sym (w v : Int32) : ∀ n, zpk w v n = zpk v w n
  | 0 => rfl
  | n + 1 => by simp only [zpk, zpk_sym w v n, eq_comm]
theorem zp_sym (w v : Int32) : zp w v = zp v w := zpk_sym w v 5
theorem zt_sym (w v : Int32) : zt w v ↔ zt v w := by
  unfold zt ztn
  rw [zp_sym w v]
  constructor <;> rintro ⟨h0, k, h1, h2, h3, h4⟩ <;> exact ⟨h0, k, h1, h3.symm, h2.symm, fun h => h4 h.symm⟩
