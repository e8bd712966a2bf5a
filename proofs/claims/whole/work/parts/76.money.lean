/-! what a new message brings into the accounts: both sides alike -/
theorem zkt_sh {k : Nat} (h : k ≤ 2) : ((1 : Int32) <<< (nI k &&& 31)) = zkt (nI k) := by
  rcases (show k = 0 ∨ k = 1 ∨ k = 2 by omega) with rfl | rfl | rfl <;> decide
theorem zis_add {f h : Nat → Int32} : ∀ n, zis (fun k => f k + h k) n = zis f n + zis h n
  | 0 => rfl
  | n + 1 => by
    show zis (fun k => f k + h k) n + (f n + h n) = (zis f n + f n) + (zis h n + h n)
    rw [zis_add n]
    ac_rfl
theorem zis_neg {f : Nat → Int32} : ∀ n, zis (fun k => - f k) n = - zis f n
  | 0 => by show (0 : Int32) = - 0; decide
  | n + 1 => by
    show zis (fun k => - f k) n + - f n = - (zis f n + f n)
    rw [zis_neg n, Int32.neg_add, Int32.sub_eq_add_neg]
theorem zis_sub {f h : Nat → Int32} (n : Nat) : zis (fun k => f k - h k) n = zis f n - zis h n := by
  have e : (fun k => f k - h k) = (fun k => f k + - h k) := funext fun k => Int32.sub_eq_add_neg ..
  rw [e, zis_add, zis_neg, Int32.sub_eq_add_neg]
theorem zis_if {c : Prop} [Decidable c] {f : Nat → Int32} (n : Nat) : zis (fun k => if c then f k else 0) n = if c then zis f n else 0 := by
  by_cases h : c
  · simp only [if_pos h]
  · simp only [if_neg h]
    exact zis_0 (fun _ _ => rfl)
theorem nI_ad (a b : Nat) : nI (a + b) = nI a + nI b := by
  unfold nI
  apply Int32.toBitVec_inj.mp
  simp
/-- the price: by the sum of the rates, by the cables -/
theorem zis_mul {f : Nat → Nat} {x : Int32} : ∀ n, zis (fun k => nI (f k) * x) n = nI (zsum f n) * x
  | 0 => by show (0 : Int32) = nI 0 * x; rw [show nI 0 = 0 from rfl, Int32.zero_mul]
  | n + 1 => by
    show zis (fun k => nI (f k) * x) n + nI (f n) * x = nI (zsum f n + f n) * x
    rw [zis_mul n, nI_ad, Int32.add_mul]
theorem zprice {rt l : Nat → Nat} {paid k n : Nat} (h : k ≤ 2) : zis (zprt rt l paid (nI k)) n = nI (zsum (fun i => rt (l i)) n) * nI paid * zkt (nI k) := by
  have e : zprt rt l paid (nI k) = fun i => nI (rt (l i)) * (nI paid * zkt (nI k)) := by
    funext i
    unfold zprt
    rw [zkt_sh h, Int32.mul_assoc]
  rw [e, zis_mul, Int32.mul_assoc]
/-- an office's account after it -/
theorem zshare {rt ad l : Nat → Nat} {paid k n fm o : Nat} (h : k ≤ 2) (B : Int32) :
    (if fm = o then B - nI (zsum (fun i => rt (l i)) n) * nI paid * zkt (nI k) else B) + zis (fun i => if ad (l i) = o then zprt rt l paid (nI k) i else 0) n =
    B + zis (fun i => (if ad (l i) = o then zprt rt l paid (nI k) i else 0) - (if fm = o then zprt rt l paid (nI k) i else 0)) n := by
  rw [zis_sub, zis_if, zprice h]
  by_cases q : fm = o
  · rw [if_pos q, if_pos q]
    simp only [Int32.sub_eq_add_neg]
    ac_rfl
  · rw [if_neg q, if_neg q, Int32.sub_zero]
