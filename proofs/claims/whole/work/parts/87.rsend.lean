/-! send: what the reference's send leaves -/
def zSR (τ σ2 : zIn) (nm qf W RL paid : Nat) (xa xb xk : Int32) (hc st : Bool) (w : Nat → Int32) (l rt ad : Nat → Nat) : Prop :=
  (∀ i, (i < 21 ∨ (21 < i ∧ i < 28) ∨ (28 < i ∧ i < 39) ∨ i = 56 ∨ 58 < i) → σ2 i = τ i) ∧ (∀ k, k ≠ 22 → k ≠ 25 → k ≠ 26 → k ≠ 27 → k ≠ 46 → k ≠ 48 → σ2 21 k = τ 21 k) ∧ (σ2 21 27 = nI (nm + 1) ∧ σ2 21 22 = 0) ∧
  (∀ i m, 41 ≤ i → i ≤ 55 → i ≠ 50 → i ≠ 51 → i ≠ 52 → m ≠ nm → σ2 i m = τ i m) ∧
  (σ2 41 nm = xa ∧ σ2 42 nm = xb ∧ σ2 43 nm = xk ∧ σ2 44 nm = (if st then 2 else 0) ∧ σ2 45 nm = nI W ∧ σ2 46 nm = nI paid ∧ σ2 47 nm = zis (zprt rt l paid xk) RL ∧ σ2 48 nm = (if st then nI qf else -1) ∧ σ2 49 nm = zb hc ∧ σ2 54 nm = 0 ∧ σ2 55 nm = 0) ∧
  (∀ j, (j < 24 * nm ∨ 24 * nm + 24 ≤ j) → σ2 50 j = τ 50 j ∧ σ2 51 j = τ 51 j) ∧ (∀ i, i < W → σ2 50 (24 * nm + i) = w i ∧ σ2 51 (24 * nm + i) = w i) ∧
  (∀ j, (j < 8 * nm ∨ 8 * nm + 8 ≤ j) → σ2 52 j = τ 52 j) ∧ (∀ i, i < RL → σ2 52 (8 * nm + i) = nI (l i)) ∧
  ∀ o, σ2 28 o = (if qf = o then τ 28 o + zis (fun i => if ad (l i) = o then zprt rt l paid xk i else 0) RL - zis (zprt rt l paid xk) RL else τ 28 o + zis (fun i => if ad (l i) = o then zprt rt l paid xk i else 0) RL)
theorem zcR_ne {σ : zIn} {m o tt : Nat} {hc fb : Bool} {i : Nat} (h4 : i ≠ 44) (h8 : i ≠ 48) : zcomeR σ m o tt hc fb i = σ i := by
  unfold zcomeR
  split
  · rw [z_up_ne h8, z_up_ne h4]
  · split
    · rw [z_up_ne h4]
    · rfl
theorem zcR_m {σ : zIn} {m o tt : Nat} {hc fb : Bool} {i j : Nat} (h : j ≠ m) : zcomeR σ m o tt hc fb i j = σ i j := by
  unfold zcomeR
  split
  · rw [z_up_app, z_up_app]; simp only [if_neg h, ite_self]
  · split
    · rw [z_up_app]; simp only [if_neg h, ite_self]
    · rfl
theorem z_up_m {σ : zIn} {i i' k k' : Nat} {v : Int32} (h : k' ≠ k) : z_up σ i k v i' k' = σ i' k' := by
  rw [z_up_app, if_neg h, ite_self]
theorem zS3_at {a1 : zIn} {nm paid W : Nat} {xa xb xk : Int32} : zS3 a1 nm paid W xa xb xk 41 nm = xa ∧ zS3 a1 nm paid W xa xb xk 42 nm = xb ∧ zS3 a1 nm paid W xa xb xk 43 nm = xk ∧ zS3 a1 nm paid W xa xb xk 44 nm = 0 ∧ zS3 a1 nm paid W xa xb xk 45 nm = nI W ∧ zS3 a1 nm paid W xa xb xk 46 nm = nI paid ∧ zS3 a1 nm paid W xa xb xk 48 nm = -1 ∧ zS3 a1 nm paid W xa xb xk 54 nm = 0 ∧ zS3 a1 nm paid W xa xb xk 55 nm = 0 := by
  unfold zS3
  simp only [z_up_app]
  refine ⟨?_, ?_, ?_, ?_, ?_, ?_, ?_, ?_, ?_⟩ <;> simp <;> rfl
theorem zsR_of {τ s1 s2 s4 s6 σ2 : zIn} {nm ne nd K pl cd vw qf qt W RL paid many : Nat} {b hc fb : Bool} {lt dd rt ad l : Nat → Nat} {L : List (Nat × Nat)} {x C : Nat → Int32} {xa xb xk : Int32} (hnm : nm < 60) (hne : qf ≠ qt)
    (h1 : ∀ i, i ≠ 21 → i ≠ 57 → i ≠ 58 → s1 i = τ i) (h2 : ∀ k, k ≠ 46 → k ≠ 48 → s1 21 k = τ 21 k) (hP : zPf s1 s2 ne K nd pl cd vw lt dd b paid many L)
    (hW1 : zW1 (zS3 (z_up s2 21 27 (nI (nm + 1))) nm paid W xa xb xk) s4 nm x C K ne W) (hW2 : zW2 (z_up (z_up s4 53 nm (nI RL)) 47 nm (nI 0)) s6 nm paid rt ad l xk RL) (hhc : zhc x W = hc)
    (e : σ2 = zcomeR (z_up (z_up s6 28 qf (s6 28 qf - s6 47 nm)) 21 22 (nI 0)) nm qf qt hc fb) : zSR τ σ2 nm qf W RL paid xa xb xk hc (hc && fb) (zwr x C K ne) l rt ad := by
  obtain ⟨p1, p2, _⟩ := hP
  obtain ⟨a1, a2, a3, a4, a5⟩ := hW1
  obtain ⟨b1, b2, b3, b4, b5, b6⟩ := hW2
  obtain ⟨v1, v2, v3, v4, v5, v6, v7, v8, v9⟩ := zS3_at (a1 := z_up s2 21 27 (nI (nm + 1))) (nm := nm) (paid := paid) (W := W) (xa := xa) (xb := xb) (xk := xk)
  rw [hhc] at a3
  subst e
  have hfd : qf = qt → False := fun q => hne q
  -- rows
  have r2 : ∀ i, i ≠ 21 → i ≠ 39 → i ≠ 40 → i ≠ 57 → i ≠ 58 → s2 i = τ i := fun i q1 q2 q3 q4 q5 => (p1 i q1 q2 q3).trans (h1 i q1 q4 q5)
  have r4 : ∀ i, (i < 39 ∨ i = 40 ∨ i = 56 ∨ 56 < i) → s4 i = z_up s2 21 27 (nI (nm + 1)) i := fun i q => by
    rw [a1 i (by omega) (by omega) (by omega)]
    exact zS3_ne (by omega)
  have r6 : ∀ i, i ≠ 28 → i ≠ 47 → i ≠ 52 → i ≠ 53 → s6 i = s4 i := fun i q1 q2 q3 q4 => by rw [b1 i q1 q2 q3, z_up_ne q2, z_up_ne q4]
  -- places of other messages
  have m4 : ∀ i m, 41 ≤ i → i ≤ 55 → i ≠ 50 → i ≠ 51 → m ≠ nm → s4 i m = τ i m := by
    intro i m q1 q2 q3 q4 hm
    have e : s4 i m = zS3 (z_up s2 21 27 (nI (nm + 1))) nm paid W xa xb xk i m := by
      by_cases q : i = 49
      · subst q; exact a2 m hm
      · rw [a1 i q q3 q4]
    rw [e, zS3_j hm, z_up_ne (by omega), r2 i (by omega) (by omega) (by omega) (by omega) (by omega)]
  have m6 : ∀ i m, 41 ≤ i → i ≤ 55 → i ≠ 50 → i ≠ 51 → i ≠ 52 → m ≠ nm → s6 i m = τ i m := by
    intro i m q1 q2 q3 q4 q5 hm
    have e : s6 i m = s4 i m := by
      by_cases q : i = 47
      · subst q; rw [b2 m hm, z_up_m hm, z_up_m hm]
      · rw [b1 i (by omega) q q5, z_up_m hm, z_up_m hm]
    rw [e, m4 i m q1 q2 q3 q4 hm]
  have t6 : ∀ i, i ≠ 21 → i ≠ 28 → (z_up (z_up s6 28 qf (s6 28 qf - s6 47 nm)) 21 22 (nI 0)) i = s6 i := fun i q1 q2 => by rw [z_up_ne q1, z_up_ne q2]
  have s52 : ∀ j, s4 52 j = τ 52 j := by
    intro j
    rw [a1 52 (by omega) (by omega) (by omega), zS3_ne (by omega), z_up_ne (by omega), r2 52 (by omega) (by omega) (by omega) (by omega) (by omega)]
  refine ⟨fun i q => ?_, fun k q1 q2 q3 q4 q5 q6 => ?_, ⟨?_, ?_⟩, fun i m q1 q2 q3 q4 q5 hm => ?_, ⟨?_, ?_, ?_, ?_, ?_, ?_, ?_, ?_, ?_, ?_, ?_⟩, fun j hj => ?_, fun i hi => ?_, fun j hj => ?_, fun i hi => ?_, fun o => ?_⟩
  · rw [zcR_ne (by omega) (by omega), t6 i (by omega) (by omega), r6 i (by omega) (by omega) (by omega) (by omega), r4 i (by omega), z_up_ne (by omega), r2 i (by omega) (by omega) (by omega) (by omega) (by omega)]
  · rw [zcR_ne (by omega) (by omega), z_up_m q1, z_up_ne (by omega), r6 21 (by omega) (by omega) (by omega) (by omega), r4 21 (by omega), z_up_m q4, p2 k q2 q3, h2 k q5 q6]
  · rw [zcR_ne (by omega) (by omega), z_up_m (by omega), z_up_ne (by omega), r6 21 (by omega) (by omega) (by omega) (by omega), r4 21 (by omega), z_up_app, if_pos rfl, if_pos rfl]
  · rw [zcR_ne (by omega) (by omega), z_up_app, if_pos rfl, if_pos rfl]; rfl
  · rw [zcR_m hm, t6 i (by omega) (by omega), m6 i m q1 q2 q3 q4 q5 hm]
  · rw [zcR_ne (by omega) (by omega), t6 41 (by omega) (by omega), r6 41 (by omega) (by omega) (by omega) (by omega), a1 41 (by omega) (by omega) (by omega)]; exact v1
  · rw [zcR_ne (by omega) (by omega), t6 42 (by omega) (by omega), r6 42 (by omega) (by omega) (by omega) (by omega), a1 42 (by omega) (by omega) (by omega)]; exact v2
  · rw [zcR_ne (by omega) (by omega), t6 43 (by omega) (by omega), r6 43 (by omega) (by omega) (by omega) (by omega), a1 43 (by omega) (by omega) (by omega)]; exact v3
  · unfold zcomeR
    by_cases q : (hc && fb) = true
    · rw [if_pos q, if_pos q, z_up_ne (by omega), z_up_app, if_pos rfl, if_pos rfl]
    · rw [if_neg q, if_neg q, if_neg hne, t6 44 (by omega) (by omega), r6 44 (by omega) (by omega) (by omega) (by omega), a1 44 (by omega) (by omega) (by omega)]; exact v4
  · rw [zcR_ne (by omega) (by omega), t6 45 (by omega) (by omega), r6 45 (by omega) (by omega) (by omega) (by omega), a1 45 (by omega) (by omega) (by omega)]; exact v5
  · rw [zcR_ne (by omega) (by omega), t6 46 (by omega) (by omega), r6 46 (by omega) (by omega) (by omega) (by omega), a1 46 (by omega) (by omega) (by omega)]; exact v6
  · rw [zcR_ne (by omega) (by omega), t6 47 (by omega) (by omega)]; exact b3
  · unfold zcomeR
    by_cases q : (hc && fb) = true
    · rw [if_pos q, if_pos q, z_up_app, if_pos rfl, if_pos rfl]
    · rw [if_neg q, if_neg q, if_neg hne, t6 48 (by omega) (by omega), r6 48 (by omega) (by omega) (by omega) (by omega), a1 48 (by omega) (by omega) (by omega)]; exact v7
  · rw [zcR_ne (by omega) (by omega), t6 49 (by omega) (by omega), r6 49 (by omega) (by omega) (by omega) (by omega)]; exact a3
  · rw [zcR_ne (by omega) (by omega), t6 54 (by omega) (by omega), r6 54 (by omega) (by omega) (by omega) (by omega), a1 54 (by omega) (by omega) (by omega)]; exact v8
  · rw [zcR_ne (by omega) (by omega), t6 55 (by omega) (by omega), r6 55 (by omega) (by omega) (by omega) (by omega), a1 55 (by omega) (by omega) (by omega)]; exact v9
  · rw [zcR_ne (by omega) (by omega), zcR_ne (by omega) (by omega), t6 50 (by omega) (by omega), t6 51 (by omega) (by omega), r6 50 (by omega) (by omega) (by omega) (by omega), r6 51 (by omega) (by omega) (by omega) (by omega), (a4 j hj).1, (a4 j hj).2, zS3_ne (by omega), zS3_ne (by omega), z_up_ne (by omega), z_up_ne (by omega), r2 50 (by omega) (by omega) (by omega) (by omega) (by omega), r2 51 (by omega) (by omega) (by omega) (by omega) (by omega)]
    exact ⟨rfl, rfl⟩
  · rw [zcR_ne (by omega) (by omega), zcR_ne (by omega) (by omega), t6 50 (by omega) (by omega), t6 51 (by omega) (by omega), r6 50 (by omega) (by omega) (by omega) (by omega), r6 51 (by omega) (by omega) (by omega) (by omega)]
    exact a5 i hi
  · rw [zcR_ne (by omega) (by omega), t6 52 (by omega) (by omega), b4 j hj, z_up_ne (by omega), z_up_ne (by omega)]
    exact s52 j
  · rw [zcR_ne (by omega) (by omega), t6 52 (by omega) (by omega)]
    exact b5 i hi
  · have e28 : ∀ o, (z_up (z_up s4 53 nm (nI RL)) 47 nm (nI 0)) 28 o = τ 28 o := by
      intro o
      rw [z_up_ne (by omega), z_up_ne (by omega), r4 28 (by omega), z_up_ne (by omega), r2 28 (by omega) (by omega) (by omega) (by omega) (by omega)]
    rw [zcR_ne (by omega) (by omega), z_up_ne (by omega), z_up_app, if_pos rfl]
    by_cases q : o = qf
    · rw [if_pos q, if_pos q.symm, b6, b3, e28, q]
    · rw [if_neg q, if_neg (fun r => q r.symm), b6, e28]
