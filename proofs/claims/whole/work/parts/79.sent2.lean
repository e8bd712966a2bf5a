/-! the groups after a message was sent: where it is, its words, the accounts -/
theorem zGq_n {τ : zIn} {m fm paid L5 : Nat} {b : Bool} (hL : 0 < L5) (hfm : fm < 8) (hp1 : 1 ≤ paid) (hp2 : paid ≤ 1000) (r41 : τ 41 m = nI fm) (r46 : τ 46 m = nI paid)
    (h44 : τ 44 m = if b then 2 else 0) (h9 : τ (200 + m) 9 = if b then 2 else 0) (h54 : τ 54 m = 0) (h11 : τ (200 + m) 11 = 0) (h55 : τ 55 m = 0) (h12 : τ (200 + m) 12 = nI paid) (h56 : τ 56 m = 0) (h10 : τ (200 + m) 10 = nI fm) (h48 : τ 48 m = if b then nI fm else -1) : zGq L5 τ m := by
  have e46 : zf τ 46 m = paid := (zn_self r46 (by omega)).2
  have e54 : zf τ 54 m = 0 := by unfold zf; rw [h54]; rfl
  have e55 : zf τ 55 m = 0 := by unfold zf; rw [h55]; rfl
  have e44 : zf τ 44 m = if b then 2 else 0 := by unfold zf; rw [h44]; cases b <;> rfl
  have ew : zwy τ m 0 = fm := by
    show zf τ 41 m = fm
    exact (zn_self r41 (by omega)).2
  unfold zGq
  rw [e46, e54, e55, e44, ew, h44, h9, h54, h11, h55, h12, h56, h10, h48]
  cases b with
  | false => exact ⟨⟨rfl, by decide, rfl⟩, ⟨rfl, Nat.zero_le _, fun _ => hL, rfl⟩, ⟨rfl, hp1, rfl⟩, Or.inl rfl, fun q => absurd q (by decide), rfl, rfl⟩
  | true => exact ⟨⟨rfl, by decide, rfl⟩, ⟨rfl, Nat.zero_le _, fun q => absurd q (by decide), rfl⟩, ⟨rfl, hp1, rfl⟩, Or.inl rfl, fun q => absurd q (by decide), rfl, rfl⟩
theorem zGw_n {τ : zIn} {m W : Nat} {x : Nat → Int32} (h3 : ∀ k, k < W → τ (300 + m) k = x k ∧ τ (400 + m) k = x k) (h5 : ∀ k, k < W → τ 50 (24 * m + k) = x k ∧ τ 51 (24 * m + k) = x k) (hx : ∀ k, k < W → zwd (x k) ∨ x k < 0) : zGw W τ m := by
  intro k hk
  rw [(h3 k hk).1, (h3 k hk).2, (h5 k hk).1, (h5 k hk).2]
  exact ⟨rfl, rfl, (hx k hk).elim (fun q => Or.inl ⟨q, q⟩) (fun q => Or.inr ⟨q, rfl⟩)⟩
theorem zsb_n {τ : zIn} {m fm k paid RL : Nat} {l rt : Nat → Nat} (hfm : fm < 8) (hl : ∀ i, i < RL → l i < 12) (hrt : ∀ i, i < RL → τ 31 (l i) = nI (rt (l i))) (r41 : τ 41 m = nI fm) (r43 : τ 43 m = nI k) (hk : k ≤ 2) (r46 : τ 46 m = nI paid) (w52 : ∀ i, i < RL → τ 52 (8 * m + i) = nI (l i)) (o : Nat) :
    zsb RL τ m o = zis (fun i => (if zf τ 29 (l i) = o then zprt rt l paid (nI k) i else 0) - (if fm = o then zprt rt l paid (nI k) i else 0)) RL := by
  unfold zsb
  refine zis_cg (fun i hi => ?_)
  have e : zro τ m i = l i := by unfold zro; rw [w52 i hi]; exact zn_nI (by have := hl i hi; omega)
  rw [e, show zf τ 41 m = fm from (zn_self r41 (by omega)).2, r43, r46, hrt i hi]
  unfold zprt
  rw [zkt_sh hk]
theorem zGF_n {g g' : zSh} {σ τ : zIn} {nm fm k paid RL : Nat} {l rt ad : Nat → Nat} (HF : zGF g σ nm) (ho : ∀ m, m < nm → ∀ o, zsb (zln5 g' m) τ m o = zsb (zln5 g m) σ m o) (hk : k ≤ 2) (hL : zln5 g' nm = RL)
    (hn : ∀ o, zsb RL τ nm o = zis (fun i => (if ad (l i) = o then zprt rt l paid (nI k) i else 0) - (if fm = o then zprt rt l paid (nI k) i else 0)) RL)
    (h28 : ∀ o, τ 28 o = (if fm = o then σ 28 o - nI (zsum (fun i => rt (l i)) RL) * nI paid * zkt (nI k) else σ 28 o) + zis (fun i => if ad (l i) = o then zprt rt l paid (nI k) i else 0) RL) : zGF g' τ (nm + 1) := by
  intro o
  rw [h28 o, zshare hk, HF o]
  show _ = zis (fun m => zsb (zln5 g' m) τ m o) nm + zsb (zln5 g' nm) τ nm o
  rw [hL, hn o, zis_cg (fun m hm => ho m hm o)]
theorem zGB_acc {σ τ : zIn} {no nc : Nat} (H : zGB σ no nc) (h3 : ∀ o, o < no → τ (100 + o) 3 = τ 28 o) (h28 : ∀ o, no ≤ o → τ 28 o = σ 28 o) (hf : zFr (fun i k => inB i k ∧ i ≠ 28 ∧ ¬ (100 ≤ i ∧ i < 108 ∧ k = 3)) σ τ) : zGB τ no nc := by
  have e25 := zFr_row hf 25 (fun k => by unfold inB; omega)
  have e26 := zFr_row hf 26 (fun k => by unfold inB; omega)
  have e29 := zFr_row hf 29 (fun k => by unfold inB; omega)
  have e30 := zFr_row hf 30 (fun k => by unfold inB; omega)
  have e31 := zFr_row hf 31 (fun k => by unfold inB; omega)
  have e32 := zFr_row hf 32 (fun k => by unfold inB; omega)
  have e33 := zFr_row hf 33 (fun k => by unfold inB; omega)
  obtain ⟨⟨a1, a2, a3, a4, a5, a6⟩, b, d, e, f⟩ := H
  unfold zGB zf at *
  rw [hf 13 4 (by unfold inB; omega), hf 13 5 (by unfold inB; omega), hf 21 5 (by unfold inB; omega), hf 21 10 (by unfold inB; omega), e25, e26, e29, e30, e31, e32, e33]
  refine ⟨⟨a1, a2, a3, a4, a5, a6⟩, fun o ho => ?_, fun o ho => ?_, fun c hc => ?_, f⟩
  · obtain ⟨b1, b2, b3, b4⟩ := b o ho
    rw [hf (100 + o) 1 (by unfold inB; omega), hf (100 + o) 2 (by unfold inB; omega)]
    exact ⟨b1, b2, h3 o ho, b4⟩
  · rw [h28 o ho]; exact d o ho
  · rw [hf (120 + c) 0 (by unfold inB; omega), hf (120 + c) 1 (by unfold inB; omega), hf (120 + c) 2 (by unfold inB; omega), hf (120 + c) 3 (by unfold inB; omega), hf (120 + c) 4 (by unfold inB; omega)]
    exact e c hc
/-- the order in which an account is reckoned does not matter -/
theorem zacc {B P S : Int32} {c : Prop} [Decidable c] : (if c then B + S - P else B + S) = (if c then B - P else B) + S := by
  by_cases h : c
  · rw [if_pos h, if_pos h]
    simp only [Int32.sub_eq_add_neg]
    ac_rfl
  · rw [if_neg h, if_neg h]
