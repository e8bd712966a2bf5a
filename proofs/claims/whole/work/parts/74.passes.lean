/-! the groups give what pass asks, and stand again after it -/
def zbo (σ : zIn) (i m : Nat) : Bool := decide (σ i m = 1)
theorem zbo_b {σ : zIn} {i m : Nat} (h : σ i m = 0 ∨ σ i m = 1) : σ i m = zb (zbo σ i m) := by
  unfold zbo
  rcases h with h | h
  · rw [h]; decide
  · rw [h]; decide
theorem zpre_Cb {σ : zIn} {no nc : Nat} (H : zGB σ no nc) : zCb σ nc no (zf σ 29) (zf σ 30) (zf σ 31) (zf σ 32) (zbo σ 33) := by
  intro c hc
  obtain ⟨⟨a1, a2, a3, a4, a5⟩, ⟨b1, b2⟩, ⟨c1, c2⟩, d, ⟨e1, e2, e3⟩, ⟨f1, f2, f3⟩, g1⟩ := H.2.2.2.1 c hc
  exact ⟨a1.trans b1, b2, a2.trans c1, c2, d, a3.trans e1, e2, e3, a4.trans f1, f2, f3, a5.trans (zbo_b g1)⟩
theorem zpre_CR {σ : zIn} {no nc : Nat} (H : zGB σ no nc) : zCR σ nc no (zf σ 29) (zf σ 30) (zf σ 31) (zf σ 32) (zbo σ 33) := by
  intro c hc
  obtain ⟨⟨a1, a2, a3, a4, a5⟩, ⟨b1, b2⟩, ⟨c1, c2⟩, d, ⟨e1, e2, e3⟩, ⟨f1, f2, f3⟩, g1⟩ := H.2.2.2.1 c hc
  exact ⟨b1, b2, c1, c2, d, e1, e2, e3, f1, f2, f3, zbo_b g1⟩
theorem zpre_Cs {σ : zIn} {no nc : Nat} (H : zGB σ no nc) : zCs σ nc no (zf σ 29) (zf σ 30) (zf σ 32) (zbo σ 33) := by
  intro c hc
  obtain ⟨⟨a1, a2, a3, a4, a5⟩, ⟨b1, b2⟩, ⟨c1, c2⟩, d, ⟨e1, e2, e3⟩, ⟨f1, f2, f3⟩, g1⟩ := H.2.2.2.1 c hc
  exact ⟨⟨a1.trans b1, b2⟩, ⟨a2.trans c1, c2⟩, ⟨a4.trans f1, by omega⟩, a5.trans (zbo_b g1)⟩
theorem zpre_hE {σ : zIn} {no nc : Nat} (H : zGB σ no nc) : ∀ c, c < nc → zf σ 29 c < no ∧ zf σ 30 c < no ∧ zf σ 29 c ≠ zf σ 30 c := by
  intro c hc
  obtain ⟨_, ⟨b1, b2⟩, ⟨c1, c2⟩, d, _⟩ := H.2.2.2.1 c hc
  exact ⟨b2, c2, d⟩
theorem zpre_fb {σ : zIn} {no nc : Nat} (H : zGB σ no nc) : ∀ o, o < no → σ (100 + o) 2 = zb (zbo σ 25 o) := by
  intro o ho
  obtain ⟨_, h2, _, h4, _⟩ := H.2.1 o ho
  rw [h2]; exact zbo_b h4
theorem zpre_fbR {σ : zIn} {no nc : Nat} (H : zGB σ no nc) : ∀ o, o < no → σ 25 o = zb (zbo σ 25 o) := fun o ho => zbo_b (H.2.1 o ho).2.2.2.1
theorem zpre_ky {σ : zIn} {no nc : Nat} (H : zGB σ no nc) : ∀ o, o < no → σ (100 + o) 1 = nI (zf σ 26 o) ∧ zf σ 26 o ≤ 39 := by
  intro o ho
  obtain ⟨h1, _, _, _, h5, h6⟩ := H.2.1 o ho
  exact ⟨h1.trans h5, h6⟩
theorem zwy_lt {g : zSh} {σ : zIn} {nm no nc m : Nat} (HB : zGB σ no nc) (HE : zGE g σ nm no nc) (hm : m < nm) : ∀ k, k ≤ zln5 g m → zwy σ m k < no
  | 0, _ => (HE.2 m hm).2.1.2
  | k + 1, h => zoe_lt (nc := nc) (zpre_hE HB) ((HE.2 m hm).2.2.2.2.2.2.2.2.1 k (by omega)).2.2.1
theorem zpre_Ms {g : zSh} {σ : zIn} {nm no nc : Nat} (H : zGE g σ nm no nc) : zMs g σ nm nc (zf σ 43) (zf σ 46) (zro σ) (zbo σ 49) := by
  intro m hm
  obtain ⟨⟨a0, a1, a2, a3, a4, a5⟩, q1, q2, q3, q4, q5, q6, q7, q8, q9⟩ := H.2 m hm
  have q7' : g.2.2.2.1 (500 + m) < 8 := q7
  exact ⟨by omega, a2.trans q3.1, q3.2, a3.trans q4.1, q4.2.2, a5.trans (zbo_b q5), fun k hk => ⟨(q8 k hk).1.trans (q8 k hk).2.1, (q8 k hk).2.2.1⟩⟩
def zqC (σ : zIn) : zQ4 := (zf σ 44, fun m => zwy σ m (zf σ 54 m), zf σ 54, fun m => zf σ 46 m - zf σ 55 m)
def zqR (σ : zIn) : zQ := (zf σ 44, zf σ 54, zf σ 55, zbo σ 56, σ 48)
theorem zpre_Mq {g : zSh} {σ : zIn} {nm no nc : Nat} (HB : zGB σ no nc) (HE : zGE g σ nm no nc) (HQ : ∀ m, m < nm → zGq (zln5 g m) σ m) : zMq g σ nm no (zqC σ) := by
  intro m hm
  obtain ⟨⟨a1, a2, a3⟩, ⟨b1, b2, b3, b4⟩, ⟨c1, c2, c3⟩, d, e, f, h⟩ := HQ m hm
  have q7 : zln5 g m < 8 := (HE.2 m hm).2.2.2.2.2.2.2.1
  have q4 := (HE.2 m hm).2.2.2.2.1.2.2
  exact ⟨⟨a3.trans a1, a2⟩, ⟨f, zwy_lt HB HE hm _ b2⟩, ⟨b4.trans b1, by show zf σ 54 m ≤ 8; omega, b3⟩, c3, by show zf σ 46 m - zf σ 55 m ≤ 1000; omega⟩
theorem zpre_QQ {g : zSh} {σ : zIn} {nm no nc : Nat} (HE : zGE g σ nm no nc) (HQ : ∀ m, m < nm → zGq (zln5 g m) σ m) : zQQ g nm (zf σ 29) (zf σ 30) (zf σ 41) (zf σ 46) (zro σ) (zqC σ) (zqR σ) := by
  intro m hm
  obtain ⟨⟨a1, a2, a3⟩, ⟨b1, b2, b3, b4⟩, ⟨c1, c2, c3⟩, d, e, f, h⟩ := HQ m hm
  exact ⟨rfl, a2, rfl, b2, b3, c2, rfl, fun q => e (of_decide_eq_true q), rfl, h⟩
theorem zpre_Wy {g : zSh} {σ : zIn} {nm no nc : Nat} (HE : zGE g σ nm no nc) : zWy g nm nc (zf σ 29) (zf σ 30) (zf σ 41) (zf σ 42) (zro σ) := by
  intro m hm
  obtain ⟨_, q1, q2, q3, q4, q5, q6, q7, q8, q9⟩ := HE.2 m hm
  exact ⟨fun k hk => ⟨(q8 k hk).2.2.1, (q8 k hk).2.2.2.2⟩, q9⟩
theorem zpre_Rs {g : zSh} {σ : zIn} {nm no nc : Nat} (HB : zGB σ no nc) (HE : zGE g σ nm no nc) : zRs σ nm no nc (zf σ 41) (zf σ 42) (zf σ 43) (zf σ 46) (zln5 g) (zro σ) (zbo σ 49) (zbo σ 25) (zf σ 29) (zf σ 30) := by
  refine ⟨fun m hm => ?_, zpre_fbR HB⟩
  obtain ⟨_, q1, q2, q3, q4, q5, q6, q7, q8, q9⟩ := HE.2 m hm
  exact ⟨q1, q2, q3, q4, zbo_b q5, q7, fun k hk => ⟨(q8 k hk).2.1, (q8 k hk).2.2.1, (q8 k hk).2.2.2.1⟩⟩
theorem zpre_Rd {g : zSh} {σ : zIn} {nm : Nat} (HQ : ∀ m, m < nm → zGq (zln5 g m) σ m) : zRd σ nm (zqR σ) := by
  intro m hm
  obtain ⟨⟨a1, a2, a3⟩, ⟨b1, b2, b3, b4⟩, ⟨c1, c2, c3⟩, d, e, f, h⟩ := HQ m hm
  exact ⟨a1, b1, c1, zbo_b d, rfl⟩
theorem zpre_Ri {g : zSh} {σ : zIn} {nm : Nat} (HQ : ∀ m, m < nm → zGq (zln5 g m) σ m) : zRi nm (zln5 g) (zf σ 46) (zqR σ) := by
  intro m hm
  obtain ⟨⟨a1, a2, a3⟩, ⟨b1, b2, b3, b4⟩, ⟨c1, c2, c3⟩, d, e, f, h⟩ := HQ m hm
  exact ⟨fun q => e (of_decide_eq_true q), fun q => ⟨b3 q, c2⟩⟩
theorem zpre_Rt {g : zSh} {σ : zIn} {nm no nc : Nat} (HE : zGE g σ nm no nc) : zRt nm (zf σ 41) (zf σ 42) (zln5 g) (zro σ) (zf σ 29) (zf σ 30) := fun m hm => (zpre_Wy HE m hm).2
theorem zpre_le2 {g : zSh} {σ : zIn} {nm : Nat} (HQ : ∀ m, m < nm → zGq (zln5 g m) σ m) : zle2 nm (zqR σ) := fun m hm => (HQ m hm).1.2.1
/-- the reference's rows are kept -/
def zKR (σ τ : zIn) : Prop := ∀ i, 21 ≤ i → i ≤ 58 → τ i = σ i
theorem zRs_e {σ τ : zIn} {nm no nc : Nat} {fm tt kd pd RL : Nat → Nat} {ro : Nat → Nat → Nat} {hc fb : Nat → Bool} {ad ot : Nat → Nat} (h : zKR σ τ) (H : zRs σ nm no nc fm tt kd pd RL ro hc fb ad ot) : zRs τ nm no nc fm tt kd pd RL ro hc fb ad ot := by
  unfold zRs at *
  rw [h 41 (by decide) (by decide), h 42 (by decide) (by decide), h 43 (by decide) (by decide), h 46 (by decide) (by decide), h 49 (by decide) (by decide), h 52 (by decide) (by decide), h 25 (by decide) (by decide)]
  exact H
theorem zRd_e {σ τ : zIn} {nm : Nat} {q : zQ} (h : zKR σ τ) (H : zRd σ nm q) : zRd τ nm q := by
  unfold zRd at *
  rw [h 44 (by decide) (by decide), h 54 (by decide) (by decide), h 55 (by decide) (by decide), h 56 (by decide) (by decide), h 48 (by decide) (by decide)]
  exact H
theorem zq_back {g : zSh} {σ : zIn} {nm no nc : Nat} {q : zQ4} {q2 : zQ} (HE : zGE g σ nm no nc) (hC : zMq g σ nm no q) (hR : zRd σ nm q2) (H : zQQ g nm (zf σ 29) (zf σ 30) (zf σ 41) (zf σ 46) (zro σ) q q2) : ∀ m, m < nm → zGq (zln5 g m) σ m := by
  intro m hm
  obtain ⟨⟨a1, a2⟩, ⟨b1, b2⟩, ⟨c1, c2, c3⟩, d1, d2⟩ := hC m hm
  obtain ⟨r1, r2, r3, r4, r5⟩ := hR m hm
  obtain ⟨h1, h2, h3, h4, h5, h6, h7, h8, h9, h10⟩ := H m hm
  have q7 : zln5 g m < 8 := (HE.2 m hm).2.2.2.2.2.2.2.1
  have q4 := (HE.2 m hm).2.2.2.2.1.2.2
  have z1 : q.1 m = q2.1 m := h1
  have z2 : q2.1 m ≤ 2 := h2
  have z3 : q.2.2.1 m = q2.2.1 m := h3
  have z4 : q2.2.1 m ≤ zln5 g m := h4
  have z5 : q2.1 m = 0 → q2.2.1 m < zln5 g m := h5
  have z6 : q2.2.2.1 m < zf σ 46 m := h6
  have z7 : q.2.2.2 m = zf σ 46 m - q2.2.2.1 m := h7
  have z8 : q2.2.2.2.1 m = true → q2.1 m = 0 := h8
  have z9 : q.2.1 m = zwy σ m (q2.2.1 m) := h9
  have z10 : q2.2.2.2.2 m = (if q2.1 m = 2 then nI (zwy σ m (q2.2.1 m)) else -1) := h10
  have f44 : zf σ 44 m = q2.1 m := (zn_self r1 (by omega)).2
  have f54 : zf σ 54 m = q2.2.1 m := (zn_self r2 (by omega)).2
  have f55 : zf σ 55 m = q2.2.2.1 m := (zn_self r3 (by omega)).2
  unfold zGq
  rw [f44, f54, f55]
  refine ⟨⟨r1, z2, ?_⟩, ⟨r2, z4, z5, ?_⟩, ⟨r3, z6, ?_⟩, ?_, ?_, ?_, ?_⟩
  · rw [a1, r1]; exact congrArg nI z1
  · rw [c1, r2]; exact congrArg nI z3
  · rw [d1]; exact congrArg nI z7
  · rw [r4]; exact zb_01 _
  · intro e; rw [r4] at e; exact z8 (zb_1.mp e)
  · rw [b1]; exact congrArg nI z9
  · rw [r5]; exact z10
