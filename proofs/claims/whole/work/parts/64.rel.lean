/-! the relation of both sides over one store of numbers: its groups -/
def zFr (P : Nat → Nat → Prop) (σ τ : zIn) : Prop := ∀ i k, P i k → τ i k = σ i k
theorem zFr_row {P : Nat → Nat → Prop} {σ τ : zIn} (h : zFr P σ τ) (i : Nat) (hi : ∀ k, P i k) : τ i = σ i := funext fun k => h i k (hi k)
def zf (σ : zIn) (i m : Nat) : Nat := zn (σ i m)
def zPh (P : Nat → Int32) (ne : Nat) : Prop := (∀ k, k < ne → ∀ j, j < 3 → P (4 * k + j) = -1 → P (4 * k + j + 1) = -1) ∧ ∀ j k, j < ne → k < ne → (∀ i, i < 4 → P (4 * j + i) = P (4 * k + i)) → j = k
def inA (i k : Nat) : Prop := i = 3 ∨ i = 4 ∨ i = 5 ∨ i = 12 ∨ i = 22 ∨ i = 23 ∨ i = 24 ∨ i = 38 ∨ (i = 2 ∧ (k = 4 ∨ k = 5)) ∨ (i = 11 ∧ k = 1) ∨ (i = 21 ∧ (k = 0 ∨ k = 2 ∨ k = 22))
def inB (i k : Nat) : Prop := (i = 13 ∧ (k = 4 ∨ k = 5)) ∨ (i = 21 ∧ (k = 5 ∨ k = 10)) ∨ i = 25 ∨ i = 26 ∨ i = 28 ∨ i = 29 ∨ i = 30 ∨ i = 31 ∨ i = 32 ∨ i = 33 ∨ (100 ≤ i ∧ i < 108 ∧ 1 ≤ k ∧ k ≤ 3) ∨ (120 ≤ i ∧ i < 132 ∧ k ≤ 4)
def inC (i k : Nat) : Prop := (i = 1 ∧ (k = 7 ∨ k = 9)) ∨ (i = 21 ∧ (k = 16 ∨ k = 47)) ∨ i = 18 ∨ i = 27 ∨ i = 34 ∨ i = 35 ∨ i = 36 ∨ i = 37 ∨ (110 ≤ i ∧ i < 118) ∨ (140 ≤ i ∧ i < 152 ∧ k ≤ 4)
def inE (i k : Nat) : Prop := (i = 1 ∧ k = 8) ∨ (i = 21 ∧ k = 27) ∨ i = 29 ∨ i = 30 ∨ i = 41 ∨ i = 42 ∨ i = 43 ∨ i = 45 ∨ i = 46 ∨ i = 47 ∨ i = 49 ∨ i = 52 ∨ (200 ≤ i ∧ i < 260 ∧ k ≤ 5) ∨ (500 ≤ i ∧ i < 560)
def inW (i k : Nat) : Prop := i = 50 ∨ i = 51 ∨ (300 ≤ i ∧ i < 360) ∨ (400 ≤ i ∧ i < 460)
def inQ (i k : Nat) : Prop := i = 29 ∨ i = 30 ∨ i = 41 ∨ i = 44 ∨ i = 46 ∨ i = 48 ∨ i = 52 ∨ i = 54 ∨ i = 55 ∨ i = 56 ∨ (200 ≤ i ∧ i < 260 ∧ 9 ≤ k ∧ k ≤ 12)
def inF (i k : Nat) : Prop := i = 28 ∨ i = 29 ∨ i = 31 ∨ i = 41 ∨ i = 43 ∨ i = 46 ∨ i = 52
/-- ideas, book, draft -/
def zGA (σ : zIn) (ni ne nd : Nat) : Prop :=
  (σ 2 4 = nI ni ∧ σ 21 0 = nI ni ∧ ni ≤ 30 ∧ σ 22 = σ 3 ∧ ∀ k, k < ni → σ 3 k = nI (zf σ 3 k) ∧ 1 ≤ zf σ 3 k ∧ zf σ 3 k ≤ 20) ∧
  (σ 2 5 = nI ne ∧ σ 21 2 = nI ne ∧ ne ≤ 40 ∧ σ 23 = σ 4 ∧ σ 24 = σ 5 ∧ (∀ k, k < ne → zwd (σ 4 k)) ∧ zPh (σ 5) ne) ∧
  (σ 11 1 = nI nd ∧ σ 21 22 = nI nd ∧ nd ≤ 24 ∧ σ 38 = σ 12 ∧ ∀ i, i < nd → σ 12 i = nI (zf σ 12 i) ∧ zf σ 12 i < ni)
theorem zGA_e {σ τ : zIn} {ni ne nd : Nat} (h : zFr inA σ τ) (H : zGA σ ni ne nd) : zGA τ ni ne nd := by
  have e3 := zFr_row h 3 (fun k => by unfold inA; omega)
  have e4 := zFr_row h 4 (fun k => by unfold inA; omega)
  have e5 := zFr_row h 5 (fun k => by unfold inA; omega)
  have e12 := zFr_row h 12 (fun k => by unfold inA; omega)
  have e22 := zFr_row h 22 (fun k => by unfold inA; omega)
  have e23 := zFr_row h 23 (fun k => by unfold inA; omega)
  have e24 := zFr_row h 24 (fun k => by unfold inA; omega)
  have e38 := zFr_row h 38 (fun k => by unfold inA; omega)
  unfold zGA zf at *
  rw [h 2 4 (by unfold inA; omega), h 2 5 (by unfold inA; omega), h 11 1 (by unfold inA; omega), h 21 0 (by unfold inA; omega), h 21 2 (by unfold inA; omega), h 21 22 (by unfold inA; omega), e3, e4, e5, e12, e22, e23, e24, e38]
  exact H
/-- offices and cables -/
def zGB (σ : zIn) (no nc : Nat) : Prop :=
  (σ 13 4 = nI no ∧ σ 21 5 = nI no ∧ no ≤ 8 ∧ σ 13 5 = nI nc ∧ σ 21 10 = nI nc ∧ nc ≤ 12) ∧
  (∀ o, o < no → σ (100 + o) 1 = σ 26 o ∧ σ (100 + o) 2 = σ 25 o ∧ σ (100 + o) 3 = σ 28 o ∧ (σ 25 o = 0 ∨ σ 25 o = 1) ∧ σ 26 o = nI (zf σ 26 o) ∧ zf σ 26 o ≤ 39) ∧
  (∀ o, no ≤ o → σ 25 o = 0 ∧ σ 26 o = 0 ∧ σ 28 o = 0) ∧
  (∀ c, c < nc → (σ (120 + c) 0 = σ 29 c ∧ σ (120 + c) 1 = σ 30 c ∧ σ (120 + c) 2 = σ 31 c ∧ σ (120 + c) 3 = σ 32 c ∧ σ (120 + c) 4 = σ 33 c) ∧ (σ 29 c = nI (zf σ 29 c) ∧ zf σ 29 c < no) ∧ (σ 30 c = nI (zf σ 30 c) ∧ zf σ 30 c < no) ∧ zf σ 29 c ≠ zf σ 30 c ∧ (σ 31 c = nI (zf σ 31 c) ∧ 1 ≤ zf σ 31 c ∧ zf σ 31 c ≤ 100) ∧ (σ 32 c = nI (zf σ 32 c) ∧ 1 ≤ zf σ 32 c ∧ zf σ 32 c ≤ 20) ∧ (σ 33 c = 0 ∨ σ 33 c = 1)) ∧
  ∀ c, nc ≤ c → σ 33 c = 0
theorem zGB_e {σ τ : zIn} {no nc : Nat} (h : zFr inB σ τ) (H : zGB σ no nc) : zGB τ no nc := by
  have e25 := zFr_row h 25 (fun k => by unfold inB; omega)
  have e26 := zFr_row h 26 (fun k => by unfold inB; omega)
  have e28 := zFr_row h 28 (fun k => by unfold inB; omega)
  have e29 := zFr_row h 29 (fun k => by unfold inB; omega)
  have e30 := zFr_row h 30 (fun k => by unfold inB; omega)
  have e31 := zFr_row h 31 (fun k => by unfold inB; omega)
  have e32 := zFr_row h 32 (fun k => by unfold inB; omega)
  have e33 := zFr_row h 33 (fun k => by unfold inB; omega)
  obtain ⟨⟨a1, a2, a3, a4, a5, a6⟩, h2, h3, h4, h5⟩ := H
  unfold zGB zf at *
  rw [h 13 4 (by unfold inB; omega), h 13 5 (by unfold inB; omega), h 21 5 (by unfold inB; omega), h 21 10 (by unfold inB; omega), e25, e26, e28, e29, e30, e31, e32, e33]
  refine ⟨⟨a1, a2, a3, a4, a5, a6⟩, fun o ho => ?_, h3, fun c hc => ?_, h5⟩
  · rw [h (100 + o) 1 (by unfold inB; omega), h (100 + o) 2 (by unfold inB; omega), h (100 + o) 3 (by unfold inB; omega)]
    exact h2 o ho
  · rw [h (120 + c) 0 (by unfold inB; omega), h (120 + c) 1 (by unfold inB; omega), h (120 + c) 2 (by unfold inB; omega), h (120 + c) 3 (by unfold inB; omega), h (120 + c) 4 (by unfold inB; omega)]
    exact h4 c hc
/-- rules, what is reserved, the minute -/
def zGC (σ : zIn) (no nu mi : Nat) : Prop :=
  (σ 1 7 = nI nu ∧ σ 21 16 = nI nu ∧ nu ≤ 12 ∧ σ 1 9 = nI mi ∧ σ 21 47 = nI mi ∧ mi ≤ 1000000 ∧ no ≤ 8) ∧
  (∀ k, k < nu → σ (140 + k) 0 = nI (k + 1) ∧ σ (140 + k) 1 = σ 34 (k + 1) ∧ σ (140 + k) 2 = σ 35 (k + 1) ∧ σ (140 + k) 3 = σ 36 (k + 1) ∧ σ (140 + k) 4 = σ 37 (k + 1) ∧ (σ 34 (k + 1) = nI (zf σ 34 (k + 1)) ∧ zf σ 34 (k + 1) ≤ 1000)) ∧
  (σ 18 0 = 0 ∧ σ 18 2 = σ 35 0 ∧ σ 18 3 = σ 36 0 ∧ σ 18 4 = σ 37 0) ∧
  (∀ k, k ≤ nu → (σ 35 k = nI (zf σ 35 k) ∧ 5 ≤ zf σ 35 k ∧ zf σ 35 k ≤ 20) ∧ (σ 36 k = nI (zf σ 36 k) ∧ 5 ≤ zf σ 36 k ∧ zf σ 36 k ≤ 15) ∧ σ 37 k = nI (zf σ 37 k) ∧ zf σ 37 k ≤ 3) ∧
  (∀ o, o < no → ∀ k, k ≤ 12 → ((σ (110 + o) k = 0 ↔ zbt (σ 27 o) k = false) ∧ (nu < k → σ (110 + o) k = 0))) ∧
  ∀ o, no ≤ o → σ 27 o = 0
theorem zGC_e {σ τ : zIn} {no nu mi : Nat} (h : zFr inC σ τ) (H : zGC σ no nu mi) : zGC τ no nu mi := by
  have e27 := zFr_row h 27 (fun k => by unfold inC; omega)
  have e34 := zFr_row h 34 (fun k => by unfold inC; omega)
  have e35 := zFr_row h 35 (fun k => by unfold inC; omega)
  have e36 := zFr_row h 36 (fun k => by unfold inC; omega)
  have e37 := zFr_row h 37 (fun k => by unfold inC; omega)
  have e18 := zFr_row h 18 (fun k => by unfold inC; omega)
  obtain ⟨⟨a1, a2, a3, a4, a5, a6, a7⟩, h2, h3, h4, h5, h6⟩ := H
  unfold zGC zf at *
  rw [h 1 7 (by unfold inC; omega), h 1 9 (by unfold inC; omega), h 21 16 (by unfold inC; omega), h 21 47 (by unfold inC; omega), e27, e34, e35, e36, e37, e18]
  refine ⟨⟨a1, a2, a3, a4, a5, a6, a7⟩, fun k hk => ?_, h3, h4, fun o ho k hk => ?_, h6⟩
  · rw [h (140 + k) 0 (by unfold inC; omega), h (140 + k) 1 (by unfold inC; omega), h (140 + k) 2 (by unfold inC; omega), h (140 + k) 3 (by unfold inC; omega), h (140 + k) 4 (by unfold inC; omega)]
    exact h2 k hk
  · rw [h (110 + o) k (by unfold inC; omega)]
    exact h5 o ho k hk
def zro (σ : zIn) (m k : Nat) : Nat := zn (σ 52 (8 * m + k))
def zln5 (g : zSh) (m : Nat) : Nat := g.2.2.2.1 (500 + m)
def zln3 (g : zSh) (m : Nat) : Nat := g.2.2.2.1 (300 + m)
def zwy (σ : zIn) (m k : Nat) : Nat := zpt (zf σ 29) (zf σ 30) (zro σ m) (zf σ 41 m) k
/-- what of a message stays -/
def zGe (L5 L3 : Nat) (σ : zIn) (no nc m : Nat) : Prop :=
  (σ (200 + m) 0 = σ 41 m ∧ σ (200 + m) 1 = σ 42 m ∧ σ (200 + m) 2 = σ 43 m ∧ σ (200 + m) 3 = σ 46 m ∧ σ (200 + m) 4 = σ 47 m ∧ σ (200 + m) 5 = σ 49 m) ∧
  (σ 41 m = nI (zf σ 41 m) ∧ zf σ 41 m < no) ∧ (σ 42 m = nI (zf σ 42 m) ∧ zf σ 42 m < no) ∧ (σ 43 m = nI (zf σ 43 m) ∧ zf σ 43 m ≤ 2) ∧ (σ 46 m = nI (zf σ 46 m) ∧ 1 ≤ zf σ 46 m ∧ zf σ 46 m ≤ 1000) ∧ (σ 49 m = 0 ∨ σ 49 m = 1) ∧
  (σ 45 m = nI L3 ∧ L3 ≤ 24) ∧ L5 < 8 ∧ (∀ k, k < L5 → σ (500 + m) k = σ 52 (8 * m + k) ∧ σ 52 (8 * m + k) = nI (zro σ m k) ∧ zro σ m k < nc ∧ (zwy σ m k = zf σ 29 (zro σ m k) ∨ zwy σ m k = zf σ 30 (zro σ m k)) ∧ zwy σ m k ≠ zf σ 42 m) ∧ zwy σ m L5 = zf σ 42 m
def zGE (g : zSh) (σ : zIn) (nm no nc : Nat) : Prop := (σ 1 8 = nI nm ∧ σ 21 27 = nI nm ∧ nm ≤ 60) ∧ ∀ m, m < nm → zGe (zln5 g m) (zln3 g m) σ no nc m
theorem zGe_e {σ τ : zIn} {L5 L3 no nc m : Nat} (hm : m < 60) (h : zFr inE σ τ) (H : zGe L5 L3 σ no nc m) : zGe L5 L3 τ no nc m := by
  have e29 := zFr_row h 29 (fun k => by unfold inE; omega)
  have e30 := zFr_row h 30 (fun k => by unfold inE; omega)
  have e41 := zFr_row h 41 (fun k => by unfold inE; omega)
  have e42 := zFr_row h 42 (fun k => by unfold inE; omega)
  have e43 := zFr_row h 43 (fun k => by unfold inE; omega)
  have e45 := zFr_row h 45 (fun k => by unfold inE; omega)
  have e46 := zFr_row h 46 (fun k => by unfold inE; omega)
  have e47 := zFr_row h 47 (fun k => by unfold inE; omega)
  have e49 := zFr_row h 49 (fun k => by unfold inE; omega)
  have e52 := zFr_row h 52 (fun k => by unfold inE; omega)
  have e500 := zFr_row h (500 + m) (fun k => by unfold inE; omega)
  have g29 : zf τ 29 = zf σ 29 := funext fun c => by unfold zf; rw [e29]
  have g30 : zf τ 30 = zf σ 30 := funext fun c => by unfold zf; rw [e30]
  have g41 : zf τ 41 = zf σ 41 := funext fun c => by unfold zf; rw [e41]
  have g42 : zf τ 42 = zf σ 42 := funext fun c => by unfold zf; rw [e42]
  have g43 : zf τ 43 = zf σ 43 := funext fun c => by unfold zf; rw [e43]
  have g46 : zf τ 46 = zf σ 46 := funext fun c => by unfold zf; rw [e46]
  have gr : zro τ m = zro σ m := funext fun c => by unfold zro; rw [e52]
  have gw : zwy τ m = zwy σ m := funext fun c => by unfold zwy; rw [g29, g30, g41, gr]
  unfold zGe at *
  rw [h (200 + m) 0 (by unfold inE; omega), h (200 + m) 1 (by unfold inE; omega), h (200 + m) 2 (by unfold inE; omega), h (200 + m) 3 (by unfold inE; omega), h (200 + m) 4 (by unfold inE; omega), h (200 + m) 5 (by unfold inE; omega), e41, e42, e43, e45, e46, e47, e49, e52, e500, g29, g30, g41, g42, g43, g46, gr, gw]
  exact H
theorem zGE_e {g : zSh} {σ τ : zIn} {nm no nc : Nat} (h : zFr inE σ τ) (H : zGE g σ nm no nc) : zGE g τ nm no nc := by
  obtain ⟨⟨a1, a2, a3⟩, b⟩ := H
  refine ⟨⟨?_, ?_, a3⟩, fun m hm => zGe_e (by omega) h (b m hm)⟩
  · rw [h 1 8 (by unfold inE; omega)]; exact a1
  · rw [h 21 27 (by unfold inE; omega)]; exact a2
/-- the words of a message -/
def zGw (L3 : Nat) (σ : zIn) (m : Nat) : Prop := ∀ k, k < L3 → σ (300 + m) k = σ 50 (24 * m + k) ∧ σ (400 + m) k = σ 51 (24 * m + k) ∧ ((zwd (σ 50 (24 * m + k)) ∧ zwd (σ 51 (24 * m + k))) ∨ (σ 50 (24 * m + k) < 0 ∧ σ 51 (24 * m + k) = σ 50 (24 * m + k)))
theorem zGw_e {σ τ : zIn} {L3 m : Nat} (hm : m < 60) (h : zFr inW σ τ) (H : zGw L3 σ m) : zGw L3 τ m := by
  intro k hk
  rw [zFr_row h 50 (fun k => by unfold inW; omega), zFr_row h 51 (fun k => by unfold inW; omega), zFr_row h (300 + m) (fun k => by unfold inW; omega), zFr_row h (400 + m) (fun k => by unfold inW; omega)]
  exact H k hk
/-- where a message is -/
def zGq (L5 : Nat) (σ : zIn) (m : Nat) : Prop :=
  (σ 44 m = nI (zf σ 44 m) ∧ zf σ 44 m ≤ 2 ∧ σ (200 + m) 9 = σ 44 m) ∧ (σ 54 m = nI (zf σ 54 m) ∧ zf σ 54 m ≤ L5 ∧ (zf σ 44 m = 0 → zf σ 54 m < L5) ∧ σ (200 + m) 11 = σ 54 m) ∧
  (σ 55 m = nI (zf σ 55 m) ∧ zf σ 55 m < zf σ 46 m ∧ σ (200 + m) 12 = nI (zf σ 46 m - zf σ 55 m)) ∧ (σ 56 m = 0 ∨ σ 56 m = 1) ∧ (σ 56 m = 1 → zf σ 44 m = 0) ∧
  σ (200 + m) 10 = nI (zwy σ m (zf σ 54 m)) ∧ σ 48 m = if zf σ 44 m = 2 then nI (zwy σ m (zf σ 54 m)) else -1
theorem zGq_e {σ τ : zIn} {L5 m : Nat} (hm : m < 60) (h : zFr inQ σ τ) (H : zGq L5 σ m) : zGq L5 τ m := by
  have e29 := zFr_row h 29 (fun k => by unfold inQ; omega)
  have e30 := zFr_row h 30 (fun k => by unfold inQ; omega)
  have e41 := zFr_row h 41 (fun k => by unfold inQ; omega)
  have e44 := zFr_row h 44 (fun k => by unfold inQ; omega)
  have e46 := zFr_row h 46 (fun k => by unfold inQ; omega)
  have e48 := zFr_row h 48 (fun k => by unfold inQ; omega)
  have e52 := zFr_row h 52 (fun k => by unfold inQ; omega)
  have e54 := zFr_row h 54 (fun k => by unfold inQ; omega)
  have e55 := zFr_row h 55 (fun k => by unfold inQ; omega)
  have e56 := zFr_row h 56 (fun k => by unfold inQ; omega)
  have g29 : zf τ 29 = zf σ 29 := funext fun c => by unfold zf; rw [e29]
  have g30 : zf τ 30 = zf σ 30 := funext fun c => by unfold zf; rw [e30]
  have g41 : zf τ 41 = zf σ 41 := funext fun c => by unfold zf; rw [e41]
  have g44 : zf τ 44 = zf σ 44 := funext fun c => by unfold zf; rw [e44]
  have g46 : zf τ 46 = zf σ 46 := funext fun c => by unfold zf; rw [e46]
  have g54 : zf τ 54 = zf σ 54 := funext fun c => by unfold zf; rw [e54]
  have g55 : zf τ 55 = zf σ 55 := funext fun c => by unfold zf; rw [e55]
  have gr : zro τ m = zro σ m := funext fun c => by unfold zro; rw [e52]
  have gw : zwy τ m = zwy σ m := funext fun c => by unfold zwy; rw [g29, g30, g41, gr]
  unfold zGq at *
  rw [h (200 + m) 9 (by unfold inQ; omega), h (200 + m) 10 (by unfold inQ; omega), h (200 + m) 11 (by unfold inQ; omega), h (200 + m) 12 (by unfold inQ; omega), e44, e48, e54, e55, e56, g44, g46, g54, g55, gw]
  exact H
/-- the share of a message in an office's account -/
def zsb (L5 : Nat) (σ : zIn) (m o : Nat) : Int32 := zis (fun k => (if zf σ 29 (zro σ m k) = o then σ 31 (zro σ m k) * σ 46 m * zkt (σ 43 m) else 0) - (if zf σ 41 m = o then σ 31 (zro σ m k) * σ 46 m * zkt (σ 43 m) else 0)) L5
def zGF (g : zSh) (σ : zIn) (nm : Nat) : Prop := ∀ o, σ 28 o = zis (fun m => zsb (zln5 g m) σ m o) nm
theorem zGF_e {g : zSh} {σ τ : zIn} {nm : Nat} (h : zFr inF σ τ) (H : zGF g σ nm) : zGF g τ nm := by
  have e28 := zFr_row h 28 (fun k => by unfold inF; omega)
  have e29 := zFr_row h 29 (fun k => by unfold inF; omega)
  have e31 := zFr_row h 31 (fun k => by unfold inF; omega)
  have e41 := zFr_row h 41 (fun k => by unfold inF; omega)
  have e43 := zFr_row h 43 (fun k => by unfold inF; omega)
  have e46 := zFr_row h 46 (fun k => by unfold inF; omega)
  have e52 := zFr_row h 52 (fun k => by unfold inF; omega)
  unfold zGF zsb zro zf at *
  rw [e28, e29, e31, e41, e43, e46, e52]
  exact H
