/-! what only uses scratch keeps the relation -/
theorem zFr_fo {σ τ : zIn} (h : zfo σ τ) : zFr inZ σ τ := by
  intro i k q
  by_cases e : i = 2
  · subst e
    exact h.2 k (by unfold inZ inA inB inC inM inE inW inQ inF at q; omega)
  · rw [h.1 i (by unfold inZ inA inB inC inM inE inW inQ inF at q; omega) e]
theorem zFr_R {σ τ : zIn} (h : zfR σ τ) : zFr inZ σ τ := by
  intro i k q
  by_cases e : i = 13
  · subst e
    exact h.2 k (by unfold inZ inA inB inC inM inE inW inQ inF at q; omega)
  · rw [h.1 i e (by unfold inZ inA inB inC inM inE inW inQ inF at q; omega) (by unfold inZ inA inB inC inM inE inW inQ inF at q; omega)]
theorem zFr_48 {σ τ : zIn} {v : Int32} (h : zFr inZ σ τ) : zFr inZ σ (z_up τ 21 48 v) := zFr_up (by intro q; unfold inZ inA inB inC inM inE inW inQ inF at q; omega) h
theorem zFr_59 {σ τ : zIn} {v : Int32} {k : Nat} (h : zFr inZ σ τ) : zFr inZ σ (z_up τ 59 k v) := zFr_up (by intro q; unfold inZ inA inB inC inM inE inW inQ inF at q; omega) h
/-- both packers' rows -/
theorem zFr_fil {σ τ : zIn} (h : ∀ i, i ≠ 7 → i ≠ 8 → i ≠ 9 → i ≠ 10 → τ i = σ i) : zFr inZ σ τ := by
  intro i k q
  rw [h i (by unfold inZ inA inB inC inM inE inW inQ inF at q; omega) (by unfold inZ inA inB inC inM inE inW inQ inF at q; omega) (by unfold inZ inA inB inC inM inE inW inQ inF at q; omega) (by unfold inZ inA inB inC inM inE inW inQ inF at q; omega)]
theorem zFr_pf {σ τ : zIn} (h : ∀ i, i ≠ 21 → i ≠ 39 → i ≠ 40 → τ i = σ i) (h2 : ∀ k, k ≠ 25 → k ≠ 26 → τ 21 k = σ 21 k) : zFr inZ σ τ := by
  intro i k q
  by_cases e : i = 21
  · subst e
    exact h2 k (by unfold inZ inA inB inC inM inE inW inQ inF at q; omega) (by unfold inZ inA inB inC inM inE inW inQ inF at q; omega)
  · rw [h i e (by unfold inZ inA inB inC inM inE inW inQ inF at q; omega) (by unfold inZ inA inB inC inM inE inW inQ inF at q; omega)]
/-- the reference's refusal of send -/
theorem zFr_snd {σ τ : zIn} (h : ∀ i, i ≠ 21 → i ≠ 57 → i ≠ 58 → τ i = σ i) (h2 : ∀ k, k ≠ 46 → k ≠ 48 → τ 21 k = σ 21 k) : zFr inZ σ τ := by
  intro i k q
  by_cases e : i = 21
  · subst e
    exact h2 k (by unfold inZ inA inB inC inM inE inW inQ inF at q; omega) (by unfold inZ inA inB inC inM inE inW inQ inF at q; omega)
  · rw [h i e (by unfold inZ inA inB inC inM inE inW inQ inF at q; omega) (by unfold inZ inA inB inC inM inE inW inQ inF at q; omega)]
