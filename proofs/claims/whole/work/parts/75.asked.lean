/-! what is asked of messages and accounts: both sides answer alike -/
theorem zask_Lg {g : zSh} {σ : zIn} {nm no nc : Nat} (HE : zGE g σ nm no nc) (HQ : ∀ m, m < nm → zGq (zln5 g m) σ m) : zLg g σ nm := by
  intro m hm
  obtain ⟨⟨a1, a2, a3⟩, ⟨b1, b2, b3, b4⟩, _⟩ := HQ m hm
  have q7 : zln5 g m < 8 := (HE.2 m hm).2.2.2.2.2.2.2.1
  refine ⟨Nat.le_of_lt q7, fun h => ⟨zf σ 54 m, b3 ?_, b4.trans b1⟩⟩
  rw [a3, a1] at h
  exact (nI_eq (by omega) (by omega)).mp h
theorem zask_st {g : zSh} {σ : zIn} {nm no nc : Nat} (HE : zGE g σ nm no nc) (HQ : ∀ m, m < nm → zGq (zln5 g m) σ m) : ∀ m, m < nm → σ 44 m = 0 → ∃ q, q < 8 ∧ σ 54 m = nI q := by
  intro m hm h
  obtain ⟨⟨a1, a2, a3⟩, ⟨b1, b2, b3, b4⟩, _⟩ := HQ m hm
  have q7 : zln5 g m < 8 := (HE.2 m hm).2.2.2.2.2.2.2.1
  exact ⟨zf σ 54 m, by omega, b1⟩
theorem zask_cab {g : zSh} {σ : zIn} {nm no nc : Nat} (HE : zGE g σ nm no nc) (HQ : ∀ m, m < nm → zGq (zln5 g m) σ m) {m : Nat} (hm : m < nm) : zcab σ m = zmc σ m := by
  obtain ⟨⟨a1, a2, a3⟩, ⟨b1, b2, b3, b4⟩, _⟩ := HQ m hm
  have q7 : zln5 g m < 8 := (HE.2 m hm).2.2.2.2.2.2.2.1
  have q8 := (HE.2 m hm).2.2.2.2.2.2.2.2.1
  unfold zcab zmc
  rw [a3]
  by_cases h : σ 44 m = 0
  · rw [if_pos h, if_pos h, b4]
    have h0 : zf σ 44 m = 0 := by rw [a1] at h; exact (nI_eq (by omega) (by omega)).mp h
    exact (q8 _ (b3 h0)).1
  · rw [if_neg h, if_neg h]
theorem zask_cnt {g : zSh} {σ : zIn} {nm no nc : Nat} {x : Int32} (HE : zGE g σ nm no nc) (HQ : ∀ m, m < nm → zGq (zln5 g m) σ m) : zcnt (fun m => zcab σ m = x) nm = zcnt (fun m => zmc σ m = x) nm :=
  zcnt_congr (fun m hm => by rw [zask_cab HE HQ hm])
theorem zask_of {g : zSh} {σ : zIn} {nm no nc : Nat} (HE : zGE g σ nm no nc) (HQ : ∀ m, m < nm → zGq (zln5 g m) σ m) {m j : Nat} (hm : m < nm) (hj : j < 6) : zof g σ m j = zofR σ m j := by
  obtain ⟨⟨a0, a1, a2, a3, a4, a5⟩, q1, q2, q3, q4, q5, q6, _⟩ := HE.2 m hm
  obtain ⟨⟨s1, s2, s3⟩, ⟨b1, b2, b3, b4⟩, _, _, _, s4, s5⟩ := HQ m hm
  rcases (show j = 0 ∨ j = 1 ∨ j = 2 ∨ j = 3 ∨ j = 4 ∨ j = 5 by omega) with rfl | rfl | rfl | rfl | rfl | rfl
  · exact s3
  · exact q6.1.symm
  · exact a3
  · exact a4
  · exact zask_cab HE HQ hm
  · show (if σ (200 + m) 9 = 2 then σ (200 + m) 10 else -1) = σ 48 m
    rw [s5, s3, s4]
    by_cases h : σ 44 m = 2
    · rw [if_pos h]
      have : zf σ 44 m = 2 := by rw [s1] at h; exact (nI_eq (by omega) (by omega)).mp h
      rw [if_pos this]
    · rw [if_neg h]
      have : zf σ 44 m ≠ 2 := fun q => h (by rw [s1, q]; rfl)
      rw [if_neg this]
theorem zask_L {g : zSh} {σ : zIn} {nm no nc : Nat} (HE : zGE g σ nm no nc) : ∀ m, m < nm → g.2.2.2.1 (300 + m) ≤ 24 := fun m hm => (HE.2 m hm).2.2.2.2.2.2.1.2
theorem zask_W {g : zSh} {σ : zIn} {nm no nc : Nat} (HE : zGE g σ nm no nc) : ∀ m, m < nm → σ 45 m = nI (zln3 g m) ∧ zln3 g m ≤ 24 := fun m hm => (HE.2 m hm).2.2.2.2.2.2.1
theorem zask_ro {g : zSh} {σ : zIn} {nm no nc : Nat} (HE : zGE g σ nm no nc) : ∀ m, m < nm → ∀ i, i < g.2.2.2.1 (500 + m) → σ (500 + m) i = nI (zro σ m i) ∧ zro σ m i < nc := by
  intro m hm i hi
  obtain ⟨r1, r2, r3, _⟩ := (HE.2 m hm).2.2.2.2.2.2.2.2.1 i hi
  exact ⟨r1.trans r2, r3⟩
theorem zask_shr {g : zSh} {σ : zIn} {nm no nc : Nat} (HB : zGB σ no nc) (HE : zGE g σ nm no nc) {m : Nat} (hm : m < nm) (o : Nat) : zshr σ (zf σ 29) (zro σ m) m (zf σ 41 m) o (g.2.2.2.1 (500 + m)) = zsb (zln5 g m) σ m o := by
  obtain ⟨⟨a0, a1, a2, a3, a4, a5⟩, q1, q2, q3, q4, q5, q6, q7, q8, _⟩ := HE.2 m hm
  unfold zshr zsb
  refine zis_cg (fun k hk => ?_)
  have hr : zro σ m k < nc := (q8 k hk).2.2.1
  obtain ⟨⟨_, _, c3, _⟩, _⟩ := HB.2.2.2.1 _ hr
  unfold zsh1 zpart
  rw [c3, a3, a2]
theorem zask_anew {g : zSh} {σ : zIn} {nm no nc : Nat} (HB : zGB σ no nc) (HE : zGE g σ nm no nc) (HF : zGF g σ nm) (o : Nat) : zis (fun m => zshr σ (zf σ 29) (zro σ m) m (zf σ 41 m) o (g.2.2.2.1 (500 + m))) nm = σ 28 o := by
  rw [HF o]
  exact zis_cg (fun m hm => zask_shr HB HE hm o)
theorem zask_ad {σ : zIn} {no nc : Nat} (HB : zGB σ no nc) : ∀ c, c < nc → σ (120 + c) 0 = nI (zf σ 29 c) ∧ zf σ 29 c < no := by
  intro c hc
  obtain ⟨⟨a1, _⟩, ⟨b1, b2⟩, _⟩ := HB.2.2.2.1 c hc
  exact ⟨a1.trans b1, b2⟩
theorem zask_fr {g : zSh} {σ : zIn} {nm no nc : Nat} (HE : zGE g σ nm no nc) : ∀ m, m < nm → σ (200 + m) 0 = nI (zf σ 41 m) ∧ zf σ 41 m < no := by
  intro m hm
  obtain ⟨⟨a0, _⟩, q1, _⟩ := HE.2 m hm
  exact ⟨a0.trans q1.1, q1.2⟩
theorem zask_to {g : zSh} {σ : zIn} {nm no nc : Nat} (HE : zGE g σ nm no nc) : ∀ m, m < nm → (σ (200 + m) 1 = nI (zf σ 42 m) ∧ zf σ 42 m < no) ∧ σ 42 m = nI (zf σ 42 m) := by
  intro m hm
  obtain ⟨⟨_, a1, _⟩, _, q2, _⟩ := HE.2 m hm
  exact ⟨⟨a1.trans q2.1, q2.2⟩, q2.1⟩
/-- signs and words -/
theorem zask_sg {L3 : Nat} {σ : zIn} {m k : Nat} (HW : zGw L3 σ m) (hk : k < L3) : (0 ≤ σ 50 (24 * m + k) ↔ 0 ≤ σ 51 (24 * m + k)) ∧ (0 ≤ σ 50 (24 * m + k) → zwd (σ 50 (24 * m + k)) ∧ zwd (σ 51 (24 * m + k))) ∧ (0 ≤ σ (400 + m) k ↔ 0 ≤ σ 50 (24 * m + k)) := by
  obtain ⟨q1, q2, q3⟩ := HW k hk
  rw [q2]
  rcases q3 with ⟨w1, w2⟩ | ⟨w1, w2⟩
  · exact ⟨⟨fun _ => zwd_nn w2, fun _ => zwd_nn w1⟩, fun _ => ⟨w1, w2⟩, ⟨fun _ => zwd_nn w1, fun _ => zwd_nn w2⟩⟩
  · rw [w2]; exact ⟨Iff.rfl, fun q => absurd w1 (Int32.not_lt.mpr q), Iff.rfl⟩
theorem zask_sn {g : zSh} {σ : zIn} {nm : Nat} (HW : ∀ m, m < nm → zGw (zln3 g m) σ m) : ∀ m, m < nm → ∀ k, k < g.2.2.2.1 (300 + m) → σ (300 + m) k ≠ σ (400 + m) k → zwd (σ (300 + m) k) ∧ zwd (σ (400 + m) k) := by
  intro m hm k hk hne
  obtain ⟨q1, q2, q3⟩ := HW m hm k hk
  rw [q1, q2] at hne ⊢
  rcases q3 with w | ⟨w1, w2⟩
  · exact w
  · exact absurd w2.symm hne
theorem zask_nw {g : zSh} {σ : zIn} {nm : Nat} (HW : ∀ m, m < nm → zGw (zln3 g m) σ m) : ∀ m, m < nm → ∀ k, k < g.2.2.2.1 (300 + m) → 0 ≤ σ (400 + m) k → zwd (σ (400 + m) k) := by
  intro m hm k hk h
  obtain ⟨s1, s2, s3⟩ := zask_sg (HW m hm) hk
  rw [(HW m hm k hk).2.1]
  exact (s2 (s3.mp h)).2
theorem zask_wrong {g : zSh} {σ τ : zIn} {nm no nc : Nat} {x y a b : Int32} (hn : nm ≤ 60) (HQ : ∀ m, m < nm → zGq (zln5 g m) σ m) (HW : ∀ m, m < nm → zGw (zln3 g m) σ m) (hL : ∀ m, m < nm → zln3 g m ≤ 24) (e44 : τ 44 = σ 44) (e50 : τ 50 = σ 50) : zyw nm (zln3 g) (fun m k => τ 44 m = 0 ∧ 0 ≤ τ 50 (24 * m + k)) x y a b = zx_wrong g σ nm x y a b := by
  unfold zyw zx_wrong
  rw [e44, e50, show g.2.2.2.1 (300 + zn x) = zln3 g (zn x) from rfl]
  by_cases q1' : zin x nm = true ∧ zin y (zln3 g (zn x)) = true
  · have q1 : ¬ ¬ (zin x nm = true ∧ zin y (zln3 g (zn x)) = true) := fun r => r q1'
    rw [if_neg q1, if_neg q1]
    by_cases q2 : (a < 0 ∨ 4 < a) ∨ (b < 0 ∨ 25 < b)
    · rw [if_pos q2, if_pos q2]
    · rw [if_neg q2, if_neg q2]
      obtain ⟨m, hm, ex⟩ := zin_t q1'.1 (by omega)
      have em : zn x = m := by rw [ex]; exact zn_nI (by omega)
      have hl := hL m hm
      obtain ⟨k, hk, ey⟩ := zin_t q1'.2 (by rw [em]; omega)
      have ek : zn y = k := by rw [ey]; exact zn_nI (by rw [em] at hk; omega)
      rw [em] at hk
      rw [em, ek]
      have s3 := (zask_sg (HW m hm) hk).2.2
      have s := (HQ m hm).1.2.2
      rw [s]
      by_cases q3 : σ 44 m = 0 ∧ 0 ≤ σ 50 (24 * m + k)
      · rw [zif_f (fun r => r q3), if_neg (fun r => r ⟨q3.1, s3.mpr q3.2⟩)]
      · rw [zif_t q3, if_pos (fun r => q3 ⟨r.1, s3.mp r.2⟩)]
  · rw [if_pos q1', if_pos q1']
