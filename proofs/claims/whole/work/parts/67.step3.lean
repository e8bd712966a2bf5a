/-! the relation's messages, where a cable or an office is new, where a word goes wrong -/
theorem zpt_cg {ad ot ad2 ot2 : Nat → Nat} {ro : Nat → Nat} {fm nc : Nat} (h1 : ∀ c, c < nc → ad2 c = ad c) (h2 : ∀ c, c < nc → ot2 c = ot c) : ∀ k, (∀ j, j < k → ro j < nc) → zpt ad2 ot2 ro fm k = zpt ad ot ro fm k
  | 0, _ => rfl
  | k + 1, h => by
    show zoe ad2 ot2 (ro k) (zpt ad2 ot2 ro fm k) = zoe ad ot (ro k) (zpt ad ot ro fm k)
    rw [zpt_cg h1 h2 k (fun j hj => h j (by omega))]
    unfold zoe
    rw [h1 _ (h k (by omega)), h2 _ (h k (by omega))]
theorem zwy_cg {σ τ : zIn} {m nc k : Nat} (h29 : ∀ c, c < nc → τ 29 c = σ 29 c) (h30 : ∀ c, c < nc → τ 30 c = σ 30 c) (h41 : τ 41 = σ 41) (h52 : τ 52 = σ 52) (hr : ∀ j, j < k → zro σ m j < nc) : zwy τ m k = zwy σ m k := by
  have gr : zro τ m = zro σ m := funext fun c => by unfold zro; rw [h52]
  unfold zwy
  rw [gr, show zf τ 41 m = zf σ 41 m by unfold zf; rw [h41]]
  exact zpt_cg (fun c hc => by unfold zf; rw [h29 c hc]) (fun c hc => by unfold zf; rw [h30 c hc]) k hr
theorem zGE_mono {g : zSh} {σ τ : zIn} {nm no nc no2 nc2 : Nat} (H : zGE g σ nm no nc) (h1 : no ≤ no2) (h2 : nc ≤ nc2) (h29 : ∀ c, c < nc → τ 29 c = σ 29 c) (h30 : ∀ c, c < nc → τ 30 c = σ 30 c) (h : zFr (fun i k => inE i k ∧ i ≠ 29 ∧ i ≠ 30) σ τ) : zGE g τ nm no2 nc2 := by
  obtain ⟨⟨a1, a2, a3⟩, b⟩ := H
  refine ⟨⟨?_, ?_, a3⟩, fun m hm => ?_⟩
  · rw [h 1 8 (by unfold inE; omega)]; exact a1
  · rw [h 21 27 (by unfold inE; omega)]; exact a2
  have e41 := zFr_row h 41 (fun k => by unfold inE; omega)
  have e42 := zFr_row h 42 (fun k => by unfold inE; omega)
  have e43 := zFr_row h 43 (fun k => by unfold inE; omega)
  have e45 := zFr_row h 45 (fun k => by unfold inE; omega)
  have e46 := zFr_row h 46 (fun k => by unfold inE; omega)
  have e47 := zFr_row h 47 (fun k => by unfold inE; omega)
  have e49 := zFr_row h 49 (fun k => by unfold inE; omega)
  have e52 := zFr_row h 52 (fun k => by unfold inE; omega)
  have e500 := zFr_row h (500 + m) (fun k => by unfold inE; omega)
  have g41 : zf τ 41 = zf σ 41 := funext fun c => by unfold zf; rw [e41]
  have g42 : zf τ 42 = zf σ 42 := funext fun c => by unfold zf; rw [e42]
  have g43 : zf τ 43 = zf σ 43 := funext fun c => by unfold zf; rw [e43]
  have g46 : zf τ 46 = zf σ 46 := funext fun c => by unfold zf; rw [e46]
  have gr : zro τ m = zro σ m := funext fun c => by unfold zro; rw [e52]
  obtain ⟨q1, q2, q3, q4, q5, q6, q7, q8, q9, q10⟩ := b m hm
  have gw : ∀ k, k ≤ zln5 g m → zwy τ m k = zwy σ m k := fun k hk => zwy_cg h29 h30 e41 e52 (fun j hj => (q9 j (by omega)).2.2.1)
  unfold zGe
  rw [h (200 + m) 0 (by unfold inE; omega), h (200 + m) 1 (by unfold inE; omega), h (200 + m) 2 (by unfold inE; omega), h (200 + m) 3 (by unfold inE; omega), h (200 + m) 4 (by unfold inE; omega), h (200 + m) 5 (by unfold inE; omega), e41, e42, e43, e45, e46, e47, e49, e52, e500, g41, g42, g43, g46, gr]
  refine ⟨q1, ⟨q2.1, by omega⟩, ⟨q3.1, by omega⟩, q4, q5, q6, q7, q8, fun k hk => ?_, by rw [gw _ (Nat.le_refl _)]; exact q10⟩
  obtain ⟨r1, r2, r3, r4, r5⟩ := q9 k hk
  rw [gw k (by omega), show zf τ 29 (zro σ m k) = zf σ 29 (zro σ m k) by unfold zf; rw [h29 _ r3], show zf τ 30 (zro σ m k) = zf σ 30 (zro σ m k) by unfold zf; rw [h30 _ r3]]
  exact ⟨r1, r2, by omega, r4, r5⟩
theorem zGq_mono {L5 L3 : Nat} {σ τ : zIn} {m no nc : Nat} (hm : m < 60) (HE : zGe L5 L3 σ no nc m) (H : zGq L5 σ m) (h29 : ∀ c, c < nc → τ 29 c = σ 29 c) (h30 : ∀ c, c < nc → τ 30 c = σ 30 c) (h : zFr (fun i k => inQ i k ∧ i ≠ 29 ∧ i ≠ 30) σ τ) : zGq L5 τ m := by
  have e41 := zFr_row h 41 (fun k => by unfold inQ; omega)
  have e44 := zFr_row h 44 (fun k => by unfold inQ; omega)
  have e46 := zFr_row h 46 (fun k => by unfold inQ; omega)
  have e48 := zFr_row h 48 (fun k => by unfold inQ; omega)
  have e52 := zFr_row h 52 (fun k => by unfold inQ; omega)
  have e54 := zFr_row h 54 (fun k => by unfold inQ; omega)
  have e55 := zFr_row h 55 (fun k => by unfold inQ; omega)
  have e56 := zFr_row h 56 (fun k => by unfold inQ; omega)
  have g44 : zf τ 44 = zf σ 44 := funext fun c => by unfold zf; rw [e44]
  have g46 : zf τ 46 = zf σ 46 := funext fun c => by unfold zf; rw [e46]
  have g54 : zf τ 54 = zf σ 54 := funext fun c => by unfold zf; rw [e54]
  have g55 : zf τ 55 = zf σ 55 := funext fun c => by unfold zf; rw [e55]
  have hl : zf σ 54 m ≤ L5 := H.2.1.2.1
  have gw : zwy τ m (zf σ 54 m) = zwy σ m (zf σ 54 m) := zwy_cg h29 h30 e41 e52 (fun j hj => (HE.2.2.2.2.2.2.2.2.1 j (by omega)).2.2.1)
  unfold zGq at *
  rw [h (200 + m) 9 (by unfold inQ; omega), h (200 + m) 10 (by unfold inQ; omega), h (200 + m) 11 (by unfold inQ; omega), h (200 + m) 12 (by unfold inQ; omega), e44, e48, e54, e55, e56, g44, g46, g54, g55, gw]
  exact H
theorem zis_cg {f g : Nat → Int32} : ∀ {n : Nat}, (∀ k, k < n → f k = g k) → zis f n = zis g n
  | 0, _ => rfl
  | n + 1, h => by show zis f n + f n = zis g n + g n; rw [zis_cg (fun k hk => h k (by omega)), h n (by omega)]
theorem zis_0 : ∀ {f : Nat → Int32} {n : Nat}, (∀ k, k < n → f k = 0) → zis f n = 0
  | _, 0, _ => rfl
  | f, n + 1, h => by show zis f n + f n = 0; rw [zis_0 (fun k hk => h k (by omega)), h n (by omega)]; rfl
theorem zGF_mono {g : zSh} {σ τ : zIn} {nm no nc : Nat} (HE : zGE g σ nm no nc) (H : zGF g σ nm) (h29 : ∀ c, c < nc → τ 29 c = σ 29 c) (h31 : ∀ c, c < nc → τ 31 c = σ 31 c) (h : zFr (fun i k => inF i k ∧ i ≠ 29 ∧ i ≠ 31) σ τ) : zGF g τ nm := by
  have e28 := zFr_row h 28 (fun k => by unfold inF; omega)
  have e41 := zFr_row h 41 (fun k => by unfold inF; omega)
  have e43 := zFr_row h 43 (fun k => by unfold inF; omega)
  have e46 := zFr_row h 46 (fun k => by unfold inF; omega)
  have e52 := zFr_row h 52 (fun k => by unfold inF; omega)
  intro o
  rw [e28, H o]
  refine zis_cg (fun m hm => ?_)
  unfold zsb
  refine zis_cg (fun k hk => ?_)
  have hr : zro σ m k < nc := ((HE.2 m hm).2.2.2.2.2.2.2.2.1 k hk).2.2.1
  rw [show zro τ m k = zro σ m k by unfold zro; rw [e52], show zf τ 29 (zro σ m k) = zf σ 29 (zro σ m k) by unfold zf; rw [h29 _ hr], h31 _ hr, e43, e46, show zf τ 41 m = zf σ 41 m by unfold zf; rw [e41]]
/-- one word of a message goes wrong -/
theorem zGw_wrong {L3 : Nat} {σ τ : zIn} {m m2 k2 : Nat} {v : Int32} (hm : m < 60) (hm2 : m2 < 60) (H : zGw L3 σ m) (hL : L3 ≤ 24) (hk : k2 < 24) (hv : zwd v) (h0 : m = m2 → zwd (σ 50 (24 * m + k2))) (h4 : τ (400 + m2) = upd (σ (400 + m2)) k2 v) (h51 : τ 51 = upd (σ 51) (24 * m2 + k2) v)
    (hf : zFr (fun i k => inW i k ∧ i ≠ 400 + m2 ∧ i ≠ 51) σ τ) : zGw L3 τ m := by
  intro k hk3
  obtain ⟨q1, q2, q3⟩ := H k hk3
  rw [zFr_row hf 50 (fun k => by unfold inW; omega), zFr_row hf (300 + m) (fun k => by unfold inW; omega), h51]
  by_cases e : m = m2
  · subst e
    rw [h4]
    by_cases e2 : k = k2
    · subst e2
      rw [zupd_s, zupd_s]
      exact ⟨q1, rfl, Or.inl ⟨h0 rfl, hv⟩⟩
    · rw [zupd_n e2, zupd_n (by omega)]; exact ⟨q1, q2, q3⟩
  · rw [zFr_row hf (400 + m) (fun k => by unfold inW; omega), zupd_n (by omega)]; exact ⟨q1, q2, q3⟩
