/-! the relation through wrong -/
theorem zst_wrong {g : zSh} {σ : zIn} {ni ne nd no nc nu nm mi m k q t V : Nat} {u v : Int32} (H : zRel g σ ni ne nd no nc nu nm mi) (hm : m < nm) (hk : k < zln3 g m) (hq : q < 5) (ht : t < 26) (hV : V < 2 ^ 31) (e : σ 51 (24 * m + k) = nI V) (h0 : 0 ≤ σ 50 (24 * m + k)) (hv : v = nI V + (nI t - nI (zl (nI V) q)) * nI (26 ^ (4 - q))) :
    zRel g (z_up (z_up (z_up (z_up σ (400 + m) k v) 59 0 u) 21 48 0) 51 (24 * m + k) v) ni ne nd no nc nu nm mi := by
  obtain ⟨hP, hA, hB, hC, hE, hW, hQ, hFF, h56⟩ := H
  have hn60 := hE.1.2.2
  have hL : ∀ m, m < nm → zln3 g m ≤ 24 := fun m hm => (zask_W hE m hm).2
  have hk24 := hL m hm
  obtain ⟨w1, w2⟩ := (zask_sg (HW := hW m hm) hk).2.1 h0
  have hz : zwd v := by rw [hv]; rw [e] at w2; exact zwd_with w2 hV hq ht
  have fr : ∀ P : Nat → Nat → Prop, (∀ i k, P i k → i ≠ 400 + m ∧ i ≠ 51 ∧ i ≠ 59 ∧ ¬ (i = 21 ∧ k = 48)) → zFr P σ (z_up (z_up (z_up (z_up σ (400 + m) k v) 59 0 u) 21 48 0) 51 (24 * m + k) v) := by
    intro P hp
    refine zFr_up (fun r => (hp _ _ r).2.1 rfl) (zFr_up (fun r => (hp _ _ r).2.2.2 ⟨rfl, rfl⟩) (zFr_up (fun r => (hp _ _ r).2.2.1 rfl) (zFr_up (fun r => (hp _ _ r).1 rfl) zFr_rf)))
  refine ⟨hP, zGA_e (fr _ (fun i k r => by unfold inA at r; omega)) hA, zGB_e (fr _ (fun i k r => by unfold inB at r; omega)) hB, zGC_e (fr _ (fun i k r => by unfold inC at r; omega)) hC, zGE_e (fr _ (fun i k r => by unfold inE at r; omega)) hE,
    fun m2 hm2 => zGw_wrong (m2 := m) (k2 := k) (v := v) (by omega) (by omega) (hW m2 hm2) (hL m2 hm2) (by omega) hz (fun r => by rw [r]; exact w1) ?_ ?_ (fr _ (fun i k r => by obtain ⟨r1, r2, r3⟩ := r; unfold inW at r1; omega)),
    fun m2 hm2 => zGq_e (by omega) (fr _ (fun i k r => by unfold inQ at r; omega)) (hQ m2 hm2), zGF_e (fr _ (fun i k r => by unfold inF at r; omega)) hFF, fun m2 hm2 => ?_⟩
  · rw [z_up_ne (by omega), z_up_ne (by omega), z_up_ne (by omega), z_up_at]
  · rw [z_up_at, z_up_ne (by decide), z_up_ne (by decide), z_up_ne (by omega)]
  · rw [z_up_ne (by decide), z_up_ne (by decide), z_up_ne (by decide), z_up_ne (by omega)]; exact h56 m2 hm2
