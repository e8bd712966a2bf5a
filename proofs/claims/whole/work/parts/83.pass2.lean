/-! the relation through pass -/
theorem zst_pass {g : zSh} {σ τ2 σ2 : zIn} {ni ne nd no nc nu nm mi j k2 : Nat} {u : Int32} (H : zRel g σ ni ne nd no nc nu nm mi) (hj : mi + j ≤ 1000000) (hk : k2 ≤ j) (hF : zFM σ τ2)
    (hC : zMq g τ2 nm no (zmn (zmi1 g nm (zf σ 43) (zf σ 46) (zro σ) (zf σ 29) (zf σ 30) (zf σ 32) (zbo σ 33) (zbo σ 49) (zbo σ 25)) (zqC σ) k2)) (hs : k2 < j → ∀ m, m < nm → τ2 (200 + m) 9 ≠ 0)
    (h1 : ∀ i, i ≠ 21 → i ≠ 44 → i ≠ 48 → i ≠ 54 → i ≠ 55 → i ≠ 56 → σ2 i = z_up (z_up τ2 1 9 (nI (mi + j))) 59 0 u i) (h2 : ∀ k, k ≠ 47 → k ≠ 48 → σ2 21 k = z_up (z_up τ2 1 9 (nI (mi + j))) 59 0 u 21 k) (h47 : σ2 21 47 = nI (mi + j))
    (hR : zRd σ2 nm (zrit (zrmin (zf σ 41) (zf σ 42) (zf σ 43) (zf σ 46) (zro σ) (zbo σ 49) (zbo σ 25) (zf σ 29) (zf σ 30) (zf σ 32) (zbo σ 33) nm nc) (zqR σ) j)) (h56 : ∀ m, nm ≤ m → σ2 56 m = z_up (z_up τ2 1 9 (nI (mi + j))) 59 0 u 56 m) : zRel g σ2 ni ne nd no nc nu nm (mi + j) := by
  obtain ⟨hP, hA, hB, hCC, hE, hW, hQ, hFF, h0⟩ := H
  have hn12 := hB.1.2.2.2.2.2
  have hn60 := hE.1.2.2
  have fr : ∀ i k, i ≠ 44 → i ≠ 48 → i ≠ 54 → i ≠ 55 → i ≠ 56 → i ≠ 59 → ¬ (i = 21 ∧ (k = 47 ∨ k = 48)) → ¬ (i = 1 ∧ k = 9) → ¬ (200 ≤ i ∧ i < 260 ∧ 9 ≤ k ∧ k ≤ 12) → ¬ (120 ≤ i ∧ i < 132 ∧ k = 5) → σ2 i k = σ i k := by
    intro i k q1 q2 q3 q4 q5 q6 q7 q8 q9 q10
    have e : z_up (z_up τ2 1 9 (nI (mi + j))) 59 0 u i k = σ i k := by
      rw [z_up_ne q6]
      by_cases q : i = 1
      · subst q
        rw [z_up_app, if_pos rfl, if_neg (fun r => q8 ⟨rfl, r⟩)]; exact hF 1 k q9 q10
      · rw [z_up_ne q]; exact hF i k q9 q10
    by_cases q : i = 21
    · subst q; rw [h2 k (fun r => q7 ⟨rfl, Or.inl r⟩) (fun r => q7 ⟨rfl, Or.inr r⟩)]; exact e
    · rw [h1 i q q1 q2 q3 q4 q5]; exact e
  have hE2 : zGE g σ2 nm no nc := zGE_e (fun i k q => by unfold inE at q; exact fr i k (by omega) (by omega) (by omega) (by omega) (by omega) (by omega) (by omega) (by omega) (by omega) (by omega)) hE
  have row : ∀ i, 22 ≤ i → i < 53 → i ≠ 44 → i ≠ 48 → σ2 i = σ i := fun i q1 q2 q3 q4 => funext fun k => fr i k (by omega) (by omega) (by omega) (by omega) (by omega) (by omega) (by omega) (by omega) (by omega) (by omega)
  have hWy := zpre_Wy hE
  have QQ := zmn_same (kd := zf σ 43) (sp := zf σ 32) (hc := zbo σ 49) (fb := zbo σ 25) (br := zbo σ 33) hn12 hWy (zpre_QQ hE hQ) k2
  have QQ2 : zQQ g nm (zf σ 29) (zf σ 30) (zf σ 41) (zf σ 46) (zro σ) (zmn (zmi1 g nm (zf σ 43) (zf σ 46) (zro σ) (zf σ 29) (zf σ 30) (zf σ 32) (zbo σ 33) (zbo σ 49) (zbo σ 25)) (zqC σ) k2) (zrit (zrmin (zf σ 41) (zf σ 42) (zf σ 43) (zf σ 46) (zro σ) (zbo σ 49) (zbo σ 25) (zf σ 29) (zf σ 30) (zf σ 32) (zbo σ 33) nm nc) (zqR σ) j) := by
    rcases Nat.lt_or_ge k2 j with q | q
    · have st := zmn_stop hn12 hWy (fun m hm r => hs q m hm (by rw [(hC m hm).1.1]; show nI _ = 0; rw [show (zmn (zmi1 g nm (zf σ 43) (zf σ 46) (zro σ) (zf σ 29) (zf σ 30) (zf σ 32) (zbo σ 33) (zbo σ 49) (zbo σ 25)) (zqC σ) k2).1 m = 0 from r]; rfl)) QQ (j - k2)
      rw [show k2 + (j - k2) = j by omega] at st
      exact st
    · have e : k2 = j := by omega
      subst e; exact QQ
  have hC2 : zMq g σ2 nm no (zmn (zmi1 g nm (zf σ 43) (zf σ 46) (zro σ) (zf σ 29) (zf σ 30) (zf σ 32) (zbo σ 33) (zbo σ 49) (zbo σ 25)) (zqC σ) k2) := by
    intro m hm
    have e : ∀ k, σ2 (200 + m) k = τ2 (200 + m) k := fun k => by rw [h1 (200 + m) (by omega) (by omega) (by omega) (by omega) (by omega) (by omega), z_up_ne (by omega), z_up_ne (by omega)]
    rw [e, e, e, e]
    exact hC m hm
  have g29 : zf σ2 29 = zf σ 29 := funext fun c => by unfold zf; rw [row 29 (by omega) (by omega) (by omega) (by omega)]
  have g30 : zf σ2 30 = zf σ 30 := funext fun c => by unfold zf; rw [row 30 (by omega) (by omega) (by omega) (by omega)]
  have g41 : zf σ2 41 = zf σ 41 := funext fun c => by unfold zf; rw [row 41 (by omega) (by omega) (by omega) (by omega)]
  have g46 : zf σ2 46 = zf σ 46 := funext fun c => by unfold zf; rw [row 46 (by omega) (by omega) (by omega) (by omega)]
  have gr : zro σ2 = zro σ := funext fun m => funext fun c => by unfold zro; rw [row 52 (by omega) (by omega) (by omega) (by omega)]
  refine ⟨hP, zGA_e (fun i k q => by unfold inA at q; exact fr i k (by omega) (by omega) (by omega) (by omega) (by omega) (by omega) (by omega) (by omega) (by omega) (by omega)) hA, zGB_e (fun i k q => by unfold inB at q; exact fr i k (by omega) (by omega) (by omega) (by omega) (by omega) (by omega) (by omega) (by omega) (by omega) (by omega)) hB,
    zGC_minute hCC hj ?_ h47 (fun i k q => by unfold inC at q; exact fr i k (by omega) (by omega) (by omega) (by omega) (by omega) (by omega) (by omega) (by omega) (by omega) (by omega)), hE2, fun m hm => zGw_e (by omega) (fun i k q => by unfold inW at q; exact fr i k (by omega) (by omega) (by omega) (by omega) (by omega) (by omega) (by omega) (by omega) (by omega) (by omega)) (hW m hm),
    zq_back hE2 hC2 hR (by rw [g29, g30, g41, g46, gr]; exact QQ2), zGF_e (fun i k q => by unfold inF at q; exact fr i k (by omega) (by omega) (by omega) (by omega) (by omega) (by omega) (by omega) (by omega) (by omega) (by omega)) hFF, fun m hm => ?_⟩
  · rw [h1 1 (by decide) (by decide) (by decide) (by decide) (by decide) (by decide), z_up_ne (by decide), z_up_app, if_pos rfl, if_pos rfl]
  · rw [h56 m hm, z_up_ne (by decide), z_up_ne (by decide), hF 56 m (by omega) (by omega)]
    exact h0 m hm
