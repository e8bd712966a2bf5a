/-! calls of both sides: read, wrong, pass -/
set_option maxHeartbeats 4000000 in
theorem zPr_read {l : Launch} {D : va_G} {cy : Nat → ClassId} {z0 : Nat} {g : zSh} {σ : zIn} (hfl : l.stackTraces = false) (H : zInv g σ) (x y : Int32) : z_Cw l D cy z0 NL_read hL_read [.ref (g.2.1 1), .int x, .int y, .ref (g.2.1 59)] g σ (zPw l D cy z0 MX9_read [.int x, .int y] g) := by
  have HI := H
  obtain ⟨ni, ne, nd, no, nc, nu, nm, mi, H⟩ := H
  obtain ⟨⟨hS, hw, hO, hK, hU, hG, hF⟩, hA, hB, hC, hE, hGw, hGq, hGF, h56⟩ := id H
  have fr := zSP_fr H.1
  have hn60 := hE.1.2.2
  have hn8 := hB.1.2.2.1
  have hNC : ∀ k, k < ne → ∀ j, j < 3 → σ 24 (4 * k + j) = -1 → σ 24 (4 * k + j + 1) = -1 := fun k hk j hj => by rw [hA.2.1.2.2.2.2.1]; exact hA.2.1.2.2.2.2.2.2.1 k hk j hj
  have hky : ∀ o, o < no → σ 26 o = nI (zf σ 26 o) ∧ zf σ 26 o ≤ 39 := fun o ho => (hB.2.1 o ho).2.2.2.2
  have hto : ∀ m, m < nm → σ 42 m = nI (zf σ 42 m) ∧ zf σ 42 m < no := fun m hm => ⟨(zask_to hE m hm).2, (zask_to hE m hm).1.2⟩
  have hnw : ∀ m, m < nm → ∀ k, k < zln3 g m → 0 ≤ σ 50 (24 * m + k) → zwd (σ 51 (24 * m + k)) := fun m hm k hk q => ((zask_sg (hGw m hm) hk).2.1 q).2
  have hsg : ∀ m, m < nm → ∀ k, k < zln3 g m → (0 ≤ σ 50 (24 * m + k) ↔ 0 ≤ σ 51 (24 * m + k)) := fun m hm k hk => (zask_sg (hGw m hm) hk).1
  have h51 : ∀ m, m < nm → ∀ k, k < zln3 g m → σ 51 (24 * m + k) = σ (400 + m) k := fun m hm k hk => (hGw m hm k hk).2.1.symm
  have hC23 : ∀ k, k < ne → zwd (σ 23 k) := by rw [hA.2.1.2.2.2.1]; exact hA.2.1.2.2.2.2.2.1
  refine (tL_read x y hS (tX8_read hfl x y hS hO hB.1.1 hG hE.1.1 (zask_L hE) hA.2.1.1 hA.2.1.2.2.1 hA.2.1.2.2.2.2.2.1 (zpre_ky hB) (fun m hm => (zask_to hE m hm).1) (zask_nw hGw)) (fun v g' σ' h => ?_) (fun E g' σ' h => zXk_in h.1)).mono ?_
  · obtain ⟨_, rfl, _, m, p, me, ql, r, _, _, _, _, rfl, _⟩ := h
    exact ⟨zsa_59 hS, rfl, _, rfl⟩
  rintro v g' σ' (⟨r, σ1, ⟨hz, hg, hf, m, p, me, ql, r', m1, m2, p1, p2, hv, hr⟩, rfl, rfl⟩ | ⟨j, E, hj, ⟨hk, hg, hs⟩, rfl⟩)
  · subst hg
    have er : r = r' := by cases hv; rfl
    subst er
    have e : ∀ i, i ≠ 2 → i ≠ 6 → i ≠ 59 → z_up σ1 59 0 r i = σ i := fun i q1 q2 q3 => by rw [z_up_ne q3, hf.1 i q2 q1]
    refine ⟨zSm_rf, hS, 0, by decide, rfl, zPm_ok (tX9_read (nm := nm) (ne := ne) (no := no) (W := zln3 g') (ky := zf σ 26) (tt := zf σ 42) (ρ := σ) x y hS ?_ hn60 ?_ ?_ hA.2.1.2.2.1 ?_ ?_ hn8 ?_ ?_ ?_ ?_ ?_ ?_ ?_) hz (fun r2 σ2 h => ?_)⟩
    · rw [e 21 (by omega) (by omega) (by omega)]; exact hE.1.2.1
    · rw [e 45 (by omega) (by omega) (by omega)]; exact zask_W hE
    · rw [e 21 (by omega) (by omega) (by omega)]; exact hA.2.1.2.1
    · rw [e 23 (by omega) (by omega) (by omega)]; exact hC23
    · rw [e 24 (by omega) (by omega) (by omega)]; exact hNC
    · rw [e 26 (by omega) (by omega) (by omega)]; exact hky
    · rw [e 42 (by omega) (by omega) (by omega)]; exact hto
    · rw [e 50 (by omega) (by omega) (by omega), e 51 (by omega) (by omega) (by omega)]; exact hnw
    · rw [e 50 (by omega) (by omega) (by omega), e 51 (by omega) (by omega) (by omega)]; exact hsg
    · rw [e 23 (by omega) (by omega) (by omega)]; exact hA.2.1.2.2.2.1
    · rw [e 24 (by omega) (by omega) (by omega)]; exact hA.2.1.2.2.2.2.1
    · rw [e 51 (by omega) (by omega) (by omega)]; exact h51
    · obtain ⟨⟨m', p', me', ql', d1, d2, d3, d4, d5⟩, rfl⟩ := h
      have ec : m' = m := (nI_eq (by omega) (by omega)).mp (d2.symm.trans m2)
      subst ec
      have ep : p' = p := (nI_eq (by omega) (by omega)).mp (d3.symm.trans p1)
      subst ep
      refine ⟨?_, zInv_of (zRel_e (zFr_48 (zFr_59 (zFr_fo hf))) H), ?_⟩
      · rw [z_up_app, if_pos rfl, if_pos rfl]
      · rw [z_up_ne (by omega), z_up_app, if_pos rfl, if_pos rfl]
        exact zrdA_u hA.2.1.2.2.1 hr d5
  · subst hg; subst hs
    exact ⟨zSm_rf, hS, j + 1, zXk_3 hj (by decide), rfl, zPm_bad (tX9_read (nm := nm) (ne := ne) (no := no) (W := zln3 g') (ky := zf σ' 26) (tt := zf σ' 42) (ρ := σ') x y hS hE.1.2.1 hn60 (zask_W hE) hA.2.1.2.1 hA.2.1.2.2.1 hC23 hNC hn8 hky hto hnw hsg hA.2.1.2.2.2.1 hA.2.1.2.2.2.2.1 h51) (zXk_j hk hj (by decide)) HI⟩
set_option maxHeartbeats 4000000 in
theorem zPr_wrong {l : Launch} {D : va_G} {cy : Nat → ClassId} {z0 : Nat} {g : zSh} {σ : zIn} (hfl : l.stackTraces = false) (H : zInv g σ) (x y a b : Int32) : z_Cw l D cy z0 NL_wrong hL_wrong [.ref (g.2.1 1), .int x, .int y, .int a, .int b, .ref (g.2.1 59)] g σ (zPw l D cy z0 MX9_wrong [.int x, .int y, .int a, .int b] g) := by
  have HI := H
  obtain ⟨ni, ne, nd, no, nc, nu, nm, mi, H⟩ := H
  obtain ⟨⟨hS, hw, hO, hK, hU, hG, hF⟩, hA, hB, hC, hE, hGw, hGq, hGF, h56⟩ := id H
  have fr := zSP_fr H.1
  have hn60 := hE.1.2.2
  have hnw : ∀ m, m < nm → ∀ k, k < zln3 g m → 0 ≤ σ 50 (24 * m + k) → zwd (σ 51 (24 * m + k)) := fun m hm k hk q => ((zask_sg (hGw m hm) hk).2.1 q).2
  have hL : ∀ m, m < nm → zln3 g m ≤ 24 := fun m hm => (zask_W hE m hm).2
  refine (tL_wrong x y a b hS (tX8_wrong hfl x y a b hS hG hE.1.1 (zask_L hE)) (fun v g' σ' h => ?_) (fun E g' σ' h => zXk_in h.1)).mono ?_
  · obtain ⟨_, rfl, m, k, q, t, W, _, _, _, _, _, _, _, _, _, _, rfl, _⟩ := h
    exact ⟨zsa_59 hS, rfl, _, rfl⟩
  rintro v g' σ' (⟨r, σ1, ⟨hz, hg, m, k, q, t, W, m1, m2, k1, k2, q1, q2, t1, t2, W1, W2, hv, hs⟩, rfl, rfl⟩ | ⟨j, E, hj, ⟨hk, hg, hs⟩, rfl⟩)
  · subst hg
    have er : r = nI W + (nI t - nI (zl (nI W) q)) * nI (26 ^ (4 - q)) := by cases hv; rfl
    have k1' : k < zln3 g' m := k1
    have hl := hL m m1
    have e : ∀ i, i ≠ 400 + m → i ≠ 59 → z_up σ1 59 0 r i = σ i := fun i q1 q2 => by rw [z_up_ne q2, hs, z_up_ne q1]
    have h0 : 0 ≤ σ 50 (24 * m + k) := by
      have c0 : ¬ ¬ (σ (200 + zn x) 9 = 0 ∧ 0 ≤ σ (400 + zn x) (zn y)) := by
        intro c
        unfold zx_wrong at hz
        by_cases z1 : ¬ (zin x nm = true ∧ zin y (g'.2.2.2.1 (300 + zn x)) = true)
        · rw [if_pos z1] at hz; exact absurd hz (by decide)
        · rw [if_neg z1] at hz
          by_cases z2 : (a < 0 ∨ 4 < a) ∨ (b < 0 ∨ 25 < b)
          · rw [if_pos z2] at hz; exact absurd hz (by decide)
          · rw [if_neg z2, if_pos c] at hz; exact absurd hz (by decide)
      have c1 := (Classical.not_not.mp c0).2
      rw [m2, k2, zn_nI (by omega), zn_nI (by omega)] at c1
      exact (zask_sg (hGw m m1) k1).2.2.mp c1
    have hw51 : σ 51 (24 * m + k) = nI W := by rw [← (hGw m m1 k k1).2.1]; exact W2
    refine ⟨zSm_rf, hS, 0, by decide, rfl, zPm_ok (tX9_wrong (nm := nm) (W := zln3 g') x y a b hS ?_ hn60 ?_ ?_) ((zask_wrong (no := no) (nc := nc) hn60 hGq hGw hL (e 44 (by omega) (by omega)) (e 50 (by omega) (by omega))).trans hz) (fun r2 σ2 h => ?_)⟩
    · rw [e 21 (by omega) (by omega)]; exact hE.1.2.1
    · rw [e 45 (by omega) (by omega)]; exact zask_W hE
    · rw [e 50 (by omega) (by omega), e 51 (by omega) (by omega)]; exact hnw
    · obtain ⟨m', k', q', t', V, d1, d2, d3, d4, d5, d6, d7, d8, d9, d10, d11, rfl⟩ := h
      have ec : m' = m := (nI_eq (by omega) (by omega)).mp (d2.symm.trans m2)
      subst ec
      have ek : k' = k := (nI_eq (by omega) (by omega)).mp (d4.symm.trans k2)
      subst ek
      have eq : q' = q := (nI_eq (by omega) (by omega)).mp (d6.symm.trans q2)
      subst eq
      have et : t' = t := (nI_eq (by omega) (by omega)).mp (d8.symm.trans t2)
      subst et
      rw [e 51 (by omega) (by omega), hw51] at d10
      have eV : W = V := (nI_eq (by omega) (by omega)).mp d10
      subst eV
      have e2 : r2 = r := d11.trans er.symm
      subst e2
      have HR := zst_wrong (u := r2) H m1 k1 q1 t1 W1 hw51 h0 er
      refine ⟨?_, ?_, ?_⟩
      · rw [z_up_ne (by omega), z_up_app, if_pos rfl, if_pos rfl]
      · rw [hs, ← er]; exact zInv_of HR
      · rw [z_up_ne (by omega), z_up_ne (by omega), z_up_app, if_pos rfl, if_pos rfl]
  · subst hg; subst hs
    exact ⟨zSm_rf, hS, j + 1, zXk_3 hj (by decide), rfl, zPm_bad (tX9_wrong (nm := nm) (W := zln3 g') x y a b hS hE.1.2.1 hn60 (zask_W hE) hnw) ((zask_wrong (no := no) (nc := nc) hn60 hGq hGw hL rfl rfl).trans (zXk_j hk hj (by decide))) HI⟩
set_option maxHeartbeats 4000000 in
theorem zPr_pass {l : Launch} {D : va_G} {cy : Nat → ClassId} {z0 : Nat} {g : zSh} {σ : zIn} (hfl : l.stackTraces = false) (H : zInv g σ) (x : Int32) : z_Cw l D cy z0 NL_pass hL_pass [.ref (g.2.1 1), .int x, .ref (g.2.1 59)] g σ (zPw l D cy z0 MX9_pass [.int x] g) := by
  have HI := H
  obtain ⟨ni, ne, nd, no, nc, nu, nm, mi, H⟩ := H
  obtain ⟨⟨hS, hw, hO, hK, hU, hG, hF⟩, hA, hB, hC, hE, hGw, hGq, hGF, h56⟩ := id H
  have fr := zSP_fr H.1
  have hn60 := hE.1.2.2
  have hn8 := hB.1.2.2.1
  have hn12 := hB.1.2.2.2.2.2
  refine (tL_pass x hS (tX8_pass hfl (zqC σ) x hS hO hB.1.1 hK hB.1.2.2.2.1 hG hE.1.1 hC.1.2.2.2.1 hC.1.2.2.2.2.2.1 (zpre_Ms hE) (zpre_Mq hB hE hGq) (zpre_Cs hB) (zpre_fb hB)) (fun v g' σ' h => ?_) (fun E g' σ' h => zXk_in h.1)).mono ?_
  · obtain ⟨_, rfl, j2, k2, τ2, _, _, _, _, _, _, _, _, _, rfl⟩ := h
    exact ⟨zsa_59 hS, rfl, _, rfl⟩
  rintro v g' σ' (⟨r, σ1, ⟨hz, hg, j2, k2, τ2, j1, j3, j4, j5, j6, hFM, hMq, hst, hs, hv⟩, rfl, rfl⟩ | ⟨j, E, hj, ⟨hk, hg, hs⟩, rfl⟩)
  · subst hg
    have er : r = nI (mi + j2) := by cases hv; rfl
    have eK : zKR σ (z_up σ1 59 0 r) := fun i q1 q2 => by
      rw [z_up_ne (by omega), hs, z_up_ne (by omega)]
      exact funext fun k => hFM i k (by omega) (by omega)
    refine ⟨zSm_rf, hS, 0, by decide, rfl, zPm_ok (tX9_pass (nm := nm) (no := no) (nc := nc) (mi := mi) (fm := zf σ 41) (tt := zf σ 42) (kd := zf σ 43) (pd := zf σ 46) (RL := zln5 g') (ad := zf σ 29) (ot := zf σ 30) (rt := zf σ 31) (sp := zf σ 32) (ro := zro σ) (hc := zbo σ 49) (fb := zbo σ 25) (br := zbo σ 33) (q := zqR σ) x hS ?_ hC.1.2.2.2.2.2.1 ?_ hn12 hn8 ?_ hn60 ?_ (zRs_e eK (zpre_Rs hB hE)) (zRd_e eK (zpre_Rd hGq)) (zpre_Ri hGq) (zpre_Rt hE) (zpre_le2 hGq)) hz (fun r2 σ2 h => ?_)⟩
    · rw [eK 21 (by omega) (by omega)]; exact hC.1.2.2.2.2.1
    · rw [eK 21 (by omega) (by omega)]; exact hB.1.2.2.2.2.1
    · rw [eK 21 (by omega) (by omega)]; exact hE.1.2.1
    · have := zpre_CR hB
      unfold zCR at this ⊢
      rw [eK 29 (by omega) (by omega), eK 30 (by omega) (by omega), eK 31 (by omega) (by omega), eK 32 (by omega) (by omega), eK 33 (by omega) (by omega)]
      exact this
    · obtain ⟨j', d1, d2, d3, d4, d5, d6, d7, d8, d9, d10, d11, d12, d13⟩ := h
      have ej : j' = j2 := (nI_eq (by omega) (by omega)).mp (d1.symm.trans j1)
      subst ej
      rw [hs] at d6 d7 d13
      refine ⟨d8, zInv_of (zst_pass (u := r) H j5 j6 hFM hMq hst d6 d7 d9 d10 d13), ?_⟩
      rw [d6 59 (by omega) (by omega) (by omega) (by omega) (by omega) (by omega), z_up_app, if_pos rfl, if_pos rfl, er, d5]
  · subst hg; subst hs
    exact ⟨zSm_rf, hS, j + 1, zXk_3 hj (by decide), rfl, zPm_bad (tX9_pass (nm := nm) (no := no) (nc := nc) (mi := mi) (fm := zf σ' 41) (tt := zf σ' 42) (kd := zf σ' 43) (pd := zf σ' 46) (RL := zln5 g') (ad := zf σ' 29) (ot := zf σ' 30) (rt := zf σ' 31) (sp := zf σ' 32) (ro := zro σ') (hc := zbo σ' 49) (fb := zbo σ' 25) (br := zbo σ' 33) (q := zqR σ') x hS hC.1.2.2.2.2.1 hC.1.2.2.2.2.2.1 hB.1.2.2.2.2.1 hn12 hn8 hE.1.2.1 hn60 (zpre_CR hB) (zpre_Rs hB hE) (zpre_Rd hGq) (zpre_Ri hGq) (zpre_Rt hE) (zpre_le2 hGq)) (zXk_j hk hj (by decide)) HI⟩
