/-! calls of both sides: what is asked -/
set_option maxHeartbeats 4000000 in
theorem zPr_account {l : Launch} {D : va_G} {cy : Nat → ClassId} {z0 : Nat} {g : zSh} {σ : zIn} (hfl : l.stackTraces = false) (H : zInv g σ) (x : Int32) : z_Cw l D cy z0 NL_account hL_account [.ref (g.2.1 1), .int x, .ref (g.2.1 59)] g σ (zPw l D cy z0 MX9_account [.int x] g) := by
  have HI := H
  obtain ⟨ni, ne, nd, no, nc, nu, nm, mi, H⟩ := H
  obtain ⟨⟨hS, hw, hO, hK, hU, hG, hF⟩, hA, hB, hC, hE, hGw, hGq, hGF, h56⟩ := id H
  have fr := zSP_fr H.1
  refine (tL_account x hS (tX8_account hfl x hS hO hB.1.1) (fun v g' σ' h => ?_) (fun E g' σ' h => zXk_in h.1)).mono ?_
  · obtain ⟨_, rfl, _, o, _, _, rfl⟩ := h
    exact ⟨zsa_59 hS, rfl, _, rfl⟩
  rintro v g' σ' (⟨r, σ1, ⟨hz, hg, hs, o, o1, o2, hv⟩, rfl, rfl⟩ | ⟨j, E, hj, ⟨hk, hg, hs⟩, rfl⟩)
  · subst hg; subst hs
    have er : r = σ1 (100 + o) 3 := by cases hv; rfl
    have hn8 := hB.1.2.2.1
    refine ⟨zSm_rf, hS, 0, by decide, rfl, zPm_ok (tX9_account (no := no) x hS ?_ hn8) hz (fun r2 σ2 h => ?_)⟩
    · rw [z_up_ne (by omega)]; exact hB.1.2.1
    · obtain ⟨o', d1, d2, d3, rfl⟩ := h
      have ec : o' = o := (nI_eq (by omega) (by omega)).mp (d2.symm.trans o2)
      subst ec
      refine ⟨?_, zInv_of (zRel_e (zFr_48 (zFr_59 zFr_rf)) H), ?_⟩
      · rw [z_up_app, if_pos rfl, if_pos rfl]
      · rw [z_up_ne (by omega), z_up_app, if_pos rfl, if_pos rfl, er, d3, z_up_ne (by omega)]
        exact (hB.2.1 o' o1).2.2.1
  · subst hg; subst hs
    exact ⟨zSm_rf, hS, j + 1, zXk_3 hj (by decide), rfl, zPm_bad (tX9_account (no := no) x hS hB.1.2.1 hB.1.2.2.1) (zXk_j hk hj (by decide)) HI⟩
set_option maxHeartbeats 4000000 in
theorem zPr_accountAnew {l : Launch} {D : va_G} {cy : Nat → ClassId} {z0 : Nat} {g : zSh} {σ : zIn} (hfl : l.stackTraces = false) (H : zInv g σ) (x : Int32) : z_Cw l D cy z0 NL_accountAnew hL_accountAnew [.ref (g.2.1 1), .int x, .ref (g.2.1 59)] g σ (zPw l D cy z0 MX9_accountAnew [.int x] g) := by
  have HI := H
  obtain ⟨ni, ne, nd, no, nc, nu, nm, mi, H⟩ := H
  obtain ⟨⟨hS, hw, hO, hK, hU, hG, hF⟩, hA, hB, hC, hE, hGw, hGq, hGF, h56⟩ := id H
  have fr := zSP_fr H.1
  have h8 : ∀ m, m < nm → g.2.2.2.1 (500 + m) ≤ 8 := fun m hm => Nat.le_of_lt (hE.2 m hm).2.2.2.2.2.2.2.1
  refine (tL_accountAnew x hS (tX8_accountAnew hfl x hS hO hB.1.1 hG hE.1.1 hK hB.1.2.2.2.1 (zask_ro hE) (zask_ad hB) h8 (zask_fr hE)) (fun v g' σ' h => ?_) (fun E g' σ' h => zXk_in h.1)).mono ?_
  · obtain ⟨_, rfl, _, o, _, _, rfl⟩ := h
    exact ⟨zsa_59 hS, rfl, _, rfl⟩
  rintro v g' σ' (⟨r, σ1, ⟨hz, hg, hs, o, o1, o2, hv⟩, rfl, rfl⟩ | ⟨j, E, hj, ⟨hk, hg, hs⟩, rfl⟩)
  · subst hg; subst hs
    have er : r = σ1 28 o := by rw [← zask_anew hB hE hGF o]; cases hv; rfl
    have hn8 := hB.1.2.2.1
    refine ⟨zSm_rf, hS, 0, by decide, rfl, zPm_ok (tX9_accountAnew (no := no) x hS ?_ hn8) hz (fun r2 σ2 h => ?_)⟩
    · rw [z_up_ne (by omega)]; exact hB.1.2.1
    · obtain ⟨o', d1, d2, d3, rfl⟩ := h
      have ec : o' = o := (nI_eq (by omega) (by omega)).mp (d2.symm.trans o2)
      subst ec
      refine ⟨?_, zInv_of (zRel_e (zFr_48 (zFr_59 zFr_rf)) H), ?_⟩
      · rw [z_up_app, if_pos rfl, if_pos rfl]
      · rw [z_up_ne (by omega), z_up_app, if_pos rfl, if_pos rfl, er, d3, z_up_ne (by omega)]
  · subst hg; subst hs
    exact ⟨zSm_rf, hS, j + 1, zXk_3 hj (by decide), rfl, zPm_bad (tX9_accountAnew (no := no) x hS hB.1.2.1 hB.1.2.2.1) (zXk_j hk hj (by decide)) HI⟩
set_option maxHeartbeats 4000000 in
theorem zPr_ofMessage {l : Launch} {D : va_G} {cy : Nat → ClassId} {z0 : Nat} {g : zSh} {σ : zIn} (hfl : l.stackTraces = false) (H : zInv g σ) (x y : Int32) : z_Cw l D cy z0 NL_ofMessage hL_ofMessage [.ref (g.2.1 1), .int x, .int y, .ref (g.2.1 59)] g σ (zPw l D cy z0 MX9_ofMessage [.int x, .int y] g) := by
  have HI := H
  obtain ⟨ni, ne, nd, no, nc, nu, nm, mi, H⟩ := H
  obtain ⟨⟨hS, hw, hO, hK, hU, hG, hF⟩, hA, hB, hC, hE, hGw, hGq, hGF, h56⟩ := id H
  have fr := zSP_fr H.1
  refine (tL_ofMessage x y hS (tX8_ofMessage hfl x y hS hG hE.1.1 (zask_Lg hE hGq) (zask_L hE)) (fun v g' σ' h => ?_) (fun E g' σ' h => zXk_in h.1)).mono ?_
  · obtain ⟨_, rfl, _, m, q, _, _, _, _, rfl⟩ := h
    exact ⟨zsa_59 hS, rfl, _, rfl⟩
  rintro v g' σ' (⟨r, σ1, ⟨hz, hg, hs, m, q, m1, m2, q1, q2, hv⟩, rfl, rfl⟩ | ⟨j, E, hj, ⟨hk, hg, hs⟩, rfl⟩)
  · subst hg; subst hs
    have er : r = zofR σ1 m q := by rw [← zask_of hE hGq m1 q1]; cases hv; rfl
    have hn60 := hE.1.2.2
    have e : ∀ i, i ≠ 59 → z_up σ1 59 0 r i = σ1 i := fun i q1 => z_up_ne q1
    refine ⟨zSm_rf, hS, 0, by decide, rfl, zPm_ok (tX9_ofMessage (nm := nm) x y hS ?_ hn60 ?_) hz (fun r2 σ2 h => ?_)⟩
    · rw [e 21 (by omega)]; exact hE.1.2.1
    · rw [e 44 (by omega), e 54 (by omega)]; exact zask_st hE hGq
    · obtain ⟨m', q', d1, d2, d3, d4, d5, rfl⟩ := h
      have ec : m' = m := (nI_eq (by omega) (by omega)).mp (d2.symm.trans m2)
      subst ec
      have eq : q' = q := (nI_eq (by omega) (by omega)).mp (d4.symm.trans q2)
      subst eq
      refine ⟨?_, zInv_of (zRel_e (zFr_48 (zFr_59 zFr_rf)) H), ?_⟩
      · rw [z_up_app, if_pos rfl, if_pos rfl]
      · rw [z_up_ne (by omega), z_up_app, if_pos rfl, if_pos rfl, d5, er]
        unfold zofR zmc
        rcases (show q' = 0 ∨ q' = 1 ∨ q' = 2 ∨ q' = 3 ∨ q' = 4 ∨ q' = 5 by omega) with rfl | rfl | rfl | rfl | rfl | rfl <;> simp [z_up]
  · subst hg; subst hs
    exact ⟨zSm_rf, hS, j + 1, zXk_3 hj (by decide), rfl, zPm_bad (tX9_ofMessage (nm := nm) x y hS hE.1.2.1 hE.1.2.2 (zask_st hE hGq)) (zXk_j hk hj (by decide)) HI⟩
set_option maxHeartbeats 4000000 in
theorem zPr_word {l : Launch} {D : va_G} {cy : Nat → ClassId} {z0 : Nat} {g : zSh} {σ : zIn} (hfl : l.stackTraces = false) (H : zInv g σ) (x y : Int32) (b : Bool) : z_Cw l D cy z0 NL_word hL_word [.ref (g.2.1 1), .int x, .int y, .int (zb b), .ref (g.2.1 59)] g σ (zPw l D cy z0 MX9_word [.int x, .int y, .int (zb b)] g) := by
  have HI := H
  obtain ⟨ni, ne, nd, no, nc, nu, nm, mi, H⟩ := H
  obtain ⟨⟨hS, hw, hO, hK, hU, hG, hF⟩, hA, hB, hC, hE, hGw, hGq, hGF, h56⟩ := id H
  refine (tL_word x y (zb b) hS (tX8_word hfl b x y hS hG hE.1.1 (zask_L hE)) (fun v g' σ' h => ?_) (fun E g' σ' h => zXk_in h.1)).mono ?_
  · obtain ⟨_, rfl, _, m, q, _, _, _, _, rfl⟩ := h
    exact ⟨zsa_59 hS, rfl, _, rfl⟩
  have hn60 := hE.1.2.2
  rintro v g' σ' (⟨r, σ1, ⟨hz, hg, hs, m, q, m1, m2, q1, q2, hv⟩, rfl, rfl⟩ | ⟨j, E, hj, ⟨hk, hg, hs⟩, rfl⟩)
  · subst hg; subst hs
    have er : r = if b then σ1 (300 + m) q else σ1 (400 + m) q := by cases hv; rfl
    have e : ∀ i, i ≠ 59 → z_up σ1 59 0 r i = σ1 i := fun i q1 => z_up_ne q1
    have hl := (zask_W hE m m1).2
    have q1' : q < zln3 g' m := q1
    refine ⟨zSm_rf, hS, 0, by decide, rfl, zPm_ok (tX9_word (nm := nm) (W := zln3 g') b x y hS ?_ hn60 ?_) hz (fun r2 σ2 h => ?_)⟩
    · rw [e 21 (by omega)]; exact hE.1.2.1
    · rw [e 45 (by omega)]; exact zask_W hE
    · obtain ⟨m', q', d1, d2, d3, d4, d5, rfl⟩ := h
      have ec : m' = m := (nI_eq (by omega) (by omega)).mp (d2.symm.trans m2)
      subst ec
      have eq : q' = q := (nI_eq (by omega) (by omega)).mp (d4.symm.trans q2)
      subst eq
      obtain ⟨w1, w2, _⟩ := hGw m' m1 q' q1
      refine ⟨?_, zInv_of (zRel_e (zFr_48 (zFr_59 zFr_rf)) H), ?_⟩
      · rw [z_up_app, if_pos rfl, if_pos rfl]
      · rw [z_up_ne (by omega), z_up_app, if_pos rfl, if_pos rfl, d5, e 50 (by omega), e 51 (by omega), er, w1, w2]
  · subst hg; subst hs
    exact ⟨zSm_rf, hS, j + 1, zXk_3 hj (by decide), rfl, zPm_bad (tX9_word (nm := nm) (W := zln3 g') b x y hS hE.1.2.1 hE.1.2.2 (zask_W hE)) (zXk_j hk hj (by decide)) HI⟩
set_option maxHeartbeats 4000000 in
theorem zPr_claim {l : Launch} {D : va_G} {cy : Nat → ClassId} {z0 : Nat} {g : zSh} {σ : zIn} (hfl : l.stackTraces = false) (H : zInv g σ) (x : Int32) : z_Cw l D cy z0 NL_claim hL_claim [.ref (g.2.1 1), .int x, .ref (g.2.1 59)] g σ (zPw l D cy z0 MX9_claim [.int x] g) := by
  have HI := H
  obtain ⟨ni, ne, nd, no, nc, nu, nm, mi, H⟩ := H
  obtain ⟨⟨hS, hw, hO, hK, hU, hG, hF⟩, hA, hB, hC, hE, hGw, hGq, hGF, h56⟩ := id H
  have fr := zSP_fr H.1
  have hnw : ∀ m, m < nm → ∀ k, k < zln3 g m → 0 ≤ σ 50 (24 * m + k) → zwd (σ 50 (24 * m + k)) ∧ zwd (σ 51 (24 * m + k)) := fun m hm k hk => (zask_sg (hGw m hm) hk).2.1
  refine (tL_claim x hS (tX8_claim hfl x hS hG hE.1.1 (zask_L hE) (zask_sn hGw)) (fun v g' σ' h => ?_) (fun E g' σ' h => zXk_in h.1)).mono ?_
  · obtain ⟨_, rfl, _, m, r, _, _, rfl, _⟩ := h
    exact ⟨zsa_59 hS, rfl, _, rfl⟩
  have hn60 := hE.1.2.2
  rintro v g' σ' (⟨r, σ1, ⟨hz, hg, hs, m, r', m1, m2, hv, hr⟩, rfl, rfl⟩ | ⟨j, E, hj, ⟨hk, hg, hs⟩, rfl⟩)
  · subst hg; subst hs
    have er : r = r' := by cases hv; rfl
    subst er
    have e : ∀ i, i ≠ 59 → z_up σ1 59 0 r i = σ1 i := fun i q1 => z_up_ne q1
    refine ⟨zSm_rf, hS, 0, by decide, rfl, zPm_ok (tX9_claim (nm := nm) (W := zln3 g') x hS ?_ hn60 ?_ ?_) hz (fun r2 σ2 h => ?_)⟩
    · rw [e 21 (by omega)]; exact hE.1.2.1
    · rw [e 45 (by omega)]; exact zask_W hE
    · rw [e 50 (by omega), e 51 (by omega)]; exact hnw
    · obtain ⟨m', d1, d2, d3, rfl⟩ := h
      have ec : m' = m := (nI_eq (by omega) (by omega)).mp (d2.symm.trans m2)
      subst ec
      have d3' : zclR σ1 m' (zln3 g' m') r2 := by
        unfold zclR zdf at d3 ⊢
        rw [e 50 (by omega), e 51 (by omega)] at d3
        exact d3
      refine ⟨?_, zInv_of (zRel_e (zFr_48 (zFr_59 zFr_rf)) H), ?_⟩
      · rw [z_up_app, if_pos rfl, if_pos rfl]
      · rw [z_up_ne (by omega), z_up_app, if_pos rfl, if_pos rfl]
        exact zcl_same (zask_W hE m' m1).2 (hGw m' m1) hr d3'
  · subst hg; subst hs
    exact ⟨zSm_rf, hS, j + 1, zXk_3 hj (by decide), rfl, zPm_bad (tX9_claim (nm := nm) (W := zln3 g') x hS hE.1.2.1 hE.1.2.2 (zask_W hE) hnw) (zXk_j hk hj (by decide)) HI⟩
