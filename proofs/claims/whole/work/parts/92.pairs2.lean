/-! calls of both sides: offices, cables, rules, the draft -/
set_option maxHeartbeats 4000000 in
theorem zPr_office {l : Launch} {D : va_G} {cy : Nat → ClassId} {z0 : Nat} {g : zSh} {σ : zIn} (hfl : l.stackTraces = false) (H : zInv g σ) : z_Cw l D cy z0 NL_office hL_office [.ref (g.2.1 1), .ref (g.2.1 59)] g σ (zPw l D cy z0 MX9_office [] g) := by
  have HI := H
  obtain ⟨ni, ne, nd, no, nc, nu, nm, mi, H⟩ := H
  obtain ⟨⟨hS, hw, hO, hK, hU, hG, hF⟩, hA, hB, hC, hE, hGw, hGq, hGF, h56⟩ := id H
  have fr := zSP_fr H.1
  have hno8 : zx_office no = 0 → no < 8 := fun q => by
    have := hB.1.2.2.1
    unfold zx_office at q
    by_cases e : no = 8
    · rw [if_pos e] at q; exact absurd q (by decide)
    · omega
  refine (tL_office hS (tX8_office hfl hS hO hB.1.1 hw fr.1.1 fr.1.2) (fun v g' σ' h => ?_) (fun E g' σ' h => zXk_in h.1)).mono ?_
  · obtain ⟨hz, rfl, a, b, rfl, _⟩ := h
    exact ⟨zsa_59 (zSP_office (a := a) (b := b) H.1 (hno8 hz)).1.1, (z_add_ne (kd := 11) (n := 13) (by omega)).trans (z_add_ne (kd := 5) (n := 0) (by omega)), _, rfl⟩
  rintro v g' σ' (⟨r, σ1, ⟨hz, hv, a, b, hg, hs⟩, rfl, rfl⟩ | ⟨j, E, hj, ⟨hk, hg, hs⟩, rfl⟩)
  · have hP := (zSP_office (a := a) (b := b) H.1 (hno8 hz)).1
    rw [← hg] at hP
    have ad : ∀ i, i ≠ 100 + no → i ≠ 110 + no → g'.2.1 i = g.2.1 i := fun i q1 q2 => by rw [hg]; exact (z_add_ne (kd := 11) (n := 13) q2).trans (z_add_ne (kd := 5) (n := 0) q1)
    cases hv
    refine ⟨⟨ad 1 (by omega) (by omega), ad 21 (by omega) (by omega), ad 59 (by omega) (by omega)⟩, hP.1, 0, by decide, rfl, zPm_ok (tX9_office (no := no) hP.1 ?_ hB.1.2.2.1) hz (fun r σ2 h => ?_)⟩
    · rw [hs, z_up_ne (by omega), z_up_ne (by omega), z_up_ne (by omega), z_up_ne (by omega), z_up_ne (by omega), z_zero_ne (by omega), z_zero_ne (by omega)]; exact hB.1.2.1
    · obtain ⟨rfl, rfl⟩ := h
      refine ⟨by simp [z_up], ?_, by simp [z_up]⟩
      rw [hs, hg]; exact zInv_of (zst_office H hz)
  · subst hg; subst hs
    exact ⟨zSm_rf, hS, j + 1, zXk_3 hj (by decide), rfl, zPm_bad (tX9_office (no := no) hS hB.1.2.1 hB.1.2.2.1) (zXk_j hk hj (by decide)) HI⟩
set_option maxHeartbeats 4000000 in
theorem zPr_cable {l : Launch} {D : va_G} {cy : Nat → ClassId} {z0 : Nat} {g : zSh} {σ : zIn} (hfl : l.stackTraces = false) (H : zInv g σ) (x1 x2 x3 x4 : Int32) : z_Cw l D cy z0 NL_cable hL_cable [.ref (g.2.1 1), .int x1, .int x2, .int x3, .int x4, .ref (g.2.1 59)] g σ (zPw l D cy z0 MX9_cable [.int x1, .int x2, .int x3, .int x4] g) := by
  have HI := H
  obtain ⟨ni, ne, nd, no, nc, nu, nm, mi, H⟩ := H
  obtain ⟨⟨hS, hw, hO, hK, hU, hG, hF⟩, hA, hB, hC, hE, hGw, hGq, hGF, h56⟩ := id H
  have fr := zSP_fr H.1
  have hn12 : zx_cable no nc x1 x2 x3 x4 = 0 → nc < 12 := fun q => by
    have := hB.1.2.2.2.2.2
    have := zx_cable_lt q
    omega
  refine (tL_cable x1 x2 x3 x4 hS (tX8_cable hfl x1 x2 x3 x4 hS hO hB.1.1 hK hB.1.2.2.2.1 hw fr.2.1) (fun v g' σ' h => ?_) (fun E g' σ' h => zXk_in h.1)).mono ?_
  · obtain ⟨hz, rfl, a, rfl, _⟩ := h
    exact ⟨zsa_59 (zSP_cable (a := a) H.1 (hn12 hz)).1.1, z_add_ne (kd := 1) (n := 0) (by omega), _, rfl⟩
  rintro v g' σ' (⟨r, σ1, ⟨hz, hv, a, hg, hs⟩, rfl, rfl⟩ | ⟨j, E, hj, ⟨hk, hg, hs⟩, rfl⟩)
  · have hP := (zSP_cable (a := a) H.1 (hn12 hz)).1
    rw [← hg] at hP
    have ad : ∀ i, i ≠ 120 + nc → g'.2.1 i = g.2.1 i := fun i q1 => by rw [hg]; exact z_add_ne (kd := 1) (n := 0) q1
    cases hv
    have e21 : ∀ k, z_up σ1 59 0 (nI nc) 21 k = σ 21 k := fun k => by
      rw [hs, z_up_ne (by omega), z_up_ne (by omega), z_up_ne (by omega), z_up_ne (by omega), z_up_ne (by omega), z_up_ne (by omega), z_up_ne (by omega), z_up_ne (by omega), z_zero_ne (by omega)]
    refine ⟨⟨ad 1 (by omega), ad 21 (by omega), ad 59 (by omega)⟩, hP.1, 0, by decide, rfl, zPm_ok (tX9_cable (no := no) (nc := nc) x1 x2 x3 x4 hP.1 ?_ hB.1.2.2.1 ?_ hB.1.2.2.2.2.2) hz (fun r σ2 h => ?_)⟩
    · rw [e21]; exact hB.1.2.1
    · rw [e21]; exact hB.1.2.2.2.2.1
    · obtain ⟨rfl, rfl⟩ := h
      refine ⟨by simp [z_up], ?_, by simp [z_up]⟩
      rw [hs, hg]; exact zInv_of (zst_cable H hz)
  · subst hg; subst hs
    exact ⟨zSm_rf, hS, j + 1, zXk_3 hj (by decide), rfl, zPm_bad (tX9_cable (no := no) (nc := nc) x1 x2 x3 x4 hS hB.1.2.1 hB.1.2.2.1 hB.1.2.2.2.2.1 hB.1.2.2.2.2.2) (zXk_j hk hj (by decide)) HI⟩
set_option maxHeartbeats 4000000 in
theorem zPr_conference {l : Launch} {D : va_G} {cy : Nat → ClassId} {z0 : Nat} {g : zSh} {σ : zIn} (hfl : l.stackTraces = false) (H : zInv g σ) (x1 x2 x3 x4 : Int32) : z_Cw l D cy z0 NL_conference hL_conference [.ref (g.2.1 1), .int x1, .int x2, .int x3, .int x4, .ref (g.2.1 59)] g σ (zPw l D cy z0 MX9_conference [.int x1, .int x2, .int x3, .int x4] g) := by
  have HI := H
  obtain ⟨ni, ne, nd, no, nc, nu, nm, mi, H⟩ := H
  obtain ⟨⟨hS, hw, hO, hK, hU, hG, hF⟩, hA, hB, hC, hE, hGw, hGq, hGF, h56⟩ := id H
  have fr := zSP_fr H.1
  have hn12 : zx_conf nu x1 x2 x3 x4 = 0 → nu < 12 := fun q => by
    have := hC.1.2.2.1
    have := zx_conf_lt q
    omega
  refine (tL_conference x1 x2 x3 x4 hS (tX8_conference hfl x1 x2 x3 x4 hS hU hC.1.1 hw fr.2.2.1) (fun v g' σ' h => ?_) (fun E g' σ' h => zXk_in h.1)).mono ?_
  · obtain ⟨hz, rfl, a, rfl, _⟩ := h
    exact ⟨zsa_59 (zSP_conf (a := a) H.1 (hn12 hz)).1.1, z_add_ne (kd := 7) (n := 0) (by omega), _, rfl⟩
  rintro v g' σ' (⟨r, σ1, ⟨hz, hv, a, hg, hs⟩, rfl, rfl⟩ | ⟨j, E, hj, ⟨hk, hg, hs⟩, rfl⟩)
  · have hP := (zSP_conf (a := a) H.1 (hn12 hz)).1
    rw [← hg] at hP
    have ad : ∀ i, i ≠ 140 + nu → g'.2.1 i = g.2.1 i := fun i q1 => by rw [hg]; exact z_add_ne (kd := 7) (n := 0) q1
    cases hv
    have e21 : ∀ k, z_up σ1 59 0 (nI (nu + 1)) 21 k = σ 21 k := fun k => by
      rw [hs, z_up_ne (by omega), z_up_ne (by omega), z_up_ne (by omega), z_up_ne (by omega), z_up_ne (by omega), z_up_ne (by omega), z_up_ne (by omega), z_zero_ne (by omega)]
    refine ⟨⟨ad 1 (by omega), ad 21 (by omega), ad 59 (by omega)⟩, hP.1, 0, by decide, rfl, zPm_ok (tX9_conference (nu := nu) x1 x2 x3 x4 hP.1 ?_ hC.1.2.2.1) hz (fun r σ2 h => ?_)⟩
    · rw [e21]; exact hC.1.2.1
    · obtain ⟨rfl, rfl⟩ := h
      refine ⟨by simp [z_up], ?_, by simp [z_up]⟩
      rw [hs, hg]; exact zInv_of (zst_conf H hz)
  · subst hg; subst hs
    exact ⟨zSm_rf, hS, j + 1, zXk_3 hj (by decide), rfl, zPm_bad (tX9_conference (nu := nu) x1 x2 x3 x4 hS hC.1.2.1 hC.1.2.2.1) (zXk_j hk hj (by decide)) HI⟩
set_option maxHeartbeats 4000000 in
theorem zPr_broken {l : Launch} {D : va_G} {cy : Nat → ClassId} {z0 : Nat} {g : zSh} {σ : zIn} (hfl : l.stackTraces = false) (H : zInv g σ) (x y : Int32) (hy : y = 0 ∨ y = 1) : z_Cw l D cy z0 NL_broken hL_broken [.ref (g.2.1 1), .int x, .int y, .ref (g.2.1 59)] g σ (zPw l D cy z0 MX9_broken [.int x, .int y] g) := by
  have HI := H
  obtain ⟨ni, ne, nd, no, nc, nu, nm, mi, H⟩ := H
  obtain ⟨⟨hS, hw, hO, hK, hU, hG, hF⟩, hA, hB, hC, hE, hGw, hGq, hGF, h56⟩ := id H
  have fr := zSP_fr H.1
  refine (tL_broken x y hS (tX8_broken hfl x y hS hK hB.1.2.2.2.1 hG hE.1.1 (zask_Lg hE hGq) hy) (fun v g' σ' h => ?_) (fun E g' σ' h => zXk_in h.1)).mono ?_
  · obtain ⟨_, rfl, c, _, _, _, rfl⟩ := h
    exact ⟨zsa_59 hS, rfl, _, rfl⟩
  rintro v g' σ' (⟨r, σ1, ⟨hz, hg, c, c1, c2, hs, hv⟩, rfl, rfl⟩ | ⟨j, E, hj, ⟨hk, hg, hs⟩, rfl⟩)
  · subst hg
    have er : r = nI (zcnt (fun m => zcab σ m = nI c) nm) := by cases hv; rfl
    have hc12 := hB.1.2.2.2.2.2
    have e : ∀ i, i ≠ 120 + c → i ≠ 59 → z_up σ1 59 0 r i = σ i := fun i q1 q2 => by rw [z_up_ne q2, hs, z_up_ne q1]
    refine ⟨zSm_rf, hS, 0, by decide, rfl, zPm_ok (tX9_broken (nc := nc) (nm := nm) x y hS ?_ hB.1.2.2.2.2.2 ?_ hE.1.2.2 ?_ hy) hz (fun r2 σ2 h => ?_)⟩
    · rw [e 21 (by omega) (by omega)]; exact hB.1.2.2.2.2.1
    · rw [e 21 (by omega) (by omega)]; exact hE.1.2.1
    · rw [e 44 (by omega) (by omega), e 54 (by omega) (by omega)]; exact zask_st hE hGq
    · obtain ⟨c', d1, d2, d3, rfl⟩ := h
      have ec : c' = c := (nI_eq (by omega) (by omega)).mp (d2.symm.trans c2)
      subst ec
      have em : ∀ m, zmc (z_up σ1 59 0 r) m = zmc σ m := fun m => by
        unfold zmc
        rw [e 44 (by omega) (by omega), e 54 (by omega) (by omega), e 52 (by omega) (by omega)]
      refine ⟨?_, ?_, ?_⟩
      · rw [z_up_ne (by omega), z_up_app, if_pos rfl, if_pos rfl]
      · rw [hs]; exact zInv_of (zst_broken H d1 hy)
      · rw [z_up_ne (by omega), z_up_ne (by omega), z_up_app, if_pos rfl, if_pos rfl, er, d3, zask_cnt hE hGq]
        simp only [em]
  · subst hg; subst hs
    exact ⟨zSm_rf, hS, j + 1, zXk_3 hj (by decide), rfl, zPm_bad (tX9_broken (nc := nc) (nm := nm) x y hS hB.1.2.2.2.2.1 hB.1.2.2.2.2.2 hE.1.2.1 hE.1.2.2 (zask_st hE hGq) hy) (zXk_j hk hj (by decide)) HI⟩
set_option maxHeartbeats 4000000 in
theorem zPr_forbid {l : Launch} {D : va_G} {cy : Nat → ClassId} {z0 : Nat} {g : zSh} {σ : zIn} (hfl : l.stackTraces = false) (H : zInv g σ) (x y : Int32) (hy : y = 0 ∨ y = 1) : z_Cw l D cy z0 NL_forbid hL_forbid [.ref (g.2.1 1), .int x, .int y, .ref (g.2.1 59)] g σ (zPw l D cy z0 MX9_forbid [.int x, .int y] g) := by
  have HI := H
  obtain ⟨ni, ne, nd, no, nc, nu, nm, mi, H⟩ := H
  obtain ⟨⟨hS, hw, hO, hK, hU, hG, hF⟩, hA, hB, hC, hE, hGw, hGq, hGF, h56⟩ := id H
  have fr := zSP_fr H.1
  have h01 : ∀ o, o < no → σ (100 + o) 2 = 0 ∨ σ (100 + o) 2 = 1 := fun o ho => by rw [(hB.2.1 o ho).2.1]; exact (hB.2.1 o ho).2.2.2.1
  have h25 : ∀ o, o < no → σ 25 o = 0 ∨ σ 25 o = 1 := fun o ho => (hB.2.1 o ho).2.2.2.1
  refine (tL_forbid x y hS (tX8_forbid hfl x y hS hO hB.1.1 hy h01) (fun v g' σ' h => ?_) (fun E g' σ' h => zXk_in h.1)).mono ?_
  · obtain ⟨_, rfl, o, h1, _, _, rfl⟩ := h
    exact ⟨zsa_59 hS, rfl, _, rfl, h01 o h1⟩
  rintro v g' σ' (⟨r, σ1, ⟨hz, hg, o, o1, o2, hs, hv⟩, rfl, rfl⟩ | ⟨j, E, hj, ⟨hk, hg, hs⟩, rfl⟩)
  · subst hg
    have er : r = σ (100 + o) 2 := by cases hv; rfl
    have hn8 := hB.1.2.2.1
    have e : ∀ i, i ≠ 100 + o → i ≠ 59 → z_up σ1 59 0 r i = σ i := fun i q1 q2 => by rw [z_up_ne q2, hs, z_up_ne q1]
    refine ⟨zSm_rf, hS, 0, by decide, rfl, zPm_ok (tX9_forbid (no := no) x y hS ?_ hn8 ?_ hy) hz (fun r2 σ2 h => ?_)⟩
    · rw [e 21 (by omega) (by omega)]; exact hB.1.2.1
    · rw [e 25 (by omega) (by omega)]; exact h25
    · obtain ⟨o', d1, d2, d3, rfl⟩ := h
      have ec : o' = o := (nI_eq (by omega) (by omega)).mp (d2.symm.trans o2)
      subst ec
      refine ⟨?_, ?_, ?_⟩
      · rw [z_up_ne (by omega), z_up_app, if_pos rfl, if_pos rfl]
      · rw [hs]; exact zInv_of (zst_forbid H d1 hy)
      · rw [z_up_ne (by omega), z_up_ne (by omega), z_up_app, if_pos rfl, if_pos rfl, er, d3, e 25 (by omega) (by omega)]
        exact (hB.2.1 o' o1).2.1
  · subst hg; subst hs
    exact ⟨zSm_rf, hS, j + 1, zXk_3 hj (by decide), rfl, zPm_bad (tX9_forbid (no := no) x y hS hB.1.2.1 hB.1.2.2.1 h25 hy) (zXk_j hk hj (by decide)) HI⟩
set_option maxHeartbeats 4000000 in
theorem zPr_key {l : Launch} {D : va_G} {cy : Nat → ClassId} {z0 : Nat} {g : zSh} {σ : zIn} (hfl : l.stackTraces = false) (H : zInv g σ) (x y : Int32) : z_Cw l D cy z0 NL_key hL_key [.ref (g.2.1 1), .int x, .int y, .ref (g.2.1 59)] g σ (zPw l D cy z0 MX9_key [.int x, .int y] g) := by
  have HI := H
  obtain ⟨ni, ne, nd, no, nc, nu, nm, mi, H⟩ := H
  obtain ⟨⟨hS, hw, hO, hK, hU, hG, hF⟩, hA, hB, hC, hE, hGw, hGq, hGF, h56⟩ := id H
  have fr := zSP_fr H.1
  refine (tL_key x y hS (tX8_key hfl x y hS hO hB.1.1) (fun v g' σ' h => ?_) (fun E g' σ' h => zXk_in h.1)).mono ?_
  · obtain ⟨_, rfl, o, h1, _, _, rfl⟩ := h
    exact ⟨zsa_59 hS, rfl, _, rfl⟩
  rintro v g' σ' (⟨r, σ1, ⟨hz, hg, o, o1, o2, hs, hv⟩, rfl, rfl⟩ | ⟨j, E, hj, ⟨hk, hg, hs⟩, rfl⟩)
  · subst hg
    have er : r = σ (100 + o) 1 := by cases hv; rfl
    have hn8 := hB.1.2.2.1
    have e : ∀ i, i ≠ 100 + o → i ≠ 59 → z_up σ1 59 0 r i = σ i := fun i q1 q2 => by rw [z_up_ne q2, hs, z_up_ne q1]
    have hy : y = nI (zn y) ∧ zn y ≤ 39 := by
      unfold zx_key at hz
      by_cases q1 : ¬ zin x no = true
      · rw [if_pos q1] at hz; exact absurd hz (by decide)
      · rw [if_neg q1] at hz
        by_cases q2 : y < 0 ∨ 39 < y
        · rw [if_pos q2] at hz; exact absurd hz (by decide)
        · have := z_range (x := y) (a := 0) (b := 39) (Int32.not_lt.mp (fun q => q2 (Or.inl q))) (Int32.not_lt.mp (fun q => q2 (Or.inr q))) (by decide) (by decide)
          exact ⟨this.1, this.2.2⟩
    refine ⟨zSm_rf, hS, 0, by decide, rfl, zPm_ok (tX9_key (no := no) x y hS ?_ hn8) hz (fun r2 σ2 h => ?_)⟩
    · rw [e 21 (by omega) (by omega)]; exact hB.1.2.1
    · obtain ⟨o', d1, d2, d3, rfl⟩ := h
      have ec : o' = o := (nI_eq (by omega) (by omega)).mp (d2.symm.trans o2)
      subst ec
      refine ⟨?_, ?_, ?_⟩
      · rw [z_up_ne (by omega), z_up_app, if_pos rfl, if_pos rfl]
      · rw [hs]; exact zInv_of (zst_key H d1 hy)
      · rw [z_up_ne (by omega), z_up_ne (by omega), z_up_app, if_pos rfl, if_pos rfl, er, d3, e 26 (by omega) (by omega)]
        exact (hB.2.1 o' o1).1
  · subst hg; subst hs
    exact ⟨zSm_rf, hS, j + 1, zXk_3 hj (by decide), rfl, zPm_bad (tX9_key (no := no) x y hS hB.1.2.1 hB.1.2.2.1) (zXk_j hk hj (by decide)) HI⟩
set_option maxHeartbeats 4000000 in
theorem zPr_draft {l : Launch} {D : va_G} {cy : Nat → ClassId} {z0 : Nat} {g : zSh} {σ : zIn} (hfl : l.stackTraces = false) (H : zInv g σ) (x : Int32) : z_Cw l D cy z0 NL_draft hL_draft [.ref (g.2.1 1), .int x, .ref (g.2.1 59)] g σ (zPw l D cy z0 MX9_draft [.int x] g) := by
  have HI := H
  obtain ⟨ni, ne, nd, no, nc, nu, nm, mi, H⟩ := H
  obtain ⟨⟨hS, hw, hO, hK, hU, hG, hF⟩, hA, hB, hC, hE, hGw, hGq, hGF, h56⟩ := id H
  have fr := zSP_fr H.1
  refine (tL_draft x hS (tX8_draft hfl x hS hA.1.1 hA.1.2.2.1 hA.2.2.1 hA.2.2.2.2.1) (fun v g' σ' h => ?_) (fun E g' σ' h => zXk_in h.1)).mono ?_
  · obtain ⟨_, rfl, rfl, _⟩ := h
    exact ⟨zsa_59 hS, rfl, _, rfl⟩
  rintro v g' σ' (⟨r, σ1, ⟨hz, hv, hg, rfl⟩, rfl, rfl⟩ | ⟨j, E, hj, ⟨hk, hg, hs⟩, rfl⟩)
  · subst hg
    cases hv
    refine ⟨zSm_rf, hS, 0, by decide, rfl, zPm_ok (tX9_draft (ni := ni) (nd := nd) x hS ?_ hA.1.2.2.1 ?_ hA.2.2.2.2.1) hz (fun r σ2 h => ?_)⟩
    · rw [z_up_ne (by decide), z_up_ne (by decide), z_up_ne (by decide)]; exact hA.1.2.1
    · rw [z_up_ne (by decide), z_up_ne (by decide), z_up_ne (by decide)]; exact hA.2.2.2.1
    · obtain ⟨rfl, rfl⟩ := h
      exact ⟨by simp [z_up], zInv_of (zst_draft H hz), by simp [z_up]⟩
  · subst hg; subst hs
    exact ⟨zSm_rf, hS, j + 1, zXk_3 hj (by decide), rfl, zPm_bad (tX9_draft (ni := ni) (nd := nd) x hS hA.1.2.1 hA.1.2.2.1 hA.2.2.2.1 hA.2.2.2.2.1) (zXk_j hk hj (by decide)) HI⟩
set_option maxHeartbeats 4000000 in
theorem zPr_rest {l : Launch} {D : va_G} {cy : Nat → ClassId} {z0 : Nat} {g : zSh} {σ : zIn} (hfl : l.stackTraces = false) (H : zInv g σ) (x : Int32) : z_Cw l D cy z0 NL_rest hL_rest [.ref (g.2.1 1), .int x, .ref (g.2.1 59)] g σ (zPw l D cy z0 MX9_rest [.int x] g) := by
  have HI := H
  obtain ⟨ni, ne, nd, no, nc, nu, nm, mi, H⟩ := H
  obtain ⟨⟨hS, hw, hO, hK, hU, hG, hF⟩, hA, hB, hC, hE, hGw, hGq, hGF, h56⟩ := id H
  have fr := zSP_fr H.1
  refine (tL_rest x hS (tX8_rest hfl x hS hC.1.2.2.2.1 hC.1.2.2.2.2.2.1) (fun v g' σ' h => ?_) (fun E g' σ' h => zXk_in h.1)).mono ?_
  · obtain ⟨_, rfl, rfl, _⟩ := h
    exact ⟨zsa_59 hS, rfl, _, rfl⟩
  rintro v g' σ' (⟨r, σ1, ⟨hz, hg, hv, hle, rfl⟩, rfl, rfl⟩ | ⟨j, E, hj, ⟨hk, hg, hs⟩, rfl⟩)
  · subst hg
    cases hv
    refine ⟨zSm_rf, hS, 0, by decide, rfl, zPm_ok (tX9_rest (mi := mi) x hS ?_ hC.1.2.2.2.2.2.1) hz (fun r σ2 h => ?_)⟩
    · rw [z_up_ne (by decide), z_up_ne (by decide)]; exact hC.1.2.2.2.2.1
    · obtain ⟨rfl, h2, rfl⟩ := h
      exact ⟨by simp [z_up], zInv_of (zst_rest H hle), by simp [z_up]⟩
  · subst hg; subst hs
    exact ⟨zSm_rf, hS, j + 1, zXk_3 hj (by decide), rfl, zPm_bad (tX9_rest (mi := mi) x hS hC.1.2.2.2.2.1 hC.1.2.2.2.2.2.1) (zXk_j hk hj (by decide)) HI⟩
