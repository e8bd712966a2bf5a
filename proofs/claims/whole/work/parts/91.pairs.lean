/-! a call of both sides: the wrapper of the class's method, then the reference's: both tell the same, the relation stands -/
def zInv (g : zSh) (σ : zIn) : Prop := ∃ ni ne nd no nc nu nm mi, zRel g σ ni ne nd no nc nu nm mi
theorem zInv_of {g : zSh} {σ : zIn} {ni ne nd no nc nu nm mi : Nat} (h : zRel g σ ni ne nd no nc nu nm mi) : zInv g σ := ⟨ni, ne, nd, no, nc, nu, nm, mi, h⟩
def zSm (g g1 : zSh) : Prop := g1.2.1 1 = g.2.1 1 ∧ g1.2.1 21 = g.2.1 21 ∧ g1.2.1 59 = g.2.1 59
theorem zSm_rf {g : zSh} : zSm g g := ⟨rfl, rfl, rfl⟩
def zPm (g1 : zSh) (k : Nat) : Option Value → zSh → zIn → Prop := fun w g2 σ2 => g2 = g1 ∧ ∃ r, w = some (.int r) ∧ σ2 21 48 = nI k ∧ zInv g2 σ2 ∧ (k = 0 → σ2 59 0 = r)
def zPw (l : Launch) (D : va_G) (cy : Nat → ClassId) (z0 : Nat) (MM : zM) (As : List Value) (g : zSh) : Option Value → zSh → zIn → Prop := fun v g1 σ1 => zSm g g1 ∧ zS g1 ∧ ∃ k, k ≤ 3 ∧ v = some (.int (nI k)) ∧ z_Ct l D cy z0 MM (.ref (g1.2.1 21) :: As) g1 σ1 (zPm g1 k)
theorem zXk_in {nms : List String} {k : Nat} {E : String} (h : zXk nms k E) : E ∈ nms := by
  obtain ⟨j, _, h2⟩ := h
  exact List.mem_of_getElem? h2
theorem zXk_j {nms : List String} {k j : Nat} {E : String} (h : zXk nms k E) (h2 : nms[j]? = some E) (hn : nms.Nodup) : k = j + 1 := by
  obtain ⟨j', h1, h3⟩ := h
  have hl : j' < nms.length := (List.getElem?_eq_some_iff.mp h3).1
  have : j' = j := (List.getElem?_inj hl hn).mp (h3.trans h2.symm)
  omega
theorem zXk_3 {nms : List String} {j : Nat} {E : String} (h2 : nms[j]? = some E) (hl : nms.length ≤ 3) : j + 1 ≤ 3 := by
  have := (List.getElem?_eq_some_iff.mp h2).1
  omega
theorem zPm_ok {l : Launch} {D : va_G} {cy : Nat → ClassId} {z0 : Nat} {MM : zM} {As : List Value} {g : zSh} {σ : zIn} {k : Nat} {P : Int32 → zIn → Prop} (hM : z_Ct l D cy z0 MM As g σ (fun v g' σ' => g' = g ∧ ∃ r, v = some (.int r) ∧ zMP k σ σ' (P r σ'))) (hk : k = 0) (h : ∀ r σ2, P r σ2 → σ2 21 48 = 0 ∧ zInv g σ2 ∧ σ2 59 0 = r) : z_Ct l D cy z0 MM As g σ (zPm g 0) :=
  hM.mono (fun v g' σ' q => by
    obtain ⟨rfl, r, rfl, q | ⟨_, q⟩⟩ := q
    · exact absurd hk q.1
    · obtain ⟨a, b, c⟩ := h r σ' q
      exact ⟨rfl, r, rfl, a, b, fun _ => c⟩)
theorem zPm_bad {l : Launch} {D : va_G} {cy : Nat → ClassId} {z0 : Nat} {MM : zM} {As : List Value} {g : zSh} {σ : zIn} {k j : Nat} {P : Int32 → zIn → Prop} (hM : z_Ct l D cy z0 MM As g σ (fun v g' σ' => g' = g ∧ ∃ r, v = some (.int r) ∧ zMP k σ σ' (P r σ'))) (hk : k = j + 1) (H : zInv g σ) : z_Ct l D cy z0 MM As g σ (zPm g (j + 1)) :=
  hM.mono (fun v g' σ' q => by
    subst hk
    obtain ⟨rfl, r, rfl, q | ⟨q, _⟩⟩ := q
    · obtain ⟨ni, ne, nd, no, nc, nu, nm, mi, H⟩ := H
      refine ⟨rfl, r, rfl, ?_, ⟨ni, ne, nd, no, nc, nu, nm, mi, ?_⟩, fun q => by omega⟩
      · rw [q.2, z_up_app, if_pos rfl, if_pos rfl]
      · rw [q.2]; exact zRel_e (zFr_48 zFr_rf) H
    · omega)
set_option maxHeartbeats 4000000 in
theorem zPr_idea {l : Launch} {D : va_G} {cy : Nat → ClassId} {z0 : Nat} {g : zSh} {σ : zIn} (hfl : l.stackTraces = false) (H : zInv g σ) (x : Int32) : z_Cw l D cy z0 NL_idea hL_idea [.ref (g.2.1 1), .int x, .ref (g.2.1 59)] g σ (zPw l D cy z0 MX9_idea [.int x] g) := by
  have HI := H
  obtain ⟨ni, ne, nd, no, nc, nu, nm, mi, H⟩ := H
  obtain ⟨⟨hS, hw, hO, hK, hU, hG, hF⟩, hA, hB, hC, hE, hGw, hGq, hGF, h56⟩ := id H
  refine (tL_idea x hS (tX8_idea hfl x hS hA.1.1 hA.1.2.2.1) (fun v g' σ' h => ?_) (fun E g' σ' h => zXk_in h.1)).mono ?_
  · obtain ⟨_, rfl, rfl, _⟩ := h
    exact ⟨zsa_59 hS, rfl, _, rfl⟩
  rintro v g' σ' (⟨r, σ1, ⟨hz, hv, hg, rfl⟩, rfl, rfl⟩ | ⟨j, E, hj, ⟨hk, hg, hs⟩, rfl⟩)
  · subst hg
    cases hv
    refine ⟨zSm_rf, hS, 0, by decide, rfl, zPm_ok (tX9_idea (ni := ni) x hS ?_ hA.1.2.2.1) hz (fun r σ2 h => ?_)⟩
    · rw [z_up_ne (by decide), z_up_ne (by decide), z_up_ne (by decide)]; exact hA.1.2.1
    · obtain ⟨rfl, rfl⟩ := h
      exact ⟨by simp [z_up], zInv_of (zst_idea H hz), by simp [z_up]⟩
  · subst hg; subst hs
    exact ⟨zSm_rf, hS, j + 1, zXk_3 hj (by decide), rfl, zPm_bad (tX9_idea (ni := ni) x hS hA.1.2.1 hA.1.2.2.1) (zXk_j hk hj (by decide)) HI⟩
set_option maxHeartbeats 4000000 in
theorem zPr_entry {l : Launch} {D : va_G} {cy : Nat → ClassId} {z0 : Nat} {g : zSh} {σ : zIn} (hfl : l.stackTraces = false) (H : zInv g σ) (w a b c d : Int32) : z_Cw l D cy z0 NL_entry hL_entry [.ref (g.2.1 1), .int w, .int a, .int b, .int c, .int d, .ref (g.2.1 59)] g σ (zPw l D cy z0 MX9_entry [.int w, .int a, .int b, .int c, .int d] g) := by
  have HI := H
  obtain ⟨ni, ne, nd, no, nc, nu, nm, mi, H⟩ := H
  obtain ⟨⟨hS, hw, hO, hK, hU, hG, hF⟩, hA, hB, hC, hE, hGw, hGq, hGF, h56⟩ := id H
  refine (tL_entry w a b c d hS (tX8_entry hfl w a b c d hS hA.1.1 hA.1.2.2.1 hA.2.1.1 hA.2.1.2.2.1 hA.2.1.2.2.2.2.2.1) (fun v g' σ' h => ?_) (fun E g' σ' h => zXk_in h.1)).mono ?_
  · obtain ⟨_, rfl, rfl, _⟩ := h
    exact ⟨zsa_59 hS, rfl, _, rfl⟩
  rintro v g' σ' (⟨r, σ1, ⟨hz, hv, hg, hs⟩, rfl, rfl⟩ | ⟨j, E, hj, ⟨hk, hg, hs⟩, rfl⟩)
  · subst hg
    cases hv
    have e : ∀ i, i ≠ 2 → i ≠ 4 → i ≠ 5 → i ≠ 59 → z_up σ1 59 0 (nI ne) i = σ i := fun i q1 q2 q3 q4 => by
      rw [z_up_ne q4, hs, z_up_ne q1, z_up_ne q3, z_up_ne q3, z_up_ne q3, z_up_ne q3, z_up_ne q2]
    refine ⟨zSm_rf, hS, 0, by decide, rfl, zPm_ok (tX9_entry (ni := ni) (ne := ne) (ρ := σ) w a b c d hS ?_ hA.1.2.2.1 ?_ hA.2.1.2.2.1 ?_ ?_ ?_) hz (fun r σ2 h => ?_)⟩
    · rw [e 21 (by decide) (by decide) (by decide) (by decide)]; exact hA.1.2.1
    · rw [e 21 (by decide) (by decide) (by decide) (by decide)]; exact hA.2.1.2.1
    · rw [e 23 (by decide) (by decide) (by decide) (by decide)]; exact hA.2.1.2.2.2.1
    · rw [e 24 (by decide) (by decide) (by decide) (by decide)]; exact hA.2.1.2.2.2.2.1
    · rw [e 23 (by decide) (by decide) (by decide) (by decide), hA.2.1.2.2.2.1]; exact hA.2.1.2.2.2.2.2.1
    · obtain ⟨rfl, rfl⟩ := h
      refine ⟨by simp [z_up], ?_, by simp [z_up]⟩
      rw [hs]; exact zInv_of (zst_entry H hz)
  · subst hg; subst hs
    exact ⟨zSm_rf, hS, j + 1, zXk_3 hj (by decide), rfl, zPm_bad (tX9_entry (ni := ni) (ne := ne) (ρ := σ') w a b c d hS hA.1.2.1 hA.1.2.2.1 hA.2.1.2.1 hA.2.1.2.2.1 hA.2.1.2.2.2.1 hA.2.1.2.2.2.2.1 (by rw [hA.2.1.2.2.2.1]; exact hA.2.1.2.2.2.2.2.1)) (zXk_j hk hj (by decide)) HI⟩
set_option maxHeartbeats 4000000 in
theorem zPr_candidates {l : Launch} {D : va_G} {cy : Nat → ClassId} {z0 : Nat} {g : zSh} {σ : zIn} (hfl : l.stackTraces = false) (H : zInv g σ) (w : Int32) : z_Cw l D cy z0 NL_candidates hL_candidates [.ref (g.2.1 1), .int w, .ref (g.2.1 59)] g σ (zPw l D cy z0 MX9_candidates [.int w] g) := by
  have HI := H
  obtain ⟨ni, ne, nd, no, nc, nu, nm, mi, H⟩ := H
  obtain ⟨⟨hS, hw, hO, hK, hU, hG, hF⟩, hA, hB, hC, hE, hGw, hGq, hGF, h56⟩ := id H
  refine (tL_candidates w hS (tX8_candidates hfl w hS hA.2.1.1 hA.2.1.2.2.1 hA.2.1.2.2.2.2.2.1) (fun v g' σ' h => ?_) (fun E g' σ' h => zXk_in h.1)).mono ?_
  · obtain ⟨_, rfl, _, rfl⟩ := h
    exact ⟨zsa_59 hS, rfl, _, rfl⟩
  rintro v g' σ' (⟨r, σ1, ⟨hz, hg, hf, hv⟩, rfl, rfl⟩ | ⟨j, E, hj, ⟨hk, hg, hs⟩, rfl⟩)
  · subst hg
    have er : r = nI (zcnt (zP (σ 4) ne w) ne) := by cases hv; rfl
    have e : ∀ i, i ≠ 2 → i ≠ 6 → i ≠ 59 → z_up σ1 59 0 r i = σ i := fun i q1 q2 q3 => by rw [z_up_ne q3, hf.1 i q2 q1]
    refine ⟨zSm_rf, hS, 0, by decide, rfl, zPm_ok (tX9_candidates (ne := ne) w hS ?_ hA.2.1.2.2.1 ?_) hz (fun r2 σ2 h => ?_)⟩
    · rw [e 21 (by decide) (by decide) (by decide)]; exact hA.2.1.2.1
    · rw [e 23 (by decide) (by decide) (by decide), hA.2.1.2.2.2.1]; exact hA.2.1.2.2.2.2.2.1
    · obtain ⟨h1, rfl⟩ := h
      rw [e 23 (by decide) (by decide) (by decide), hA.2.1.2.2.2.1] at h1
      refine ⟨by simp [z_up], zInv_of (zRel_e (zFr_48 (zFr_59 (zFr_fo hf))) H), ?_⟩
      rw [z_up_ne (by decide), z_up_app, if_pos rfl, if_pos rfl, er, h1]
  · subst hg; subst hs
    exact ⟨zSm_rf, hS, j + 1, zXk_3 hj (by decide), rfl, zPm_bad (tX9_candidates (ne := ne) w hS hA.2.1.2.1 hA.2.1.2.2.1 (by rw [hA.2.1.2.2.2.1]; exact hA.2.1.2.2.2.2.2.1)) (zXk_j hk hj (by decide)) HI⟩
set_option maxHeartbeats 4000000 in
theorem zPr_candidate {l : Launch} {D : va_G} {cy : Nat → ClassId} {z0 : Nat} {g : zSh} {σ : zIn} (hfl : l.stackTraces = false) (H : zInv g σ) (w x : Int32) : z_Cw l D cy z0 NL_candidate hL_candidate [.ref (g.2.1 1), .int w, .int x, .ref (g.2.1 59)] g σ (zPw l D cy z0 MX9_candidate [.int w, .int x] g) := by
  have HI := H
  obtain ⟨ni, ne, nd, no, nc, nu, nm, mi, H⟩ := H
  obtain ⟨⟨hS, hw, hO, hK, hU, hG, hF⟩, hA, hB, hC, hE, hGw, hGq, hGF, h56⟩ := id H
  refine (tL_candidate w x hS (tX8_candidate hfl w x hS hA.2.1.1 hA.2.1.2.2.1 hA.2.1.2.2.2.2.2.1) (fun v g' σ' h => ?_) (fun E g' σ' h => zXk_in h.1)).mono ?_
  · obtain ⟨_, rfl, _, r, rfl, _⟩ := h
    exact ⟨zsa_59 hS, rfl, _, rfl⟩
  rintro v g' σ' (⟨r, σ1, ⟨hz, hg, hf, r', hv, hr⟩, rfl, rfl⟩ | ⟨j, E, hj, ⟨hk, hg, hs⟩, rfl⟩)
  · subst hg
    cases hv
    have e : ∀ i, i ≠ 2 → i ≠ 6 → i ≠ 59 → z_up σ1 59 0 r i = σ i := fun i q1 q2 q3 => by rw [z_up_ne q3, hf.1 i q2 q1]
    refine ⟨zSm_rf, hS, 0, by decide, rfl, zPm_ok (tX9_candidate (ne := ne) w x hS ?_ hA.2.1.2.2.1 ?_) hz (fun r2 σ2 h => ?_)⟩
    · rw [e 21 (by decide) (by decide) (by decide)]; exact hA.2.1.2.1
    · rw [e 23 (by decide) (by decide) (by decide), hA.2.1.2.2.2.1]; exact hA.2.1.2.2.2.2.2.1
    · obtain ⟨⟨j, j1, j2, j3⟩, rfl⟩ := h
      rw [e 23 (by decide) (by decide) (by decide), hA.2.1.2.2.2.1] at j3
      refine ⟨by simp [z_up], zInv_of (zRel_e (zFr_48 (zFr_59 (zFr_fo hf))) H), ?_⟩
      rw [z_up_ne (by decide), z_up_app, if_pos rfl, if_pos rfl]
      exact zca_same hA.2.1.2.2.1 j1 j2 hr j3
  · subst hg; subst hs
    exact ⟨zSm_rf, hS, j + 1, zXk_3 hj (by decide), rfl, zPm_bad (tX9_candidate (ne := ne) w x hS hA.2.1.2.1 hA.2.1.2.2.1 (by rw [hA.2.1.2.2.2.1]; exact hA.2.1.2.2.2.2.2.1)) (zXk_j hk hj (by decide)) HI⟩
