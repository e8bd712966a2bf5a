/-! calls of both sides: rules, what would be paid -/
theorem zpre_dy {σ : zIn} {no nu mi : Nat} (HC : zGC σ no nu mi) : ∀ k, k < nu → σ 34 (k + 1) = nI (zf σ 34 (k + 1)) ∧ zf σ 34 (k + 1) ≤ 1000 := fun k hk => (HC.2.1 k hk).2.2.2.2.2
theorem zpre_Ru {σ : zIn} {no nu mi : Nat} (HC : zGC σ no nu mi) : zRu σ nu (fun k => zf σ 34 (k + 1)) := by
  intro k hk
  obtain ⟨a, b, _, _, _, c, d⟩ := HC.2.1 k hk
  exact ⟨a, b.trans c, d⟩
/-- the numbers of the rules in row j: those of the conference j0 -/
theorem zpre_rw {σ : zIn} {no nu mi j0 : Nat} (HC : zGC σ no nu mi) (h : j0 ≤ nu) : σ (if j0 = 0 then 18 else 139 + j0) 2 = σ 35 j0 ∧ σ (if j0 = 0 then 18 else 139 + j0) 3 = σ 36 j0 ∧ σ (if j0 = 0 then 18 else 139 + j0) 4 = σ 37 j0 := by
  by_cases e : j0 = 0
  · subst e
    rw [if_pos rfl]; exact HC.2.2.1.2
  · obtain ⟨k, rfl⟩ : ∃ k, j0 = k + 1 := ⟨j0 - 1, by omega⟩
    rw [if_neg e, show 139 + (k + 1) = 140 + k by omega]
    obtain ⟨a, b, c, d, f, _⟩ := HC.2.1 k (by omega)
    exact ⟨c, d, f⟩
theorem zpre_Rq {σ : zIn} {no nu mi : Nat} (HC : zGC σ no nu mi) : ∀ j, j = 18 ∨ (∃ k, k < nu ∧ j = 140 + k) → ∃ pl cd vw, zRl σ j pl cd vw := by
  have key : ∀ j0, j0 ≤ nu → ∃ pl cd vw, zRl σ (if j0 = 0 then 18 else 139 + j0) pl cd vw := by
    intro j0 h
    obtain ⟨a, b, c⟩ := zpre_rw HC h
    obtain ⟨⟨d1, d2, d3⟩, ⟨f1, f2, f3⟩, g1, g2⟩ := HC.2.2.2.1 j0 h
    exact ⟨_, _, _, a.trans d1, d2, d3, b.trans f1, f2, f3, c.trans g1, g2⟩
  rintro j (rfl | ⟨k, hk, rfl⟩)
  · have := key 0 (Nat.zero_le _)
    rw [if_pos rfl] at this; exact this
  · have := key (k + 1) (by omega)
    rw [if_neg (by omega), show 139 + (k + 1) = 140 + k by omega] at this; exact this
theorem zpre_Dr {σ : zIn} {ni ne nd : Nat} (HA : zGA σ ni ne nd) : zDr σ ni (zf σ 3) nd (zf σ 12) := ⟨HA.1.1, HA.1.2.2.1, HA.1.2.2.2.2, HA.2.2.1, HA.2.2.2.2.1, HA.2.2.2.2.2.2⟩
theorem zrr_ex {P : Nat → Prop} : ∀ n, ∃ j, zrr P n j
  | 0 => ⟨0, Or.inl ⟨rfl, fun k hk => absurd hk (Nat.not_lt_zero _)⟩⟩
  | n + 1 => by
    by_cases h : P n
    · exact ⟨n + 1, Or.inr ⟨n, by omega, rfl, h, fun q h1 h2 => by omega⟩⟩
    · obtain ⟨j, hj⟩ := zrr_ex (P := P) n
      refine ⟨j, ?_⟩
      rcases hj with ⟨h1, h2⟩ | ⟨k, h1, h2, h3, h4⟩
      · refine Or.inl ⟨h1, fun k hk q => ?_⟩
        by_cases e : k = n
        · subst e; exact h q
        · exact h2 k (by omega) q
      · refine Or.inr ⟨k, by omega, h2, h3, fun q q1 q2 q3 => ?_⟩
        by_cases e : q = n
        · subst e; exact h q3
        · exact h4 q (by omega) q2 q3
theorem zpre_Pk {σ : zIn} {ni ne nd no nc nu mi o : Nat} (HA : zGA σ ni ne nd) (HB : zGB σ no nc) (HC : zGC σ no nu mi) (ho : o < no) : ∃ K j0 pl cd vw, zPk σ o K ni nd ne nu mi j0 pl cd vw (zf σ 3) (zf σ 12) (fun k => zf σ 34 (k + 1)) := by
  obtain ⟨j0, hj0⟩ := zrr_ex (P := fun k => zf σ 34 (k + 1) ≤ mi / 1440 ∧ zbt (σ 27 o) (k + 1) = false) nu
  have hle := zrr_le hj0
  obtain ⟨⟨a1, a2, a3, a4, a5⟩, ⟨b1, b2, b3, b4, b5, b6, b7⟩, c1, c2, c3, c4, c5⟩ := HA
  obtain ⟨⟨d1, d2, d3⟩, ⟨f1, f2, f3⟩, g1, g2⟩ := HC.2.2.2.1 j0 hle
  obtain ⟨k1, k2, k3, k4, k5, k6⟩ := HB.2.1 o ho
  have hn8 := HB.1.2.2.1
  refine ⟨zf σ 26 o, j0, _, _, _, ⟨b2, b3, by rw [b4]; exact b6, fun k hk j hj => by rw [b5]; exact b7.1 k hk j hj⟩, ⟨by omega, k5, k6⟩, ⟨c2, c3, by rw [c4]; exact c5⟩, ⟨a3, by rw [a4]; exact a5⟩, ⟨HC.1.2.1, HC.1.2.2.1, HC.1.2.2.2.2.1, HC.1.2.2.2.2.2.1, zpre_dy HC⟩, hj0, d1, d2, d3, f1, f2, f3, g1, g2⟩
theorem zrat_row {σ τ : zIn} {dy : Nat → Nat} {day nu o j : Nat} (e : τ (110 + o) = σ (110 + o)) (h : zrat σ dy day nu o j) : zrat τ dy day nu o j := by
  unfold zrat zrc at *
  rw [e]; exact h
/-- both sides reckon with the same rules -/
theorem zrl_same {σ τ : zIn} {no nu mi o j K ni nd ne j0 pl cd vw pl2 cd2 vw2 : Nat} {lt dd : Nat → Nat} (HC : zGC σ no nu mi) (ho : o < no) (h : zrat σ (fun k => zf σ 34 (k + 1)) (mi / 1440) nu o j) (hr : zRl σ j pl cd vw)
    (e : ∀ i, 22 ≤ i → i ≤ 38 → i ≠ 28 → τ i = σ i) (hP : zPk τ o K ni nd ne nu mi j0 pl2 cd2 vw2 lt dd (fun k => zf σ 34 (k + 1))) : zf σ 26 o = K ∧ pl = pl2 ∧ cd = cd2 ∧ vw = vw2 := by
  obtain ⟨_, ⟨p1, p2, p3⟩, _, _, _, q1, q2, q3, q4, q5, q6, q7, q8, q9⟩ := hP
  rw [e 27 (by omega) (by omega) (by omega)] at q1
  rw [e 26 (by omega) (by omega) (by omega)] at p2
  rw [e 35 (by omega) (by omega) (by omega)] at q2
  rw [e 36 (by omega) (by omega) (by omega)] at q5
  rw [e 37 (by omega) (by omega) (by omega)] at q8
  obtain ⟨s1, rfl⟩ := zrat_same HC ho h q1
  obtain ⟨a, b, c⟩ := zpre_rw HC s1
  obtain ⟨r1, r2, r3, r4, r5, r6, r7, r8⟩ := hr
  have hn := HC.1.2.2.1
  exact ⟨by unfold zf; rw [p2]; exact zn_nI (by omega), (nI_eq (by omega) (by omega)).mp (r1.symm.trans (a.trans q2)), (nI_eq (by omega) (by omega)).mp (r4.symm.trans (b.trans q5)), (nI_eq (by omega) (by omega)).mp (r7.symm.trans (c.trans q8))⟩
set_option maxHeartbeats 4000000 in
theorem zPr_reserve {l : Launch} {D : va_G} {cy : Nat → ClassId} {z0 : Nat} {g : zSh} {σ : zIn} (hfl : l.stackTraces = false) (H : zInv g σ) (x y : Int32) : z_Cw l D cy z0 NL_reserve hL_reserve [.ref (g.2.1 1), .int x, .int y, .ref (g.2.1 59)] g σ (zPw l D cy z0 MX9_reserve [.int x, .int y] g) := by
  have HI := H
  obtain ⟨ni, ne, nd, no, nc, nu, nm, mi, H⟩ := H
  obtain ⟨⟨hS, hw, hO, hK, hU, hG, hF⟩, hA, hB, hC, hE, hGw, hGq, hGF, h56⟩ := id H
  have fr := zSP_fr H.1
  refine (tL_reserve x y hS (tX8_reserve hfl x y hS hO hB.1.1 hU hC.1.1 hC.1.2.2.2.1 hC.1.2.2.2.2.2.1 (zpre_Ru hC)) (fun v g' σ' h => ?_) (fun E g' σ' h => zXk_in h.1)).mono ?_
  · obtain ⟨_, rfl, o, k, j, _, _, _, _, _, _, _, rfl⟩ := h
    exact ⟨zsa_59 hS, rfl, _, rfl⟩
  have hn8 := hB.1.2.2.1
  have hn12 := hC.1.2.2.1
  rintro v g' σ' (⟨r, σ1, ⟨hz, hg, o, k, j, o1, o2, k1, k2, k3, hs, hr, hv⟩, rfl, rfl⟩ | ⟨j, E, hj, ⟨hk, hg, hs⟩, rfl⟩)
  · subst hg
    have er : r = σ1 j 0 := by cases hv; rfl
    have e : ∀ i, i ≠ 110 + o → i ≠ 59 → z_up σ1 59 0 r i = σ i := fun i q1 q2 => by rw [z_up_ne q2, hs, z_up_ne q1]
    refine ⟨zSm_rf, hS, 0, by decide, rfl, zPm_ok (tX9_reserve (no := no) (nu := nu) (mi := mi) (dy := fun k => zf σ 34 (k + 1)) x y hS ?_ hn8 ?_ hn12 ?_ hC.1.2.2.2.2.2.1 ?_) hz (fun r2 σ2 h => ?_)⟩
    · rw [e 21 (by omega) (by omega)]; exact hB.1.2.1
    · rw [e 21 (by omega) (by omega)]; exact hC.1.2.1
    · rw [e 21 (by omega) (by omega)]; exact hC.1.2.2.2.2.1
    · rw [e 34 (by omega) (by omega)]; exact zpre_dy hC
    · obtain ⟨o', k', j', d1, d2, d3, d4, d5, d6, d7, rfl⟩ := h
      have ec : o' = o := (nI_eq (by omega) (by omega)).mp (d2.symm.trans o2)
      subst ec
      have ek : k' = k := (nI_eq (by omega) (by omega)).mp (d5.symm.trans k3)
      subst ek
      rw [e 27 (by omega) (by omega)] at d7 ⊢
      have HR := zst_reserve (u := r) H d1 d3 d4
      rw [← hs] at HR
      refine ⟨?_, zInv_of HR, ?_⟩
      · rw [z_up_ne (by omega), z_up_app, if_pos rfl, if_pos rfl]
      · rw [z_up_ne (by omega), z_up_ne (by omega), z_up_app, if_pos rfl, if_pos rfl, er, d6]
        have hr2 : zrat (z_up (z_up (z_up σ1 59 0 r) 21 48 0) 27 o' (σ 27 o' ||| ((1 : Int32) <<< (nI k' &&& 31)))) (fun k => zf σ 34 (k + 1)) (mi / 1440) nu o' j := zrat_row (by rw [z_up_ne (by omega), z_up_ne (by omega), z_up_ne (by omega)]) hr
        obtain ⟨s1, s2⟩ := zrat_same HR.2.2.2.1 d1 hr2 (by rw [z_up_app, if_pos rfl, if_pos rfl]; exact d7)
        have ej : σ1 j 0 = σ j 0 := by
          rw [hs, z_up_ne]
          rw [s2]; split <;> omega
        rw [ej, s2]
        by_cases q : j' = 0
        · subst q; rw [if_pos rfl]; exact hC.2.2.1.1
        · rw [if_neg q, show 139 + j' = 140 + (j' - 1) by omega, (hC.2.1 (j' - 1) (by omega)).1, show j' - 1 + 1 = j' by omega]
  · subst hg; subst hs
    exact ⟨zSm_rf, hS, j + 1, zXk_3 hj (by decide), rfl, zPm_bad (tX9_reserve (no := no) (nu := nu) (mi := mi) (dy := fun k => zf σ' 34 (k + 1)) x y hS hB.1.2.1 hn8 hC.1.2.1 hn12 hC.1.2.2.2.2.1 hC.1.2.2.2.2.2.1 (zpre_dy hC)) (zXk_j hk hj (by decide)) HI⟩
set_option maxHeartbeats 4000000 in
theorem zPr_words {l : Launch} {D : va_G} {cy : Nat → ClassId} {z0 : Nat} {g : zSh} {σ : zIn} (hfl : l.stackTraces = false) (H : zInv g σ) (x : Int32) (b : Bool) : z_Cw l D cy z0 NL_words hL_words [.ref (g.2.1 1), .int x, .int (zb b), .ref (g.2.1 59)] g σ (zPw l D cy z0 MX9_words [.int x, .int (zb b)] g) := by
  have HI := H
  obtain ⟨ni, ne, nd, no, nc, nu, nm, mi, H⟩ := H
  obtain ⟨⟨hS, hw, hO, hK, hU, hG, hF⟩, hA, hB, hC, hE, hGw, hGq, hGF, h56⟩ := id H
  refine (tL_words x (zb b) hS (tX8_words hfl b x hS hO hB.1.1 hU hC.1.1 hC.1.2.2.2.1 hC.1.2.2.2.2.2.1 (zpre_Ru hC) (zpre_Dr hA) hA.2.1.1 hA.2.1.2.2.1 hA.2.1.2.2.2.2.2.1 (zPU_of hA) (zpre_ky hB) (zpre_Rq hC)) (fun v g' σ' h => ?_) (fun E g' σ' h => zXk_in h.1)).mono ?_
  · obtain ⟨_, rfl, o, j, pl, cd, vw, cdw, paid, many, L, _, _, _, _, _, rfl⟩ := h
    exact ⟨zsa_59 hS, rfl, _, rfl⟩
  have hn8 := hB.1.2.2.1
  have hPk : ∀ o, o < no → x = nI o → ∃ K j0 pl cd vw, zPk σ o K ni nd ne nu mi j0 pl cd vw (zf σ 3) (zf σ 12) (fun k => zf σ 34 (k + 1)) := fun o ho _ => zpre_Pk hA hB hC ho
  rintro v g' σ' (⟨r, σ1, ⟨hz, hg, o, j, pl, cd, vw, cdw, paid, many, L, o1, o2, hr, hl, hFl, hv⟩, rfl, rfl⟩ | ⟨j, E, hj, ⟨hk, hg, hs⟩, rfl⟩)
  · subst hg
    have er : r = nI paid := by cases hv; rfl
    have e : ∀ i, i ≠ 7 → i ≠ 8 → i ≠ 9 → i ≠ 10 → i ≠ 59 → z_up σ1 59 0 r i = σ i := fun i q1 q2 q3 q4 q5 => by rw [z_up_ne q5, hFl.1 i q1 q2 q3 q4]
    have eP : ∀ i, 22 ≤ i → i ≤ 38 → i ≠ 28 → z_up σ1 59 0 r i = σ i := fun i q1 q2 _ => e i (by omega) (by omega) (by omega) (by omega) (by omega)
    refine ⟨zSm_rf, hS, 0, by decide, rfl, zPm_ok (tX9_words (K := 0) (j0 := 0) (pl := 0) (cd := 0) (vw := 0) (no := no) (ni := ni) (nd := nd) (ne := ne) (nu := nu) (mi := mi) (lt := zf σ 3) (dd := zf σ 12) (dy := fun k => zf σ 34 (k + 1)) b x hS ?_ hn8 (fun o ho hx => ?_)) hz (fun r2 σ2 h => ?_)⟩
    · rw [e 21 (by omega) (by omega) (by omega) (by omega) (by omega)]; exact hB.1.2.1
    · obtain ⟨K, j0, pl, cd, vw, h⟩ := hPk o ho hx
      exact ⟨K, j0, pl, cd, vw, zPk_f h eP (fun k _ => by rw [e 21 (by omega) (by omega) (by omega) (by omega) (by omega)])⟩
    · obtain ⟨o', K, j0, pl2, cd2, vw2, paid2, many2, L2, τ, d1, d2, d3, d4, d5, d6⟩ := h
      have ec : o' = o := (nI_eq (by omega) (by omega)).mp (d2.symm.trans o2)
      subst ec
      obtain ⟨eK, e1, e2, e3⟩ := zrl_same hC d1 hr hl eP d3
      subst e1; subst e2; subst e3; subst eK
      have eT : ∀ i, 22 ≤ i → i ≤ 38 → i ≠ 28 → τ i = σ i := fun i q1 q2 q3 => by rw [d4, z_up_ne (by omega)]; exact eP i q1 q2 q3
      obtain ⟨f1, f2, f3, f4⟩ := zfill_same (ρ := τ) hA hl.2.1 (eT 24 (by omega) (by omega) (by omega)) (eT 38 (by omega) (by omega) (by omega)) (eT 23 (by omega) (by omega) (by omega)) hFl d5
      have hP := d5
      refine ⟨?_, zInv_of (zRel_e (zFr_t (zFr_48 (zFr_59 (zFr_fil hFl.1))) (by rw [d4] at d5; exact zFr_pf d5.1 d5.2.1)) H), ?_⟩
      · rw [d5.2.1 48 (by omega) (by omega), d4, z_up_app, if_pos rfl, if_pos rfl]
      · rw [d5.1 59 (by omega) (by omega) (by omega), d4, z_up_ne (by omega), z_up_app, if_pos rfl, if_pos rfl, er, d6, f1]
  · subst hg; subst hs
    exact ⟨zSm_rf, hS, j + 1, zXk_3 hj (by decide), rfl, zPm_bad (tX9_words (K := 0) (j0 := 0) (pl := 0) (cd := 0) (vw := 0) (no := no) (ni := ni) (nd := nd) (ne := ne) (nu := nu) (mi := mi) (lt := zf σ' 3) (dd := zf σ' 12) (dy := fun k => zf σ' 34 (k + 1)) b x hS hB.1.2.1 hn8 hPk) (zXk_j hk hj (by decide)) HI⟩
