/-! calls of both sides: send -/
theorem zsnd_eq {ad ot rt : Nat → Nat} {br : Nat → Bool} {nc no nd nm : Nat} {a b k : Int32} (hE : ∀ c, c < nc → ad c < no ∧ ot c < no ∧ ad c ≠ ot c) (hrt : ∀ c, c < nc → rt c ≤ 100) (hn8 : no ≤ 8) :
    zx_send no nd nm (∃ l, zroute ad ot rt br nc no (zn a) (zn b) l) a b k = zx_send no nd nm (zrs ad ot rt br nc (zd0 1000000 (zn b)) 8 (zn a) < 1000000) a b k := by
  unfold zx_send
  by_cases q : ¬ (zin a no = true ∧ zin b no = true)
  · rw [if_pos q, if_pos q]
  · rw [if_neg q, if_neg q]
    obtain ⟨q1, q2⟩ := Classical.not_not.mp q
    obtain ⟨i, hi, ea⟩ := zin_t q1 (by omega)
    obtain ⟨j, hj, eb⟩ := zin_t q2 (by omega)
    have za : zn a = i := by rw [ea]; exact zn_nI (by omega)
    have zb' : zn b = j := by rw [eb]; exact zn_nI (by omega)
    have e := propext (zroute_same (rt := rt) (br := br) hE hrt (show zn b < no by omega) (show zn a < no by omega) hn8).1
    rw [e]
theorem zFr_RA {σ τ : zIn} (h : zfR σ τ) : zFr inA σ τ := by
  intro i k q
  rw [h.1 i (by unfold inA at q; omega) (by unfold inA at q; omega) (by unfold inA at q; omega)]
set_option maxHeartbeats 8000000 in
theorem zPr_send {l : Launch} {D : va_G} {cy : Nat → ClassId} {z0 : Nat} {g : zSh} {σ : zIn} (hfl : l.stackTraces = false) (H : zInv g σ) (x y k : Int32) (b : Bool) : z_Cw l D cy z0 NL_send hL_send [.ref (g.2.1 1), .int x, .int y, .int k, .int (zb b), .ref (g.2.1 59)] g σ (zPw l D cy z0 MX9_send [.int x, .int y, .int k, .int (zb b)] g) := by
  have HI := H
  obtain ⟨ni, ne, nd, no, nc, nu, nm, mi, H⟩ := H
  obtain ⟨⟨hS, hw, hO, hK, hU, hG, hF⟩, hA, hB, hC, hE, hGw, hGq, hGF, h56⟩ := id H
  have fr := zSP_fr H.1
  have hn8 := hB.1.2.2.1
  have hn12 := hB.1.2.2.2.2.2
  have hn60 := hE.1.2.2
  have hd24 := hA.2.2.2.2.1
  have hrt : ∀ c, c < nc → zf σ 31 c ≤ 100 := fun c hc => (hB.2.2.2.1 c hc).2.2.2.2.1.2.2
  have hPk : ∀ o, o < no → x = nI o → ∃ K j0 pl cd vw, zPk σ o K ni nd ne nu mi j0 pl cd vw (zf σ 3) (zf σ 12) (fun k => zf σ 34 (k + 1)) := fun o ho _ => zpre_Pk hA hB hC ho
  have heq := zsnd_eq (rt := zf σ 31) (br := zbo σ 33) (nd := nd) (nm := nm) (a := x) (b := y) (k := k) (zpre_hE hB) hrt hn8
  refine (tL_send x y k (zb b) hS (tX8_send hfl b x y k hS hO hB.1.1 hK hB.1.2.2.2.1 hG hE.1.1 hU hC.1.1 hC.1.2.2.2.1 hC.1.2.2.2.2.2.1 (zpre_Ru hC) (zpre_Dr hA) hA.2.1.1 hA.2.1.2.2.1 hA.2.1.2.2.2.2.2.1 (zPU_of hA) (zpre_ky hB) (zpre_Rq hC) (zpre_Cb hB) (zpre_fb hB) hw fr.2.2.2.1 fr.2.2.2.2.1 fr.2.2.2.2.2.1 fr.2.2.2.2.2.2) (fun v g' σ' h => ?_) (fun E g' σ' h => zXk_in h.1)).mono ?_
  · obtain ⟨_, rfl, fm2, to2, l2, j, pl, cd, vw, cdw, paid, many, L, s1, s2, s4, s5, a4, b4, c4, d4, _, _, _, _, _, _, _, hnm, _, _, _, _, _, _, _, _, rfl, _⟩ := h
    refine ⟨zsa_59 (zSP_send (a := a4) (b := b4) (c := c4) (d := d4) (W := L.length) (RL := l2.length) H.1 hnm).1.1, ?_, _, rfl⟩
    exact (z_add_ne (kd := 10) (n := l2.length) (by omega)).trans ((z_add_ne (kd := 10) (n := L.length) (by omega)).trans ((z_add_ne (kd := 10) (n := L.length) (by omega)).trans (z_add_ne (kd := 3) (n := 0) (by omega))))
  rintro v g' σ' (⟨r, σ1, ⟨hz, hv, fm2, to2, l2, j, pl, cd, vw, cdw, paid, many, L, s1, s2, s4, s5, a4, b4, c4, d4, fm1, fm3, to1, to3, hne, hk2, hnd, hnm, hro, hl8, hR, h13, h17, hra, hrl, hFl, hg, hMn, hF3, hBl, hs⟩, rfl, rfl⟩ | ⟨j, E, hj, ⟨hk, hg, hs⟩, rfl⟩)
  · have hP := zSP_send (a := a4) (b := b4) (c := c4) (d := d4) (W := L.length) (RL := l2.length) H.1 hnm
    have er : r = nI nm := by cases hv; rfl
    have ad : ∀ i, i < 100 → g'.2.1 i = g.2.1 i := fun i q => by
      rw [hg]
      exact (z_add_ne (kd := 10) (n := l2.length) (by omega)).trans ((z_add_ne (kd := 10) (n := L.length) (by omega)).trans ((z_add_ne (kd := 10) (n := L.length) (by omega)).trans (z_add_ne (kd := 3) (n := 0) (by omega))))
    have hS' : zS g' := by rw [hg]; exact hP.1.1
    have hl0 : 0 < l2.length := by
      cases l2 with
      | nil => exact absurd (show fm2 = to2 from hro) hne
      | cons a l => exact Nat.succ_pos _
    obtain ⟨kk, kk1, rfl⟩ := zrg_0 (y := k) (n := 2) (by omega) hk2
    have HC : zSC σ (z_up (zcome g' s5 nm fm2 (decide (0 < many)) (zbo σ 25 fm2) 0) 59 0 r) nm no fm2 L.length l2.length paid x y (nI kk) (decide (0 < many)) (decide (0 < many) && zbo σ 25 fm2) (s2 10) (fun i => l2.getD i 0) (zf σ 31) (zf σ 29) :=
      zsC_of hnm hn8 hn12 hR hFl h17 (fun c hc => (zpre_Cb hB c hc).2.2.2.2.2.1) fm3 hMn hF3 hBl (by rw [hg]; exact hP.2.2.1) hl0
    rw [← hs] at HC
    have e : ∀ i, 21 ≤ i → i ≤ 58 → z_up σ1 59 0 r i = σ i := fun i q1 q2 => funext fun k => HC.1 i k (by unfold zSx; omega)
    have eP : ∀ i, 22 ≤ i → i ≤ 38 → i ≠ 28 → z_up σ1 59 0 r i = σ i := fun i q1 q2 _ => e i (by omega) (by omega)
    refine ⟨⟨ad 1 (by omega), ad 21 (by omega), ad 59 (by omega)⟩, hS', 0, by decide, rfl, (tX9_send (nm := nm) (no := no) (nc := nc) (nd := nd) (ni := ni) (ne := ne) (nu := nu) (mi := mi) (ad := zf σ 29) (ot := zf σ 30) (rt := zf σ 31) (sp := zf σ 32) (br := zbo σ 33) (lt := zf σ 3) (dd := zf σ 12) (dy := fun k => zf σ 34 (k + 1)) (fb := zbo σ 25) b x y (nI kk) hS' ?_ ?_ hn12 hn8 ?_ ?_ hn60 ?_ hd24 ?_ (fun o ho hx => ?_)).mono (fun w g2 σ2 h => ?_)⟩
    · rw [e 21 (by omega) (by omega)]; exact hB.1.2.1
    · rw [e 21 (by omega) (by omega)]; exact hB.1.2.2.2.2.1
    · have := zpre_CR hB
      unfold zCR at this ⊢
      rw [e 29 (by omega) (by omega), e 30 (by omega) (by omega), e 31 (by omega) (by omega), e 32 (by omega) (by omega), e 33 (by omega) (by omega)]
      exact this
    · rw [e 21 (by omega) (by omega)]; exact hE.1.2.1
    · rw [e 21 (by omega) (by omega)]; exact hA.2.2.2.1
    · rw [e 25 (by omega) (by omega)]; exact zpre_fbR hB
    · obtain ⟨K, j0, pl, cd, vw, h⟩ := hPk o ho hx
      exact ⟨K, j0, pl, cd, vw, zPk_f h eP (fun k _ => by rw [e 21 (by omega) (by omega)])⟩
    · obtain ⟨rfl, r2, rfl, h⟩ := h
      rcases h with h | h
      · exact absurd (heq.symm.trans hz) h.1
      obtain ⟨_, h2, qf, qt, l, K, j0, pl2, cd2, vw2, paid2, many2, L2, t1, t2, t4, t6, qf1, qf2, qt1, qt2, hq, _, _, _, hpt, hl, hPk2, ht1, ht2, ht3, ht4, ht5, hPf, hW1, hW2, hs2⟩ := h
      have ef : qf = fm2 := (nI_eq (by omega) (by omega)).mp (qf2.symm.trans fm3)
      subst ef
      have et : qt = to2 := (nI_eq (by omega) (by omega)).mp (qt2.symm.trans to3)
      subst et
      have el : l2 = l := (zroute_same (zpre_hE hB) hrt to1 fm1 hn8).2 l2 l hro hpt
      subst el
      have hj : j = 18 ∨ ∃ k, k < nu ∧ j = 140 + k := zrat_or hra
      have hn12u := hC.1.2.2.1
      obtain ⟨eK, e1, e2, e3⟩ := zrl_same hC fm1 (zrat_row (by rw [hR.1 (110 + qf) (by omega) (by omega) (by omega)]) hra) (zRl_eq hrl (by rw [hR.1 j (by omega) (by omega) (by omega)])) eP hPk2
      subst e1; subst e2; subst e3; subst eK
      have z3 : zf s1 3 = zf σ 3 := funext fun c => by unfold zf; rw [hR.1 3 (by omega) (by omega) (by omega)]
      have z12 : zf s1 12 = zf σ 12 := funext fun c => by unfold zf; rw [hR.1 12 (by omega) (by omega) (by omega)]
      have hA1 : zGA s1 ni ne nd := zGA_e (zFr_RA hR) hA
      have eT : ∀ i, 22 ≤ i → i ≤ 38 → i ≠ 28 → t1 i = s1 i := fun i q1 q2 q3 => by rw [ht1 i (by omega) (by omega) (by omega), eP i q1 q2 q3, hR.1 i (by omega) (by omega) (by omega)]
      obtain ⟨f1, f2, f3, f4⟩ := zfill_same (ρ := t1) hA1 hrl.2.1 (eT 24 (by omega) (by omega) (by omega)) (eT 38 (by omega) (by omega) (by omega)) (eT 23 (by omega) (by omega) (by omega)) (by rw [z3, z12]; exact hFl) (by rw [z3, z12]; exact hPf)
      subst f1; subst f2
      have e23 : t2 23 = s1 4 := by
        rw [hPf.1 23 (by omega) (by omega) (by omega), eT 23 (by omega) (by omega) (by omega)]
        exact hA1.2.1.2.2.2.1
      have HR := zsR_of (σ2 := σ2) (hc := decide (0 < many)) (fb := zbo σ 25 qf) hnm hq ht1 ht2 hPf hW1 hW2 f3.symm (by rw [f3]; exact hs2)
      rw [e23] at HR
      obtain ⟨g1, g2, g3, g4, g5, g6⟩ := HC
      have hWn : L.length ≤ nd := hFl.2.2.2.2.2.2.2.2.1
      have hp480 : paid ≤ 480 := hFl.2.2.2.2.2.2.2.2.2.1
      have hlt : ∀ i, i < nd → 1 ≤ zf σ 3 (zf σ 12 i) := fun i hi => (hA.1.2.2.2.2 _ (hA.2.2.2.2.2.2 i hi).2).2.1
      have RZ := zst_send (a4 := a4) (b4 := b4) (c4 := c4) (d4 := d4) (xk := nI kk) H hnm fm1 to1 hne fm3 to3 rfl kk1 (zFil_1 hFl hnd (by have := hrl.2.1; omega) (by have := hrl.2.2.2.2.1; omega) hlt) hp480 (by omega) hl8 hg hpt (fun i hi => by have := (f4 i hi).2; rw [(f4 i hi).1] at this; exact this)
        ⟨g1, g2, g3, fun k hk => by rw [(g4 k hk).1, (g4 k hk).2, (f4 k hk).1]; exact ⟨rfl, rfl⟩, g5, g6⟩ HR
      refine ⟨rfl, r2, rfl, ?_, zInv_of RZ, fun _ => ?_⟩
      · rw [hs2]
        rw [zcR_ne (by omega) (by omega), z_up_m (by omega), z_up_ne (by omega), hW2.1 21 (by omega) (by omega) (by omega), z_up_ne (by omega), z_up_ne (by omega), hW1.1 21 (by omega) (by omega) (by omega), zS3_ne (by omega), z_up_m (by omega), hPf.2.1 48 (by omega) (by omega), ht3]
        rfl
      · rw [HR.1 59 (by omega), z_up_app, if_pos rfl, if_pos rfl, er, h2]
  · subst hg
    have e : ∀ i, 21 ≤ i → i ≤ 58 → σ' i = σ i := fun i q1 q2 => hs.1 i (by omega) (by omega) (by omega)
    have eP : ∀ i, 22 ≤ i → i ≤ 38 → i ≠ 28 → σ' i = σ i := fun i q1 q2 _ => e i (by omega) (by omega)
    have ek := zXk_j hk hj (by decide)
    rw [heq] at ek
    refine ⟨zSm_rf, hS, j + 1, zXk_3 hj (by decide), rfl, (tX9_send (nm := nm) (no := no) (nc := nc) (nd := nd) (ni := ni) (ne := ne) (nu := nu) (mi := mi) (ad := zf σ 29) (ot := zf σ 30) (rt := zf σ 31) (sp := zf σ 32) (br := zbo σ 33) (lt := zf σ 3) (dd := zf σ 12) (dy := fun k => zf σ 34 (k + 1)) (fb := zbo σ 25) b x y k hS ?_ ?_ hn12 hn8 ?_ ?_ hn60 ?_ hd24 ?_ (fun o ho hx => ?_)).mono (fun w g2 σ2 h => ?_)⟩
    · rw [e 21 (by omega) (by omega)]; exact hB.1.2.1
    · rw [e 21 (by omega) (by omega)]; exact hB.1.2.2.2.2.1
    · have := zpre_CR hB
      unfold zCR at this ⊢
      rw [e 29 (by omega) (by omega), e 30 (by omega) (by omega), e 31 (by omega) (by omega), e 32 (by omega) (by omega), e 33 (by omega) (by omega)]
      exact this
    · rw [e 21 (by omega) (by omega)]; exact hE.1.2.1
    · rw [e 21 (by omega) (by omega)]; exact hA.2.2.2.1
    · rw [e 25 (by omega) (by omega)]; exact zpre_fbR hB
    · obtain ⟨K, j0, pl, cd, vw, h⟩ := hPk o ho hx
      exact ⟨K, j0, pl, cd, vw, zPk_f h eP (fun k _ => by rw [e 21 (by omega) (by omega)])⟩
    · obtain ⟨rfl, r2, rfl, h⟩ := h
      rcases h with ⟨h1, h2, h3, h4⟩ | h
      · rw [ek] at h2
        exact ⟨rfl, r2, rfl, h2, zInv_of (zRel_e (zFr_t (zFr_R hs) (zFr_snd h3 h4)) H), fun q => by omega⟩
      · have := h.1
        rw [ek] at this
        omega
