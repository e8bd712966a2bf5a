/-! the relation through send -/
theorem zst_send {g g' : zSh} {σ τ σ2 : zIn} {ni ne nd no nc nu nm mi fm to k paid W a4 b4 c4 d4 : Nat} {l2 : List Nat} {d : Nat → Nat} {hc st : Bool} {w : Nat → Int32} {xa xb xk : Int32} (H : zRel g σ ni ne nd no nc nu nm mi) (hnm : nm < 60)
    (hfm : fm < no) (hto : to < no) (hne : fm ≠ to) (hxa : xa = nI fm) (hxb : xb = nI to) (hxk : xk = nI k) (hk : k ≤ 2) (hp1 : 1 ≤ paid) (hp2 : paid ≤ 480) (hW : W ≤ 24) (hl : l2.length < 8) (hg : g' = zSh5 g nm a4 b4 c4 d4 W l2.length)
    (hpt : zpath (zcn (zf σ 29) (zf σ 30) (zf σ 31) (zbo σ 33) d) (zoe (zf σ 29) (zf σ 30)) nc to fm l2) (hx : ∀ i, i < W → zwd (w i) ∨ w i < 0)
    (HC : zSC σ τ nm no fm W l2.length paid xa xb xk hc st w (fun i => l2.getD i 0) (zf σ 31) (zf σ 29))
    (HR : zSR τ σ2 nm fm W l2.length paid xa xb xk hc st w (fun i => l2.getD i 0) (zf σ 31) (zf σ 29)) : zRel g' σ2 ni ne 0 no nc nu (nm + 1) mi := by
  obtain ⟨hP, hA, hB, hC, hE, hGw, hGq, hGF, h56⟩ := H
  subst hg
  obtain ⟨p1, p2, p3, p4⟩ := zSP_send (a := a4) (b := b4) (c := c4) (d := d4) (W := W) (RL := l2.length) hP hnm
  obtain ⟨c1, ⟨c2, c3⟩, ⟨d0, d1, d2, d3, d4', d5, d9, d10, d11, d12⟩, c5, c6, c7⟩ := HC
  obtain ⟨r1, r2, ⟨r3, r4⟩, r5, ⟨v41, v42, v43, v44, v45, v46, v47, v48, v49, v54, v55⟩, r7, r8, r9, r10, r11⟩ := HR
  have hn8 := hB.1.2.2.1
  have hnc := hB.1.2.2.2.2.2
  have hl0 : 0 < l2.length := by
    cases l2 with
    | nil => exact absurd (show fm = to from hpt) hne
    | cons a l => exact Nat.succ_pos _
  have hlc : ∀ i, i < l2.length → l2.getD i 0 < nc := fun i hi => ((zpath_pt l2 fm hpt).1 i hi).1
  have ec : ∀ i k, (i < 21 ∨ 59 < i) → ¬ zSx nm i k → σ2 i k = σ i k := fun i k q1 q2 => by rw [r1 i (by omega)]; exact c1 i k q2
  have er : ∀ i, ((21 < i ∧ i < 28) ∨ (28 < i ∧ i < 39) ∨ i = 56) → σ2 i = σ i := fun i q => by rw [r1 i (by omega)]; exact funext fun k => c1 i k (by unfold zSx; omega)
  have e21 : ∀ k, k ≠ 22 → k ≠ 25 → k ≠ 26 → k ≠ 27 → k ≠ 46 → k ≠ 48 → σ2 21 k = σ 21 k := fun k q1 q2 q3 q4 q5 q6 => by rw [r2 k q1 q2 q3 q4 q5 q6]; exact c1 21 k (by unfold zSx; omega)
  have t28 : ∀ o, τ 28 o = σ 28 o := fun o => c1 28 o (by unfold zSx; omega)
  have em : ∀ i m, 41 ≤ i → i ≤ 55 → i ≠ 50 → i ≠ 51 → i ≠ 52 → m ≠ nm → σ2 i m = σ i m := fun i m q1 q2 q3 q4 q5 q6 => by rw [r5 i m q1 q2 q3 q4 q5 q6]; exact c1 i m (by unfold zSx; omega)
  have e50 : ∀ m, m < nm → ∀ k, k < 24 → σ2 50 (24 * m + k) = σ 50 (24 * m + k) ∧ σ2 51 (24 * m + k) = σ 51 (24 * m + k) := fun m hm k hk => by
    obtain ⟨q1, q2⟩ := r7 (24 * m + k) (by omega)
    rw [q1, q2, c1 50 _ (by unfold zSx; omega), c1 51 _ (by unfold zSx; omega)]
    exact ⟨rfl, rfl⟩
  have e52 : ∀ m, m < nm → ∀ k, k < 8 → σ2 52 (8 * m + k) = σ 52 (8 * m + k) := fun m hm k hk => by
    rw [r9 (8 * m + k) (by omega), c1 52 _ (by unfold zSx; omega)]
  have g31 : zf σ2 31 = zf σ 31 := funext fun c => by unfold zf; rw [er 31 (by omega)]
  have g29 : zf σ2 29 = zf σ 29 := funext fun c => by unfold zf; rw [er 29 (by omega)]
  have g30 : zf σ2 30 = zf σ 30 := funext fun c => by unfold zf; rw [er 30 (by omega)]
  have q28 : ∀ o, σ2 28 o = (if fm = o then σ 28 o - nI (zsum (fun i => zf σ 31 (l2.getD i 0)) l2.length) * nI paid * zkt (nI k) else σ 28 o) + zis (fun i => if zf σ 29 (l2.getD i 0) = o then zprt (zf σ 31) (fun i => l2.getD i 0) paid (nI k) i else 0) l2.length := by
    intro o
    rw [r11 o, t28, hxk, zprice (rt := zf σ 31) (l := fun i => l2.getD i 0) hk]
    exact zacc
  have qo : ∀ o, no ≤ o → σ2 28 o = σ 28 o := by
    intro o ho
    rw [q28 o, if_neg (by omega), zis_0 (fun i hi => if_neg (fun e => by have := (zpre_hE hB _ (hlc i hi)).1; omega)), Int32.add_zero]
  refine ⟨p1, ?_, ?_, ?_, ⟨⟨?_, r3, by omega⟩, fun m hm => ?_⟩, fun m hm => ?_, fun m hm => ?_, ?_, fun m hm => ?_⟩
  · obtain ⟨⟨a1, a2, a3, a4, a5⟩, ⟨b1, b2, b3, b4, b5, b6, b7⟩, k1, k2, k3, k4, k5⟩ := hA
    have x3 : σ2 3 = σ 3 := funext fun k => ec 3 k (by omega) (by unfold zSx; omega)
    have x4 : σ2 4 = σ 4 := funext fun k => ec 4 k (by omega) (by unfold zSx; omega)
    have x5 : σ2 5 = σ 5 := funext fun k => ec 5 k (by omega) (by unfold zSx; omega)
    have x12 : σ2 12 = σ 12 := funext fun k => ec 12 k (by omega) (by unfold zSx; omega)
    unfold zGA zf at *
    rw [ec 2 4 (by omega) (by unfold zSx; omega), ec 2 5 (by omega) (by unfold zSx; omega), e21 0 (by omega) (by omega) (by omega) (by omega) (by omega) (by omega), e21 2 (by omega) (by omega) (by omega) (by omega) (by omega) (by omega), x3, x4, x5, x12, er 22 (by omega), er 23 (by omega), er 24 (by omega), er 38 (by omega), r4]
    refine ⟨⟨a1, a2, a3, a4, a5⟩, ⟨b1, b2, b3, b4, b5, b6, b7⟩, ?_, rfl, by omega, k4, fun i hi => absurd hi (Nat.not_lt_zero _)⟩
    rw [r1 11 (by omega)]; exact c3
  · refine zGB_acc hB (fun o ho => ?_) qo (fun i k hi => ?_)
    · rw [r1 (100 + o) (by omega), c7 o ho, q28 o, hxk, (hB.2.1 o ho).2.2.1]
      congr 1
      refine zis_cg (fun i hi => ?_)
      unfold zprt
      rw [zkt_sh hk]
    · obtain ⟨h1, h2, h3⟩ := hi
      unfold inB at h1
      by_cases q : i = 21
      · subst q; exact e21 k (by omega) (by omega) (by omega) (by omega) (by omega) (by omega)
      · by_cases q2 : i < 21 ∨ 59 < i
        · exact ec i k q2 (by unfold zSx; omega)
        · rw [er i (by omega)]
  · refine zGC_e (fun i k h1 => ?_) hC
    unfold inC at h1
    by_cases q : i = 21
    · subst q; exact e21 k (by omega) (by omega) (by omega) (by omega) (by omega) (by omega)
    · by_cases q2 : i < 21 ∨ 59 < i
      · exact ec i k q2 (by unfold zSx; omega)
      · rw [er i (by omega)]
  · rw [r1 1 (by omega)]; exact c2
  · by_cases q : m < nm
    · obtain ⟨x3, x5⟩ := p4 m q
      rw [x3, x5]
      exact zGe_m (er 29 (by omega)) (er 30 (by omega)) (fun j q1 q2 q3 q4 => em j m q1 (by omega) (by omega) (by omega) (by omega) (by omega)) (e52 m q) (fun k hk => ec (200 + m) k (by omega) (by unfold zSx; omega)) (funext fun k => ec (500 + m) k (by omega) (by unfold zSx; omega)) (hE.2 m q)
    · have e : m = nm := by omega
      subst e
      rw [p2, p3]
      have z200 : ∀ k, σ2 (200 + m) k = τ (200 + m) k := fun k => by rw [r1 (200 + m) (by omega)]
      refine zGe_n (fm := fm) (to := to) (k := k) (paid := paid) (hc := hc) (pr := nI (zsum (fun i => zf σ 31 (l2.getD i 0)) l2.length) * nI paid * zkt (nI k)) (rt := zf σ 31) (d := d) (br := zbo σ 33) hfm hto hn8 hk hp1 (by omega) hW hl hnc ?_ ?_ ?_ ?_ ?_ ?_ ?_ ?_ ?_ ?_ ?_ ?_ ?_ (fun i hi => ?_) (fun i hi => ?_) ?_
      · rw [z200, d0, hxa]
      · rw [z200, d1, hxb]
      · rw [z200, d2, hxk]
      · rw [z200, d3]
      · rw [z200, d4', hxk]
      · rw [z200, d5]
      · rw [v41, hxa]
      · rw [v42, hxb]
      · rw [v43, hxk]
      · rw [v46]
      · rw [v47, hxk, zprice hk]
      · rw [v49]
      · rw [v45]
      · rw [r1 (500 + m) (by omega)]; exact c6 i hi
      · exact r10 i hi
      · rw [g29, g30]; exact hpt
  · by_cases q : m < nm
    · rw [(p4 m q).1]
      exact zGw_m (hE.2 m q).2.2.2.2.2.2.1.2 (e50 m q) (funext fun k => ec (300 + m) k (by omega) (by unfold zSx; omega)) (funext fun k => ec (400 + m) k (by omega) (by unfold zSx; omega)) (hGw m q)
    · have e : m = nm := by omega
      subst e
      rw [p2]
      refine zGw_n (x := w) (fun k hk => ?_) (fun k hk => r8 k hk) hx
      rw [r1 (300 + m) (by omega), r1 (400 + m) (by omega)]; exact c5 k hk
  · by_cases q : m < nm
    · rw [(p4 m q).2]
      refine zGq_m (hE.2 m q).2.2.2.2.2.2.2.1 (er 29 (by omega)) (er 30 (by omega)) (fun j q1 q2 q3 q4 q5 q6 => ?_) (e52 m q) (fun k _ _ => ec (200 + m) k (by omega) (by unfold zSx; omega)) (hGq m q)
      by_cases j56 : j = 56
      · rw [er j (by omega)]
      · exact em j m q1 (by omega) q3 q4 q5 (by omega)
    · have e : m = nm := by omega
      subst e
      rw [p3]
      refine zGq_n (fm := fm) (paid := paid) (b := st) hl0 (by omega) hp1 (by omega) (by rw [v41, hxa]) v46 v44 ?_ v54 ?_ v55 ?_ ?_ ?_ v48
      · rw [r1 (200 + m) (by omega)]; exact d9
      · rw [r1 (200 + m) (by omega)]; exact d11
      · rw [r1 (200 + m) (by omega)]; exact d12
      · rw [er 56 (by omega)]; exact h56 m (Nat.le_refl _)
      · rw [r1 (200 + m) (by omega)]; exact d10
  · refine zGF_n (rt := zf σ 31) (ad := zf σ 29) (l := fun i => l2.getD i 0) (fm := fm) (k := k) (paid := paid) (RL := l2.length) hGF (fun m hm o => ?_) hk p3 (fun o => ?_) q28
    · rw [(p4 m hm).2]
      exact zsb_m (hE.2 m hm).2.2.2.2.2.2.2.1 (er 29 (by omega)) (er 31 (by omega)) (em 41 m (by omega) (by omega) (by omega) (by omega) (by omega) (by omega)) (em 43 m (by omega) (by omega) (by omega) (by omega) (by omega) (by omega)) (em 46 m (by omega) (by omega) (by omega) (by omega) (by omega) (by omega)) (e52 m hm)
    · rw [zsb_n (fm := fm) (k := k) (paid := paid) (l := fun i => l2.getD i 0) (rt := zf σ 31) (by omega) (fun i hi => by have := hlc i hi; omega) (fun i hi => ?_) (by rw [v41, hxa]) (by rw [v43, hxk]) hk v46 r10 o, g29]
      rw [er 31 (by omega)]
      exact (hB.2.2.2.1 _ (hlc i hi)).2.2.2.2.1.1
  · rw [er 56 (by omega)]; exact h56 m (by omega)
