/-! the relation through the calls that only write down -/
theorem zupd_s {f : Nat → Int32} {k : Nat} {x : Int32} : upd f k x k = x := by simp [upd]
theorem zupd_n {f : Nat → Int32} {k j : Nat} {x : Int32} (h : j ≠ k) : upd f k x j = f j := by simp [upd, h]
theorem zn_self {x : Int32} {n : Nat} (h : x = nI n) (hn : n < 2 ^ 31) : x = nI (zn x) ∧ zn x = n := by
  have e : zn x = n := by rw [h]; exact zn_nI hn
  exact ⟨by rw [e]; exact h, e⟩
theorem z_range {x : Int32} {a b : Nat} (ha : nI a ≤ x) (hb : x ≤ nI b) (hb2 : b < 2 ^ 31) (hab : a ≤ b) : x = nI (zn x) ∧ a ≤ zn x ∧ zn x ≤ b := by
  have h1 : (nI a).toInt = a := nI_toInt (by omega)
  have h2 : (nI b).toInt = b := nI_toInt hb2
  have h3 : (nI a).toInt ≤ x.toInt := Int32.le_iff_toInt_le.mp ha
  have h4 : x.toInt ≤ (nI b).toInt := Int32.le_iff_toInt_le.mp hb
  have h5 : x = nI x.toInt.toNat := by
    apply Int32.toInt_inj.mp
    rw [nI_toInt (by omega)]; omega
  have h6 := zn_self h5 (by omega)
  exact ⟨h6.1, by omega, by omega⟩
theorem zGA_idea {σ τ : zIn} {ni ne nd : Nat} {x : Int32} (H : zGA σ ni ne nd) (hx : zx_idea ni x = 0) (h3 : τ 3 = upd (σ 3) ni x) (h22 : τ 22 = upd (σ 22) ni x) (h24 : τ 2 4 = nI (ni + 1)) (h21 : τ 21 0 = nI (ni + 1))
    (hf : zFr (fun i k => inA i k ∧ i ≠ 3 ∧ i ≠ 22 ∧ ¬ (i = 2 ∧ k = 4) ∧ ¬ (i = 21 ∧ k = 0)) σ τ) : zGA τ (ni + 1) ne nd := by
  obtain ⟨⟨a1, a2, a3, a4, a5⟩, ⟨b1, b2, b3, b4, b5, b6, b7⟩, c1, c2, c3, c4, c5⟩ := H
  unfold zx_idea at hx
  by_cases q1 : x < 1 ∨ 20 < x
  · rw [if_pos q1] at hx; exact absurd hx (by decide)
  rw [if_neg q1] at hx
  by_cases q2 : ni = 30
  · rw [if_pos q2] at hx; exact absurd hx (by decide)
  have hr := z_range (x := x) (a := 1) (b := 20) (Int32.not_lt.mp (fun q => q1 (Or.inl q))) (Int32.not_lt.mp (fun q => q1 (Or.inr q))) (by decide) (by decide)
  have e4 := zFr_row hf 4 (fun k => by unfold inA; omega)
  have e5 := zFr_row hf 5 (fun k => by unfold inA; omega)
  have e12 := zFr_row hf 12 (fun k => by unfold inA; omega)
  have e23 := zFr_row hf 23 (fun k => by unfold inA; omega)
  have e24 := zFr_row hf 24 (fun k => by unfold inA; omega)
  have e38 := zFr_row hf 38 (fun k => by unfold inA; omega)
  unfold zGA zf
  rw [h24, h21, h3, h22, e4, e5, e12, e23, e24, e38, hf 2 5 (by unfold inA; omega), hf 21 2 (by unfold inA; omega), hf 11 1 (by unfold inA; omega), hf 21 22 (by unfold inA; omega)]
  refine ⟨⟨rfl, rfl, by omega, by rw [a4], fun k hk => ?_⟩, ⟨b1, b2, b3, b4, b5, b6, b7⟩, c1, c2, c3, c4, fun i hi => ⟨(c5 i hi).1, Nat.lt_succ_of_lt (c5 i hi).2⟩⟩
  by_cases e : k = ni
  · subst e; rw [zupd_s]; exact hr
  · rw [zupd_n e]; exact a5 k (by omega)
theorem zGA_draft {σ τ : zIn} {ni ne nd : Nat} {x : Int32} (H : zGA σ ni ne nd) (hx : zx_draft ni nd x = 0) (h12 : τ 12 = upd (σ 12) nd x) (h38 : τ 38 = upd (σ 38) nd x) (h11 : τ 11 1 = nI (nd + 1)) (h21 : τ 21 22 = nI (nd + 1))
    (hf : zFr (fun i k => inA i k ∧ i ≠ 12 ∧ i ≠ 38 ∧ ¬ (i = 11 ∧ k = 1) ∧ ¬ (i = 21 ∧ k = 22)) σ τ) : zGA τ ni ne (nd + 1) := by
  obtain ⟨⟨a1, a2, a3, a4, a5⟩, ⟨b1, b2, b3, b4, b5, b6, b7⟩, c1, c2, c3, c4, c5⟩ := H
  unfold zx_draft at hx
  by_cases q1 : zin x ni = true
  · rw [if_neg (fun q => q q1)] at hx
    by_cases q2 : nd = 24
    · rw [if_pos q2] at hx; exact absurd hx (by decide)
    obtain ⟨j, hj, e⟩ := zin_t q1 (by omega)
    have hr := zn_self e (by omega)
    have e3 := zFr_row hf 3 (fun k => by unfold inA; omega)
    have e4 := zFr_row hf 4 (fun k => by unfold inA; omega)
    have e5 := zFr_row hf 5 (fun k => by unfold inA; omega)
    have e22 := zFr_row hf 22 (fun k => by unfold inA; omega)
    have e23 := zFr_row hf 23 (fun k => by unfold inA; omega)
    have e24 := zFr_row hf 24 (fun k => by unfold inA; omega)
    unfold zGA zf
    rw [h12, h38, h11, h21, e3, e4, e5, e22, e23, e24, hf 2 4 (by unfold inA; omega), hf 2 5 (by unfold inA; omega), hf 21 0 (by unfold inA; omega), hf 21 2 (by unfold inA; omega)]
    refine ⟨⟨a1, a2, a3, a4, a5⟩, ⟨b1, b2, b3, b4, b5, b6, b7⟩, rfl, rfl, by omega, by rw [c4], fun i hi => ?_⟩
    by_cases q : i = nd
    · subst q; rw [zupd_s]; exact ⟨hr.1, by omega⟩
    · rw [zupd_n q]; exact c5 i (by omega)
  · rw [if_pos q1] at hx; exact absurd hx (by decide)
/-- a new draft after a message was sent -/
theorem zGA_sent {σ τ : zIn} {ni ne nd : Nat} (H : zGA σ ni ne nd) (h11 : τ 11 1 = nI 0) (h21 : τ 21 22 = nI 0) (hf : zFr (fun i k => inA i k ∧ ¬ (i = 11 ∧ k = 1) ∧ ¬ (i = 21 ∧ k = 22)) σ τ) : zGA τ ni ne 0 := by
  obtain ⟨⟨a1, a2, a3, a4, a5⟩, ⟨b1, b2, b3, b4, b5, b6, b7⟩, c1, c2, c3, c4, c5⟩ := H
  have e3 := zFr_row hf 3 (fun k => by unfold inA; omega)
  have e4 := zFr_row hf 4 (fun k => by unfold inA; omega)
  have e5 := zFr_row hf 5 (fun k => by unfold inA; omega)
  have e12 := zFr_row hf 12 (fun k => by unfold inA; omega)
  have e22 := zFr_row hf 22 (fun k => by unfold inA; omega)
  have e23 := zFr_row hf 23 (fun k => by unfold inA; omega)
  have e24 := zFr_row hf 24 (fun k => by unfold inA; omega)
  have e38 := zFr_row hf 38 (fun k => by unfold inA; omega)
  unfold zGA zf
  rw [h11, h21, e3, e4, e5, e12, e22, e23, e24, e38, hf 2 4 (by unfold inA; omega), hf 2 5 (by unfold inA; omega), hf 21 0 (by unfold inA; omega), hf 21 2 (by unfold inA; omega)]
  exact ⟨⟨a1, a2, a3, a4, a5⟩, ⟨b1, b2, b3, b4, b5, b6, b7⟩, rfl, rfl, Nat.zero_le _, c4, fun i hi => absurd hi (Nat.not_lt_zero _)⟩
/-- the place of an entry's phrase after one more stands -/
theorem zph4 {P Q : Nat → Int32} {ne : Nat} {a b c d : Int32} (h0 : Q (4 * ne) = a) (h1 : Q (4 * ne + 1) = b) (h2 : Q (4 * ne + 2) = c) (h3 : Q (4 * ne + 3) = d) (hl : ∀ k, k < 4 * ne → Q k = P k) (H : zPh P ne)
    (q1 : b = -1 → c = -1) (q2 : c = -1 → d = -1) (qa : a ≠ -1) (qs : ¬ ∃ k, k < ne ∧ P (4 * k) = a ∧ P (4 * k + 1) = b ∧ P (4 * k + 2) = c ∧ P (4 * k + 3) = d) : zPh Q (ne + 1) := by
  have key : ∀ k, k < ne → (∀ i, i < 4 → Q (4 * k + i) = Q (4 * ne + i)) → False := by
    intro k hk hq
    refine qs ⟨k, hk, ?_, ?_, ?_, ?_⟩
    · have := hq 0 (by decide); rw [hl _ (by omega), Nat.add_zero, Nat.add_zero, h0] at this; exact this
    · have := hq 1 (by decide); rw [hl _ (by omega), h1] at this; exact this
    · have := hq 2 (by decide); rw [hl _ (by omega), h2] at this; exact this
    · have := hq 3 (by decide); rw [hl _ (by omega), h3] at this; exact this
  refine ⟨fun k hk j hj => ?_, fun j k hj hk hq => ?_⟩
  · by_cases e : k = ne
    · subst e
      rcases (show j = 0 ∨ j = 1 ∨ j = 2 by omega) with rfl | rfl | rfl
      · rw [Nat.add_zero, h0]; exact fun q => absurd q qa
      · rw [h1, show 4 * k + 1 + 1 = 4 * k + 2 from rfl, h2]; exact q1
      · rw [h2, show 4 * k + 2 + 1 = 4 * k + 3 from rfl, h3]; exact q2
    · rw [hl _ (by omega), hl _ (by omega)]
      exact H.1 k (by omega) j hj
  · by_cases ej : j = ne
    · by_cases ek : k = ne
      · omega
      · subst ej
        exact absurd (fun i hi => (hq i hi).symm) (key k (by omega))
    · by_cases ek : k = ne
      · subst ek
        exact absurd hq (key j (by omega))
      · exact H.2 j k (by omega) (by omega) (fun i hi => by have := hq i hi; rw [hl _ (by omega), hl _ (by omega)] at this; exact this)
theorem zGA_entry {σ τ : zIn} {ni ne nd : Nat} {w a b c d : Int32} (H : zGA σ ni ne nd) (hx : zx_entry σ ni ne w a b c d = 0) (h4 : τ 4 = upd (σ 4) ne w) (h23 : τ 23 = upd (σ 23) ne w)
    (h5 : τ 5 = upd (upd (upd (upd (σ 5) (4 * ne) a) (4 * ne + 1) b) (4 * ne + 2) c) (4 * ne + 3) d) (h24 : τ 24 = upd (upd (upd (upd (σ 24) (4 * ne) a) (4 * ne + 1) b) (4 * ne + 2) c) (4 * ne + 3) d) (h2 : τ 2 5 = nI (ne + 1)) (h21 : τ 21 2 = nI (ne + 1))
    (hf : zFr (fun i k => inA i k ∧ i ≠ 4 ∧ i ≠ 5 ∧ i ≠ 23 ∧ i ≠ 24 ∧ ¬ (i = 2 ∧ k = 5) ∧ ¬ (i = 21 ∧ k = 2)) σ τ) : zGA τ ni (ne + 1) nd := by
  obtain ⟨⟨a1, a2, a3, a4, a5⟩, ⟨b1, b2, b3, b4, b5, b6, b7⟩, c1, c2, c3, c4, c5⟩ := H
  unfold zx_entry at hx
  by_cases q1 : zin a ni = true ∧ zino b ni = true ∧ zino c ni = true ∧ zino d ni = true
  · rw [if_neg (fun q => q q1)] at hx
    by_cases q2 : (w < 0 ∨ 11881375 < w) ∨ (b = -1 ∧ c ≠ -1) ∨ (c = -1 ∧ d ≠ -1)
    · rw [if_pos q2] at hx; exact absurd hx (by decide)
    rw [if_neg q2] at hx
    by_cases q3 : zsame σ ne a b c d ∨ znear σ ne w ∨ ne = 40
    · rw [zif_t q3] at hx; exact absurd hx (by decide)
    obtain ⟨j, hj, e⟩ := zin_t q1.1 (by omega)
    have hw := z_range (x := w) (a := 0) (b := 11881375) (Int32.not_lt.mp (fun q => q2 (Or.inl (Or.inl q)))) (Int32.not_lt.mp (fun q => q2 (Or.inl (Or.inr q)))) (by decide) (by decide)
    have e3 := zFr_row hf 3 (fun k => by unfold inA; omega)
    have e12 := zFr_row hf 12 (fun k => by unfold inA; omega)
    have e22 := zFr_row hf 22 (fun k => by unfold inA; omega)
    have e38 := zFr_row hf 38 (fun k => by unfold inA; omega)
    unfold zGA zf
    rw [h2, h21, h4, h23, h5, h24, e3, e12, e22, e38, hf 2 4 (by unfold inA; omega), hf 21 0 (by unfold inA; omega), hf 11 1 (by unfold inA; omega), hf 21 22 (by unfold inA; omega)]
    refine ⟨⟨a1, a2, a3, a4, a5⟩, ⟨rfl, rfl, by omega, by rw [b4], by rw [b5], fun k hk => ?_, ?_⟩, c1, c2, c3, c4, c5⟩
    · by_cases q : k = ne
      · subst q; rw [zupd_s]; exact ⟨zn w, by omega, hw.1⟩
      · rw [zupd_n q]; exact b6 k (by omega)
    · refine zph4 (P := σ 5) (a := a) (b := b) (c := c) (d := d) ?_ ?_ ?_ ?_ ?_ b7 ?_ ?_ ?_ ?_
      · simp [upd]
      · simp [upd]
      · simp [upd]
      · simp [upd]
      · intro k hk
        rw [zupd_n (by omega), zupd_n (by omega), zupd_n (by omega), zupd_n (by omega)]
      · exact fun q => Classical.byContradiction fun r => q2 (Or.inr (Or.inl ⟨q, r⟩))
      · exact fun q => Classical.byContradiction fun r => q2 (Or.inr (Or.inr ⟨q, r⟩))
      · rw [e]; exact nI_ne_m1 (by omega)
      · exact fun q => q3 (Or.inl q)
  · rw [if_pos q1] at hx; exact absurd hx (by decide)
