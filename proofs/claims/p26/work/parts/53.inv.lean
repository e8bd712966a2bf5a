/-! the invariants: their frames, what each call does to them -/
theorem zupd_s {f : Nat → Int32} {k : Nat} {x : Int32} : upd f k x k = x := by simp [upd]
theorem zupd_n {f : Nat → Int32} {k j : Nat} {x : Int32} (h : j ≠ k) : upd f k x j = f j := by simp [upd, h]
theorem zn_self {x : Int32} {n : Nat} (h : x = nI n) (hn : n < 2 ^ 31) : x = nI (zn x) ∧ zn x = n := by
  have e : zn x = n := by rw [h]; exact zn_nI hn
  exact ⟨by rw [e]; exact h, e⟩
theorem z_range {x : Int32} {a b : Nat} (ha : nI a ≤ x) (hb : x ≤ nI b) (hb2 : b < 2 ^ 31) (hab : a ≤ b) : x = nI (zn x) ∧ a ≤ zn x ∧ zn x ≤ b := by
  have h1 : (nI a).toInt = a := nI_toInt (by omega)
  have h2 : (nI b).toInt = b := nI_toInt hb2
  have h3 : (nI a).toInt ≤ x.toInt := Int32.le_iff_toInt_le.mp ha
  have h4 : x.toInt ≤ (nI b).toInt := Int32.le_iff_toInt_le.mp hb
  have h5 : x = nI x.toInt.toNat := by
    apply Int32.toInt_inj.mp
    rw [nI_toInt (by omega)]; omega
  have h6 := zn_self h5 (by omega)
  exact ⟨h6.1, by omega, by omega⟩
theorem zis_cg {f g : Nat → Int32} : ∀ {n : Nat}, (∀ k, k < n → f k = g k) → zis f n = zis g n
  | 0, _ => rfl
  | n + 1, h => by
    show zis f n + f n = zis g n + g n
    rw [zis_cg (fun k hk => h k (by omega)), h n (by omega)]
theorem zis_z {f : Nat → Int32} : ∀ {n : Nat}, (∀ k, k < n → f k = 0) → zis f n = 0
  | 0, _ => rfl
  | n + 1, h => by
    show zis f n + f n = 0
    rw [zis_z (fun k hk => h k (by omega)), h n (by omega)]; rfl
def inA (i k : Nat) : Prop := i = 3 ∨ i = 4 ∨ i = 5 ∨ i = 12 ∨ (i = 2 ∧ (k = 4 ∨ k = 5)) ∨ (i = 11 ∧ k = 1)
def inB (i k : Nat) : Prop := (i = 13 ∧ (k = 4 ∨ k = 5)) ∨ (100 ≤ i ∧ i < 108 ∧ (k = 1 ∨ k = 2)) ∨ (120 ≤ i ∧ i < 132 ∧ k ≤ 4)
def inC (i k : Nat) : Prop := (i = 1 ∧ (k = 7 ∨ k = 9)) ∨ i = 18 ∨ (140 ≤ i ∧ i < 152 ∧ k ≤ 4)
def inM (i k : Nat) : Prop := (i = 1 ∧ k = 8) ∨ (200 ≤ i ∧ i < 260) ∨ (300 ≤ i ∧ i < 360) ∨ (400 ≤ i ∧ i < 460) ∨ (500 ≤ i ∧ i < 560) ∨ (120 ≤ i ∧ i < 132 ∧ k = 2)
def inF (i k : Nat) : Prop := (100 ≤ i ∧ i < 108 ∧ k = 3) ∨ (120 ≤ i ∧ i < 132 ∧ (k = 0 ∨ k = 2)) ∨ (200 ≤ i ∧ i < 260 ∧ k ≤ 5) ∨ (500 ≤ i ∧ i < 560)
theorem zIA_e {σ τ : zIn} {ni ne nd : Nat} (h : zFr inA σ τ) (H : zIA σ ni ne nd) : zIA τ ni ne nd := by
  have e3 := zFr_row h 3 (fun k => by unfold inA; omega)
  have e4 := zFr_row h 4 (fun k => by unfold inA; omega)
  have e5 := zFr_row h 5 (fun k => by unfold inA; omega)
  have e12 := zFr_row h 12 (fun k => by unfold inA; omega)
  unfold zIA zf at *
  rw [h 2 4 (by unfold inA; omega), h 2 5 (by unfold inA; omega), h 11 1 (by unfold inA; omega), e3, e4, e5, e12]
  exact H
theorem zIA_idea {σ τ : zIn} {ni ne nd : Nat} {x : Int32} (H : zIA σ ni ne nd) (hx : zx_idea ni x = 0) (h3 : τ 3 = upd (σ 3) ni x) (h24 : τ 2 4 = nI (ni + 1))
    (hf : zFr (fun i k => inA i k ∧ i ≠ 3 ∧ ¬ (i = 2 ∧ k = 4)) σ τ) : zIA τ (ni + 1) ne nd := by
  obtain ⟨⟨a1, a2, a3⟩, ⟨b1, b2, b3, b4, b5⟩, c1, c2, c3⟩ := H
  unfold zx_idea at hx
  by_cases q1 : x < 1 ∨ 20 < x
  · rw [if_pos q1] at hx; exact absurd hx (by decide)
  rw [if_neg q1] at hx
  by_cases q2 : ni = 30
  · rw [if_pos q2] at hx; exact absurd hx (by decide)
  have hr := z_range (x := x) (a := 1) (b := 20) (Int32.not_lt.mp (fun q => q1 (Or.inl q))) (Int32.not_lt.mp (fun q => q1 (Or.inr q))) (by decide) (by decide)
  have e4 := zFr_row hf 4 (fun k => by unfold inA; omega)
  have e5 := zFr_row hf 5 (fun k => by unfold inA; omega)
  have e12 := zFr_row hf 12 (fun k => by unfold inA; omega)
  unfold zIA zf
  rw [h24, h3, e4, e5, e12, hf 2 5 (by unfold inA; omega), hf 11 1 (by unfold inA; omega)]
  refine ⟨⟨rfl, by omega, fun k hk => ?_⟩, ⟨b1, b2, b3, b4, b5⟩, c1, c2, fun i hi => ⟨(c3 i hi).1, Nat.lt_succ_of_lt (c3 i hi).2⟩⟩
  by_cases e : k = ni
  · subst e; rw [zupd_s]; exact hr
  · rw [zupd_n e]; exact a3 k (by omega)
theorem zIA_draft {σ τ : zIn} {ni ne nd : Nat} {x : Int32} (H : zIA σ ni ne nd) (hx : zx_draft ni nd x = 0) (h12 : τ 12 = upd (σ 12) nd x) (h11 : τ 11 1 = nI (nd + 1))
    (hf : zFr (fun i k => inA i k ∧ i ≠ 12 ∧ ¬ (i = 11 ∧ k = 1)) σ τ) : zIA τ ni ne (nd + 1) := by
  obtain ⟨⟨a1, a2, a3⟩, ⟨b1, b2, b3, b4, b5⟩, c1, c2, c3⟩ := H
  unfold zx_draft at hx
  by_cases q1 : zin x ni = true
  · rw [if_neg (fun q => q q1)] at hx
    by_cases q2 : nd = 24
    · rw [if_pos q2] at hx; exact absurd hx (by decide)
    obtain ⟨j, hj, e⟩ := zin_t q1 (by omega)
    have hr := zn_self e (by omega)
    have e3 := zFr_row hf 3 (fun k => by unfold inA; omega)
    have e4 := zFr_row hf 4 (fun k => by unfold inA; omega)
    have e5 := zFr_row hf 5 (fun k => by unfold inA; omega)
    unfold zIA zf
    rw [h12, h11, e3, e4, e5, hf 2 4 (by unfold inA; omega), hf 2 5 (by unfold inA; omega)]
    refine ⟨⟨a1, a2, a3⟩, ⟨b1, b2, b3, b4, b5⟩, rfl, by omega, fun i hi => ?_⟩
    by_cases q : i = nd
    · subst q; rw [zupd_s]; exact ⟨hr.1, by omega⟩
    · rw [zupd_n q]; exact c3 i (by omega)
  · rw [if_pos q1] at hx; exact absurd hx (by decide)
theorem zIA_sent {σ τ : zIn} {ni ne nd : Nat} (H : zIA σ ni ne nd) (h11 : τ 11 1 = nI 0) (hf : zFr (fun i k => inA i k ∧ ¬ (i = 11 ∧ k = 1)) σ τ) : zIA τ ni ne 0 := by
  obtain ⟨⟨a1, a2, a3⟩, ⟨b1, b2, b3, b4, b5⟩, c1, c2, c3⟩ := H
  have e3 := zFr_row hf 3 (fun k => by unfold inA; omega)
  have e4 := zFr_row hf 4 (fun k => by unfold inA; omega)
  have e5 := zFr_row hf 5 (fun k => by unfold inA; omega)
  have e12 := zFr_row hf 12 (fun k => by unfold inA; omega)
  unfold zIA zf
  rw [h11, e3, e4, e5, e12, hf 2 4 (by unfold inA; omega), hf 2 5 (by unfold inA; omega)]
  exact ⟨⟨a1, a2, a3⟩, ⟨b1, b2, b3, b4, b5⟩, rfl, Nat.zero_le _, fun i hi => absurd hi (Nat.not_lt_zero _)⟩
/-- the place of an entry's phrase after one more stands -/
theorem zph4 {P Q : Nat → Int32} {ne : Nat} {a b c d : Int32} (h0 : Q (4 * ne) = a) (h1 : Q (4 * ne + 1) = b) (h2 : Q (4 * ne + 2) = c) (h3 : Q (4 * ne + 3) = d) (hl : ∀ k, k < 4 * ne → Q k = P k) (H : zPh P ne)
    (q1 : b = -1 → c = -1) (q2 : c = -1 → d = -1) (qa : a ≠ -1) (qs : ¬ ∃ k, k < ne ∧ P (4 * k) = a ∧ P (4 * k + 1) = b ∧ P (4 * k + 2) = c ∧ P (4 * k + 3) = d) : zPh Q (ne + 1) := by
  have key : ∀ k, k < ne → (∀ i, i < 4 → Q (4 * k + i) = Q (4 * ne + i)) → False := by
    intro k hk hq
    refine qs ⟨k, hk, ?_, ?_, ?_, ?_⟩
    · have := hq 0 (by decide); rw [hl _ (by omega), Nat.add_zero, Nat.add_zero, h0] at this; exact this
    · have := hq 1 (by decide); rw [hl _ (by omega), h1] at this; exact this
    · have := hq 2 (by decide); rw [hl _ (by omega), h2] at this; exact this
    · have := hq 3 (by decide); rw [hl _ (by omega), h3] at this; exact this
  refine ⟨fun k hk j hj => ?_, fun j k hj hk hq => ?_⟩
  · by_cases e : k = ne
    · subst e
      rcases (show j = 0 ∨ j = 1 ∨ j = 2 by omega) with rfl | rfl | rfl
      · rw [Nat.add_zero, h0]; exact fun q => absurd q qa
      · rw [h1, show 4 * k + 1 + 1 = 4 * k + 2 from rfl, h2]; exact q1
      · rw [h2, show 4 * k + 2 + 1 = 4 * k + 3 from rfl, h3]; exact q2
    · rw [hl _ (by omega), hl _ (by omega)]
      exact H.1 k (by omega) j hj
  · by_cases ej : j = ne
    · by_cases ek : k = ne
      · omega
      · subst ej
        exact absurd (fun i hi => (hq i hi).symm) (key k (by omega))
    · by_cases ek : k = ne
      · subst ek
        exact absurd hq (key j (by omega))
      · exact H.2 j k (by omega) (by omega) (fun i hi => by have := hq i hi; rw [hl _ (by omega), hl _ (by omega)] at this; exact this)
/-- what an entry that is taken is like -/
theorem zentry_ok {σ : zIn} {ni ne : Nat} {w a b c d : Int32} (hx : zx_entry σ ni ne w a b c d = 0) : zin a ni = true ∧ (w = nI (zn w) ∧ zn w ≤ 11881375) ∧ (b = -1 → c = -1) ∧ (c = -1 → d = -1) ∧ ¬ zsame σ ne a b c d ∧ ¬ znear σ ne w ∧ ne ≠ 40 := by
  unfold zx_entry at hx
  by_cases q1 : zin a ni = true ∧ zino b ni = true ∧ zino c ni = true ∧ zino d ni = true
  · rw [if_neg (fun q => q q1)] at hx
    by_cases q2 : (w < 0 ∨ 11881375 < w) ∨ (b = -1 ∧ c ≠ -1) ∨ (c = -1 ∧ d ≠ -1)
    · rw [if_pos q2] at hx; exact absurd hx (by decide)
    rw [if_neg q2] at hx
    by_cases q3 : zsame σ ne a b c d ∨ znear σ ne w ∨ ne = 40
    · rw [zif_t q3] at hx; exact absurd hx (by decide)
    have hw := z_range (x := w) (a := 0) (b := 11881375) (Int32.not_lt.mp (fun q => q2 (Or.inl (Or.inl q)))) (Int32.not_lt.mp (fun q => q2 (Or.inl (Or.inr q)))) (by decide) (by decide)
    exact ⟨q1.1, ⟨hw.1, hw.2.2⟩, fun q => Classical.byContradiction fun r => q2 (Or.inr (Or.inl ⟨q, r⟩)), fun q => Classical.byContradiction fun r => q2 (Or.inr (Or.inr ⟨q, r⟩)), fun q => q3 (Or.inl q), fun q => q3 (Or.inr (Or.inl q)), fun q => q3 (Or.inr (Or.inr q))⟩
  · rw [if_pos q1] at hx; exact absurd hx (by decide)
theorem zIA_entry {σ τ : zIn} {ni ne nd : Nat} {w a b c d : Int32} (H : zIA σ ni ne nd) (hx : zx_entry σ ni ne w a b c d = 0) (h4 : τ 4 = upd (σ 4) ne w)
    (h5 : τ 5 = upd (upd (upd (upd (σ 5) (4 * ne) a) (4 * ne + 1) b) (4 * ne + 2) c) (4 * ne + 3) d) (h2 : τ 2 5 = nI (ne + 1))
    (hf : zFr (fun i k => inA i k ∧ i ≠ 4 ∧ i ≠ 5 ∧ ¬ (i = 2 ∧ k = 5)) σ τ) : zIA τ ni (ne + 1) nd := by
  obtain ⟨⟨a1, a2, a3⟩, ⟨b1, b2, b3, b4, b5⟩, c1, c2, c3⟩ := H
  obtain ⟨q1, q2, q3, q4, q5, q6, q7⟩ := zentry_ok hx
  obtain ⟨j, hj, e⟩ := zin_t q1 (by omega)
  have e3 := zFr_row hf 3 (fun k => by unfold inA; omega)
  have e12 := zFr_row hf 12 (fun k => by unfold inA; omega)
  unfold zIA zf
  rw [h2, h4, h5, e3, e12, hf 2 4 (by unfold inA; omega), hf 11 1 (by unfold inA; omega)]
  refine ⟨⟨a1, a2, a3⟩, ⟨rfl, by omega, fun k hk => ?_, ?_, fun j k hj hk => ?_⟩, c1, c2, c3⟩
  · by_cases q : k = ne
    · subst q; rw [zupd_s]; exact ⟨zn w, by omega, q2.1⟩
    · rw [zupd_n q]; exact b3 k (by omega)
  · refine zph4 (P := σ 5) (a := a) (b := b) (c := c) (d := d) ?_ ?_ ?_ ?_ ?_ b4 q3 q4 (by rw [e]; exact nI_ne_m1 (by omega)) (fun q => q5 q)
    · simp [upd]
    · simp [upd]
    · simp [upd]
    · simp [upd]
    · intro k hk
      rw [zupd_n (by omega), zupd_n (by omega), zupd_n (by omega), zupd_n (by omega)]
  · rw [zupd_n (show j ≠ ne by omega)]
    by_cases q : k = ne
    · subst q; rw [zupd_s]
      exact Nat.le_of_not_lt (fun h => q6 ⟨j, hj, h⟩)
    · rw [zupd_n q]; exact b5 j k hj (by omega)
theorem zIB_e {σ τ : zIn} {no nc : Nat} (h : zFr inB σ τ) (H : zIB σ no nc) : zIB τ no nc := by
  obtain ⟨⟨a1, a2, a3, a4⟩, b, c⟩ := H
  unfold zIB zCb zky zad zot zrt zsp zbr at *
  rw [h 13 4 (by unfold inB; omega), h 13 5 (by unfold inB; omega)]
  refine ⟨⟨a1, a2, a3, a4⟩, fun o ho => ?_, fun k hk => ?_⟩
  · rw [h (100 + o) 1 (by unfold inB; omega), h (100 + o) 2 (by unfold inB; omega)]; exact b o ho
  · rw [h (120 + k) 0 (by unfold inB; omega), h (120 + k) 1 (by unfold inB; omega), h (120 + k) 2 (by unfold inB; omega), h (120 + k) 3 (by unfold inB; omega), h (120 + k) 4 (by unfold inB; omega)]; exact c k hk
theorem zIB_office {σ τ : zIn} {no nc : Nat} (H : zIB σ no nc) (hx : zx_office no = 0) (h1 : τ (100 + no) 1 = 0) (h2 : τ (100 + no) 2 = 0) (h4 : τ 13 4 = nI (no + 1))
    (hf : zFr (fun i k => inB i k ∧ i ≠ 100 + no ∧ ¬ (i = 13 ∧ k = 4)) σ τ) : zIB τ (no + 1) nc := by
  obtain ⟨⟨a1, a2, a3, a4⟩, b, d⟩ := H
  have q : no ≠ 8 := fun q => by unfold zx_office at hx; rw [if_pos q] at hx; exact absurd hx (by decide)
  unfold zIB zCb zky zad zot zrt zsp zbr at *
  rw [h4, hf 13 5 (by unfold inB; omega)]
  refine ⟨⟨rfl, by omega, a3, a4⟩, fun o ho => ?_, fun c hc => ?_⟩
  · by_cases q2 : o = no
    · subst q2
      rw [h1, h2]
      exact ⟨Or.inl rfl, by decide, by decide⟩
    · rw [hf (100 + o) 1 (by unfold inB; omega), hf (100 + o) 2 (by unfold inB; omega)]
      exact b o (by omega)
  · obtain ⟨c1, c2, c3, c4, c5⟩ := d c hc
    rw [hf (120 + c) 0 (by unfold inB; omega), hf (120 + c) 1 (by unfold inB; omega), hf (120 + c) 2 (by unfold inB; omega), hf (120 + c) 3 (by unfold inB; omega), hf (120 + c) 4 (by unfold inB; omega)]
    exact ⟨c1, by omega, c3, by omega, c5⟩
theorem zIB_cable {σ τ : zIn} {no nc : Nat} {x1 x2 x3 x4 : Int32} (H : zIB σ no nc) (hx : zx_cable no nc x1 x2 x3 x4 = 0) (h0 : τ (120 + nc) 0 = x1) (h1 : τ (120 + nc) 1 = x2) (h2 : τ (120 + nc) 2 = x3) (h3 : τ (120 + nc) 3 = x4) (h4 : τ (120 + nc) 4 = 0) (h5 : τ 13 5 = nI (nc + 1))
    (hf : zFr (fun i k => inB i k ∧ i ≠ 120 + nc ∧ ¬ (i = 13 ∧ k = 5)) σ τ) : zIB τ no (nc + 1) := by
  obtain ⟨⟨a1, a2, a3, a4⟩, b, d⟩ := H
  unfold zx_cable at hx
  by_cases q1 : zin x1 no = true ∧ zin x2 no = true
  · rw [if_neg (fun q => q q1)] at hx
    by_cases q2 : x1 = x2 ∨ (x3 < 1 ∨ 100 < x3) ∨ (x4 < 1 ∨ 20 < x4)
    · rw [if_pos q2] at hx; exact absurd hx (by decide)
    rw [if_neg q2] at hx
    by_cases q3 : nc = 12
    · rw [if_pos q3] at hx; exact absurd hx (by decide)
    obtain ⟨j1, hj1, r1⟩ := zin_t q1.1 (by omega)
    obtain ⟨j2, hj2, r2⟩ := zin_t q1.2 (by omega)
    have s1 := zn_self r1 (by omega)
    have s2 := zn_self r2 (by omega)
    have s3 := z_range (x := x3) (a := 1) (b := 100) (Int32.not_lt.mp (fun q => q2 (Or.inr (Or.inl (Or.inl q))))) (Int32.not_lt.mp (fun q => q2 (Or.inr (Or.inl (Or.inr q))))) (by decide) (by decide)
    have s4 := z_range (x := x4) (a := 1) (b := 20) (Int32.not_lt.mp (fun q => q2 (Or.inr (Or.inr (Or.inl q))))) (Int32.not_lt.mp (fun q => q2 (Or.inr (Or.inr (Or.inr q))))) (by decide) (by decide)
    unfold zIB zCb zky zad zot zrt zsp zbr at *
    rw [h5, hf 13 4 (by unfold inB; omega)]
    refine ⟨⟨a1, a2, rfl, by omega⟩, fun o ho => ?_, fun c hc => ?_⟩
    · rw [hf (100 + o) 1 (by unfold inB; omega), hf (100 + o) 2 (by unfold inB; omega)]
      exact b o ho
    · by_cases q4 : c = nc
      · subst q4
        rw [h0, h1, h2, h3, h4]
        exact ⟨s1.1, by omega, s2.1, by omega, fun q => q2 (Or.inl (by rw [r1, r2]; congr 1; omega)), s3.1, s3.2.1, s3.2.2, s4.1, s4.2.1, s4.2.2, by decide⟩
      · rw [hf (120 + c) 0 (by unfold inB; omega), hf (120 + c) 1 (by unfold inB; omega), hf (120 + c) 2 (by unfold inB; omega), hf (120 + c) 3 (by unfold inB; omega), hf (120 + c) 4 (by unfold inB; omega)]
        exact d c (by omega)
  · rw [if_pos q1] at hx; exact absurd hx (by decide)
theorem zIB_broken {σ τ : zIn} {no nc c : Nat} {y : Int32} (H : zIB σ no nc) (hc : c < nc) (hy : y = 0 ∨ y = 1) (h4 : τ (120 + c) 4 = y) (hf : zFr (fun i k => inB i k ∧ ¬ (i = 120 + c ∧ k = 4)) σ τ) : zIB τ no nc := by
  obtain ⟨⟨a1, a2, a3, a4⟩, b, d⟩ := H
  unfold zIB zCb zky zad zot zrt zsp zbr at *
  rw [hf 13 4 (by unfold inB; omega), hf 13 5 (by unfold inB; omega)]
  refine ⟨⟨a1, a2, a3, a4⟩, fun o ho => ?_, fun k hk => ?_⟩
  · rw [hf (100 + o) 1 (by unfold inB; omega), hf (100 + o) 2 (by unfold inB; omega)]; exact b o ho
  · rw [hf (120 + k) 0 (by unfold inB; omega), hf (120 + k) 1 (by unfold inB; omega), hf (120 + k) 2 (by unfold inB; omega), hf (120 + k) 3 (by unfold inB; omega)]
    obtain ⟨c1, c2, c3, c4, c5, c6, c7, c8, c9, c10, c11, c12⟩ := d k hk
    refine ⟨c1, c2, c3, c4, c5, c6, c7, c8, c9, c10, c11, ?_⟩
    by_cases q : k = c
    · subst q; rw [h4]; exact zb_not0 hy
    · rw [hf (120 + k) 4 (by unfold inB; omega)]; exact c12
theorem zIB_forbid {σ τ : zIn} {no nc o : Nat} {y : Int32} (H : zIB σ no nc) (hc : o < no) (hy : y = 0 ∨ y = 1) (h4 : τ (100 + o) 2 = y) (hf : zFr (fun i k => inB i k ∧ ¬ (i = 100 + o ∧ k = 2)) σ τ) : zIB τ no nc := by
  obtain ⟨⟨a1, a2, a3, a4⟩, b, d⟩ := H
  unfold zIB zCb zky zad zot zrt zsp zbr at *
  rw [hf 13 4 (by unfold inB; omega), hf 13 5 (by unfold inB; omega)]
  refine ⟨⟨a1, a2, a3, a4⟩, fun k hk => ?_, fun k hk => ?_⟩
  · rw [hf (100 + k) 1 (by unfold inB; omega)]
    by_cases q : k = o
    · subst q; rw [h4]; exact ⟨hy, (b k hk).2⟩
    · rw [hf (100 + k) 2 (by unfold inB; omega)]; exact b k hk
  · rw [hf (120 + k) 0 (by unfold inB; omega), hf (120 + k) 1 (by unfold inB; omega), hf (120 + k) 2 (by unfold inB; omega), hf (120 + k) 3 (by unfold inB; omega), hf (120 + k) 4 (by unfold inB; omega)]
    exact d k hk
theorem zIB_key {σ τ : zIn} {no nc o : Nat} {y : Int32} (H : zIB σ no nc) (hc : o < no) (hy : y = nI (zn y) ∧ zn y ≤ 39) (h4 : τ (100 + o) 1 = y) (hf : zFr (fun i k => inB i k ∧ ¬ (i = 100 + o ∧ k = 1)) σ τ) : zIB τ no nc := by
  obtain ⟨⟨a1, a2, a3, a4⟩, b, d⟩ := H
  unfold zIB zCb zky zad zot zrt zsp zbr at *
  rw [hf 13 4 (by unfold inB; omega), hf 13 5 (by unfold inB; omega)]
  refine ⟨⟨a1, a2, a3, a4⟩, fun k hk => ?_, fun k hk => ?_⟩
  · rw [hf (100 + k) 2 (by unfold inB; omega)]
    by_cases q : k = o
    · subst q; rw [h4]; exact ⟨(b k hk).1, hy⟩
    · rw [hf (100 + k) 1 (by unfold inB; omega)]; exact b k hk
  · rw [hf (120 + k) 0 (by unfold inB; omega), hf (120 + k) 1 (by unfold inB; omega), hf (120 + k) 2 (by unfold inB; omega), hf (120 + k) 3 (by unfold inB; omega), hf (120 + k) 4 (by unfold inB; omega)]
    exact d k hk
theorem zIC_e {σ τ : zIn} {nu mi : Nat} (h : zFr inC σ τ) (H : zIC σ nu mi) : zIC τ nu mi := by
  obtain ⟨⟨a1, a2, a3, a4⟩, b, c, d⟩ := H
  have e18 := zFr_row h 18 (fun k => by unfold inC; omega)
  have ej : ∀ j, (j = 18 ∨ ∃ k, k < nu ∧ j = 140 + k) → ∀ k, k ≤ 4 → τ j k = σ j k := fun j hj k hk => h j k (by unfold inC; rcases hj with q | ⟨q, q1, q2⟩ <;> omega)
  unfold zIC zRu zRl zdy zpl zcd zvo at *
  rw [h 1 7 (by unfold inC; omega), h 1 9 (by unfold inC; omega), e18]
  refine ⟨⟨a1, a2, a3, a4⟩, fun k hk => ?_, fun j hj => ?_, d⟩
  · rw [h (140 + k) 0 (by unfold inC; omega), h (140 + k) 1 (by unfold inC; omega)]; exact b k hk
  · rw [ej j hj 2 (by decide), ej j hj 3 (by decide), ej j hj 4 (by decide)]; exact c j hj
theorem zIC_minute {σ τ : zIn} {nu mi mi2 : Nat} (H : zIC σ nu mi) (hm : mi2 ≤ 1000000) (h9 : τ 1 9 = nI mi2) (h : zFr (fun i k => inC i k ∧ ¬ (i = 1 ∧ k = 9)) σ τ) : zIC τ nu mi2 := by
  obtain ⟨⟨a1, a2, a3, a4⟩, b, c, d⟩ := H
  have e18 := zFr_row h 18 (fun k => by unfold inC; omega)
  have ej : ∀ j, (j = 18 ∨ ∃ k, k < nu ∧ j = 140 + k) → ∀ k, k ≤ 4 → τ j k = σ j k := fun j hj k hk => h j k (by unfold inC; rcases hj with q | ⟨q, q1, q2⟩ <;> omega)
  unfold zIC zRu zRl zdy zpl zcd zvo at *
  rw [h 1 7 (by unfold inC; omega), h9, e18]
  refine ⟨⟨a1, a2, rfl, hm⟩, fun k hk => ?_, fun j hj => ?_, d⟩
  · rw [h (140 + k) 0 (by unfold inC; omega), h (140 + k) 1 (by unfold inC; omega)]; exact b k hk
  · rw [ej j hj 2 (by decide), ej j hj 3 (by decide), ej j hj 4 (by decide)]; exact c j hj
theorem zconf_ok {nu : Nat} {x1 x2 x3 x4 : Int32} (hx : zx_conf nu x1 x2 x3 x4 = 0) : nu ≠ 12 ∧ (x1 = nI (zn x1) ∧ zn x1 ≤ 1000) ∧ (x2 = nI (zn x2) ∧ 5 ≤ zn x2 ∧ zn x2 ≤ 20) ∧ (x3 = nI (zn x3) ∧ 5 ≤ zn x3 ∧ zn x3 ≤ 15) ∧ (x4 = nI (zn x4) ∧ zn x4 ≤ 3) := by
  unfold zx_conf at hx
  by_cases q1 : (x1 < 0 ∨ 1000 < x1) ∨ (x2 < 5 ∨ 20 < x2) ∨ (x3 ≠ 5 ∧ x3 ≠ 10 ∧ x3 ≠ 15) ∨ (x4 < 0 ∨ 3 < x4)
  · rw [if_pos q1] at hx; exact absurd hx (by decide)
  rw [if_neg q1] at hx
  by_cases q2 : nu = 12
  · rw [if_pos q2] at hx; exact absurd hx (by decide)
  have s1 := z_range (x := x1) (a := 0) (b := 1000) (Int32.not_lt.mp (fun q => q1 (Or.inl (Or.inl q)))) (Int32.not_lt.mp (fun q => q1 (Or.inl (Or.inr q)))) (by decide) (by decide)
  have s2 := z_range (x := x2) (a := 5) (b := 20) (Int32.not_lt.mp (fun q => q1 (Or.inr (Or.inl (Or.inl q))))) (Int32.not_lt.mp (fun q => q1 (Or.inr (Or.inl (Or.inr q))))) (by decide) (by decide)
  have s3 : x3 = nI (zn x3) ∧ 5 ≤ zn x3 ∧ zn x3 ≤ 15 := by
    rcases Classical.em (x3 = 5) with r | r
    · rw [r]; decide
    rcases Classical.em (x3 = 10) with r2 | r2
    · rw [r2]; decide
    rcases Classical.em (x3 = 15) with r3 | r3
    · rw [r3]; decide
    exact absurd (Or.inr (Or.inr (Or.inl ⟨r, r2, r3⟩))) q1
  have s4 := z_range (x := x4) (a := 0) (b := 3) (Int32.not_lt.mp (fun q => q1 (Or.inr (Or.inr (Or.inr (Or.inl q)))))) (Int32.not_lt.mp (fun q => q1 (Or.inr (Or.inr (Or.inr (Or.inr q)))))) (by decide) (by decide)
  exact ⟨q2, ⟨s1.1, s1.2.2⟩, s2, s3, ⟨s4.1, s4.2.2⟩⟩
theorem zIC_conf {σ τ : zIn} {nu mi : Nat} {x1 x2 x3 x4 : Int32} (H : zIC σ nu mi) (hx : zx_conf nu x1 x2 x3 x4 = 0) (h0 : τ (140 + nu) 0 = nI (nu + 1)) (h1 : τ (140 + nu) 1 = x1) (h2 : τ (140 + nu) 2 = x2) (h3 : τ (140 + nu) 3 = x3) (h4 : τ (140 + nu) 4 = x4) (h7 : τ 1 7 = nI (nu + 1))
    (h : zFr (fun i k => inC i k ∧ i ≠ 140 + nu ∧ ¬ (i = 1 ∧ k = 7)) σ τ) : zIC τ (nu + 1) mi := by
  obtain ⟨⟨a1, a2, a3, a4⟩, b, c, d⟩ := H
  obtain ⟨q0, s1, s2, s3, s4⟩ := zconf_ok hx
  have e18 := zFr_row h 18 (fun k => by unfold inC; omega)
  unfold zIC zRu zRl zdy zpl zcd zvo at *
  rw [h7, h 1 9 (by unfold inC; omega), e18]
  refine ⟨⟨rfl, by omega, a3, a4⟩, fun k hk => ?_, fun j hj => ?_, d⟩
  · by_cases q : k = nu
    · subst q; rw [h0, h1]; exact ⟨rfl, s1.1, s1.2⟩
    · rw [h (140 + k) 0 (by unfold inC; omega), h (140 + k) 1 (by unfold inC; omega)]; exact b k (by omega)
  · by_cases q : j = 140 + nu
    · subst q; rw [h2, h3, h4]; exact ⟨s2.1, s2.2.1, s2.2.2, s3.1, s3.2.1, s3.2.2, s4.1, s4.2⟩
    · have hj2 : j = 18 ∨ ∃ k, k < nu ∧ j = 140 + k := by
        rcases hj with r | ⟨k, r1, r2⟩
        · exact Or.inl r
        · exact Or.inr ⟨k, by omega, r2⟩
      have ej : ∀ k, k ≤ 4 → τ j k = σ j k := fun k hk => h j k (by unfold inC; rcases hj2 with r | ⟨r, r1, r2⟩ <;> omega)
      rw [ej 2 (by decide), ej 3 (by decide), ej 4 (by decide)]; exact c j hj2
/-! messages -/
theorem zIm_e {σ τ : zIn} {no nc m : Nat} (e : ∀ k, k ≤ 5 → τ (200 + m) k = σ (200 + m) k) (H : zIm σ no nc m) : zIm τ no nc m := by
  unfold zIm zfm ztt zkd zpd at *
  rw [e 0 (by decide), e 1 (by decide), e 2 (by decide), e 3 (by decide), e 5 (by decide)]; exact H
theorem zIr_e {σ τ : zIn} {nc w5 m : Nat} (e2 : τ (200 + m) 2 = σ (200 + m) 2) (e3 : τ (200 + m) 3 = σ (200 + m) 3) (e4 : τ (200 + m) 4 = σ (200 + m) 4) (e5 : ∀ k, k < w5 → τ (500 + m) k = σ (500 + m) k) (er : ∀ c, c < nc → τ (120 + c) 2 = σ (120 + c) 2) (H : zIr σ nc w5 m) : zIr τ nc w5 m := by
  obtain ⟨h1, h2, h3, h4⟩ := H
  have eo : ∀ k, k < w5 → zro τ m k = zro σ m k := fun k hk => by unfold zro; rw [e5 k hk]
  refine ⟨h1, h2, fun k hk => ?_, ?_⟩
  · rw [e5 k hk, eo k hk]; exact h3 k hk
  · rw [e2, e3, e4, h4]
    congr 3
    exact zsum_cg (fun k hk => by unfold zrt; rw [eo k hk, er _ (h3 k hk).2])
theorem zIw_e {σ τ : zIn} {w3 m : Nat} (e3 : ∀ k, k < w3 → τ (300 + m) k = σ (300 + m) k) (e4 : ∀ k, k < w3 → τ (400 + m) k = σ (400 + m) k) (H : zIw σ w3 m) : zIw τ w3 m :=
  ⟨H.1, H.2.1, fun k hk => by rw [e3 k hk, e4 k hk]; exact H.2.2 k hk⟩
theorem zIq_e {σ τ : zIn} {no w5 m : Nat} (e : ∀ k, 9 ≤ k → k ≤ 12 → τ (200 + m) k = σ (200 + m) k) (H : zIq σ no w5 m) : zIq τ no w5 m := by
  unfold zIq zst zia zlg zlf at *
  rw [e 9 (by decide) (by decide), e 10 (by decide) (by decide), e 11 (by decide) (by decide), e 12 (by decide) (by decide)]; exact H
theorem zIM_e {σ τ : zIn} {n : Nat → Nat} (hn : n 4 ≤ 12) (h : zFr inM σ τ) (H : zIM σ n) : zIM τ n := by
  obtain ⟨⟨a1, a2⟩, b⟩ := H
  refine ⟨⟨by rw [h 1 8 (by unfold inM; omega)]; exact a1, a2⟩, fun m hm => ?_⟩
  obtain ⟨b1, b2, b3, b4⟩ := b m hm
  exact ⟨zIm_e (fun k _ => h _ _ (by unfold inM; omega)) b1, zIr_e (h _ _ (by unfold inM; omega)) (h _ _ (by unfold inM; omega)) (h _ _ (by unfold inM; omega)) (fun k _ => h _ _ (by unfold inM; omega)) (fun c hc => h _ _ (by unfold inM; omega)) b2, zIw_e (fun k _ => h _ _ (by unfold inM; omega)) (fun k _ => h _ _ (by unfold inM; omega)) b3, zIq_e (fun k _ _ => h _ _ (by unfold inM; omega)) b4⟩
theorem zIM_n {κ : zIn} {n n' : Nat → Nat} (h3 : n 3 ≤ n' 3) (h4 : n 4 ≤ n' 4) (h6 : n' 6 = n 6) (hL : ∀ m, m < n 6 → n' (100 + m) = n (100 + m) ∧ n' (200 + m) = n (200 + m)) (H : zIM κ n) : zIM κ n' := by
  obtain ⟨⟨a1, a2⟩, b⟩ := H
  refine ⟨⟨by rw [h6]; exact a1, by omega⟩, fun m hm => ?_⟩
  rw [h6] at hm
  obtain ⟨⟨⟨b1, b2⟩, ⟨b3, b4⟩, b5⟩, ⟨c1, c2, c3, c4⟩, d, ⟨e1, ⟨e2, e3⟩, e4⟩⟩ := b m hm
  obtain ⟨l1, l2⟩ := hL m hm
  rw [l1, l2]
  exact ⟨⟨⟨b1, by omega⟩, ⟨b3, by omega⟩, b5⟩, ⟨c1, c2, fun k hk => ⟨(c3 k hk).1, Nat.lt_of_lt_of_le (c3 k hk).2 h4⟩, c4⟩, d, ⟨e1, ⟨e2, by omega⟩, e4⟩⟩
theorem zbal_e {σ τ : zIn} {n : Nat → Nat} {o : Nat} (H : zIM σ n) (e0 : ∀ m, m < n 6 → ∀ k, (k = 0 ∨ k = 2 ∨ k = 3) → τ (200 + m) k = σ (200 + m) k) (e5 : ∀ m, m < n 6 → ∀ k, k < n (200 + m) → τ (500 + m) k = σ (500 + m) k) (er : ∀ c, c < n 4 → τ (120 + c) 0 = σ (120 + c) 0 ∧ τ (120 + c) 2 = σ (120 + c) 2) : zbal τ n o = zbal σ n o := by
  refine zis_cg (fun m hm => ?_)
  refine zis_cg (fun k hk => ?_)
  have hr := ((H.2 m hm).2.1.2.2.1 k hk).2
  have eo : zro τ m k = zro σ m k := by unfold zro; rw [e5 m hm k hk]
  unfold zsh1 zpart zfm zad
  rw [eo, (er _ hr).1, (er _ hr).2, e0 m hm 0 (by omega), e0 m hm 2 (by omega), e0 m hm 3 (by omega)]
theorem zIF_e {σ τ : zIn} {n : Nat → Nat} (hn3 : n 3 ≤ 8) (hn : n 4 ≤ 12) (hM : zIM σ n) (h : zFr inF σ τ) (H : zIF σ n) : zIF τ n := by
  intro o ho
  have h60 := hM.1.2
  rw [h _ _ (by unfold inF; omega), zbal_e hM (fun m hm k hk => h _ _ (by unfold inF; omega)) (fun m hm k hk => h _ _ (by unfold inF; omega)) (fun c hc => ⟨h _ _ (by unfold inF; omega), h _ _ (by unfold inF; omega)⟩)]
  exact H o ho
theorem zbal_n {κ : zIn} {n n' : Nat → Nat} {o : Nat} (h6 : n' 6 = n 6) (hL : ∀ m, m < n 6 → n' (200 + m) = n (200 + m)) : zbal κ n' o = zbal κ n o := by
  unfold zbal
  rw [h6]
  exact zis_cg (fun m hm => by rw [hL m hm])
theorem zIF_n {κ : zIn} {n n' : Nat → Nat} (h3 : n' 3 = n 3) (h6 : n' 6 = n 6) (hL : ∀ m, m < n 6 → n' (200 + m) = n (200 + m)) (H : zIF κ n) : zIF κ n' := by
  intro o ho
  rw [zbal_n h6 hL]
  exact H o (by omega)
/-- an office that is no cable's and sent nothing has 0 -/
theorem zbal_0 {κ : zIn} {n : Nat → Nat} {o : Nat} (H : zIM κ n) (hB : ∀ c, c < n 4 → zad κ c < o) (ho : n 3 ≤ o) : zbal κ n o = 0 := by
  refine zis_z (fun m hm => ?_)
  refine zis_z (fun k hk => ?_)
  have hr := ((H.2 m hm).2.1.2.2.1 k hk).2
  have hf := (H.2 m hm).1.1.2
  have h1 := hB _ hr
  unfold zsh1
  rw [if_neg (by omega), if_neg (by omega)]; rfl
