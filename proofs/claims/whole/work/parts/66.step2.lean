/-! the relation through the calls on offices, cables and rules -/
theorem zGB_office {σ τ : zIn} {no nc : Nat} (H : zGB σ no nc) (hx : zx_office no = 0) (h1 : τ (100 + no) 1 = 0) (h2 : τ (100 + no) 2 = 0) (h3 : τ (100 + no) 3 = 0) (h4 : τ 13 4 = nI (no + 1)) (h5 : τ 21 5 = nI (no + 1))
    (hf : zFr (fun i k => inB i k ∧ i ≠ 100 + no ∧ ¬ (i = 13 ∧ k = 4) ∧ ¬ (i = 21 ∧ k = 5)) σ τ) : zGB τ (no + 1) nc := by
  obtain ⟨⟨a1, a2, a3, a4, a5, a6⟩, b, d, e, f⟩ := H
  have q : no ≠ 8 := fun q => by unfold zx_office at hx; rw [if_pos q] at hx; exact absurd hx (by decide)
  have e25 := zFr_row hf 25 (fun k => by unfold inB; omega)
  have e26 := zFr_row hf 26 (fun k => by unfold inB; omega)
  have e28 := zFr_row hf 28 (fun k => by unfold inB; omega)
  have e29 := zFr_row hf 29 (fun k => by unfold inB; omega)
  have e30 := zFr_row hf 30 (fun k => by unfold inB; omega)
  have e31 := zFr_row hf 31 (fun k => by unfold inB; omega)
  have e32 := zFr_row hf 32 (fun k => by unfold inB; omega)
  have e33 := zFr_row hf 33 (fun k => by unfold inB; omega)
  unfold zGB zf at *
  rw [h4, h5, hf 13 5 (by unfold inB; omega), hf 21 10 (by unfold inB; omega), e25, e26, e28, e29, e30, e31, e32, e33]
  refine ⟨⟨rfl, rfl, by omega, a4, a5, a6⟩, fun o ho => ?_, fun o ho => d o (by omega), fun c hc => ?_, f⟩
  · by_cases q2 : o = no
    · subst q2
      obtain ⟨d1, d2, d3⟩ := d o (Nat.le_refl _)
      rw [h1, h2, h3, d1, d2, d3]
      exact ⟨rfl, rfl, rfl, Or.inl rfl, by decide⟩
    · rw [hf (100 + o) 1 (by unfold inB; omega), hf (100 + o) 2 (by unfold inB; omega), hf (100 + o) 3 (by unfold inB; omega)]
      exact b o (by omega)
  · obtain ⟨c1, c2, c3, c4, c5⟩ := e c hc
    rw [hf (120 + c) 0 (by unfold inB; omega), hf (120 + c) 1 (by unfold inB; omega), hf (120 + c) 2 (by unfold inB; omega), hf (120 + c) 3 (by unfold inB; omega), hf (120 + c) 4 (by unfold inB; omega)]
    exact ⟨c1, ⟨c2.1, by omega⟩, ⟨c3.1, by omega⟩, c4, c5⟩
theorem zGB_cable {σ τ : zIn} {no nc : Nat} {x1 x2 x3 x4 : Int32} (H : zGB σ no nc) (hx : zx_cable no nc x1 x2 x3 x4 = 0) (h0 : τ (120 + nc) 0 = x1) (h1 : τ (120 + nc) 1 = x2) (h2 : τ (120 + nc) 2 = x3) (h3 : τ (120 + nc) 3 = x4) (h4 : τ (120 + nc) 4 = 0)
    (h29 : τ 29 = upd (σ 29) nc x1) (h30 : τ 30 = upd (σ 30) nc x2) (h31 : τ 31 = upd (σ 31) nc x3) (h32 : τ 32 = upd (σ 32) nc x4) (h5 : τ 13 5 = nI (nc + 1)) (h6 : τ 21 10 = nI (nc + 1))
    (hf : zFr (fun i k => inB i k ∧ i ≠ 120 + nc ∧ i ≠ 29 ∧ i ≠ 30 ∧ i ≠ 31 ∧ i ≠ 32 ∧ ¬ (i = 13 ∧ k = 5) ∧ ¬ (i = 21 ∧ k = 10)) σ τ) : zGB τ no (nc + 1) := by
  obtain ⟨⟨a1, a2, a3, a4, a5, a6⟩, b, d, e, f⟩ := H
  unfold zx_cable at hx
  by_cases q1 : zin x1 no = true ∧ zin x2 no = true
  · rw [if_neg (fun q => q q1)] at hx
    by_cases q2 : x1 = x2 ∨ (x3 < 1 ∨ 100 < x3) ∨ (x4 < 1 ∨ 20 < x4)
    · rw [if_pos q2] at hx; exact absurd hx (by decide)
    rw [if_neg q2] at hx
    by_cases q3 : nc = 12
    · rw [if_pos q3] at hx; exact absurd hx (by decide)
    obtain ⟨j1, hj1, r1⟩ := zin_t q1.1 (by omega)
    obtain ⟨j2, hj2, r2⟩ := zin_t q1.2 (by omega)
    have s1 := zn_self r1 (by omega)
    have s2 := zn_self r2 (by omega)
    have s3 := z_range (x := x3) (a := 1) (b := 100) (Int32.not_lt.mp (fun q => q2 (Or.inr (Or.inl (Or.inl q))))) (Int32.not_lt.mp (fun q => q2 (Or.inr (Or.inl (Or.inr q))))) (by decide) (by decide)
    have s4 := z_range (x := x4) (a := 1) (b := 20) (Int32.not_lt.mp (fun q => q2 (Or.inr (Or.inr (Or.inl q))))) (Int32.not_lt.mp (fun q => q2 (Or.inr (Or.inr (Or.inr q))))) (by decide) (by decide)
    have e25 := zFr_row hf 25 (fun k => by unfold inB; omega)
    have e26 := zFr_row hf 26 (fun k => by unfold inB; omega)
    have e28 := zFr_row hf 28 (fun k => by unfold inB; omega)
    have e33 := zFr_row hf 33 (fun k => by unfold inB; omega)
    unfold zGB zf at *
    rw [h5, h6, hf 13 4 (by unfold inB; omega), hf 21 5 (by unfold inB; omega), e25, e26, e28, h29, h30, h31, h32, e33]
    refine ⟨⟨a1, a2, a3, rfl, rfl, by omega⟩, fun o ho => ?_, d, fun c hc => ?_, fun c hc => f c (by omega)⟩
    · rw [hf (100 + o) 1 (by unfold inB; omega), hf (100 + o) 2 (by unfold inB; omega), hf (100 + o) 3 (by unfold inB; omega)]
      exact b o ho
    · by_cases q4 : c = nc
      · subst q4
        rw [h0, h1, h2, h3, h4, zupd_s, zupd_s, zupd_s, zupd_s, f c (Nat.le_refl _)]
        refine ⟨⟨rfl, rfl, rfl, rfl, rfl⟩, ⟨s1.1, by omega⟩, ⟨s2.1, by omega⟩, fun q => q2 (Or.inl (by rw [r1, r2]; congr 1; omega)), s3, s4, Or.inl rfl⟩
      · rw [hf (120 + c) 0 (by unfold inB; omega), hf (120 + c) 1 (by unfold inB; omega), hf (120 + c) 2 (by unfold inB; omega), hf (120 + c) 3 (by unfold inB; omega), hf (120 + c) 4 (by unfold inB; omega), zupd_n q4, zupd_n q4, zupd_n q4, zupd_n q4]
        exact e c (by omega)
  · rw [if_pos q1] at hx; exact absurd hx (by decide)
theorem zGB_broken {σ τ : zIn} {no nc c : Nat} {y : Int32} (H : zGB σ no nc) (hc : c < nc) (hy : y = 0 ∨ y = 1) (h4 : τ (120 + c) 4 = y) (h33 : τ 33 = upd (σ 33) c y)
    (hf : zFr (fun i k => inB i k ∧ ¬ (i = 120 + c ∧ k = 4) ∧ i ≠ 33) σ τ) : zGB τ no nc := by
  obtain ⟨⟨a1, a2, a3, a4, a5, a6⟩, b, d, e, f⟩ := H
  have e25 := zFr_row hf 25 (fun k => by unfold inB; omega)
  have e26 := zFr_row hf 26 (fun k => by unfold inB; omega)
  have e28 := zFr_row hf 28 (fun k => by unfold inB; omega)
  have e29 := zFr_row hf 29 (fun k => by unfold inB; omega)
  have e30 := zFr_row hf 30 (fun k => by unfold inB; omega)
  have e31 := zFr_row hf 31 (fun k => by unfold inB; omega)
  have e32 := zFr_row hf 32 (fun k => by unfold inB; omega)
  unfold zGB zf at *
  rw [hf 13 4 (by unfold inB; omega), hf 21 5 (by unfold inB; omega), hf 13 5 (by unfold inB; omega), hf 21 10 (by unfold inB; omega), e25, e26, e28, e29, e30, e31, e32, h33]
  refine ⟨⟨a1, a2, a3, a4, a5, a6⟩, fun o ho => ?_, d, fun k hk => ?_, fun k hk => by rw [zupd_n (by omega)]; exact f k hk⟩
  · rw [hf (100 + o) 1 (by unfold inB; omega), hf (100 + o) 2 (by unfold inB; omega), hf (100 + o) 3 (by unfold inB; omega)]
    exact b o ho
  · obtain ⟨⟨c1, c2, c3, c4, c5⟩, c6, c7, c8, c9, c10, c11⟩ := e k hk
    rw [hf (120 + k) 0 (by unfold inB; omega), hf (120 + k) 1 (by unfold inB; omega), hf (120 + k) 2 (by unfold inB; omega), hf (120 + k) 3 (by unfold inB; omega)]
    by_cases q : k = c
    · subst q; rw [h4, zupd_s]; exact ⟨⟨c1, c2, c3, c4, rfl⟩, c6, c7, c8, c9, c10, hy⟩
    · rw [hf (120 + k) 4 (by unfold inB; omega), zupd_n q]; exact ⟨⟨c1, c2, c3, c4, c5⟩, c6, c7, c8, c9, c10, c11⟩
theorem zGB_forbid {σ τ : zIn} {no nc o : Nat} {y : Int32} (H : zGB σ no nc) (hc : o < no) (hy : y = 0 ∨ y = 1) (h4 : τ (100 + o) 2 = y) (h25 : τ 25 = upd (σ 25) o y)
    (hf : zFr (fun i k => inB i k ∧ ¬ (i = 100 + o ∧ k = 2) ∧ i ≠ 25) σ τ) : zGB τ no nc := by
  obtain ⟨⟨a1, a2, a3, a4, a5, a6⟩, b, d, e, f⟩ := H
  have e33 := zFr_row hf 33 (fun k => by unfold inB; omega)
  have e26 := zFr_row hf 26 (fun k => by unfold inB; omega)
  have e28 := zFr_row hf 28 (fun k => by unfold inB; omega)
  have e29 := zFr_row hf 29 (fun k => by unfold inB; omega)
  have e30 := zFr_row hf 30 (fun k => by unfold inB; omega)
  have e31 := zFr_row hf 31 (fun k => by unfold inB; omega)
  have e32 := zFr_row hf 32 (fun k => by unfold inB; omega)
  unfold zGB zf at *
  rw [hf 13 4 (by unfold inB; omega), hf 21 5 (by unfold inB; omega), hf 13 5 (by unfold inB; omega), hf 21 10 (by unfold inB; omega), h25, e26, e28, e29, e30, e31, e32, e33]
  refine ⟨⟨a1, a2, a3, a4, a5, a6⟩, fun k hk => ?_, fun k hk => by rw [zupd_n (by omega)]; exact d k hk, fun k hk => ?_, f⟩
  · obtain ⟨b1, b2, b3, b4, b5⟩ := b k hk
    rw [hf (100 + k) 1 (by unfold inB; omega), hf (100 + k) 3 (by unfold inB; omega)]
    by_cases q : k = o
    · subst q; rw [h4, zupd_s]; exact ⟨b1, rfl, b3, hy, b5⟩
    · rw [hf (100 + k) 2 (by unfold inB; omega), zupd_n q]; exact ⟨b1, b2, b3, b4, b5⟩
  · rw [hf (120 + k) 0 (by unfold inB; omega), hf (120 + k) 1 (by unfold inB; omega), hf (120 + k) 2 (by unfold inB; omega), hf (120 + k) 3 (by unfold inB; omega), hf (120 + k) 4 (by unfold inB; omega)]
    exact e k hk
theorem zGB_key {σ τ : zIn} {no nc o : Nat} {y : Int32} (H : zGB σ no nc) (hc : o < no) (hy : y = nI (zn y) ∧ zn y ≤ 39) (h4 : τ (100 + o) 1 = y) (h26 : τ 26 = upd (σ 26) o y)
    (hf : zFr (fun i k => inB i k ∧ ¬ (i = 100 + o ∧ k = 1) ∧ i ≠ 26) σ τ) : zGB τ no nc := by
  obtain ⟨⟨a1, a2, a3, a4, a5, a6⟩, b, d, e, f⟩ := H
  have e33 := zFr_row hf 33 (fun k => by unfold inB; omega)
  have e25 := zFr_row hf 25 (fun k => by unfold inB; omega)
  have e28 := zFr_row hf 28 (fun k => by unfold inB; omega)
  have e29 := zFr_row hf 29 (fun k => by unfold inB; omega)
  have e30 := zFr_row hf 30 (fun k => by unfold inB; omega)
  have e31 := zFr_row hf 31 (fun k => by unfold inB; omega)
  have e32 := zFr_row hf 32 (fun k => by unfold inB; omega)
  unfold zGB zf at *
  rw [hf 13 4 (by unfold inB; omega), hf 21 5 (by unfold inB; omega), hf 13 5 (by unfold inB; omega), hf 21 10 (by unfold inB; omega), h26, e25, e28, e29, e30, e31, e32, e33]
  refine ⟨⟨a1, a2, a3, a4, a5, a6⟩, fun k hk => ?_, fun k hk => by rw [zupd_n (by omega)]; exact d k hk, fun k hk => ?_, f⟩
  · obtain ⟨b1, b2, b3, b4, b5⟩ := b k hk
    rw [hf (100 + k) 2 (by unfold inB; omega), hf (100 + k) 3 (by unfold inB; omega)]
    by_cases q : k = o
    · subst q; rw [h4, zupd_s]; exact ⟨rfl, b2, b3, b4, hy⟩
    · rw [hf (100 + k) 1 (by unfold inB; omega), zupd_n q]; exact ⟨b1, b2, b3, b4, b5⟩
  · rw [hf (120 + k) 0 (by unfold inB; omega), hf (120 + k) 1 (by unfold inB; omega), hf (120 + k) 2 (by unfold inB; omega), hf (120 + k) 3 (by unfold inB; omega), hf (120 + k) 4 (by unfold inB; omega)]
    exact e k hk
/-- bits -/
theorem zbt_b {x : Int32} {k : Nat} (hk : k ≤ 31) : zbt x k = x.toBitVec.getLsbD k := by
  have e31 : (nI k &&& 31) = nI k := by
    have : ∀ k, k ≤ 31 → (nI k &&& 31) = nI k := by decide
    exact this k hk
  have esm : (nI k).toBitVec.smod 32 = BitVec.ofNat 32 k := by
    have : ∀ k, k ≤ 31 → (nI k).toBitVec.smod 32 = BitVec.ofNat 32 k := by decide
    exact this k hk
  have h1 : ((x >>> nI k) &&& 1).toBitVec = (BitVec.ofBool (x.toBitVec.getLsbD k)).setWidth 32 := by
    rw [Int32.toBitVec_and, Int32.toBitVec_shiftRight, esm]
    apply BitVec.eq_of_getLsbD_eq
    intro i hi
    simp only [BitVec.getLsbD_and, BitVec.sshiftRight_eq', BitVec.toNat_ofNat, BitVec.getLsbD_sshiftRight, BitVec.getLsbD_setWidth, BitVec.getLsbD_ofBool]
    rw [show k % 2 ^ 32 = k by omega]
    have h2 : (1 : Int32).toBitVec.getLsbD i = decide (i = 0) := by
      have : ∀ i, i < 32 → (1 : Int32).toBitVec.getLsbD i = decide (i = 0) := by decide
      exact this i hi
    rw [h2]
    cases i with
    | zero =>
      have : k < 32 := by omega
      simp [this]
    | succ i => simp
  unfold zbt
  rw [e31]
  cases hb : x.toBitVec.getLsbD k with
  | false =>
    rw [hb] at h1
    refine decide_eq_false (fun q => q ?_)
    exact Int32.toBitVec_inj.mp (h1.trans (by decide))
  | true =>
    rw [hb] at h1
    refine decide_eq_true (fun q => ?_)
    rw [q] at h1
    exact absurd h1 (by decide)
theorem zbt_or {x : Int32} {k j : Nat} (hk : k ≤ 31) (hj : j ≤ 31) : zbt (x ||| ((1 : Int32) <<< (nI k &&& 31))) j = (zbt x j || decide (j = k)) := by
  rw [zbt_b hj, zbt_b hj, Int32.toBitVec_or, BitVec.getLsbD_or]
  congr 1
  have : ∀ k, k ≤ 31 → ∀ j, j ≤ 31 → ((1 : Int32) <<< (nI k &&& 31)).toBitVec.getLsbD j = decide (j = k) := by decide
  exact this k hk j hj
theorem zbt_0 : ∀ k, k ≤ 12 → zbt 0 k = false := by decide
theorem zGC_office {σ τ : zIn} {no nu mi : Nat} (H : zGC σ no nu mi) (hn : no < 8) (h0 : ∀ k, τ (110 + no) k = 0) (hf : zFr (fun i k => inC i k ∧ i ≠ 110 + no) σ τ) : zGC τ (no + 1) nu mi := by
  have e27 := zFr_row hf 27 (fun k => by unfold inC; omega)
  have e34 := zFr_row hf 34 (fun k => by unfold inC; omega)
  have e35 := zFr_row hf 35 (fun k => by unfold inC; omega)
  have e36 := zFr_row hf 36 (fun k => by unfold inC; omega)
  have e37 := zFr_row hf 37 (fun k => by unfold inC; omega)
  have e18 := zFr_row hf 18 (fun k => by unfold inC; omega)
  obtain ⟨⟨a1, a2, a3, a4, a5, a6, a7⟩, h2, h3, h4, h5, h6⟩ := H
  unfold zGC zf at *
  rw [hf 1 7 (by unfold inC; omega), hf 1 9 (by unfold inC; omega), hf 21 16 (by unfold inC; omega), hf 21 47 (by unfold inC; omega), e27, e34, e35, e36, e37, e18]
  refine ⟨⟨a1, a2, a3, a4, a5, a6, by omega⟩, fun k hk => ?_, h3, h4, fun o ho k hk => ?_, fun o ho => h6 o (by omega)⟩
  · rw [hf (140 + k) 0 (by unfold inC; omega), hf (140 + k) 1 (by unfold inC; omega), hf (140 + k) 2 (by unfold inC; omega), hf (140 + k) 3 (by unfold inC; omega), hf (140 + k) 4 (by unfold inC; omega)]
    exact h2 k hk
  · by_cases q : o = no
    · subst q
      rw [h0, h6 o (Nat.le_refl _), zbt_0 k hk]
      exact ⟨⟨fun _ => rfl, fun _ => rfl⟩, fun _ => rfl⟩
    · rw [hf (110 + o) k (by unfold inC; omega)]
      exact h5 o (by omega) k hk
theorem zGC_minute {σ τ : zIn} {no nu mi mi2 : Nat} (H : zGC σ no nu mi) (hm : mi2 ≤ 1000000) (h9 : τ 1 9 = nI mi2) (h47 : τ 21 47 = nI mi2) (hf : zFr (fun i k => inC i k ∧ ¬ (i = 1 ∧ k = 9) ∧ ¬ (i = 21 ∧ k = 47)) σ τ) : zGC τ no nu mi2 := by
  have e27 := zFr_row hf 27 (fun k => by unfold inC; omega)
  have e34 := zFr_row hf 34 (fun k => by unfold inC; omega)
  have e35 := zFr_row hf 35 (fun k => by unfold inC; omega)
  have e36 := zFr_row hf 36 (fun k => by unfold inC; omega)
  have e37 := zFr_row hf 37 (fun k => by unfold inC; omega)
  have e18 := zFr_row hf 18 (fun k => by unfold inC; omega)
  obtain ⟨⟨a1, a2, a3, a4, a5, a6, a7⟩, h2, h3, h4, h5, h6⟩ := H
  unfold zGC zf at *
  rw [hf 1 7 (by unfold inC; omega), h9, hf 21 16 (by unfold inC; omega), h47, e27, e34, e35, e36, e37, e18]
  refine ⟨⟨a1, a2, a3, rfl, rfl, hm, a7⟩, fun k hk => ?_, h3, h4, fun o ho k hk => ?_, h6⟩
  · rw [hf (140 + k) 0 (by unfold inC; omega), hf (140 + k) 1 (by unfold inC; omega), hf (140 + k) 2 (by unfold inC; omega), hf (140 + k) 3 (by unfold inC; omega), hf (140 + k) 4 (by unfold inC; omega)]
    exact h2 k hk
  · rw [hf (110 + o) k (by unfold inC; omega)]
    exact h5 o ho k hk
theorem zGC_reserve {σ τ : zIn} {no nu mi o k : Nat} (H : zGC σ no nu mi) (ho : o < no) (hk : 1 ≤ k) (hku : k ≤ nu) (h1 : τ (110 + o) k = 1) (h27 : τ 27 = upd (σ 27) o (σ 27 o ||| ((1 : Int32) <<< (nI k &&& 31))))
    (hf : zFr (fun i q => inC i q ∧ ¬ (i = 110 + o ∧ q = k) ∧ i ≠ 27) σ τ) : zGC τ no nu mi := by
  have e34 := zFr_row hf 34 (fun k => by unfold inC; omega)
  have e35 := zFr_row hf 35 (fun k => by unfold inC; omega)
  have e36 := zFr_row hf 36 (fun k => by unfold inC; omega)
  have e37 := zFr_row hf 37 (fun k => by unfold inC; omega)
  obtain ⟨⟨a1, a2, a3, a4, a5, a6, a7⟩, h2, h3, h4, h5, h6⟩ := H
  have e18 := zFr_row hf 18 (fun k => by unfold inC; omega)
  unfold zGC zf at *
  rw [hf 1 7 (by unfold inC; omega), hf 1 9 (by unfold inC; omega), hf 21 16 (by unfold inC; omega), hf 21 47 (by unfold inC; omega), h27, e34, e35, e36, e37, e18]
  refine ⟨⟨a1, a2, a3, a4, a5, a6, a7⟩, fun j hj => ?_, h3, h4, fun o2 ho2 j hj => ?_, fun o2 ho2 => by rw [zupd_n (by omega)]; exact h6 o2 ho2⟩
  · rw [hf (140 + j) 0 (by unfold inC; omega), hf (140 + j) 1 (by unfold inC; omega), hf (140 + j) 2 (by unfold inC; omega), hf (140 + j) 3 (by unfold inC; omega), hf (140 + j) 4 (by unfold inC; omega)]
    exact h2 j hj
  · by_cases q : o2 = o
    · subst q
      rw [zupd_s, zbt_or (by omega) (by omega)]
      by_cases q2 : j = k
      · subst q2
        rw [h1]
        refine ⟨⟨fun q => absurd q (by decide), fun q => by simp at q⟩, fun q => by omega⟩
      · rw [hf (110 + o2) j (by unfold inC; omega), decide_eq_false q2, Bool.or_false]
        exact h5 o2 ho2 j hj
    · rw [hf (110 + o2) j (by unfold inC; omega), zupd_n q]
      exact h5 o2 ho2 j hj
theorem zGC_conf {σ τ : zIn} {no nu mi : Nat} {x1 x2 x3 x4 : Int32} (H : zGC σ no nu mi) (hx : zx_conf nu x1 x2 x3 x4 = 0) (h0 : τ (140 + nu) 0 = nI (nu + 1)) (h1 : τ (140 + nu) 1 = x1) (h2 : τ (140 + nu) 2 = x2) (h3 : τ (140 + nu) 3 = x3) (h4 : τ (140 + nu) 4 = x4)
    (h34 : τ 34 = upd (σ 34) (nu + 1) x1) (h35 : τ 35 = upd (σ 35) (nu + 1) x2) (h36 : τ 36 = upd (σ 36) (nu + 1) x3) (h37 : τ 37 = upd (σ 37) (nu + 1) x4) (h7 : τ 1 7 = nI (nu + 1)) (h16 : τ 21 16 = nI (nu + 1))
    (hf : zFr (fun i k => inC i k ∧ i ≠ 140 + nu ∧ i ≠ 34 ∧ i ≠ 35 ∧ i ≠ 36 ∧ i ≠ 37 ∧ ¬ (i = 1 ∧ k = 7) ∧ ¬ (i = 21 ∧ k = 16)) σ τ) : zGC τ no (nu + 1) mi := by
  obtain ⟨⟨a1, a2, a3, a4, a5, a6, a7⟩, b2, b3, b4, b5, b6⟩ := H
  unfold zx_conf at hx
  by_cases q1 : (x1 < 0 ∨ 1000 < x1) ∨ (x2 < 5 ∨ 20 < x2) ∨ (x3 ≠ 5 ∧ x3 ≠ 10 ∧ x3 ≠ 15) ∨ (x4 < 0 ∨ 3 < x4)
  · rw [if_pos q1] at hx; exact absurd hx (by decide)
  rw [if_neg q1] at hx
  by_cases q2 : nu = 12
  · rw [if_pos q2] at hx; exact absurd hx (by decide)
  have s1 := z_range (x := x1) (a := 0) (b := 1000) (Int32.not_lt.mp (fun q => q1 (Or.inl (Or.inl q)))) (Int32.not_lt.mp (fun q => q1 (Or.inl (Or.inr q)))) (by decide) (by decide)
  have s2 := z_range (x := x2) (a := 5) (b := 20) (Int32.not_lt.mp (fun q => q1 (Or.inr (Or.inl (Or.inl q))))) (Int32.not_lt.mp (fun q => q1 (Or.inr (Or.inl (Or.inr q))))) (by decide) (by decide)
  have s3 : x3 = nI (zn x3) ∧ 5 ≤ zn x3 ∧ zn x3 ≤ 15 := by
    rcases Classical.em (x3 = 5) with r | r
    · rw [r]; decide
    rcases Classical.em (x3 = 10) with r2 | r2
    · rw [r2]; decide
    rcases Classical.em (x3 = 15) with r3 | r3
    · rw [r3]; decide
    exact absurd (Or.inr (Or.inr (Or.inl ⟨r, r2, r3⟩))) q1
  have s4 := z_range (x := x4) (a := 0) (b := 3) (Int32.not_lt.mp (fun q => q1 (Or.inr (Or.inr (Or.inr (Or.inl q)))))) (Int32.not_lt.mp (fun q => q1 (Or.inr (Or.inr (Or.inr (Or.inr q)))))) (by decide) (by decide)
  have e27 := zFr_row hf 27 (fun k => by unfold inC; omega)
  have e18 := zFr_row hf 18 (fun k => by unfold inC; omega)
  unfold zGC zf at *
  rw [h7, hf 1 9 (by unfold inC; omega), h16, hf 21 47 (by unfold inC; omega), e27, h34, h35, h36, h37, e18]
  refine ⟨⟨rfl, rfl, by omega, a4, a5, a6, a7⟩, fun k hk => ?_, ?_, fun k hk => ?_, fun o ho k hk => ?_, b6⟩
  · by_cases q : k = nu
    · subst q
      rw [h0, h1, h2, h3, h4, zupd_s, zupd_s, zupd_s, zupd_s]
      exact ⟨rfl, rfl, rfl, rfl, rfl, s1.1, s1.2.2⟩
    · rw [hf (140 + k) 0 (by unfold inC; omega), hf (140 + k) 1 (by unfold inC; omega), hf (140 + k) 2 (by unfold inC; omega), hf (140 + k) 3 (by unfold inC; omega), hf (140 + k) 4 (by unfold inC; omega), zupd_n (by omega), zupd_n (by omega), zupd_n (by omega), zupd_n (by omega)]
      exact b2 k (by omega)
  · rw [zupd_n (by omega), zupd_n (by omega), zupd_n (by omega)]; exact b3
  · by_cases q : k = nu + 1
    · subst q
      rw [zupd_s, zupd_s, zupd_s]
      exact ⟨s2, s3, s4.1, s4.2.2⟩
    · rw [zupd_n q, zupd_n q, zupd_n q]; exact b4 k (by omega)
  · rw [hf (110 + o) k (by unfold inC; omega)]
    exact ⟨(b5 o ho k hk).1, fun q => (b5 o ho k hk).2 (by omega)⟩
