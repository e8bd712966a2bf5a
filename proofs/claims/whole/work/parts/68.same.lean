/-! both sides answer alike: what is small -/
theorem zwd_nn {x : Int32} (h : zwd x) : 0 ≤ x := by
  obtain ⟨W, h1, h2⟩ := h
  rw [h2]; exact Int32.not_lt.mp (nI_not_neg (by omega))
theorem zwd_lt {W : Nat} (hW : W < 2 ^ 31) (h : zwd (nI W)) : W < 11881376 := by
  obtain ⟨V, h1, h2⟩ := h
  have := (nI_eq (by omega) (by omega)).mp h2
  omega
/-- a word with one letter changed -/
theorem zwd_with {W q t : Nat} (h : zwd (nI W)) (hW : W < 2 ^ 31) (hq : q < 5) (ht : t < 26) : zwd (nI W + (nI t - nI (zl (nI W) q)) * nI (26 ^ (4 - q))) := by
  have h1 := zwd_lt hW h
  have h2 : zl (nI W) q = W / 26 ^ (4 - q) % 26 := zl_n hW q
  have h3 := zl_lt (nI W) q
  have key : ∀ D R M a t : Nat, W = D * R + M → M < R → a < 26 → D = 26 * (D / 26) + a → D * R + M < 11881376 → R * (26 * (D / 26) + 26) ≤ 11881376 → t < 26 → zwd (nI W + (nI t - nI a) * nI R) := by
    intro D R M a t e1 hM ha e2 hlt hb ht
    have er : (a : Int) * R ≤ W := by
      have : a * R ≤ D * R := Nat.mul_le_mul_right _ (by omega)
      have : a * R ≤ W := by omega
      exact_mod_cast this
    have hR : R ≤ 11881376 := by
      have : R * 1 ≤ R * (26 * (D / 26) + 26) := Nat.mul_le_mul_left _ (by omega)
      omega
    have etR : t * R ≤ 25 * R := Nat.mul_le_mul_right _ (by omega)
    have eaR : a * R ≤ 25 * R := Nat.mul_le_mul_right _ (by omega)
    have hR26 : R * 26 ≤ 11881376 := by
      have : R * 26 ≤ R * (26 * (D / 26) + 26) := Nat.mul_le_mul_left _ (by omega)
      omega
    have hfin : W + t * R - a * R < 11881376 := by
      have x1 : R * (26 * (D / 26) + 26) = R * (26 * (D / 26)) + R * 26 := Nat.mul_add _ _ _
      have x2 : D * R = R * (26 * (D / 26)) + a * R := by
        calc D * R = (26 * (D / 26) + a) * R := by rw [← e2]
          _ = R * (26 * (D / 26)) + a * R := by rw [Nat.add_mul, Nat.mul_comm R]
      have x3 : (t + 1) * R ≤ 26 * R := Nat.mul_le_mul_right _ (by omega)
      have x4 : (t + 1) * R = t * R + R := by rw [Nat.add_mul, Nat.one_mul]
      have x5 : R * 26 = 26 * R := Nat.mul_comm _ _
      omega
    refine ⟨W + t * R - a * R, hfin, ?_⟩
    apply Int32.toInt_inj.mp
    have t1 : (nI W).toInt = W := nI_toInt (by omega)
    have t2 : (nI t).toInt = t := nI_toInt (by omega)
    have t3 : (nI a).toInt = a := nI_toInt (by omega)
    have t4 : (nI R).toInt = R := nI_toInt (by omega)
    have t5 : (nI t - nI a).toInt = (t : Int) - a := by rw [fb_subI (by omega) (by omega), t2, t3]
    have z1 : ((t : Int) - a) * R = (t * R : Nat) - (a * R : Nat) := by rw [Int.sub_mul, Int.natCast_mul, Int.natCast_mul]
    have t6 : ((nI t - nI a) * nI R).toInt = (t * R : Nat) - (a * R : Nat) := by
      rw [fb_mulI (by rw [t5, t4, z1]; omega) (by rw [t5, t4, z1]; omega), t5, t4, z1]
    have er2 : a * R ≤ W := by exact_mod_cast er
    rw [fb_addI (by rw [t1, t6]; omega) (by rw [t1, t6]; omega), t1, t6, nI_toInt (by omega)]
    omega
  have hq5 : q = 0 ∨ q = 1 ∨ q = 2 ∨ q = 3 ∨ q = 4 := by omega
  rw [h2]
  rcases hq5 with rfl | rfl | rfl | rfl | rfl
  · rw [show 26 ^ (4 - 0) = 456976 by decide]
    exact key (W / 456976) 456976 (W % 456976) (W / 456976 % 26) t (by omega) (by omega) (by omega) (by omega) (by omega) (by omega) ht
  · rw [show 26 ^ (4 - 1) = 17576 by decide]
    exact key (W / 17576) 17576 (W % 17576) (W / 17576 % 26) t (by omega) (by omega) (by omega) (by omega) (by omega) (by omega) ht
  · rw [show 26 ^ (4 - 2) = 676 by decide]
    exact key (W / 676) 676 (W % 676) (W / 676 % 26) t (by omega) (by omega) (by omega) (by omega) (by omega) (by omega) ht
  · rw [show 26 ^ (4 - 3) = 26 by decide]
    exact key (W / 26) 26 (W % 26) (W / 26 % 26) t (by omega) (by omega) (by omega) (by omega) (by omega) (by omega) ht
  · rw [show 26 ^ (4 - 4) = 1 by decide]
    exact key (W / 1) 1 (W % 1) (W / 1 % 26) t (by omega) (by omega) (by omega) (by omega) (by omega) (by omega) ht
theorem zca_same {C : Nat → Int32} {ne j : Nat} {w x r r2 : Int32} (hne : ne ≤ 40) (hj : j < 2 ^ 31) (e : x = nI j) (h1 : zin x (zcnt (zP C ne w) ne) = false ∧ r = -1 ∨ ∃ k, k < ne ∧ zP C ne w k ∧ x = nI (zcnt (zP C ne w) k) ∧ r = nI k) (h2 : zca C ne w j r2) : r = r2 := by
  have hc := zcnt_le40 (P := zP C ne w) hne
  rcases h1 with ⟨a1, a2⟩ | ⟨k, k1, k2, k3, k4⟩
  · rcases h2 with ⟨b1, b2⟩ | ⟨k, k1, k2, k3, k4⟩
    · rw [a2, b2]
    · exfalso
      have := zcnt_lt k1 k2
      unfold zin at a1
      rw [e, nI_toInt hj] at a1
      have := of_decide_eq_false a1
      omega
  · have hk := zcnt_le (zP C ne w) k
    have hj2 : j = zcnt (zP C ne w) k := (nI_eq (by omega) (by omega)).mp (e.symm.trans k3)
    rcases h2 with ⟨b1, b2⟩ | ⟨k', q1, q2, q3, q4⟩
    · exfalso
      have := zcnt_lt k1 k2
      omega
    · rw [k4, q4, zcnt_inj k2 q2 (by omega)]
theorem zonly_u {C : Nat → Int32} {n : Nat} {w r r2 : Int32} (h1 : zonly C n w r) (h2 : zonly C n w r2) : r = r2 := by
  rcases h1 with ⟨a1, k, k1, k2, k3⟩ | ⟨a1, a2⟩
  · rcases h2 with ⟨b1, j, j1, j2, j3⟩ | ⟨b1, b2⟩
    · have x1 := zcnt_lt k1 k2
      have x2 := zcnt_lt j1 j2
      rw [k3, j3, zcnt_inj k2 j2 (by omega)]
    · exact absurd a1 b1
  · rcases h2 with ⟨b1, _⟩ | ⟨b1, b2⟩
    · exact absurd b1 a1
    · rw [a2, b2]
theorem zplen_u {P : Nat → Int32} {k a b : Nat} (h1 : zplen P k a) (h2 : zplen P k b) : a = b := by
  rcases Nat.lt_trichotomy a b with q | q | q
  · exact absurd (h1.2.2 (by have := h2.1; omega)) (h2.2.1 a q)
  · exact q
  · exact absurd (h2.2.2 (by have := h1.1; omega)) (h1.2.1 b q)
theorem zrd1_u {σ : zIn} {ne key : Nat} {w me me2 : Int32} {q q2 : Nat} (hne : ne ≤ 40) (h1 : zrd1 σ ne key w me q) (h2 : zrd1 σ ne key w me2 q2) : me = me2 ∧ q = q2 := by
  rcases h1 with ⟨a1, a2, a3⟩ | ⟨a1, r, a2, a3⟩
  · rcases h2 with ⟨b1, b2, b3⟩ | ⟨b1, _⟩
    · exact ⟨a2.trans b2.symm, a3.trans b3.symm⟩
    · exact absurd b1 a1
  · rcases h2 with ⟨b1, _⟩ | ⟨b1, r2, b2, b3⟩
    · exact absurd a1 b1
    · have e := zonly_u a2 b2
      subst e
      rcases a3 with ⟨c1, c2, c3⟩ | ⟨k, j, c1, c2, c3, c4, c5, c6⟩
      · rcases b3 with ⟨d1, d2, d3⟩ | ⟨k, j, d1, d2, d3, d4, d5, d6⟩
        · exact ⟨c2.trans d2.symm, c3.trans d3.symm⟩
        · rw [c1] at d2; exact absurd d2.symm (nI_ne_m1 (by omega))
      · rcases b3 with ⟨d1, d2, d3⟩ | ⟨k', j', d1, d2, d3, d4, d5, d6⟩
        · rw [c2] at d1; exact absurd d1 (nI_ne_m1 (by omega))
        · have e2 : k = k' := (nI_eq (by omega) (by omega)).mp (c2.symm.trans d2)
          subst e2
          have e3 : j = j' := c4.trans d4.symm
          subst e3
          exact ⟨c5.trans d5.symm, zplen_u c6 d6⟩
theorem zsum_cg {f g : Nat → Nat} : ∀ {n : Nat}, (∀ k, k < n → f k = g k) → zsum f n = zsum g n
  | 0, _ => rfl
  | n + 1, h => by show zsum f n + f n = zsum g n + g n; rw [zsum_cg (fun k hk => h k (by omega)), h n (by omega)]
theorem zsum_mn {f : Nat → Nat} {a : Nat} : ∀ {b : Nat}, a ≤ b → zsum f a ≤ zsum f b
  | 0, h => by have : a = 0 := by omega
               subst this; exact Nat.le_refl _
  | b + 1, h => by
    by_cases e : a = b + 1
    · subst e; exact Nat.le_refl _
    · show zsum f a ≤ zsum f b + f b
      have := zsum_mn (f := f) (a := a) (b := b) (by omega)
      omega
theorem zrdA_u {σ : zIn} {ne key m W p : Nat} {me me2 : Nat → Int32} {ql ql2 : Nat → Nat} {r r2 : Int32} (hne : ne ≤ 40) (h1 : zrdA σ ne key m W p me ql r) (h2 : zrdA σ ne key m W p me2 ql2 r2) : r = r2 := by
  rcases h1 with ⟨a1, a2, a3⟩ | ⟨i, a1, a2, a3, a4, a5⟩
  · rcases h2 with ⟨b1, b2, b3⟩ | ⟨i, b1, b2, b3, b4, b5⟩
    · rw [a2, b2]
    · exfalso
      have e : zsum ql (i + 1) = zsum ql2 (i + 1) := zsum_cg (fun k hk => (zrd1_u hne (a3 k (by omega)) (b2 k hk)).2)
      have := zsum_mn (f := ql) (show i + 1 ≤ W by omega)
      omega
  · rcases h2 with ⟨b1, b2, b3⟩ | ⟨i2, b1, b2, b3, b4, b5⟩
    · exfalso
      have e : zsum ql (i + 1) = zsum ql2 (i + 1) := zsum_cg (fun k hk => (zrd1_u hne (a2 k hk) (b3 k (by omega))).2)
      have := zsum_mn (f := ql2) (show i + 1 ≤ W by omega)
      omega
    · have ei : i = i2 := by
        rcases Nat.lt_trichotomy i i2 with q | q | q
        · exfalso
          have e : zsum ql (i + 1) = zsum ql2 (i + 1) := zsum_cg (fun k hk => (zrd1_u hne (a2 k hk) (b2 k (by omega))).2)
          have := zsum_mn (f := ql2) (show i + 1 ≤ i2 by omega)
          omega
        · exact q
        · exfalso
          have e : zsum ql (i2 + 1) = zsum ql2 (i2 + 1) := zsum_cg (fun k hk => (zrd1_u hne (a2 k (by omega)) (b2 k hk)).2)
          have := zsum_mn (f := ql) (show i2 + 1 ≤ i by omega)
          omega
      subst ei
      have e : zsum ql i = zsum ql2 i := zsum_cg (fun k hk => (zrd1_u hne (a2 k (by omega)) (b2 k (by omega))).2)
      rw [a5, b5, e, (zrd1_u hne (a2 i (by omega)) (b2 i (by omega))).1]
/-- the claim -/
theorem zl_dif {x y : Int32} {f : Nat} (hx : zwd x) (hy : zwd y) (hn : x ≠ y) (h : zfst x y f) : f < 5 := by
  obtain ⟨h1, h2, h3⟩ := h
  refine Nat.lt_of_le_of_ne h1 (fun q => hn ?_)
  subst q
  obtain ⟨X, hX, rfl⟩ := hx
  obtain ⟨Y, hY, rfl⟩ := hy
  have k0 := h2 0 (by decide)
  have k1 := h2 1 (by decide)
  have k2 := h2 2 (by decide)
  have k3 := h2 3 (by decide)
  have k4 := h2 4 (by decide)
  rw [zl_n (by omega), zl_n (by omega)] at k0 k1 k2 k3 k4
  simp only [Nat.sub_zero, show 4 - 1 = 3 from rfl, show 4 - 2 = 2 from rfl, show 4 - 3 = 1 from rfl, show 4 - 4 = 0 from rfl, show 26 ^ 4 = 456976 from rfl, show 26 ^ 3 = 17576 from rfl, show 26 ^ 2 = 676 from rfl, show 26 ^ 1 = 26 from rfl, show 26 ^ 0 = 1 from rfl] at k0 k1 k2 k3 k4
  congr 1
  omega
theorem zcl_same {σ : zIn} {m W : Nat} {r r2 : Int32} (hW : W ≤ 24) (hw : zGw W σ m) (h1 : zcl σ m W r) (h2 : zclR σ m W r2) : r = r2 := by
  have df : ∀ k f, k < W → f < 5 → (zdf σ m (5 * k + f) ↔ 0 ≤ σ 50 (24 * m + k) ∧ zl (σ 50 (24 * m + k)) f ≠ zl (σ 51 (24 * m + k)) f) := by
    intro k f hk hf
    unfold zdf
    rw [show (5 * k + f) / 5 = k by omega, show (5 * k + f) % 5 = f by omega]
  have eqq : ∀ k, k < W → σ (300 + m) k = σ (400 + m) k → ∀ f, f < 5 → ¬ zdf σ m (5 * k + f) := by
    intro k hk e f hf q
    obtain ⟨w1, w2, w3⟩ := hw k hk
    exact ((df k f hk hf).mp q).2 (by rw [← w1, ← w2, e])
  rcases h1 with ⟨k, f, a1, a2, a3, a4, a5⟩ | ⟨a1, a2⟩
  · obtain ⟨w1, w2, w3⟩ := hw k a1
    rcases w3 with ⟨w3, w4⟩ | ⟨w3, w4⟩
    · rw [w1, w2] at a3 a4
      have hf := zl_dif w3 w4 a3 a4
      have hd : zdf σ m (5 * k + f) := (df k f a1 hf).mpr ⟨zwd_nn w3, a4.2.2 hf⟩
      have hb : ∀ j, j < 5 * k + f → ¬ zdf σ m j := by
        intro j hj q
        have ej : j = 5 * (j / 5) + j % 5 := by omega
        rw [ej] at q
        by_cases e : j / 5 = k
        · rw [e] at q
          exact ((df k _ a1 (by omega)).mp q).2 (a4.2.1 _ (by omega))
        · exact eqq _ (by omega) (a2 _ (by omega)) _ (by omega) q
      rcases h2 with ⟨j, b1, b2, b3, b4⟩ | ⟨b1, b2⟩
      · have e : j = 5 * k + f := by
          rcases Nat.lt_trichotomy j (5 * k + f) with q | q | q
          · exact absurd b2 (hb j q)
          · exact q
          · exact absurd hd (b3 _ q)
        rw [a5, b4, e, Nat.mul_comm]
      · exact absurd hd (b1 _ (by omega))
    · exact absurd (by rw [w1, w2, w4]) a3
  · rcases h2 with ⟨j, b1, b2, b3, b4⟩ | ⟨b1, b2⟩
    · exfalso
      rw [show j = 5 * (j / 5) + j % 5 by omega] at b2
      exact eqq _ (by omega) (a1 _ (by omega)) _ (by omega) b2
    · rw [a2, b2]
/-- which rules hold: both say the same -/
theorem zrr_cg {P Q : Nat → Prop} {n j : Nat} (h : ∀ k, k < n → (P k ↔ Q k)) (hz : zrr P n j) : zrr Q n j := by
  rcases hz with ⟨a, b⟩ | ⟨k, a, b, c, d⟩
  · exact Or.inl ⟨a, fun k hk q => b k hk ((h k hk).mpr q)⟩
  · exact Or.inr ⟨k, a, b, (h k a).mp c, fun q h1 h2 r => d q h1 h2 ((h q h1).mpr r)⟩
theorem zrat_rr {σ : zIn} {dy : Nat → Nat} {day nu o j : Nat} (h : zrat σ dy day nu o j) : ∃ j2, zrr (fun k => zrc σ dy day o k) nu j2 ∧ j2 ≤ nu ∧ j = (if j2 = 0 then 18 else 139 + j2) := by
  rcases h with ⟨k, a, b, c, d⟩ | ⟨a, b⟩
  · exact ⟨k + 1, Or.inr ⟨k, a, rfl, c, d⟩, by omega, by rw [if_neg (by omega), b]; omega⟩
  · exact ⟨0, Or.inl ⟨rfl, b⟩, Nat.zero_le _, by rw [if_pos rfl, a]⟩
theorem zrat_same {σ : zIn} {dy : Nat → Nat} {day nu o j j2 no mi : Nat} (HC : zGC σ no nu mi) (ho : o < no) (h : zrat σ dy day nu o j) (h2 : zrr (fun k => dy k ≤ day ∧ zbt (σ 27 o) (k + 1) = false) nu j2) : j2 ≤ nu ∧ j = (if j2 = 0 then 18 else 139 + j2) := by
  obtain ⟨j3, a, b, c⟩ := zrat_rr h
  obtain ⟨⟨_, _, hu, _⟩, _, _, _, h5, _⟩ := HC
  have e : j3 = j2 := zrr_u (zrr_cg (fun k hk => by unfold zrc; rw [(h5 o ho (k + 1) (by omega)).1]) a) h2
  subst e
  exact ⟨b, c⟩
