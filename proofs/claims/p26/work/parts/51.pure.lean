/-! pure lemmas: letters, reading, packing, minutes, frames -/
def zFr (P : Nat → Nat → Prop) (σ τ : zIn) : Prop := ∀ i k, P i k → τ i k = σ i k
theorem zFr_row {P : Nat → Nat → Prop} {σ τ : zIn} (h : zFr P σ τ) (i : Nat) (hi : ∀ k, P i k) : τ i = σ i := funext fun k => h i k (hi k)
def zf (σ : zIn) (i m : Nat) : Nat := zn (σ i m)
def zPh (P : Nat → Int32) (ne : Nat) : Prop := (∀ k, k < ne → ∀ j, j < 3 → P (4 * k + j) = -1 → P (4 * k + j + 1) = -1) ∧ ∀ j k, j < ne → k < ne → (∀ i, i < 4 → P (4 * j + i) = P (4 * k + i)) → j = k
theorem zwd_nn {x : Int32} (h : zwd x) : 0 ≤ x := by
  obtain ⟨W, h1, h2⟩ := h
  rw [h2]; exact Int32.not_lt.mp (nI_not_neg (by omega))
theorem zwd_lt {W : Nat} (hW : W < 2 ^ 31) (h : zwd (nI W)) : W < 11881376 := by
  obtain ⟨V, h1, h2⟩ := h
  have := (nI_eq (by omega) (by omega)).mp h2
  omega
theorem zwd_with {W q t : Nat} (h : zwd (nI W)) (hW : W < 2 ^ 31) (hq : q < 5) (ht : t < 26) : zwd (nI W + (nI t - nI (zl (nI W) q)) * nI (26 ^ (4 - q))) := by
  have h1 := zwd_lt hW h
  have h2 : zl (nI W) q = W / 26 ^ (4 - q) % 26 := zl_n hW q
  have h3 := zl_lt (nI W) q
  have key : ∀ D R M a t : Nat, W = D * R + M → M < R → a < 26 → D = 26 * (D / 26) + a → D * R + M < 11881376 → R * (26 * (D / 26) + 26) ≤ 11881376 → t < 26 → zwd (nI W + (nI t - nI a) * nI R) := by
    intro D R M a t e1 hM ha e2 hlt hb ht
    have er : (a : Int) * R ≤ W := by
      have : a * R ≤ D * R := Nat.mul_le_mul_right _ (by omega)
      have : a * R ≤ W := by omega
      exact_mod_cast this
    have hR : R ≤ 11881376 := by
      have : R * 1 ≤ R * (26 * (D / 26) + 26) := Nat.mul_le_mul_left _ (by omega)
      omega
    have etR : t * R ≤ 25 * R := Nat.mul_le_mul_right _ (by omega)
    have eaR : a * R ≤ 25 * R := Nat.mul_le_mul_right _ (by omega)
    have hR26 : R * 26 ≤ 11881376 := by
      have : R * 26 ≤ R * (26 * (D / 26) + 26) := Nat.mul_le_mul_left _ (by omega)
      omega
    have hfin : W + t * R - a * R < 11881376 := by
      have x1 : R * (26 * (D / 26) + 26) = R * (26 * (D / 26)) + R * 26 := Nat.mul_add _ _ _
      have x2 : D * R = R * (26 * (D / 26)) + a * R := by
        calc D * R = (26 * (D / 26) + a) * R := by rw [← e2]
          _ = R * (26 * (D / 26)) + a * R := by rw [Nat.add_mul, Nat.mul_comm R]
      have x3 : (t + 1) * R ≤ 26 * R := Nat.mul_le_mul_right _ (by omega)
      have x4 : (t + 1) * R = t * R + R := by rw [Nat.add_mul, Nat.one_mul]
      have x5 : R * 26 = 26 * R := Nat.mul_comm _ _
      omega
    refine ⟨W + t * R - a * R, hfin, ?_⟩
    apply Int32.toInt_inj.mp
    have t1 : (nI W).toInt = W := nI_toInt (by omega)
    have t2 : (nI t).toInt = t := nI_toInt (by omega)
    have t3 : (nI a).toInt = a := nI_toInt (by omega)
    have t4 : (nI R).toInt = R := nI_toInt (by omega)
    have t5 : (nI t - nI a).toInt = (t : Int) - a := by rw [fb_subI (by omega) (by omega), t2, t3]
    have z1 : ((t : Int) - a) * R = (t * R : Nat) - (a * R : Nat) := by rw [Int.sub_mul, Int.natCast_mul, Int.natCast_mul]
    have t6 : ((nI t - nI a) * nI R).toInt = (t * R : Nat) - (a * R : Nat) := by
      rw [fb_mulI (by rw [t5, t4, z1]; omega) (by rw [t5, t4, z1]; omega), t5, t4, z1]
    have er2 : a * R ≤ W := by exact_mod_cast er
    rw [fb_addI (by rw [t1, t6]; omega) (by rw [t1, t6]; omega), t1, t6, nI_toInt (by omega)]
    omega
  have hq5 : q = 0 ∨ q = 1 ∨ q = 2 ∨ q = 3 ∨ q = 4 := by omega
  rw [h2]
  rcases hq5 with rfl | rfl | rfl | rfl | rfl
  · rw [show 26 ^ (4 - 0) = 456976 by decide]
    exact key (W / 456976) 456976 (W % 456976) (W / 456976 % 26) t (by omega) (by omega) (by omega) (by omega) (by omega) (by omega) ht
  · rw [show 26 ^ (4 - 1) = 17576 by decide]
    exact key (W / 17576) 17576 (W % 17576) (W / 17576 % 26) t (by omega) (by omega) (by omega) (by omega) (by omega) (by omega) ht
  · rw [show 26 ^ (4 - 2) = 676 by decide]
    exact key (W / 676) 676 (W % 676) (W / 676 % 26) t (by omega) (by omega) (by omega) (by omega) (by omega) (by omega) ht
  · rw [show 26 ^ (4 - 3) = 26 by decide]
    exact key (W / 26) 26 (W % 26) (W / 26 % 26) t (by omega) (by omega) (by omega) (by omega) (by omega) (by omega) ht
  · rw [show 26 ^ (4 - 4) = 1 by decide]
    exact key (W / 1) 1 (W % 1) (W / 1 % 26) t (by omega) (by omega) (by omega) (by omega) (by omega) (by omega) ht
theorem zonly_u {C : Nat → Int32} {n : Nat} {w r r2 : Int32} (h1 : zonly C n w r) (h2 : zonly C n w r2) : r = r2 := by
  rcases h1 with ⟨a1, k, k1, k2, k3⟩ | ⟨a1, a2⟩
  · rcases h2 with ⟨b1, j, j1, j2, j3⟩ | ⟨b1, b2⟩
    · have x1 := zcnt_lt k1 k2
      have x2 := zcnt_lt j1 j2
      rw [k3, j3, zcnt_inj k2 j2 (by omega)]
    · exact absurd a1 b1
  · rcases h2 with ⟨b1, _⟩ | ⟨b1, b2⟩
    · exact absurd b1 a1
    · rw [a2, b2]
theorem zplen_u {P : Nat → Int32} {k a b : Nat} (h1 : zplen P k a) (h2 : zplen P k b) : a = b := by
  rcases Nat.lt_trichotomy a b with q | q | q
  · exact absurd (h1.2.2 (by have := h2.1; omega)) (h2.2.1 a q)
  · exact q
  · exact absurd (h2.2.2 (by have := h1.1; omega)) (h1.2.1 b q)
theorem zrd1_u {σ : zIn} {ne key : Nat} {w me me2 : Int32} {q q2 : Nat} (hne : ne ≤ 40) (h1 : zrd1 σ ne key w me q) (h2 : zrd1 σ ne key w me2 q2) : me = me2 ∧ q = q2 := by
  rcases h1 with ⟨a1, a2, a3⟩ | ⟨a1, r, a2, a3⟩
  · rcases h2 with ⟨b1, b2, b3⟩ | ⟨b1, _⟩
    · exact ⟨a2.trans b2.symm, a3.trans b3.symm⟩
    · exact absurd b1 a1
  · rcases h2 with ⟨b1, _⟩ | ⟨b1, r2, b2, b3⟩
    · exact absurd a1 b1
    · have e := zonly_u a2 b2
      subst e
      rcases a3 with ⟨c1, c2, c3⟩ | ⟨k, j, c1, c2, c3, c4, c5, c6⟩
      · rcases b3 with ⟨d1, d2, d3⟩ | ⟨k, j, d1, d2, d3, d4, d5, d6⟩
        · exact ⟨c2.trans d2.symm, c3.trans d3.symm⟩
        · rw [c1] at d2; exact absurd d2.symm (nI_ne_m1 (by omega))
      · rcases b3 with ⟨d1, d2, d3⟩ | ⟨k', j', d1, d2, d3, d4, d5, d6⟩
        · rw [c2] at d1; exact absurd d1 (nI_ne_m1 (by omega))
        · have e2 : k = k' := (nI_eq (by omega) (by omega)).mp (c2.symm.trans d2)
          subst e2
          have e3 : j = j' := c4.trans d4.symm
          subst e3
          exact ⟨c5.trans d5.symm, zplen_u c6 d6⟩
theorem zsum_cg {f g : Nat → Nat} : ∀ {n : Nat}, (∀ k, k < n → f k = g k) → zsum f n = zsum g n
  | 0, _ => rfl
  | n + 1, h => by show zsum f n + f n = zsum g n + g n; rw [zsum_cg (fun k hk => h k (by omega)), h n (by omega)]
theorem zsum_mn {f : Nat → Nat} {a : Nat} : ∀ {b : Nat}, a ≤ b → zsum f a ≤ zsum f b
  | 0, h => by have : a = 0 := by omega
               subst this; exact Nat.le_refl _
  | b + 1, h => by
    by_cases e : a = b + 1
    · subst e; exact Nat.le_refl _
    · show zsum f a ≤ zsum f b + f b
      have := zsum_mn (f := f) (a := a) (b := b) (by omega)
      omega
theorem zrdA_u {σ : zIn} {ne key m W p : Nat} {me me2 : Nat → Int32} {ql ql2 : Nat → Nat} {r r2 : Int32} (hne : ne ≤ 40) (h1 : zrdA σ ne key m W p me ql r) (h2 : zrdA σ ne key m W p me2 ql2 r2) : r = r2 := by
  rcases h1 with ⟨a1, a2, a3⟩ | ⟨i, a1, a2, a3, a4, a5⟩
  · rcases h2 with ⟨b1, b2, b3⟩ | ⟨i, b1, b2, b3, b4, b5⟩
    · rw [a2, b2]
    · exfalso
      have e : zsum ql (i + 1) = zsum ql2 (i + 1) := zsum_cg (fun k hk => (zrd1_u hne (a3 k (by omega)) (b2 k hk)).2)
      have := zsum_mn (f := ql) (show i + 1 ≤ W by omega)
      omega
  · rcases h2 with ⟨b1, b2, b3⟩ | ⟨i2, b1, b2, b3, b4, b5⟩
    · exfalso
      have e : zsum ql (i + 1) = zsum ql2 (i + 1) := zsum_cg (fun k hk => (zrd1_u hne (a2 k hk) (b3 k (by omega))).2)
      have := zsum_mn (f := ql2) (show i + 1 ≤ W by omega)
      omega
    · have ei : i = i2 := by
        rcases Nat.lt_trichotomy i i2 with q | q | q
        · exfalso
          have e : zsum ql (i + 1) = zsum ql2 (i + 1) := zsum_cg (fun k hk => (zrd1_u hne (a2 k hk) (b2 k (by omega))).2)
          have := zsum_mn (f := ql2) (show i + 1 ≤ i2 by omega)
          omega
        · exact q
        · exfalso
          have e : zsum ql (i2 + 1) = zsum ql2 (i2 + 1) := zsum_cg (fun k hk => (zrd1_u hne (a2 k (by omega)) (b2 k hk)).2)
          have := zsum_mn (f := ql) (show i2 + 1 ≤ i by omega)
          omega
      subst ei
      have e : zsum ql i = zsum ql2 i := zsum_cg (fun k hk => (zrd1_u hne (a2 k (by omega)) (b2 k (by omega))).2)
      rw [a5, b5, e, (zrd1_u hne (a2 i (by omega)) (b2 i (by omega))).1]
theorem zl_dif {x y : Int32} {f : Nat} (hx : zwd x) (hy : zwd y) (hn : x ≠ y) (h : zfst x y f) : f < 5 := by
  obtain ⟨h1, h2, h3⟩ := h
  refine Nat.lt_of_le_of_ne h1 (fun q => hn ?_)
  subst q
  obtain ⟨X, hX, rfl⟩ := hx
  obtain ⟨Y, hY, rfl⟩ := hy
  have k0 := h2 0 (by decide)
  have k1 := h2 1 (by decide)
  have k2 := h2 2 (by decide)
  have k3 := h2 3 (by decide)
  have k4 := h2 4 (by decide)
  rw [zl_n (by omega), zl_n (by omega)] at k0 k1 k2 k3 k4
  simp only [Nat.sub_zero, show 4 - 1 = 3 from rfl, show 4 - 2 = 2 from rfl, show 4 - 3 = 1 from rfl, show 4 - 4 = 0 from rfl, show 26 ^ 4 = 456976 from rfl, show 26 ^ 3 = 17576 from rfl, show 26 ^ 2 = 676 from rfl, show 26 ^ 1 = 26 from rfl, show 26 ^ 0 = 1 from rfl] at k0 k1 k2 k3 k4
  congr 1
  omega
theorem zln_le {T : Nat → Nat → Nat} {us : Nat → Nat → Bool} {p l : Nat} : zln T us p l ≤ 4 := by
  unfold zln; split
  · exact zlc_le 4
  · omega
theorem zcut_pl {nd : Nat} {T : Nat → Nat → Nat} {us : Nat → Nat → Bool} : ∀ (f p l : Nat), nd - p ≤ f → ∀ i, i < (zcut nd T us p l).length → ((zcut nd T us p l).getD i (0, 0)).1 < nd
  | 0, p, l, hf, i, hi => by
    rw [zcut_e (by omega)] at hi
    exact absurd hi (Nat.not_lt_zero _)
  | f + 1, p, l, hf, i, hi => by
    rcases Nat.lt_or_ge p nd with hp | hp
    · rcases Nat.eq_zero_or_pos (zln T us p l) with h0 | h0
      · rw [zcut_p hp h0] at hi ⊢
        cases i with
        | zero => exact hp
        | succ i => exact zcut_pl f (p + 1) l (by omega) i (by simpa using hi)
      · rw [zcut_c hp h0] at hi ⊢
        cases i with
        | zero => exact hp
        | succ i => exact zcut_pl f (p + zln T us p l) (l - 1) (by omega) i (by simpa using hi)
    · rw [zcut_e hp] at hi
      exact absurd hi (Nat.not_lt_zero _)
theorem zcut_le {nd : Nat} {T : Nat → Nat → Nat} {us : Nat → Nat → Bool} : ∀ (f p l : Nat), nd - p ≤ f → (zcut nd T us p l).length ≤ nd - p
  | 0, p, l, hf => by rw [zcut_e (by omega)]; exact Nat.zero_le _
  | f + 1, p, l, hf => by
    rcases Nat.lt_or_ge p nd with hp | hp
    · rcases Nat.eq_zero_or_pos (zln T us p l) with h0 | h0
      · rw [zcut_p hp h0]
        have := zcut_le (nd := nd) (T := T) (us := us) f (p + 1) l (by omega)
        show (zcut nd T us (p + 1) l).length + 1 ≤ _
        omega
      · rw [zcut_c hp h0]
        have := zcut_le (nd := nd) (T := T) (us := us) f (p + zln T us p l) (l - 1) (by omega)
        show (zcut nd T us (p + zln T us p l) (l - 1)).length + 1 ≤ _
        omega
    · rw [zcut_e hp]; exact Nat.zero_le _
theorem zLT_q {B nd : Nat} {pl : Nat → Nat} {us : Nat → Nat → Bool} {p n : Nat} (h : p < nd) : zLT B nd pl us p n = min B (min (min (min (min (pl p + zLT B nd pl us (p + 1) n) (if us p 1 && decide (0 < n) then zLT B nd pl us (p + 1) (n - 1) else B)) (if us p 2 && decide (0 < n) then zLT B nd pl us (p + 2) (n - 1) else B)) (if us p 3 && decide (0 < n) then zLT B nd pl us (p + 3) (n - 1) else B)) (if us p 4 && decide (0 < n) then zLT B nd pl us (p + 4) (n - 1) else B)) := by
  conv => lhs; rw [zLT]
  rw [dif_pos h]
theorem zlc_cg {T T2 : Nat → Nat → Nat} {us us2 : Nat → Nat → Bool} {p l : Nat} : ∀ m, (∀ k, 1 ≤ k → k ≤ m → us p k = us2 p k ∧ (T (p + k) (l - 1) = T p l ↔ T2 (p + k) (l - 1) = T2 p l)) → zlc T us p l m = zlc T2 us2 p l m
  | 0, _ => rfl
  | m + 1, h => by
    obtain ⟨h1, h2⟩ := h (m + 1) (by omega) (Nat.le_refl _)
    show (if us p (m + 1) = true ∧ T (p + (m + 1)) (l - 1) = T p l then m + 1 else zlc T us p l m) = (if us2 p (m + 1) = true ∧ T2 (p + (m + 1)) (l - 1) = T2 p l then m + 1 else zlc T2 us2 p l m)
    rw [h1, zlc_cg m (fun k k1 k2 => h k k1 (by omega))]
    by_cases q : us2 p (m + 1) = true ∧ T2 (p + (m + 1)) (l - 1) = T2 p l
    · rw [if_pos q, if_pos ⟨q.1, h2.mpr q.2⟩]
    · rw [if_neg q, if_neg (fun r => q ⟨r.1, h2.mp r.2⟩)]
theorem zcut_cg {nd : Nat} {T T2 : Nat → Nat → Nat} {us us2 : Nat → Nat → Bool} (h : ∀ p l k, p < nd → 0 < l → 1 ≤ k → k ≤ 4 → us p k = us2 p k ∧ (T (p + k) (l - 1) = T p l ↔ T2 (p + k) (l - 1) = T2 p l)) : ∀ f p l, nd - p ≤ f → zcut nd T us p l = zcut nd T2 us2 p l := by
  intro f
  induction f with
  | zero => intro p l hf; rw [zcut_e (by omega), zcut_e (by omega)]
  | succ f ih =>
    intro p l hf
    rcases Nat.lt_or_ge p nd with hp | hp
    · have e : zln T us p l = zln T2 us2 p l := by
        unfold zln
        by_cases q : 0 < l
        · rw [if_pos q, if_pos q]; exact zlc_cg 4 (fun k k1 k2 => h p l k hp q k1 k2)
        · rw [if_neg q, if_neg q]
      rcases Nat.eq_zero_or_pos (zln T us p l) with q | q
      · rw [zcut_p hp q, zcut_p hp (by omega), ih (p + 1) l (by omega)]
      · rw [zcut_c hp q, zcut_c hp (by omega), ← e, ih (p + zln T us p l) (l - 1) (by omega)]
    · rw [zcut_e hp, zcut_e hp]
theorem zcut_0 {nd : Nat} {T T2 : Nat → Nat → Nat} {us us2 : Nat → Nat → Bool} : ∀ f p, nd - p ≤ f → zcut nd T us p 0 = zcut nd T2 us2 p 0 := by
  intro f
  induction f with
  | zero => intro p hf; rw [zcut_e (by omega), zcut_e (by omega)]
  | succ f ih =>
    intro p hf
    have e1 : zln T us p 0 = 0 := by unfold zln; rw [if_neg (by omega)]
    have e2 : zln T2 us2 p 0 = 0 := by unfold zln; rw [if_neg (by omega)]
    rcases Nat.lt_or_ge p nd with hp | hp
    · rw [zcut_p hp e1, zcut_p hp e2, ih (p + 1) (by omega)]
    · rw [zcut_e hp, zcut_e hp]
theorem zcut_hc {nd B : Nat} {pl : Nat → Nat} {us : Nat → Nat → Bool} : ∀ f p l, nd - p ≤ f → 0 < l → zLT B nd pl us p l < B → ∃ i, i < (zcut nd (zLT B nd pl us) us p l).length ∧ ((zcut nd (zLT B nd pl us) us p l).getD i (0, 0)).2 ≠ 0 := by
  intro f
  induction f with
  | zero => intro p l hf hl h; rw [zLT_ge (by omega), if_neg (by omega)] at h; omega
  | succ f ih =>
    intro p l hf hl h
    rcases Nat.lt_or_ge p nd with hp | hp
    · rcases Nat.eq_zero_or_pos (zln (zLT B nd pl us) us p l) with q | q
      · have hno : ∀ k, 1 ≤ k → k ≤ 4 → ¬ (us p k = true ∧ zLT B nd pl us (p + k) (l - 1) = zLT B nd pl us p l) := by
          unfold zln at q
          rw [if_pos hl] at q
          have gen : ∀ m, zlc (zLT B nd pl us) us p l m = 0 → ∀ k, 1 ≤ k → k ≤ m → ¬ (us p k = true ∧ zLT B nd pl us (p + k) (l - 1) = zLT B nd pl us p l) := by
            intro m
            induction m with
            | zero => intro _ k h1 h2; omega
            | succ m ihm =>
              intro hz k h1 h2
              have hz' : (if us p (m + 1) = true ∧ zLT B nd pl us (p + (m + 1)) (l - 1) = zLT B nd pl us p l then m + 1 else zlc (zLT B nd pl us) us p l m) = 0 := hz
              by_cases r : us p (m + 1) = true ∧ zLT B nd pl us (p + (m + 1)) (l - 1) = zLT B nd pl us p l
              · rw [if_pos r] at hz'; omega
              · rw [if_neg r] at hz'
                by_cases e : k = m + 1
                · subst e; exact r
                · exact ihm hz' k h1 (by omega)
          exact gen 4 q
        have key : ∀ k, 1 ≤ k → k ≤ 4 → zLT B nd pl us p l ≠ (if us p k && decide (0 < l) then zLT B nd pl us (p + k) (l - 1) else B) := by
          intro k h1 h2 e
          by_cases r : us p k = true
          · rw [r, Bool.true_and, if_pos (decide_eq_true hl)] at e
            exact hno k h1 h2 ⟨r, e.symm⟩
          · rw [Bool.eq_false_iff.mpr r, Bool.false_and, if_neg Bool.false_ne_true] at e
            omega
        have k1 := key 1 (by omega) (by omega)
        have k2 := key 2 (by omega) (by omega)
        have k3 := key 3 (by omega) (by omega)
        have k4 := key 4 (by omega) (by omega)
        have e := zLT_q (B := B) (pl := pl) (us := us) (n := l) hp
        have e2 : zLT B nd pl us p l = pl p + zLT B nd pl us (p + 1) l := by
          generalize (if us p 1 && decide (0 < l) then zLT B nd pl us (p + 1) (l - 1) else B) = c1 at *
          generalize (if us p 2 && decide (0 < l) then zLT B nd pl us (p + 2) (l - 1) else B) = c2 at *
          generalize (if us p 3 && decide (0 < l) then zLT B nd pl us (p + 3) (l - 1) else B) = c3 at *
          generalize (if us p 4 && decide (0 < l) then zLT B nd pl us (p + 4) (l - 1) else B) = c4 at *
          omega
        obtain ⟨i, i1, i2⟩ := ih (p + 1) l (by omega) hl (by omega)
        rw [zcut_p hp q]
        exact ⟨i + 1, by simp only [List.length_cons]; omega, by simpa using i2⟩
      · rw [zcut_c hp q]
        exact ⟨0, by simp, by simp; omega⟩
    · rw [zLT_ge hp, if_neg (by omega)] at h; omega
theorem zcut_nc {nd : Nat} {T : Nat → Nat → Nat} {us : Nat → Nat → Bool} : ∀ f p, nd - p ≤ f → ∀ i, i < (zcut nd T us p 0).length → ((zcut nd T us p 0).getD i (0, 0)).2 = 0 := by
  intro f
  induction f with
  | zero => intro p hf i hi; rw [zcut_e (by omega)] at hi; exact absurd hi (Nat.not_lt_zero _)
  | succ f ih =>
    intro p hf i hi
    have e1 : zln T us p 0 = 0 := by unfold zln; rw [if_neg (by omega)]
    rcases Nat.lt_or_ge p nd with hp | hp
    · rw [zcut_p hp e1] at hi ⊢
      cases i with
      | zero => rfl
      | succ i => exact ih (p + 1) (by omega) i (by simpa using hi)
    · rw [zcut_e hp] at hi; exact absurd hi (Nat.not_lt_zero _)
theorem zcut_m4 {nd : Nat} {T : Nat → Nat → Nat} {us : Nat → Nat → Bool} : ∀ f p l, nd - p ≤ f → ∀ i, i < (zcut nd T us p l).length → ((zcut nd T us p l).getD i (0, 0)).2 ≤ 4 := by
  intro f
  induction f with
  | zero => intro p l hf i hi; rw [zcut_e (by omega)] at hi; exact absurd hi (Nat.not_lt_zero _)
  | succ f ih =>
    intro p l hf i hi
    rcases Nat.lt_or_ge p nd with hp | hp
    · rcases Nat.eq_zero_or_pos (zln T us p l) with q | q
      · rw [zcut_p hp q] at hi ⊢
        cases i with
        | zero => exact Nat.zero_le _
        | succ i => exact ih (p + 1) l (by omega) i (by simpa using hi)
      · rw [zcut_c hp q] at hi ⊢
        cases i with
        | zero => exact zln_le
        | succ i => exact ih (p + zln T us p l) (l - 1) (by omega) i (by simpa using hi)
    · rw [zcut_e hp] at hi; exact absurd hi (Nat.not_lt_zero _)
theorem zch_fin {T : Nat → Nat} {cd pc : Nat} : ∀ n, (zch T cd pc n).2 = 0 ∨ T (zch T cd pc n).2 < pc
  | 0 => Or.inl rfl
  | n + 1 => by
    have l := (zch_le (T0 := T) (cd := cd) (pc := pc) n).1
    show (if T (n + 1) + zup (5 * (n + 1)) cd < (zch T cd pc n).1 then (T (n + 1) + zup (5 * (n + 1)) cd, n + 1) else zch T cd pc n).2 = 0 ∨ T (if T (n + 1) + zup (5 * (n + 1)) cd < (zch T cd pc n).1 then (T (n + 1) + zup (5 * (n + 1)) cd, n + 1) else zch T cd pc n).2 < pc
    by_cases q : T (n + 1) + zup (5 * (n + 1)) cd < (zch T cd pc n).1
    · rw [if_pos q]; exact Or.inr (by show T (n + 1) < pc; omega)
    · rw [if_neg q]; exact zch_fin n
theorem zplain_neg : ∀ d, d < 30 → (-1 : Int32) - nI d - 1 < 0 ∧ (-1 : Int32) - nI d - 1 ≠ -1 := by decide
theorem zcy_w {kd cb : Nat → Nat} {kind i : Nat} {s : (Nat → Nat) × (Nat → Nat)} : ∀ n, (zcy kd cb kind n s).1 i ≤ s.1 i ∧ (¬ cb i < 12 → (zcy kd cb kind n s).1 i = s.1 i)
  | 0 => ⟨Nat.le_refl _, fun _ => rfl⟩
  | n + 1 => by
    obtain ⟨h1, h2⟩ := zcy_w (kd := kd) (cb := cb) (kind := kind) (i := i) (s := s) n
    show (if kd n = kind then zcs cb n (zcy kd cb kind n s) else zcy kd cb kind n s).1 i ≤ _ ∧ (_ → (if kd n = kind then zcs cb n (zcy kd cb kind n s) else zcy kd cb kind n s).1 i = _)
    split
    · unfold zcs
      split
      · rename_i q
        simp only [zud]
        by_cases e : i = n
        · subst e
          rw [if_pos rfl]
          exact ⟨by omega, fun r => absurd q r⟩
        · rw [if_neg e]; exact ⟨h1, h2⟩
      · exact ⟨h1, h2⟩
    · exact ⟨h1, h2⟩
theorem zcj_w {kd cb : Nat → Nat} {n i : Nat} {s : (Nat → Nat) × (Nat → Nat)} : ∀ j, (zcj kd cb n s j).1 i ≤ s.1 i ∧ (¬ cb i < 12 → (zcj kd cb n s j).1 i = s.1 i)
  | 0 => ⟨Nat.le_refl _, fun _ => rfl⟩
  | j + 1 => by
    obtain ⟨h1, h2⟩ := zcj_w (kd := kd) (cb := cb) (n := n) (i := i) (s := s) j
    obtain ⟨q1, q2⟩ := zcy_w (kd := kd) (cb := cb) (kind := 2 - j) (i := i) (s := zcj kd cb n s j) n
    exact ⟨Nat.le_trans q1 h1, fun r => (q2 r).trans (h2 r)⟩
theorem zis_add {f h : Nat → Int32} : ∀ n, zis (fun k => f k + h k) n = zis f n + zis h n
  | 0 => rfl
  | n + 1 => by
    show zis (fun k => f k + h k) n + (f n + h n) = (zis f n + f n) + (zis h n + h n)
    rw [zis_add n]
    ac_rfl
theorem zis_neg {f : Nat → Int32} : ∀ n, zis (fun k => - f k) n = - zis f n
  | 0 => by show (0 : Int32) = - 0; decide
  | n + 1 => by
    show zis (fun k => - f k) n + - f n = - (zis f n + f n)
    rw [zis_neg n, Int32.neg_add, Int32.sub_eq_add_neg]
theorem zis_sub {f h : Nat → Int32} (n : Nat) : zis (fun k => f k - h k) n = zis f n - zis h n := by
  have e : (fun k => f k - h k) = (fun k => f k + - h k) := funext fun k => Int32.sub_eq_add_neg ..
  rw [e, zis_add, zis_neg, Int32.sub_eq_add_neg]
theorem nI_ad (a b : Nat) : nI (a + b) = nI a + nI b := by
  unfold nI
  apply Int32.toBitVec_inj.mp
  simp
theorem zis_mul {f : Nat → Nat} {x : Int32} : ∀ n, zis (fun k => nI (f k) * x) n = nI (zsum f n) * x
  | 0 => by show (0 : Int32) = nI 0 * x; rw [show nI 0 = 0 from rfl, Int32.zero_mul]
  | n + 1 => by
    show zis (fun k => nI (f k) * x) n + nI (f n) * x = nI (zsum f n + f n) * x
    rw [zis_mul n, nI_ad, Int32.add_mul]
theorem zFr_up {P : Nat → Nat → Prop} {σ τ : zIn} {a b : Nat} {v : Int32} (h : ¬ P a b) (H : zFr P σ τ) : zFr P σ (z_up τ a b v) := by
  intro i k hp
  show (if i = a then (if k = b then v else τ i k) else τ i k) = σ i k
  split
  · rename_i q
    split
    · rename_i q2
      subst q; subst q2; exact absurd hp h
    · exact H i k hp
  · exact H i k hp
theorem zFr_ze {P : Nat → Nat → Prop} {σ τ : zIn} {a : Nat} (h : ∀ k, ¬ P a k) (H : zFr P σ τ) : zFr P σ (z_zero τ a) := by
  intro i k hp
  show (if i = a then 0 else τ i k) = σ i k
  split
  · rename_i q
    subst q; exact absurd hp (h k)
  · exact H i k hp
theorem zFr_rf {P : Nat → Nat → Prop} {σ : zIn} : zFr P σ σ := fun _ _ _ => rfl
theorem zFr_t {P : Nat → Nat → Prop} {σ τ υ : zIn} (h : zFr P σ τ) (h2 : zFr P τ υ) : zFr P σ υ := fun i k hp => (h2 i k hp).trans (h i k hp)
theorem zFr_w {P Q : Nat → Nat → Prop} {σ τ : zIn} (h : zFr P σ τ) (hq : ∀ i k, Q i k → P i k) : zFr Q σ τ := fun i k hp => h i k (hq i k hp)
