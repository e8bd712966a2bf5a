/-! what is filled in: the words, what is paid -/
theorem zPU_of {σ : zIn} {ni ne nd : Nat} (HA : zGA σ ni ne nd) : ∀ p m j k, j < ne → k < ne → 1 ≤ m → m ≤ 4 → zmt (σ 5) (σ 12) j p m → zmt (σ 5) (σ 12) k p m → j = k := by
  obtain ⟨_, ⟨_, _, _, _, _, _, h1, h2⟩, _⟩ := HA
  intro p m j k hj hk hm hm4 ⟨a1, a2⟩ ⟨b1, b2⟩
  have down : ∀ q, q < ne → (m < 4 → σ 5 (4 * q + m) = -1) → ∀ i, m ≤ i → i < 4 → σ 5 (4 * q + i) = -1 := by
    intro q hq h i hi
    induction hi with
    | refl => exact h
    | step hi ih => intro h4; exact h1 q hq _ (by omega) (ih (by omega))
  refine h2 j k hj hk (fun i hi => ?_)
  by_cases q : i < m
  · rw [a1 i q, b1 i q]
  · rw [down j hj a2 i (by omega) hi, down k hk b2 i (by omega) hi]
theorem zcut_hc {nd B : Nat} {pl : Nat → Nat} {us : Nat → Nat → Bool} : ∀ f p l, nd - p ≤ f → 0 < l → zLT B nd pl us p l < B → ∃ i, i < (zcut nd (zLT B nd pl us) us p l).length ∧ ((zcut nd (zLT B nd pl us) us p l).getD i (0, 0)).2 ≠ 0 := by
  intro f
  induction f with
  | zero => intro p l hf hl h; rw [zLT_ge (by omega), if_neg (by omega)] at h; omega
  | succ f ih =>
    intro p l hf hl h
    rcases Nat.lt_or_ge p nd with hp | hp
    · rcases Nat.eq_zero_or_pos (zln (zLT B nd pl us) us p l) with q | q
      · have hno : ∀ k, 1 ≤ k → k ≤ 4 → ¬ (us p k = true ∧ zLT B nd pl us (p + k) (l - 1) = zLT B nd pl us p l) := by
          unfold zln at q
          rw [if_pos hl] at q
          have gen : ∀ m, zlc (zLT B nd pl us) us p l m = 0 → ∀ k, 1 ≤ k → k ≤ m → ¬ (us p k = true ∧ zLT B nd pl us (p + k) (l - 1) = zLT B nd pl us p l) := by
            intro m
            induction m with
            | zero => intro _ k h1 h2; omega
            | succ m ihm =>
              intro hz k h1 h2
              have hz' : (if us p (m + 1) = true ∧ zLT B nd pl us (p + (m + 1)) (l - 1) = zLT B nd pl us p l then m + 1 else zlc (zLT B nd pl us) us p l m) = 0 := hz
              by_cases r : us p (m + 1) = true ∧ zLT B nd pl us (p + (m + 1)) (l - 1) = zLT B nd pl us p l
              · rw [if_pos r] at hz'; omega
              · rw [if_neg r] at hz'
                by_cases e : k = m + 1
                · subst e; exact r
                · exact ihm hz' k h1 (by omega)
          exact gen 4 q
        have key : ∀ k, 1 ≤ k → k ≤ 4 → zLT B nd pl us p l ≠ (if us p k && decide (0 < l) then zLT B nd pl us (p + k) (l - 1) else B) := by
          intro k h1 h2 e
          by_cases r : us p k = true
          · rw [r, Bool.true_and, if_pos (decide_eq_true hl)] at e
            exact hno k h1 h2 ⟨r, e.symm⟩
          · rw [Bool.eq_false_iff.mpr r, Bool.false_and, if_neg Bool.false_ne_true] at e
            omega
        have k1 := key 1 (by omega) (by omega)
        have k2 := key 2 (by omega) (by omega)
        have k3 := key 3 (by omega) (by omega)
        have k4 := key 4 (by omega) (by omega)
        have e := zLT_q (B := B) (pl := pl) (us := us) (n := l) hp
        have e2 : zLT B nd pl us p l = pl p + zLT B nd pl us (p + 1) l := by
          generalize (if us p 1 && decide (0 < l) then zLT B nd pl us (p + 1) (l - 1) else B) = c1 at *
          generalize (if us p 2 && decide (0 < l) then zLT B nd pl us (p + 2) (l - 1) else B) = c2 at *
          generalize (if us p 3 && decide (0 < l) then zLT B nd pl us (p + 3) (l - 1) else B) = c3 at *
          generalize (if us p 4 && decide (0 < l) then zLT B nd pl us (p + 4) (l - 1) else B) = c4 at *
          omega
        obtain ⟨i, i1, i2⟩ := ih (p + 1) l (by omega) hl (by omega)
        rw [zcut_p hp q]
        exact ⟨i + 1, by simp only [List.length_cons]; omega, by simpa using i2⟩
      · rw [zcut_c hp q]
        exact ⟨0, by simp, by simp; omega⟩
    · rw [zLT_ge hp, if_neg (by omega)] at h; omega
theorem zcut_nc {nd : Nat} {T : Nat → Nat → Nat} {us : Nat → Nat → Bool} : ∀ f p, nd - p ≤ f → ∀ i, i < (zcut nd T us p 0).length → ((zcut nd T us p 0).getD i (0, 0)).2 = 0 := by
  intro f
  induction f with
  | zero => intro p hf i hi; rw [zcut_e (by omega)] at hi; exact absurd hi (Nat.not_lt_zero _)
  | succ f ih =>
    intro p hf i hi
    have e1 : zln T us p 0 = 0 := by unfold zln; rw [if_neg (by omega)]
    rcases Nat.lt_or_ge p nd with hp | hp
    · rw [zcut_p hp e1] at hi ⊢
      cases i with
      | zero => rfl
      | succ i => exact ih (p + 1) (by omega) i (by simpa using hi)
    · rw [zcut_e hp] at hi; exact absurd hi (Nat.not_lt_zero _)
theorem zcut_m4 {nd : Nat} {T : Nat → Nat → Nat} {us : Nat → Nat → Bool} : ∀ f p l, nd - p ≤ f → ∀ i, i < (zcut nd T us p l).length → ((zcut nd T us p l).getD i (0, 0)).2 ≤ 4 := by
  intro f
  induction f with
  | zero => intro p l hf i hi; rw [zcut_e (by omega)] at hi; exact absurd hi (Nat.not_lt_zero _)
  | succ f ih =>
    intro p l hf i hi
    rcases Nat.lt_or_ge p nd with hp | hp
    · rcases Nat.eq_zero_or_pos (zln T us p l) with q | q
      · rw [zcut_p hp q] at hi ⊢
        cases i with
        | zero => exact Nat.zero_le _
        | succ i => exact ih (p + 1) l (by omega) i (by simpa using hi)
      · rw [zcut_c hp q] at hi ⊢
        cases i with
        | zero => exact zln_le
        | succ i => exact ih (p + zln T us p l) (l - 1) (by omega) i (by simpa using hi)
    · rw [zcut_e hp] at hi; exact absurd hi (Nat.not_lt_zero _)
theorem zch_fin {T : Nat → Nat} {cd pc : Nat} : ∀ n, (zch T cd pc n).2 = 0 ∨ T (zch T cd pc n).2 < pc
  | 0 => Or.inl rfl
  | n + 1 => by
    have l := (zch_le (T0 := T) (cd := cd) (pc := pc) n).1
    show (if T (n + 1) + zup (5 * (n + 1)) cd < (zch T cd pc n).1 then (T (n + 1) + zup (5 * (n + 1)) cd, n + 1) else zch T cd pc n).2 = 0 ∨ T (if T (n + 1) + zup (5 * (n + 1)) cd < (zch T cd pc n).1 then (T (n + 1) + zup (5 * (n + 1)) cd, n + 1) else zch T cd pc n).2 < pc
    by_cases q : T (n + 1) + zup (5 * (n + 1)) cd < (zch T cd pc n).1
    · rw [if_pos q]; exact Or.inr (by show T (n + 1) < pc; omega)
    · rw [if_neg q]; exact zch_fin n
theorem zhc_t {x : Nat → Int32} : ∀ n, zhc x n = true ↔ ∃ i, i < n ∧ 0 ≤ x i
  | 0 => ⟨fun h => absurd h Bool.false_ne_true, fun ⟨i, h, _⟩ => absurd h (Nat.not_lt_zero _)⟩
  | n + 1 => by
    show (zhc x n || decide (0 ≤ x n)) = true ↔ _
    rw [Bool.or_eq_true, zhc_t n]
    constructor
    · rintro (⟨i, h1, h2⟩ | h)
      · exact ⟨i, by omega, h2⟩
      · exact ⟨n, by omega, of_decide_eq_true h⟩
    · rintro ⟨i, h1, h2⟩
      by_cases e : i = n
      · subst e; exact Or.inr (decide_eq_true h2)
      · exact Or.inl ⟨i, by omega, h2⟩
theorem zplain_neg : ∀ d, d < 30 → (-1 : Int32) - nI d - 1 < 0 ∧ (-1 : Int32) - nI d - 1 ≠ -1 := by decide
/-- both packings from the same rules: the same is paid, the same words -/
theorem zfill_same {σ s2 t2 : zIn} {ni ne nd : Nat} {pl cd vw K paid many paid2 many2 : Nat} {b : Bool} {cdw : Nat → Nat → Int32} {L L2 : List (Nat × Nat)} {ρ : zIn} (HA : zGA σ ni ne nd) (hpl : 5 ≤ pl) (e24 : ρ 24 = σ 24) (e38 : ρ 38 = σ 38) (e23 : ρ 23 = σ 23)
    (hF : zFil σ s2 ne ni nd (zf σ 3) (zf σ 12) pl cd vw K b cdw paid many L) (hR : zPf ρ t2 ne K nd pl cd vw (zf σ 3) (zf σ 12) b paid2 many2 L2) :
    paid = paid2 ∧ L = L2 ∧ (decide (0 < many) = zhc (t2 40) L2.length) ∧ ∀ i, i < L.length → s2 10 i = zwr (t2 40) (σ 4) K ne i ∧ (zwd (s2 10 i) ∨ s2 10 i < 0) := by
  have HU := zPU_of HA
  obtain ⟨⟨a1, a2, a3, a4, a5⟩, ⟨b1, b2, b3, b4, b5, b6, b7⟩, c1, c2, c3, c4, c5⟩ := HA
  obtain ⟨f1, f2, f3, f4, f5, f6, f7, f8, f9, f10, f11⟩ := hF
  obtain ⟨r1, r2, r3, r4, r5, r6, r7⟩ := hR
  have hus : b = true → ∀ p m, p < nd → 1 ≤ m → m ≤ 4 → decide (cdw p m ≠ -1) = zusσ ρ ne K vw nd p m := by
    intro hb p m hp h1 h2
    have hne1 : ∀ k, k < ne → σ 4 k ≠ -1 := fun k hk q => by have := zwd_nn (b6 k hk); rw [q] at this; exact absurd this (by decide)
    have e : zusσ ρ ne K vw nd p m = zus (σ 5) (σ 12) (σ 4) ne K vw nd p m := by
      show zus (ρ 24) (ρ 38) (ρ 23) ne K vw nd p m = _
      rw [e24, e38, e23, b4, b5, c4]
    rw [e]
    unfold zus
    by_cases q : p + m ≤ nd
    · rcases (f2 hb p m hp h1 h2).1 q with ⟨k, k1, k2, k3, k4⟩ | ⟨k1, k2⟩
      · rw [decide_eq_true (by rw [k4]; exact hne1 _ (Nat.mod_lt _ (by omega))), @decide_eq_true _ (Classical.propDecidable _) ⟨q, k, k1, k2, k3⟩]
      · rw [decide_eq_false (fun r => r k2), @decide_eq_false _ (Classical.propDecidable _) (fun r => by obtain ⟨_, k, q1, q2, q3⟩ := r; exact k1 k q1 q2 q3)]
    · rw [decide_eq_false (fun r => r ((f2 hb p m hp h1 h2).2 (by omega))), @decide_eq_false _ (Classical.propDecidable _) (fun r => q r.1)]
  have hpc : zsum (fun i => zup (zf σ 3 (zf σ 12 i)) pl) nd ≤ 480 := by
    have := zsum_le (f := fun i => zup (zf σ 3 (zf σ 12 i)) pl) (c := 20) (n := nd) (fun i hi => by
      obtain ⟨d1, d2⟩ := c5 i hi
      obtain ⟨d3, d4, d5⟩ := a5 _ d2
      have := zup_le (a := zf σ 3 (zf σ 12 i)) (b := pl) (by omega) d4
      omega)
    omega
  have h0 : ne = 0 → ∀ p m, zusσ ρ ne K vw nd p m = false := by
    intro q p m
    subst q
    exact @decide_eq_false _ (Classical.propDecidable _) (fun r => by obtain ⟨_, k, q1, _⟩ := r; exact absurd q1 (Nat.not_lt_zero _))
  have hcd : ∀ p, p < nd → zup (zf σ 3 (zf σ 12 p)) cd ≤ 20 := by
    intro p hp
    obtain ⟨d1, d2⟩ := c5 p hp
    obtain ⟨d3, d4, d5⟩ := a5 _ d2
    rcases Nat.eq_zero_or_pos cd with e | e
    · unfold zup; rw [e, Nat.div_zero]; exact Nat.zero_le _
    · have := zup_le (a := zf σ 3 (zf σ 12 p)) (b := cd) e d4
      omega
  obtain ⟨e1, e2, e3⟩ := zpack_same (nd := nd) (ne := ne) (cd := cd) (pl := fun i => zup (zf σ 3 (zf σ 12 i)) cd) c3 hcd (by omega) hus h0 f3 f4 r3 r4
  have word : ∀ i, i < L.length → (s2 10 i = zwr (t2 40) (σ 4) K ne i ∧ (zwd (s2 10 i) ∨ s2 10 i < 0)) ∧ (0 ≤ t2 40 i ↔ (L.getD i (0, 0)).2 ≠ 0) := by
    intro i hi
    have hp : (L.getD i (0, 0)).1 < nd := by rw [f4] at hi ⊢; exact zcut_pl nd 0 many (by omega) i hi
    have hd := zplain_neg (zf σ 12 (L.getD i (0, 0)).1) (by have := (c5 _ hp).2; omega)
    have hx := r7 i (by rw [← e3]; exact hi)
    rw [← e3] at hx
    rw [f8 i hi]
    unfold zwo zwr
    rcases hx with ⟨x1, x2⟩ | ⟨x1, x2, x3⟩
    · rw [if_pos x1, x2, if_pos hd.1]
      exact ⟨⟨rfl, Or.inr hd.1⟩, ⟨fun q => absurd hd.1 (Int32.not_lt.mpr q), fun q => absurd x1 q⟩⟩
    · rw [if_neg x1]
      rcases x2 with ⟨k, k1, k2, k3, k4, k5⟩ | ⟨_, k2⟩
      · have hb : b = true := by
          cases b with
          | true => rfl
          | false =>
            exfalso
            rw [if_neg Bool.false_ne_true] at f3
            cases f3
            rw [f4] at hi x1
            exact x1 (zcut_nc nd 0 (by omega) i hi)
        rw [e24, e38, b5, c4] at k3
        rw [e23, b4] at k4
        have hm4 : 1 ≤ (L.getD i (0, 0)).2 ∧ (L.getD i (0, 0)).2 ≤ 4 := by
          refine ⟨by omega, ?_⟩
          rw [f4]
          rw [f4] at hi
          exact zcut_m4 nd 0 many (by omega) i hi
        rw [k5, if_neg (nI_not_neg (by omega)), zn_nI (by omega)]
        have hz : cdw (L.getD i (0, 0)).1 (L.getD i (0, 0)).2 = σ 4 ((k + K) % ne) := by
          rcases (f2 hb _ _ hp hm4.1 hm4.2).1 k2 with ⟨j, j1, j2, j3, j4⟩ | ⟨j1, _⟩
          · rw [j4, HU _ _ j k j1 k1 hm4.1 hm4.2 j2 k3]
          · exact absurd k4 (j1 k k1 k3)
        rw [hz]
        exact ⟨⟨rfl, Or.inl (b6 _ (Nat.mod_lt _ (by omega)))⟩, ⟨fun _ => x1, fun _ => Int32.not_lt.mp (nI_not_neg (by omega))⟩⟩
      · exact absurd k2 x3
  refine ⟨e1, e3, ?_, fun i hi => (word i hi).1⟩
  rw [← e3]
  by_cases q : 0 < many
  · have hb : b = true := by
      cases b with
      | true => rfl
      | false => rw [if_neg Bool.false_ne_true] at f3; cases f3; exact absurd q (Nat.lt_irrefl _)
    rw [hb, if_pos rfl] at f3
    have hfin := zch_fin (T := fun n => zLT 1000000000 nd (fun i => zup (zf σ 3 (zf σ 12 i)) cd) (fun p m => decide (cdw p m ≠ -1)) 0 n) (cd := cd) (pc := zsum (fun i => zup (zf σ 3 (zf σ 12 i)) pl) nd) nd
    rw [← f3] at hfin
    rcases hfin with h | h
    · exact absurd h (by show ¬ many = 0; omega)
    · obtain ⟨i, i1, i2⟩ := zcut_hc (B := 1000000000) (nd := nd) (pl := fun i => zup (zf σ 3 (zf σ 12 i)) cd) (us := fun p m => decide (cdw p m ≠ -1)) nd 0 many (by omega) q (Nat.lt_of_lt_of_le h (by omega))
      rw [← f4] at i1 i2
      rw [decide_eq_true q]
      exact ((zhc_t _).mpr ⟨i, i1, (word i i1).2.mpr i2⟩).symm
  · have e0 : many = 0 := by omega
    rw [decide_eq_false q]
    cases hz : zhc (t2 40) L.length with
    | false => rfl
    | true =>
      obtain ⟨i, i1, i2⟩ := (zhc_t _).mp hz
      exfalso
      refine (word i i1).2.mp i2 ?_
      rw [f4, e0] at i1 ⊢
      exact zcut_nc nd 0 (by omega) i i1
