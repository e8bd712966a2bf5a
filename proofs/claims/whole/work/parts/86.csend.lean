/-! send: what both sides leave -/
theorem zup_1 {a b : Nat} (hb : 0 < b) (ha : 1 ≤ a) : 1 ≤ zup a b := Nat.div_pos (by omega) hb
theorem zch_1 {T : Nat → Nat} {cd pc : Nat} (hcd : 0 < cd) (hpc : 1 ≤ pc) : ∀ n, 1 ≤ (zch T cd pc n).1
  | 0 => hpc
  | n + 1 => by
    have h := zch_1 (T := T) hcd hpc n
    have u := zup_1 (a := 5 * (n + 1)) hcd (by omega)
    show 1 ≤ (if T (n + 1) + zup (5 * (n + 1)) cd < (zch T cd pc n).1 then (T (n + 1) + zup (5 * (n + 1)) cd, n + 1) else zch T cd pc n).1
    split
    · show 1 ≤ T (n + 1) + zup (5 * (n + 1)) cd
      omega
    · exact h
theorem zFil_1 {σ σ' : zIn} {ne ni nd : Nat} {lt dd : Nat → Nat} {pl cd vw key : Nat} {b : Bool} {cdw : Nat → Nat → Int32} {paid many : Nat} {L : List (Nat × Nat)} (h : zFil σ σ' ne ni nd lt dd pl cd vw key b cdw paid many L) (hnd : 0 < nd) (hpl : 0 < pl) (hcd : 0 < cd) (hlt : ∀ i, i < nd → 1 ≤ lt (dd i)) : 1 ≤ paid := by
  have h3 := h.2.2.1
  have hs : 1 ≤ zsum (fun i => zup (lt (dd i)) pl) nd := by
    obtain ⟨n, rfl⟩ : ∃ n, nd = n + 1 := ⟨nd - 1, by omega⟩
    have := zup_1 hpl (hlt n (by omega))
    show 1 ≤ zsum (fun i => zup (lt (dd i)) pl) n + zup (lt (dd n)) pl
    omega
  cases b with
  | false =>
    rw [if_neg Bool.false_ne_true] at h3
    cases h3; exact hs
  | true =>
    rw [if_pos rfl] at h3
    have := zch_1 (T := fun n => zLT 1000000000 nd (fun i => zup (lt (dd i)) cd) (fun p m => decide (cdw p m ≠ -1)) 0 n) hcd hs nd
    rw [← h3] at this; exact this
/-- the places that the class's send writes, and out -/
def zSx (nm i k : Nat) : Prop := i = 7 ∨ i = 8 ∨ i = 9 ∨ i = 10 ∨ i = 16 ∨ i = 17 ∨ (i = 13 ∧ k = 6) ∨ (i = 1 ∧ k = 8) ∨ (i = 11 ∧ k = 1) ∨ (100 ≤ i ∧ i < 108 ∧ k = 3) ∨ i = 200 + nm ∨ i = 300 + nm ∨ i = 400 + nm ∨ i = 500 + nm ∨ i = 59
/-- what the class's send leaves -/
def zSC (σ τ : zIn) (nm no fm W RL paid : Nat) (xa xb xk : Int32) (hc st : Bool) (w : Nat → Int32) (l rt ad : Nat → Nat) : Prop :=
  (∀ i k, ¬ zSx nm i k → τ i k = σ i k) ∧ (τ 1 8 = nI (nm + 1) ∧ τ 11 1 = 0) ∧
  (τ (200 + nm) 0 = xa ∧ τ (200 + nm) 1 = xb ∧ τ (200 + nm) 2 = xk ∧ τ (200 + nm) 3 = nI paid ∧ τ (200 + nm) 4 = nI (zsum (fun i => rt (l i)) RL) * nI paid * zkt xk ∧ τ (200 + nm) 5 = zb hc ∧ τ (200 + nm) 9 = (if st then 2 else 0) ∧ τ (200 + nm) 10 = nI fm ∧ τ (200 + nm) 11 = 0 ∧ τ (200 + nm) 12 = nI paid) ∧
  (∀ k, k < W → τ (300 + nm) k = w k ∧ τ (400 + nm) k = w k) ∧ (∀ k, k < RL → τ (500 + nm) k = nI (l k)) ∧
  ∀ o, o < no → τ (100 + o) 3 = (if fm = o then σ (100 + o) 3 - nI (zsum (fun i => rt (l i)) RL) * nI paid * zkt xk else σ (100 + o) 3) + zis (fun i => if ad (l i) = o then nI (rt (l i)) * nI paid * zkt xk else 0) RL
theorem zsC_of {g' : zSh} {σ s1 s2 s4 s5 : zIn} {nm no nc fm RL ni ne nd pl cd vw K paid many : Nat} {b fb : Bool} {lt dd rt ad l : Nat → Nat} {cdw : Nat → Nat → Int32} {L : List (Nat × Nat)} {xa xb xk : Int32} {u : Int32} (hnm : nm < 60) (hno : no ≤ 8) (hnc : nc ≤ 12)
    (hR : zfR σ s1) (hF : zFil s1 s2 ne ni nd lt dd pl cd vw K b cdw paid many L) (h17 : ∀ i, i < RL → s1 17 i = nI (l i) ∧ l i < nc) (hrt : ∀ c, c < nc → σ (120 + c) 2 = nI (rt c)) (hxa : xa = nI fm)
    (hM : zMn (z_zero s2 (200 + nm)) s4 nm xa xb xk many L.length RL (zsum (fun i => rt (l i)) RL)) (hF3 : zF3 (z_up (z_up s4 1 8 (nI (nm + 1))) 11 1 (nI 0)) s5)
    (hB : ∀ o, o < no → s5 (100 + o) 3 = (if fm = o then (z_up (z_up s4 1 8 (nI (nm + 1))) 11 1 (nI 0)) (100 + o) 3 - (z_up (z_up s4 1 8 (nI (nm + 1))) 11 1 (nI 0)) (200 + nm) 4 else (z_up (z_up s4 1 8 (nI (nm + 1))) 11 1 (nI 0)) (100 + o) 3) + zgot (z_up (z_up s4 1 8 (nI (nm + 1))) 11 1 (nI 0)) ad l nm o RL)
    (hRL : g'.2.2.2.1 (500 + nm) = RL) (hRL0 : 0 < RL) : zSC σ (z_up (zcome g' s5 nm fm (decide (0 < many)) fb 0) 59 0 u) nm no fm L.length RL paid xa xb xk (decide (0 < many)) (decide (0 < many) && fb) (s2 10) l rt ad := by
  obtain ⟨f1, _, _, _, f5, f6, f7, _⟩ := hF
  obtain ⟨m0, m1, m2, m3, m4, m5, m6, m7, m8, m9, m10, m11, m12⟩ := hM
  have z76 : (z_zero s2 (200 + nm)) 7 6 = nI paid := by rw [z_zero_ne (by omega)]; exact f7
  rw [z76] at m4 m5
  -- the rows of the base
  have e4 : ∀ i, i ≠ 7 → i ≠ 8 → i ≠ 9 → i ≠ 10 → i ≠ 16 → i ≠ 17 → i ≠ 13 → i ≠ 200 + nm → i ≠ 300 + nm → i ≠ 400 + nm → i ≠ 500 + nm → s4 i = σ i := by
    intro i q1 q2 q3 q4 q5 q6 q7 q8 q9 q10 q11
    rw [m0 i q8 q9 q10 q11, z_zero_ne q8, f1 i q1 q2 q3 q4, hR.1 i q7 q5 q6]
  have e13 : ∀ k, k ≠ 6 → s4 13 k = σ 13 k := by
    intro k q
    rw [m0 13 (by omega) (by omega) (by omega) (by omega), z_zero_ne (by omega), f1 13 (by omega) (by omega) (by omega) (by omega), hR.2 k q]
  have e200 : ∀ k, s5 (200 + nm) k = s4 (200 + nm) k := by
    intro k
    rw [hF3 (200 + nm) k (by omega), z_up_ne (by omega), z_up_ne (by omega)]
  have cR : ∀ i, i ≠ 200 + nm → zcome g' s5 nm fm (decide (0 < many)) fb 0 i = s5 i := fun i h => zcome_ne h
  have hne0 : ¬ g'.2.2.2.1 (500 + nm) ≤ 0 := by omega
  have c200 : ∀ k, zcome g' s5 nm fm (decide (0 < many)) fb 0 (200 + nm) k = if k = 9 then (if (decide (0 < many) && fb) = true then 2 else s4 (200 + nm) 9) else if k = 12 then s4 (200 + nm) 3 else if k = 10 then nI fm else s4 (200 + nm) k := by
    intro k
    unfold zcome
    rw [if_neg hne0]
    by_cases q : (decide (0 < many) && fb) = true
    · rw [if_pos q, if_pos q]
      simp only [z_up_app, if_pos, e200]
    · rw [if_neg q, if_neg q]
      simp only [z_up_app, if_pos, e200]
      by_cases k9 : k = 9
      · subst k9; simp
      · rw [if_neg k9]
  refine ⟨fun i k hx => ?_, ⟨?_, ?_⟩, ⟨?_, ?_, ?_, ?_, ?_, ?_, ?_, ?_, ?_, ?_⟩, fun k hk => ?_, fun k hk => ?_, fun o ho => ?_⟩
  · unfold zSx at hx
    rw [z_up_ne (by omega), cR i (by omega), hF3 i k (by omega)]
    by_cases i11 : i = 11
    · subst i11
      rw [z_up_app, if_pos rfl, if_neg (by omega), z_up_ne (by omega), e4 11 (by omega) (by omega) (by omega) (by omega) (by omega) (by omega) (by omega) (by omega) (by omega) (by omega) (by omega)]
    rw [z_up_ne i11]
    by_cases i1 : i = 1
    · subst i1
      rw [z_up_app, if_pos rfl, if_neg (by omega), e4 1 (by omega) (by omega) (by omega) (by omega) (by omega) (by omega) (by omega) (by omega) (by omega) (by omega) (by omega)]
    rw [z_up_ne i1]
    by_cases i13 : i = 13
    · subst i13; exact e13 k (by omega)
    rw [e4 i (by omega) (by omega) (by omega) (by omega) (by omega) (by omega) i13 (by omega) (by omega) (by omega) (by omega)]
  · rw [z_up_ne (by omega), cR 1 (by omega), hF3 1 8 (by omega), z_up_ne (by omega), z_up_app, if_pos rfl, if_pos rfl]
  · rw [z_up_ne (by omega), cR 11 (by omega), hF3 11 1 (by omega), z_up_app, if_pos rfl, if_pos rfl]; rfl
  · rw [z_up_ne (by omega), c200]; exact m1
  · rw [z_up_ne (by omega), c200]; exact m2
  · rw [z_up_ne (by omega), c200]; exact m3
  · rw [z_up_ne (by omega), c200]; exact m4
  · rw [z_up_ne (by omega), c200]; exact m5
  · rw [z_up_ne (by omega), c200]; exact m6
  · rw [z_up_ne (by omega), c200, if_pos rfl, m7]
  · rw [z_up_ne (by omega), c200]; rfl
  · rw [z_up_ne (by omega), c200]; exact m9
  · rw [z_up_ne (by omega), c200]; exact m4
  · rw [z_up_ne (by omega), z_up_ne (by omega), cR _ (by omega), cR _ (by omega), hF3 (300 + nm) k (by omega), hF3 (400 + nm) k (by omega), z_up_ne (by omega), z_up_ne (by omega), z_up_ne (by omega), z_up_ne (by omega)]
    have := m11 k hk
    rw [z_zero_ne (by omega)] at this
    exact this
  · rw [z_up_ne (by omega), cR _ (by omega), hF3 (500 + nm) k (by omega), z_up_ne (by omega), z_up_ne (by omega), m12 k hk, z_zero_ne (by omega), f1 17 (by omega) (by omega) (by omega) (by omega)]
    exact (h17 k hk).1
  · have b3 : ∀ i, (i = 100 + o ∨ (120 ≤ i ∧ i < 132)) → (z_up (z_up s4 1 8 (nI (nm + 1))) 11 1 (nI 0)) i = σ i := by
      intro i hi
      rw [z_up_ne (by omega), z_up_ne (by omega), e4 i (by omega) (by omega) (by omega) (by omega) (by omega) (by omega) (by omega) (by omega) (by omega) (by omega) (by omega)]
    have b2 : ∀ k, (z_up (z_up s4 1 8 (nI (nm + 1))) 11 1 (nI 0)) (200 + nm) k = s4 (200 + nm) k := by
      intro k
      rw [z_up_ne (by omega), z_up_ne (by omega)]
    rw [z_up_ne (by omega), cR _ (by omega), hB o ho, b2, m5, b3 _ (Or.inl rfl)]
    congr 1
    unfold zgot
    refine zis_cg (fun i hi => ?_)
    unfold zpart
    rw [b2, b2, m3, m4, b3 _ (Or.inr (by have := (h17 i hi).2; omega)), hrt _ (h17 i hi).2]
