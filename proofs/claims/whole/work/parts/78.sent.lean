/-! the groups after a message was sent: the old messages, the new one -/
theorem zpt_cr {ad ot ro ro2 : Nat → Nat} {fm : Nat} : ∀ k, (∀ j, j < k → ro2 j = ro j) → zpt ad ot ro2 fm k = zpt ad ot ro fm k
  | 0, _ => rfl
  | k + 1, h => by
    show zoe ad ot (ro2 k) (zpt ad ot ro2 fm k) = zoe ad ot (ro k) (zpt ad ot ro fm k)
    rw [h k (by omega), zpt_cr k (fun j hj => h j (by omega))]
theorem zpt_sh {ad ot ro : Nat → Nat} {a : Nat} : ∀ k, zpt ad ot ro a (k + 1) = zpt ad ot (fun j => ro (j + 1)) (zoe ad ot (ro 0) a) k
  | 0 => rfl
  | k + 1 => by
    show zoe ad ot (ro (k + 1)) (zpt ad ot ro a (k + 1)) = zoe ad ot (ro (k + 1)) (zpt ad ot (fun j => ro (j + 1)) (zoe ad ot (ro 0) a) k)
    rw [zpt_sh k]
theorem zpath_pt {ad ot rt d : Nat → Nat} {br : Nat → Bool} {nc to : Nat} : ∀ (l : List Nat) (a : Nat), zpath (zcn ad ot rt br d) (zoe ad ot) nc to a l →
    (∀ k, k < l.length → l.getD k 0 < nc ∧ (zpt ad ot (fun i => l.getD i 0) a k = ad (l.getD k 0) ∨ zpt ad ot (fun i => l.getD i 0) a k = ot (l.getD k 0)) ∧ zpt ad ot (fun i => l.getD i 0) a k ≠ to) ∧ zpt ad ot (fun i => l.getD i 0) a l.length = to
  | [], a, h => ⟨fun k hk => absurd hk (Nat.not_lt_zero _), h⟩
  | c :: l, a, h => by
    obtain ⟨h1, h2, h3, _, h5⟩ := h
    obtain ⟨i1, i2⟩ := zpath_pt l _ h5
    refine ⟨fun k hk => ?_, ?_⟩
    · cases k with
      | zero => exact ⟨h2, h3.2.1, h1⟩
      | succ k =>
        rw [zpt_sh]
        exact i1 k (by simpa using hk)
    · show zpt ad ot (fun i => (c :: l).getD i 0) a (l.length + 1) = to
      rw [zpt_sh]
      exact i2
theorem zwy_m {σ τ : zIn} {m k : Nat} (h29 : τ 29 = σ 29) (h30 : τ 30 = σ 30) (h41 : τ 41 m = σ 41 m) (h52 : ∀ j, j < k → τ 52 (8 * m + j) = σ 52 (8 * m + j)) : zwy τ m k = zwy σ m k := by
  unfold zwy
  rw [show zf τ 29 = zf σ 29 from funext fun c => by unfold zf; rw [h29], show zf τ 30 = zf σ 30 from funext fun c => by unfold zf; rw [h30], show zf τ 41 m = zf σ 41 m by unfold zf; rw [h41]]
  exact zpt_cr k (fun j hj => by unfold zro; rw [h52 j hj])
theorem zGe_m {L5 L3 : Nat} {σ τ : zIn} {no nc m : Nat} (h29 : τ 29 = σ 29) (h30 : τ 30 = σ 30) (h : ∀ j, 41 ≤ j → j ≤ 49 → j ≠ 44 → j ≠ 48 → τ j m = σ j m) (h52 : ∀ k, k < 8 → τ 52 (8 * m + k) = σ 52 (8 * m + k)) (h2 : ∀ k, k ≤ 5 → τ (200 + m) k = σ (200 + m) k) (h5 : τ (500 + m) = σ (500 + m)) (H : zGe L5 L3 σ no nc m) : zGe L5 L3 τ no nc m := by
  obtain ⟨q1, q2, q3, q4, q5, q6, q7, q8, q9, q10⟩ := H
  have gw : ∀ k, k ≤ L5 → zwy τ m k = zwy σ m k := fun k hk => zwy_m h29 h30 (h 41 (by decide) (by decide) (by decide) (by decide)) (fun j hj => h52 j (by omega))
  have gr : ∀ k, k < L5 → zro τ m k = zro σ m k := fun k hk => by unfold zro; rw [h52 k (by omega)]
  have e41 : zf τ 41 m = zf σ 41 m := by unfold zf; rw [h 41 (by decide) (by decide) (by decide) (by decide)]
  have e42 : zf τ 42 m = zf σ 42 m := by unfold zf; rw [h 42 (by decide) (by decide) (by decide) (by decide)]
  have e43 : zf τ 43 m = zf σ 43 m := by unfold zf; rw [h 43 (by decide) (by decide) (by decide) (by decide)]
  have e46 : zf τ 46 m = zf σ 46 m := by unfold zf; rw [h 46 (by decide) (by decide) (by decide) (by decide)]
  unfold zGe
  rw [h2 0 (by decide), h2 1 (by decide), h2 2 (by decide), h2 3 (by decide), h2 4 (by decide), h2 5 (by decide), e41, e42, e43, e46, h5, h 41 (by decide) (by decide) (by decide) (by decide), h 42 (by decide) (by decide) (by decide) (by decide), h 43 (by decide) (by decide) (by decide) (by decide), h 45 (by decide) (by decide) (by decide) (by decide), h 46 (by decide) (by decide) (by decide) (by decide), h 47 (by decide) (by decide) (by decide) (by decide), h 49 (by decide) (by decide) (by decide) (by decide)]
  refine ⟨q1, q2, q3, q4, q5, q6, q7, q8, fun k hk => ?_, by rw [gw _ (Nat.le_refl _)]; exact q10⟩
  rw [gw k (by omega), gr k hk, h52 k (by omega), show zf τ 29 = zf σ 29 from funext fun c => by unfold zf; rw [h29], show zf τ 30 = zf σ 30 from funext fun c => by unfold zf; rw [h30]]
  exact q9 k hk
theorem zGq_m {L5 : Nat} {σ τ : zIn} {m : Nat} (hL : L5 < 8) (h29 : τ 29 = σ 29) (h30 : τ 30 = σ 30) (h : ∀ j, 41 ≤ j → j ≤ 56 → j ≠ 50 → j ≠ 51 → j ≠ 52 → j ≠ 53 → τ j m = σ j m) (h52 : ∀ k, k < 8 → τ 52 (8 * m + k) = σ 52 (8 * m + k)) (h2 : ∀ k, 9 ≤ k → k ≤ 12 → τ (200 + m) k = σ (200 + m) k) (H : zGq L5 σ m) : zGq L5 τ m := by
  have hl : zf σ 54 m ≤ L5 := H.2.1.2.1
  have e : ∀ j, 41 ≤ j → j ≤ 56 → j ≠ 50 → j ≠ 51 → j ≠ 52 → j ≠ 53 → zf τ j m = zf σ j m := fun j a b c d f g => by unfold zf; rw [h j a b c d f g]
  have gw : zwy τ m (zf σ 54 m) = zwy σ m (zf σ 54 m) := zwy_m h29 h30 (h 41 (by decide) (by decide) (by decide) (by decide) (by decide) (by decide)) (fun j hj => h52 j (by omega))
  unfold zGq at *
  rw [h2 9 (by decide) (by decide), h2 10 (by decide) (by decide), h2 11 (by decide) (by decide), h2 12 (by decide) (by decide), e 44 (by decide) (by decide) (by decide) (by decide) (by decide) (by decide), e 46 (by decide) (by decide) (by decide) (by decide) (by decide) (by decide), e 54 (by decide) (by decide) (by decide) (by decide) (by decide) (by decide), e 55 (by decide) (by decide) (by decide) (by decide) (by decide) (by decide), gw,
    h 44 (by decide) (by decide) (by decide) (by decide) (by decide) (by decide), h 48 (by decide) (by decide) (by decide) (by decide) (by decide) (by decide), h 54 (by decide) (by decide) (by decide) (by decide) (by decide) (by decide), h 55 (by decide) (by decide) (by decide) (by decide) (by decide) (by decide), h 56 (by decide) (by decide) (by decide) (by decide) (by decide) (by decide)]
  exact H
theorem zGw_m {L3 : Nat} {σ τ : zIn} {m : Nat} (hL : L3 ≤ 24) (h : ∀ k, k < 24 → τ 50 (24 * m + k) = σ 50 (24 * m + k) ∧ τ 51 (24 * m + k) = σ 51 (24 * m + k)) (h3 : τ (300 + m) = σ (300 + m)) (h4 : τ (400 + m) = σ (400 + m)) (H : zGw L3 σ m) : zGw L3 τ m := by
  intro k hk
  rw [h3, h4, (h k (by omega)).1, (h k (by omega)).2]
  exact H k hk
theorem zsb_m {L5 : Nat} {σ τ : zIn} {m o : Nat} (hL : L5 < 8) (h29 : τ 29 = σ 29) (h31 : τ 31 = σ 31) (h41 : τ 41 m = σ 41 m) (h43 : τ 43 m = σ 43 m) (h46 : τ 46 m = σ 46 m) (h52 : ∀ k, k < 8 → τ 52 (8 * m + k) = σ 52 (8 * m + k)) : zsb L5 τ m o = zsb L5 σ m o := by
  unfold zsb
  refine zis_cg (fun k hk => ?_)
  rw [show zro τ m k = zro σ m k by unfold zro; rw [h52 k (by omega)], show zf τ 41 m = zf σ 41 m by unfold zf; rw [h41], show zf τ 29 = zf σ 29 from funext fun c => by unfold zf; rw [h29], h31, h43, h46]
/-- the new message -/
theorem zGe_n {τ : zIn} {no nc m fm to k paid W : Nat} {l : List Nat} {hc : Bool} {pr : Int32} {rt d : Nat → Nat} {br : Nat → Bool} (hfm : fm < no) (hto : to < no) (hn8 : no ≤ 8) (hk : k ≤ 2) (hp1 : 1 ≤ paid) (hp2 : paid ≤ 1000) (hW : W ≤ 24) (hl : l.length < 8) (hnc : nc ≤ 12)
    (c0 : τ (200 + m) 0 = nI fm) (c1 : τ (200 + m) 1 = nI to) (c2 : τ (200 + m) 2 = nI k) (c3 : τ (200 + m) 3 = nI paid) (c4 : τ (200 + m) 4 = pr) (c5 : τ (200 + m) 5 = zb hc)
    (r41 : τ 41 m = nI fm) (r42 : τ 42 m = nI to) (r43 : τ 43 m = nI k) (r46 : τ 46 m = nI paid) (r47 : τ 47 m = pr) (r49 : τ 49 m = zb hc) (r45 : τ 45 m = nI W)
    (w5 : ∀ i, i < l.length → τ (500 + m) i = nI (l.getD i 0)) (w52 : ∀ i, i < l.length → τ 52 (8 * m + i) = nI (l.getD i 0)) (hp : zpath (zcn (zf τ 29) (zf τ 30) rt br d) (zoe (zf τ 29) (zf τ 30)) nc to fm l) : zGe l.length W τ no nc m := by
  obtain ⟨p1, p2⟩ := zpath_pt l fm hp
  have s41 := zn_self r41 (by omega)
  have s42 := zn_self r42 (by omega)
  have s43 := zn_self r43 (by omega)
  have s46 := zn_self r46 (by omega)
  have gr : ∀ i, i < l.length → zro τ m i = l.getD i 0 := fun i hi => by unfold zro; rw [w52 i hi]; exact zn_nI (by have := (p1 i hi).1; omega)
  have gw : ∀ i, i ≤ l.length → zwy τ m i = zpt (zf τ 29) (zf τ 30) (fun i => l.getD i 0) fm i := by
    intro i hi
    unfold zwy
    rw [show zf τ 41 m = fm from s41.2]
    exact zpt_cr i (fun j hj => gr j (by omega))
  unfold zGe
  rw [show zf τ 41 m = fm from s41.2, show zf τ 42 m = to from s42.2, show zf τ 43 m = k from s43.2, show zf τ 46 m = paid from s46.2]
  refine ⟨⟨c0.trans r41.symm, c1.trans r42.symm, c2.trans r43.symm, c3.trans r46.symm, c4.trans r47.symm, c5.trans r49.symm⟩, ⟨r41, hfm⟩, ⟨r42, hto⟩, ⟨r43, hk⟩, ⟨r46, hp1, hp2⟩, by rw [r49]; exact zb_01 _, ⟨r45, hW⟩, hl, fun i hi => ?_, by rw [gw _ (Nat.le_refl _)]; exact p2⟩
  obtain ⟨q1, q2, q3⟩ := p1 i hi
  rw [gw i (by omega), gr i hi]
  exact ⟨(w5 i hi).trans (w52 i hi).symm, w52 i hi, q1, q2, q3⟩
