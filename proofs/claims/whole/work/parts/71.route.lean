/-! the routes of both sides are the same -/
theorem zmin_ex {P : Nat → Prop} : ∀ c, P c → ∃ k, k ≤ c ∧ P k ∧ ∀ j, j < k → ¬ P j := by
  intro c
  induction c using Nat.strongRecOn with
  | ind c ih =>
    intro h
    by_cases q : ∃ j, j < c ∧ P j
    · obtain ⟨j, j1, j2⟩ := q
      obtain ⟨k, k1, k2, k3⟩ := ih j j1 j2
      exact ⟨k, by omega, k2, k3⟩
    · exact ⟨c, Nat.le_refl _, h, fun j hj hp => q ⟨j, hj, hp⟩⟩
theorem zrt_two {ad ot rt : Nat → Nat} {br : Nat → Bool} {nc no to : Nat} (hE : ∀ c, c < nc → ad c < no ∧ ot c < no ∧ ad c ≠ ot c) (hrt : ∀ c, c < nc → rt c ≤ 100) (hto : to < no) (hn8 : no ≤ 8) :
    ∃ D, zfix ad ot rt br nc D ∧ zcam ad ot rt br nc 1000000000 to D ∧ D to = 0 ∧ (∀ v, zdT ad ot rt br nc no to v = D v) ∧ ∀ v, v < no → (D v = 1000000000 ∧ zrs ad ot rt br nc (zd0 1000000 to) 8 v = 1000000) ∨ (zrs ad ot rt br nc (zd0 1000000 to) 8 v = D v ∧ D v ≤ 12808) := by
  obtain ⟨D, h1, h2, h3, h4, h5⟩ := zbell (rt := rt) (br := br) hE hto (B := 1000000000) (by omega)
  refine ⟨D, h1, h2, h4, fun v => h5 _ (Nat.le_refl _) v, fun v hv => ?_⟩
  have e : zrs ad ot rt br nc (zd0 1000000 to) 8 v = min 1000000 (zrs ad ot rt br nc (zd0 1000000000 to) 8 v) := congrFun (zrs_min (show 1000000 ≤ 1000000000 by omega) 8) v
  rw [h5 8 (by omega) v] at e
  rcases zsmall hE hrt h2 h1 h4 h3 8 v hv (Nat.le_trans (zcnt_le _ _) hn8) with q | q
  · exact Or.inl ⟨q, by rw [e, q]; omega⟩
  · exact Or.inr ⟨by rw [e]; omega, by omega⟩
theorem zoe_lt {ad ot : Nat → Nat} {nc no : Nat} (hE : ∀ c, c < nc → ad c < no ∧ ot c < no ∧ ad c ≠ ot c) {c a : Nat} (hc : c < nc) : zoe ad ot c a < no := by
  unfold zoe
  split
  · exact (hE c hc).2.1
  · exact (hE c hc).1
theorem zedge_two {ad ot rt : Nat → Nat} {br : Nat → Bool} {nc no : Nat} {D D1 D2 : Nat → Nat} (hE : ∀ c, c < nc → ad c < no ∧ ot c < no ∧ ad c ≠ ot c) (hrt : ∀ c, c < nc → rt c ≤ 100) (h1 : ∀ v, D1 v = D v)
    (h2 : ∀ v, v < no → (D v = 1000000000 ∧ D2 v = 1000000) ∨ (D2 v = D v ∧ D v ≤ 12808)) {a c : Nat} (ha : a < no) (hc : c < nc) (hD : D a < 1000000000) : zrcn ad ot rt br D1 a c ↔ zcn ad ot rt br D2 a c := by
  have hb := h2 _ (zoe_lt hE hc (a := a))
  have hr := hrt c hc
  have haa := h2 a ha
  show (D1 a < 1000000000 ∧ br c = false ∧ (a = ad c ∨ a = ot c) ∧ D1 (zoe ad ot c a) + (rt c * 16 + 1) = D1 a) ↔ (br c = false ∧ (a = ad c ∨ a = ot c) ∧ D2 (zoe ad ot c a) + (rt c * 16 + 1) = D2 a)
  rw [h1, h1]
  generalize zoe ad ot c a = b at *
  constructor
  · rintro ⟨_, q1, q2, q3⟩
    exact ⟨q1, q2, by omega⟩
  · rintro ⟨q1, q2, q3⟩
    exact ⟨hD, q1, q2, by omega⟩
theorem zpath_two {ad ot rt : Nat → Nat} {br : Nat → Bool} {nc no to : Nat} {D D1 D2 : Nat → Nat} (hE : ∀ c, c < nc → ad c < no ∧ ot c < no ∧ ad c ≠ ot c) (hrt : ∀ c, c < nc → rt c ≤ 100) (h1 : ∀ v, D1 v = D v)
    (h2 : ∀ v, v < no → (D v = 1000000000 ∧ D2 v = 1000000) ∨ (D2 v = D v ∧ D v ≤ 12808)) : ∀ (l : List Nat) (a : Nat), a < no → D a < 1000000000 → (zpath (zrcn ad ot rt br D1) (zoe ad ot) nc to a l ↔ zpath (zcn ad ot rt br D2) (zoe ad ot) nc to a l)
  | [], a, _, _ => Iff.rfl
  | c :: l, a, ha, hD => by
    have ed := fun c hc => zedge_two (br := br) hE hrt h1 h2 (c := c) ha hc hD
    constructor
    · rintro ⟨q1, q2, q3, q4, q5⟩
      have hb : D (zoe ad ot c a) < 1000000000 := by
        have e : D1 (zoe ad ot c a) + (rt c * 16 + 1) = D1 a := q3.2.2.2
        rw [h1, h1] at e; omega
      exact ⟨q1, q2, (ed c q2).mp q3, fun j hj r => q4 j hj ((ed j (by omega)).mpr r), (zpath_two hE hrt h1 h2 l _ (zoe_lt hE q2) hb).mp q5⟩
    · rintro ⟨q1, q2, q3, q4, q5⟩
      have q3' := (ed c q2).mpr q3
      have hb : D (zoe ad ot c a) < 1000000000 := by
        have e : D1 (zoe ad ot c a) + (rt c * 16 + 1) = D1 a := q3'.2.2.2
        rw [h1, h1] at e; omega
      exact ⟨q1, q2, q3', fun j hj r => q4 j hj ((ed j (by omega)).mp r), (zpath_two hE hrt h1 h2 l _ (zoe_lt hE q2) hb).mpr q5⟩
theorem zpath_ex {ad ot rt : Nat → Nat} {br : Nat → Bool} {nc no to : Nat} {D D1 : Nat → Nat} (hE : ∀ c, c < nc → ad c < no ∧ ot c < no ∧ ad c ≠ ot c) (hf : zfix ad ot rt br nc D) (hc : zcam ad ot rt br nc 1000000000 to D) (h1 : ∀ v, D1 v = D v) : ∀ n a, D a ≤ n → D a < 1000000000 → ∃ l, zpath (zrcn ad ot rt br D1) (zoe ad ot) nc to a l := by
  intro n
  induction n using Nat.strongRecOn with
  | ind n ih =>
    intro a ha hD
    by_cases e : a = to
    · exact ⟨[], e⟩
    · obtain ⟨c, c1, c2⟩ := ztight (fun c hc => (hE c hc).2.2) hf hc e (show D a ≠ 1000000000 by omega)
      have c2' : zrcn ad ot rt br D1 a c := ⟨by rw [h1]; exact hD, by rw [show D1 = D from funext h1]; exact c2⟩
      obtain ⟨k, k1, k2, k3⟩ := zmin_ex (P := fun c => zrcn ad ot rt br D1 a c) c c2'
      have e2 : D1 (zoe ad ot k a) + (rt k * 16 + 1) = D1 a := k2.2.2.2
      rw [h1, h1] at e2
      obtain ⟨l, hl⟩ := ih (D (zoe ad ot k a)) (by omega) (zoe ad ot k a) (Nat.le_refl _) (by omega)
      exact ⟨k :: l, e, by omega, k2, k3, hl⟩
/-- there is a route where the reference's distance is small, and it is the reference's -/
theorem zroute_same {ad ot rt : Nat → Nat} {br : Nat → Bool} {nc no fm to : Nat} (hE : ∀ c, c < nc → ad c < no ∧ ot c < no ∧ ad c ≠ ot c) (hrt : ∀ c, c < nc → rt c ≤ 100) (hto : to < no) (hfm : fm < no) (hn8 : no ≤ 8) :
    ((∃ l, zroute ad ot rt br nc no fm to l) ↔ zrs ad ot rt br nc (zd0 1000000 to) 8 fm < 1000000) ∧ ∀ l l2, zroute ad ot rt br nc no fm to l → zpath (zcn ad ot rt br (zrs ad ot rt br nc (zd0 1000000 to) 8)) (zoe ad ot) nc to fm l2 → l = l2 := by
  obtain ⟨D, d1, d2, d3, d4, d5⟩ := zrt_two (rt := rt) (br := br) hE hrt hto hn8
  have fin : ∀ l, zroute ad ot rt br nc no fm to l → D fm < 1000000000 := by
    intro l h
    cases l with
    | nil => have e : fm = to := h
             rw [e, d3]; omega
    | cons c l =>
      obtain ⟨_, _, h3, _⟩ := h
      have := h3.1
      rw [d4] at this
      exact this
  refine ⟨⟨fun ⟨l, h⟩ => ?_, fun h => ?_⟩, fun l l2 h h2 => ?_⟩
  · have := fin l h
    rcases d5 fm hfm with q | q <;> omega
  · rcases d5 fm hfm with q | q
    · omega
    · exact zpath_ex hE d1 d2 d4 _ fm (Nat.le_refl _) (by omega)
  · have := (zpath_two hE hrt d4 d5 l fm hfm (fin l h)).mp h
    exact zpath_one this h2
