/-! a minute of both sides -/
theorem zcy_w {kd cb : Nat → Nat} {kind i : Nat} {s : (Nat → Nat) × (Nat → Nat)} : ∀ n, (zcy kd cb kind n s).1 i ≤ s.1 i ∧ (¬ cb i < 12 → (zcy kd cb kind n s).1 i = s.1 i)
  | 0 => ⟨Nat.le_refl _, fun _ => rfl⟩
  | n + 1 => by
    obtain ⟨h1, h2⟩ := zcy_w (kd := kd) (cb := cb) (kind := kind) (i := i) (s := s) n
    show (if kd n = kind then zcs cb n (zcy kd cb kind n s) else zcy kd cb kind n s).1 i ≤ _ ∧ (_ → (if kd n = kind then zcs cb n (zcy kd cb kind n s) else zcy kd cb kind n s).1 i = _)
    split
    · unfold zcs
      split
      · rename_i q
        simp only [zud]
        by_cases e : i = n
        · subst e
          rw [if_pos rfl]
          exact ⟨by omega, fun r => absurd q r⟩
        · rw [if_neg e]; exact ⟨h1, h2⟩
      · exact ⟨h1, h2⟩
    · exact ⟨h1, h2⟩
theorem zcj_w {kd cb : Nat → Nat} {n i : Nat} {s : (Nat → Nat) × (Nat → Nat)} : ∀ j, (zcj kd cb n s j).1 i ≤ s.1 i ∧ (¬ cb i < 12 → (zcj kd cb n s j).1 i = s.1 i)
  | 0 => ⟨Nat.le_refl _, fun _ => rfl⟩
  | j + 1 => by
    obtain ⟨h1, h2⟩ := zcj_w (kd := kd) (cb := cb) (n := n) (i := i) (s := s) j
    obtain ⟨q1, q2⟩ := zcy_w (kd := kd) (cb := cb) (kind := 2 - j) (i := i) (s := zcj kd cb n s j) n
    exact ⟨Nat.le_trans q1 h1, fun r => (q2 r).trans (h2 r)⟩
abbrev zQ4 : Type := (Nat → Nat) × (Nat → Nat) × (Nat → Nat) × (Nat → Nat)
def zQ1 (ad ot fm pd : Nat → Nat) (ro : Nat → Nat → Nat) (RL m : Nat) (q : zQ4) (t : zT5) : Prop :=
  q.1 m = t.1 ∧ t.1 ≤ 2 ∧ q.2.2.1 m = t.2.1 ∧ t.2.1 ≤ RL ∧ (t.1 = 0 → t.2.1 < RL) ∧ t.2.2.1 < pd m ∧ q.2.2.2 m = pd m - t.2.2.1 ∧ (t.2.2.2.1 = true → t.1 = 0) ∧ q.2.1 m = zpt ad ot (ro m) (fm m) t.2.1 ∧ t.2.2.2.2 = (if t.1 = 2 then nI (zpt ad ot (ro m) (fm m) t.2.1) else -1)
def zQQ (g : zSh) (nm : Nat) (ad ot fm pd : Nat → Nat) (ro : Nat → Nat → Nat) (q : zQ4) (q2 : zQ) : Prop := ∀ m, m < nm → zQ1 ad ot fm pd ro (g.2.2.2.1 (500 + m)) m q (zqm q2 m)
/-- the routes of the messages -/
def zWy (g : zSh) (nm nc : Nat) (ad ot fm tt : Nat → Nat) (ro : Nat → Nat → Nat) : Prop := ∀ m, m < nm → (∀ k, k < g.2.2.2.1 (500 + m) → ro m k < nc ∧ zpt ad ot (ro m) (fm m) k ≠ tt m) ∧ zpt ad ot (ro m) (fm m) (g.2.2.2.1 (500 + m)) = tt m
theorem zri_m {nm m : Nat} {q : zQ} (hm : m < nm) : zqm (zri nm q) m = (q.1 m, q.2.1 m, q.2.2.1 m, decide (q.1 m = 0), q.2.2.2.2 m) := by
  unfold zri zqm
  simp only [if_pos hm]
theorem zmin_all {g : zSh} {nm nc : Nat} {fm tt kd pd ad ot sp : Nat → Nat} {ro : Nat → Nat → Nat} {hc fb br : Nat → Bool} {q : zQ4} {q2 : zQ} (hn12 : nc ≤ 12) (hW : zWy g nm nc ad ot fm tt ro) (H : zQQ g nm ad ot fm pd ro q q2) :
    ∀ m, m < nm → (q.1 m = 0 → zcb q.1 q.2.2.1 ro m = ro m (q.2.2.1 m) ∧ zcb q.1 q.2.2.1 ro m < nc ∧ zqm (zrmin fm tt kd pd ro hc fb ad ot sp br nm nc q2) m = zTg fm tt pd ro hc fb ad ot (zqm (zri nm q2) m) m ((zcj kd (zcb q.1 q.2.2.1 ro) nm (q.2.2.2, fun c => if br c then 0 else sp c) 3).1 m)) ∧
      (q.1 m ≠ 0 → zcb q.1 q.2.2.1 ro m = 99 ∧ zqm (zrmin fm tt kd pd ro hc fb ad ot sp br nm nc q2) m = zqm (zri nm q2) m) := by
  have c0 : ∀ i, q.1 i = 0 → zcb q.1 q.2.2.1 ro i = ro i (q.2.2.1 i) := fun i h => if_pos h
  have c1 : ∀ i, q.1 i ≠ 0 → zcb q.1 q.2.2.1 ro i = 99 := fun i h => if_neg h
  have cn : ∀ i, i < nm → q.1 i = 0 → zcb q.1 q.2.2.1 ro i < nc := by
    intro i hi h
    obtain ⟨h1, h2, h3, h4, h5, _⟩ := H i hi
    rw [c0 i h, h3]
    exact ((hW i hi).1 _ (h5 (by rw [← h1]; exact h))).1
  have A := zrcf_all (fm := fm) (tt := tt) (kd := kd) (pd := pd) (ro := ro) (hc := hc) (fb := fb) (ad := ad) (ot := ot) (sp := sp) (br := br) (nm := nm) (nc := nc) (cb := zcb q.1 q.2.2.1 ro) (lf := q.2.2.2) (q0 := zri nm q2) hn12
    (fun i hi hb => by
      have h0 : q.1 i = 0 := Classical.byContradiction fun r => by have := c1 i r; omega
      obtain ⟨h1, h2, h3, h4, h5, h6, h7, h8, h9, h10⟩ := H i hi
      have e1 : q2.1 i = 0 := h1.symm.trans h0
      rw [zri_m hi, e1]
      refine ⟨rfl, by rw [c0 i h0, h3]; rfl, by rw [h7]; omega, ?_⟩
      rw [zTg_p (by rw [h7]; omega), h7]
      have h6' : q2.2.2.1 i < pd i := h6
      show ((0 : Nat), q2.2.1 i, q2.2.2.1 i, true, q2.2.2.2.2 i) = (0, q2.2.1 i, pd i - (pd i - q2.2.2.1 i), true, q2.2.2.2.2 i)
      rw [show pd i - (pd i - q2.2.2.1 i) = q2.2.2.1 i by omega])
    (fun i hi => by obtain ⟨_, _, _, _, _, _, z7, _⟩ := H i hi; omega)
    (fun i hi hb => by
      rw [zri_m hi]
      intro r
      exact hb (cn i hi ((H i hi).1.trans r))) nc (Nat.le_refl _)
  exact fun m hm => ⟨fun h => ⟨c0 m h, cn m hm h, A.1 m hm (cn m hm h)⟩, fun h => ⟨c1 m h, A.2 m hm (by rw [c1 m h]; omega)⟩⟩
theorem zmin_same {g : zSh} {nm nc : Nat} {fm tt kd pd ad ot sp : Nat → Nat} {ro : Nat → Nat → Nat} {hc fb br : Nat → Bool} {q : zQ4} {q2 : zQ} (hn12 : nc ≤ 12) (hW : zWy g nm nc ad ot fm tt ro) (H : zQQ g nm ad ot fm pd ro q q2) :
    zQQ g nm ad ot fm pd ro (zmi1 g nm kd pd ro ad ot sp br hc fb q) (zrmin fm tt kd pd ro hc fb ad ot sp br nm nc q2) := by
  intro m hm
  obtain ⟨A0, A1⟩ := zmin_all (kd := kd) (sp := sp) (hc := hc) (fb := fb) (br := br) hn12 hW H m hm
  obtain ⟨h1, h2, h3, h4, h5, h6, h7, h8, h9, h10⟩ := H m hm
  obtain ⟨w1, w2⟩ := hW m hm
  have hx := (zcj_w (kd := kd) (cb := zcb q.1 q.2.2.1 ro) (n := nm) (i := m) (s := (q.2.2.2, fun c => if br c then 0 else sp c)) 3)
  have z2 : q2.1 m ≤ 2 := h2
  have z1 : q.1 m = q2.1 m := h1
  have z3 : q.2.2.1 m = q2.2.1 m := h3
  have z4 : q2.2.1 m ≤ g.2.2.2.1 (500 + m) := h4
  have z5 : q2.1 m = 0 → q2.2.1 m < g.2.2.2.1 (500 + m) := h5
  have z6 : q2.2.2.1 m < pd m := h6
  have z7 : q.2.2.2 m = pd m - q2.2.2.1 m := h7
  have z9 : q.2.1 m = zpt ad ot (ro m) (fm m) (q2.2.1 m) := h9
  have z10 : q2.2.2.2.2 m = (if q2.1 m = 2 then nI (zpt ad ot (ro m) (fm m) (q2.2.1 m)) else -1) := h10
  unfold zmi1 zmx zQ1
  simp only [if_pos hm]
  generalize hX : (zcj kd (zcb q.1 q.2.2.1 ro) nm (q.2.2.2, fun c => if br c then 0 else sp c) 3).1 = X at *
  by_cases h0 : q.1 m = 0
  · obtain ⟨a1, a2, a3⟩ := A0 h0
    have y0 : q2.1 m = 0 := z1.symm.trans h0
    have y5 := z5 y0
    rw [y0, if_neg (by decide)] at z10
    rw [a3, zri_m hm, y0]
    unfold zst2 zia2 zlg2 zlf2 zmv
    by_cases x0 : X m = 0
    · have em : decide (zcb q.1 q.2.2.1 ro m < 12 ∧ X m = 0) = true := decide_eq_true ⟨by omega, x0⟩
      rw [em, if_pos rfl, if_pos rfl, if_pos rfl, if_pos rfl]
      have eo : zoE ad ot (zcb q.1 q.2.2.1 ro) q.2.1 m = zpt ad ot (ro m) (fm m) (q2.2.1 m + 1) := by
        show (if q.2.1 m = ad (zcb q.1 q.2.2.1 ro m) then ot (zcb q.1 q.2.2.1 ro m) else ad (zcb q.1 q.2.2.1 ro m)) = zoe ad ot (ro m (q2.2.1 m)) (zpt ad ot (ro m) (fm m) (q2.2.1 m))
        rw [a1, z9, z3]
        rfl
      rw [eo, z3, x0]
      unfold zTg
      rw [if_pos rfl]
      show ((if (hc m && fb (zpt ad ot (ro m) (fm m) (q2.2.1 m + 1))) = true then 2 else if g.2.2.2.1 (500 + m) ≤ q2.2.1 m + 1 then 1 else 0) = (if (hc m && fb (zpt ad ot (ro m) (fm m) (q2.2.1 m + 1))) = true then 2 else if zpt ad ot (ro m) (fm m) (q2.2.1 m + 1) = tt m then 1 else 0)) ∧ _
      have ed : (g.2.2.2.1 (500 + m) ≤ q2.2.1 m + 1) ↔ (zpt ad ot (ro m) (fm m) (q2.2.1 m + 1) = tt m) := by
        constructor
        · intro r
          have : q2.2.1 m + 1 = g.2.2.2.1 (500 + m) := by omega
          rw [this]; exact w2
        · intro r
          rcases Nat.lt_or_ge (q2.2.1 m + 1) (g.2.2.2.1 (500 + m)) with s | s
          · exact absurd r (w1 _ s).2
          · exact s
      simp only []
      by_cases f0 : (hc m && fb (zpt ad ot (ro m) (fm m) (q2.2.1 m + 1))) = true
      · simp only [f0, if_true]
        exact ⟨trivial, by omega, trivial, by omega, by omega, by omega, by omega, by simp, trivial, trivial⟩
      · rw [Bool.not_eq_true] at f0
        simp only [f0, Bool.false_eq_true, if_false]
        by_cases d0 : zpt ad ot (ro m) (fm m) (q2.2.1 m + 1) = tt m
        · rw [if_pos d0, if_pos (ed.mpr d0)]
          exact ⟨rfl, by omega, trivial, by omega, by omega, by omega, by omega, by simp, trivial, by rw [if_neg (by decide)]; exact z10⟩
        · have d1 : ¬ g.2.2.2.1 (500 + m) ≤ q2.2.1 m + 1 := fun r => d0 (ed.mp r)
          rw [if_neg d0, if_neg d1]
          exact ⟨rfl, by omega, trivial, by omega, by omega, by omega, by omega, by simp, trivial, by rw [if_neg (by decide)]; exact z10⟩
    · have em : decide (zcb q.1 q.2.2.1 ro m < 12 ∧ X m = 0) = false := decide_eq_false (fun r => x0 r.2)
      rw [em, if_neg Bool.false_ne_true, if_neg Bool.false_ne_true, if_neg Bool.false_ne_true, if_neg Bool.false_ne_true, zTg_p (by omega)]
      have hx1 : X m ≤ q.2.2.2 m := hx.1
      exact ⟨h0, by show (0 : Nat) ≤ 2; omega, z3, z4, fun _ => y5, by show pd m - X m < pd m; omega, by show X m = pd m - (pd m - X m); omega, fun _ => rfl, z9, by show q2.2.2.2.2 m = _; rw [z10]; rfl⟩
  · obtain ⟨a1, a3⟩ := A1 h0
    have y0 : q2.1 m ≠ 0 := fun r => h0 (z1.trans r)
    have em : zmv (zcb q.1 q.2.2.1 ro) X m = false := decide_eq_false (fun r => by have := r.1; omega)
    have xl : X m = q.2.2.2 m := hx.2 (by omega)
    rw [a3, zri_m hm]
    unfold zst2 zia2 zlg2 zlf2
    rw [em, if_neg Bool.false_ne_true, if_neg Bool.false_ne_true, if_neg Bool.false_ne_true, if_neg Bool.false_ne_true, xl]
    exact ⟨z1, z2, z3, z4, z5, z6, z7, fun r => of_decide_eq_true r, z9, z10⟩
theorem zmin_still {g : zSh} {nm nc : Nat} {fm tt kd pd ad ot sp : Nat → Nat} {ro : Nat → Nat → Nat} {hc fb br : Nat → Bool} {q : zQ4} {q2 : zQ} (hn12 : nc ≤ 12) (hW : zWy g nm nc ad ot fm tt ro) (H : zQQ g nm ad ot fm pd ro q q2) (h0 : ∀ m, m < nm → q.1 m ≠ 0) :
    zQQ g nm ad ot fm pd ro q (zrmin fm tt kd pd ro hc fb ad ot sp br nm nc q2) := by
  intro m hm
  obtain ⟨a1, a3⟩ := (zmin_all (kd := kd) (sp := sp) (hc := hc) (fb := fb) (br := br) hn12 hW H m hm).2 (h0 m hm)
  obtain ⟨h1, h2, h3, h4, h5, h6, h7, h8, h9, h10⟩ := H m hm
  rw [a3, zri_m hm]
  exact ⟨h1, h2, h3, h4, h5, h6, h7, fun r => of_decide_eq_true r, h9, h10⟩
theorem zmn_same {g : zSh} {nm nc : Nat} {fm tt kd pd ad ot sp : Nat → Nat} {ro : Nat → Nat → Nat} {hc fb br : Nat → Bool} {q : zQ4} {q2 : zQ} (hn12 : nc ≤ 12) (hW : zWy g nm nc ad ot fm tt ro) (H : zQQ g nm ad ot fm pd ro q q2) : ∀ n,
    zQQ g nm ad ot fm pd ro (zmn (zmi1 g nm kd pd ro ad ot sp br hc fb) q n) (zrit (zrmin fm tt kd pd ro hc fb ad ot sp br nm nc) q2 n)
  | 0 => H
  | n + 1 => zmin_same hn12 hW (zmn_same hn12 hW H n)
theorem zmn_stop {g : zSh} {nm nc k : Nat} {fm tt kd pd ad ot sp : Nat → Nat} {ro : Nat → Nat → Nat} {hc fb br : Nat → Bool} {q3 : zQ4} {q2 : zQ} (hn12 : nc ≤ 12) (hW : zWy g nm nc ad ot fm tt ro) (h0 : ∀ m, m < nm → q3.1 m ≠ 0) (H : zQQ g nm ad ot fm pd ro q3 (zrit (zrmin fm tt kd pd ro hc fb ad ot sp br nm nc) q2 k)) : ∀ j,
    zQQ g nm ad ot fm pd ro q3 (zrit (zrmin fm tt kd pd ro hc fb ad ot sp br nm nc) q2 (k + j))
  | 0 => H
  | j + 1 => zmin_still hn12 hW (zmn_stop hn12 hW h0 H j) h0
