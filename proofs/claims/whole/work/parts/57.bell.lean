/-! the least costs: after as many rounds as there are offices but one, nothing changes any more -/
theorem zlo_le {d : Nat → Nat} {a b w v : Nat} : zlo d a b w v ≤ d v := by
  unfold zlo
  split
  · rename_i h; rw [h.1]; omega
  · exact Nat.le_refl _
theorem zlo_ne {d : Nat → Nat} {a b w v : Nat} (h : v ≠ a) : zlo d a b w v = d v := if_neg (fun q => h q.1)
theorem zlo_rel {d : Nat → Nat} {a b w : Nat} : zlo d a b w a ≤ d b + w := by
  unfold zlo
  by_cases h : d b + w < d a
  · rw [if_pos ⟨rfl, h⟩]; exact Nat.le_refl _
  · rw [if_neg (fun q => h q.2)]; omega
theorem zlo_at {d : Nat → Nat} {a b w : Nat} : zlo d a b w a = min (d a) (d b + w) := by
  unfold zlo
  by_cases h : d b + w < d a
  · rw [if_pos ⟨rfl, h⟩]; omega
  · rw [if_neg (fun q => h q.2)]; omega
theorem zr1_le {ad ot rt : Nat → Nat} {br : Nat → Bool} {d : Nat → Nat} {c v : Nat} : zr1 ad ot rt br d c v ≤ d v := by
  unfold zr1
  split
  · exact Nat.le_refl _
  · exact Nat.le_trans zlo_le zlo_le
theorem zrd_le {ad ot rt : Nat → Nat} {br : Nat → Bool} {d : Nat → Nat} {v : Nat} : ∀ c, zrd ad ot rt br d c v ≤ d v
  | 0 => Nat.le_refl _
  | c + 1 => Nat.le_trans zr1_le (zrd_le c)
theorem zrd_mono {ad ot rt : Nat → Nat} {br : Nat → Bool} {d : Nat → Nat} {v c : Nat} : ∀ k, zrd ad ot rt br d (c + k) v ≤ zrd ad ot rt br d c v
  | 0 => Nat.le_refl _
  | k + 1 => Nat.le_trans zr1_le (zrd_mono k)
theorem zrs_le {ad ot rt : Nat → Nat} {br : Nat → Bool} {nc : Nat} {d : Nat → Nat} {v n : Nat} : ∀ k, zrs ad ot rt br nc d (n + k) v ≤ zrs ad ot rt br nc d n v
  | 0 => Nat.le_refl _
  | k + 1 => Nat.le_trans (zrd_le nc) (zrs_le k)
theorem zr1_rel {ad ot rt : Nat → Nat} {br : Nat → Bool} {d : Nat → Nat} {c : Nat} (hb : br c = false) (hne : ad c ≠ ot c) : zr1 ad ot rt br d c (ad c) ≤ d (ot c) + (rt c * 16 + 1) ∧ zr1 ad ot rt br d c (ot c) ≤ d (ad c) + (rt c * 16 + 1) := by
  unfold zr1
  rw [hb, if_neg (by decide)]
  refine ⟨?_, ?_⟩
  · rw [zlo_ne hne]; exact zlo_rel
  · have h1 := zlo_rel (d := zlo d (ad c) (ot c) (rt c * 16 + 1)) (a := ot c) (b := ad c) (w := rt c * 16 + 1)
    have h2 := zlo_le (d := d) (a := ad c) (b := ot c) (w := rt c * 16 + 1) (v := ad c)
    omega
/-- no cable lowers it -/
def zfix (ad ot rt : Nat → Nat) (br : Nat → Bool) (nc : Nat) (D : Nat → Nat) : Prop := ∀ c, c < nc → br c = false → D (ad c) ≤ D (ot c) + (rt c * 16 + 1) ∧ D (ot c) ≤ D (ad c) + (rt c * 16 + 1)
theorem zr1_ge {ad ot rt : Nat → Nat} {br : Nat → Bool} {nc c : Nat} {d D : Nat → Nat} (hf : zfix ad ot rt br nc D) (hc : c < nc) (h : ∀ v, D v ≤ d v) : ∀ v, D v ≤ zr1 ad ot rt br d c v := by
  intro v
  unfold zr1
  cases hb : br c
  · rw [if_neg (by decide)]
    obtain ⟨h1, h2⟩ := hf c hc hb
    have e1 : ∀ x, D x ≤ zlo d (ad c) (ot c) (rt c * 16 + 1) x := by
      intro x
      by_cases e : x = ad c
      · subst e; rw [zlo_at]; have := h (ad c); have := h (ot c); omega
      · rw [zlo_ne e]; exact h x
    by_cases e : v = ot c
    · subst e; rw [zlo_at]; have := e1 (ad c); have := e1 (ot c); omega
    · rw [zlo_ne e]; exact e1 v
  · rw [if_pos rfl]; exact h v
theorem zrd_ge {ad ot rt : Nat → Nat} {br : Nat → Bool} {nc : Nat} {d D : Nat → Nat} (hf : zfix ad ot rt br nc D) (h : ∀ v, D v ≤ d v) : ∀ c, c ≤ nc → ∀ v, D v ≤ zrd ad ot rt br d c v
  | 0, _ => h
  | c + 1, hc => zr1_ge hf (by omega) (zrd_ge hf h c (by omega))
theorem zrs_ge {ad ot rt : Nat → Nat} {br : Nat → Bool} {nc : Nat} {d D : Nat → Nat} (hf : zfix ad ot rt br nc D) (h : ∀ v, D v ≤ d v) : ∀ n, ∀ v, D v ≤ zrs ad ot rt br nc d n v
  | 0 => h
  | n + 1 => zrd_ge hf (zrs_ge hf h n) nc (Nat.le_refl _)
/-- what is below B has a cable that it came by -/
def zcam (ad ot rt : Nat → Nat) (br : Nat → Bool) (nc B to : Nat) (d : Nat → Nat) : Prop := ∀ v, v ≠ to → d v = B ∨ ∃ c, c < nc ∧ br c = false ∧ ((v = ad c ∧ d (ot c) + (rt c * 16 + 1) ≤ d v) ∨ (v = ot c ∧ d (ad c) + (rt c * 16 + 1) ≤ d v))
theorem zlo_cam {ad ot rt : Nat → Nat} {br : Nat → Bool} {nc B to c a b : Nat} {d : Nat → Nat} (hc : c < nc) (hb : br c = false) (hab : (a = ad c ∧ b = ot c) ∨ (a = ot c ∧ b = ad c)) (hne : a ≠ b) (h : zcam ad ot rt br nc B to d) : zcam ad ot rt br nc B to (zlo d a b (rt c * 16 + 1)) := by
  intro v hv
  have hlb : zlo d a b (rt c * 16 + 1) b = d b := zlo_ne (fun e => hne e.symm)
  by_cases e : v = a ∧ d b + (rt c * 16 + 1) < d a
  · right
    obtain ⟨e1, e2⟩ := e
    subst e1
    have hl : zlo d v b (rt c * 16 + 1) v = d b + (rt c * 16 + 1) := by unfold zlo; rw [if_pos ⟨rfl, e2⟩]
    refine ⟨c, hc, hb, ?_⟩
    rcases hab with ⟨q1, q2⟩ | ⟨q1, q2⟩
    · left; refine ⟨q1, ?_⟩; rw [← q2, hlb, hl]; exact Nat.le_refl _
    · right; refine ⟨q1, ?_⟩; rw [← q2, hlb, hl]; exact Nat.le_refl _
  · have hl : zlo d a b (rt c * 16 + 1) v = d v := by unfold zlo; rw [if_neg e]
    rcases h v hv with h1 | ⟨c', k1, k2, k3⟩
    · left; rw [hl]; exact h1
    · right
      refine ⟨c', k1, k2, ?_⟩
      rw [hl]
      rcases k3 with ⟨q1, q2⟩ | ⟨q1, q2⟩
      · left; exact ⟨q1, Nat.le_trans (Nat.add_le_add_right zlo_le _) q2⟩
      · right; exact ⟨q1, Nat.le_trans (Nat.add_le_add_right zlo_le _) q2⟩
theorem zr1_cam {ad ot rt : Nat → Nat} {br : Nat → Bool} {nc B to c : Nat} {d : Nat → Nat} (hc : c < nc) (hne : ad c ≠ ot c) (h : zcam ad ot rt br nc B to d) : zcam ad ot rt br nc B to (zr1 ad ot rt br d c) := by
  unfold zr1
  cases hb : br c
  · rw [if_neg (by decide)]
    exact zlo_cam hc hb (Or.inr ⟨rfl, rfl⟩) (fun e => hne e.symm) (zlo_cam hc hb (Or.inl ⟨rfl, rfl⟩) hne h)
  · rw [if_pos rfl]; exact h
theorem zrd_cam {ad ot rt : Nat → Nat} {br : Nat → Bool} {nc B to : Nat} {d : Nat → Nat} (hne : ∀ c, c < nc → ad c ≠ ot c) (h : zcam ad ot rt br nc B to d) : ∀ c, c ≤ nc → zcam ad ot rt br nc B to (zrd ad ot rt br d c)
  | 0, _ => h
  | c + 1, hc => zr1_cam (by omega) (hne c (by omega)) (zrd_cam hne h c (by omega))
theorem zrs_cam {ad ot rt : Nat → Nat} {br : Nat → Bool} {nc B to : Nat} (hne : ∀ c, c < nc → ad c ≠ ot c) : ∀ n, zcam ad ot rt br nc B to (zrs ad ot rt br nc (zd0 B to) n)
  | 0 => fun v hv => Or.inl (if_neg hv)
  | n + 1 => zrd_cam hne (zrs_cam hne n) nc (Nat.le_refl _)
/-- a round that changes nothing: no cable lowers it -/
theorem zrd_fix {ad ot rt : Nat → Nat} {br : Nat → Bool} {nc : Nat} {d : Nat → Nat} (hne : ∀ c, c < nc → ad c ≠ ot c) (h : ∀ v, zrd ad ot rt br d nc v = d v) : zfix ad ot rt br nc d := by
  intro c hc hb
  have e1 : ∀ v, zrd ad ot rt br d c v = d v := fun v => Nat.le_antisymm (zrd_le c) (by rw [← h v]; have := zrd_mono (ad := ad) (ot := ot) (rt := rt) (br := br) (d := d) (v := v) (c := c) (nc - c); rw [show c + (nc - c) = nc by omega] at this; exact this)
  have e2 : ∀ v, zrd ad ot rt br d (c + 1) v = d v := fun v => Nat.le_antisymm (zrd_le (c + 1)) (by rw [← h v]; have := zrd_mono (ad := ad) (ot := ot) (rt := rt) (br := br) (d := d) (v := v) (c := c + 1) (nc - (c + 1)); rw [show c + 1 + (nc - (c + 1)) = nc by omega] at this; exact this)
  have h3 := zr1_rel (ad := ad) (ot := ot) (rt := rt) (br := br) (d := zrd ad ot rt br d c) hb (hne c hc)
  have k1 := e2 (ad c)
  have k2 := e2 (ot c)
  rw [e1, e1] at h3
  exact ⟨by rw [← k1]; exact h3.1, by rw [← k2]; exact h3.2⟩
theorem zsum_min {f : Nat → Nat → Nat} (m : Nat) : ∃ N, ∀ n, zsum (f N) m ≤ zsum (f n) m := by
  have : ∀ k, (∃ n, zsum (f n) m ≤ k) → ∃ N, ∀ n, zsum (f N) m ≤ zsum (f n) m := by
    intro k
    induction k with
    | zero => rintro ⟨n, hn⟩; exact ⟨n, fun n' => by omega⟩
    | succ k ih =>
      rintro ⟨n, hn⟩
      by_cases h : ∃ n, zsum (f n) m ≤ k
      · exact ih h
      · exact ⟨n, fun n' => by have : ¬ zsum (f n') m ≤ k := fun q => h ⟨n', q⟩; omega⟩
  exact this _ ⟨0, Nat.le_refl _⟩
theorem zsum_eq {f g : Nat → Nat} : ∀ {m : Nat}, (∀ i, g i ≤ f i) → zsum f m ≤ zsum g m → ∀ i, i < m → g i = f i
  | 0, _, _, i, hi => absurd hi (Nat.not_lt_zero _)
  | m + 1, h, hs, i, hi => by
    have h1 : zsum f m + f m ≤ zsum g m + g m := hs
    have h2 : zsum g m ≤ zsum f m := by
      clear hs h1 hi
      induction m with
      | zero => exact Nat.le_refl _
      | succ k ih => exact Nat.add_le_add ih (h k)
    have h3 := h m
    rcases Nat.lt_or_ge i m with q | q
    · exact zsum_eq h (by omega) i q
    · rw [show i = m by omega]; omega
theorem zr1_out {ad ot rt : Nat → Nat} {br : Nat → Bool} {d : Nat → Nat} {c v : Nat} (h1 : v ≠ ad c) (h2 : v ≠ ot c) : zr1 ad ot rt br d c v = d v := by
  unfold zr1
  split
  · rfl
  · rw [zlo_ne h2, zlo_ne h1]
theorem zrd_out {ad ot rt : Nat → Nat} {br : Nat → Bool} {nc no v : Nat} {d : Nat → Nat} (hE : ∀ c, c < nc → ad c < no ∧ ot c < no ∧ ad c ≠ ot c) (hv : no ≤ v) : ∀ c, c ≤ nc → zrd ad ot rt br d c v = d v
  | 0, _ => rfl
  | c + 1, hc => by
    have h1 := hE c (by omega)
    show zr1 ad ot rt br (zrd ad ot rt br d c) c v = d v
    rw [zr1_out (by omega) (by omega), zrd_out hE hv c (by omega)]
theorem zrs_out {ad ot rt : Nat → Nat} {br : Nat → Bool} {nc no v : Nat} {d : Nat → Nat} (hE : ∀ c, c < nc → ad c < no ∧ ot c < no ∧ ad c ≠ ot c) (hv : no ≤ v) : ∀ n, zrs ad ot rt br nc d n v = d v
  | 0 => rfl
  | n + 1 => (zrd_out hE hv nc (Nat.le_refl _)).trans (zrs_out hE hv n)
theorem zd0_to {B to : Nat} : zd0 B to to = 0 := if_pos rfl
theorem zd0_le {B to v : Nat} : zd0 B to v ≤ B := by
  unfold zd0; split <;> omega
theorem zcnt_pos {P : Nat → Prop} {n j : Nat} (hj : j < n) (hp : P j) : 0 < zcnt P n := Nat.lt_of_le_of_lt (Nat.zero_le _) (zcnt_lt hj hp)
theorem zbell {ad ot rt : Nat → Nat} {br : Nat → Bool} {nc no B to : Nat} (hE : ∀ c, c < nc → ad c < no ∧ ot c < no ∧ ad c ≠ ot c) (hto : to < no) (hB : 0 < B) : ∃ D, zfix ad ot rt br nc D ∧ zcam ad ot rt br nc B to D ∧ (∀ v, D v ≤ B) ∧ D to = 0 ∧ ∀ R, no - 1 ≤ R → ∀ v, zrs ad ot rt br nc (zd0 B to) R v = D v := by
  obtain ⟨N, hN⟩ := zsum_min (f := fun n => zrs ad ot rt br nc (zd0 B to) n) no
  have hstep : ∀ v, zrd ad ot rt br (zrs ad ot rt br nc (zd0 B to) N) nc v = zrs ad ot rt br nc (zd0 B to) N v := by
    intro v
    rcases Nat.lt_or_ge v no with h | h
    · exact zsum_eq (f := zrs ad ot rt br nc (zd0 B to) N) (g := zrs ad ot rt br nc (zd0 B to) (N + 1)) (m := no) (fun i => zrd_le nc) (hN (N + 1)) v h
    · exact zrd_out hE h nc (Nat.le_refl _)
  have hfix := zrd_fix (fun c hc => (hE c hc).2.2) hstep
  have hcam := zrs_cam (ad := ad) (ot := ot) (rt := rt) (br := br) (nc := nc) (B := B) (to := to) (fun c hc => (hE c hc).2.2) N
  have hle0 : ∀ v, zrs ad ot rt br nc (zd0 B to) N v ≤ zd0 B to v := fun v => by
    have := zrs_le (ad := ad) (ot := ot) (rt := rt) (br := br) (nc := nc) (d := zd0 B to) (v := v) (n := 0) N
    rw [Nat.zero_add] at this; exact this
  have hout : ∀ v, no ≤ v → zrs ad ot rt br nc (zd0 B to) N v = zd0 B to v := fun v hv => zrs_out hE hv N
  generalize zrs ad ot rt br nc (zd0 B to) N = D at hfix hcam hle0 hout
  have hDB : ∀ v, D v ≤ B := fun v => by
    exact Nat.le_trans (hle0 v) zd0_le
  have hD0 : D to = 0 := by
    have := hle0 to
    rw [zd0_to] at this; omega
  have hge := zrs_ge hfix hle0
  have hRB : ∀ R v, zrs ad ot rt br nc (zd0 B to) R v ≤ zd0 B to v := fun R v => by
    have := zrs_le (ad := ad) (ot := ot) (rt := rt) (br := br) (nc := nc) (d := zd0 B to) (v := v) (n := 0) R
    rw [Nat.zero_add] at this; exact this
  have hRB2 : ∀ R v, zrs ad ot rt br nc (zd0 B to) R v ≤ B := fun R v => by
    exact Nat.le_trans (hRB R v) zd0_le
  have key : ∀ r v, v < no → zcnt (fun u => D u < D v) no ≤ r → zrs ad ot rt br nc (zd0 B to) r v = D v := by
    intro r
    induction r with
    | zero =>
      intro v hv hc
      by_cases e : v = to
      · subst e
        have := hRB 0 v
        have h2 := hge 0 v
        rw [zd0_to] at this
        omega
      · exfalso
        have hp : D to < D v := by
          rw [hD0]
          rcases hcam v e with h | ⟨c, _, _, ⟨_, h⟩ | ⟨_, h⟩⟩ <;> omega
        have := zcnt_pos (P := fun u => D u < D v) hto hp
        omega
    | succ r ih =>
      intro v hv hc
      by_cases e : v = to
      · subst e
        have := hRB (r + 1) v
        have h2 := hge (r + 1) v
        rw [zd0_to] at this
        omega
      have hlow := hge (r + 1) v
      rcases hcam v e with h | ⟨c, hc1, hc2, h⟩
      · have := hRB2 (r + 1) v; omega
      · have hne := (hE c hc1).2.2
        have hpre := fun x => zrd_le (ad := ad) (ot := ot) (rt := rt) (br := br) (d := zrs ad ot rt br nc (zd0 B to) r) (v := x) c
        have hrel := zr1_rel (ad := ad) (ot := ot) (rt := rt) (br := br) (d := zrd ad ot rt br (zrs ad ot rt br nc (zd0 B to) r) c) hc2 hne
        have hsuf : ∀ x, zrs ad ot rt br nc (zd0 B to) (r + 1) x ≤ zr1 ad ot rt br (zrd ad ot rt br (zrs ad ot rt br nc (zd0 B to) r) c) c x := fun x => by
          have := zrd_mono (ad := ad) (ot := ot) (rt := rt) (br := br) (d := zrs ad ot rt br nc (zd0 B to) r) (v := x) (c := c + 1) (nc - (c + 1))
          rw [show c + 1 + (nc - (c + 1)) = nc by omega] at this
          exact this
        rcases h with ⟨q1, q2⟩ | ⟨q1, q2⟩
        · have hu : zrs ad ot rt br nc (zd0 B to) r (ot c) = D (ot c) := ih (ot c) (hE c hc1).2.1 (by
            have := zcnt_ssub (P := fun u => D u < D (ot c)) (Q := fun u => D u < D v) (hE c hc1).2.1 (fun k _ hk => by omega) (by omega) (by omega)
            omega)
          have a1 := hsuf v
          have a2 := hpre (ot c)
          have a3 := hrel.1
          rw [← q1] at a3
          omega
        · have hu : zrs ad ot rt br nc (zd0 B to) r (ad c) = D (ad c) := ih (ad c) (hE c hc1).1 (by
            have := zcnt_ssub (P := fun u => D u < D (ad c)) (Q := fun u => D u < D v) (hE c hc1).1 (fun k _ hk => by omega) (by omega) (by omega)
            omega)
          have a1 := hsuf v
          have a2 := hpre (ad c)
          have a3 := hrel.2
          rw [← q1] at a3
          omega
  refine ⟨D, hfix, hcam, hDB, hD0, fun R hR v => ?_⟩
  rcases Nat.lt_or_ge v no with h | h
  · exact key R v h (by have := zcnt_lt_n (P := fun u => D u < D v) h (Nat.lt_irrefl _); omega)
  · rw [zrs_out hE h R, hout v h]
/-- with a smaller bound: the smaller of the two -/
theorem zlo_min {d : Nat → Nat} {b a c w : Nat} : zlo (fun v => min b (d v)) a c w = fun v => min b (zlo d a c w v) := by
  funext v
  by_cases e : v = a
  · subst e; rw [zlo_at, zlo_at]; omega
  · rw [zlo_ne e, zlo_ne e]
theorem zr1_min {ad ot rt : Nat → Nat} {br : Nat → Bool} {d : Nat → Nat} {b c : Nat} : zr1 ad ot rt br (fun v => min b (d v)) c = fun v => min b (zr1 ad ot rt br d c v) := by
  unfold zr1
  cases br c
  · rw [if_neg (by decide), if_neg (by decide), zlo_min, zlo_min]
  · rw [if_pos rfl, if_pos rfl]
theorem zrd_min {ad ot rt : Nat → Nat} {br : Nat → Bool} {d : Nat → Nat} {b : Nat} : ∀ c, zrd ad ot rt br (fun v => min b (d v)) c = fun v => min b (zrd ad ot rt br d c v)
  | 0 => rfl
  | c + 1 => by
    show zr1 ad ot rt br (zrd ad ot rt br (fun v => min b (d v)) c) c = _
    rw [zrd_min c, zr1_min]; rfl
theorem zrs_min {ad ot rt : Nat → Nat} {br : Nat → Bool} {nc b B to : Nat} (hb : b ≤ B) : ∀ n, zrs ad ot rt br nc (zd0 b to) n = fun v => min b (zrs ad ot rt br nc (zd0 B to) n v)
  | 0 => by
    funext v
    show zd0 b to v = min b (zd0 B to v)
    unfold zd0
    split <;> omega
  | n + 1 => by
    show zrd ad ot rt br (zrs ad ot rt br nc (zd0 b to) n) nc = _
    rw [zrs_min hb n, zrd_min]; rfl
theorem ztight {ad ot rt : Nat → Nat} {br : Nat → Bool} {nc B to : Nat} {D : Nat → Nat} (hne : ∀ c, c < nc → ad c ≠ ot c) (hf : zfix ad ot rt br nc D) (hc : zcam ad ot rt br nc B to D) {v : Nat} (hv : v ≠ to) (hB : D v ≠ B) : ∃ c, c < nc ∧ zcn ad ot rt br D v c := by
  rcases hc v hv with h | ⟨c, h1, h2, h⟩
  · exact absurd h hB
  · refine ⟨c, h1, h2, ?_⟩
    have hx := hf c h1 h2
    rcases h with ⟨q1, q2⟩ | ⟨q1, q2⟩
    · refine ⟨Or.inl q1, ?_⟩
      unfold zoe; rw [if_pos q1]
      rw [q1] at q2 ⊢; omega
    · refine ⟨Or.inr q1, ?_⟩
      unfold zoe; rw [if_neg (fun e => hne c h1 (e.symm.trans q1))]
      rw [q1] at q2 ⊢; omega
/-- what is below B is small -/
theorem zsmall {ad ot rt : Nat → Nat} {br : Nat → Bool} {nc no B to : Nat} {D : Nat → Nat} (hE : ∀ c, c < nc → ad c < no ∧ ot c < no ∧ ad c ≠ ot c) (hrt : ∀ c, c < nc → rt c ≤ 100) (hc : zcam ad ot rt br nc B to D) (hf : zfix ad ot rt br nc D) (hD0 : D to = 0) (hDB : ∀ v, D v ≤ B) : ∀ (k v : Nat), v < no → zcnt (fun u => D u < D v) no ≤ k → D v = B ∨ D v ≤ 1601 * k := by
  intro k
  induction k with
  | zero =>
    intro v hv hk
    by_cases e : v = to
    · subst e; exact Or.inr (by omega)
    by_cases hB : D v = B
    · exact Or.inl hB
    obtain ⟨c, h1, h2, h3, h4⟩ := ztight (fun c hc => (hE c hc).2.2) hf hc e hB
    have hu : zoe ad ot c v < no := by unfold zoe; split; exact (hE c h1).2.1; exact (hE c h1).1
    have := zcnt_pos (P := fun u => D u < D v) hu (by omega)
    omega
  | succ k ih =>
    intro v hv hk
    by_cases e : v = to
    · subst e; exact Or.inr (by omega)
    by_cases hB : D v = B
    · exact Or.inl hB
    obtain ⟨c, h1, h2, h3, h4⟩ := ztight (fun c hc => (hE c hc).2.2) hf hc e hB
    have hu : zoe ad ot c v < no := by unfold zoe; split; exact (hE c h1).2.1; exact (hE c h1).1
    have h5 := zcnt_ssub (P := fun u => D u < D (zoe ad ot c v)) (Q := fun u => D u < D v) hu (fun q _ hq => by omega) (by omega) (by omega)
    have h6 := hrt c h1
    rcases ih _ hu (by omega) with q | q
    · have := hDB v; omega
    · right; omega