/-! a minute of both sides: what is carried on one cable -/
abbrev zT5 : Type := Nat × Nat × Nat × Bool × Int32
def zqm (q : zQ) (m : Nat) : zT5 := (q.1 m, q.2.1 m, q.2.2.1 m, q.2.2.2.1 m, q.2.2.2.2 m)
/-- a message underway of which x is left: 0, it has moved -/
def zTg (fm tt pd : Nat → Nat) (ro : Nat → Nat → Nat) (hc fb : Nat → Bool) (ad ot : Nat → Nat) (t : zT5) (m x : Nat) : zT5 :=
  if x = 0 then (if hc m && fb (zpt ad ot (ro m) (fm m) (t.2.1 + 1)) then 2 else if zpt ad ot (ro m) (fm m) (t.2.1 + 1) = tt m then 1 else t.1, t.2.1 + 1, 0, false, if hc m && fb (zpt ad ot (ro m) (fm m) (t.2.1 + 1)) then nI (zpt ad ot (ro m) (fm m) (t.2.1 + 1)) else t.2.2.2.2)
  else (t.1, t.2.1, pd m - x, true, t.2.2.2.2)
theorem zTg_p {fm tt pd : Nat → Nat} {ro : Nat → Nat → Nat} {hc fb : Nat → Bool} {ad ot : Nat → Nat} {t : zT5} {m x : Nat} (h : 0 < x) : zTg fm tt pd ro hc fb ad ot t m x = (t.1, t.2.1, pd m - x, true, t.2.2.2.2) := if_neg (by omega)
theorem zrcy_ne {fm tt pd : Nat → Nat} {ro : Nat → Nat → Nat} {hc fb : Nat → Bool} {ad ot : Nat → Nat} {m w i : Nat} {q : zQ} (h : i ≠ m) : zqm (zrcy fm tt pd ro hc fb ad ot m w q) i = zqm q i := by
  unfold zrcy zqm
  split
  · simp only [zud, zudI, if_neg h]
    congr 4
    split <;> simp [zudI, h]
  · simp only [zud, if_neg h]
theorem zrcy_at {fm tt pd : Nat → Nat} {ro : Nat → Nat → Nat} {hc fb : Nat → Bool} {ad ot : Nat → Nat} {m w x : Nat} {q : zQ} {t : zT5} (hx : 0 < x) (hxp : x ≤ pd m) (h : zqm q m = zTg fm tt pd ro hc fb ad ot t m x) : zqm (zrcy fm tt pd ro hc fb ad ot m w q) m = zTg fm tt pd ro hc fb ad ot t m (x - min x w) := by
  rw [zTg_p hx] at h
  unfold zqm at h
  simp only [Prod.mk.injEq] at h
  obtain ⟨h1, h2, h3, h4, h5⟩ := h
  unfold zrcy
  rw [h1, h2, h3]
  have e : pd m - (pd m - x) = x := by omega
  rw [e]
  by_cases q9 : pd m - x + min x w = pd m
  · rw [if_pos q9, show x - min x w = 0 by omega]
    by_cases q8 : (hc m && fb (zpt ad ot (ro m) (fm m) (t.2.1 + 1))) = true
    · simp only [zqm, zud, zudI, zTg, q8, if_pos, if_true]
    · simp only [zqm, zud, zudI, zTg, q8, if_pos, if_true, if_false, Bool.false_eq_true, h5]
  · rw [if_neg q9, zTg_p (by omega)]
    unfold zqm
    simp only [zud, if_pos]
    rw [h1, h2, h4, h5]
    congr 3
    omega
/-- one cable's turn: the reference's state beside the class's fold -/
def zIv (nm : Nat) (fm tt pd : Nat → Nat) (ro : Nat → Nat → Nat) (hc fb : Nat → Bool) (ad ot cb : Nat → Nat) (t0 : Nat → zT5) (qc : zQ) (c : Nat) (r : zQ × Nat) (s : (Nat → Nat) × (Nat → Nat)) : Prop :=
  r.2 = s.2 c ∧ (∀ i, i < nm → cb i = c → zqm r.1 i = zTg fm tt pd ro hc fb ad ot (t0 i) i (s.1 i)) ∧ (∀ i, i < nm → cb i ≠ c → zqm r.1 i = zqm qc i) ∧ ∀ i, i < nm → s.1 i ≤ pd i
theorem zIv_1 {nm : Nat} {fm tt kd pd : Nat → Nat} {ro : Nat → Nat → Nat} {hc fb : Nat → Bool} {ad ot cb : Nat → Nat} {t0 : Nat → zT5} {qc : zQ} {c kind m : Nat} {r : zQ × Nat} {s : (Nat → Nat) × (Nat → Nat)} (hc12 : c < 12) (hm : m < nm)
    (ht : ∀ i, i < nm → cb i = c → (t0 i).1 = 0 ∧ ro i (t0 i).2.1 = c) (hq : ∀ i, i < nm → cb i ≠ c → ¬ ((zqm qc i).2.2.2.1 = true ∧ (zqm qc i).1 = 0 ∧ ro i (zqm qc i).2.1 = c))
    (H : zIv nm fm tt pd ro hc fb ad ot cb t0 qc c r s) : zIv nm fm tt pd ro hc fb ad ot cb t0 qc c (zrm1 fm tt kd pd ro hc fb ad ot c kind m r) (if kd m = kind then zcs cb m s else s) := by
  obtain ⟨h1, h2, h3, h4⟩ := H
  by_cases hk : kd m = kind
  · rw [if_pos hk]
    by_cases hb : cb m = c
    · have e := h2 m hm hb
      obtain ⟨t1, t2⟩ := ht m hm hb
      unfold zcs
      rw [if_pos (by omega), hb]
      by_cases act : 0 < r.2 ∧ 0 < s.1 m
      · have e' := e
        rw [zTg_p act.2] at e'
        unfold zqm at e'
        simp only [Prod.mk.injEq] at e'
        obtain ⟨e1, e2, e3, e4, e5⟩ := e'
        unfold zrm1
        rw [if_pos ⟨act.1, e4, hk, by rw [e1]; exact t1, by rw [e2]; exact t2⟩]
        have hx := h4 m hm
        refine ⟨?_, fun i hi hbi => ?_, fun i hi hbi => ?_, fun i hi => ?_⟩
        · show r.2 - min (pd m - r.1.2.2.1 m) r.2 = zud s.2 c _ c
          rw [e3, h1, show pd m - (pd m - s.1 m) = s.1 m by omega]
          simp [zud]
        · show zqm (zrcy fm tt pd ro hc fb ad ot m r.2 r.1) i = _
          by_cases ei : i = m
          · subst ei
            rw [zrcy_at act.2 hx e, h1]
            simp [zud]
          · rw [zrcy_ne ei, h2 i hi hbi]
            simp [zud, ei]
        · show zqm (zrcy fm tt pd ro hc fb ad ot m r.2 r.1) i = _
          rw [zrcy_ne (fun q => hbi (by rw [q]; exact hb))]
          exact h3 i hi hbi
        · show zud s.1 m _ i ≤ pd i
          unfold zud
          split
          · rename_i q; rw [q]; omega
          · exact h4 i hi
      · have hz : min (s.1 m) (s.2 c) = 0 := by rw [← h1]; omega
        have nor : zrm1 fm tt kd pd ro hc fb ad ot c kind m r = r := by
          unfold zrm1
          refine if_neg (fun q => ?_)
          by_cases x0 : s.1 m = 0
          · rw [x0] at e
            unfold zTg at e
            rw [if_pos rfl] at e
            unfold zqm at e
            simp only [Prod.mk.injEq] at e
            rw [e.2.2.2.1] at q
            exact Bool.false_ne_true q.2.1
          · exact act ⟨q.1, by omega⟩
        rw [nor, hz]
        refine ⟨?_, fun i hi hbi => ?_, h3, fun i hi => ?_⟩
        · show r.2 = zud s.2 c _ c
          simp [zud, h1]
        · rw [h2 i hi hbi]
          by_cases ei : i = m
          · subst ei; simp [zud]
          · simp [zud, ei]
        · show zud s.1 m _ i ≤ pd i
          unfold zud
          split
          · rename_i q; rw [q]; have := h4 m hm; omega
          · exact h4 i hi
    · have e := h3 m hm hb
      have nor : zrm1 fm tt kd pd ro hc fb ad ot c kind m r = r := by
        unfold zrm1
        refine if_neg (fun q => hq m hm hb ?_)
        rw [← e]
        exact ⟨q.2.1, q.2.2.2.1, q.2.2.2.2⟩
      rw [nor]
      unfold zcs
      by_cases q : cb m < 12
      · rw [if_pos q]
        refine ⟨?_, fun i hi hbi => ?_, h3, fun i hi => ?_⟩
        · show r.2 = zud s.2 (cb m) _ c
          unfold zud; rw [if_neg (fun q => hb q.symm)]; exact h1
        · rw [h2 i hi hbi]
          have ei : i ≠ m := fun q => hb (by rw [← q]; exact hbi)
          simp [zud, ei]
        · show zud s.1 m _ i ≤ pd i
          unfold zud
          split
          · rename_i q; rw [q]; have := h4 m hm; omega
          · exact h4 i hi
      · rw [if_neg q]; exact ⟨h1, h2, h3, h4⟩
  · rw [if_neg hk]
    have nor : zrm1 fm tt kd pd ro hc fb ad ot c kind m r = r := by
      unfold zrm1
      exact if_neg (fun q => hk q.2.2.1)
    rw [nor]
    exact ⟨h1, h2, h3, h4⟩
theorem zIv_f {nm : Nat} {fm tt kd pd : Nat → Nat} {ro : Nat → Nat → Nat} {hc fb : Nat → Bool} {ad ot cb : Nat → Nat} {t0 : Nat → zT5} {qc : zQ} {c kind : Nat} {r : zQ × Nat} {s : (Nat → Nat) × (Nat → Nat)} (hc12 : c < 12)
    (ht : ∀ i, i < nm → cb i = c → (t0 i).1 = 0 ∧ ro i (t0 i).2.1 = c) (hq : ∀ i, i < nm → cb i ≠ c → ¬ ((zqm qc i).2.2.2.1 = true ∧ (zqm qc i).1 = 0 ∧ ro i (zqm qc i).2.1 = c))
    (H : zIv nm fm tt pd ro hc fb ad ot cb t0 qc c r s) : ∀ m, m ≤ nm → zIv nm fm tt pd ro hc fb ad ot cb t0 qc c (zrmf fm tt kd pd ro hc fb ad ot c kind r m) (zcy kd cb kind m s)
  | 0, _ => H
  | m + 1, hm => zIv_1 hc12 (by omega) ht hq (zIv_f hc12 ht hq H m (by omega))
theorem zIv_k {nm : Nat} {fm tt kd pd : Nat → Nat} {ro : Nat → Nat → Nat} {hc fb : Nat → Bool} {ad ot cb : Nat → Nat} {t0 : Nat → zT5} {qc : zQ} {c : Nat} {r : zQ × Nat} {s : (Nat → Nat) × (Nat → Nat)} (hc12 : c < 12)
    (ht : ∀ i, i < nm → cb i = c → (t0 i).1 = 0 ∧ ro i (t0 i).2.1 = c) (hq : ∀ i, i < nm → cb i ≠ c → ¬ ((zqm qc i).2.2.2.1 = true ∧ (zqm qc i).1 = 0 ∧ ro i (zqm qc i).2.1 = c))
    (H : zIv nm fm tt pd ro hc fb ad ot cb t0 qc c r s) : ∀ j, zIv nm fm tt pd ro hc fb ad ot cb t0 qc c (zrkf fm tt kd pd ro hc fb ad ot nm c r j) (zcj kd cb nm s j)
  | 0 => H
  | j + 1 => zIv_f hc12 ht hq (zIv_k hc12 ht hq H j) nm (Nat.le_refl _)
/-- all cables' turns -/
theorem zrcf_all {nm nc : Nat} {fm tt kd pd : Nat → Nat} {ro : Nat → Nat → Nat} {hc fb : Nat → Bool} {ad ot sp cb lf : Nat → Nat} {br : Nat → Bool} {q0 : zQ} (hn12 : nc ≤ 12)
    (ht : ∀ i, i < nm → cb i < nc → (zqm q0 i).1 = 0 ∧ ro i (zqm q0 i).2.1 = cb i ∧ 0 < lf i ∧ zqm q0 i = zTg fm tt pd ro hc fb ad ot (zqm q0 i) i (lf i)) (hl : ∀ i, i < nm → lf i ≤ pd i)
    (ho : ∀ i, i < nm → ¬ cb i < nc → (zqm q0 i).1 ≠ 0) : ∀ c, c ≤ nc →
    (∀ i, i < nm → cb i < c → zqm (zrcf fm tt kd pd ro hc fb ad ot sp br nm q0 c) i = zTg fm tt pd ro hc fb ad ot (zqm q0 i) i ((zcj kd cb nm (lf, fun c => if br c then 0 else sp c) 3).1 i)) ∧ ∀ i, i < nm → ¬ cb i < c → zqm (zrcf fm tt kd pd ro hc fb ad ot sp br nm q0 c) i = zqm q0 i
  | 0, _ => ⟨fun i _ h => absurd h (Nat.not_lt_zero _), fun _ _ _ => rfl⟩
  | c + 1, hcn => by
    obtain ⟨a1, a2⟩ := zrcf_all (kd := kd) (sp := sp) (br := br) hn12 ht hl ho c (by omega)
    have H : zIv nm fm tt pd ro hc fb ad ot cb (zqm q0) (zrcf fm tt kd pd ro hc fb ad ot sp br nm q0 c) c (zrcf fm tt kd pd ro hc fb ad ot sp br nm q0 c, if br c then 0 else sp c) (lf, fun c => if br c then 0 else sp c) :=
      ⟨rfl, fun i hi hb => by rw [show (zrcf fm tt kd pd ro hc fb ad ot sp br nm q0 c, if br c then 0 else sp c).1 = zrcf fm tt kd pd ro hc fb ad ot sp br nm q0 c from rfl, a2 i hi (by omega)]; exact (ht i hi (by omega)).2.2.2, fun _ _ _ => rfl, hl⟩
    have hq : ∀ i, i < nm → cb i ≠ c → ¬ ((zqm (zrcf fm tt kd pd ro hc fb ad ot sp br nm q0 c) i).2.2.2.1 = true ∧ (zqm (zrcf fm tt kd pd ro hc fb ad ot sp br nm q0 c) i).1 = 0 ∧ ro i (zqm (zrcf fm tt kd pd ro hc fb ad ot sp br nm q0 c) i).2.1 = c) := by
      intro i hi hb hh
      by_cases q : cb i < c
      · rw [a1 i hi q] at hh
        unfold zTg at hh
        by_cases q2 : (zcj kd cb nm (lf, fun c => if br c then 0 else sp c) 3).1 i = 0
        · rw [if_pos q2] at hh
          exact Bool.false_ne_true hh.1
        · rw [if_neg q2] at hh
          exact hb ((ht i hi (by omega)).2.1.symm.trans hh.2.2)
      · rw [a2 i hi q] at hh
        by_cases q2 : cb i < nc
        · exact hb ((ht i hi q2).2.1.symm.trans hh.2.2)
        · exact ho i hi q2 hh.2.1
    have K := zIv_k (kd := kd) (c := c) (by omega) (fun i hi hb => ⟨(ht i hi (by omega)).1, by rw [(ht i hi (by omega)).2.1]; exact hb⟩) hq H 3
    obtain ⟨k1, k2, k3, k4⟩ := K
    refine ⟨fun i hi hb => ?_, fun i hi hb => ?_⟩
    · show zqm (zrkf fm tt kd pd ro hc fb ad ot nm c (zrcf fm tt kd pd ro hc fb ad ot sp br nm q0 c, if br c then 0 else sp c) 3).1 i = _
      by_cases e : cb i = c
      · exact k2 i hi e
      · rw [k3 i hi e]; exact a1 i hi (by omega)
    · show zqm (zrkf fm tt kd pd ro hc fb ad ot nm c (zrcf fm tt kd pd ro hc fb ad ot sp br nm q0 c, if br c then 0 else sp c) 3).1 i = _
      rw [k3 i hi (by omega)]; exact a2 i hi (by omega)
