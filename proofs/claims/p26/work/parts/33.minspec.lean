/-! what a minute does -/
def zud (f : Nat → Nat) (k v : Nat) : Nat → Nat := fun i => if i = k then v else f i
theorem zud_eq {f : Nat → Nat} {k v : Nat} : zud f k v k = v := if_pos rfl
theorem zud_ne {f : Nat → Nat} {k v i : Nat} (h : ¬ i = k) : zud f k v i = f i := if_neg h
/-- the cable at which a message is, of its route ro, leg lg, state st; 99 without -/
def zcb (st lg : Nat → Nat) (ro : Nat → Nat → Nat) (m : Nat) : Nat := if st m = 0 then ro m (lg m) else 99
/-- one cable carries of one message: words left, room -/
def zcs (cb : Nat → Nat) (m : Nat) (s : (Nat → Nat) × (Nat → Nat)) : (Nat → Nat) × (Nat → Nat) :=
  if cb m < 12 then (zud s.1 m (s.1 m - min (s.1 m) (s.2 (cb m))), zud s.2 (cb m) (s.2 (cb m) - min (s.1 m) (s.2 (cb m)))) else s
/-- .. of the first n messages, those of a kind -/
def zcy (kd cb : Nat → Nat) (kind : Nat) : Nat → (Nat → Nat) × (Nat → Nat) → (Nat → Nat) × (Nat → Nat)
  | 0, s => s
  | m + 1, s => if kd m = kind then zcs cb m (zcy kd cb kind m s) else zcy kd cb kind m s
/-- .. after j kinds, from 2 down -/
def zcj (kd cb : Nat → Nat) (n : Nat) (s : (Nat → Nat) × (Nat → Nat)) : Nat → (Nat → Nat) × (Nat → Nat)
  | 0 => s
  | j + 1 => zcy kd cb (2 - j) n (zcj kd cb n s j)
/-- what of a message stays -/
def zMs (g : zSh) (σ : zIn) (nm nc : Nat) (kd pd : Nat → Nat) (ro : Nat → Nat → Nat) (hc : Nat → Bool) : Prop := ∀ m, m < nm → g.2.2.2.1 (500 + m) ≤ 8 ∧ σ (200 + m) 2 = nI (kd m) ∧ kd m ≤ 2 ∧ σ (200 + m) 3 = nI (pd m) ∧ pd m ≤ 1000 ∧ σ (200 + m) 5 = zb (hc m) ∧ ∀ q, q < g.2.2.2.1 (500 + m) → σ (500 + m) q = nI (ro m q) ∧ ro m q < nc
/-- what of it changes -/
def zMd (g : zSh) (σ : zIn) (nm no : Nat) (st ia lg lf : Nat → Nat) : Prop := ∀ m, m < nm → (σ (200 + m) 9 = nI (st m) ∧ st m ≤ 2) ∧ (σ (200 + m) 10 = nI (ia m) ∧ ia m < no) ∧ (σ (200 + m) 11 = nI (lg m) ∧ lg m ≤ 8 ∧ (st m = 0 → lg m < g.2.2.2.1 (500 + m))) ∧ σ (200 + m) 12 = nI (lf m) ∧ lf m ≤ 1000
def zCs (σ : zIn) (nc no : Nat) (ca co sp : Nat → Nat) (br : Nat → Bool) : Prop := ∀ c, c < nc → (σ (120 + c) 0 = nI (ca c) ∧ ca c < no) ∧ (σ (120 + c) 1 = nI (co c) ∧ co c < no) ∧ (σ (120 + c) 3 = nI (sp c) ∧ sp c ≤ 1000) ∧ σ (120 + c) 4 = zb (br c)
def zFM (σ σ' : zIn) : Prop := ∀ i k, ¬ (200 ≤ i ∧ i < 260 ∧ 9 ≤ k ∧ k ≤ 12) → ¬ (120 ≤ i ∧ i < 132 ∧ k = 5) → σ' i k = σ i k
def zWc (g : zSh) (σ τ : zIn) (nm no nc : Nat) (st ia lg : Nat → Nat) (s : (Nat → Nat) × (Nat → Nat)) : Prop := zFM σ τ ∧ zMd g τ nm no st ia lg s.1 ∧ ∀ c, c < nc → τ (120 + c) 5 = nI (s.2 c) ∧ s.2 c ≤ 1000
theorem zFM_m {a σ : zIn} {m k : Nat} {v : Int32} (h : zFM a σ) (hm : m < 60) (h1 : 9 ≤ k) (h2 : k ≤ 12) : zFM a (z_up σ (200 + m) k v) := by
  intro i j n1 n2
  by_cases e : i = 200 + m
  · subst e
    have hk : j ≠ k := fun q => n1 ⟨by omega, by omega, by omega, by omega⟩
    simp only [z_up_app, reduceIte, if_neg hk]; exact h _ j n1 n2
  · rw [z_up_ne e]; exact h i j n1 n2
theorem zFM_c {a σ : zIn} {c : Nat} {v : Int32} (h : zFM a σ) (hc : c < 12) : zFM a (z_up σ (120 + c) 5 v) := by
  intro i j n1 n2
  by_cases e : i = 120 + c
  · subst e
    have hk : j ≠ 5 := fun q => n2 ⟨by omega, by omega, by omega⟩
    simp only [z_up_app, reduceIte, if_neg hk]; exact h _ j n1 n2
  · rw [z_up_ne e]; exact h i j n1 n2
theorem zWc_step {g : zSh} {σ τ : zIn} {nm no nc : Nat} {st ia lg cb : Nat → Nat} {s : (Nat → Nat) × (Nat → Nat)} {m : Nat} (h : zWc g σ τ nm no nc st ia lg s) (hn : nm ≤ 60) (hn2 : nc ≤ 12) (hm : m < nm) (hc : cb m < nc) : zWc g σ (z_up (z_up τ (200 + m) 12 (nI (s.1 m - min (s.1 m) (s.2 (cb m))))) (120 + cb m) 5 (nI (s.2 (cb m) - min (s.1 m) (s.2 (cb m))))) nm no nc st ia lg (zcs cb m s) := by
  obtain ⟨h1, h2, h3⟩ := h
  unfold zcs
  rw [if_pos (show cb m < 12 by omega)]
  refine ⟨zFM_c (zFM_m h1 (by omega) (by decide) (by decide)) (by omega), fun j hj => ?_, fun c hc2 => ?_⟩
  · obtain ⟨q1, q2, q3, q4, q5⟩ := h2 j hj
    rw [z_up_ne (by omega)]
    by_cases e : j = m
    · subst e
      simp only [z_up_app, reduceIte, Nat.reduceEqDiff, zud_eq]
      exact ⟨q1, q2, q3, by trivial, by omega⟩
    · rw [z_up_ne (by omega)]
      simp only [zud_ne e]
      exact ⟨q1, q2, q3, q4, q5⟩
  · have := h3 c hc2
    by_cases e : c = cb m
    · subst e
      simp only [z_up_app, reduceIte, zud_eq]
      exact ⟨by trivial, by omega⟩
    · rw [z_up_ne (by omega), z_up_ne (by omega)]
      simp only [zud_ne e]
      exact this
theorem zWc_skip {g : zSh} {σ τ : zIn} {nm no nc : Nat} {st ia lg cb : Nat → Nat} {s : (Nat → Nat) × (Nat → Nat)} {m : Nat} (h : zWc g σ τ nm no nc st ia lg s) (hc : ¬ cb m < 12) : zWc g σ τ nm no nc st ia lg (zcs cb m s) := by
  unfold zcs; rw [if_neg hc]; exact h
theorem zcy_y {kd cb : Nat → Nat} {kind m : Nat} {s : (Nat → Nat) × (Nat → Nat)} (h : kd m = kind) : zcy kd cb kind (m + 1) s = zcs cb m (zcy kd cb kind m s) := by rw [zcy, if_pos h]
theorem zcy_n {kd cb : Nat → Nat} {kind m : Nat} {s : (Nat → Nat) × (Nat → Nat)} (h : ¬ kd m = kind) : zcy kd cb kind (m + 1) s = zcy kd cb kind m s := by rw [zcy, if_neg h]
/-- moving on: the office at the other end, state, leg, words left -/
def zoE (ca co cb ia : Nat → Nat) (m : Nat) : Nat := if ia m = ca (cb m) then co (cb m) else ca (cb m)
def zmv (cb lf : Nat → Nat) (m : Nat) : Bool := decide (cb m < 12 ∧ lf m = 0)
def zst2 (g : zSh) (st lg cb lf oe : Nat → Nat) (hc fb : Nat → Bool) (m : Nat) : Nat := if zmv cb lf m then (if hc m && fb (oe m) then 2 else if g.2.2.2.1 (500 + m) ≤ lg m + 1 then 1 else 0) else st m
def zia2 (ia cb lf oe : Nat → Nat) (m : Nat) : Nat := if zmv cb lf m then oe m else ia m
def zlg2 (lg cb lf : Nat → Nat) (m : Nat) : Nat := if zmv cb lf m then lg m + 1 else lg m
def zlf2 (pd cb lf : Nat → Nat) (m : Nat) : Nat := if zmv cb lf m then pd m else lf m
/-- f2 below m, f from m on -/
def zmx (f2 f : Nat → Nat) (m : Nat) : Nat → Nat := fun j => if j < m then f2 j else f j
theorem zmx_0 {f2 f : Nat → Nat} : zmx f2 f 0 = f := by funext j; exact if_neg (Nat.not_lt_zero _)
theorem zmx_at {f2 f : Nat → Nat} {m : Nat} : zmx f2 f m m = f m := if_neg (Nat.lt_irrefl _)
theorem zmx_s {f2 f : Nat → Nat} {m : Nat} : zmx f2 f (m + 1) m = f2 m := if_pos (Nat.lt_succ_self _)
theorem zmx_o {f2 f : Nat → Nat} {m j : Nat} (h : ¬ j = m) : zmx f2 f (m + 1) j = zmx f2 f m j := by
  unfold zmx
  by_cases e : j < m
  · rw [if_pos e, if_pos (by omega)]
  · rw [if_neg e, if_neg (by omega)]
theorem zMd_o {g : zSh} {τ τ' : zIn} {nm no m : Nat} {st ia lg lf st' ia' lg' lf' : Nat → Nat} (h : zMd g τ nm no (zmx st' st m) (zmx ia' ia m) (zmx lg' lg m) (zmx lf' lf m)) (ho : ∀ j, ¬ j = m → τ' (200 + j) = τ (200 + j))
    (hm : (τ' (200 + m) 9 = nI (st' m) ∧ st' m ≤ 2) ∧ (τ' (200 + m) 10 = nI (ia' m) ∧ ia' m < no) ∧ (τ' (200 + m) 11 = nI (lg' m) ∧ lg' m ≤ 8 ∧ (st' m = 0 → lg' m < g.2.2.2.1 (500 + m))) ∧ τ' (200 + m) 12 = nI (lf' m) ∧ lf' m ≤ 1000) : zMd g τ' nm no (zmx st' st (m + 1)) (zmx ia' ia (m + 1)) (zmx lg' lg (m + 1)) (zmx lf' lf (m + 1)) := by
  intro j hj
  by_cases e : j = m
  · subst e; simp only [zmx_s]; exact hm
  · simp only [zmx_o e]; rw [ho j e]; exact h j hj
theorem zMv_no {g : zSh} {τ : zIn} {nm no m : Nat} {st ia lg lf cb oe pd : Nat → Nat} {hc fb : Nat → Bool} (h : zMd g τ nm no (zmx (zst2 g st lg cb lf oe hc fb) st m) (zmx (zia2 ia cb lf oe) ia m) (zmx (zlg2 lg cb lf) lg m) (zmx (zlf2 pd cb lf) lf m)) (hm : m < nm) (hv : ¬ (cb m < 12 ∧ lf m = 0)) : zMd g τ nm no (zmx (zst2 g st lg cb lf oe hc fb) st (m + 1)) (zmx (zia2 ia cb lf oe) ia (m + 1)) (zmx (zlg2 lg cb lf) lg (m + 1)) (zmx (zlf2 pd cb lf) lf (m + 1)) := by
  have e : zmv cb lf m = false := decide_eq_false hv
  have hh := h m hm
  simp only [zmx_at] at hh
  refine zMd_o h (fun j hj => rfl) ?_
  simp only [zst2, zia2, zlg2, zlf2, e, Bool.false_eq_true, reduceIte]
  exact hh
theorem zMv_y {g : zSh} {τ : zIn} {nm no m : Nat} {st ia lg lf cb oe pd : Nat → Nat} {hc fb : Nat → Bool} (h : zMd g τ nm no (zmx (zst2 g st lg cb lf oe hc fb) st m) (zmx (zia2 ia cb lf oe) ia m) (zmx (zlg2 lg cb lf) lg m) (zmx (zlf2 pd cb lf) lf m)) (hm : m < nm) (hs : st m = 0) (hr : g.2.2.2.1 (500 + m) ≤ 8) (hv : cb m < 12 ∧ lf m = 0) (hoe : oe m < no) (hpd : τ (200 + m) 3 = nI (pd m)) (hpd2 : pd m ≤ 1000) : zMd g (zcome g (z_up τ (200 + m) 11 (nI (lg m + 1))) m (oe m) (hc m) (fb (oe m)) (lg m + 1)) nm no (zmx (zst2 g st lg cb lf oe hc fb) st (m + 1)) (zmx (zia2 ia cb lf oe) ia (m + 1)) (zmx (zlg2 lg cb lf) lg (m + 1)) (zmx (zlf2 pd cb lf) lf (m + 1)) := by
  have e : zmv cb lf m = true := decide_eq_true hv
  have hh := h m hm
  simp only [zmx_at] at hh
  obtain ⟨⟨q1, q2⟩, ⟨q3, q4⟩, ⟨q5, q6, q7⟩, q8, q9⟩ := hh
  have q7 := q7 hs
  rw [hs] at q1
  refine zMd_o h (fun j hj => ?_) ?_
  · unfold zcome
    split
    · rw [z_up_ne (by omega), z_up_ne (by omega), z_up_ne (by omega), z_up_ne (by omega)]
    · split
      · rw [z_up_ne (by omega), z_up_ne (by omega), z_up_ne (by omega), z_up_ne (by omega)]
      · rw [z_up_ne (by omega), z_up_ne (by omega), z_up_ne (by omega)]
  · simp only [zst2, zia2, zlg2, zlf2, e, reduceIte]
    unfold zcome
    by_cases c1 : (hc m && fb (oe m)) = true
    · rw [if_pos c1, if_pos c1]
      simp only [z_up_app, reduceIte, Nat.reduceEqDiff]
      exact ⟨⟨by trivial, by decide⟩, ⟨by trivial, hoe⟩, ⟨by trivial, by omega, fun z => absurd z (by decide)⟩, hpd, hpd2⟩
    · rw [if_neg c1, if_neg c1]
      by_cases c2 : g.2.2.2.1 (500 + m) ≤ lg m + 1
      · rw [if_pos c2, if_pos c2]
        simp only [z_up_app, reduceIte, Nat.reduceEqDiff]
        exact ⟨⟨by trivial, by decide⟩, ⟨by trivial, hoe⟩, ⟨by trivial, by omega, fun z => absurd z (by decide)⟩, hpd, hpd2⟩
      · rw [if_neg c2, if_neg c2]
        simp only [z_up_app, reduceIte, Nat.reduceEqDiff]
        exact ⟨⟨q1, by decide⟩, ⟨by trivial, hoe⟩, ⟨by trivial, by omega, fun _ => by omega⟩, hpd, hpd2⟩
theorem zFM_come {g : zSh} {a τ : zIn} {m o lg lg2 : Nat} {h1 h2 : Bool} (h : zFM a τ) (hm : m < 60) : zFM a (zcome g (z_up τ (200 + m) 11 (nI lg2)) m o h1 h2 lg) := by
  unfold zcome
  split
  · exact zFM_m (zFM_m (zFM_m (zFM_m h hm (by decide) (by decide)) hm (by decide) (by decide)) hm (by decide) (by decide)) hm (by decide) (by decide)
  · split
    · exact zFM_m (zFM_m (zFM_m (zFM_m h hm (by decide) (by decide)) hm (by decide) (by decide)) hm (by decide) (by decide)) hm (by decide) (by decide)
    · exact zFM_m (zFM_m (zFM_m h hm (by decide) (by decide)) hm (by decide) (by decide)) hm (by decide) (by decide)