/-! contract of the reference: send -/
/-- the new message's own numbers -/
def zS3 (a1 : zIn) (nm paid W : Nat) (xa xb xk : Int32) : zIn := (z_up (z_up (z_up (z_up (z_up (z_up (z_up (z_up (z_up (z_up a1 41 nm xa) 42 nm xb) 43 nm xk) 44 nm (nI 0)) 48 nm (-1)) 46 nm (nI paid)) 45 nm (nI W)) 54 nm (nI 0)) 55 nm (nI 0)) 49 nm (nI 0))
theorem zS3_ne {a1 : zIn} {nm paid W : Nat} {xa xb xk : Int32} {i : Nat} (h : i ≠ 41 ∧ i ≠ 42 ∧ i ≠ 43 ∧ i ≠ 44 ∧ i ≠ 45 ∧ i ≠ 46 ∧ i ≠ 48 ∧ i ≠ 49 ∧ i ≠ 54 ∧ i ≠ 55) : zS3 a1 nm paid W xa xb xk i = a1 i := by
  obtain ⟨h1, h2, h3, h4, h5, h6, h7, h8, h9, h10⟩ := h
  unfold zS3
  rw [z_up_ne h8, z_up_ne h10, z_up_ne h9, z_up_ne h5, z_up_ne h6, z_up_ne h7, z_up_ne h4, z_up_ne h3, z_up_ne h2, z_up_ne h1]
theorem zS3_j {a1 : zIn} {nm paid W : Nat} {xa xb xk : Int32} {i j : Nat} (h : j ≠ nm) : zS3 a1 nm paid W xa xb xk i j = a1 i j := by
  unfold zS3
  simp [z_up_app, h]
def zhc (x : Nat → Int32) : Nat → Bool
  | 0 => false
  | k + 1 => zhc x k || decide (0 ≤ x k)
/-- a word of the reference's cut as it is sent -/
def zwr (x C : Nat → Int32) (K ne i : Nat) : Int32 := if x i < 0 then x i else C ((zn (x i) + K) % ne)
def zW1 (s τ : zIn) (nm : Nat) (x C : Nat → Int32) (K ne k : Nat) : Prop := (∀ i, i ≠ 49 → i ≠ 50 → i ≠ 51 → τ i = s i) ∧ (∀ j, j ≠ nm → τ 49 j = s 49 j) ∧ τ 49 nm = zb (zhc x k) ∧ (∀ j, (j < 24 * nm ∨ 24 * nm + 24 ≤ j) → τ 50 j = s 50 j ∧ τ 51 j = s 51 j) ∧ ∀ i, i < k → τ 50 (24 * nm + i) = zwr x C K ne i ∧ τ 51 (24 * nm + i) = zwr x C K ne i
theorem zW1_s {s τ : zIn} {nm K ne k : Nat} {x C : Nat → Int32} {w : Int32} (h : zW1 s τ nm x C K ne k) (hk : k < 24) (hw : w = zwr x C K ne k) : zW1 s (z_up (z_up (z_up τ 49 nm (zb (zhc x (k + 1)))) 50 (24 * nm + k) w) 51 (24 * nm + k) w) nm x C K ne (k + 1) := by
  obtain ⟨h1, h2, h3, h4, h5⟩ := h
  refine ⟨fun i q1 q2 q3 => by rw [z_up_ne q3, z_up_ne q2, z_up_ne q1]; exact h1 i q1 q2 q3, fun j hj => ?_, ?_, fun j hj => ?_, fun i hi => ?_⟩
  · rw [z_up_ne (by decide), z_up_ne (by decide), z_up_app, if_pos rfl, if_neg hj]; exact h2 j hj
  · rw [z_up_ne (by decide), z_up_ne (by decide), z_up_app, if_pos rfl, if_pos rfl]
  · rw [z_up_ne (show 50 ≠ 51 by decide), z_up_app, if_pos rfl, if_neg (by omega), z_up_ne (show 50 ≠ 49 by decide), z_up_app, if_pos rfl, if_neg (by omega), z_up_ne (show 51 ≠ 50 by decide), z_up_ne (show 51 ≠ 49 by decide)]
    exact h4 j hj
  · have g1 : z_up (z_up (z_up τ 49 nm (zb (zhc x (k + 1)))) 50 (24 * nm + k) w) 51 (24 * nm + k) w 50 (24 * nm + i) = if 24 * nm + i = 24 * nm + k then w else τ 50 (24 * nm + i) := by
      rw [z_up_ne (show 50 ≠ 51 by decide), z_up_app, if_pos rfl, z_up_ne (show 50 ≠ 49 by decide)]
    have g2 : z_up (z_up (z_up τ 49 nm (zb (zhc x (k + 1)))) 50 (24 * nm + k) w) 51 (24 * nm + k) w 51 (24 * nm + i) = if 24 * nm + i = 24 * nm + k then w else τ 51 (24 * nm + i) := by
      rw [z_up_app, if_pos rfl, z_up_ne (show 51 ≠ 50 by decide), z_up_ne (show 51 ≠ 49 by decide)]
    rw [g1, g2]
    by_cases e : i = k
    · subst e; rw [if_pos rfl, if_pos rfl]; exact ⟨hw, hw⟩
    · rw [if_neg (by omega), if_neg (by omega)]; exact h5 i (by omega)
def zprt (rt l : Nat → Nat) (paid : Nat) (xk : Int32) (i : Nat) : Int32 := nI (rt (l i)) * nI paid * ((1 : Int32) <<< (xk &&& 31))
def zW2 (s τ : zIn) (nm paid : Nat) (rt ad l : Nat → Nat) (xk : Int32) (k : Nat) : Prop := (∀ i, i ≠ 28 → i ≠ 47 → i ≠ 52 → τ i = s i) ∧ (∀ j, j ≠ nm → τ 47 j = s 47 j) ∧ τ 47 nm = zis (zprt rt l paid xk) k ∧ (∀ j, (j < 8 * nm ∨ 8 * nm + 8 ≤ j) → τ 52 j = s 52 j) ∧ (∀ i, i < k → τ 52 (8 * nm + i) = nI (l i)) ∧ ∀ o, τ 28 o = s 28 o + zis (fun i => if ad (l i) = o then zprt rt l paid xk i else 0) k
theorem zW2_s {s τ : zIn} {nm paid k : Nat} {rt ad l : Nat → Nat} {xk : Int32} (h : zW2 s τ nm paid rt ad l xk k) (hk : k < 8) : zW2 s (z_up (z_up (z_up τ 52 (8 * nm + k) (nI (l k))) 47 nm (zis (zprt rt l paid xk) k + zprt rt l paid xk k)) 28 (ad (l k)) (τ 28 (ad (l k)) + zprt rt l paid xk k)) nm paid rt ad l xk (k + 1) := by
  obtain ⟨h1, h2, h3, h4, h5, h6⟩ := h
  refine ⟨fun i q1 q2 q3 => by rw [z_up_ne q1, z_up_ne q2, z_up_ne q3]; exact h1 i q1 q2 q3, fun j hj => ?_, ?_, fun j hj => ?_, fun i hi => ?_, fun o => ?_⟩
  · rw [z_up_ne (by decide), z_up_app, if_pos rfl, if_neg hj, z_up_ne (by decide)]; exact h2 j hj
  · rw [z_up_ne (by decide), z_up_app, if_pos rfl, if_pos rfl]; rfl
  · rw [z_up_ne (by decide), z_up_ne (by decide), z_up_app, if_pos rfl, if_neg (by omega)]; exact h4 j hj
  · rw [z_up_ne (by decide), z_up_ne (by decide), z_up_app, if_pos rfl]
    by_cases e : i = k
    · subst e; rw [if_pos rfl]
    · rw [if_neg (by omega)]; exact h5 i (by omega)
  · rw [z_up_app, if_pos rfl, z_up_ne (by decide), z_up_ne (by decide)]
    show _ = s 28 o + (zis (fun i => if ad (l i) = o then zprt rt l paid xk i else 0) k + if ad (l k) = o then zprt rt l paid xk k else 0)
    by_cases e : o = ad (l k)
    · rw [if_pos e, if_pos e.symm, ← e, h6 o, Int32.add_assoc]
    · rw [if_neg e, if_neg (fun q => e q.symm), Int32.add_zero]; exact h6 o
theorem zPk_f {σ τ : zIn} {o K ni nd ne nu mi j0 pl cd vw : Nat} {lt dd dy : Nat → Nat} (h : zPk σ o K ni nd ne nu mi j0 pl cd vw lt dd dy) (h1 : ∀ i, 22 ≤ i → i ≤ 38 → i ≠ 28 → τ i = σ i) (h2 : ∀ k, k = 2 ∨ k = 16 ∨ k = 22 ∨ k = 47 → τ 21 k = σ 21 k) : zPk τ o K ni nd ne nu mi j0 pl cd vw lt dd dy := by
  unfold zPk
  rw [h2 2 (by decide), h2 22 (by decide), h2 16 (by decide), h2 47 (by decide), h1 23 (by decide) (by decide) (by decide), h1 24 (by decide) (by decide) (by decide), h1 26 (by decide) (by decide) (by decide), h1 38 (by decide) (by decide) (by decide), h1 22 (by decide) (by decide) (by decide), h1 34 (by decide) (by decide) (by decide), h1 27 (by decide) (by decide) (by decide), h1 35 (by decide) (by decide) (by decide), h1 36 (by decide) (by decide) (by decide), h1 37 (by decide) (by decide) (by decide)]
  exact h
theorem zpl_neg : ∀ d, d < 30 → (-1 : Int32) - nI d - 1 < 0 := by decide
theorem zcut_pl {nd : Nat} {T : Nat → Nat → Nat} {us : Nat → Nat → Bool} : ∀ (f p l : Nat), nd - p ≤ f → ∀ i, i < (zcut nd T us p l).length → ((zcut nd T us p l).getD i (0, 0)).1 < nd
  | 0, p, l, hf, i, hi => by
    rw [zcut_e (by omega)] at hi
    exact absurd hi (Nat.not_lt_zero _)
  | f + 1, p, l, hf, i, hi => by
    rcases Nat.lt_or_ge p nd with hp | hp
    · rcases Nat.eq_zero_or_pos (zln T us p l) with h0 | h0
      · rw [zcut_p hp h0] at hi ⊢
        cases i with
        | zero => exact hp
        | succ i => exact zcut_pl f (p + 1) l (by omega) i (by simpa using hi)
      · rw [zcut_c hp h0] at hi ⊢
        cases i with
        | zero => exact hp
        | succ i => exact zcut_pl f (p + zln T us p l) (l - 1) (by omega) i (by simpa using hi)
    · rw [zcut_e hp] at hi
      exact absurd hi (Nat.not_lt_zero _)
theorem zcut_le {nd : Nat} {T : Nat → Nat → Nat} {us : Nat → Nat → Bool} : ∀ (f p l : Nat), nd - p ≤ f → (zcut nd T us p l).length ≤ nd - p
  | 0, p, l, hf => by rw [zcut_e (by omega)]; exact Nat.zero_le _
  | f + 1, p, l, hf => by
    rcases Nat.lt_or_ge p nd with hp | hp
    · rcases Nat.eq_zero_or_pos (zln T us p l) with h0 | h0
      · rw [zcut_p hp h0]
        have := zcut_le (nd := nd) (T := T) (us := us) f (p + 1) l (by omega)
        show (zcut nd T us (p + 1) l).length + 1 ≤ _
        omega
      · rw [zcut_c hp h0]
        have := zcut_le (nd := nd) (T := T) (us := us) f (p + zln T us p l) (l - 1) (by omega)
        show (zcut nd T us (p + zln T us p l) (l - 1)).length + 1 ≤ _
        omega
    · rw [zcut_e hp]; exact Nat.zero_le _
set_option maxHeartbeats 4000000 in
set_option maxRecDepth 100000 in
theorem tX9_send {l : Launch} {D : va_G} {cy : Nat → ClassId} {z0 : Nat} {g : zSh} {σ : zIn} {ni nd ne nu mi nm : Nat} {nc no : Nat} {ad ot rt sp : Nat → Nat} {br : Nat → Bool} {lt dd dy : Nat → Nat} {fb : Nat → Bool} (b : Bool) (xa xb xk : Int32) (hS : zS g) (hno : σ 21 5 = nI no) (hnc : σ 21 10 = nI nc) (hn12 : nc ≤ 12) (hn8 : no ≤ 8) (hCR : zCR σ nc no ad ot rt sp br) (hnm : σ 21 27 = nI nm) (hn60 : nm ≤ 60) (hnd : σ 21 22 = nI nd) (hd24 : nd ≤ 24) (hfb : ∀ o, o < no → σ 25 o = zb (fb o)) (hP : ∀ o, o < no → xa = nI o → ∃ K j0 pl cd vw, zPk σ o K ni nd ne nu mi j0 pl cd vw lt dd dy) : z_Ct l D cy z0 MX9_send [.ref (g.2.1 21), .int xa, .int xb, .int xk, .int (zb b)] g σ (fun v g' σ' => g' = g ∧ ∃ r, v = some (.int r) ∧ ((zx_send no nd nm (zrs ad ot rt br nc (zd0 1000000 (zn xb)) 8 (zn xa) < 1000000) xa xb xk ≠ 0 ∧ σ' 21 48 = nI (zx_send no nd nm (zrs ad ot rt br nc (zd0 1000000 (zn xb)) 8 (zn xa) < 1000000) xa xb xk) ∧ (∀ i, i ≠ 21 → i ≠ 57 → i ≠ 58 → σ' i = σ i) ∧ ∀ k, k ≠ 46 → k ≠ 48 → σ' 21 k = σ 21 k) ∨ (zx_send no nd nm (zrs ad ot rt br nc (zd0 1000000 (zn xb)) 8 (zn xa) < 1000000) xa xb xk = 0 ∧ r = nI nm ∧ ∃ qf qt l K j0 pl cd vw paid many L s1 s2 s4 s6, qf < no ∧ xa = nI qf ∧ qt < no ∧ xb = nI qt ∧ qf ≠ qt ∧ ¬ (xk < 0 ∨ 2 < xk) ∧ 0 < nd ∧ nm < 60 ∧ zpath (zcn ad ot rt br (zrs ad ot rt br nc (zd0 1000000 qt) 8)) (zoe ad ot) nc qt qf l ∧ l.length < 8 ∧ zPk σ qf K ni nd ne nu mi j0 pl cd vw lt dd dy ∧ (∀ i, i ≠ 21 → i ≠ 57 → i ≠ 58 → s1 i = σ i) ∧ (∀ k, k ≠ 46 → k ≠ 48 → s1 21 k = σ 21 k) ∧ s1 21 48 = 0 ∧ s1 21 46 = nI l.length ∧ (∀ i, i < l.length → s1 58 i = nI (l.getD i 0)) ∧ zPf s1 s2 ne K nd pl cd vw lt dd b paid many L ∧ zW1 (zS3 (z_up s2 21 27 (nI (nm + 1))) nm paid L.length xa xb xk) s4 nm (s2 40) (s2 23) K ne L.length ∧ zW2 (z_up (z_up s4 53 nm (nI l.length)) 47 nm (nI 0)) s6 nm paid rt ad (fun i => l.getD i 0) xk l.length ∧ σ' = zcomeR (z_up (z_up s6 28 qf (s6 28 qf - s6 47 nm)) 21 22 (nI 0)) nm qf qt (zhc (s2 40) L.length) (fb qf)))) := by
  refine z_ofM (by decide) (z_cr (z_ci (z_ci (z_ci (z_ci z_c0))))) (Nat.le_of_ble_eq_true rfl) ?_
  intro p e s m args below meth c X
  refine z_aload_n X dX9_send_0 rfl ?_
  refine z_aload_n X dX9_send_1 rfl ?_
  refine z_iload_n X dX9_send_2 rfl ?_
  refine z_runV X kX9_184 (tX9_isOffice _ hS hno (by omega)) (zso_21 hS) rfl rfl (Nat.le_of_ble_eq_true rfl) ⟨by decide, by decide⟩ ⟨by decide, by decide⟩ dX9_send_3 ?_
  rintro _ g1 s1 ⟨rfl, h8, h9⟩
  replace h8 := h8.symm
  subst h8
  replace h9 := h9.symm
  subst h9
  refine z_if_eq (tgt := 21) X dX9_send_6 (by decide) (fun c_6 => ?_) (fun c_6 => ?_)
  · skip
    try simp (disch := omega) only [zb_notn, zb_not, zb_n0, zb_0, Bool.not_eq_false, Bool.not_eq_true, Bool.not_eq_true', Bool.not_eq_false', decide_eq_true_eq, decide_eq_false_iff_not, Classical.not_not] at c_6
    refine z_iconst (v := nI 0) X (by decide) dX9_send_21 ?_
    refine z_runV X kX9_150 (tX9_asks false hS) (zso_21 hS) rfl rfl (Nat.le_of_ble_eq_true rfl) ⟨by decide, by decide⟩ ⟨by decide, by decide⟩ dX9_send_22 ?_
    rintro _ g1 s1 ⟨rfl, h8, h9⟩
    replace h8 := h8.symm
    subst h8
    replace h9 := h9.symm
    subst h9
    refine z_if_ne (tgt := 30) X dX9_send_25 (by decide) (fun c_25 => ?_) (fun c_25 => ?_)
    · first | exact absurd c_25 (by decide) | exact absurd (by decide) c_25
    · skip
      refine z_iconst (v := 0) X (by decide) dX9_send_28 ?_
      refine z_iret X (by decide) (by decide) rfl dX9_send_29 ?_
      have hz : zx_send no nd nm (zrs ad ot rt br nc (zd0 1000000 (zn xb)) 8 (zn xa) < 1000000) xa xb xk = 1 := by unfold zx_send; rw [if_pos (fun q => by first | exact absurd q.1 (by rw [c_6]; decide) | exact absurd q.2 (by rw [c_14]; decide))]
      exact ⟨rfl, _, rfl, Or.inl ⟨by rw [hz]; decide, by rw [hz, z_up_app, if_pos rfl, if_pos rfl]; rfl, fun i q1 _ _ => z_up_ne q1, fun k _ q2 => by rw [z_up_app, if_pos rfl, if_neg q2]⟩⟩
  · skip
    try simp (disch := omega) only [zb_notn, zb_not, zb_n0, zb_0, Bool.not_eq_false, Bool.not_eq_true, Bool.not_eq_true', Bool.not_eq_false', decide_eq_true_eq, decide_eq_false_iff_not, Classical.not_not] at c_6
    refine z_aload_n X dX9_send_9 rfl ?_
    refine z_iload_n X dX9_send_10 rfl ?_
    refine z_runV X kX9_184 (tX9_isOffice _ hS hno (by omega)) (zso_21 hS) rfl rfl (Nat.le_of_ble_eq_true rfl) ⟨by decide, by decide⟩ ⟨by decide, by decide⟩ dX9_send_11 ?_
    rintro _ g1 s1 ⟨rfl, h8, h9⟩
    replace h8 := h8.symm
    subst h8
    replace h9 := h9.symm
    subst h9
    refine z_if_eq (tgt := 21) X dX9_send_14 (by decide) (fun c_14 => ?_) (fun c_14 => ?_)
    · skip
      try simp (disch := omega) only [zb_notn, zb_not, zb_n0, zb_0, Bool.not_eq_false, Bool.not_eq_true, Bool.not_eq_true', Bool.not_eq_false', decide_eq_true_eq, decide_eq_false_iff_not, Classical.not_not] at c_14
      refine z_iconst (v := nI 0) X (by decide) dX9_send_21 ?_
      refine z_runV X kX9_150 (tX9_asks false hS) (zso_21 hS) rfl rfl (Nat.le_of_ble_eq_true rfl) ⟨by decide, by decide⟩ ⟨by decide, by decide⟩ dX9_send_22 ?_
      rintro _ g1 s1 ⟨rfl, h8, h9⟩
      replace h8 := h8.symm
      subst h8
      replace h9 := h9.symm
      subst h9
      refine z_if_ne (tgt := 30) X dX9_send_25 (by decide) (fun c_25 => ?_) (fun c_25 => ?_)
      · first | exact absurd c_25 (by decide) | exact absurd (by decide) c_25
      · skip
        refine z_iconst (v := 0) X (by decide) dX9_send_28 ?_
        refine z_iret X (by decide) (by decide) rfl dX9_send_29 ?_
        have hz : zx_send no nd nm (zrs ad ot rt br nc (zd0 1000000 (zn xb)) 8 (zn xa) < 1000000) xa xb xk = 1 := by unfold zx_send; rw [if_pos (fun q => by first | exact absurd q.1 (by rw [c_6]; decide) | exact absurd q.2 (by rw [c_14]; decide))]
        exact ⟨rfl, _, rfl, Or.inl ⟨by rw [hz]; decide, by rw [hz, z_up_app, if_pos rfl, if_pos rfl]; rfl, fun i q1 _ _ => z_up_ne q1, fun k _ q2 => by rw [z_up_app, if_pos rfl, if_neg q2]⟩⟩
    · skip
      try simp (disch := omega) only [zb_notn, zb_not, zb_n0, zb_0, Bool.not_eq_false, Bool.not_eq_true, Bool.not_eq_true', Bool.not_eq_false', decide_eq_true_eq, decide_eq_false_iff_not, Classical.not_not] at c_14
      refine z_iconst (v := nI 1) X (by decide) dX9_send_17 ?_
      refine z_goto (tgt := 22) X dX9_send_18 (by decide) ?_
      refine z_runV X kX9_150 (tX9_asks true hS) (zso_21 hS) rfl rfl (Nat.le_of_ble_eq_true rfl) ⟨by decide, by decide⟩ ⟨by decide, by decide⟩ dX9_send_22 ?_
      rintro _ g1 s1 ⟨rfl, h8, h9⟩
      replace h8 := h8.symm
      subst h8
      replace h9 := h9.symm
      subst h9
      refine z_if_ne (tgt := 30) X dX9_send_25 (by decide) (fun c_25 => ?_) (fun c_25 => ?_)
      · skip
        obtain ⟨fm, hfm9, rfl⟩ := zin_t c_6 (by omega)
        obtain ⟨to, hto9, rfl⟩ := zin_t c_14 (by omega)
        obtain ⟨τ, hτ⟩ : ∃ q, q = z_up σ 21 48 0 := ⟨_, rfl⟩
        rw [show z_up σ 21 48 (if true = true then 0 else 1) = τ from hτ.symm]
        have eτ : ∀ i, i ≠ 21 → τ i = σ i := fun i h => by rw [hτ, z_up_ne h]
        have eτ1 : ∀ k, k ≠ 48 → τ 21 k = σ 21 k := fun k h => by rw [hτ, z_up_app, if_pos rfl, if_neg h]
        refine z_iload_n X dX9_send_30 rfl ?_
        refine z_iload_n X dX9_send_31 rfl ?_
        refine z_icmp_eq (tgt := 44) X dX9_send_32 (by decide) (fun c_32 => ?_) (fun c_32 => ?_)
        · skip
          refine z_aload_n X dX9_send_44 rfl ?_
          refine z_iconst (v := 2) X (by decide) dX9_send_45 ?_
          refine z_runV X kX9_154 (tX9_fails _ hS) (zso_21 hS) rfl rfl (Nat.le_of_ble_eq_true rfl) ⟨by decide, by decide⟩ ⟨by decide, by decide⟩ dX9_send_46 ?_
          rintro _ g1 s1 ⟨rfl, h8, h9⟩
          replace h8 := h8.symm
          subst h8
          replace h9 := h9.symm
          subst h9
          refine z_iret X (by decide) (by decide) rfl dX9_send_49 ?_
          have hz : zx_send no nd nm (zrs ad ot rt br nc (zd0 1000000 (zn (nI to))) 8 (zn (nI fm)) < 1000000) (nI fm) (nI to) xk = 2 := by unfold zx_send; rw [if_neg (fun q => q ⟨c_6, c_14⟩), if_pos (by first | exact Or.inl c_32 | exact Or.inr c_41)]
          exact ⟨rfl, _, rfl, Or.inl ⟨by rw [hz]; decide, by rw [hz, z_up_app, if_pos rfl, if_pos rfl]; rfl, fun i q1 q2 q3 => by rw [z_up_ne q1]; first | exact eτ i q1 | exact (hr1 i q1 q2 q3).trans (eτ i q1), fun k q1 q2 => by rw [z_up_app, if_pos rfl, if_neg q2]; first | exact eτ1 k q2 | exact (hr21 k q1).trans (eτ1 k q2)⟩⟩
        · skip
          refine z_iload_n X dX9_send_35 rfl ?_
          refine z_iconst (v := 0) X (by decide) dX9_send_36 ?_
          refine z_iconst (v := 2) X (by decide) dX9_send_37 ?_
          refine z_runS X kX9_129 (tX9_inN _ _ _) rfl rfl (Nat.le_of_ble_eq_true rfl) ⟨by decide, by decide⟩ ⟨by decide, by decide⟩ dX9_send_38 ?_
          rintro _ g1 s1 ⟨rfl, h8, h9⟩
          replace h8 := h8.symm
          subst h8
          replace h9 := h9.symm
          subst h9
          refine z_if_ne (tgt := 50) X dX9_send_41 (by decide) (fun c_41 => ?_) (fun c_41 => ?_)
          · skip
            try simp (disch := omega) only [zb_notn, zb_not, zb_n0, zb_0, Bool.not_eq_false, Bool.not_eq_true, Bool.not_eq_true', Bool.not_eq_false', decide_eq_true_eq, decide_eq_false_iff_not, Classical.not_not] at c_41
            refine z_aload_n X dX9_send_50 rfl ?_
            refine z_geti X fX9_202 (zso_21 hS) rfl dX9_send_51 ?_
            rw [eτ1 22 (by decide), hnd]
            refine z_if_eq (tgt := 75) X dX9_send_54 (by decide) (fun c_54 => ?_) (fun c_54 => ?_)
            · skip
              try simp (disch := omega) only [zk0, nI_leI, nI_ltI, nI_eq, zbk_notn, zbk_not, zbk_n0, zbk_0, zb_0, zb_n0, zb_not, zb_notn, Bool.not_eq_false, Bool.not_eq_true, Bool.not_eq_true', Bool.not_eq_false', decide_eq_true_eq, decide_eq_false_iff_not, Classical.not_not] at c_54
              refine z_aload_n X dX9_send_75 rfl ?_
              refine z_iconst (v := 3) X (by decide) dX9_send_76 ?_
              refine z_runV X kX9_154 (tX9_fails _ hS) (zso_21 hS) rfl rfl (Nat.le_of_ble_eq_true rfl) ⟨by decide, by decide⟩ ⟨by decide, by decide⟩ dX9_send_77 ?_
              rintro _ g1 s1 ⟨rfl, h8, h9⟩
              replace h8 := h8.symm
              subst h8
              replace h9 := h9.symm
              subst h9
              refine z_iret X (by decide) (by decide) rfl dX9_send_80 ?_
              have hz : zx_send no nd nm (zrs ad ot rt br nc (zd0 1000000 (zn (nI to))) 8 (zn (nI fm)) < 1000000) (nI fm) (nI to) xk = 3 := by unfold zx_send; rw [if_neg (fun q => q ⟨c_6, c_14⟩), if_neg (fun q => by rcases q with q | q; exact c_32 q; exact c_41 q), zn_nI (show fm < 2 ^ 31 by omega), zn_nI (show to < 2 ^ 31 by omega), zif_t (by first | exact Or.inl c_54 | exact Or.inr (Or.inl c_63) | exact Or.inr (Or.inr (fun q => by rw [hbi.mpr q] at c_72; exact absurd c_72 (by decide))))]
              exact ⟨rfl, _, rfl, Or.inl ⟨by rw [hz]; decide, by rw [hz, z_up_app, if_pos rfl, if_pos rfl]; rfl, fun i q1 q2 q3 => by rw [z_up_ne q1]; first | exact eτ i q1 | exact (hr1 i q1 q2 q3).trans (eτ i q1), fun k q1 q2 => by rw [z_up_app, if_pos rfl, if_neg q2]; first | exact eτ1 k q2 | exact (hr21 k q1).trans (eτ1 k q2)⟩⟩
            · skip
              try simp (disch := omega) only [zk0, nI_leI, nI_ltI, nI_eq, zbk_notn, zbk_not, zbk_n0, zbk_0, zb_0, zb_n0, zb_not, zb_notn, Bool.not_eq_false, Bool.not_eq_true, Bool.not_eq_true', Bool.not_eq_false', decide_eq_true_eq, decide_eq_false_iff_not, Classical.not_not] at c_54
              refine z_aload_n X dX9_send_57 rfl ?_
              refine z_geti X fX9_139 (zso_21 hS) rfl dX9_send_58 ?_
              rw [eτ1 27 (by decide), hnm]
              refine z_bipush (v := nI 60) X (by decide) dX9_send_61 ?_
              refine z_icmp_eq (tgt := 75) X dX9_send_63 (by decide) (fun c_63 => ?_) (fun c_63 => ?_)
              · skip
                try simp (disch := omega) only [zk0, nI_leI, nI_ltI, nI_eq, zbk_notn, zbk_not, zbk_n0, zbk_0, zb_0, zb_n0, zb_not, zb_notn, Bool.not_eq_false, Bool.not_eq_true, Bool.not_eq_true', Bool.not_eq_false', decide_eq_true_eq, decide_eq_false_iff_not, Classical.not_not] at c_63
                refine z_aload_n X dX9_send_75 rfl ?_
                refine z_iconst (v := 3) X (by decide) dX9_send_76 ?_
                refine z_runV X kX9_154 (tX9_fails _ hS) (zso_21 hS) rfl rfl (Nat.le_of_ble_eq_true rfl) ⟨by decide, by decide⟩ ⟨by decide, by decide⟩ dX9_send_77 ?_
                rintro _ g1 s1 ⟨rfl, h8, h9⟩
                replace h8 := h8.symm
                subst h8
                replace h9 := h9.symm
                subst h9
                refine z_iret X (by decide) (by decide) rfl dX9_send_80 ?_
                have hz : zx_send no nd nm (zrs ad ot rt br nc (zd0 1000000 (zn (nI to))) 8 (zn (nI fm)) < 1000000) (nI fm) (nI to) xk = 3 := by unfold zx_send; rw [if_neg (fun q => q ⟨c_6, c_14⟩), if_neg (fun q => by rcases q with q | q; exact c_32 q; exact c_41 q), zn_nI (show fm < 2 ^ 31 by omega), zn_nI (show to < 2 ^ 31 by omega), zif_t (by first | exact Or.inl c_54 | exact Or.inr (Or.inl c_63) | exact Or.inr (Or.inr (fun q => by rw [hbi.mpr q] at c_72; exact absurd c_72 (by decide))))]
                exact ⟨rfl, _, rfl, Or.inl ⟨by rw [hz]; decide, by rw [hz, z_up_app, if_pos rfl, if_pos rfl]; rfl, fun i q1 q2 q3 => by rw [z_up_ne q1]; first | exact eτ i q1 | exact (hr1 i q1 q2 q3).trans (eτ i q1), fun k q1 q2 => by rw [z_up_app, if_pos rfl, if_neg q2]; first | exact eτ1 k q2 | exact (hr21 k q1).trans (eτ1 k q2)⟩⟩
              · skip
                try simp (disch := omega) only [zk0, nI_leI, nI_ltI, nI_eq, zbk_notn, zbk_not, zbk_n0, zbk_0, zb_0, zb_n0, zb_not, zb_notn, Bool.not_eq_false, Bool.not_eq_true, Bool.not_eq_true', Bool.not_eq_false', decide_eq_true_eq, decide_eq_false_iff_not, Classical.not_not] at c_63
                refine z_aload_n X dX9_send_66 rfl ?_
                refine z_iload_n X dX9_send_67 rfl ?_
                refine z_iload_n X dX9_send_68 rfl ?_
                refine z_runV X kX9_251 (tX9_hasRoute fm to hS (by rw [eτ1 10 (by decide)]; exact hnc) hn12 hn8 (zCR_e hCR (fun i q1 q2 => eτ i (by omega))) hfm9 hto9) (zso_21 hS) rfl rfl (Nat.le_of_ble_eq_true rfl) ⟨by decide, by decide⟩ ⟨by decide, by decide⟩ dX9_send_69 ?_
                rintro _ g s1 ⟨b9, rfl, rfl, hr1, hr21, hbi, hbt⟩
                refine z_if_ne (tgt := 81) X dX9_send_72 (by decide) (fun c_72 => ?_) (fun c_72 => ?_)
                · skip
                  try simp (disch := omega) only [zb_notn, zb_not, zb_n0, zb_0, Bool.not_eq_false, Bool.not_eq_true, Bool.not_eq_true', Bool.not_eq_false', decide_eq_true_eq, decide_eq_false_iff_not, Classical.not_not] at c_72
                  obtain ⟨l9, hp9, hl8, h46, h58⟩ := hbt c_72
                  obtain ⟨K2, j02, pl2, cd2, vw2, hPo⟩ := hP fm hfm9 rfl
                  have es1 : ∀ i, i ≠ 21 ∧ i ≠ 57 ∧ i ≠ 58 → s1 i = σ i := fun i q => (hr1 i q.1 q.2.1 q.2.2).trans (eτ i q.1)
                  have es21 : ∀ k, k ≠ 46 → k ≠ 48 → s1 21 k = σ 21 k := fun k q1 q2 => (hr21 k q1).trans (eτ1 k q2)
                  have hPs1 : zPk s1 fm K2 ni nd ne nu mi j02 pl2 cd2 vw2 lt dd dy := zPk_f hPo (fun i q1 q2 _ => es1 i (by omega)) (fun k hk => es21 k (by omega) (by omega))
                  refine z_aload_n X dX9_send_81 rfl ?_
                  refine z_iload_n X dX9_send_82 rfl ?_
                  refine z_iload X dX9_send_83 rfl ?_
                  refine z_runV X kX9_238 (tX9_packs (o := fm) b hS hPs1) (zso_21 hS) rfl rfl (Nat.le_of_ble_eq_true rfl) ⟨by decide, by decide⟩ ⟨by decide, by decide⟩ dX9_send_85 ?_
                  rintro _ g s2 ⟨rfl, rfl, paid, many, L9, hPf⟩
                  have hnm2 : s2 21 27 = nI nm := by rw [hPf.2.1 27 (by decide) (by decide), es21 27 (by decide) (by decide)]; exact hnm
                  have hpl9 : ∀ i, i < L9.length → (L9.getD i (0, 0)).1 < nd := by rw [hPf.2.2.2.1]; exact fun i hi => zcut_pl nd 0 many (by omega) i hi
                  have hL24 : L9.length ≤ nd := by rw [hPf.2.2.2.1]; have := zcut_le (nd := nd) (T := zLT 1000000 nd (fun i => zup (lt (dd i)) cd2) (zusσ s1 ne K2 vw2 nd)) (us := zusσ s1 ne K2 vw2 nd) nd 0 many (by omega); omega
                  refine z_aload_n X dX9_send_88 rfl ?_
                  refine z_geti X fX9_139 (zso_21 hS) rfl dX9_send_89 ?_
                  rw [hnm2]
                  refine z_istore X dX9_send_92 (by decide) ?_
                  refine z_aload_n X dX9_send_94 rfl ?_
                  refine z_dup X rfl dX9_send_95 ?_
                  refine z_geti X fX9_139 (zso_21 hS) rfl dX9_send_96 ?_
                  rw [hnm2]
                  refine z_iconst (v := nI 1) X (by decide) dX9_send_99 ?_
                  refine z_iaddN X dX9_send_100 ?_
                  refine z_puti X fX9_139 (zso_21 hS) rfl dX9_send_101 ?_
                  obtain ⟨a1, ha1e⟩ : ∃ q, q = z_up s2 21 27 (nI (nm + 1)) := ⟨_, rfl⟩
                  rw [show z_up s2 21 27 (nI (nm + 1)) = a1 from ha1e.symm]
                  have ha : ∀ i, i ≠ 21 → a1 i = s2 i := fun i q => by rw [ha1e, z_up_ne q]
                  have ha1 : ∀ k, k ≠ 27 → a1 21 k = s2 21 k := fun k q => by rw [ha1e, z_up_app, if_pos rfl, if_neg q]
                  refine z_aload_n X dX9_send_104 rfl ?_
                  refine z_getr2 X fX9_68 (zso_21 hS) (zsr_21_28 hS) rfl dX9_send_105 ?_
                  refine z_iload X dX9_send_108 rfl ?_
                  refine z_iload_n X dX9_send_110 rfl ?_
                  refine z_iastN X (zsa_41 hS) (by omega) (by omega) dX9_send_111 ?_
                  refine z_aload_n X dX9_send_112 rfl ?_
                  refine z_getr2 X fX9_71 (zso_21 hS) (zsr_21_29 hS) rfl dX9_send_113 ?_
                  refine z_iload X dX9_send_116 rfl ?_
                  refine z_iload_n X dX9_send_118 rfl ?_
                  refine z_iastN X (zsa_42 hS) (by omega) (by omega) dX9_send_119 ?_
                  refine z_aload_n X dX9_send_120 rfl ?_
                  refine z_getr2 X fX9_74 (zso_21 hS) (zsr_21_30 hS) rfl dX9_send_121 ?_
                  refine z_iload X dX9_send_124 rfl ?_
                  refine z_iload_n X dX9_send_126 rfl ?_
                  refine z_iastN X (zsa_43 hS) (by omega) (by omega) dX9_send_127 ?_
                  refine z_aload_n X dX9_send_128 rfl ?_
                  refine z_getr2 X fX9_77 (zso_21 hS) (zsr_21_31 hS) rfl dX9_send_129 ?_
                  refine z_iload X dX9_send_132 rfl ?_
                  refine z_iconst (v := nI 0) X (by decide) dX9_send_134 ?_
                  refine z_iastN X (zsa_44 hS) (by omega) (by omega) dX9_send_135 ?_
                  refine z_aload_n X dX9_send_136 rfl ?_
                  refine z_getr2 X fX9_89 (zso_21 hS) (zsr_21_35 hS) rfl dX9_send_137 ?_
                  refine z_iload X dX9_send_140 rfl ?_
                  refine z_iconst (v := -1) X (by decide) dX9_send_142 ?_
                  refine z_iast X (zsa_48 hS) (by first | assumption | exact vp_in_nI (by omega) (by omega) | exact z_vin (by omega) (by omega)) dX9_send_143 ?_
                  refine z_aload_n X dX9_send_144 rfl ?_
                  refine z_getr2 X fX9_83 (zso_21 hS) (zsr_21_33 hS) rfl dX9_send_145 ?_
                  refine z_iload X dX9_send_148 rfl ?_
                  refine z_aload_n X dX9_send_150 rfl ?_
                  refine z_geti X fX9_228 (zso_21 hS) rfl dX9_send_151 ?_
                  repeat rw [z_up_ne (by decide)]
                  rw [ha1 26 (by decide), hPf.2.2.2.2.1]
                  refine z_iastN X (zsa_46 hS) (by omega) (by omega) dX9_send_154 ?_
                  refine z_aload_n X dX9_send_155 rfl ?_
                  refine z_getr2 X fX9_80 (zso_21 hS) (zsr_21_32 hS) rfl dX9_send_156 ?_
                  refine z_iload X dX9_send_159 rfl ?_
                  refine z_aload_n X dX9_send_161 rfl ?_
                  refine z_geti X fX9_222 (zso_21 hS) rfl dX9_send_162 ?_
                  repeat rw [z_up_ne (by decide)]
                  rw [ha1 25 (by decide), hPf.2.2.2.2.2.1]
                  refine z_iastN X (zsa_45 hS) (by omega) (by omega) dX9_send_165 ?_
                  refine z_aload_n X dX9_send_166 rfl ?_
                  refine z_getr2 X fX9_107 (zso_21 hS) (zsr_21_41 hS) rfl dX9_send_167 ?_
                  refine z_iload X dX9_send_170 rfl ?_
                  refine z_iconst (v := nI 0) X (by decide) dX9_send_172 ?_
                  refine z_iastN X (zsa_54 hS) (by omega) (by omega) dX9_send_173 ?_
                  refine z_aload_n X dX9_send_174 rfl ?_
                  refine z_getr2 X fX9_110 (zso_21 hS) (zsr_21_42 hS) rfl dX9_send_175 ?_
                  refine z_iload X dX9_send_178 rfl ?_
                  refine z_iconst (v := nI 0) X (by decide) dX9_send_180 ?_
                  refine z_iastN X (zsa_55 hS) (by omega) (by omega) dX9_send_181 ?_
                  refine z_aload_n X dX9_send_182 rfl ?_
                  refine z_getr2 X fX9_92 (zso_21 hS) (zsr_21_36 hS) rfl dX9_send_183 ?_
                  refine z_iload X dX9_send_186 rfl ?_
                  refine z_iconst (v := nI 0) X (by decide) dX9_send_188 ?_
                  refine z_zastN X (zsa_49 hS) (by omega) (by omega) (by first | exact Or.inl rfl | exact Or.inr rfl | exact zb_01 _ | assumption) dX9_send_189 ?_
                  obtain ⟨s3, hs3⟩ : ∃ q, q = zS3 a1 nm paid L9.length (nI fm) (nI to) xk := ⟨_, rfl⟩
                  rw [show (nI nm).toNatClampNeg = nm from zn_nI (by omega)]
                  rw [show (z_up (z_up (z_up (z_up (z_up (z_up (z_up (z_up (z_up (z_up a1 41 nm (nI fm)) 42 nm (nI to)) 43 nm xk) 44 nm (nI 0)) 48 nm (-1)) 46 nm (nI paid)) 45 nm (nI L9.length)) 54 nm (nI 0)) 55 nm (nI 0)) 49 nm (nI 0)) = s3 from hs3.symm]
                  have e3 : ∀ i, (i ≠ 41 ∧ i ≠ 42 ∧ i ≠ 43 ∧ i ≠ 44 ∧ i ≠ 45 ∧ i ≠ 46 ∧ i ≠ 48 ∧ i ≠ 49 ∧ i ≠ 54 ∧ i ≠ 55) → s3 i = a1 i := fun i h => by rw [hs3]; exact zS3_ne h
                  have h349 : s3 49 nm = zb (zhc (s2 40) 0) := by rw [hs3]; unfold zS3; rw [z_up_app, if_pos rfl, if_pos rfl]; rfl
                  have loop_193 : ∀ (n : Nat) (k9 : Nat) (v7 : Option Value) (τ4 : zIn) (hk : k9 ≤ L9.length) (hW1 : zW1 s3 τ4 nm (s2 40) (s2 23) K2 ne k9) (hn : L9.length - k9 < n), z_V p l e (zRm MX9_send) s m args below meth c 8 D cy z0 0 0 (zQm MX9_send below D cy z0 (fun v g' σ' => g' = g ∧ ∃ r, v = some (.int r) ∧ ((zx_send no nd nm (zrs ad ot rt br nc (zd0 1000000 (zn (nI to))) 8 (zn (nI fm)) < 1000000) (nI fm) (nI to) xk ≠ 0 ∧ σ' 21 48 = nI (zx_send no nd nm (zrs ad ot rt br nc (zd0 1000000 (zn (nI to))) 8 (zn (nI fm)) < 1000000) (nI fm) (nI to) xk) ∧ (∀ i, i ≠ 21 → i ≠ 57 → i ≠ 58 → σ' i = σ i) ∧ ∀ k, k ≠ 46 → k ≠ 48 → σ' 21 k = σ 21 k) ∨ (zx_send no nd nm (zrs ad ot rt br nc (zd0 1000000 (zn (nI to))) 8 (zn (nI fm)) < 1000000) (nI fm) (nI to) xk = 0 ∧ r = nI nm ∧ ∃ qf qt l K j0 pl cd vw paid many L s1 s2 s4 s6, qf < no ∧ (nI fm) = nI qf ∧ qt < no ∧ (nI to) = nI qt ∧ qf ≠ qt ∧ ¬ (xk < 0 ∨ 2 < xk) ∧ 0 < nd ∧ nm < 60 ∧ zpath (zcn ad ot rt br (zrs ad ot rt br nc (zd0 1000000 qt) 8)) (zoe ad ot) nc qt qf l ∧ l.length < 8 ∧ zPk σ qf K ni nd ne nu mi j0 pl cd vw lt dd dy ∧ (∀ i, i ≠ 21 → i ≠ 57 → i ≠ 58 → s1 i = σ i) ∧ (∀ k, k ≠ 46 → k ≠ 48 → s1 21 k = σ 21 k) ∧ s1 21 48 = 0 ∧ s1 21 46 = nI l.length ∧ (∀ i, i < l.length → s1 58 i = nI (l.getD i 0)) ∧ zPf s1 s2 ne K nd pl cd vw lt dd b paid many L ∧ zW1 (zS3 (z_up s2 21 27 (nI (nm + 1))) nm paid L.length (nI fm) (nI to) xk) s4 nm (s2 40) (s2 23) K ne L.length ∧ zW2 (z_up (z_up s4 53 nm (nI l.length)) 47 nm (nI 0)) s6 nm paid rt ad (fun i => l.getD i 0) xk l.length ∧ σ' = zcomeR (z_up (z_up s6 28 qf (s6 28 qf - s6 47 nm)) 21 22 (nI 0)) nm qf qt (zhc (s2 40) L.length) (fb qf)))) args s) 193 [some (.ref (g.2.1 21)), some (.int (nI fm)), some (.int (nI to)), some (.int xk), some (.int (zb b)), some (.int (nI nm)), some (.int (nI k9)), v7] [] g τ4 := by
                    intro n
                    induction n with
                    | zero => intro k9 v7 τ4 hk hW1 hn; exact absurd hn (Nat.not_lt_zero _)
                    | succ n ih_193 =>
                      intro k9 v7 τ4 hk hW1 hn
                      have f1 := hW1.1
                      have f21 : ∀ k, τ4 21 k = a1 21 k := fun k => by rw [f1 21 (by decide) (by decide) (by decide), e3 21 (by decide)]
                      have hcu : τ4 21 25 = nI L9.length := by rw [f21, ha1 25 (by decide)]; exact hPf.2.2.2.2.2.1
                      have e40 : τ4 40 = s2 40 := by rw [f1 40 (by decide) (by decide) (by decide), e3 40 (by decide), ha 40 (by decide)]
                      have e23 : τ4 23 = s2 23 := by rw [f1 23 (by decide) (by decide) (by decide), e3 23 (by decide), ha 23 (by decide)]
                      have elow : ∀ i, 22 ≤ i → i ≤ 38 → τ4 i = σ i := fun i q1 q2 => by rw [f1 i (by omega) (by omega) (by omega), e3 i (by omega), ha i (by omega), hPf.1 i (by omega) (by omega) (by omega)]; exact es1 i (by omega)
                      have elow2 : ∀ k, k = 2 ∨ k = 16 ∨ k = 22 ∨ k = 47 → τ4 21 k = σ 21 k := fun k hk => by rw [f21, ha1 k (by omega), hPf.2.1 k (by omega) (by omega)]; exact es21 k (by omega) (by omega)
                      refine z_iload X dX9_send_193 rfl ?_
                      refine z_aload_n X dX9_send_195 rfl ?_
                      refine z_geti X fX9_222 (zso_21 hS) rfl dX9_send_196 ?_
                      rw [hcu]
                      refine z_icmp_ge (tgt := 318) X dX9_send_199 (by decide) (fun c_199 => ?_) (fun c_199 => ?_)
                      · skip
                        try simp (disch := omega) only [zk0, nI_leI, nI_ltI, nI_eq, zbk_notn, zbk_not, zbk_n0, zbk_0, zb_0, zb_n0, zb_not, zb_notn, Bool.not_eq_false, Bool.not_eq_true, Bool.not_eq_true', Bool.not_eq_false', decide_eq_true_eq, decide_eq_false_iff_not, Classical.not_not] at c_199
                        have e8 : L9.length = k9 := by omega
                        rw [← e8] at hW1
                        have hway : τ4 21 46 = nI l9.length := by rw [f21, ha1 46 (by decide), hPf.2.1 46 (by decide) (by decide)]; exact h46
                        refine z_aload_n X dX9_send_318 rfl ?_
                        refine z_getr2 X fX9_104 (zso_21 hS) (zsr_21_40 hS) rfl dX9_send_319 ?_
                        refine z_iload X dX9_send_322 rfl ?_
                        refine z_aload_n X dX9_send_324 rfl ?_
                        refine z_geti X fX9_245 (zso_21 hS) rfl dX9_send_325 ?_
                        rw [hway]
                        refine z_iastN X (zsa_53 hS) (by omega) (by omega) dX9_send_328 ?_
                        refine z_aload_n X dX9_send_329 rfl ?_
                        refine z_getr2 X fX9_86 (zso_21 hS) (zsr_21_34 hS) rfl dX9_send_330 ?_
                        refine z_iload X dX9_send_333 rfl ?_
                        refine z_iconst (v := nI 0) X (by decide) dX9_send_335 ?_
                        refine z_iastN X (zsa_47 hS) (by omega) (by omega) dX9_send_336 ?_
                        obtain ⟨s5, hs5⟩ : ∃ q, q = z_up (z_up τ4 53 nm (nI l9.length)) 47 nm (nI 0) := ⟨_, rfl⟩
                        rw [show z_up (z_up τ4 53 nm (nI l9.length)) 47 nm (nI 0) = s5 from hs5.symm]
                        have f5 : ∀ i, i ≠ 53 → i ≠ 47 → s5 i = τ4 i := fun i q1 q2 => by rw [hs5, z_up_ne q2, z_up_ne q1]
                        have loop_340 : ∀ (n : Nat) (j9 : Nat) (v7 : Option Value) (τ6 : zIn) (hj : j9 ≤ l9.length) (hW2 : zW2 s5 τ6 nm paid rt ad (fun i => l9.getD i 0) xk j9) (hn : l9.length - j9 < n), z_V p l e (zRm MX9_send) s m args below meth c 8 D cy z0 0 0 (zQm MX9_send below D cy z0 (fun v g' σ' => g' = g ∧ ∃ r, v = some (.int r) ∧ ((zx_send no nd nm (zrs ad ot rt br nc (zd0 1000000 (zn (nI to))) 8 (zn (nI fm)) < 1000000) (nI fm) (nI to) xk ≠ 0 ∧ σ' 21 48 = nI (zx_send no nd nm (zrs ad ot rt br nc (zd0 1000000 (zn (nI to))) 8 (zn (nI fm)) < 1000000) (nI fm) (nI to) xk) ∧ (∀ i, i ≠ 21 → i ≠ 57 → i ≠ 58 → σ' i = σ i) ∧ ∀ k, k ≠ 46 → k ≠ 48 → σ' 21 k = σ 21 k) ∨ (zx_send no nd nm (zrs ad ot rt br nc (zd0 1000000 (zn (nI to))) 8 (zn (nI fm)) < 1000000) (nI fm) (nI to) xk = 0 ∧ r = nI nm ∧ ∃ qf qt l K j0 pl cd vw paid many L s1 s2 s4 s6, qf < no ∧ (nI fm) = nI qf ∧ qt < no ∧ (nI to) = nI qt ∧ qf ≠ qt ∧ ¬ (xk < 0 ∨ 2 < xk) ∧ 0 < nd ∧ nm < 60 ∧ zpath (zcn ad ot rt br (zrs ad ot rt br nc (zd0 1000000 qt) 8)) (zoe ad ot) nc qt qf l ∧ l.length < 8 ∧ zPk σ qf K ni nd ne nu mi j0 pl cd vw lt dd dy ∧ (∀ i, i ≠ 21 → i ≠ 57 → i ≠ 58 → s1 i = σ i) ∧ (∀ k, k ≠ 46 → k ≠ 48 → s1 21 k = σ 21 k) ∧ s1 21 48 = 0 ∧ s1 21 46 = nI l.length ∧ (∀ i, i < l.length → s1 58 i = nI (l.getD i 0)) ∧ zPf s1 s2 ne K nd pl cd vw lt dd b paid many L ∧ zW1 (zS3 (z_up s2 21 27 (nI (nm + 1))) nm paid L.length (nI fm) (nI to) xk) s4 nm (s2 40) (s2 23) K ne L.length ∧ zW2 (z_up (z_up s4 53 nm (nI l.length)) 47 nm (nI 0)) s6 nm paid rt ad (fun i => l.getD i 0) xk l.length ∧ σ' = zcomeR (z_up (z_up s6 28 qf (s6 28 qf - s6 47 nm)) 21 22 (nI 0)) nm qf qt (zhc (s2 40) L.length) (fb qf)))) args s) 340 [some (.ref (g.2.1 21)), some (.int (nI fm)), some (.int (nI to)), some (.int xk), some (.int (zb b)), some (.int (nI nm)), some (.int (nI j9)), v7] [] g τ6 := by
                          intro n
                          induction n with
                          | zero => intro j9 v7 τ6 hj hW2 hn; exact absurd hn (Nat.not_lt_zero _)
                          | succ n ih_340 =>
                            intro j9 v7 τ6 hj hW2 hn
                            have g1 := hW2.1
                            have g21 : ∀ k, τ6 21 k = a1 21 k := fun k => by rw [g1 21 (by decide) (by decide) (by decide), f5 21 (by decide) (by decide), f21]
                            have hway6 : τ6 21 46 = nI l9.length := by rw [g21, ha1 46 (by decide), hPf.2.1 46 (by decide) (by decide)]; exact h46
                            have hpd6 : τ6 21 26 = nI paid := by rw [g21, ha1 26 (by decide)]; exact hPf.2.2.2.2.1
                            have e6 : ∀ i, 22 ≤ i → i ≤ 38 → i ≠ 28 → τ6 i = σ i := fun i q1 q2 q3 => by rw [g1 i q3 (by omega) (by omega), f5 i (by omega) (by omega)]; exact elow i q1 q2
                            have h586 : τ6 58 = s1 58 := by rw [g1 58 (by decide) (by decide) (by decide), f5 58 (by decide) (by decide), f1 58 (by decide) (by decide) (by decide), e3 58 (by decide), ha 58 (by decide), hPf.1 58 (by decide) (by decide) (by decide)]
                            refine z_iload X dX9_send_340 rfl ?_
                            refine z_aload_n X dX9_send_342 rfl ?_
                            refine z_geti X fX9_245 (zso_21 hS) rfl dX9_send_343 ?_
                            rw [hway6]
                            refine z_icmp_ge (tgt := 432) X dX9_send_346 (by decide) (fun c_346 => ?_) (fun c_346 => ?_)
                            · skip
                              try simp (disch := omega) only [zk0, nI_leI, nI_ltI, nI_eq, zbk_notn, zbk_not, zbk_n0, zbk_0, zb_0, zb_n0, zb_not, zb_notn, Bool.not_eq_false, Bool.not_eq_true, Bool.not_eq_true', Bool.not_eq_false', decide_eq_true_eq, decide_eq_false_iff_not, Classical.not_not] at c_346
                              have e9 : l9.length = j9 := by omega
                              rw [← e9] at hW2
                              refine z_aload_n X dX9_send_432 rfl ?_
                              refine z_getr2 X fX9_29 (zso_21 hS) (zsr_21_9 hS) rfl dX9_send_433 ?_
                              refine z_iload_n X dX9_send_436 rfl ?_
                              refine z_dup2 X rfl rfl dX9_send_437 ?_
                              refine z_ialdN X (zsa_28 hS) (by omega) (by omega) dX9_send_438 ?_
                              refine z_aload_n X dX9_send_439 rfl ?_
                              refine z_getr2 X fX9_86 (zso_21 hS) (zsr_21_34 hS) rfl dX9_send_440 ?_
                              refine z_iload X dX9_send_443 rfl ?_
                              refine z_ialdN X (zsa_47 hS) (by omega) (by omega) dX9_send_445 ?_
                              refine z_isub X dX9_send_446 ?_
                              refine z_iastN X (zsa_28 hS) (by omega) (by omega) dX9_send_447 ?_
                              refine z_aload_n X dX9_send_448 rfl ?_
                              refine z_iconst (v := nI 0) X (by decide) dX9_send_449 ?_
                              refine z_puti X fX9_202 (zso_21 hS) rfl dX9_send_450 ?_
                              refine z_aload_n X dX9_send_453 rfl ?_
                              refine z_iload X dX9_send_454 rfl ?_
                              refine z_iload_n X dX9_send_456 rfl ?_
                              refine z_runV X kX9_254 (tX9_comes (tt := to) (hc := zhc (s2 40) L9.length) (fb := fb fm) nm fm hS (by omega) (by omega) (by rw [z_up_ne (by decide), z_up_ne (by decide), g1 49 (by decide) (by decide) (by decide), f5 49 (by decide) (by decide)]; exact hW1.2.2.1) (by rw [z_up_ne (by decide), z_up_ne (by decide), e6 25 (by decide) (by decide) (by decide)]; exact hfb fm hfm9) (by rw [z_up_ne (by decide), z_up_ne (by decide), g1 42 (by decide) (by decide) (by decide), f5 42 (by decide) (by decide), f1 42 (by decide) (by decide) (by decide), hs3]; unfold zS3; simp [z_up_app]) (by omega)) (zso_21 hS) rfl rfl (Nat.le_of_ble_eq_true rfl) ⟨by decide, by decide⟩ ⟨by decide, by decide⟩ dX9_send_457 ?_
                              rintro _ g1 s1 ⟨rfl, h8, h9⟩
                              replace h8 := h8.symm
                              subst h8
                              replace h9 := h9.symm
                              subst h9
                              refine z_iload X dX9_send_460 rfl ?_
                              refine z_iret X (by decide) (by decide) rfl dX9_send_462 ?_
                              refine ⟨rfl, _, rfl, Or.inr ⟨?_, rfl, fm, to, l9, K2, j02, pl2, cd2, vw2, paid, many, L9, s1, s2, τ4, τ6, hfm9, rfl, hto9, rfl, fun q => c_32 (by rw [q]), c_41, by omega, by omega, hp9, hl8, hPo, fun i q1 q2 q3 => (hr1 i q1 q2 q3).trans (eτ i q1), fun k q1 q2 => (hr21 k q1).trans (eτ1 k q2), ?_, h46, h58, hPf, ?_, ?_, rfl⟩⟩
                              · unfold zx_send
                                rw [if_neg (fun q => q ⟨c_6, c_14⟩), if_neg (fun q => by rcases q with q | q; exact c_32 q; exact c_41 q), zn_nI (show fm < 2 ^ 31 by omega), zn_nI (show to < 2 ^ 31 by omega), zif_f (fun q => by rcases q with q | q | q; omega; omega; exact q (hbi.mp c_72))]
                              · rw [hr21 48 (by decide), hτ, z_up_app, if_pos rfl, if_pos rfl]
                              · rw [← ha1e, ← hs3]; exact hW1
                              · rw [← hs5]; exact hW2
                            · skip
                              try simp (disch := omega) only [zk0, nI_leI, nI_ltI, nI_eq, zbk_notn, zbk_not, zbk_n0, zbk_0, zb_0, zb_n0, zb_not, zb_notn, Bool.not_eq_false, Bool.not_eq_true, Bool.not_eq_true', Bool.not_eq_false', decide_eq_true_eq, decide_eq_false_iff_not, Classical.not_not] at c_346
                              have hlj : l9.getD j9 0 < nc := zpath_lt hp9 j9 (by omega)
                              have hCc := hCR _ hlj
                              have hw58 : τ6 58 j9 = nI (l9.getD j9 0) := by rw [h586]; exact h58 j9 (by omega)
                              refine z_aload_n X dX9_send_349 rfl ?_
                              refine z_getr2 X fX9_38 (zso_21 hS) (zsr_21_13 hS) rfl dX9_send_350 ?_
                              refine z_aload_n X dX9_send_353 rfl ?_
                              refine z_getr2 X fX9_119 (zso_21 hS) (zsr_21_45 hS) rfl dX9_send_354 ?_
                              refine z_iload X dX9_send_357 rfl ?_
                              refine z_ialdN X (zsa_58 hS) (by omega) (by omega) dX9_send_359 ?_
                              rw [hw58]
                              refine z_ialdN X (zsa_31 hS) (by omega) (by omega) dX9_send_360 ?_
                              rw [e6 31 (by decide) (by decide) (by decide), hCc.2.2.2.2.2.1]
                              refine z_aload_n X dX9_send_361 rfl ?_
                              refine z_geti X fX9_228 (zso_21 hS) rfl dX9_send_362 ?_
                              rw [hpd6]
                              refine z_imul X dX9_send_365 ?_
                              refine z_iconst (v := 1) X (by decide) dX9_send_366 ?_
                              refine z_iload_n X dX9_send_367 rfl ?_
                              refine z_ishl X dX9_send_368 ?_
                              refine z_imul X dX9_send_369 ?_
                              rw [show nI (rt (l9.getD j9 0)) * nI paid * ((1 : Int32) <<< (xk &&& 31)) = zprt rt (fun i => l9.getD i 0) paid xk j9 from rfl]
                              refine z_istore X dX9_send_370 (by decide) ?_
                              refine z_aload_n X dX9_send_372 rfl ?_
                              refine z_getr2 X fX9_101 (zso_21 hS) (zsr_21_39 hS) rfl dX9_send_373 ?_
                              refine z_bipush (v := nI 8) X (by decide) dX9_send_376 ?_
                              refine z_iload X dX9_send_378 rfl ?_
                              refine z_imulN X dX9_send_380 ?_
                              refine z_iload X dX9_send_381 rfl ?_
                              refine z_iaddN X dX9_send_383 ?_
                              refine z_aload_n X dX9_send_384 rfl ?_
                              refine z_getr2 X fX9_119 (zso_21 hS) (zsr_21_45 hS) rfl dX9_send_385 ?_
                              refine z_iload X dX9_send_388 rfl ?_
                              refine z_ialdN X (zsa_58 hS) (by omega) (by omega) dX9_send_390 ?_
                              rw [hw58]
                              refine z_iastN X (zsa_52 hS) (by omega) (by omega) dX9_send_391 ?_
                              refine z_aload_n X dX9_send_392 rfl ?_
                              refine z_getr2 X fX9_86 (zso_21 hS) (zsr_21_34 hS) rfl dX9_send_393 ?_
                              refine z_iload X dX9_send_396 rfl ?_
                              refine z_dup2 X rfl rfl dX9_send_398 ?_
                              refine z_ialdN X (zsa_47 hS) (by omega) (by omega) dX9_send_399 ?_
                              rw [z_up_ne (by decide), hW2.2.2.1]
                              refine z_iload X dX9_send_400 rfl ?_
                              refine z_iadd X dX9_send_402 ?_
                              refine z_iastN X (zsa_47 hS) (by omega) (by omega) dX9_send_403 ?_
                              refine z_aload_n X dX9_send_404 rfl ?_
                              refine z_getr2 X fX9_29 (zso_21 hS) (zsr_21_9 hS) rfl dX9_send_405 ?_
                              refine z_aload_n X dX9_send_408 rfl ?_
                              refine z_getr2 X fX9_32 (zso_21 hS) (zsr_21_11 hS) rfl dX9_send_409 ?_
                              refine z_aload_n X dX9_send_412 rfl ?_
                              refine z_getr2 X fX9_119 (zso_21 hS) (zsr_21_45 hS) rfl dX9_send_413 ?_
                              refine z_iload X dX9_send_416 rfl ?_
                              refine z_ialdN X (zsa_58 hS) (by omega) (by omega) dX9_send_418 ?_
                              rw [z_up_ne (by decide), z_up_ne (by decide), hw58]
                              refine z_ialdN X (zsa_29 hS) (by omega) (by omega) dX9_send_419 ?_
                              rw [z_up_ne (by decide), z_up_ne (by decide), e6 29 (by decide) (by decide) (by decide), hCc.1]
                              refine z_dup2 X rfl rfl dX9_send_420 ?_
                              refine z_ialdN X (zsa_28 hS) (by omega) (by omega) dX9_send_421 ?_
                              rw [z_up_ne (by decide), z_up_ne (by decide)]
                              refine z_iload X dX9_send_422 rfl ?_
                              refine z_iadd X dX9_send_424 ?_
                              refine z_iastN X (zsa_28 hS) (by omega) (by omega) dX9_send_425 ?_
                              refine z_inc1 X dX9_send_426 rfl (by decide) ?_
                              refine z_goto (tgt := 340) X dX9_send_429 (by decide) ?_
                              exact ih_340 (j9 + 1) _ _ (by omega) (zW2_s hW2 (by omega)) (by omega)
                        refine z_iconst (v := nI 0) X (by decide) dX9_send_337 ?_
                        refine z_istore X dX9_send_338 (by decide) ?_
                        exact loop_340 (l9.length - 0 + 1) 0 _ s5 (Nat.zero_le _) ⟨fun _ _ _ _ => rfl, fun _ _ => rfl, by rw [hs5, z_up_app, if_pos rfl, if_pos rfl]; rfl, fun _ _ => rfl, fun i hi => absurd hi (Nat.not_lt_zero _), fun o => by show _ = s5 28 o + 0; rw [Int32.add_zero]⟩ (by omega)
                      · skip
                        try simp (disch := omega) only [zk0, nI_leI, nI_ltI, nI_eq, zbk_notn, zbk_not, zbk_n0, zbk_0, zb_0, zb_n0, zb_not, zb_notn, Bool.not_eq_false, Bool.not_eq_true, Bool.not_eq_true', Bool.not_eq_false', decide_eq_true_eq, decide_eq_false_iff_not, Classical.not_not] at c_199
                        refine z_aload_n X dX9_send_202 rfl ?_
                        refine z_getr2 X fX9_65 (zso_21 hS) (zsr_21_24 hS) rfl dX9_send_203 ?_
                        refine z_iload X dX9_send_206 rfl ?_
                        refine z_ialdN X (zsa_40 hS) (by omega) (by omega) dX9_send_208 ?_
                        rw [e40]
                        refine z_if_lt (tgt := 216) X dX9_send_209 (by decide) (fun c_209 => ?_) (fun c_209 => ?_)
                        · skip
                          refine z_iconst (v := nI 0) X (by decide) dX9_send_216 ?_
                          refine z_istore X dX9_send_217 (by decide) ?_
                          refine z_aload_n X dX9_send_219 rfl ?_
                          refine z_getr2 X fX9_92 (zso_21 hS) (zsr_21_36 hS) rfl dX9_send_220 ?_
                          refine z_iload X dX9_send_223 rfl ?_
                          refine z_aload_n X dX9_send_225 rfl ?_
                          refine z_getr2 X fX9_92 (zso_21 hS) (zsr_21_36 hS) rfl dX9_send_226 ?_
                          refine z_iload X dX9_send_229 rfl ?_
                          refine z_zaldN X (zsa_49 hS) (by omega) (by omega) dX9_send_231 ?_
                          rw [hW1.2.2.1]
                          refine z_if_ne (tgt := 240) X dX9_send_232 (by decide) (fun c_232 => ?_) (fun c_232 => ?_)
                          · skip
                            try simp (disch := omega) only [zb_notn, zb_not, zb_n0, zb_0, Bool.not_eq_false, Bool.not_eq_true, Bool.not_eq_true', Bool.not_eq_false', decide_eq_true_eq, decide_eq_false_iff_not, Classical.not_not] at c_232
                            refine z_iconst (v := nI 1) X (by decide) dX9_send_240 ?_
                            refine z_goto (tgt := 245) X dX9_send_241 (by decide) ?_
                            first
                            | rw [show (Value.int (nI 1) :: Value.int (nI nm) :: ([Value.ref (g.2.1 49)] : List Value)) = (Value.int (zb (zhc (s2 40) (k9 + 1))) :: Value.int (nI nm) :: ([Value.ref (g.2.1 49)] : List Value)) from by rw [show zhc (s2 40) (k9 + 1) = true from by show (zhc (s2 40) k9 || decide (0 ≤ s2 40 k9)) = true; first | (rw [c_232]; rfl) | rw [decide_eq_true (Int32.not_lt.mp c_209), Bool.or_true]]; rfl]
                            | rw [show (Value.int (nI 0) :: Value.int (nI nm) :: ([Value.ref (g.2.1 49)] : List Value)) = (Value.int (zb (zhc (s2 40) (k9 + 1))) :: Value.int (nI nm) :: ([Value.ref (g.2.1 49)] : List Value)) from by rw [show zhc (s2 40) (k9 + 1) = false from by show (zhc (s2 40) k9 || decide (0 ≤ s2 40 k9)) = false; rw [c_232, decide_eq_false (Int32.not_le.mpr c_209)]; rfl]; rfl]
                            refine z_zastN X (zsa_49 hS) (by omega) (by omega) (by first | exact Or.inl rfl | exact Or.inr rfl | exact zb_01 _ | assumption) dX9_send_245 ?_
                            refine z_aload_n X dX9_send_246 rfl ?_
                            refine z_getr2 X fX9_95 (zso_21 hS) (zsr_21_37 hS) rfl dX9_send_247 ?_
                            refine z_bipush (v := nI 24) X (by decide) dX9_send_250 ?_
                            refine z_iload X dX9_send_252 rfl ?_
                            refine z_imulN X dX9_send_254 ?_
                            refine z_iload X dX9_send_255 rfl ?_
                            refine z_iaddN X dX9_send_257 ?_
                            refine z_iload X dX9_send_258 rfl ?_
                            refine z_if_eq (tgt := 278) X dX9_send_260 (by decide) (fun c_260 => ?_) (fun c_260 => ?_)
                            · skip
                              refine z_aload_n X dX9_send_278 rfl ?_
                              refine z_getr2 X fX9_65 (zso_21 hS) (zsr_21_24 hS) rfl dX9_send_279 ?_
                              refine z_iload X dX9_send_282 rfl ?_
                              refine z_ialdN X (zsa_40 hS) (by omega) (by omega) dX9_send_284 ?_
                              first
                              | (rw [z_up_ne (by decide), e40]
                                 have hwr : s2 40 k9 = zwr (s2 40) (s2 23) K2 ne k9 := by unfold zwr; rw [if_pos c_209])
                              | skip
                              refine z_iastN X (zsa_50 hS) (by omega) (by omega) dX9_send_285 ?_
                              refine z_aload_n X dX9_send_286 rfl ?_
                              refine z_getr2 X fX9_98 (zso_21 hS) (zsr_21_38 hS) rfl dX9_send_287 ?_
                              refine z_bipush (v := nI 24) X (by decide) dX9_send_290 ?_
                              refine z_iload X dX9_send_292 rfl ?_
                              refine z_imulN X dX9_send_294 ?_
                              refine z_iload X dX9_send_295 rfl ?_
                              refine z_iaddN X dX9_send_297 ?_
                              refine z_aload_n X dX9_send_298 rfl ?_
                              refine z_getr2 X fX9_95 (zso_21 hS) (zsr_21_37 hS) rfl dX9_send_299 ?_
                              refine z_bipush (v := nI 24) X (by decide) dX9_send_302 ?_
                              refine z_iload X dX9_send_304 rfl ?_
                              refine z_imulN X dX9_send_306 ?_
                              refine z_iload X dX9_send_307 rfl ?_
                              refine z_iaddN X dX9_send_309 ?_
                              refine z_ialdN X (zsa_50 hS) (by omega) (by omega) dX9_send_310 ?_
                              rw [z_up_app, if_pos rfl, if_pos rfl]
                              refine z_iastN X (zsa_51 hS) (by omega) (by omega) dX9_send_311 ?_
                              refine z_inc1 X dX9_send_312 rfl (by decide) ?_
                              refine z_goto (tgt := 193) X dX9_send_315 (by decide) ?_
                              exact ih_193 (k9 + 1) _ _ (by omega) (zW1_s hW1 (by omega) hwr) (by omega)
                            · first | exact absurd c_260 (by decide) | exact absurd (by decide) c_260
                          · skip
                            try simp (disch := omega) only [zb_notn, zb_not, zb_n0, zb_0, Bool.not_eq_false, Bool.not_eq_true, Bool.not_eq_true', Bool.not_eq_false', decide_eq_true_eq, decide_eq_false_iff_not, Classical.not_not] at c_232
                            refine z_iload X dX9_send_235 rfl ?_
                            refine z_if_eq (tgt := 244) X dX9_send_237 (by decide) (fun c_237 => ?_) (fun c_237 => ?_)
                            · skip
                              refine z_iconst (v := nI 0) X (by decide) dX9_send_244 ?_
                              first
                              | rw [show (Value.int (nI 1) :: Value.int (nI nm) :: ([Value.ref (g.2.1 49)] : List Value)) = (Value.int (zb (zhc (s2 40) (k9 + 1))) :: Value.int (nI nm) :: ([Value.ref (g.2.1 49)] : List Value)) from by rw [show zhc (s2 40) (k9 + 1) = true from by show (zhc (s2 40) k9 || decide (0 ≤ s2 40 k9)) = true; first | (rw [c_232]; rfl) | rw [decide_eq_true (Int32.not_lt.mp c_209), Bool.or_true]]; rfl]
                              | rw [show (Value.int (nI 0) :: Value.int (nI nm) :: ([Value.ref (g.2.1 49)] : List Value)) = (Value.int (zb (zhc (s2 40) (k9 + 1))) :: Value.int (nI nm) :: ([Value.ref (g.2.1 49)] : List Value)) from by rw [show zhc (s2 40) (k9 + 1) = false from by show (zhc (s2 40) k9 || decide (0 ≤ s2 40 k9)) = false; rw [c_232, decide_eq_false (Int32.not_le.mpr c_209)]; rfl]; rfl]
                              refine z_zastN X (zsa_49 hS) (by omega) (by omega) (by first | exact Or.inl rfl | exact Or.inr rfl | exact zb_01 _ | assumption) dX9_send_245 ?_
                              refine z_aload_n X dX9_send_246 rfl ?_
                              refine z_getr2 X fX9_95 (zso_21 hS) (zsr_21_37 hS) rfl dX9_send_247 ?_
                              refine z_bipush (v := nI 24) X (by decide) dX9_send_250 ?_
                              refine z_iload X dX9_send_252 rfl ?_
                              refine z_imulN X dX9_send_254 ?_
                              refine z_iload X dX9_send_255 rfl ?_
                              refine z_iaddN X dX9_send_257 ?_
                              refine z_iload X dX9_send_258 rfl ?_
                              refine z_if_eq (tgt := 278) X dX9_send_260 (by decide) (fun c_260 => ?_) (fun c_260 => ?_)
                              · skip
                                refine z_aload_n X dX9_send_278 rfl ?_
                                refine z_getr2 X fX9_65 (zso_21 hS) (zsr_21_24 hS) rfl dX9_send_279 ?_
                                refine z_iload X dX9_send_282 rfl ?_
                                refine z_ialdN X (zsa_40 hS) (by omega) (by omega) dX9_send_284 ?_
                                first
                                | (rw [z_up_ne (by decide), e40]
                                   have hwr : s2 40 k9 = zwr (s2 40) (s2 23) K2 ne k9 := by unfold zwr; rw [if_pos c_209])
                                | skip
                                refine z_iastN X (zsa_50 hS) (by omega) (by omega) dX9_send_285 ?_
                                refine z_aload_n X dX9_send_286 rfl ?_
                                refine z_getr2 X fX9_98 (zso_21 hS) (zsr_21_38 hS) rfl dX9_send_287 ?_
                                refine z_bipush (v := nI 24) X (by decide) dX9_send_290 ?_
                                refine z_iload X dX9_send_292 rfl ?_
                                refine z_imulN X dX9_send_294 ?_
                                refine z_iload X dX9_send_295 rfl ?_
                                refine z_iaddN X dX9_send_297 ?_
                                refine z_aload_n X dX9_send_298 rfl ?_
                                refine z_getr2 X fX9_95 (zso_21 hS) (zsr_21_37 hS) rfl dX9_send_299 ?_
                                refine z_bipush (v := nI 24) X (by decide) dX9_send_302 ?_
                                refine z_iload X dX9_send_304 rfl ?_
                                refine z_imulN X dX9_send_306 ?_
                                refine z_iload X dX9_send_307 rfl ?_
                                refine z_iaddN X dX9_send_309 ?_
                                refine z_ialdN X (zsa_50 hS) (by omega) (by omega) dX9_send_310 ?_
                                rw [z_up_app, if_pos rfl, if_pos rfl]
                                refine z_iastN X (zsa_51 hS) (by omega) (by omega) dX9_send_311 ?_
                                refine z_inc1 X dX9_send_312 rfl (by decide) ?_
                                refine z_goto (tgt := 193) X dX9_send_315 (by decide) ?_
                                exact ih_193 (k9 + 1) _ _ (by omega) (zW1_s hW1 (by omega) hwr) (by omega)
                              · first | exact absurd c_260 (by decide) | exact absurd (by decide) c_260
                            · first | exact absurd c_237 (by decide) | exact absurd (by decide) c_237
                        · skip
                          refine z_iconst (v := nI 1) X (by decide) dX9_send_212 ?_
                          refine z_goto (tgt := 217) X dX9_send_213 (by decide) ?_
                          refine z_istore X dX9_send_217 (by decide) ?_
                          refine z_aload_n X dX9_send_219 rfl ?_
                          refine z_getr2 X fX9_92 (zso_21 hS) (zsr_21_36 hS) rfl dX9_send_220 ?_
                          refine z_iload X dX9_send_223 rfl ?_
                          refine z_aload_n X dX9_send_225 rfl ?_
                          refine z_getr2 X fX9_92 (zso_21 hS) (zsr_21_36 hS) rfl dX9_send_226 ?_
                          refine z_iload X dX9_send_229 rfl ?_
                          refine z_zaldN X (zsa_49 hS) (by omega) (by omega) dX9_send_231 ?_
                          rw [hW1.2.2.1]
                          refine z_if_ne (tgt := 240) X dX9_send_232 (by decide) (fun c_232 => ?_) (fun c_232 => ?_)
                          · skip
                            try simp (disch := omega) only [zb_notn, zb_not, zb_n0, zb_0, Bool.not_eq_false, Bool.not_eq_true, Bool.not_eq_true', Bool.not_eq_false', decide_eq_true_eq, decide_eq_false_iff_not, Classical.not_not] at c_232
                            refine z_iconst (v := nI 1) X (by decide) dX9_send_240 ?_
                            refine z_goto (tgt := 245) X dX9_send_241 (by decide) ?_
                            first
                            | rw [show (Value.int (nI 1) :: Value.int (nI nm) :: ([Value.ref (g.2.1 49)] : List Value)) = (Value.int (zb (zhc (s2 40) (k9 + 1))) :: Value.int (nI nm) :: ([Value.ref (g.2.1 49)] : List Value)) from by rw [show zhc (s2 40) (k9 + 1) = true from by show (zhc (s2 40) k9 || decide (0 ≤ s2 40 k9)) = true; first | (rw [c_232]; rfl) | rw [decide_eq_true (Int32.not_lt.mp c_209), Bool.or_true]]; rfl]
                            | rw [show (Value.int (nI 0) :: Value.int (nI nm) :: ([Value.ref (g.2.1 49)] : List Value)) = (Value.int (zb (zhc (s2 40) (k9 + 1))) :: Value.int (nI nm) :: ([Value.ref (g.2.1 49)] : List Value)) from by rw [show zhc (s2 40) (k9 + 1) = false from by show (zhc (s2 40) k9 || decide (0 ≤ s2 40 k9)) = false; rw [c_232, decide_eq_false (Int32.not_le.mpr c_209)]; rfl]; rfl]
                            refine z_zastN X (zsa_49 hS) (by omega) (by omega) (by first | exact Or.inl rfl | exact Or.inr rfl | exact zb_01 _ | assumption) dX9_send_245 ?_
                            refine z_aload_n X dX9_send_246 rfl ?_
                            refine z_getr2 X fX9_95 (zso_21 hS) (zsr_21_37 hS) rfl dX9_send_247 ?_
                            refine z_bipush (v := nI 24) X (by decide) dX9_send_250 ?_
                            refine z_iload X dX9_send_252 rfl ?_
                            refine z_imulN X dX9_send_254 ?_
                            refine z_iload X dX9_send_255 rfl ?_
                            refine z_iaddN X dX9_send_257 ?_
                            refine z_iload X dX9_send_258 rfl ?_
                            refine z_if_eq (tgt := 278) X dX9_send_260 (by decide) (fun c_260 => ?_) (fun c_260 => ?_)
                            · first | exact absurd c_260 (by decide) | exact absurd (by decide) c_260
                            · skip
                              obtain ⟨kx, hkx, ekx⟩ : ∃ kx, kx < ne ∧ s2 40 k9 = nI kx := by
                                rcases hPf.2.2.2.2.2.2 k9 (by omega) with ⟨q1, q2⟩ | ⟨q1, q2, q3⟩
                                · exfalso
                                  have hpl := hpl9 k9 (by omega)
                                  have hd30 := (hPo.2.2.1.2.2 _ hpl).2
                                  have hni30 := hPo.2.2.2.1.1
                                  have := zpl_neg (dd (L9.getD k9 (0, 0)).1) (by omega)
                                  rw [← q2] at this
                                  exact c_209 this
                                · rcases q2 with ⟨kx, z1, -, -, -, z5⟩ | ⟨-, z⟩
                                  · exact ⟨kx, z1, z5⟩
                                  · exact absurd z q3
                              refine z_aload_n X dX9_send_263 rfl ?_
                              refine z_aload_n X dX9_send_264 rfl ?_
                              refine z_getr2 X fX9_65 (zso_21 hS) (zsr_21_24 hS) rfl dX9_send_265 ?_
                              refine z_iload X dX9_send_268 rfl ?_
                              refine z_ialdN X (zsa_40 hS) (by omega) (by omega) dX9_send_270 ?_
                              rw [z_up_ne (by decide), e40, ekx]
                              refine z_iload_n X dX9_send_271 rfl ?_
                              refine z_runV X kX9_205 (tX9_sentAs (o := fm) kx hS (zPk_f hPo (fun i q1 q2 _ => by rw [z_up_ne (by omega)]; exact elow i q1 q2) (fun k hk => by rw [z_up_ne (by decide)]; exact elow2 k hk)) hkx) (zso_21 hS) rfl rfl (Nat.le_of_ble_eq_true rfl) ⟨by decide, by decide⟩ ⟨by decide, by decide⟩ dX9_send_272 ?_
                              rintro _ g1 s1 ⟨rfl, h8, h9⟩
                              replace h8 := h8.symm
                              subst h8
                              replace h9 := h9.symm
                              subst h9
                              rw [z_up_ne (by decide), e23]
                              have hne40 : ne ≤ 40 := hPo.1.2.1
                              have hwr : s2 23 ((kx + K2) % ne) = zwr (s2 40) (s2 23) K2 ne k9 := by unfold zwr; rw [if_neg c_209, ekx, zn_nI (by omega)]
                              refine z_goto (tgt := 285) X dX9_send_275 (by decide) ?_
                              first
                              | (rw [z_up_ne (by decide), e40]
                                 have hwr : s2 40 k9 = zwr (s2 40) (s2 23) K2 ne k9 := by unfold zwr; rw [if_pos c_209])
                              | skip
                              refine z_iastN X (zsa_50 hS) (by omega) (by omega) dX9_send_285 ?_
                              refine z_aload_n X dX9_send_286 rfl ?_
                              refine z_getr2 X fX9_98 (zso_21 hS) (zsr_21_38 hS) rfl dX9_send_287 ?_
                              refine z_bipush (v := nI 24) X (by decide) dX9_send_290 ?_
                              refine z_iload X dX9_send_292 rfl ?_
                              refine z_imulN X dX9_send_294 ?_
                              refine z_iload X dX9_send_295 rfl ?_
                              refine z_iaddN X dX9_send_297 ?_
                              refine z_aload_n X dX9_send_298 rfl ?_
                              refine z_getr2 X fX9_95 (zso_21 hS) (zsr_21_37 hS) rfl dX9_send_299 ?_
                              refine z_bipush (v := nI 24) X (by decide) dX9_send_302 ?_
                              refine z_iload X dX9_send_304 rfl ?_
                              refine z_imulN X dX9_send_306 ?_
                              refine z_iload X dX9_send_307 rfl ?_
                              refine z_iaddN X dX9_send_309 ?_
                              refine z_ialdN X (zsa_50 hS) (by omega) (by omega) dX9_send_310 ?_
                              rw [z_up_app, if_pos rfl, if_pos rfl]
                              refine z_iastN X (zsa_51 hS) (by omega) (by omega) dX9_send_311 ?_
                              refine z_inc1 X dX9_send_312 rfl (by decide) ?_
                              refine z_goto (tgt := 193) X dX9_send_315 (by decide) ?_
                              exact ih_193 (k9 + 1) _ _ (by omega) (zW1_s hW1 (by omega) hwr) (by omega)
                          · skip
                            try simp (disch := omega) only [zb_notn, zb_not, zb_n0, zb_0, Bool.not_eq_false, Bool.not_eq_true, Bool.not_eq_true', Bool.not_eq_false', decide_eq_true_eq, decide_eq_false_iff_not, Classical.not_not] at c_232
                            refine z_iload X dX9_send_235 rfl ?_
                            refine z_if_eq (tgt := 244) X dX9_send_237 (by decide) (fun c_237 => ?_) (fun c_237 => ?_)
                            · first | exact absurd c_237 (by decide) | exact absurd (by decide) c_237
                            · skip
                              refine z_iconst (v := nI 1) X (by decide) dX9_send_240 ?_
                              refine z_goto (tgt := 245) X dX9_send_241 (by decide) ?_
                              first
                              | rw [show (Value.int (nI 1) :: Value.int (nI nm) :: ([Value.ref (g.2.1 49)] : List Value)) = (Value.int (zb (zhc (s2 40) (k9 + 1))) :: Value.int (nI nm) :: ([Value.ref (g.2.1 49)] : List Value)) from by rw [show zhc (s2 40) (k9 + 1) = true from by show (zhc (s2 40) k9 || decide (0 ≤ s2 40 k9)) = true; first | (rw [c_232]; rfl) | rw [decide_eq_true (Int32.not_lt.mp c_209), Bool.or_true]]; rfl]
                              | rw [show (Value.int (nI 0) :: Value.int (nI nm) :: ([Value.ref (g.2.1 49)] : List Value)) = (Value.int (zb (zhc (s2 40) (k9 + 1))) :: Value.int (nI nm) :: ([Value.ref (g.2.1 49)] : List Value)) from by rw [show zhc (s2 40) (k9 + 1) = false from by show (zhc (s2 40) k9 || decide (0 ≤ s2 40 k9)) = false; rw [c_232, decide_eq_false (Int32.not_le.mpr c_209)]; rfl]; rfl]
                              refine z_zastN X (zsa_49 hS) (by omega) (by omega) (by first | exact Or.inl rfl | exact Or.inr rfl | exact zb_01 _ | assumption) dX9_send_245 ?_
                              refine z_aload_n X dX9_send_246 rfl ?_
                              refine z_getr2 X fX9_95 (zso_21 hS) (zsr_21_37 hS) rfl dX9_send_247 ?_
                              refine z_bipush (v := nI 24) X (by decide) dX9_send_250 ?_
                              refine z_iload X dX9_send_252 rfl ?_
                              refine z_imulN X dX9_send_254 ?_
                              refine z_iload X dX9_send_255 rfl ?_
                              refine z_iaddN X dX9_send_257 ?_
                              refine z_iload X dX9_send_258 rfl ?_
                              refine z_if_eq (tgt := 278) X dX9_send_260 (by decide) (fun c_260 => ?_) (fun c_260 => ?_)
                              · first | exact absurd c_260 (by decide) | exact absurd (by decide) c_260
                              · skip
                                obtain ⟨kx, hkx, ekx⟩ : ∃ kx, kx < ne ∧ s2 40 k9 = nI kx := by
                                  rcases hPf.2.2.2.2.2.2 k9 (by omega) with ⟨q1, q2⟩ | ⟨q1, q2, q3⟩
                                  · exfalso
                                    have hpl := hpl9 k9 (by omega)
                                    have hd30 := (hPo.2.2.1.2.2 _ hpl).2
                                    have hni30 := hPo.2.2.2.1.1
                                    have := zpl_neg (dd (L9.getD k9 (0, 0)).1) (by omega)
                                    rw [← q2] at this
                                    exact c_209 this
                                  · rcases q2 with ⟨kx, z1, -, -, -, z5⟩ | ⟨-, z⟩
                                    · exact ⟨kx, z1, z5⟩
                                    · exact absurd z q3
                                refine z_aload_n X dX9_send_263 rfl ?_
                                refine z_aload_n X dX9_send_264 rfl ?_
                                refine z_getr2 X fX9_65 (zso_21 hS) (zsr_21_24 hS) rfl dX9_send_265 ?_
                                refine z_iload X dX9_send_268 rfl ?_
                                refine z_ialdN X (zsa_40 hS) (by omega) (by omega) dX9_send_270 ?_
                                rw [z_up_ne (by decide), e40, ekx]
                                refine z_iload_n X dX9_send_271 rfl ?_
                                refine z_runV X kX9_205 (tX9_sentAs (o := fm) kx hS (zPk_f hPo (fun i q1 q2 _ => by rw [z_up_ne (by omega)]; exact elow i q1 q2) (fun k hk => by rw [z_up_ne (by decide)]; exact elow2 k hk)) hkx) (zso_21 hS) rfl rfl (Nat.le_of_ble_eq_true rfl) ⟨by decide, by decide⟩ ⟨by decide, by decide⟩ dX9_send_272 ?_
                                rintro _ g1 s1 ⟨rfl, h8, h9⟩
                                replace h8 := h8.symm
                                subst h8
                                replace h9 := h9.symm
                                subst h9
                                rw [z_up_ne (by decide), e23]
                                have hne40 : ne ≤ 40 := hPo.1.2.1
                                have hwr : s2 23 ((kx + K2) % ne) = zwr (s2 40) (s2 23) K2 ne k9 := by unfold zwr; rw [if_neg c_209, ekx, zn_nI (by omega)]
                                refine z_goto (tgt := 285) X dX9_send_275 (by decide) ?_
                                first
                                | (rw [z_up_ne (by decide), e40]
                                   have hwr : s2 40 k9 = zwr (s2 40) (s2 23) K2 ne k9 := by unfold zwr; rw [if_pos c_209])
                                | skip
                                refine z_iastN X (zsa_50 hS) (by omega) (by omega) dX9_send_285 ?_
                                refine z_aload_n X dX9_send_286 rfl ?_
                                refine z_getr2 X fX9_98 (zso_21 hS) (zsr_21_38 hS) rfl dX9_send_287 ?_
                                refine z_bipush (v := nI 24) X (by decide) dX9_send_290 ?_
                                refine z_iload X dX9_send_292 rfl ?_
                                refine z_imulN X dX9_send_294 ?_
                                refine z_iload X dX9_send_295 rfl ?_
                                refine z_iaddN X dX9_send_297 ?_
                                refine z_aload_n X dX9_send_298 rfl ?_
                                refine z_getr2 X fX9_95 (zso_21 hS) (zsr_21_37 hS) rfl dX9_send_299 ?_
                                refine z_bipush (v := nI 24) X (by decide) dX9_send_302 ?_
                                refine z_iload X dX9_send_304 rfl ?_
                                refine z_imulN X dX9_send_306 ?_
                                refine z_iload X dX9_send_307 rfl ?_
                                refine z_iaddN X dX9_send_309 ?_
                                refine z_ialdN X (zsa_50 hS) (by omega) (by omega) dX9_send_310 ?_
                                rw [z_up_app, if_pos rfl, if_pos rfl]
                                refine z_iastN X (zsa_51 hS) (by omega) (by omega) dX9_send_311 ?_
                                refine z_inc1 X dX9_send_312 rfl (by decide) ?_
                                refine z_goto (tgt := 193) X dX9_send_315 (by decide) ?_
                                exact ih_193 (k9 + 1) _ _ (by omega) (zW1_s hW1 (by omega) hwr) (by omega)
                  refine z_iconst (v := nI 0) X (by decide) dX9_send_190 ?_
                  refine z_istore X dX9_send_191 (by decide) ?_
                  exact loop_193 (L9.length - 0 + 1) 0 _ s3 (Nat.zero_le _) ⟨fun _ _ _ _ => rfl, fun _ _ => rfl, h349, fun _ _ => ⟨rfl, rfl⟩, fun i hi => absurd hi (Nat.not_lt_zero _)⟩ (by omega)
                · skip
                  try simp (disch := omega) only [zb_notn, zb_not, zb_n0, zb_0, Bool.not_eq_false, Bool.not_eq_true, Bool.not_eq_true', Bool.not_eq_false', decide_eq_true_eq, decide_eq_false_iff_not, Classical.not_not] at c_72
                  refine z_aload_n X dX9_send_75 rfl ?_
                  refine z_iconst (v := 3) X (by decide) dX9_send_76 ?_
                  refine z_runV X kX9_154 (tX9_fails _ hS) (zso_21 hS) rfl rfl (Nat.le_of_ble_eq_true rfl) ⟨by decide, by decide⟩ ⟨by decide, by decide⟩ dX9_send_77 ?_
                  rintro _ g1 s1 ⟨rfl, h8, h9⟩
                  replace h8 := h8.symm
                  subst h8
                  replace h9 := h9.symm
                  subst h9
                  refine z_iret X (by decide) (by decide) rfl dX9_send_80 ?_
                  have hz : zx_send no nd nm (zrs ad ot rt br nc (zd0 1000000 (zn (nI to))) 8 (zn (nI fm)) < 1000000) (nI fm) (nI to) xk = 3 := by unfold zx_send; rw [if_neg (fun q => q ⟨c_6, c_14⟩), if_neg (fun q => by rcases q with q | q; exact c_32 q; exact c_41 q), zn_nI (show fm < 2 ^ 31 by omega), zn_nI (show to < 2 ^ 31 by omega), zif_t (by first | exact Or.inl c_54 | exact Or.inr (Or.inl c_63) | exact Or.inr (Or.inr (fun q => by rw [hbi.mpr q] at c_72; exact absurd c_72 (by decide))))]
                  exact ⟨rfl, _, rfl, Or.inl ⟨by rw [hz]; decide, by rw [hz, z_up_app, if_pos rfl, if_pos rfl]; rfl, fun i q1 q2 q3 => by rw [z_up_ne q1]; first | exact eτ i q1 | exact (hr1 i q1 q2 q3).trans (eτ i q1), fun k q1 q2 => by rw [z_up_app, if_pos rfl, if_neg q2]; first | exact eτ1 k q2 | exact (hr21 k q1).trans (eτ1 k q2)⟩⟩
          · skip
            try simp (disch := omega) only [zb_notn, zb_not, zb_n0, zb_0, Bool.not_eq_false, Bool.not_eq_true, Bool.not_eq_true', Bool.not_eq_false', decide_eq_true_eq, decide_eq_false_iff_not, Classical.not_not] at c_41
            refine z_aload_n X dX9_send_44 rfl ?_
            refine z_iconst (v := 2) X (by decide) dX9_send_45 ?_
            refine z_runV X kX9_154 (tX9_fails _ hS) (zso_21 hS) rfl rfl (Nat.le_of_ble_eq_true rfl) ⟨by decide, by decide⟩ ⟨by decide, by decide⟩ dX9_send_46 ?_
            rintro _ g1 s1 ⟨rfl, h8, h9⟩
            replace h8 := h8.symm
            subst h8
            replace h9 := h9.symm
            subst h9
            refine z_iret X (by decide) (by decide) rfl dX9_send_49 ?_
            have hz : zx_send no nd nm (zrs ad ot rt br nc (zd0 1000000 (zn (nI to))) 8 (zn (nI fm)) < 1000000) (nI fm) (nI to) xk = 2 := by unfold zx_send; rw [if_neg (fun q => q ⟨c_6, c_14⟩), if_pos (by first | exact Or.inl c_32 | exact Or.inr c_41)]
            exact ⟨rfl, _, rfl, Or.inl ⟨by rw [hz]; decide, by rw [hz, z_up_app, if_pos rfl, if_pos rfl]; rfl, fun i q1 q2 q3 => by rw [z_up_ne q1]; first | exact eτ i q1 | exact (hr1 i q1 q2 q3).trans (eτ i q1), fun k q1 q2 => by rw [z_up_app, if_pos rfl, if_neg q2]; first | exact eτ1 k q2 | exact (hr21 k q1).trans (eτ1 k q2)⟩⟩
      · first | exact absurd c_25 (by decide) | exact absurd (by decide) c_25
