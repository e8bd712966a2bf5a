/-! send: the world goes with the state; a minute and minutes -/
theorem zcome_at {g : zSh} {σ : zIn} {m o lg k : Nat} {hc fb : Bool} : zcome g σ m o hc fb lg (200 + m) k = if k = 10 then nI o else if k = 12 then σ (200 + m) 3 else if k = 9 then (if hc && fb then 2 else if g.2.2.2.1 (500 + m) ≤ lg then 1 else σ (200 + m) 9) else σ (200 + m) k := by
  unfold zcome
  by_cases q : (hc && fb) = true
  · rw [if_pos q, if_pos q]
    simp only [z_up_app, if_pos]
    by_cases k9 : k = 9
    · subst k9; simp
    · rw [if_neg k9]
      by_cases k12 : k = 12
      · subst k12; simp
      · rw [if_neg k12, if_neg k12]
        by_cases k10 : k = 10
        · simp [k10]
        · simp [k10, k9]
  · rw [if_neg q, if_neg q]
    by_cases r : g.2.2.2.1 (500 + m) ≤ lg
    · rw [if_pos r, if_pos r]
      simp only [z_up_app, if_pos]
      by_cases k9 : k = 9
      · subst k9; simp
      · rw [if_neg k9]
        by_cases k12 : k = 12
        · subst k12; simp
        · rw [if_neg k12, if_neg k12]
          by_cases k10 : k = 10
          · simp [k10]
          · simp [k10, k9]
    · rw [if_neg r, if_neg r]
      simp only [z_up_app, if_pos]
      by_cases k12 : k = 12
      · subst k12; simp
      · rw [if_neg k12, if_neg k12]
        by_cases k10 : k = 10
        · simp [k10]
        · rw [if_neg k10, if_neg k10]
          by_cases k9 : k = 9
          · simp [k9]
          · rw [if_neg k9]
theorem inP_s {n : Nat → Nat} {w v i k : Nat} (h6 : n 6 ≤ 60) (q1 : i ≠ 200 + n 6) (q2 : i ≠ 300 + n 6) (q3 : i ≠ 400 + n 6) (q4 : i ≠ 500 + n 6) (hp : inP (zSn n w v) i k) : inP n i k := by
  unfold inP at hp ⊢
  rw [zSn_3, zSn_o (i := 4) (by decide) (by decide) (by decide), zSn_o (i := 5) (by decide) (by decide) (by decide), zSn_6] at hp
  refine hp.imp id (Or.imp id (Or.imp id (Or.imp id (Or.imp id (Or.imp id (Or.imp id (Or.imp id (Or.imp id (Or.imp id (Or.imp id (Or.imp id (Or.imp id (Or.imp ?_ (Or.imp ?_ (Or.imp ?_ ?_)))))))))))))))
  · rintro ⟨a, b, c⟩; exact ⟨a, by omega, c⟩
  · rintro ⟨a, b, c⟩
    rw [zSn_wo (by omega) h6] at c
    exact ⟨a, by omega, c⟩
  · rintro ⟨a, b, c⟩
    rw [zSn_wo (by omega) h6] at c
    exact ⟨a, by omega, c⟩
  · rintro ⟨a, b, c⟩
    rw [zSn_lo (by omega) h6] at c
    exact ⟨a, by omega, c⟩
theorem zst_send {g : zSh} {σ κ s1 s2 s4 s5 : zIn} {n : Nat → Nat} {fm to paid many pl cd vw a4 b4 c4 d4 : Nat} {xk : Int32} {l : List Nat} {L : List (Nat × Nat)} {b : Bool} {cdw : Nat → Nat → Int32} {W : Nat → Int32} (h : zSt g σ κ n) (hnd : 0 < n 2) (hm : n 6 < 60) (hfm : fm < n 3) (hto : to < n 3) (hk : xk = nI (zn xk) ∧ zn xk ≤ 2) (hl1 : 1 ≤ l.length) (hl2 : l.length < 8)
    (hR : zfR σ s1) (hr17 : ∀ i, i < l.length → s1 17 i = nI (l.getD i 0) ∧ l.getD i 0 < n 4) (hF : zFil s1 s2 (n 1) (n 0) (n 2) (zf κ 3) (zf κ 12) pl cd vw (zky κ fm) b cdw paid many L) (hWd : zWd κ n fm b paid many L W) (hWe : ∀ k, k < L.length → s2 10 k = W k)
    (hM : zMn (z_zero s2 (200 + n 6)) s4 (n 6) (nI fm) (nI to) xk many L.length l.length (zsum (fun i => zrt κ (l.getD i 0)) l.length)) (h3 : zF3 (z_up (z_up s4 1 8 (nI (n 6 + 1))) 11 1 (nI 0)) s5)
    (hac : ∀ o, o < n 3 → s5 (100 + o) 3 = (if fm = o then (z_up (z_up s4 1 8 (nI (n 6 + 1))) 11 1 (nI 0)) (100 + o) 3 - (z_up (z_up s4 1 8 (nI (n 6 + 1))) 11 1 (nI 0)) (200 + n 6) 4 else (z_up (z_up s4 1 8 (nI (n 6 + 1))) 11 1 (nI 0)) (100 + o) 3) + zgot (z_up (z_up s4 1 8 (nI (n 6 + 1))) 11 1 (nI 0)) (zad κ) (fun i => l.getD i 0) (n 6) o l.length) :
    zSt (zSh5 g (n 6) a4 b4 c4 d4 L.length l.length) (zcome (zSh5 g (n 6) a4 b4 c4 d4 L.length l.length) s5 (n 6) fm (decide (0 < many)) (zfb κ fm) 0) (zSd κ n fm to xk paid many W l) (zSn n L.length l.length) := by
  have hn4 : n 4 ≤ 12 := h.B.1.2.2.2
  have hn3 : n 3 ≤ 8 := h.B.1.2.1
  have hn5 : n 5 ≤ 12 := h.K.1.2.1
  have hn6 : n 6 ≤ 60 := h.M.1.2
  have hn2 : n 2 ≤ 24 := h.A.2.2.2.1
  obtain ⟨hsp, hw3, hw5, hwo⟩ := zSP_send (a := a4) (b := b4) (c := c4) (d := d4) (W := L.length) (RL := l.length) h.1 hm
  obtain ⟨-, -, w3, w4, w5, w6, -⟩ := zWd_ok h hWd
  obtain ⟨w1, w2⟩ := w3 hnd
  obtain ⟨f1, f2, f3, f4, f5, f6, f7, f8, f9, f10, f11⟩ := hF
  obtain ⟨m0, m1, m2, m3, m4, m5, m6, m7, m8, m9, m10, m11, m12⟩ := hM
  have e2 : ∀ i, i ≠ 7 → i ≠ 8 → i ≠ 9 → i ≠ 10 → i ≠ 13 → i ≠ 16 → i ≠ 17 → s2 i = σ i := fun i q1 q2 q3 q4 q5 q6 q7 => by rw [f1 i q1 q2 q3 q4, hR.1 i q5 q6 q7]
  have e13 : ∀ k, k ≠ 6 → s2 13 k = σ 13 k := fun k q => by rw [f1 13 (by decide) (by decide) (by decide) (by decide), hR.2 k q]
  have e4 : ∀ i, i ≠ 200 + n 6 → i ≠ 300 + n 6 → i ≠ 400 + n 6 → i ≠ 500 + n 6 → s4 i = s2 i := fun i q1 q2 q3 q4 => by rw [m0 i q1 q2 q3 q4, z_zero_ne q1]
  have z7 : (z_zero s2 (200 + n 6)) 7 6 = nI paid := by rw [z_zero_ne (by omega)]; exact f7
  have hlen : (zSh5 g (n 6) a4 b4 c4 d4 L.length l.length).2.2.2.1 (500 + n 6) = l.length := hw5
  have e5 : ∀ i, ¬ (100 ≤ i ∧ i < 108) → i ≠ 1 → i ≠ 11 → s5 i = s4 i := fun i q1 q2 q3 => by
    funext k
    rw [h3 i k (by omega), z_up_ne q3, z_up_ne q2]
  refine ⟨?_, fun m hm2 => ?_, fun i k hp => ?_, ?_⟩
  · rw [zSn_3, zSn_o (by decide) (by decide) (by decide), zSn_o (by decide) (by decide) (by decide), zSn_6]; exact hsp
  · rw [zSn_6] at hm2
    by_cases q : m = n 6
    · subst q; rw [zSn_w, zSn_l]; exact ⟨hw3, hw5⟩
    · rw [zSn_wo (by omega) hn6, zSn_lo (by omega) hn6]
      have := hwo m (by omega)
      have := h.2.1 m (by omega)
      omega
  · have hp2 := hp
    unfold inP at hp2
    rw [zSn_3, zSn_o (i := 4) (by decide) (by decide) (by decide), zSn_o (i := 5) (by decide) (by decide) (by decide), zSn_6] at hp2
    by_cases q1 : i = 200 + n 6
    · subst q1
      rw [zSd_m, zcome_at, e5 _ (by omega) (by omega) (by omega)]
      have hk2 : k = 0 ∨ k = 1 ∨ k = 2 ∨ k = 3 ∨ k = 4 ∨ k = 5 ∨ k = 9 ∨ k = 10 ∨ k = 11 ∨ k = 12 := by omega
      rcases hk2 with rfl | rfl | rfl | rfl | rfl | rfl | rfl | rfl | rfl | rfl
      · exact m1
      · exact m2
      · exact m3
      · exact m4.trans z7
      · refine m5.trans ?_
        rw [z7]; rfl
      · exact m6
      · show (if _ then (2 : Int32) else if _ ≤ 0 then 1 else s4 (200 + n 6) 9) = if _ then 2 else 0
        rw [hlen, if_neg (show ¬ l.length ≤ 0 by omega), m7]
      · rfl
      · exact m9
      · exact m4.trans z7
    by_cases q2 : i = 300 + n 6
    · subst q2
      have hk2 : k < L.length := by
        rw [show 300 + n 6 - 300 = n 6 by omega, zSn_w] at hp2
        omega
      rw [zSd_w3, zcome_ne (by omega), e5 _ (by omega) (by omega) (by omega), (m11 k hk2).1, z_zero_ne (by omega)]; exact hWe k hk2
    by_cases q3 : i = 400 + n 6
    · subst q3
      have hk2 : k < L.length := by
        rw [show 400 + n 6 - 400 = n 6 by omega, zSn_w] at hp2
        omega
      rw [zSd_w4, zcome_ne (by omega), e5 _ (by omega) (by omega) (by omega), (m11 k hk2).2, z_zero_ne (by omega)]; exact hWe k hk2
    by_cases q4 : i = 500 + n 6
    · subst q4
      have hk2 : k < l.length := by
        rw [show 500 + n 6 - 500 = n 6 by omega, zSn_l] at hp2
        omega
      rw [zSd_r, zcome_ne (by omega), e5 _ (by omega) (by omega) (by omega), m12 k hk2, z_zero_ne (by omega), f1 17 (by decide) (by decide) (by decide) (by decide), (hr17 k hk2).1]
    rw [zcome_ne q1]
    have hold : ¬ (i = 1 ∧ k = 8) → ¬ (i = 11 ∧ k = 1) → ¬ (100 ≤ i ∧ i < 108 ∧ k = 3) → inP n i k := fun _ _ _ => inP_s hn6 q1 q2 q3 q4 hp
    by_cases c1 : i = 1
    · subst c1
      rw [zSd_1, h3 1 k (by omega), z_up_ne (by decide), z_up_app, if_pos rfl]
      by_cases r : k = 8
      · rw [if_pos r, if_pos r]
      · rw [if_neg r, if_neg r, e4 1 (by omega) (by omega) (by omega) (by omega), e2 1 (by decide) (by decide) (by decide) (by decide) (by decide) (by decide) (by decide)]
        exact h.at (hold (by omega) (by omega) (by omega))
    by_cases c11 : i = 11
    · subst c11
      rw [zSd_11, h3 11 k (by omega), z_up_app, if_pos rfl]
      have : k = 1 := by omega
      rw [if_pos this, if_pos this]
    by_cases c100 : 100 ≤ i ∧ i < 108
    · obtain ⟨o, rfl⟩ : ∃ o, i = 100 + o := ⟨i - 100, by omega⟩
      have eo : ∀ k, s4 (100 + o) k = σ (100 + o) k := fun k => by rw [e4 _ (by omega) (by omega) (by omega) (by omega), e2 _ (by omega) (by omega) (by omega) (by omega) (by omega) (by omega) (by omega)]
      rw [zSd_a (by omega)]
      by_cases r : k = 3
      · subst r
        have ho : o < n 3 := by omega
        rw [if_pos rfl, hac o ho, z_up_ne (by omega), z_up_ne (by omega), eo 3, z_up_ne (show 200 + n 6 ≠ 11 by omega), z_up_ne (show 200 + n 6 ≠ 1 by omega), m5, z7, h.at (show inP n (100 + o) 3 by unfold inP; omega)]
        unfold zac zprice
        congr 1
        refine zis_cg (fun i hi => ?_)
        have hc := (hr17 i hi).2
        have ec : s4 (120 + l.getD i 0) 2 = nI (zrt κ (l.getD i 0)) := by
          rw [e4 _ (by omega) (by omega) (by omega) (by omega), e2 _ (by omega) (by omega) (by omega) (by omega) (by omega) (by omega) (by omega)]
          exact (h.cb _ hc).2.2.2.2.2.1
        unfold zpart zpr
        rw [z_up_ne (show 120 + l.getD i 0 ≠ 11 by omega), z_up_ne (show 120 + l.getD i 0 ≠ 1 by omega), z_up_ne (show 200 + n 6 ≠ 11 by omega), z_up_ne (show 200 + n 6 ≠ 1 by omega), ec, m4, z7, m3]
      · rw [if_neg r, h3 _ k (by omega), z_up_ne (by omega), z_up_ne (by omega), eo k]
        exact h.at (hold (by omega) (by omega) (by omega))
    · rw [zSd_o q1 q2 q3 q4 c1 c11 c100, e5 i c100 c1 c11, e4 i q1 q2 q3 q4]
      by_cases c13 : i = 13
      · subst c13
        rw [e13 k (by omega)]
        exact h.at (hold (by omega) (by omega) (by omega))
      · rw [e2 i (by omega) (by omega) (by omega) (by omega) c13 (by omega) (by omega)]
        exact h.at (hold (by omega) (by omega) (by omega))
  · refine zIv_send h.2.2.2 hm hfm hto hk w1 w5 w2 (by omega) (fun i hi => ?_) hl1 hl2 (fun i hi => (hr17 i hi).2)
    rcases w6 i hi with r | ⟨p, r1, r2⟩
    · exact Or.inl r.1
    · rw [r2]
      obtain ⟨a, b, c1, c2, c3⟩ := h.A
      exact Or.inr (zplain_neg _ (by have := (c3 p r1).2; have := a.2.1; omega)).1
/-! minutes -/
theorem zcn_0 {st lg : Nat → Nat} {ro : Nat → Nat → Nat} {m : Nat} (h : st m ≠ 0) : ¬ zcb st lg ro m < 12 := by
  unfold zcb; rw [if_neg h]; decide
theorem zmx_id {f2 f : Nat → Nat} {m : Nat} (h : ∀ j, j < m → f2 j = f j) : zmx f2 f m = f := by
  funext j
  unfold zmx
  by_cases q : j < m
  · rw [if_pos q]; exact h j q
  · rw [if_neg q]
/-- those behind the last are not touched -/
theorem zcy_hi {kd cb : Nat → Nat} {kind i : Nat} {s : (Nat → Nat) × (Nat → Nat)} : ∀ n, n ≤ i → (zcy kd cb kind n s).1 i = s.1 i
  | 0, _ => rfl
  | n + 1, hn => by
    have h := zcy_hi (kd := kd) (cb := cb) (kind := kind) (i := i) (s := s) n (by omega)
    show (if kd n = kind then zcs cb n (zcy kd cb kind n s) else zcy kd cb kind n s).1 i = _
    split
    · unfold zcs
      split
      · show zud _ n _ i = _
        rw [zud_ne (by omega)]; exact h
      · exact h
    · exact h
theorem zcj_hi {kd cb : Nat → Nat} {n i : Nat} {s : (Nat → Nat) × (Nat → Nat)} (hn : n ≤ i) : ∀ j, (zcj kd cb n s j).1 i = s.1 i
  | 0 => rfl
  | j + 1 => (zcy_hi n hn).trans (zcj_hi hn j)
theorem zmi1_stop {g : zSh} {nm : Nat} {kd pd : Nat → Nat} {ro : Nat → Nat → Nat} {ca co sp : Nat → Nat} {br hc fb : Nat → Bool} {q : (Nat → Nat) × (Nat → Nat) × (Nat → Nat) × (Nat → Nat)} (h : ∀ m, m < nm → q.1 m ≠ 0) : zmi1 g nm kd pd ro ca co sp br hc fb q = q := by
  obtain ⟨q1, q2, q3, q4⟩ := q
  have hv : ∀ lf m, m < nm → zmv (zcb q1 q3 ro) lf m = false := fun lf m hm => decide_eq_false (fun r => zcn_0 (h m hm) r.1)
  unfold zmi1
  dsimp only
  refine Prod.ext ?_ (Prod.ext ?_ (Prod.ext ?_ ?_))
  · exact zmx_id (fun j hj => by unfold zst2; rw [hv _ j hj, if_neg Bool.false_ne_true])
  · exact zmx_id (fun j hj => by unfold zia2; rw [hv _ j hj, if_neg Bool.false_ne_true])
  · exact zmx_id (fun j hj => by unfold zlg2; rw [hv _ j hj, if_neg Bool.false_ne_true])
  · show zmx (zlf2 pd (zcb q1 q3 ro) _) _ nm = q4
    funext j
    unfold zmx
    by_cases r : j < nm
    · rw [if_pos r]
      unfold zlf2
      rw [hv _ j r, if_neg Bool.false_ne_true]
      exact (zcj_w 3).2 (zcn_0 (h j r))
    · rw [if_neg r]
      exact zcj_hi (by omega) 3
theorem zmn_stop {f : (Nat → Nat) × (Nat → Nat) × (Nat → Nat) × (Nat → Nat) → (Nat → Nat) × (Nat → Nat) × (Nat → Nat) × (Nat → Nat)} {q : (Nat → Nat) × (Nat → Nat) × (Nat → Nat) × (Nat → Nat)} {k : Nat} (h : f (zmn f q k) = zmn f q k) : ∀ d, zmn f q (k + d) = zmn f q k
  | 0 => rfl
  | d + 1 => by
    show f (zmn f q (k + d)) = _
    rw [zmn_stop h d]; exact h
theorem zmi1_g {g g2 : zSh} {nm : Nat} {kd pd : Nat → Nat} {ro : Nat → Nat → Nat} {ca co sp : Nat → Nat} {br hc fb : Nat → Bool} (e : ∀ m, m < nm → g.2.2.2.1 (500 + m) = g2.2.2.2.1 (500 + m)) : zmi1 g nm kd pd ro ca co sp br hc fb = zmi1 g2 nm kd pd ro ca co sp br hc fb := by
  funext q
  unfold zmi1
  refine Prod.ext ?_ rfl
  funext j
  show zmx _ _ nm j = zmx _ _ nm j
  unfold zmx
  by_cases r : j < nm
  · rw [if_pos r, if_pos r]
    unfold zst2
    rw [e j r]
  · rw [if_neg r, if_neg r]
/-- a shape that tells the lengths of the ways alone -/
def zgk (n : Nat → Nat) : zSh := ([], fun _ => 0, fun _ => 0, fun i => n (i - 300), fun _ _ => 0)
/-- the messages after j minutes -/
def zQ (κ : zIn) (n : Nat → Nat) (j : Nat) : (Nat → Nat) × (Nat → Nat) × (Nat → Nat) × (Nat → Nat) :=
  zmn (zmi1 (zgk n) (n 6) (zkd κ) (zpd κ) (zro κ) (zad κ) (zot κ) (zsp κ) (zbr κ) (zhc κ) (zfb κ)) (zst κ, zia κ, zlg κ, zlf κ) j
def zPs (κ : zIn) (n : Nat → Nat) (j : Nat) : zIn := fun i k =>
  if 200 ≤ i ∧ i < 200 + n 6 ∧ 9 ≤ k ∧ k ≤ 12 then (if k = 9 then nI ((zQ κ n j).1 (i - 200)) else if k = 10 then nI ((zQ κ n j).2.1 (i - 200)) else if k = 11 then nI ((zQ κ n j).2.2.1 (i - 200)) else nI ((zQ κ n j).2.2.2 (i - 200))) else if i = 1 ∧ k = 9 then nI (n 7 + j) else κ i k
theorem zPs_o {κ : zIn} {n : Nat → Nat} {j i k : Nat} (h : ¬ (200 ≤ i ∧ i < 200 + n 6 ∧ 9 ≤ k ∧ k ≤ 12)) (h2 : ¬ (i = 1 ∧ k = 9)) : zPs κ n j i k = κ i k := by
  unfold zPs; rw [if_neg h, if_neg h2]
theorem zPs_m {κ : zIn} {n : Nat → Nat} {j m k : Nat} (h : m < n 6) (h2 : 9 ≤ k ∧ k ≤ 12) : zPs κ n j (200 + m) k = (if k = 9 then nI ((zQ κ n j).1 m) else if k = 10 then nI ((zQ κ n j).2.1 m) else if k = 11 then nI ((zQ κ n j).2.2.1 m) else nI ((zQ κ n j).2.2.2 m)) := by
  unfold zPs; rw [if_pos (by omega), show 200 + m - 200 = m by omega]
theorem zst_pass {g : zSh} {σ κ τ : zIn} {n : Nat → Nat} {j k : Nat} (h : zSt g σ κ n) (hj : n 7 + j ≤ 1000000) (hk : k ≤ j) (hF : zFM σ τ) (hQ : zMq g τ (n 6) (n 3) (zmn (zmi1 g (n 6) (zkd κ) (zpd κ) (zro κ) (zad κ) (zot κ) (zsp κ) (zbr κ) (zhc κ) (zfb κ)) (zst κ, zia κ, zlg κ, zlf κ) k))
    (hs : k < j → ∀ m, m < n 6 → τ (200 + m) 9 ≠ 0) : zSt g (z_up τ 1 9 (nI (n 7 + j))) (zPs κ n j) (zud n 7 (n 7 + j)) ∧ zMq (zgk n) τ (n 6) (n 3) (zQ κ n j) := by
  have hn4 : n 4 ≤ 12 := h.B.1.2.2.2
  have hn3 : n 3 ≤ 8 := h.B.1.2.1
  have hn5 : n 5 ≤ 12 := h.K.1.2.1
  have hn6 : n 6 ≤ 60 := h.M.1.2
  have el : ∀ m, m < n 6 → g.2.2.2.1 (500 + m) = (zgk n).2.2.2.1 (500 + m) := fun m hm => by
    show _ = n (500 + m - 300)
    rw [show 500 + m - 300 = 200 + m by omega]; exact (h.2.1 m hm).2
  rw [zmi1_g el] at hQ
  have eQ : zQ κ n j = zmn (zmi1 (zgk n) (n 6) (zkd κ) (zpd κ) (zro κ) (zad κ) (zot κ) (zsp κ) (zbr κ) (zhc κ) (zfb κ)) (zst κ, zia κ, zlg κ, zlf κ) k := by
    unfold zQ
    rcases Nat.lt_or_ge k j with q | q
    · have := zmn_stop (f := zmi1 (zgk n) (n 6) (zkd κ) (zpd κ) (zro κ) (zad κ) (zot κ) (zsp κ) (zbr κ) (zhc κ) (zfb κ)) (q := (zst κ, zia κ, zlg κ, zlf κ)) (k := k) (zmi1_stop (fun m hm => ?_)) (j - k)
      · rw [show k + (j - k) = j by omega] at this; exact this
      · intro e
        have h1 := (hQ m hm).1
        rw [e] at h1
        exact hs q m hm h1.1
    · rw [show j = k by omega]
  rw [← eQ] at hQ
  have hQ2 : zMq (zgk n) τ (n 6) (n 3) (zQ κ n j) := fun m hm => by
    have := hQ m hm
    rw [el m hm] at this
    exact this
  refine ⟨zSt_same h (zud_ne (by decide)) (zud_ne (by decide)) (zud_ne (by decide)) (zud_ne (by decide)) (fun m => ⟨zud_ne (by omega), zud_ne (by omega)⟩) (fun i a hp => ?_) ⟨?_, ?_, ?_, ?_, ?_⟩, hQ2⟩
  · by_cases c1 : i = 1 ∧ a = 9
    · obtain ⟨rfl, rfl⟩ := c1
      rw [z_up_app, if_pos rfl, if_pos rfl]
      unfold zPs
      rw [if_neg (by omega), if_pos ⟨rfl, rfl⟩]
    · have e : z_up τ 1 9 (nI (n 7 + j)) i a = τ i a := by
        by_cases q : i = 1
        · subst q; rw [z_up_app, if_pos rfl, if_neg (by omega)]
        · rw [z_up_ne q]
      rw [e]
      by_cases c2 : 200 ≤ i ∧ i < 200 + n 6 ∧ 9 ≤ a ∧ a ≤ 12
      · obtain ⟨m, rfl⟩ : ∃ m, i = 200 + m := ⟨i - 200, by omega⟩
        obtain ⟨⟨q1, -⟩, ⟨q2, -⟩, ⟨q3, -⟩, q4, -⟩ := hQ m (by omega)
        rw [zPs_m (by omega) (by omega)]
        rcases (show a = 9 ∨ a = 10 ∨ a = 11 ∨ a = 12 by omega) with rfl | rfl | rfl | rfl
        · exact q1
        · exact q2
        · exact q3
        · exact q4
      · rw [zPs_o c2 c1, hF i a (by unfold inP at hp; omega) (by unfold inP at hp; omega)]
        exact h.at hp
  · rw [zud_ne (show ¬ 0 = 7 by decide), zud_ne (show ¬ 1 = 7 by decide), zud_ne (show ¬ 2 = 7 by decide)]
    exact zIA_e (fun i k hq => by unfold inA at hq; exact zPs_o (by omega) (by omega)) h.A
  · rw [zud_ne (show ¬ 3 = 7 by decide), zud_ne (show ¬ 4 = 7 by decide)]
    exact zIB_e (fun i k hq => by unfold inB at hq; exact zPs_o (by omega) (by omega)) h.B
  · rw [zud_ne (show ¬ 5 = 7 by decide), zud_eq]
    refine zIC_minute h.K hj ?_ (fun i k hq => ?_)
    · unfold zPs; rw [if_neg (by omega), if_pos ⟨rfl, rfl⟩]
    · obtain ⟨hq, hq2⟩ := hq
      unfold inC at hq
      exact zPs_o (by omega) (by omega)
  · refine zIM_n (n := n) (Nat.le_of_eq (zud_ne (show ¬ 3 = 7 by decide)).symm) (Nat.le_of_eq (zud_ne (show ¬ 4 = 7 by decide)).symm) (zud_ne (show ¬ 6 = 7 by decide)) (fun m _ => ⟨zud_ne (by omega), zud_ne (by omega)⟩) ?_
    obtain ⟨⟨a1, a2⟩, b⟩ := h.M
    refine ⟨⟨by rw [zPs_o (by omega) (by omega)]; exact a1, a2⟩, fun m hm => ?_⟩
    obtain ⟨b1, b2, b3, b4⟩ := b m hm
    refine ⟨zIm_e (fun k hk => zPs_o (by omega) (by omega)) b1, zIr_e (zPs_o (by omega) (by omega)) (zPs_o (by omega) (by omega)) (zPs_o (by omega) (by omega)) (fun k _ => zPs_o (by omega) (by omega)) (fun c hc => zPs_o (by omega) (by omega)) b2, zIw_e (fun k _ => zPs_o (by omega) (by omega)) (fun k _ => zPs_o (by omega) (by omega)) b3, ?_⟩
    obtain ⟨⟨q1, p1⟩, ⟨q2, p2⟩, ⟨q3, p3, p33⟩, q4, p4⟩ := hQ2 m hm
    have e5 : (zgk n).2.2.2.1 (500 + m) = n (200 + m) := by
      show n (500 + m - 300) = _
      rw [show 500 + m - 300 = 200 + m by omega]
    rw [e5] at p33
    have z9 : zst (zPs κ n j) m = (zQ κ n j).1 m := by unfold zst; rw [zPs_m hm (by omega)]; exact zn_nI (by omega)
    have z10 : zia (zPs κ n j) m = (zQ κ n j).2.1 m := by unfold zia; rw [zPs_m hm (by omega)]; exact zn_nI (by omega)
    have z11 : zlg (zPs κ n j) m = (zQ κ n j).2.2.1 m := by unfold zlg; rw [zPs_m hm (by omega)]; exact zn_nI (by omega)
    have z12 : zlf (zPs κ n j) m = (zQ κ n j).2.2.2 m := by unfold zlf; rw [zPs_m hm (by omega)]; exact zn_nI (by omega)
    unfold zIq
    rw [z9, z10, z11, z12, zPs_m hm (by omega), zPs_m hm (by omega), zPs_m hm (by omega), zPs_m hm (by omega)]
    exact ⟨⟨rfl, p1⟩, ⟨rfl, p2⟩, ⟨rfl, p3, p33⟩, rfl, p4⟩
  · exact zIF_n (n := n) (zud_ne (show ¬ 3 = 7 by decide)) (zud_ne (show ¬ 6 = 7 by decide)) (fun m _ => zud_ne (by omega)) (zIF_e hn3 hn4 h.M (fun i k hq => by
      unfold inF at hq
      exact zPs_o (by omega) (by omega)) h.F)
