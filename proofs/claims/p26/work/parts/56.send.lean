/-! send, told from the state alone -/
theorem zis_if {c : Prop} [Decidable c] {f : Nat → Int32} (n : Nat) : zis (fun k => if c then f k else 0) n = if c then zis f n else 0 := by
  by_cases h : c
  · simp only [if_pos h]
  · simp only [if_neg h]
    exact zis_z (fun _ _ => rfl)
/-- what a cable of the way brings -/
def zpr (κ : zIn) (paid : Nat) (xk : Int32) (c : Nat) : Int32 := nI (zrt κ c) * nI paid * zkt xk
def zprice (κ : zIn) (paid : Nat) (xk : Int32) (l : List Nat) : Int32 := nI (zsum (fun i => zrt κ (l.getD i 0)) l.length) * nI paid * zkt xk
theorem zprice_s {κ : zIn} {paid : Nat} {xk : Int32} {l : List Nat} : zis (fun i => zpr κ paid xk (l.getD i 0)) l.length = zprice κ paid xk l := by
  have e : (fun i => zpr κ paid xk (l.getD i 0)) = fun i => nI ((fun i => zrt κ (l.getD i 0)) i) * (nI paid * zkt xk) := by
    funext i
    unfold zpr
    rw [Int32.mul_assoc]
  rw [e, zis_mul]
  unfold zprice
  rw [Int32.mul_assoc]
/-- an office's account after it -/
def zac (κ : zIn) (fm paid : Nat) (xk : Int32) (l : List Nat) (o : Nat) : Int32 :=
  (if fm = o then κ (100 + o) 3 - zprice κ paid xk l else κ (100 + o) 3) + zis (fun i => if zad κ (l.getD i 0) = o then zpr κ paid xk (l.getD i 0) else 0) l.length
/-- the new message's numbers -/
def zmr (κ : zIn) (fm to : Nat) (xk : Int32) (paid many : Nat) (l : List Nat) (k : Nat) : Int32 :=
  if k = 0 then nI fm else if k = 1 then nI to else if k = 2 then xk else if k = 3 then nI paid else if k = 4 then zprice κ paid xk l else if k = 5 then zb (decide (0 < many)) else if k = 9 then (if decide (0 < many) && zfb κ fm then 2 else 0) else if k = 10 then nI fm else if k = 11 then nI 0 else nI paid
def zSd (κ : zIn) (n : Nat → Nat) (fm to : Nat) (xk : Int32) (paid many : Nat) (W : Nat → Int32) (l : List Nat) : zIn := fun i k =>
  if i = 200 + n 6 then zmr κ fm to xk paid many l k else if i = 300 + n 6 then W k else if i = 400 + n 6 then W k else if i = 500 + n 6 then nI (l.getD k 0) else if i = 1 then (if k = 8 then nI (n 6 + 1) else κ 1 k) else if i = 11 then (if k = 1 then nI 0 else κ 11 k) else if 100 ≤ i ∧ i < 108 then (if k = 3 then zac κ fm paid xk l (i - 100) else κ i k) else κ i k
def zSn (n : Nat → Nat) (w l : Nat) : Nat → Nat := fun i => if i = 6 then n 6 + 1 else if i = 2 then 0 else if i = 100 + n 6 then w else if i = 200 + n 6 then l else n i
section
variable {g : zSh} {σ κ : zIn} {n : Nat → Nat} {fm to paid many : Nat} {xk : Int32} {W : Nat → Int32} {l : List Nat}
theorem zSd_o {i : Nat} (h1 : i ≠ 200 + n 6) (h2 : i ≠ 300 + n 6) (h3 : i ≠ 400 + n 6) (h4 : i ≠ 500 + n 6) (h5 : i ≠ 1) (h6 : i ≠ 11) (h7 : ¬ (100 ≤ i ∧ i < 108)) : zSd κ n fm to xk paid many W l i = κ i := by
  funext k
  unfold zSd
  rw [if_neg h1, if_neg h2, if_neg h3, if_neg h4, if_neg h5, if_neg h6, if_neg h7]
theorem zSd_m {k : Nat} : zSd κ n fm to xk paid many W l (200 + n 6) k = zmr κ fm to xk paid many l k := if_pos rfl
theorem zSd_w3 {k : Nat} : zSd κ n fm to xk paid many W l (300 + n 6) k = W k := by
  unfold zSd; rw [if_neg (by omega), if_pos rfl]
theorem zSd_w4 {k : Nat} : zSd κ n fm to xk paid many W l (400 + n 6) k = W k := by
  unfold zSd; rw [if_neg (by omega), if_neg (by omega), if_pos rfl]
theorem zSd_r {k : Nat} : zSd κ n fm to xk paid many W l (500 + n 6) k = nI (l.getD k 0) := by
  unfold zSd; rw [if_neg (by omega), if_neg (by omega), if_neg (by omega), if_pos rfl]
theorem zSd_1 {k : Nat} : zSd κ n fm to xk paid many W l 1 k = if k = 8 then nI (n 6 + 1) else κ 1 k := by
  unfold zSd; rw [if_neg (by omega), if_neg (by omega), if_neg (by omega), if_neg (by omega), if_pos rfl]
theorem zSd_11 {k : Nat} : zSd κ n fm to xk paid many W l 11 k = if k = 1 then nI 0 else κ 11 k := by
  unfold zSd; rw [if_neg (by omega), if_neg (by omega), if_neg (by omega), if_neg (by omega), if_neg (by decide), if_pos rfl]
theorem zSd_a {o k : Nat} (ho : o < 8) : zSd κ n fm to xk paid many W l (100 + o) k = if k = 3 then zac κ fm paid xk l o else κ (100 + o) k := by
  unfold zSd
  rw [if_neg (by omega), if_neg (by omega), if_neg (by omega), if_neg (by omega), if_neg (by omega), if_neg (by omega), if_pos (by omega), show 100 + o - 100 = o by omega]
theorem zSn_3 {w v : Nat} : zSn n w v 3 = n 3 := by unfold zSn; rw [if_neg (by decide), if_neg (by decide), if_neg (by omega), if_neg (by omega)]
theorem zSn_o {w v i : Nat} (h6 : i ≠ 6) (h2 : i ≠ 2) (h : i < 100) : zSn n w v i = n i := by unfold zSn; rw [if_neg h6, if_neg h2, if_neg (by omega), if_neg (by omega)]
theorem zSn_6 {w v : Nat} : zSn n w v 6 = n 6 + 1 := if_pos rfl
theorem zSn_2 {w v : Nat} : zSn n w v 2 = 0 := by unfold zSn; rw [if_neg (by decide), if_pos rfl]
theorem zSn_w {w v : Nat} : zSn n w v (100 + n 6) = w := by unfold zSn; rw [if_neg (by omega), if_neg (by omega), if_pos rfl]
theorem zSn_l {w v : Nat} : zSn n w v (200 + n 6) = v := by unfold zSn; rw [if_neg (by omega), if_neg (by omega), if_neg (by omega), if_pos rfl]
theorem zSn_wo {w v m : Nat} (hm : m < n 6) (h6 : n 6 ≤ 60) : zSn n w v (100 + m) = n (100 + m) := by unfold zSn; rw [if_neg (by omega), if_neg (by omega), if_neg (by omega), if_neg (by omega)]
theorem zSn_lo {w v m : Nat} (hm : m < n 6) (h6 : n 6 ≤ 60) : zSn n w v (200 + m) = n (200 + m) := by unfold zSn; rw [if_neg (by omega), if_neg (by omega), if_neg (by omega), if_neg (by omega)]
/-- the invariants after it -/
theorem zIv_send (hv : zIv κ n) (hm : n 6 < 60) (hfm : fm < n 3) (hto : to < n 3) (hk : xk = nI (zn xk) ∧ zn xk ≤ 2) (hp1 : 1 ≤ paid) (hp2 : paid ≤ 480) {w : Nat} (hw1 : 1 ≤ w) (hw2 : w ≤ 24) (hW : ∀ i, i < w → zwd (W i) ∨ W i < 0) (hl1 : 1 ≤ l.length) (hl2 : l.length < 8) (hl : ∀ i, i < l.length → l.getD i 0 < n 4) :
    zIv (zSd κ n fm to xk paid many W l) (zSn n w l.length) := by
  obtain ⟨hA, hB, hC, hM, hF⟩ := hv
  have hn4 : n 4 ≤ 12 := hB.1.2.2.2
  have hn3 : n 3 ≤ 8 := hB.1.2.1
  have hn5 : n 5 ≤ 12 := hC.1.2.1
  have hn6 : n 6 ≤ 60 := hM.1.2
  have e0 : ∀ i, i < 200 → i ≠ 1 → i ≠ 11 → ¬ (100 ≤ i ∧ i < 108) → zSd κ n fm to xk paid many W l i = κ i := fun i h1 h2 h3 h4 => zSd_o (by omega) (by omega) (by omega) (by omega) h2 h3 h4
  have eM : ∀ m, m < n 6 → (zSd κ n fm to xk paid many W l (200 + m) = κ (200 + m) ∧ zSd κ n fm to xk paid many W l (300 + m) = κ (300 + m) ∧ zSd κ n fm to xk paid many W l (400 + m) = κ (400 + m) ∧ zSd κ n fm to xk paid many W l (500 + m) = κ (500 + m)) := fun m hm2 => ⟨zSd_o (by omega) (by omega) (by omega) (by omega) (by omega) (by omega) (by omega), zSd_o (by omega) (by omega) (by omega) (by omega) (by omega) (by omega) (by omega), zSd_o (by omega) (by omega) (by omega) (by omega) (by omega) (by omega) (by omega), zSd_o (by omega) (by omega) (by omega) (by omega) (by omega) (by omega) (by omega)⟩
  have eC : ∀ c, c < 12 → zSd κ n fm to xk paid many W l (120 + c) = κ (120 + c) := fun c hc => e0 _ (by omega) (by omega) (by omega) (by omega)
  have ero : ∀ i, i < l.length → zro (zSd κ n fm to xk paid many W l) (n 6) i = l.getD i 0 := fun i hi => by
    have := hl i hi
    unfold zro; rw [zSd_r, zn_nI (by omega)]
  have ert : ∀ c, c < 12 → zrt (zSd κ n fm to xk paid many W l) c = zrt κ c := fun c hc => by unfold zrt; rw [eC c hc]
  have ead : ∀ c, c < 12 → zad (zSd κ n fm to xk paid many W l) c = zad κ c := fun c hc => by unfold zad; rw [eC c hc]
  refine ⟨?_, ?_, ?_, ⟨⟨?_, ?_⟩, fun m hm2 => ?_⟩, fun o ho => ?_⟩
  · rw [zSn_o (by decide) (by decide) (by decide), zSn_o (by decide) (by decide) (by decide), zSn_2]
    refine zIA_sent hA (by rw [zSd_11, if_pos rfl]) (fun i k hq => ?_)
    obtain ⟨hq, hq2⟩ := hq
    unfold inA at hq
    by_cases q : i = 11
    · subst q; rw [zSd_11, if_neg (by omega)]
    · rw [e0 i (by omega) (by omega) q (by omega)]
  · rw [zSn_3, zSn_o (by decide) (by decide) (by decide)]
    refine zIB_e (fun i k hq => ?_) hB
    unfold inB at hq
    by_cases q : 100 ≤ i ∧ i < 108
    · obtain ⟨o, rfl⟩ : ∃ o, i = 100 + o := ⟨i - 100, by omega⟩
      rw [zSd_a (by omega), if_neg (by omega)]
    · rw [e0 i (by omega) (by omega) (by omega) q]
  · rw [zSn_o (by decide) (by decide) (by decide), zSn_o (by decide) (by decide) (by decide)]
    refine zIC_e (fun i k hq => ?_) hC
    unfold inC at hq
    by_cases q : i = 1
    · subst q; rw [zSd_1, if_neg (by omega)]
    · rw [e0 i (by omega) q (by omega) (by omega)]
  · rw [zSn_6, zSd_1, if_pos rfl]
  · rw [zSn_6]; omega
  · rw [zSn_6] at hm2
    rw [zSn_3, zSn_o (by decide) (by decide) (by decide)]
    by_cases q : m = n 6
    · subst q
      rw [zSn_w, zSn_l]
      have z0 : zfm (zSd κ n fm to xk paid many W l) (n 6) = fm := by unfold zfm; rw [zSd_m]; exact zn_nI (by omega)
      have z1 : ztt (zSd κ n fm to xk paid many W l) (n 6) = to := by unfold ztt; rw [zSd_m]; exact zn_nI (by omega)
      have z2 : zkd (zSd κ n fm to xk paid many W l) (n 6) = zn xk := by unfold zkd; rw [zSd_m]; rfl
      have z3 : zpd (zSd κ n fm to xk paid many W l) (n 6) = paid := by unfold zpd; rw [zSd_m]; exact zn_nI (by omega)
      have z10 : zia (zSd κ n fm to xk paid many W l) (n 6) = fm := by unfold zia; rw [zSd_m]; exact zn_nI (by omega)
      have z11 : zlg (zSd κ n fm to xk paid many W l) (n 6) = 0 := by unfold zlg; rw [zSd_m]; rfl
      have z12 : zlf (zSd κ n fm to xk paid many W l) (n 6) = paid := by unfold zlf; rw [zSd_m]; exact zn_nI (by omega)
      have z9 : zSd κ n fm to xk paid many W l (200 + n 6) 9 = nI (zst (zSd κ n fm to xk paid many W l) (n 6)) ∧ zst (zSd κ n fm to xk paid many W l) (n 6) ≤ 2 := by
        unfold zst
        rw [zSd_m]
        show (if decide (0 < many) && zfb κ fm then (2 : Int32) else 0) = nI (zn (if decide (0 < many) && zfb κ fm then (2 : Int32) else 0)) ∧ zn (if decide (0 < many) && zfb κ fm then (2 : Int32) else 0) ≤ 2
        split <;> decide
      refine ⟨⟨⟨?_, ?_⟩, ⟨?_, ?_⟩, ⟨?_, ?_⟩, ⟨?_, ?_, ?_⟩, ?_⟩, ⟨hl1, hl2, fun k hk2 => ?_, ?_⟩, ⟨hw1, hw2, fun k hk2 => ?_⟩, ⟨z9, ⟨?_, ?_⟩, ⟨?_, ?_, fun _ => ?_⟩, ?_, ?_⟩⟩
      · rw [z0, zSd_m]; rfl
      · rw [z0]; exact hfm
      · rw [z1, zSd_m]; rfl
      · rw [z1]; exact hto
      · rw [z2, zSd_m]; exact hk.1
      · rw [z2]; exact hk.2
      · rw [z3, zSd_m]; rfl
      · rw [z3]; exact hp1
      · rw [z3]; omega
      · rw [zSd_m]
        show zb (decide (0 < many)) = 0 ∨ zb (decide (0 < many)) = 1
        exact zb_01 _
      · rw [ero k hk2, zSd_r]; exact ⟨rfl, hl k hk2⟩
      · rw [zSd_m, zSd_m, zSd_m]
        show zprice κ paid xk l = _ * nI paid * zkt xk
        unfold zprice
        congr 3
        exact zsum_cg (fun i hi => by rw [ero i hi, ert _ (by have := hl i hi; omega)])
      · rw [zSd_w3, zSd_w4]
        rcases hW k hk2 with r | r
        · exact Or.inl ⟨r, r⟩
        · exact Or.inr ⟨r, rfl⟩
      · rw [z10, zSd_m]; rfl
      · rw [z10]; exact hfm
      · rw [z11, zSd_m]; rfl
      · rw [z11]; omega
      · rw [z11]; omega
      · rw [z12, zSd_m]; rfl
      · rw [z12]; omega
    · rw [zSn_wo (by omega) hn6, zSn_lo (by omega) hn6]
      obtain ⟨q1, q2, q3, q4⟩ := eM m (by omega)
      obtain ⟨b1, b2, b3, b4⟩ := hM.2 m (by omega)
      exact ⟨zIm_e (fun _ _ => by rw [q1]) b1, zIr_e (by rw [q1]) (by rw [q1]) (by rw [q1]) (fun _ _ => by rw [q4]) (fun c hc => by rw [eC c (by omega)]) b2, zIw_e (fun _ _ => by rw [q2]) (fun _ _ => by rw [q3]) b3, zIq_e (fun _ _ _ => by rw [q1]) b4⟩
  · rw [zSn_3] at ho
    rw [zSd_a (by omega), if_pos rfl]
    have eo : zbal (zSd κ n fm to xk paid many W l) n o = κ (100 + o) 3 := by
      rw [hF o ho]
      exact zbal_e hM (fun m hm2 k hk2 => by rw [(eM m hm2).1]) (fun m hm2 k hk2 => by rw [(eM m hm2).2.2.2]) (fun c hc => by rw [eC c (by omega)]; exact ⟨rfl, rfl⟩)
    have en : zbal (zSd κ n fm to xk paid many W l) (zSn n w l.length) o = zbal (zSd κ n fm to xk paid many W l) n o + zshr (zSd κ n fm to xk paid many W l) (zad (zSd κ n fm to xk paid many W l)) (zro (zSd κ n fm to xk paid many W l) (n 6)) (n 6) (zfm (zSd κ n fm to xk paid many W l) (n 6)) o l.length := by
      unfold zbal
      rw [zSn_6]
      show zis _ (n 6) + _ = zis _ (n 6) + _
      congr 1
      · exact zis_cg (fun m hm2 => by rw [zSn_lo hm2 hn6])
      · show zshr _ _ _ _ _ _ (zSn n w l.length (200 + n 6)) = _
        rw [zSn_l]
    rw [en, eo]
    have z0 : zfm (zSd κ n fm to xk paid many W l) (n 6) = fm := by unfold zfm; rw [zSd_m]; exact zn_nI (by omega)
    rw [z0]
    have es : zshr (zSd κ n fm to xk paid many W l) (zad (zSd κ n fm to xk paid many W l)) (zro (zSd κ n fm to xk paid many W l) (n 6)) (n 6) fm o l.length = zis (fun i => (if zad κ (l.getD i 0) = o then zpr κ paid xk (l.getD i 0) else 0) - (if fm = o then zpr κ paid xk (l.getD i 0) else 0)) l.length := by
      refine zis_cg (fun i hi => ?_)
      have h1 := hl i hi
      have hp : zpart (zSd κ n fm to xk paid many W l) (n 6) (l.getD i 0) = zpr κ paid xk (l.getD i 0) := by
        unfold zpart zpr
        rw [zSd_m, zSd_m, eC _ (by omega)]
        show κ (120 + l.getD i 0) 2 * nI paid * zkt xk = _
        rw [(hB.2.2 _ h1).2.2.2.2.2.1]
      unfold zsh1
      rw [ero i hi, ead _ (by omega), hp]
    rw [es, zis_sub, zis_if, zprice_s]
    unfold zac
    by_cases q : fm = o
    · rw [if_pos q, if_pos q]
      simp only [Int32.sub_eq_add_neg]
      ac_rfl
    · rw [if_neg q, if_neg q, Int32.sub_zero]
end
