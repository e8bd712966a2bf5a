/-! what the law asks of the answers: money, what is sent -/
theorem zis_nI {f : Nat → Nat} : ∀ n, zis (fun k => nI (f k)) n = nI (zsum f n)
  | 0 => rfl
  | n + 1 => by
    show zis (fun k => nI (f k)) n + nI (f n) = nI (zsum f n + f n)
    rw [zis_nI n, nI_ad]
theorem zsum_mul {f : Nat → Nat} {c : Nat} : ∀ n, zsum (fun i => f i * c) n = zsum f n * c
  | 0 => (Nat.zero_mul c).symm
  | n + 1 => by
    show zsum (fun i => f i * c) n + f n * c = (zsum f n + f n) * c
    rw [zsum_mul n, Nat.add_mul]
theorem zsum_le2 {f g : Nat → Nat} : ∀ {n : Nat}, (∀ i, i < n → f i ≤ g i) → zsum f n ≤ zsum g n
  | 0, _ => Nat.le_refl _
  | n + 1, h => by
    have h1 := zsum_le2 (n := n) (fun i hi => h i (by omega))
    have h2 := h n (by omega)
    show zsum f n + f n ≤ zsum g n + g n
    omega
theorem zif_nI {p : Prop} [Decidable p] {a : Nat} : (if p then nI a else 0) = nI (if p then a else 0) := by split <;> rfl
theorem zbal_pm {κ : zIn} {n : Nat → Nat} (hv : zIv κ n) (o : Nat) : ∃ P M, zbal κ n o = nI P - nI M ∧ P ≤ 168000000 ∧ M ≤ 168000000 := by
  obtain ⟨hA, hB, hC, hM, hF⟩ := hv
  have hp : ∀ m, m < n 6 → ∀ k, k < n (200 + m) → zpart κ m (zro κ m k) = nI (zrt κ (zro κ m k) * zpd κ m * ztm (zkd κ m)) ∧ zrt κ (zro κ m k) * zpd κ m * ztm (zkd κ m) ≤ 400000 := by
    intro m hm k hk
    obtain ⟨⟨a1, a2, ⟨a3, a4⟩, ⟨a5, a6, a7⟩, a8⟩, ⟨b1, b2, b3, b4⟩, -⟩ := hM.2 m hm
    obtain ⟨k1, k2, k3⟩ := zkt_n a4
    obtain ⟨-, -, -, -, -, c1, c2, c3, -⟩ := hB.2.2 _ (b3 k hk).2
    refine ⟨?_, ?_⟩
    · unfold zpart
      rw [c1, a5, a3, k1, pk_mul, pk_mul]
    · have h1 := Nat.mul_le_mul c3 a7
      have h2 := Nat.mul_le_mul h1 k3
      omega
  have hs : ∀ m, m < n 6 → ∃ a b : Nat, zshr κ (zad κ) (zro κ m) m (zfm κ m) o (n (200 + m)) = nI a - nI b ∧ a ≤ 2800000 ∧ b ≤ 2800000 := by
    intro m hm
    obtain ⟨-, ⟨b1, b2, b3, b4⟩, -⟩ := hM.2 m hm
    refine ⟨zsum (fun k => if zad κ (zro κ m k) = o then zrt κ (zro κ m k) * zpd κ m * ztm (zkd κ m) else 0) (n (200 + m)), zsum (fun k => if zfm κ m = o then zrt κ (zro κ m k) * zpd κ m * ztm (zkd κ m) else 0) (n (200 + m)), ?_, ?_, ?_⟩
    · rw [← zis_nI, ← zis_nI, ← zis_sub]
      refine zis_cg (fun k hk => ?_)
      unfold zsh1
      rw [(hp m hm k hk).1, zif_nI, zif_nI]
    · have := zsum_le (c := 400000) (n := n (200 + m)) (f := fun k => if zad κ (zro κ m k) = o then zrt κ (zro κ m k) * zpd κ m * ztm (zkd κ m) else 0) (fun k hk => by
        have := (hp m hm k hk).2
        show (if _ then _ else 0) ≤ _
        split
        · exact this
        · omega)
      omega
    · have := zsum_le (c := 400000) (n := n (200 + m)) (f := fun k => if zfm κ m = o then zrt κ (zro κ m k) * zpd κ m * ztm (zkd κ m) else 0) (fun k hk => by
        have := (hp m hm k hk).2
        show (if _ then _ else 0) ≤ _
        split
        · exact this
        · omega)
      omega
  have h6 : n 6 ≤ 60 := hM.1.2
  have hr : ∀ j, j ≤ n 6 → ∃ P M, zis (fun m => zshr κ (zad κ) (zro κ m) m (zfm κ m) o (n (200 + m))) j = nI P - nI M ∧ P ≤ 2800000 * j ∧ M ≤ 2800000 * j := by
    intro j
    induction j with
    | zero => intro _; exact ⟨0, 0, show (0 : Int32) = nI 0 - nI 0 by decide, by omega, by omega⟩
    | succ j ih =>
      intro hj
      obtain ⟨P, M, h1, h2, h3⟩ := ih (by omega)
      obtain ⟨a, b, h4, h5, h6⟩ := hs j (by omega)
      refine ⟨P + a, M + b, ?_, by omega, by omega⟩
      show zis (fun m => zshr κ (zad κ) (zro κ m) m (zfm κ m) o (n (200 + m))) j + zshr κ (zad κ) (zro κ j) j (zfm κ j) o (n (200 + j)) = _
      rw [h1, h4, nI_ad, nI_ad]
      simp only [Int32.sub_eq_add_neg, Int32.neg_add]
      ac_rfl
  obtain ⟨P, M, h1, h2, h3⟩ := hr (n 6) (Nat.le_refl _)
  exact ⟨P, M, h1, by omega, by omega⟩
theorem zmoney {P M R Q : Nat} (hP : P ≤ 168000000) (hM : M ≤ 168000000) (hR : R ≤ 2800000) (hQ : Q ≤ R) : ¬ (nI P - nI M) < (nI P - nI M - nI R + nI Q) ∧ ¬ (nI P - nI M - nI R + nI Q) < (nI P - nI M - nI R) := by
  have p := nI_toInt (show P < 2 ^ 31 by omega)
  have m := nI_toInt (show M < 2 ^ 31 by omega)
  have r := nI_toInt (show R < 2 ^ 31 by omega)
  have q := nI_toInt (show Q < 2 ^ 31 by omega)
  have h1 : (nI P - nI M).toInt = (P : Int) - M := by rw [fb_subI (by omega) (by omega), p, m]
  have h2 : (nI P - nI M - nI R).toInt = (P : Int) - M - R := by rw [fb_subI (by omega) (by omega), h1, r]
  have h3 : (nI P - nI M - nI R + nI Q).toInt = (P : Int) - M - R + Q := by rw [fb_addI (by omega) (by omega), h2, q]
  rw [Int32.lt_iff_toInt_lt, Int32.lt_iff_toInt_lt, h1, h2, h3]
  omega
section
variable {κ : zIn} {n : Nat → Nat} {l : List Nat} {paid k : Nat}
/-- the price of what is sent -/
theorem zprice_n (hv : zIv κ n) (hk : k ≤ 2) (hp : paid ≤ 480) (h1 : 1 ≤ l.length) (h8 : l.length < 8) (hl : ∀ i, i < l.length → l.getD i 0 < n 4) : ∃ S, 1 ≤ S ∧ zprice κ paid (nI k) l = nI (S * paid * ztm k) ∧ S * paid * ztm k ≤ 2800000 ∧ ∀ o, ∃ Q, Q ≤ S * paid * ztm k ∧ zis (fun i => if zad κ (l.getD i 0) = o then zpr κ paid (nI k) (l.getD i 0) else 0) l.length = nI Q := by
  have hB := hv.2.1
  obtain ⟨k1, k2, k3⟩ := zkt_n hk
  have hr : ∀ i, i < l.length → 1 ≤ zrt κ (l.getD i 0) ∧ zrt κ (l.getD i 0) ≤ 100 := fun i hi => by
    obtain ⟨-, -, -, -, -, c1, c2, c3, -⟩ := hB.2.2 _ (hl i hi)
    exact ⟨c2, c3⟩
  refine ⟨zsum (fun i => zrt κ (l.getD i 0)) l.length, zsum_1 h1 (fun i hi => (hr i hi).1), ?_, ?_, fun o => ?_⟩
  · unfold zprice
    rw [k1, pk_mul, pk_mul]
  · have h2 := zsum_le (c := 100) (n := l.length) (f := fun i => zrt κ (l.getD i 0)) (fun i hi => (hr i hi).2)
    have h3 := Nat.mul_le_mul (show zsum (fun i => zrt κ (l.getD i 0)) l.length ≤ 700 by omega) hp
    have h4 := Nat.mul_le_mul h3 k3
    omega
  · refine ⟨zsum (fun i => if zad κ (l.getD i 0) = o then zrt κ (l.getD i 0) * paid * ztm k else 0) l.length, ?_, ?_⟩
    · have e : zsum (fun i => zrt κ (l.getD i 0)) l.length * paid * ztm k = zsum (fun i => zrt κ (l.getD i 0) * paid * ztm k) l.length := by
        rw [← zsum_mul, ← zsum_mul]
      rw [e]
      refine zsum_le2 (fun i hi => ?_)
      show (if _ then _ else 0) ≤ _
      split
      · exact Nat.le_refl _
      · exact Nat.zero_le _
    · rw [← zis_nI]
      refine zis_cg (fun i hi => ?_)
      unfold zpr
      rw [k1, pk_mul, pk_mul, zif_nI]
end
theorem zdn6 : ∀ d, d < 5 → ¬ ((-1 : Int32) - nI d - 1 < -6) ∧ (-1 : Int32) - nI d - 1 < 0 := by decide
theorem zk_dft {κ : zIn} {n : Nat → Nat} {s : Nat} {r : Int32} {κ' : zIn} {n' : Nat → Nat} (h0 : n 0 = 5) (hs : s < 5) (h : zk_draft κ n (nI s) r κ' n') : (r = nI (n 2 + 1) ∧ (∀ k, κ' 4 k = κ 4 k) ∧ n' = zud n 2 (n 2 + 1)) ∨ (r = -2000000003 ∧ n 2 = 24 ∧ κ' = κ ∧ n' = n) := by
  have hx : zx_draft (n 0) (n 2) (nI s) = if n 2 = 24 then 2 else 0 := if_neg (fun q => q (zin_l (by omega) (by omega)))
  have hk : zx_draft (n 0) (n 2) (nI s) = 0 ∨ zXk [zIO, zIY] (zx_draft (n 0) (n 2) (nI s)) zIY := by
    rw [hx]
    by_cases q : n 2 = 24
    · rw [if_pos q]; exact Or.inr ⟨1, rfl, rfl⟩
    · rw [if_neg q]; exact Or.inl rfl
  rcases zRk_Y hk h with ⟨k0, rfl, rfl, rfl⟩ | ⟨k0, h1, h2, h3⟩
  · exact Or.inl ⟨rfl, fun k => by simp [z_up], rfl⟩
  · rw [hx] at k0
    exact Or.inr ⟨h1, Classical.byContradiction (fun q => k0 (if_neg q)), h2, h3⟩
theorem zDf_2 {σ2 κ κ1 : zIn} {n : Nat → Nat} {c : Nat} (h : zDf σ2 κ n) (e : ∀ k, κ1 4 k = κ 4 k) : zDf (z_up σ2 1 5 (nI c)) κ1 (zud n 2 c) := by
  obtain ⟨h0, h3, h4, d0, d1, d2, d3, d4, d5, d8⟩ := h
  have e2 : ∀ k, k ≠ 5 → z_up σ2 1 5 (nI c) 1 k = σ2 1 k := fun k hk => by simp [z_up, hk]
  exact ⟨h0, h3, h4, (e2 0 (by decide)).trans d0, (e2 1 (by decide)).trans d1, (e2 2 (by decide)).trans d2, (e2 3 (by decide)).trans d3, (e2 4 (by decide)).trans d4, by simp [z_up, zud], fun k hk => (e2 (8 + k) (by omega)).trans ((d8 k hk).trans (e k).symm)⟩
theorem zDf_sent {σ2 κ κ1 : zIn} {n : Nat → Nat} {a b : Nat} (h : zDf σ2 κ n) (e : ∀ k, κ1 4 k = κ 4 k) : zDf (z_up (z_up σ2 1 5 (nI 0)) 1 3 (nI (n 6 + 1))) κ1 (zSn n a b) := by
  obtain ⟨h0, h3, h4, d0, d1, d2, d3, d4, d5, d8⟩ := h
  have e2 : ∀ k, k ≠ 5 → k ≠ 3 → z_up (z_up σ2 1 5 (nI 0)) 1 3 (nI (n 6 + 1)) 1 k = σ2 1 k := fun k hk hk3 => by simp [z_up, hk, hk3]
  have en : ∀ i, i ≠ 6 → i ≠ 2 → i < 100 → zSn n a b i = n i := fun i h1 h2 h3 => zSn_o h1 h2 h3
  unfold zDf
  rw [en 0 (by decide) (by decide) (by decide), en 1 (by decide) (by decide) (by decide), en 3 (by decide) (by decide) (by decide), en 4 (by decide) (by decide) (by decide), en 5 (by decide) (by decide) (by decide), zSn_6, zSn_2]
  refine ⟨h0, h3, h4, (e2 0 (by decide) (by decide)).trans d0, (e2 1 (by decide) (by decide)).trans d1, (e2 2 (by decide) (by decide)).trans d2, ?_, (e2 4 (by decide) (by decide)).trans d4, ?_, fun k hk => (e2 (8 + k) (by omega) (by omega)).trans ((d8 k hk).trans (e k).symm)⟩
  · simp [z_up]
  · simp [z_up]
/-- what was sent, or nothing -/
theorem zk_snd {κ : zIn} {n : Nat → Nat} {b : Bool} {f t k : Nat} {r : Int32} {κ' : zIn} {n' : Nat → Nat} (hv : zIv κ n) (hf : f < n 3) (ht : t < n 3) (hft : t ≠ f) (hk : k ≤ 2) (h : zk_send κ n b (nI f) (nI t) (nI k) r κ' n') :
    (r = -2000000003 ∧ κ' = κ ∧ n' = n) ∨ (r = nI (n 6) ∧ ∃ l paid many L W, n 6 < 60 ∧ 1 ≤ l.length ∧ l.length < 8 ∧ (∀ i, i < l.length → l.getD i 0 < n 4) ∧ zWd κ n f b paid many L W ∧ κ' = zSd κ n f t (nI k) paid many (zWz L W) l ∧ n' = zSn n L.length l.length) := by
  have hn3 : n 3 ≤ 8 := hv.2.1.1.2.1
  have l2 : ∀ {x y : Nat}, x ≤ y → y < 2 ^ 31 → ¬ nI y < nI x := fun {x y} h1 h2 q => by rw [nI_ltI h2 (by omega)] at q; omega
  have hx : ∀ rte, zx_send (n 3) (n 2) (n 6) rte (nI f) (nI t) (nI k) = zif (n 2 = 0 ∨ n 6 = 60 ∨ ¬ rte) 3 0 := fun rte => by
    unfold zx_send
    rw [if_neg (fun q => q ⟨zin_l hf (by omega), zin_l ht (by omega)⟩), if_neg]
    rintro (q | q | q)
    · exact hft ((nI_eq (by omega) (by omega)).mp q).symm
    · exact l2 (x := 0) (by omega) (by omega) q
    · exact l2 (y := 2) (by omega) (by omega) q
  have hk2 : ∀ rte, zx_send (n 3) (n 2) (n 6) rte (nI f) (nI t) (nI k) = 0 ∨ zXk [zIO, zIX, zIY] (zx_send (n 3) (n 2) (n 6) rte (nI f) (nI t) (nI k)) zIY := fun rte => by
    rw [hx]
    by_cases q : n 2 = 0 ∨ n 6 = 60 ∨ ¬ rte
    · rw [zif_t q]; exact Or.inr ⟨2, rfl, rfl⟩
    · rw [zif_f q]; exact Or.inl rfl
  rcases zRk_Y (hk2 _) h with ⟨k0, f2, t2, l, paid, many, L, W, h1, e1, h2, e2, h3, h4, h5, h6, h7, h8, h9, h10, h11, h12, h13, h14⟩ | ⟨k0, h1, h2, h3⟩
  · have r1 : f = f2 := (nI_eq (by omega) (by omega)).mp e1
    have r2 : t = t2 := (nI_eq (by omega) (by omega)).mp e2
    subst r1; subst r2
    exact Or.inr ⟨h12, l, paid, many, L, W, h6, h8, h9, h10, h11, h13, h14⟩
  · exact Or.inl ⟨h1, h2, h3⟩
