/-! what the law asks of the answers: a wrong letter, minutes; arrays of the law's own -/
theorem zpk_one {x y : Int32} {q : Nat} (h : ∀ k, k < 5 → k ≠ q → zl x k = zl y k) : ∀ m, m ≤ 5 → zpk x y m ≤ if q < m then 1 else 0
  | 0, _ => Nat.zero_le _
  | m + 1, hm => by
    have ih := zpk_one h m (by omega)
    by_cases e : m = q
    · subst e
      rw [if_neg (Nat.lt_irrefl _)] at ih
      rw [if_pos (Nat.lt_succ_self _)]
      simp only [zpk]
      split <;> omega
    · rw [zpk_y (h m (by omega) e)]
      by_cases e2 : q < m
      · rw [if_pos e2] at ih; rw [if_pos (by omega)]; exact ih
      · rw [if_neg e2] at ih; rw [if_neg (by omega)]; exact ih
theorem zwr_n {W V a t R : Nat} (h : V + a * R = W + t * R) : nI W + (nI t - nI a) * nI R = nI V := by
  have h1 : nI V + nI a * nI R = nI W + nI t * nI R := by rw [pk_mul, pk_mul, ← nI_ad, ← nI_ad, h]
  rw [Int32.sub_mul, Int32.sub_eq_add_neg, ← Int32.add_assoc, ← h1, ← Int32.sub_eq_add_neg, Int32.add_sub_cancel]
theorem zwr_p {W q t : Nat} (h : zwd (nI W)) (hW : W < 2 ^ 31) (hq : q < 5) (ht : t < 26) : ∃ V, V < 11881376 ∧ nI W + (nI t - nI (zl (nI W) q)) * nI (26 ^ (4 - q)) = nI V ∧ zp (nI V) (nI W) ≤ 1 := by
  have h1 := zwd_lt hW h
  have h2 : zl (nI W) q = W / 26 ^ (4 - q) % 26 := zl_n hW q
  obtain ⟨V, hV, eV⟩ := zwd_with h hW hq ht
  refine ⟨V, hV, eV, ?_⟩
  rw [h2] at eV
  have hz : ∀ k, zl (nI V) k = V / 26 ^ (4 - k) % 26 := fun k => zl_n (by omega) k
  have hz2 : ∀ k, zl (nI W) k = W / 26 ^ (4 - k) % 26 := fun k => zl_n hW k
  have fin : (∀ k, k < 5 → k ≠ q → zl (nI V) k = zl (nI W) k) → zp (nI V) (nI W) ≤ 1 := fun g => by
    have := zpk_one g 5 (Nat.le_refl _)
    rw [if_pos hq] at this
    exact this
  have mine : ∀ X, X + (W / 26 ^ (4 - q) % 26) * 26 ^ (4 - q) = W + t * 26 ^ (4 - q) → X < 2 ^ 31 → V = X := fun X hX hX2 => by
    have := zwr_n hX
    rw [this] at eV
    exact ((nI_eq hX2 (by omega)).mp eV).symm
  refine fin (fun k hk hkq => ?_)
  rw [hz, hz2]
  have hq5 : q = 0 ∨ q = 1 ∨ q = 2 ∨ q = 3 ∨ q = 4 := by omega
  have hk5 : k = 0 ∨ k = 1 ∨ k = 2 ∨ k = 3 ∨ k = 4 := by omega
  rcases hq5 with rfl | rfl | rfl | rfl | rfl
  · have e := mine (W + t * 456976 - (W / 456976 % 26) * 456976) (by show _ + (W / 456976 % 26) * 456976 = W + t * 456976; omega) (by omega)
    clear mine fin eV hz hz2 h2
    rcases hk5 with rfl | rfl | rfl | rfl | rfl
    · exact absurd rfl hkq
    · show V / 17576 % 26 = W / 17576 % 26; omega
    · show V / 676 % 26 = W / 676 % 26; omega
    · show V / 26 % 26 = W / 26 % 26; omega
    · show V / 1 % 26 = W / 1 % 26; omega
  · have e := mine (W + t * 17576 - (W / 17576 % 26) * 17576) (by show _ + (W / 17576 % 26) * 17576 = W + t * 17576; omega) (by omega)
    clear mine fin eV hz hz2 h2
    rcases hk5 with rfl | rfl | rfl | rfl | rfl
    · show V / 456976 % 26 = W / 456976 % 26; omega
    · exact absurd rfl hkq
    · show V / 676 % 26 = W / 676 % 26; omega
    · show V / 26 % 26 = W / 26 % 26; omega
    · show V / 1 % 26 = W / 1 % 26; omega
  · have e := mine (W + t * 676 - (W / 676 % 26) * 676) (by show _ + (W / 676 % 26) * 676 = W + t * 676; omega) (by omega)
    clear mine fin eV hz hz2 h2
    rcases hk5 with rfl | rfl | rfl | rfl | rfl
    · show V / 456976 % 26 = W / 456976 % 26; omega
    · show V / 17576 % 26 = W / 17576 % 26; omega
    · exact absurd rfl hkq
    · show V / 26 % 26 = W / 26 % 26; omega
    · show V / 1 % 26 = W / 1 % 26; omega
  · have e := mine (W + t * 26 - (W / 26 % 26) * 26) (by show _ + (W / 26 % 26) * 26 = W + t * 26; omega) (by omega)
    clear mine fin eV hz hz2 h2
    rcases hk5 with rfl | rfl | rfl | rfl | rfl
    · show V / 456976 % 26 = W / 456976 % 26; omega
    · show V / 17576 % 26 = W / 17576 % 26; omega
    · show V / 676 % 26 = W / 676 % 26; omega
    · exact absurd rfl hkq
    · show V / 1 % 26 = W / 1 % 26; omega
  · have e := mine (W + t * 1 - (W / 1 % 26) * 1) (by show _ + (W / 1 % 26) * 1 = W + t * 1; omega) (by omega)
    clear mine fin eV hz hz2 h2
    rcases hk5 with rfl | rfl | rfl | rfl | rfl
    · show V / 456976 % 26 = W / 456976 % 26; omega
    · show V / 17576 % 26 = W / 17576 % 26; omega
    · show V / 676 % 26 = W / 676 % 26; omega
    · show V / 26 % 26 = W / 26 % 26; omega
    · exact absurd rfl hkq
/-- a claim is -1 or a place of the message -/
theorem zcl_b {κ : zIn} {m w : Nat} {r : Int32} (hw : zIw κ w m) (h : zcl κ m w r) : r = -1 ∨ ∃ j, j < 5 * w ∧ r = nI j := by
  rcases h with ⟨k, f, h1, h2, h3, h4, rfl⟩ | ⟨-, h⟩
  · rcases hw.2.2 k h1 with ⟨q1, q2⟩ | ⟨q1, q2⟩
    · have := zl_dif q1 q2 h3 h4
      exact Or.inr ⟨k * 5 + f, by omega, rfl⟩
    · exact absurd q2.symm h3
  · exact Or.inl h
theorem zk_wrg {κ : zIn} {n : Nat → Nat} {m k q t : Nat} {r : Int32} {κ' : zIn} {n' : Nat → Nat} (hv : zIv κ n) (hm : m < n 6) (hk : k < n (100 + m)) (hq : q < 5) (ht : t < 26) (h : zk_wrong κ n (nI m) (nI k) (nI q) (nI t) r κ' n') :
    (r = -2000000003 ∧ (κ (200 + m) 9 ≠ 0 ∨ κ (400 + m) k < 0) ∧ κ' = κ ∧ n' = n) ∨ (∃ W V, W < 11881376 ∧ V < 11881376 ∧ κ (400 + m) k = nI W ∧ r = nI V ∧ zp (nI V) (nI W) ≤ 1 ∧ κ' (400 + m) k = nI V ∧ (∀ k, κ' 4 k = κ 4 k) ∧ n' = n) := by
  have hn6 : n 6 ≤ 60 := hv.2.2.2.1.1.2
  obtain ⟨-, -, ⟨w1, w2, w3⟩, -⟩ := hv.2.2.2.1.2 m hm
  have l2 : ∀ {x y : Nat}, x ≤ y → y < 2 ^ 31 → ¬ nI y < nI x := fun {x y} h1 h2 q => by rw [nI_ltI h2 (by omega)] at q; omega
  have hx : zxw κ n (nI m) (nI k) (nI q) (nI t) = if ¬ (κ (200 + m) 9 = 0 ∧ 0 ≤ κ (400 + m) k) then 3 else 0 := by
    unfold zxw
    rw [zn_nI (by omega), zn_nI (by omega), if_neg (fun g => g ⟨zin_l hm (by omega), zin_l hk (by omega)⟩), if_neg]
    rintro ((g | g) | (g | g))
    · exact l2 (x := 0) (by omega) (by omega) g
    · exact l2 (y := 4) (by omega) (by omega) g
    · exact l2 (x := 0) (by omega) (by omega) g
    · exact l2 (y := 25) (by omega) (by omega) g
  have hk2 : zxw κ n (nI m) (nI k) (nI q) (nI t) = 0 ∨ zXk [zIO, zIX, zIY] (zxw κ n (nI m) (nI k) (nI q) (nI t)) zIY := by
    rw [hx]
    by_cases g : ¬ (κ (200 + m) 9 = 0 ∧ 0 ≤ κ (400 + m) k)
    · rw [if_pos g]; exact Or.inr ⟨2, rfl, rfl⟩
    · rw [if_neg g]; exact Or.inl rfl
  rcases zRk_Y hk2 h with ⟨k0, m2, k2, q2, t2, W, g1, e1, g2, e2, g3, e3, g4, e4, g5, g6, g7, g8, g9⟩ | ⟨k0, h1, h2, h3⟩
  · rw [hx] at k0
    have r1 : m = m2 := (nI_eq (by omega) (by omega)).mp e1
    subst r1
    have r2 : k = k2 := (nI_eq (by omega) (by omega)).mp e2
    have r3 : q = q2 := (nI_eq (by omega) (by omega)).mp e3
    have r4 : t = t2 := (nI_eq (by omega) (by omega)).mp e4
    subst r2; subst r3; subst r4
    have hz : zwd (nI W) := by
      rw [← g6]
      rcases w3 k hk with ⟨-, g⟩ | ⟨ga, gb⟩
      · exact g
      · rw [gb] at g6
        exact absurd ga (by rw [g6]; exact nI_not_neg g5)
    obtain ⟨V, hV, eV, hp⟩ := zwr_p hz g5 hq ht
    refine Or.inr ⟨W, V, zwd_lt g5 hz, hV, g6, g7.trans eV, hp, ?_, fun k => ?_, g9⟩
    · rw [g8, eV]; simp [z_up]
    · rw [g8]; exact zup_4 (by omega) k
  · refine Or.inl ⟨h1, ?_, h2, h3⟩
    rw [hx] at k0
    have g : ¬ (κ (200 + m) 9 = 0 ∧ 0 ≤ κ (400 + m) k) := Classical.byContradiction (fun g => k0 (if_neg g))
    by_cases e : κ (200 + m) 9 = 0
    · exact Or.inr (Int32.not_le.mp (fun g2 => g ⟨e, g2⟩))
    · exact Or.inl e
/-! minutes -/
theorem zmi1_st {g : zSh} {nm : Nat} {kd pd : Nat → Nat} {ro : Nat → Nat → Nat} {ca co sp : Nat → Nat} {br hc fb : Nat → Bool} {q : (Nat → Nat) × (Nat → Nat) × (Nat → Nat) × (Nat → Nat)} {m : Nat} (h : q.1 m ≠ 0) : (zmi1 g nm kd pd ro ca co sp br hc fb q).1 m = q.1 m := by
  unfold zmi1 zmx
  dsimp only
  by_cases r : m < nm
  · rw [if_pos r]
    unfold zst2
    rw [show zmv (zcb q.1 q.2.2.1 ro) (zcj kd (zcb q.1 q.2.2.1 ro) nm (q.2.2.2, fun c => if br c then 0 else sp c) 3).1 m = false from decide_eq_false (fun r => zcn_0 h r.1), if_neg Bool.false_ne_true]
  · rw [if_neg r]
theorem zQ_st {κ : zIn} {n : Nat → Nat} {m : Nat} (h : zst κ m ≠ 0) : ∀ j, (zQ κ n j).1 m = zst κ m
  | 0 => rfl
  | j + 1 => by
    have ih := zQ_st (n := n) h j
    have := zmi1_st (g := zgk n) (nm := n 6) (kd := zkd κ) (pd := zpd κ) (ro := zro κ) (ca := zad κ) (co := zot κ) (sp := zsp κ) (br := zbr κ) (hc := zhc κ) (fb := zfb κ) (q := zQ κ n j) (m := m) (by rw [ih]; exact h)
    exact this.trans ih
theorem zk_pas {κ : zIn} {n : Nat → Nat} {j : Nat} {r : Int32} {κ' : zIn} {n' : Nat → Nat} (hv : zIv κ n) (h1 : 1 ≤ j) (h2 : j ≤ 60) (h3 : n 7 + j ≤ 1000000) (h : zk_pass κ n (nI j) r κ' n') : r = nI (n 7 + j) ∧ (∀ k, κ' 4 k = κ 4 k) ∧ n' = zud n 7 (n 7 + j) ∧ ∀ m, m < n 6 → κ (200 + m) 9 = 0 ∨ κ' (200 + m) 9 = κ (200 + m) 9 := by
  have hn6 : n 6 ≤ 60 := hv.2.2.2.1.1.2
  have l2 : ∀ {x y : Nat}, x ≤ y → y < 2 ^ 31 → ¬ nI y < nI x := fun {x y} h1 h2 q => by rw [nI_ltI h2 (by omega)] at q; omega
  have hx : zx_pass (n 7) (nI j) = 0 := by
    unfold zx_pass
    rw [if_neg, if_neg]
    · rw [zn_nI (by omega)]; omega
    · rintro (g | g)
      · exact l2 (x := 1) (by omega) (by omega) g
      · exact l2 (y := 60) (by omega) (by omega) g
  obtain ⟨j2, e, b1, b2, -, a5, a6, a7⟩ := zRk_0 hx h
  have ej : j = j2 := (nI_eq (by omega) (by omega)).mp e
  subst ej
  refine ⟨a5, fun k => by rw [a6, zPs_o (by omega) (by omega)], a7, fun m hm => ?_⟩
  obtain ⟨c1, c2⟩ := (hv.2.2.2.1.2 m hm).2.2.2.1
  by_cases q : zst κ m = 0
  · rw [q] at c1; exact Or.inl c1
  · refine Or.inr ?_
    rw [a6, zPs_m hm (by omega), if_pos rfl, zQ_st q, ← c1]
theorem zk_rst {κ : zIn} {n : Nat → Nat} {r : Int32} {κ' : zIn} {n' : Nat → Nat} (h3 : n 7 + 1440 ≤ 1000000) (h : zk_rest κ n (nI 1) r κ' n') : r = nI (n 7 + 1440) ∧ (∀ k, κ' 4 k = κ 4 k) ∧ n' = zud n 7 (n 7 + 1440) ∧ ∀ m, m < n 6 → κ (200 + m) 9 = 0 ∨ κ' (200 + m) 9 = κ (200 + m) 9 := by
  have e1 : zn (nI 1) = 1 := zn_nI (by omega)
  have hx : zx_rest (n 7) (nI 1) = 0 := by
    unfold zx_rest
    rw [if_neg (by decide), if_neg]
    rw [e1]; omega
  obtain ⟨a5, -, a6, a7⟩ := zRk_0 hx h
  rw [e1] at a5 a6 a7
  exact ⟨a5, fun k => by rw [a6]; exact zup_4 (by decide) k, a7, fun m hm => Or.inr (by rw [a6]; simp [z_up, show ¬ (200 + m = 1) by omega])⟩
/-- where a message is, told by its state -/
theorem zok_4 {κ : zIn} {n : Nat → Nat} {m : Nat} (hv : zIv κ n) (hm : m < n 6) : (κ (200 + m) 9 = 0 ∧ zok κ n m 4 ≠ -1) ∨ (κ (200 + m) 9 ≠ 0 ∧ zok κ n m 4 = -1) := by
  by_cases e : κ (200 + m) 9 = 0
  · refine Or.inl ⟨e, ?_⟩
    obtain ⟨-, ⟨b1, b2, b3, -⟩, -, ⟨c1, c2⟩, -, ⟨d1, d2, d3⟩, -⟩ := hv.2.2.2.1.2 m hm
    have hn4 : n 4 ≤ 12 := hv.2.1.1.2.2.2
    have e2 : zst κ m = 0 := by
      rw [c1] at e
      exact (nI_eq (by omega) (by omega)).mp e
    show zcab κ m ≠ -1
    unfold zcab
    rw [if_pos e, d1, nI_clamp (by omega), (b3 _ (d3 e2)).1]
    exact znn1 (by have := (b3 _ (d3 e2)).2; omega)
  · exact Or.inr ⟨e, if_neg e⟩
theorem zok_5 {κ : zIn} {n : Nat → Nat} {m : Nat} (hv : zIv κ n) (hm : m < n 6) : (κ (200 + m) 9 = 2 ∧ zok κ n m 5 ≠ -1) ∨ (κ (200 + m) 9 ≠ 2 ∧ zok κ n m 5 = -1) := by
  by_cases e : κ (200 + m) 9 = 2
  · refine Or.inl ⟨e, ?_⟩
    obtain ⟨-, -, -, -, ⟨d1, d2⟩, -⟩ := hv.2.2.2.1.2 m hm
    have hn3 : n 3 ≤ 8 := hv.2.1.1.2.1
    show (if _ then _ else _) ≠ _
    rw [if_pos e, d1]
    exact znn1 (by omega)
  · exact Or.inr ⟨e, if_neg e⟩
theorem zDf_7 {σ2 κ κ1 : zIn} {n : Nat → Nat} {c : Nat} (h : zDf σ2 κ n) (e : ∀ k, κ1 4 k = κ 4 k) : zDf σ2 κ1 (zud n 7 c) := by
  obtain ⟨h0, h3, h4, d0, d1, d2, d3, d4, d5, d8⟩ := h
  exact ⟨h0, h3, h4, d0, d1, d2, d3, d4, d5, fun k hk => (d8 k hk).trans (e k).symm⟩
theorem zDf_s {σ2 σ3 κ : zIn} {n : Nat → Nat} (h : zDf σ2 κ n) (e : ∀ k, σ3 1 k = σ2 1 k) : zDf σ3 κ n := by
  obtain ⟨h0, h3, h4, d0, d1, d2, d3, d4, d5, d8⟩ := h
  exact ⟨h0, h3, h4, (e 0).trans d0, (e 1).trans d1, (e 2).trans d2, (e 3).trans d3, (e 4).trans d4, (e 5).trans d5, fun k hk => (e _).trans (d8 k hk)⟩
/-! new objects in the world's parts -/
theorem zJ_add {w : Nat → zSh} {i a kd N c : Nat} (hc : c < 3) (h1 : c = 0 → (w 1).1 = []) (h2 : c ≤ 1 → (w 2).1 = []) : z_add (zJg w) (3 * i + c) a kd N = zJg (zp1 w c (z_add (w c) i a kd N)) := by
  have up : ∀ (f : zSh → Nat → Nat) (v : Nat), (∀ j, f (z_add (w c) i a kd N) j = if j = i then v else f (w c) j) → va_up (fun n => f (w (n % 3)) (n / 3)) (3 * i + c) v = fun n => f (zp1 w c (z_add (w c) i a kd N) (n % 3)) (n / 3) := by
    intro f v hf
    funext x
    show (if x = 3 * i + c then v else f (w (x % 3)) (x / 3)) = f (if x % 3 = c then _ else w (x % 3)) (x / 3)
    by_cases e : x % 3 = c
    · rw [if_pos e, hf]
      by_cases e2 : x / 3 = i
      · rw [if_pos e2, if_pos (by omega)]
      · rw [if_neg e2, if_neg (by omega), e]
    · rw [if_neg e, if_neg (by omega)]
  refine Prod.ext ?_ (Prod.ext ?_ (Prod.ext ?_ (Prod.ext ?_ ?_)))
  · have hcc : c = 0 ∨ c = 1 ∨ c = 2 := by omega
    rcases hcc with rfl | rfl | rfl
    · show ((w 0).1.map (fun i => 3 * i) ++ ((w 1).1.map (fun i => 3 * i + 1) ++ (w 2).1.map (fun i => 3 * i + 2))) ++ [3 * i + 0] = ((w 0).1 ++ [i]).map (fun i => 3 * i) ++ ((w 1).1.map (fun i => 3 * i + 1) ++ (w 2).1.map (fun i => 3 * i + 2))
      rw [h1 rfl, h2 (by decide)]
      simp
    · show ((w 0).1.map (fun i => 3 * i) ++ ((w 1).1.map (fun i => 3 * i + 1) ++ (w 2).1.map (fun i => 3 * i + 2))) ++ [3 * i + 1] = (w 0).1.map (fun i => 3 * i) ++ (((w 1).1 ++ [i]).map (fun i => 3 * i + 1) ++ (w 2).1.map (fun i => 3 * i + 2))
      rw [h2 (by decide)]
      simp
    · show ((w 0).1.map (fun i => 3 * i) ++ ((w 1).1.map (fun i => 3 * i + 1) ++ (w 2).1.map (fun i => 3 * i + 2))) ++ [3 * i + 2] = (w 0).1.map (fun i => 3 * i) ++ ((w 1).1.map (fun i => 3 * i + 1) ++ ((w 2).1 ++ [i]).map (fun i => 3 * i + 2))
      simp
  · exact up (fun g => g.2.1) a (fun j => rfl)
  · exact up (fun g => g.2.2.1) kd (fun j => rfl)
  · exact up (fun g => g.2.2.2.1) N (fun j => rfl)
  · funext x k
    show (if x = 3 * i + c then 0 else (if (w (x % 3)).2.2.2.2 (x / 3) k = 0 then 0 else 3 * (w (x % 3)).2.2.2.2 (x / 3) k + x % 3)) = if (zp1 w c (z_add (w c) i a kd N) (x % 3)).2.2.2.2 (x / 3) k = 0 then 0 else 3 * (zp1 w c (z_add (w c) i a kd N) (x % 3)).2.2.2.2 (x / 3) k + x % 3
    by_cases e : x % 3 = c
    · have e3 : zp1 w c (z_add (w c) i a kd N) (x % 3) = z_add (w c) i a kd N := if_pos e
      rw [e3]
      show _ = if (if x / 3 = i then 0 else (w c).2.2.2.2 (x / 3) k) = 0 then 0 else 3 * (if x / 3 = i then 0 else (w c).2.2.2.2 (x / 3) k) + x % 3
      by_cases e2 : x / 3 = i
      · rw [if_pos e2, if_pos (by omega), if_pos rfl]
      · rw [if_neg e2, if_neg (by omega), e]
    · have e3 : zp1 w c (z_add (w c) i a kd N) (x % 3) = w (x % 3) := if_neg e
      rw [e3, if_neg (by omega)]
theorem zJ_ze {τ : Nat → zIn} {i c : Nat} (hc : c < 3) : z_zero (zJs τ) (3 * i + c) = zJs (zp1 τ c (z_zero (τ c) i)) := by
  funext x k
  show (if x = 3 * i + c then 0 else τ (x % 3) (x / 3) k) = (if x % 3 = c then z_zero (τ c) i else τ (x % 3)) (x / 3) k
  by_cases e : x % 3 = c
  · rw [if_pos e]
    show _ = if x / 3 = i then 0 else τ c (x / 3) k
    by_cases e2 : x / 3 = i
    · rw [if_pos e2, if_pos (by omega)]
    · rw [if_neg e2, if_neg (by omega), e]
  · rw [if_neg e, if_neg (by omega)]
theorem zJ_in {w : Nat → zSh} {i c : Nat} (hc : c < 3) : 3 * i + c ∈ (zJg w).1 ↔ i ∈ (w c).1 := by
  show _ ∈ (w 0).1.map (fun i => 3 * i) ++ ((w 1).1.map (fun i => 3 * i + 1) ++ (w 2).1.map (fun i => 3 * i + 2)) ↔ _
  simp only [List.mem_append, List.mem_map]
  have hcc : c = 0 ∨ c = 1 ∨ c = 2 := by omega
  constructor
  · rintro (⟨j, hj, e⟩ | ⟨j, hj, e⟩ | ⟨j, hj, e⟩)
    · have e1 : c = 0 := by omega
      have e2 : j = i := by omega
      subst e1; subst e2; exact hj
    · have e1 : c = 1 := by omega
      have e2 : j = i := by omega
      subst e1; subst e2; exact hj
    · have e1 : c = 2 := by omega
      have e2 : j = i := by omega
      subst e1; subst e2; exact hj
  · intro h
    rcases hcc with rfl | rfl | rfl
    · exact Or.inl ⟨i, h, rfl⟩
    · exact Or.inr (Or.inl ⟨i, h, rfl⟩)
    · exact Or.inr (Or.inr ⟨i, h, rfl⟩)
theorem zJ_wf {w : Nat → zSh} (h : ∀ c, c < 3 → z_wf (w c)) : z_wf (zJg w) := by
  intro j hj k
  have hc : j % 3 < 3 := Nat.mod_lt _ (by decide)
  have ej : 3 * (j / 3) + j % 3 = j := by omega
  rw [← ej, zJ_in hc] at hj
  show (if (w (j % 3)).2.2.2.2 (j / 3) k = 0 then 0 else 3 * (w (j % 3)).2.2.2.2 (j / 3) k + j % 3) = 0 ∨ (if (w (j % 3)).2.2.2.2 (j / 3) k = 0 then 0 else 3 * (w (j % 3)).2.2.2.2 (j / 3) k + j % 3) ∈ (zJg w).1
  by_cases e : (w (j % 3)).2.2.2.2 (j / 3) k = 0
  · rw [if_pos e]; exact Or.inl rfl
  · rw [if_neg e, zJ_in hc]
    rcases h _ hc _ hj k with q | q
    · exact absurd q e
    · exact Or.inr q
theorem zfresh : ∀ L : List Nat, ∃ m, ∀ x ∈ L, x < m
  | [] => ⟨0, fun x hx => absurd hx List.not_mem_nil⟩
  | a :: L => by
    obtain ⟨m, h⟩ := zfresh L
    refine ⟨m + a + 1, fun x hx => ?_⟩
    rcases List.mem_cons.mp hx with rfl | hx
    · omega
    · have := h x hx; omega
section
variable {ao ai ad : Nat} {κ : zIn} {n : Nat → Nat} {g2 : zSh} {σ2 : zIn} {w : Nat → zSh} {τ : Nat → zIn}
theorem zLc.wfJ (h : zLc ao ai ad κ n g2 σ2 w τ) : z_wf (zJg w) := zJ_wf (fun c hc => by
  have hcc : c = 0 ∨ c = 1 ∨ c = 2 := by omega
  rcases hcc with rfl | rfl | rfl
  · exact h.1.wf
  · exact h.2.1.wf
  · rw [h.2.2.2.2.1]; exact h.2.2.2.2.2.2.2.2)
/-- a new array of the law's own -/
theorem zLc.add (h : zLc ao ai ad κ n g2 σ2 w τ) {i : Nat} (hi : i ∉ g2.1) (a N : Nat) : z_add (zJg w) (3 * i + 2) a (10 + 0) N = zJg (zp1 w 2 (z_add g2 i a (10 + 0) N)) ∧ z_zero (zJs τ) (3 * i + 2) = zJs (zp1 τ 2 (z_zero σ2 i)) ∧ zLc ao ai ad κ n (z_add g2 i a (10 + 0) N) (z_zero σ2 i) (zp1 w 2 (z_add g2 i a (10 + 0) N)) (zp1 τ 2 (z_zero σ2 i)) ∧ 3 * i + 2 ∉ (zJg w).1 ∧ z_ar (z_add g2 i a (10 + 0) N) i 0 N ∧ (z_add g2 i a (10 + 0) N).2.1 i = a := by
  obtain ⟨h1, h2, h3, h4, h5, h6, h7, h8, h9⟩ := h
  have hi1 : 1 ≠ i := fun e => hi (e ▸ h7.1)
  refine ⟨?_, ?_, ⟨h1, h2, h3, h4, rfl, rfl, ?_, ?_, z_wf_add h9⟩, ?_, ?_, if_pos rfl⟩
  · rw [zJ_add (by decide) (fun e => absurd e (by decide)) (fun e => absurd e (by decide)), h5]
  · rw [zJ_ze (by decide), h6]
  · exact ⟨List.mem_append_left _ h7.1, (if_neg hi1).trans h7.2.1, (if_neg hi1).trans h7.2.2⟩
  · exact (if_neg hi1).trans h8
  · rw [zJ_in (by decide), h5]; exact hi
  · exact ⟨List.mem_append_right _ (List.mem_singleton.mpr rfl), if_pos rfl, if_pos rfl⟩
theorem zLc.arx (h : zLc ao ai ad κ n g2 σ2 w τ) {i N : Nat} (ha : z_ar g2 i 0 N) : z_ar (zJg w) (3 * i + 2) 0 N := zJ_ar (by decide) (by rw [h.2.2.2.2.1]; exact ha)
theorem zLc.dax (h : zLc ao ai ad κ n g2 σ2 w τ) {i a : Nat} (ha : g2.2.1 i = a) : (zJg w).2.1 (3 * i + 2) = a := by
  rw [zJ_ad (by decide), h.2.2.2.2.1]; exact ha
theorem zLc.sdx (h : zLc ao ai ad κ n g2 σ2 w τ) {i : Nat} : zJs τ (3 * i + 2) = σ2 i := by
  show τ ((3 * i + 2) % 3) ((3 * i + 2) / 3) = _
  rw [z3m i 2 (by decide), z3d i 2 (by decide), h.2.2.2.2.2.1]
theorem zLc.upx (h : zLc ao ai ad κ n g2 σ2 w τ) {i : Nat} (k : Nat) (v : Int32) : zLc ao ai ad κ n g2 (z_up σ2 i k v) w (zp1 τ 2 (z_up (τ 2) i k v)) := by
  obtain ⟨h1, h2, h3, h4, h5, h6, h7⟩ := h
  exact ⟨h1, h2, h3, h4, h5, by rw [zp1_at, h6], h7⟩
end
