/-! what the law asks of the answers: books -/
def zDf (σ2 κ : zIn) (n : Nat → Nat) : Prop := n 0 = 5 ∧ n 3 = 4 ∧ n 4 = 5 ∧ σ2 1 0 = nI (n 3) ∧ σ2 1 1 = nI (n 4) ∧ σ2 1 2 = nI (n 1) ∧ σ2 1 3 = nI (n 6) ∧ σ2 1 4 = nI (n 5) ∧ σ2 1 5 = nI (n 2) ∧ ∀ k, k < n 1 → σ2 1 (8 + k) = κ 4 k
def zStp (ao ai ad top : Nat) : Option Value → zSh → zIn → Prop := fun v G S => ∃ κ n g2 σ2 w τ, v = some (.int (nI 1)) ∧ G = zJg w ∧ S = zJs τ ∧ zLc ao ai ad κ n g2 σ2 w τ ∧ zDf σ2 κ n ∧ n 7 ≤ top
theorem zRk_Y {nms : List String} {k : Nat} {κ : zIn} {n : Nat → Nat} {ok : zRl9} {r : Int32} {κ' : zIn} {n' : Nat → Nat} (hk : k = 0 ∨ zXk nms k zIY) (h : zRk nms k κ n ok r κ' n') : (k = 0 ∧ ok r κ' n') ∨ (k ≠ 0 ∧ r = -2000000003 ∧ κ' = κ ∧ n' = n) := by
  rcases h with h | ⟨h1, h2, E, hE, h4⟩
  · exact Or.inl h
  · rcases hk with h0 | hY
    · obtain ⟨j, e1, e2⟩ := hE
      omega
    · rw [zXk_u hE hY] at h4
      obtain ⟨j, e1, e2⟩ := hY
      exact Or.inr ⟨by omega, h4.trans zcd_Y, h1, h2⟩
/-- the last entry that is the word -/
def zlst (C : Nat → Int32) (w : Int32) : Nat → Int32
  | 0 => -1
  | k + 1 => if C k = w then nI k else zlst C w k
theorem zlst_y {C : Nat → Int32} {w : Int32} {k : Nat} (h : C k = w) : zlst C w (k + 1) = nI k := if_pos h
theorem zlst_n {C : Nat → Int32} {w : Int32} {k : Nat} (h : ¬ C k = w) : zlst C w (k + 1) = zlst C w k := if_neg h
theorem zlst_or {C : Nat → Int32} {w : Int32} : ∀ k, (zlst C w k = -1 ∧ ∀ j, j < k → C j ≠ w) ∨ ∃ j, j < k ∧ C j = w ∧ zlst C w k = nI j
  | 0 => Or.inl ⟨rfl, fun j hj => absurd hj (Nat.not_lt_zero _)⟩
  | k + 1 => by
    by_cases q : C k = w
    · exact Or.inr ⟨k, by omega, q, zlst_y q⟩
    · rcases zlst_or (C := C) (w := w) k with ⟨h1, h2⟩ | ⟨j, h1, h2, h3⟩
      · refine Or.inl ⟨(zlst_n q).trans h1, fun j hj => ?_⟩
        by_cases e : j = k
        · subst e; exact q
        · exact h2 j (by omega)
      · exact Or.inr ⟨j, by omega, h2, (zlst_n q).trans h3⟩
theorem zp_self (x : Int32) : zp x x = 0 := by
  have : ∀ k, zpk x x k = 0 := by
    intro k
    induction k with
    | zero => rfl
    | succ k ih => rw [zpk_y rfl, ih]
  exact this 5
theorem zcnt_is {j : Nat} : ∀ m, zcnt (fun k => k = j) m = if j < m then 1 else 0
  | 0 => by rw [if_neg (Nat.not_lt_zero _)]; rfl
  | m + 1 => by
    by_cases e : m = j
    · rw [zcnt_y (P := fun k => k = j) e, zcnt_is m, if_neg (by omega), if_pos (by omega)]
    · rw [zcnt_n (P := fun k => k = j) e, zcnt_is m]
      by_cases q : j < m
      · rw [if_pos q, if_pos (by omega)]
      · rw [if_neg q, if_neg (by omega)]
section
variable {C : Nat → Int32} {ne : Nat} {w : Int32} {κ : zIn} {n : Nat → Nat} {r : Int32}
theorem zP_eq {j : Nat} (hD : ∀ j k, j < k → k < ne → 2 ≤ zp (C k) (C j)) (hj : j < ne) (e : C j = w) {k : Nat} (hk : k < ne) : zP C ne w k ↔ k = j := by
  refine ⟨fun h => ?_, fun h => Or.inl (by rw [h]; exact e)⟩
  rcases h with h | ⟨h, -⟩
  · have e2 : C k = C j := h.trans e.symm
    rcases Nat.lt_trichotomy k j with q | q | q
    · have := hD k j q hj
      rw [e2, zp_self] at this; omega
    · exact q
    · have := hD j k q hk
      rw [e2, zp_self] at this; omega
  · exact absurd e (h j hj)
theorem zca_1 {j : Nat} (hD : ∀ j k, j < k → k < ne → 2 ≤ zp (C k) (C j)) (hj : j < ne) (e : C j = w) : zcnt (zP C ne w) ne = 1 := by
  rw [zcnt_congr (Q := fun k => k = j) (fun k hk => zP_eq hD hj e hk), zcnt_is, if_pos hj]
theorem zca_r {j : Nat} (hD : ∀ j k, j < k → k < n 1 → 2 ≤ zp (κ 4 k) (κ 4 j)) (hj : j < n 1) (e : κ 4 j = w) (h : zcaP κ n w (nI 0) r) : r = nI j := by
  rcases h with ⟨h1, -⟩ | ⟨k, hk, hp, hx, rfl⟩
  · rw [zca_1 hD hj e] at h1; exact absurd h1 (by decide)
  · rw [(zP_eq hD hj e hk).mp hp]
theorem zca_end (hne : n 1 ≤ 40) (h : zcaP κ n w (nI (zcnt (zP (κ 4) (n 1) w) (n 1))) r) : r = -1 := by
  rcases h with ⟨-, h2⟩ | ⟨k, hk, hp, hx, rfl⟩
  · exact h2
  · have h1 := zcnt_lt hk hp
    have h2 := zcnt_le (zP (κ 4) (n 1) w) (n 1)
    have := (nI_eq (by omega) (by omega)).mp hx
    omega
theorem zca_at (hne : n 1 ≤ 40) {i : Nat} (hi : i < zcnt (zP (κ 4) (n 1) w) (n 1)) (h : zcaP κ n w (nI i) r) : ∃ k, k < n 1 ∧ zP (κ 4) (n 1) w k ∧ i = zcnt (zP (κ 4) (n 1) w) k ∧ r = nI k := by
  have h2 := zcnt_le (zP (κ 4) (n 1) w) (n 1)
  rcases h with ⟨h1, -⟩ | ⟨k, hk, hp, hx, rfl⟩
  · rw [zin_nI hi (by omega)] at h1; exact absurd h1 (by decide)
  · have h3 := zcnt_lt hk hp
    exact ⟨k, hk, hp, (nI_eq (by omega) (by omega)).mp hx, rfl⟩
/-- candidates stand in the order of their entries -/
theorem zca_up {P : Nat → Prop} {k t i : Nat} (h1 : i + 1 = zcnt P k) (h2 : i = zcnt P t) : t < k := by
  rcases Nat.lt_or_ge t k with q | q
  · exact q
  · have := zcnt_mono P q
    omega
theorem zP_2 {k : Nat} (hn : ∀ j, j < ne → C j ≠ w) (hk : k < ne) (h : zP C ne w k) : zp (C k) w ≤ 2 := by
  rcases h with h | ⟨-, h | h⟩
  · exact absurd h (hn k hk)
  · rw [zp_sym]; omega
  · have := h.1
    rw [zp_sym]; omega
end
/-- is one of the first near to the word -/
def zNb (C : Nat → Int32) (w : Int32) : Nat → Bool
  | 0 => false
  | k + 1 => zNb C w k || decide (zp (C k) w < 2)
theorem zNb_1 {C : Nat → Int32} {w : Int32} {k : Nat} (h : zNb C w k = true) : zNb C w (k + 1) = true := by simp only [zNb, h, Bool.true_or]
theorem zNb_2 {C : Nat → Int32} {w : Int32} {k : Nat} (h : zp (C k) w < 2) : zNb C w (k + 1) = true := by simp only [zNb, decide_eq_true h, Bool.or_true]
theorem zNb_3 {C : Nat → Int32} {w : Int32} {k : Nat} (h1 : zNb C w k = false) (h : ¬ zp (C k) w < 2) : zNb C w (k + 1) = false := by simp only [zNb, h1, decide_eq_false h, Bool.or_false]
theorem zNb_f {C : Nat → Int32} {w : Int32} : ∀ k, (∀ j, j < k → ¬ zp (C j) w < 2) → zNb C w k = false
  | 0, _ => rfl
  | k + 1, h => zNb_3 (zNb_f k (fun j hj => h j (by omega))) (h k (by omega))
def zAB (A B : Int32) : Prop := (A = -1 ∧ B = -1) ∨ ∃ a, a < 5 ∧ A = nI a ∧ (B = -1 ∨ ∃ b, b < 5 ∧ B = nI b)
theorem zino_n {k m : Nat} (h : k < m) (hk : k < 2 ^ 31) : zino (nI k) m = true := by
  unfold zino; rw [zin_nI h hk, Bool.or_true]
theorem znn1 {k : Nat} (h : k < 2 ^ 31) : nI k ≠ -1 := fun e => nI_not_neg h (by rw [e]; decide)
theorem zx_ent {κ : zIn} {ne W s : Nat} {A B : Int32} (hW : W < 11881376) (hs : s < 5) (hA : zAB A B) : zx_entry κ 5 ne (nI W) (nI s) A B (-1) = zif (zsame κ ne (nI s) A B (-1) ∨ znear κ ne (nI W) ∨ ne = 40) 3 0 := by
  have hw : ¬ (nI W < 0 ∨ 11881375 < nI W) := by
    have := zwd_in (w := nI W) ⟨W, hW, rfl⟩
    unfold zx_cands at this
    intro q
    rw [if_pos q] at this; exact absurd this (by decide)
  unfold zx_entry
  rcases hA with ⟨rfl, rfl⟩ | ⟨a, ha, rfl, rfl | ⟨b, hb, rfl⟩⟩
  · rw [if_neg (fun q => q ⟨zin_nI hs (by omega), by decide, by decide, by decide⟩), if_neg ?_]
    rintro (q | ⟨-, q⟩ | ⟨-, q⟩)
    · exact hw q
    · exact q rfl
    · exact q rfl
  · rw [if_neg (fun q => q ⟨zin_nI hs (by omega), zino_n ha (by omega), by decide, by decide⟩), if_neg ?_]
    rintro (q | ⟨q, -⟩ | ⟨-, q⟩)
    · exact hw q
    · exact znn1 (by omega) q
    · exact q rfl
  · rw [if_neg (fun q => q ⟨zin_nI hs (by omega), zino_n ha (by omega), zino_n hb (by omega), by decide⟩), if_neg ?_]
    rintro (q | ⟨q, -⟩ | ⟨q, -⟩)
    · exact hw q
    · exact znn1 (by omega) q
    · exact znn1 (by omega) q
theorem zk_ent {κ : zIn} {n : Nat → Nat} {W s : Nat} {A B r : Int32} {κ' : zIn} {n' : Nat → Nat} (h0 : n 0 = 5) (hW : W < 11881376) (hs : s < 5) (hA : zAB A B) (h : zk_entry κ n (nI W) (nI s) A B (-1) r κ' n') :
    (r = nI (n 1) ∧ n 1 ≠ 40 ∧ zNb (κ 4) (nI W) (n 1) = false ∧ (∀ k, k < n 1 → κ' 4 k = κ 4 k) ∧ κ' 4 (n 1) = nI W ∧ n' = zud n 1 (n 1 + 1)) ∨ (r = -2000000003 ∧ κ' = κ ∧ n' = n) := by
  have e := zx_ent (κ := κ) (ne := n 1) hW hs hA
  rw [← h0] at e
  have hk : zx_entry κ (n 0) (n 1) (nI W) (nI s) A B (-1) = 0 ∨ zXk [zIO, zIX, zIY] (zx_entry κ (n 0) (n 1) (nI W) (nI s) A B (-1)) zIY := by
    rw [e]
    by_cases q : zsame κ (n 1) (nI s) A B (-1) ∨ znear κ (n 1) (nI W) ∨ n 1 = 40
    · rw [zif_t q]; exact Or.inr ⟨2, rfl, rfl⟩
    · rw [zif_f q]; exact Or.inl rfl
  rcases zRk_Y hk h with ⟨k0, rfl, rfl, rfl⟩ | ⟨-, h1⟩
  · rw [e] at k0
    have q : ¬ (zsame κ (n 1) (nI s) A B (-1) ∨ znear κ (n 1) (nI W) ∨ n 1 = 40) := fun q => by rw [zif_t q] at k0; exact absurd k0 (by decide)
    refine Or.inl ⟨rfl, fun q2 => q (Or.inr (Or.inr q2)), zNb_f _ (fun j hj q2 => q (Or.inr (Or.inl ⟨j, hj, by rw [zp_sym]; exact q2⟩))), fun k hk => ?_, ?_, rfl⟩
    · simp [z_up, show k ≠ n 1 by omega]
    · simp [z_up]
  · exact Or.inr h1
