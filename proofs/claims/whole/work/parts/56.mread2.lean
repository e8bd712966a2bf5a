/-! contract of the reference: read -/
theorem zplen_ex (Ph : Nat → Int32) (k : Nat) : ∃ q, zplen Ph k q := by
  by_cases h0 : Ph (4 * k) = -1
  · exact ⟨0, by omega, fun j hj => absurd hj (Nat.not_lt_zero _), fun _ => h0⟩
  by_cases h1 : Ph (4 * k + 1) = -1
  · exact ⟨1, by omega, fun j hj => by rw [show j = 0 by omega]; exact h0, fun _ => h1⟩
  by_cases h2 : Ph (4 * k + 2) = -1
  · exact ⟨2, by omega, fun j hj => by rcases (show j = 0 ∨ j = 1 by omega) with e | e <;> subst e; exact h0; exact h1, fun _ => h2⟩
  by_cases h3 : Ph (4 * k + 3) = -1
  · exact ⟨3, by omega, fun j hj => by rcases (show j = 0 ∨ j = 1 ∨ j = 2 by omega) with e | e | e <;> subst e; exact h0; exact h1; exact h2, fun _ => h3⟩
  exact ⟨4, by omega, fun j hj => by rcases (show j = 0 ∨ j = 1 ∨ j = 2 ∨ j = 3 by omega) with e | e | e | e <;> subst e; exact h0; exact h1; exact h2; exact h3, fun h => absurd h (by omega)⟩
theorem zplen_z {Ph : Nat → Int32} {k q i : Nat} (h : zplen Ph k q) (hNC : ∀ j, j < 3 → Ph (4 * k + j) = -1 → Ph (4 * k + j + 1) = -1) (hi : i < 4) (hq : q ≤ i) : Ph (4 * k + i) = -1 := by
  have : ∀ d, q + d < 4 → Ph (4 * k + (q + d)) = -1 := by
    intro d
    induction d with
    | zero => intro hd; exact h.2.2 hd
    | succ d ih => intro hd; exact hNC (q + d) (by omega) (ih (by omega))
  have := this (i - q) (by omega)
  rw [show q + (i - q) = i by omega] at this
  exact this
def zone (Ph : Nat → Int32) (ne : Nat) (me : Int32) (q : Nat) : Prop := (me = -1 ∧ q = 1) ∨ ∃ j, j < ne ∧ me = nI j ∧ zplen Ph j q
theorem zra_rd {ρ : zIn} {ne K : Nat} {w me : Int32} (hw : 0 ≤ w) (h : zra (ρ 4) ne K w me) : ∃ q, q ≤ 4 ∧ zone (ρ 5) ne me q ∧ zrd1 ρ ne K w me q := by
  rcases h with ⟨h1, h2⟩ | ⟨h1, k, j, hk, hp, hj, hje, hr⟩
  · exact ⟨1, by omega, Or.inl ⟨h2, rfl⟩, Or.inr ⟨hw, -1, Or.inr ⟨h1, rfl⟩, Or.inl ⟨rfl, h2, rfl⟩⟩⟩
  · obtain ⟨q, hq⟩ := zplen_ex (ρ 5) j
    exact ⟨q, hq.1, Or.inr ⟨j, hj, hr, hq⟩, Or.inr ⟨hw, nI k, Or.inl ⟨h1, k, hk, hp, rfl⟩, Or.inr ⟨k, j, hk, rfl, hj, hje, hr, hq⟩⟩⟩
set_option maxHeartbeats 4000000 in
set_option maxRecDepth 100000 in
theorem tX9_read {l : Launch} {D : va_G} {cy : Nat → ClassId} {z0 : Nat} {g : zSh} {σ : zIn} {nm ne no : Nat} {W ky tt : Nat → Nat} {ρ : zIn} (xq yq : Int32) (hS : zS g) (hnm : σ 21 27 = nI nm) (hn60 : nm ≤ 60) (hW : ∀ m, m < nm → σ 45 m = nI (W m) ∧ W m ≤ 24) (he : σ 21 2 = nI ne) (he2 : ne ≤ 40) (hC : ∀ k, k < ne → zwd (σ 23 k)) (hNC : ∀ k, k < ne → ∀ j, j < 3 → σ 24 (4 * k + j) = -1 → σ 24 (4 * k + j + 1) = -1) (hn8 : no ≤ 8) (hky : ∀ o, o < no → σ 26 o = nI (ky o) ∧ ky o ≤ 39) (hto : ∀ m, m < nm → σ 42 m = nI (tt m) ∧ tt m < no) (hnw : ∀ m, m < nm → ∀ k, k < W m → 0 ≤ σ 50 (24 * m + k) → zwd (σ 51 (24 * m + k))) (hsg : ∀ m, m < nm → ∀ k, k < W m → (0 ≤ σ 50 (24 * m + k) ↔ 0 ≤ σ 51 (24 * m + k))) (e4 : σ 23 = ρ 4) (e5 : σ 24 = ρ 5) (e51 : ∀ m, m < nm → ∀ k, k < W m → σ 51 (24 * m + k) = ρ (400 + m) k) : z_Ct l D cy z0 MX9_read [.ref (g.2.1 21), .int xq, .int yq] g σ (fun v g' σ' => g' = g ∧ ∃ r, v = some (.int r) ∧ zMP (zx_read nm xq yq) σ σ' ((∃ m2 p2 me ql, m2 < nm ∧ xq = nI m2 ∧ yq = nI p2 ∧ p2 < 2 ^ 31 ∧ zrdA ρ ne (ky (tt m2)) m2 (W m2) p2 me ql r) ∧ σ' = z_up σ 21 48 0)) := by
  refine z_ofM (by decide) (z_cr (z_ci (z_ci z_c0))) (Nat.le_of_ble_eq_true rfl) ?_
  intro p e s m args below meth c X
  refine z_aload_n X dX9_read_0 rfl ?_
  refine z_aload_n X dX9_read_1 rfl ?_
  refine z_iload_n X dX9_read_2 rfl ?_
  refine z_runV X kX9_257 (tX9_isMessage _ hS hnm (by omega)) (zso_21 hS) rfl rfl (Nat.le_of_ble_eq_true rfl) ⟨by decide, by decide⟩ ⟨by decide, by decide⟩ dX9_read_3 ?_
  rintro _ g1 s1 ⟨rfl, h8, h9⟩
  replace h8 := h8.symm
  subst h8
  replace h9 := h9.symm
  subst h9
  refine z_if_eq (tgt := 17) X dX9_read_6 (by decide) (fun c_6 => ?_) (fun c_6 => ?_)
  · skip
    try simp (disch := omega) only [zb_notn, zb_not, zb_n0, zb_0, Bool.not_eq_false, Bool.not_eq_true, Bool.not_eq_true', Bool.not_eq_false', decide_eq_true_eq, decide_eq_false_iff_not, Classical.not_not] at c_6
    refine z_iconst (v := nI 0) X (by decide) dX9_read_17 ?_
    refine z_runV X kX9_150 (tX9_asks false hS) (zso_21 hS) rfl rfl (Nat.le_of_ble_eq_true rfl) ⟨by decide, by decide⟩ ⟨by decide, by decide⟩ dX9_read_18 ?_
    rintro _ g1 s1 ⟨rfl, h8, h9⟩
    replace h8 := h8.symm
    subst h8
    replace h9 := h9.symm
    subst h9
    refine z_if_ne (tgt := 26) X dX9_read_21 (by decide) (fun c_21 => ?_) (fun c_21 => ?_)
    · first | exact absurd c_21 (by decide) | exact absurd (by decide) c_21
    · skip
      refine z_iconst (v := 0) X (by decide) dX9_read_24 ?_
      refine z_iret X (by decide) (by decide) rfl dX9_read_25 ?_
      exact ⟨rfl, _, rfl, zMP_1 (j := 0) (by unfold zx_read; rw [if_pos (fun q => by first | exact absurd q.1 (by rw [c_6]; decide) | exact Int32.not_le.mpr c_10 q.2)]) rfl⟩
  · skip
    try simp (disch := omega) only [zb_notn, zb_not, zb_n0, zb_0, Bool.not_eq_false, Bool.not_eq_true, Bool.not_eq_true', Bool.not_eq_false', decide_eq_true_eq, decide_eq_false_iff_not, Classical.not_not] at c_6
    refine z_iload_n X dX9_read_9 rfl ?_
    refine z_if_lt (tgt := 17) X dX9_read_10 (by decide) (fun c_10 => ?_) (fun c_10 => ?_)
    · skip
      refine z_iconst (v := nI 0) X (by decide) dX9_read_17 ?_
      refine z_runV X kX9_150 (tX9_asks false hS) (zso_21 hS) rfl rfl (Nat.le_of_ble_eq_true rfl) ⟨by decide, by decide⟩ ⟨by decide, by decide⟩ dX9_read_18 ?_
      rintro _ g1 s1 ⟨rfl, h8, h9⟩
      replace h8 := h8.symm
      subst h8
      replace h9 := h9.symm
      subst h9
      refine z_if_ne (tgt := 26) X dX9_read_21 (by decide) (fun c_21 => ?_) (fun c_21 => ?_)
      · first | exact absurd c_21 (by decide) | exact absurd (by decide) c_21
      · skip
        refine z_iconst (v := 0) X (by decide) dX9_read_24 ?_
        refine z_iret X (by decide) (by decide) rfl dX9_read_25 ?_
        exact ⟨rfl, _, rfl, zMP_1 (j := 0) (by unfold zx_read; rw [if_pos (fun q => by first | exact absurd q.1 (by rw [c_6]; decide) | exact Int32.not_le.mpr c_10 q.2)]) rfl⟩
    · skip
      refine z_iconst (v := nI 1) X (by decide) dX9_read_13 ?_
      refine z_goto (tgt := 18) X dX9_read_14 (by decide) ?_
      refine z_runV X kX9_150 (tX9_asks true hS) (zso_21 hS) rfl rfl (Nat.le_of_ble_eq_true rfl) ⟨by decide, by decide⟩ ⟨by decide, by decide⟩ dX9_read_18 ?_
      rintro _ g1 s1 ⟨rfl, h8, h9⟩
      replace h8 := h8.symm
      subst h8
      replace h9 := h9.symm
      subst h9
      refine z_if_ne (tgt := 26) X dX9_read_21 (by decide) (fun c_21 => ?_) (fun c_21 => ?_)
      · skip
        obtain ⟨m9, hm9, rfl⟩ := zin_t c_6 (by omega)
        obtain ⟨p9, hp9, rfl⟩ := nI_of c_10
        have hL24 := (hW m9 hm9).2
        obtain ⟨τ, hτ⟩ : ∃ q, q = z_up σ 21 48 0 := ⟨_, rfl⟩
        rw [show z_up σ 21 48 (if true = true then 0 else 1) = τ from hτ.symm]
        have eτ : ∀ i, i ≠ 21 → τ i = σ i := fun i h => by rw [hτ, z_up_ne h]
        have eτ1 : ∀ k, k ≠ 48 → τ 21 k = σ 21 k := fun k h => by rw [hτ, z_up_app, if_pos rfl, if_neg h]
        have e45 : τ 45 m9 = nI (W m9) := by rw [eτ 45 (by decide)]; exact (hW m9 hm9).1
        have heτ : τ 21 2 = nI ne := (eτ1 2 (by decide)).trans he
        have hCτ : ∀ k, k < ne → zwd (τ 23 k) := by rw [eτ 23 (by decide)]; exact hC
        have hNCτ : ∀ k, k < ne → ∀ j, j < 3 → τ 24 (4 * k + j) = -1 → τ 24 (4 * k + j + 1) = -1 := by rw [eτ 24 (by decide)]; exact hNC
        refine z_iload_n X dX9_read_26 rfl ?_
        refine z_istore_n X dX9_read_27 (by decide) ?_
        have loop_31 : ∀ (n : Nat) (k : Nat) (v5 v6 v7 : Option Value) (me : Nat → Int32) (ql : Nat → Nat) (hk : k ≤ W m9) (hpre : ∀ i, i < k → zrd1 ρ ne (ky (tt m9)) (ρ (400 + m9) i) (me i) (ql i)) (hb : zsum ql k ≤ p9) (hn : W m9 - k < n), z_V p l e (zRm MX9_read) s m args below meth c 8 D cy z0 0 0 (zQm MX9_read below D cy z0 (fun v g' σ' => g' = g ∧ ∃ r, v = some (.int r) ∧ zMP (zx_read nm (nI m9) (nI p9)) σ σ' ((∃ m2 p2 me ql, m2 < nm ∧ (nI m9) = nI m2 ∧ (nI p9) = nI p2 ∧ p2 < 2 ^ 31 ∧ zrdA ρ ne (ky (tt m2)) m2 (W m2) p2 me ql r) ∧ σ' = z_up σ 21 48 0)) args s) 31 [some (.ref (g.2.1 21)), some (.int (nI m9)), some (.int (nI p9)), some (.int (nI (p9 - zsum ql k))), some (.int (nI k)), v5, v6, v7] [] g τ := by
          intro n
          induction n with
          | zero => intro k v5 v6 v7 me ql hk hpre hb hn; exact absurd hn (Nat.not_lt_zero _)
          | succ n ih_31 =>
            intro k v5 v6 v7 me ql hk hpre hb hn
            refine z_iload X dX9_read_31 rfl ?_
            refine z_aload_n X dX9_read_33 rfl ?_
            refine z_getr2 X fX9_80 (zso_21 hS) (zsr_21_32 hS) rfl dX9_read_34 ?_
            refine z_iload_n X dX9_read_37 rfl ?_
            refine z_ialdN X (zsa_45 hS) (by omega) (by omega) dX9_read_38 ?_
            rw [e45]
            refine z_icmp_ge (tgt := 170) X dX9_read_39 (by decide) (fun c_39 => ?_) (fun c_39 => ?_)
            · skip
              try simp (disch := omega) only [zk0, nI_leI, nI_ltI, nI_eq, zbk_notn, zbk_not, zbk_n0, zbk_0, zb_0, zb_n0, zb_not, zb_notn, Bool.not_eq_false, Bool.not_eq_true, Bool.not_eq_true', Bool.not_eq_false', decide_eq_true_eq, decide_eq_false_iff_not, Classical.not_not] at c_39
              refine z_iconst (v := -1) X (by decide) dX9_read_170 ?_
              refine z_iret X (by decide) (by decide) rfl dX9_read_171 ?_
              have e : W m9 = k := by omega
              exact ⟨rfl, _, rfl, Or.inr ⟨by unfold zx_read; rw [if_neg (fun q => q ⟨c_6, Int32.not_lt.mp c_10⟩)], ⟨m9, p9, me, ql, hm9, rfl, rfl, hp9, Or.inl ⟨by rw [e]; exact hb, rfl, fun i hi => hpre i (by omega)⟩⟩, hτ⟩⟩
            · skip
              try simp (disch := omega) only [zk0, nI_leI, nI_ltI, nI_eq, zbk_notn, zbk_not, zbk_n0, zbk_0, zb_0, zb_n0, zb_not, zb_notn, Bool.not_eq_false, Bool.not_eq_true, Bool.not_eq_true', Bool.not_eq_false', decide_eq_true_eq, decide_eq_false_iff_not, Classical.not_not] at c_39
              refine z_aload_n X dX9_read_42 rfl ?_
              refine z_iload_n X dX9_read_43 rfl ?_
              refine z_iload X dX9_read_44 rfl ?_
              refine z_runV X kX9_260 (tX9_isCodeAt m9 k hS (by omega) (by omega)) (zso_21 hS) rfl rfl (Nat.le_of_ble_eq_true rfl) ⟨by decide, by decide⟩ ⟨by decide, by decide⟩ dX9_read_46 ?_
              rintro _ g1 s1 ⟨rfl, h8, h9⟩
              replace h8 := h8.symm
              subst h8
              replace h9 := h9.symm
              subst h9
              rw [eτ 50 (by decide)]
              refine z_if_ne (tgt := 79) X dX9_read_49 (by decide) (fun c_49 => ?_) (fun c_49 => ?_)
              · skip
                try simp (disch := omega) only [zb_notn, zb_not, zb_n0, zb_0, Bool.not_eq_false, Bool.not_eq_true, Bool.not_eq_true', Bool.not_eq_false', decide_eq_true_eq, decide_eq_false_iff_not, Classical.not_not] at c_49
                have hcw : 0 ≤ ρ (400 + m9) k := by rw [← e51 m9 hm9 k (by omega)]; exact (hsg m9 hm9 k (by omega)).mp c_49
                obtain ⟨V, hV, eV⟩ := hnw m9 hm9 k (by omega) c_49
                have eVr : nI V = ρ (400 + m9) k := by rw [← eV]; exact e51 m9 hm9 k (by omega)
                refine z_aload_n X dX9_read_79 rfl ?_
                refine z_iload_n X dX9_read_80 rfl ?_
                refine z_iload X dX9_read_81 rfl ?_
                refine z_runV X kX9_271 (tX9_readAs (tt := tt m9) m9 k V hS heτ he2 hCτ (by omega) (by omega) (by rw [eτ 51 (by decide)]; exact eV) hV (by rw [eτ 42 (by decide)]; exact (hto m9 hm9).1) (by have := (hto m9 hm9).2; omega) (by rw [eτ 26 (by decide)]; exact (hky (tt m9) (hto m9 hm9).2).1) (hky (tt m9) (hto m9 hm9).2).2) (zso_21 hS) rfl rfl (Nat.le_of_ble_eq_true rfl) ⟨by decide, by decide⟩ ⟨by decide, by decide⟩ dX9_read_83 ?_
                rintro _ g1 s1 ⟨me9, rfl, h8, h9, hra⟩
                replace h8 := h8.symm
                subst h8
                replace h9 := h9.symm
                subst h9
                rw [eτ 23 (by decide), e4, eVr] at hra
                obtain ⟨q9, hq4, hone, hz1⟩ := zra_rd hcw hra
                rw [← e5, ← eτ 24 (by decide)] at hone
                have hx9 := zrd_ext (P := fun i a b => zrd1 ρ ne (ky (tt m9)) (ρ (400 + m9) i) a b) hpre (show zrd1 ρ ne (ky (tt m9)) (ρ (400 + m9) k) me9 q9 from hz1)
                refine z_istore X dX9_read_86 (by decide) ?_
                have loop_91 : ∀ (n : Nat) (i9 : Nat) (v7 : Option Value) (hi : i9 ≤ 4) (hle : min i9 q9 ≤ p9 - zsum ql k) (hn : 4 - i9 < n), z_V p l e (zRm MX9_read) s m args below meth c 8 D cy z0 0 0 (zQm MX9_read below D cy z0 (fun v g' σ' => g' = g ∧ ∃ r, v = some (.int r) ∧ zMP (zx_read nm (nI m9) (nI p9)) σ σ' ((∃ m2 p2 me ql, m2 < nm ∧ (nI m9) = nI m2 ∧ (nI p9) = nI p2 ∧ p2 < 2 ^ 31 ∧ zrdA ρ ne (ky (tt m2)) m2 (W m2) p2 me ql r) ∧ σ' = z_up σ 21 48 0)) args s) 91 [some (.ref (g.2.1 21)), some (.int (nI m9)), some (.int (nI p9)), some (.int (nI (p9 - zsum ql k - min i9 q9))), some (.int (nI k)), some (.int me9), some (.int (nI i9)), v7] [] g τ := by
                  intro n
                  induction n with
                  | zero => intro i9 v7 hi hle hn; exact absurd hn (Nat.not_lt_zero _)
                  | succ n ih_91 =>
                    intro i9 v7 hi hle hn
                    refine z_iload X dX9_read_91 rfl ?_
                    refine z_iconst (v := nI 4) X (by decide) dX9_read_93 ?_
                    refine z_icmp_ge (tgt := 164) X dX9_read_94 (by decide) (fun c_94 => ?_) (fun c_94 => ?_)
                    · skip
                      try simp (disch := omega) only [zk0, nI_leI, nI_ltI, nI_eq, zbk_notn, zbk_not, zbk_n0, zbk_0, zb_0, zb_n0, zb_not, zb_notn, Bool.not_eq_false, Bool.not_eq_true, Bool.not_eq_true', Bool.not_eq_false', decide_eq_true_eq, decide_eq_false_iff_not, Classical.not_not] at c_94
                      refine z_inc1 X dX9_read_164 rfl (by decide) ?_
                      refine z_goto (tgt := 31) X dX9_read_167 (by decide) ?_
                      first
                      | (have e31 := fun a b c => ih_31 (k + 1) a b c (zudI me k (-1)) (zud ql k 1) (by omega) hx9 (by rw [zud_sum1]; omega) (by omega); rw [zud_sum1, show p9 - (zsum ql k + 1) = p9 - zsum ql k - 1 by omega] at e31; rw [zpm_m, show nI (p9 - zsum ql k) - 1 = nI (p9 - zsum ql k - 1) from by rw [show p9 - zsum ql k = (p9 - zsum ql k - 1) + 1 by omega, zpm_s]; rfl]; exact e31 _ _ _)
                      | (have e31 := fun a b c => ih_31 (k + 1) a b c (zudI me k me9) (zud ql k q9) (by omega) hx9 (by rw [zud_sum1]; omega) (by omega); rw [zud_sum1, show p9 - (zsum ql k + q9) = p9 - zsum ql k - min i9 q9 by omega] at e31; exact e31 _ _ _)
                    · skip
                      try simp (disch := omega) only [zk0, nI_leI, nI_ltI, nI_eq, zbk_notn, zbk_not, zbk_n0, zbk_0, zb_0, zb_n0, zb_not, zb_notn, Bool.not_eq_false, Bool.not_eq_true, Bool.not_eq_true', Bool.not_eq_false', decide_eq_true_eq, decide_eq_false_iff_not, Classical.not_not] at c_94
                      refine z_iload X dX9_read_97 rfl ?_
                      refine z_iconst (v := -1) X (by decide) dX9_read_99 ?_
                      refine z_icmp_ne (tgt := 117) X dX9_read_100 (by decide) (fun c_100 => ?_) (fun c_100 => ?_)
                      · skip
                        obtain ⟨j9, hj9, hme, hpl⟩ : ∃ j9, j9 < ne ∧ me9 = nI j9 ∧ zplen (τ 24) j9 q9 := by rcases hone with q | q; exact absurd q.1 c_100; exact q
                        subst hme
                        have hpl4 := hpl.1
                        refine z_aload_n X dX9_read_117 rfl ?_
                        refine z_getr2 X fX9_16 (zso_21 hS) (zsr_21_4 hS) rfl dX9_read_118 ?_
                        refine z_iconst (v := nI 4) X (by decide) dX9_read_121 ?_
                        refine z_iload X dX9_read_122 rfl ?_
                        refine z_imulN X dX9_read_124 ?_
                        refine z_iload X dX9_read_125 rfl ?_
                        refine z_iaddN X dX9_read_127 ?_
                        refine z_ialdN X (zsa_24 hS) (by omega) (by omega) dX9_read_128 ?_
                        refine z_istore X dX9_read_129 (by decide) ?_
                        refine z_iload X dX9_read_131 rfl ?_
                        refine z_iconst (v := -1) X (by decide) dX9_read_133 ?_
                        refine z_icmp_eq (tgt := 144) X dX9_read_134 (by decide) (fun c_134 => ?_) (fun c_134 => ?_)
                        · skip
                          refine z_iload_n X dX9_read_144 rfl ?_
                          refine z_iload X dX9_read_145 rfl ?_
                          refine z_iconst (v := -1) X (by decide) dX9_read_147 ?_
                          refine z_icmp_ne (tgt := 155) X dX9_read_148 (by decide) (fun c_148 => ?_) (fun c_148 => ?_)
                          · skip
                            have hlt3 : i9 < q9 := by first | exact hlt1 | exact absurd c_134 c_148
                            refine z_iconst (v := nI 1) X (by decide) dX9_read_155 ?_
                            refine z_isubN X (by first | omega | exact absurd c_134 c_148) dX9_read_156 ?_
                            refine z_istore_n X dX9_read_157 (by decide) ?_
                            refine z_inc1 X dX9_read_158 rfl (by decide) ?_
                            refine z_goto (tgt := 91) X dX9_read_161 (by decide) ?_
                            have e91 := fun v h => ih_91 (i9 + 1) v (by omega) h (by omega)
                            first
                            | (exfalso; exact c_148 c_134)
                            | (exfalso; exact c_134 c_148)
                            | (rw [show min (i9 + 1) q9 = min i9 q9 by omega] at e91; exact e91 _ (by omega))
                            | (rw [show p9 - zsum ql k - min (i9 + 1) q9 = p9 - zsum ql k - min i9 q9 - 1 by omega] at e91; exact e91 _ (by omega))
                          · skip
                            have hlt2 : ¬ i9 < q9 := by first | exact hlt | exact fun q => hpl.2.1 i9 q c_134 | exact absurd c_148 c_134
                            refine z_iconst (v := nI 0) X (by decide) dX9_read_151 ?_
                            refine z_goto (tgt := 156) X dX9_read_152 (by decide) ?_
                            refine z_isubN X (by first | omega | exact absurd c_134 c_148) dX9_read_156 ?_
                            refine z_istore_n X dX9_read_157 (by decide) ?_
                            refine z_inc1 X dX9_read_158 rfl (by decide) ?_
                            refine z_goto (tgt := 91) X dX9_read_161 (by decide) ?_
                            have e91 := fun v h => ih_91 (i9 + 1) v (by omega) h (by omega)
                            first
                            | (exfalso; exact c_148 c_134)
                            | (exfalso; exact c_134 c_148)
                            | (rw [show min (i9 + 1) q9 = min i9 q9 by omega] at e91; exact e91 _ (by omega))
                            | (rw [show p9 - zsum ql k - min (i9 + 1) q9 = p9 - zsum ql k - min i9 q9 - 1 by omega] at e91; exact e91 _ (by omega))
                        · skip
                          have hlt1 : i9 < q9 := by first | exact hlt | (apply Classical.byContradiction; intro q; exact c_134 (zplen_z hpl (hNCτ j9 hj9) (by omega) (by omega)))
                          refine z_iload_n X dX9_read_137 rfl ?_
                          refine z_if_ne (tgt := 144) X dX9_read_138 (by decide) (fun c_138 => ?_) (fun c_138 => ?_)
                          · skip
                            try simp (disch := omega) only [zk0, nI_leI, nI_ltI, nI_eq, zbk_notn, zbk_not, zbk_n0, zbk_0, zb_0, zb_n0, zb_not, zb_notn, Bool.not_eq_false, Bool.not_eq_true, Bool.not_eq_true', Bool.not_eq_false', decide_eq_true_eq, decide_eq_false_iff_not, Classical.not_not] at c_138
                            refine z_iload_n X dX9_read_144 rfl ?_
                            refine z_iload X dX9_read_145 rfl ?_
                            refine z_iconst (v := -1) X (by decide) dX9_read_147 ?_
                            refine z_icmp_ne (tgt := 155) X dX9_read_148 (by decide) (fun c_148 => ?_) (fun c_148 => ?_)
                            · skip
                              have hlt3 : i9 < q9 := by first | exact hlt1 | exact absurd c_134 c_148
                              refine z_iconst (v := nI 1) X (by decide) dX9_read_155 ?_
                              refine z_isubN X (by first | omega | exact absurd c_134 c_148) dX9_read_156 ?_
                              refine z_istore_n X dX9_read_157 (by decide) ?_
                              refine z_inc1 X dX9_read_158 rfl (by decide) ?_
                              refine z_goto (tgt := 91) X dX9_read_161 (by decide) ?_
                              have e91 := fun v h => ih_91 (i9 + 1) v (by omega) h (by omega)
                              first
                              | (exfalso; exact c_148 c_134)
                              | (exfalso; exact c_134 c_148)
                              | (rw [show min (i9 + 1) q9 = min i9 q9 by omega] at e91; exact e91 _ (by omega))
                              | (rw [show p9 - zsum ql k - min (i9 + 1) q9 = p9 - zsum ql k - min i9 q9 - 1 by omega] at e91; exact e91 _ (by omega))
                            · skip
                              have hlt2 : ¬ i9 < q9 := by first | exact hlt | exact fun q => hpl.2.1 i9 q c_134 | exact absurd c_148 c_134
                              refine z_iconst (v := nI 0) X (by decide) dX9_read_151 ?_
                              refine z_goto (tgt := 156) X dX9_read_152 (by decide) ?_
                              refine z_isubN X (by first | omega | exact absurd c_134 c_148) dX9_read_156 ?_
                              refine z_istore_n X dX9_read_157 (by decide) ?_
                              refine z_inc1 X dX9_read_158 rfl (by decide) ?_
                              refine z_goto (tgt := 91) X dX9_read_161 (by decide) ?_
                              have e91 := fun v h => ih_91 (i9 + 1) v (by omega) h (by omega)
                              first
                              | (exfalso; exact c_148 c_134)
                              | (exfalso; exact c_134 c_148)
                              | (rw [show min (i9 + 1) q9 = min i9 q9 by omega] at e91; exact e91 _ (by omega))
                              | (rw [show p9 - zsum ql k - min (i9 + 1) q9 = p9 - zsum ql k - min i9 q9 - 1 by omega] at e91; exact e91 _ (by omega))
                          · skip
                            try simp (disch := omega) only [zk0, nI_leI, nI_ltI, nI_eq, zbk_notn, zbk_not, zbk_n0, zbk_0, zb_0, zb_n0, zb_not, zb_notn, Bool.not_eq_false, Bool.not_eq_true, Bool.not_eq_true', Bool.not_eq_false', decide_eq_true_eq, decide_eq_false_iff_not, Classical.not_not] at c_138
                            refine z_iload X dX9_read_141 rfl ?_
                            refine z_iret X (by decide) (by decide) rfl dX9_read_143 ?_
                            first
                            | (refine ⟨rfl, _, rfl, Or.inr ⟨by unfold zx_read; rw [if_neg (fun q => q ⟨c_6, Int32.not_lt.mp c_10⟩)], ⟨m9, p9, zudI me k me9, zud ql k q9, hm9, rfl, rfl, hp9, Or.inr ⟨k, by omega, hx9, by rw [zud_sum k (Nat.le_refl _)]; exact hb, by rw [zud_sum1]; omega, ?_⟩⟩, hτ⟩⟩; rw [zud_sum k (Nat.le_refl _), show zudI me k me9 k = me9 from if_pos rfl]; unfold zrdr; rw [if_neg (fun q => q hcw), if_pos c_100])
                            | (refine ⟨rfl, _, rfl, Or.inr ⟨by unfold zx_read; rw [if_neg (fun q => q ⟨c_6, Int32.not_lt.mp c_10⟩)], ⟨m9, p9, zudI me k (nI j9), zud ql k q9, hm9, rfl, rfl, hp9, Or.inr ⟨k, by omega, hx9, by rw [zud_sum k (Nat.le_refl _)]; exact hb, by rw [zud_sum1]; omega, ?_⟩⟩, hτ⟩⟩; rw [zud_sum k (Nat.le_refl _), show zudI me k (nI j9) k = (nI j9) from if_pos rfl]; unfold zrdr; rw [if_neg (fun q => q hcw), if_neg (nI_ne_m1 (by omega)), zn_nI (by omega), eτ 24 (by decide), e5, show p9 - zsum ql k = i9 by omega])
                      · skip
                        refine z_iload X dX9_read_103 rfl ?_
                        refine z_if_ne (tgt := 113) X dX9_read_105 (by decide) (fun c_105 => ?_) (fun c_105 => ?_)
                        · skip
                          try simp (disch := omega) only [zk0, nI_leI, nI_ltI, nI_eq, zbk_notn, zbk_not, zbk_n0, zbk_0, zb_0, zb_n0, zb_not, zb_notn, Bool.not_eq_false, Bool.not_eq_true, Bool.not_eq_true', Bool.not_eq_false', decide_eq_true_eq, decide_eq_false_iff_not, Classical.not_not] at c_105
                          have hq1 : q9 = 1 := by rcases hone with q | q; exact q.2; (obtain ⟨j9, hj, e, -⟩ := q; exact absurd (e.symm.trans c_100) (nI_ne_m1 (by omega)))
                          have hlt : ¬ i9 < q9 := by omega
                          refine z_iconst (v := -1) X (by decide) dX9_read_113 ?_
                          refine z_goto (tgt := 129) X dX9_read_114 (by decide) ?_
                          refine z_istore X dX9_read_129 (by decide) ?_
                          refine z_iload X dX9_read_131 rfl ?_
                          refine z_iconst (v := -1) X (by decide) dX9_read_133 ?_
                          refine z_icmp_eq (tgt := 144) X dX9_read_134 (by decide) (fun c_134 => ?_) (fun c_134 => ?_)
                          · skip
                            refine z_iload_n X dX9_read_144 rfl ?_
                            refine z_iload X dX9_read_145 rfl ?_
                            refine z_iconst (v := -1) X (by decide) dX9_read_147 ?_
                            refine z_icmp_ne (tgt := 155) X dX9_read_148 (by decide) (fun c_148 => ?_) (fun c_148 => ?_)
                            · first | exact absurd c_148 (by decide) | exact absurd (by decide) c_148
                            · skip
                              have hlt2 : ¬ i9 < q9 := by first | exact hlt | exact fun q => hpl.2.1 i9 q c_134 | exact absurd c_148 c_134
                              refine z_iconst (v := nI 0) X (by decide) dX9_read_151 ?_
                              refine z_goto (tgt := 156) X dX9_read_152 (by decide) ?_
                              refine z_isubN X (by first | omega | exact absurd c_134 c_148) dX9_read_156 ?_
                              refine z_istore_n X dX9_read_157 (by decide) ?_
                              refine z_inc1 X dX9_read_158 rfl (by decide) ?_
                              refine z_goto (tgt := 91) X dX9_read_161 (by decide) ?_
                              have e91 := fun v h => ih_91 (i9 + 1) v (by omega) h (by omega)
                              first
                              | (exfalso; exact c_148 c_134)
                              | (exfalso; exact c_134 c_148)
                              | (rw [show min (i9 + 1) q9 = min i9 q9 by omega] at e91; exact e91 _ (by omega))
                              | (rw [show p9 - zsum ql k - min (i9 + 1) q9 = p9 - zsum ql k - min i9 q9 - 1 by omega] at e91; exact e91 _ (by omega))
                          · first | exact absurd c_134 (by decide) | exact absurd (by decide) c_134
                        · skip
                          try simp (disch := omega) only [zk0, nI_leI, nI_ltI, nI_eq, zbk_notn, zbk_not, zbk_n0, zbk_0, zb_0, zb_n0, zb_not, zb_notn, Bool.not_eq_false, Bool.not_eq_true, Bool.not_eq_true', Bool.not_eq_false', decide_eq_true_eq, decide_eq_false_iff_not, Classical.not_not] at c_105
                          have hq1 : q9 = 1 := by rcases hone with q | q; exact q.2; (obtain ⟨j9, hj, e, -⟩ := q; exact absurd (e.symm.trans c_100) (nI_ne_m1 (by omega)))
                          have hlt : i9 < q9 := by omega
                          refine z_bipush (v := -2) X (by decide) dX9_read_108 ?_
                          refine z_goto (tgt := 129) X dX9_read_110 (by decide) ?_
                          refine z_istore X dX9_read_129 (by decide) ?_
                          refine z_iload X dX9_read_131 rfl ?_
                          refine z_iconst (v := -1) X (by decide) dX9_read_133 ?_
                          refine z_icmp_eq (tgt := 144) X dX9_read_134 (by decide) (fun c_134 => ?_) (fun c_134 => ?_)
                          · first | exact absurd c_134 (by decide) | exact absurd (by decide) c_134
                          · skip
                            have hlt1 : i9 < q9 := by first | exact hlt | (apply Classical.byContradiction; intro q; exact c_134 (zplen_z hpl (hNCτ j9 hj9) (by omega) (by omega)))
                            refine z_iload_n X dX9_read_137 rfl ?_
                            refine z_if_ne (tgt := 144) X dX9_read_138 (by decide) (fun c_138 => ?_) (fun c_138 => ?_)
                            · skip
                              try simp (disch := omega) only [zk0, nI_leI, nI_ltI, nI_eq, zbk_notn, zbk_not, zbk_n0, zbk_0, zb_0, zb_n0, zb_not, zb_notn, Bool.not_eq_false, Bool.not_eq_true, Bool.not_eq_true', Bool.not_eq_false', decide_eq_true_eq, decide_eq_false_iff_not, Classical.not_not] at c_138
                              refine z_iload_n X dX9_read_144 rfl ?_
                              refine z_iload X dX9_read_145 rfl ?_
                              refine z_iconst (v := -1) X (by decide) dX9_read_147 ?_
                              refine z_icmp_ne (tgt := 155) X dX9_read_148 (by decide) (fun c_148 => ?_) (fun c_148 => ?_)
                              · skip
                                have hlt3 : i9 < q9 := by first | exact hlt1 | exact absurd c_134 c_148
                                refine z_iconst (v := nI 1) X (by decide) dX9_read_155 ?_
                                refine z_isubN X (by first | omega | exact absurd c_134 c_148) dX9_read_156 ?_
                                refine z_istore_n X dX9_read_157 (by decide) ?_
                                refine z_inc1 X dX9_read_158 rfl (by decide) ?_
                                refine z_goto (tgt := 91) X dX9_read_161 (by decide) ?_
                                have e91 := fun v h => ih_91 (i9 + 1) v (by omega) h (by omega)
                                first
                                | (exfalso; exact c_148 c_134)
                                | (exfalso; exact c_134 c_148)
                                | (rw [show min (i9 + 1) q9 = min i9 q9 by omega] at e91; exact e91 _ (by omega))
                                | (rw [show p9 - zsum ql k - min (i9 + 1) q9 = p9 - zsum ql k - min i9 q9 - 1 by omega] at e91; exact e91 _ (by omega))
                              · first | exact absurd c_148 (by decide) | exact absurd (by decide) c_148
                            · skip
                              try simp (disch := omega) only [zk0, nI_leI, nI_ltI, nI_eq, zbk_notn, zbk_not, zbk_n0, zbk_0, zb_0, zb_n0, zb_not, zb_notn, Bool.not_eq_false, Bool.not_eq_true, Bool.not_eq_true', Bool.not_eq_false', decide_eq_true_eq, decide_eq_false_iff_not, Classical.not_not] at c_138
                              refine z_iload X dX9_read_141 rfl ?_
                              refine z_iret X (by decide) (by decide) rfl dX9_read_143 ?_
                              first
                              | (refine ⟨rfl, _, rfl, Or.inr ⟨by unfold zx_read; rw [if_neg (fun q => q ⟨c_6, Int32.not_lt.mp c_10⟩)], ⟨m9, p9, zudI me k me9, zud ql k q9, hm9, rfl, rfl, hp9, Or.inr ⟨k, by omega, hx9, by rw [zud_sum k (Nat.le_refl _)]; exact hb, by rw [zud_sum1]; omega, ?_⟩⟩, hτ⟩⟩; rw [zud_sum k (Nat.le_refl _), show zudI me k me9 k = me9 from if_pos rfl]; unfold zrdr; rw [if_neg (fun q => q hcw), if_pos c_100])
                              | (refine ⟨rfl, _, rfl, Or.inr ⟨by unfold zx_read; rw [if_neg (fun q => q ⟨c_6, Int32.not_lt.mp c_10⟩)], ⟨m9, p9, zudI me k (nI j9), zud ql k q9, hm9, rfl, rfl, hp9, Or.inr ⟨k, by omega, hx9, by rw [zud_sum k (Nat.le_refl _)]; exact hb, by rw [zud_sum1]; omega, ?_⟩⟩, hτ⟩⟩; rw [zud_sum k (Nat.le_refl _), show zudI me k (nI j9) k = (nI j9) from if_pos rfl]; unfold zrdr; rw [if_neg (fun q => q hcw), if_neg (nI_ne_m1 (by omega)), zn_nI (by omega), eτ 24 (by decide), e5, show p9 - zsum ql k = i9 by omega])
                refine z_iconst (v := nI 0) X (by decide) dX9_read_88 ?_
                refine z_istore X dX9_read_89 (by decide) ?_
                have e91 := fun v => loop_91 (4 - 0 + 1) 0 v (Nat.zero_le _) (by omega) (by omega)
                rw [Nat.zero_min, Nat.sub_zero] at e91
                exact e91 _
              · skip
                try simp (disch := omega) only [zb_notn, zb_not, zb_n0, zb_0, Bool.not_eq_false, Bool.not_eq_true, Bool.not_eq_true', Bool.not_eq_false', decide_eq_true_eq, decide_eq_false_iff_not, Classical.not_not] at c_49
                have hcp : ¬ 0 ≤ ρ (400 + m9) k := by rw [← e51 m9 hm9 k (by omega)]; exact fun q => c_49 ((hsg m9 hm9 k (by omega)).mpr q)
                have hx9 := zrd_ext (P := fun i a b => zrd1 ρ ne (ky (tt m9)) (ρ (400 + m9) i) a b) hpre (show zrd1 ρ ne (ky (tt m9)) (ρ (400 + m9) k) (-1) 1 from (Or.inl ⟨hcp, rfl, rfl⟩))
                refine z_iload_n X dX9_read_52 rfl ?_
                refine z_if_ne (tgt := 73) X dX9_read_53 (by decide) (fun c_53 => ?_) (fun c_53 => ?_)
                · skip
                  try simp (disch := omega) only [zk0, nI_leI, nI_ltI, nI_eq, zbk_notn, zbk_not, zbk_n0, zbk_0, zb_0, zb_n0, zb_not, zb_notn, Bool.not_eq_false, Bool.not_eq_true, Bool.not_eq_true', Bool.not_eq_false', decide_eq_true_eq, decide_eq_false_iff_not, Classical.not_not] at c_53
                  refine z_iinc (v := -1) X dX9_read_73 rfl (by decide) (by decide) ?_
                  refine z_goto (tgt := 164) X dX9_read_76 (by decide) ?_
                  refine z_inc1 X dX9_read_164 rfl (by decide) ?_
                  refine z_goto (tgt := 31) X dX9_read_167 (by decide) ?_
                  first
                  | (have e31 := fun a b c => ih_31 (k + 1) a b c (zudI me k (-1)) (zud ql k 1) (by omega) hx9 (by rw [zud_sum1]; omega) (by omega); rw [zud_sum1, show p9 - (zsum ql k + 1) = p9 - zsum ql k - 1 by omega] at e31; rw [zpm_m, show nI (p9 - zsum ql k) - 1 = nI (p9 - zsum ql k - 1) from by rw [show p9 - zsum ql k = (p9 - zsum ql k - 1) + 1 by omega, zpm_s]; rfl]; exact e31 _ _ _)
                  | (have e31 := fun a b c => ih_31 (k + 1) a b c (zudI me k me9) (zud ql k q9) (by omega) hx9 (by rw [zud_sum1]; omega) (by omega); rw [zud_sum1, show p9 - (zsum ql k + q9) = p9 - zsum ql k - min i9 q9 by omega] at e31; exact e31 _ _ _)
                · skip
                  try simp (disch := omega) only [zk0, nI_leI, nI_ltI, nI_eq, zbk_notn, zbk_not, zbk_n0, zbk_0, zb_0, zb_n0, zb_not, zb_notn, Bool.not_eq_false, Bool.not_eq_true, Bool.not_eq_true', Bool.not_eq_false', decide_eq_true_eq, decide_eq_false_iff_not, Classical.not_not] at c_53
                  refine z_iconst (v := -1) X (by decide) dX9_read_56 ?_
                  refine z_aload_n X dX9_read_57 rfl ?_
                  refine z_getr2 X fX9_98 (zso_21 hS) (zsr_21_38 hS) rfl dX9_read_58 ?_
                  refine z_bipush (v := nI 24) X (by decide) dX9_read_61 ?_
                  refine z_iload_n X dX9_read_63 rfl ?_
                  refine z_imulN X dX9_read_64 ?_
                  refine z_iload X dX9_read_65 rfl ?_
                  refine z_iaddN X dX9_read_67 ?_
                  refine z_ialdN X (zsa_51 hS) (by omega) (by omega) dX9_read_68 ?_
                  refine z_isub X dX9_read_69 ?_
                  refine z_iconst (v := 1) X (by decide) dX9_read_70 ?_
                  refine z_isub X dX9_read_71 ?_
                  refine z_iret X (by decide) (by decide) rfl dX9_read_72 ?_
                  refine ⟨rfl, _, rfl, Or.inr ⟨by unfold zx_read; rw [if_neg (fun q => q ⟨c_6, Int32.not_lt.mp c_10⟩)], ⟨m9, p9, zudI me k (-1), zud ql k 1, hm9, rfl, rfl, hp9, Or.inr ⟨k, by omega, hx9, by rw [zud_sum k (Nat.le_refl _)]; exact hb, by rw [zud_sum1]; omega, ?_⟩⟩, hτ⟩⟩
                  rw [zud_sum k (Nat.le_refl _), show zudI me k (-1) k = (-1) from if_pos rfl]
                  unfold zrdr
                  rw [if_pos hcp, eτ 51 (by decide), e51 m9 hm9 k (by omega)]
        refine z_iconst (v := nI 0) X (by decide) dX9_read_28 ?_
        refine z_istore X dX9_read_29 (by decide) ?_
        exact loop_31 (W m9 - 0 + 1) 0 _ _ _ (fun _ => 0) (fun _ => 0) (Nat.zero_le _) (fun i hi => absurd hi (Nat.not_lt_zero _)) (Nat.zero_le _) (by omega)
      · first | exact absurd c_21 (by decide) | exact absurd (by decide) c_21
