/-! contracts: the packer, continued -/
set_option maxHeartbeats 4000000 in
set_option maxRecDepth 100000 in
theorem tX6_chooseCount {l : Launch} {D : va_G} {cy : Nat → ClassId} {z0 : zRg} {g : zSh} {σ : zIn} {ru pl cd vw nd pc : Nat} {T : Nat → Nat → Nat} (hS : zS g) (hd : σ 11 1 = nI nd) (hd2 : nd ≤ 24) (hru : z_ob g ru 7) (hRl : zRl σ ru pl cd vw) (hT : ∀ q n, q ≤ nd → n ≤ 24 → σ 9 (q * 25 + n) = nI (T q n) ∧ T q n ≤ 1000000000) (hpc : σ 7 6 = nI pc) (hpc2 : pc ≤ 1000) (h7 : σ 7 5 = nI 0) (hru7 : ru ≠ 7) : z_Ct l D cy z0 MX6_chooseCount [.ref (g.2.1 7), .ref (g.2.1 11), .ref (g.2.1 ru)] g σ (fun v g' σ' => v = none ∧ g' = g ∧ (∀ i, i ≠ 7 → σ' i = σ i) ∧ (∀ k, k ≠ 5 → k ≠ 6 → σ' 7 k = σ 7 k) ∧ σ' 7 6 = nI (zch (fun n => T 0 n) cd pc nd).1 ∧ σ' 7 5 = nI (zch (fun n => T 0 n) cd pc nd).2) := by
  obtain ⟨r1, r2, r3, r4, r5, r6, r7, r8⟩ := hRl
  refine z_ofM (by decide) (z_cr (z_cr (z_cr z_c0))) (Nat.le_of_ble_eq_true rfl) ?_
  intro p e s m args below meth c X
  have loop_2 : ∀ (n : Nat) (k : Nat) (v : Option Value) (τ : zIn) (hk1 : 1 ≤ k) (hk : k ≤ nd + 1) (hf : ∀ i, i ≠ 7 → τ i = σ i) (hf7 : ∀ k, k ≠ 5 → k ≠ 6 → τ 7 k = σ 7 k) (hp : τ 7 6 = nI (zch (fun n => T 0 n) cd pc (k - 1)).1) (hq : τ 7 5 = nI (zch (fun n => T 0 n) cd pc (k - 1)).2) (hn : nd + 1 - k < n), z_V p l e (zRm MX6_chooseCount) s m args below meth c 5 D cy z0 0 0 (zQm MX6_chooseCount below D cy z0 (fun v g' σ' => v = none ∧ g' = g ∧ (∀ i, i ≠ 7 → σ' i = σ i) ∧ (∀ k, k ≠ 5 → k ≠ 6 → σ' 7 k = σ 7 k) ∧ σ' 7 6 = nI (zch (fun n => T 0 n) cd pc nd).1 ∧ σ' 7 5 = nI (zch (fun n => T 0 n) cd pc nd).2) args s) 2 [some (.ref (g.2.1 7)), some (.ref (g.2.1 11)), some (.ref (g.2.1 ru)), some (.int (nI k)), v] [] g τ := by
    intro n
    induction n with
    | zero => intro k v τ hk1 hk hf hf7 hp hq hn; exact absurd hn (Nat.not_lt_zero _)
    | succ n ih_2 =>
      intro k v τ hk1 hk hf hf7 hp hq hn
      have eD : τ 11 1 = nI nd := by rw [hf 11 (by decide)]; exact hd
      have eR : τ ru 3 = nI cd := by rw [hf ru hru7]; exact r4
      have hz := zch_le (T0 := fun n => T 0 n) (cd := cd) (pc := pc) (k - 1)
      have hstep : zch (fun n => T 0 n) cd pc k = if T 0 k + zup (5 * k) cd < (zch (fun n => T 0 n) cd pc (k - 1)).1 then (T 0 k + zup (5 * k) cd, k) else zch (fun n => T 0 n) cd pc (k - 1) := by
        conv => lhs; rw [show k = k - 1 + 1 by omega, zch]
        rw [show k - 1 + 1 = k by omega]
      refine z_iload_n X dX6_chooseCount_2 rfl ?_
      refine z_aload_n X dX6_chooseCount_3 rfl ?_
      refine z_geti X fX6_68 (zso_11 hS) rfl dX6_chooseCount_4 ?_
      try simp (disch := omega) only [z_up_app, z_put_app, reduceIte, Nat.reduceEqDiff, eD, eR, hp]
      refine z_icmp_gt (tgt := 55) X dX6_chooseCount_7 (by decide) (fun c_7 => ?_) (fun c_7 => ?_)
      · skip
        try simp (disch := omega) only [zk0, nI_leI, nI_ltI, nI_eq, zbk_notn, zbk_not, zbk_n0, zbk_0, zb_0, zb_n0, zb_not, zb_notn, Bool.not_eq_false, Bool.not_eq_true, Bool.not_eq_true', Bool.not_eq_false', decide_eq_true_eq, decide_eq_false_iff_not, Classical.not_not] at c_7
        refine z_vret X (by decide) (by decide) rfl dX6_chooseCount_55 ?_
        have e : k - 1 = nd := by omega
        rw [e] at hp hq
        exact ⟨rfl, rfl, hf, hf7, hp, hq⟩
      · skip
        try simp (disch := omega) only [zk0, nI_leI, nI_ltI, nI_eq, zbk_notn, zbk_not, zbk_n0, zbk_0, zb_0, zb_n0, zb_not, zb_notn, Bool.not_eq_false, Bool.not_eq_true, Bool.not_eq_true', Bool.not_eq_false', decide_eq_true_eq, decide_eq_false_iff_not, Classical.not_not] at c_7
        refine z_aload_n X dX6_chooseCount_10 rfl ?_
        refine z_iconst (v := nI 0) X (by decide) dX6_chooseCount_11 ?_
        refine z_iload_n X dX6_chooseCount_12 rfl ?_
        refine z_runV X kX6_122 (tX6_leastFrom 0 k hS (by omega) (by omega)) (zso_7 hS) rfl rfl (Nat.le_of_ble_eq_true rfl) ⟨by decide, by decide⟩ ⟨by decide, by decide⟩ dX6_chooseCount_13 ?_
        rintro _ g1 s1 ⟨rfl, h8, h9⟩
        replace h8 := h8.symm
        subst h8
        replace h9 := h9.symm
        subst h9
        have hTk := hT 0 k (by omega) (by omega)
        rw [hf 9 (by decide), hTk.1]
        refine z_iload_n X dX6_chooseCount_16 rfl ?_
        refine z_iconst (v := nI 5) X (by decide) dX6_chooseCount_17 ?_
        refine z_imulN X dX6_chooseCount_18 ?_
        refine z_aload_n X dX6_chooseCount_19 rfl ?_
        refine z_geti X fX6_119 (hru) rfl dX6_chooseCount_20 ?_
        try simp (disch := omega) only [z_up_app, z_put_app, reduceIte, Nat.reduceEqDiff, eD, eR, hp]
        refine z_runS X kX6_87 (tX8_roundedUp (k * 5) cd (by omega) (by omega) (by omega)) rfl rfl (Nat.le_of_ble_eq_true rfl) ⟨by decide, by decide⟩ ⟨by decide, by decide⟩ dX6_chooseCount_23 ?_
        rintro _ g1 s1 ⟨rfl, h8, h9⟩
        replace h8 := h8.symm
        subst h8
        replace h9 := h9.symm
        subst h9
        rw [show (k * 5 + cd - 1) / cd = zup (5 * k) cd by rw [Nat.mul_comm k 5]; rfl]
        have hzu : zup (5 * k) cd ≤ 5 * k := zup_le (by omega) (by omega)
        refine z_iaddN X dX6_chooseCount_26 ?_
        refine z_istore X dX6_chooseCount_27 (by decide) ?_
        refine z_iload X dX6_chooseCount_29 rfl ?_
        refine z_aload_n X dX6_chooseCount_31 rfl ?_
        refine z_geti X fX6_32 (zso_7 hS) rfl dX6_chooseCount_32 ?_
        try simp (disch := omega) only [z_up_app, z_put_app, reduceIte, Nat.reduceEqDiff, eD, eR, hp]
        refine z_icmp_ge (tgt := 49) X dX6_chooseCount_35 (by decide) (fun c_35 => ?_) (fun c_35 => ?_)
        · skip
          try simp (disch := omega) only [zk0, nI_leI, nI_ltI, nI_eq, zbk_notn, zbk_not, zbk_n0, zbk_0, zb_0, zb_n0, zb_not, zb_notn, Bool.not_eq_false, Bool.not_eq_true, Bool.not_eq_true', Bool.not_eq_false', decide_eq_true_eq, decide_eq_false_iff_not, Classical.not_not] at c_35
          refine z_inc1 X dX6_chooseCount_49 rfl (by decide) ?_
          refine z_goto (tgt := 2) X dX6_chooseCount_52 (by decide) ?_
          first
            | exact ih_2 (k + 1) _ _ (by omega) (by omega) (fun i h => by rw [z_up_ne h, z_up_ne h]; exact hf i h) (fun j h5 h6 => by simp only [z_up_app, reduceIte, if_neg h5, if_neg h6]; exact hf7 j h5 h6)
                (by rw [show k + 1 - 1 = k by omega, hstep, if_pos (by omega)]; rfl) (by rw [show k + 1 - 1 = k by omega, hstep, if_pos (by omega)]; rfl) (by omega)
            | exact ih_2 (k + 1) _ _ (by omega) (by omega) hf hf7
                (by rw [show k + 1 - 1 = k by omega, hstep, if_neg (by omega)]; exact hp) (by rw [show k + 1 - 1 = k by omega, hstep, if_neg (by omega)]; exact hq) (by omega)
        · skip
          try simp (disch := omega) only [zk0, nI_leI, nI_ltI, nI_eq, zbk_notn, zbk_not, zbk_n0, zbk_0, zb_0, zb_n0, zb_not, zb_notn, Bool.not_eq_false, Bool.not_eq_true, Bool.not_eq_true', Bool.not_eq_false', decide_eq_true_eq, decide_eq_false_iff_not, Classical.not_not] at c_35
          refine z_aload_n X dX6_chooseCount_38 rfl ?_
          refine z_iload X dX6_chooseCount_39 rfl ?_
          refine z_puti X fX6_32 (zso_7 hS) rfl dX6_chooseCount_41 ?_
          refine z_aload_n X dX6_chooseCount_44 rfl ?_
          refine z_iload_n X dX6_chooseCount_45 rfl ?_
          refine z_puti X fX6_29 (zso_7 hS) rfl dX6_chooseCount_46 ?_
          refine z_inc1 X dX6_chooseCount_49 rfl (by decide) ?_
          refine z_goto (tgt := 2) X dX6_chooseCount_52 (by decide) ?_
          first
            | exact ih_2 (k + 1) _ _ (by omega) (by omega) (fun i h => by rw [z_up_ne h, z_up_ne h]; exact hf i h) (fun j h5 h6 => by simp only [z_up_app, reduceIte, if_neg h5, if_neg h6]; exact hf7 j h5 h6)
                (by rw [show k + 1 - 1 = k by omega, hstep, if_pos (by omega)]; rfl) (by rw [show k + 1 - 1 = k by omega, hstep, if_pos (by omega)]; rfl) (by omega)
            | exact ih_2 (k + 1) _ _ (by omega) (by omega) hf hf7
                (by rw [show k + 1 - 1 = k by omega, hstep, if_neg (by omega)]; exact hp) (by rw [show k + 1 - 1 = k by omega, hstep, if_neg (by omega)]; exact hq) (by omega)
  refine z_iconst (v := nI 1) X (by decide) dX6_chooseCount_0 ?_
  refine z_istore_n X dX6_chooseCount_1 (by decide) ?_
  exact loop_2 (nd + 1 - 1 + 1) 1 _ σ (by omega) (by omega) (fun _ _ => rfl) (fun _ _ _ => rfl) hpc h7 (by omega)

set_option maxHeartbeats 4000000 in
set_option maxRecDepth 100000 in
theorem tX6_longestCode {l : Launch} {D : va_G} {cy : Nat → ClassId} {z0 : zRg} {g : zSh} {σ : zIn} {nd : Nat} {T : Nat → Nat → Nat} {us : Nat → Nat → Bool} (p9 left : Nat) (hS : zS g) (hd2 : nd ≤ 24) (hT : ∀ q n, q ≤ nd → n ≤ 24 → σ 9 (q * 25 + n) = nI (T q n) ∧ T q n ≤ 1000000000) (hus : ∀ p m, p < nd → 1 ≤ m → m ≤ 4 → (σ 8 (p * 4 + m - 1) = -1 ↔ us p m = false) ∧ (us p m = true → p + m ≤ nd)) (hp9 : p9 < nd) (hl : 1 ≤ left) (hl2 : left ≤ 24) : z_Ct l D cy z0 MX6_longestCode [.ref (g.2.1 7), .int (nI p9), .int (nI left)] g σ (zI (nI (zlc T us p9 left 4)) g σ) := by
  refine z_ofM (by decide) (z_cr (z_ci (z_ci z_c0))) (Nat.le_of_ble_eq_true rfl) ?_
  intro p e s m args below meth c X
  have loop_2 : ∀ (n : Nat) (m9 : Nat) (hm : m9 ≤ 4) (hz : zlc T us p9 left 4 = zlc T us p9 left m9) (hn : m9 < n), z_V p l e (zRm MX6_longestCode) s m args below meth c 4 D cy z0 0 0 (zQm MX6_longestCode below D cy z0 (zI (nI (zlc T us p9 left 4)) g σ) args s) 2 [some (.ref (g.2.1 7)), some (.int (nI p9)), some (.int (nI left)), some (.int (nI m9))] [] g σ := by
    intro n
    induction n with
    | zero => intro m9 hm hz hn; exact absurd hn (Nat.not_lt_zero _)
    | succ n ih_2 =>
      intro m9 hm hz hn
      refine z_iload_n X dX6_longestCode_2 rfl ?_
      refine z_if_le (tgt := 43) X dX6_longestCode_3 (by decide) (fun c_3 => ?_) (fun c_3 => ?_)
      · skip
        try simp (disch := omega) only [zk0, nI_leI, nI_ltI, nI_eq, zbk_notn, zbk_not, zbk_n0, zbk_0, zb_0, zb_n0, zb_not, zb_notn, Bool.not_eq_false, Bool.not_eq_true, Bool.not_eq_true', Bool.not_eq_false', decide_eq_true_eq, decide_eq_false_iff_not, Classical.not_not] at c_3
        refine z_iconst (v := nI 0) X (by decide) dX6_longestCode_43 ?_
        refine z_iret X (by decide) (by decide) rfl dX6_longestCode_44 ?_
        have e : m9 = 0 := by omega
        subst e
        exact zI_e (by rw [hz]; rfl) rfl rfl
      · skip
        try simp (disch := omega) only [zk0, nI_leI, nI_ltI, nI_eq, zbk_notn, zbk_not, zbk_n0, zbk_0, zb_0, zb_n0, zb_not, zb_notn, Bool.not_eq_false, Bool.not_eq_true, Bool.not_eq_true', Bool.not_eq_false', decide_eq_true_eq, decide_eq_false_iff_not, Classical.not_not] at c_3
        refine z_aload_n X dX6_longestCode_6 rfl ?_
        refine z_iload_n X dX6_longestCode_7 rfl ?_
        refine z_iload_n X dX6_longestCode_8 rfl ?_
        refine z_runV X kX6_125 (tX6_codeFor p9 m9 hS (by omega) (by omega) (by omega)) (zso_7 hS) rfl rfl (Nat.le_of_ble_eq_true rfl) ⟨by decide, by decide⟩ ⟨by decide, by decide⟩ dX6_longestCode_9 ?_
        rintro _ g1 s1 ⟨rfl, h8, h9⟩
        replace h8 := h8.symm
        subst h8
        replace h9 := h9.symm
        subst h9
        refine z_iconst (v := -1) X (by decide) dX6_longestCode_12 ?_
        have hm1 : 1 ≤ m9 := by omega
        have hu9 := hus p9 m9 hp9 hm1 (by omega)
        have hstep : zlc T us p9 left m9 = if us p9 m9 = true ∧ T (p9 + m9) (left - 1) = T p9 left then m9 else zlc T us p9 left (m9 - 1) := by
          conv => lhs; rw [show m9 = m9 - 1 + 1 by omega, zlc]
          rw [show m9 - 1 + 1 = m9 by omega]
        refine z_icmp_eq (tgt := 37) X dX6_longestCode_13 (by decide) (fun c_13 => ?_) (fun c_13 => ?_)
        · skip
          skip
          refine z_iinc (v := -1) X dX6_longestCode_37 rfl (by decide) (by decide) ?_
          refine z_goto (tgt := 2) X dX6_longestCode_40 (by decide) ?_
          rw [zm1, pk_sub (by omega)]
          exact ih_2 (m9 - 1) (by omega) (by rw [hz, hstep, if_neg (by first | (intro h; rw [hu9.1.mp c_13] at h; exact absurd h.1 (by decide)) | (intro h; exact c_32 h.2))]) (by omega)
        · skip
          skip
          have hpm := hu9.2 (Bool.not_eq_false _ ▸ (fun h => c_13 (hu9.1.mpr h)))
          have hT1 := hT (p9 + m9) (left - 1) (by omega) (by omega)
          have hT2 := hT p9 left (by omega) (by omega)
          have hut : us p9 m9 = true := Bool.not_eq_false _ ▸ (fun h => c_13 (hu9.1.mpr h))
          refine z_aload_n X dX6_longestCode_16 rfl ?_
          refine z_iload_n X dX6_longestCode_17 rfl ?_
          refine z_iload_n X dX6_longestCode_18 rfl ?_
          refine z_iaddN X dX6_longestCode_19 ?_
          refine z_iload_n X dX6_longestCode_20 rfl ?_
          refine z_iconst (v := nI 1) X (by decide) dX6_longestCode_21 ?_
          refine z_isubN X (by omega) dX6_longestCode_22 ?_
          refine z_runV X kX6_122 (tX6_leastFrom (p9 + m9) (left - 1) hS (by omega) (by omega)) (zso_7 hS) rfl rfl (Nat.le_of_ble_eq_true rfl) ⟨by decide, by decide⟩ ⟨by decide, by decide⟩ dX6_longestCode_23 ?_
          rintro _ g1 s1 ⟨rfl, h8, h9⟩
          replace h8 := h8.symm
          subst h8
          replace h9 := h9.symm
          subst h9
          rw [hT1.1]
          refine z_aload_n X dX6_longestCode_26 rfl ?_
          refine z_iload_n X dX6_longestCode_27 rfl ?_
          refine z_iload_n X dX6_longestCode_28 rfl ?_
          refine z_runV X kX6_122 (tX6_leastFrom p9 left hS (by omega) (by omega)) (zso_7 hS) rfl rfl (Nat.le_of_ble_eq_true rfl) ⟨by decide, by decide⟩ ⟨by decide, by decide⟩ dX6_longestCode_29 ?_
          rintro _ g1 s1 ⟨rfl, h8, h9⟩
          replace h8 := h8.symm
          subst h8
          replace h9 := h9.symm
          subst h9
          rw [hT2.1]
          refine z_icmp_ne (tgt := 37) X dX6_longestCode_32 (by decide) (fun c_32 => ?_) (fun c_32 => ?_)
          · skip
            try simp (disch := omega) only [zk0, nI_leI, nI_ltI, nI_eq, zbk_notn, zbk_not, zbk_n0, zbk_0, zb_0, zb_n0, zb_not, zb_notn, Bool.not_eq_false, Bool.not_eq_true, Bool.not_eq_true', Bool.not_eq_false', decide_eq_true_eq, decide_eq_false_iff_not, Classical.not_not] at c_32
            refine z_iinc (v := -1) X dX6_longestCode_37 rfl (by decide) (by decide) ?_
            refine z_goto (tgt := 2) X dX6_longestCode_40 (by decide) ?_
            rw [zm1, pk_sub (by omega)]
            exact ih_2 (m9 - 1) (by omega) (by rw [hz, hstep, if_neg (by first | (intro h; rw [hu9.1.mp c_13] at h; exact absurd h.1 (by decide)) | (intro h; exact c_32 h.2))]) (by omega)
          · skip
            try simp (disch := omega) only [zk0, nI_leI, nI_ltI, nI_eq, zbk_notn, zbk_not, zbk_n0, zbk_0, zb_0, zb_n0, zb_not, zb_notn, Bool.not_eq_false, Bool.not_eq_true, Bool.not_eq_true', Bool.not_eq_false', decide_eq_true_eq, decide_eq_false_iff_not, Classical.not_not] at c_32
            refine z_iload_n X dX6_longestCode_35 rfl ?_
            refine z_iret X (by decide) (by decide) rfl dX6_longestCode_36 ?_
            exact zI_e (by rw [hz, hstep, if_pos ⟨hut, c_32⟩]) rfl rfl
  refine z_iconst (v := nI 4) X (by decide) dX6_longestCode_0 ?_
  refine z_istore_n X dX6_longestCode_1 (by decide) ?_
  exact loop_2 5 4 (by omega) rfl (by omega)

theorem zcut_len {nd : Nat} {T : Nat → Nat → Nat} {us : Nat → Nat → Bool} : ∀ (f p left : Nat), nd - p = f → (zcut nd T us p left).length ≤ nd - p := by
  intro f
  induction f using Nat.strongRecOn with
  | _ f ih =>
    intro p left hf
    by_cases h : p < nd
    · by_cases h2 : 0 < zln T us p left
      · rw [zcut_c h h2, List.length_cons]
        have := ih (nd - (p + zln T us p left)) (by omega) (p + zln T us p left) (left - 1) rfl
        omega
      · rw [zcut_p h (by omega), List.length_cons]
        have := ih (nd - (p + 1)) (by omega) (p + 1) left rfl
        omega
    · rw [zcut_e (by omega)]; simp
/-- what a cut has laid so far: the pieces of L ahead of the rest are the words -/
def zcw (cdw : Nat → Nat → Int32) (dd : Nat → Nat) (L rest : List (Nat × Nat)) (f : Nat → Int32) (j : Nat) : Prop := ∃ pre, L = pre ++ rest ∧ pre.length = j ∧ ∀ i, i < j → f i = zwo cdw dd (L.getD i (0, 0))
theorem zcw_0 {cdw : Nat → Nat → Int32} {dd : Nat → Nat} {L : List (Nat × Nat)} {f : Nat → Int32} : zcw cdw dd L L f 0 := ⟨[], rfl, rfl, fun i h => absurd h (Nat.not_lt_zero _)⟩
theorem zcw_s {cdw : Nat → Nat → Int32} {dd : Nat → Nat} {L rest : List (Nat × Nat)} {q : Nat × Nat} {f f' : Nat → Int32} {j : Nat} (h : zcw cdw dd L (q :: rest) f j) (h1 : f' j = zwo cdw dd q) (h2 : ∀ i, i < j → f' i = f i) : zcw cdw dd L rest f' (j + 1) := by
  obtain ⟨pre, e, hl, hw⟩ := h
  refine ⟨pre ++ [q], by rw [e, List.append_assoc]; rfl, by rw [List.length_append, hl]; rfl, fun i hi => ?_⟩
  by_cases ei : i = j
  · subst ei
    rw [h1, e]
    congr 1
    rw [List.getD, List.getElem?_append_right (by omega), hl, Nat.sub_self]; rfl
  · rw [h2 i (by omega)]; exact hw i (by omega)
theorem zlc_us {T : Nat → Nat → Nat} {us : Nat → Nat → Bool} {p left : Nat} : ∀ m, 0 < zlc T us p left m → us p (zlc T us p left m) = true
  | 0, h => absurd h (Nat.lt_irrefl 0)
  | m + 1, h => by
    simp only [zlc] at h ⊢
    split
    · next q => exact q.1
    · next q => rw [if_neg q] at h; exact zlc_us m h
set_option maxHeartbeats 4000000 in
set_option maxRecDepth 100000 in
theorem tX6_cut {l : Launch} {D : va_G} {cy : Nat → ClassId} {z0 : zRg} {g : zSh} {σ : zIn} {ru nd many : Nat} {T : Nat → Nat → Nat} {us : Nat → Nat → Bool} {cdw : Nat → Nat → Int32} {dd : Nat → Nat} (hS : zS g) (hd : σ 11 1 = nI nd) (hd2 : nd ≤ 24) (hT : 0 < many → ∀ q n, q ≤ nd → n ≤ 24 → σ 9 (q * 25 + n) = nI (T q n) ∧ T q n ≤ 1000000000) (hus : 0 < many → ∀ p m, p < nd → 1 ≤ m → m ≤ 4 → (σ 8 (p * 4 + m - 1) = -1 ↔ us p m = false) ∧ (us p m = true → p + m ≤ nd)) (hcw : 0 < many → ∀ p m, p < nd → 1 ≤ m → m ≤ 4 → us p m = true → σ 8 (p * 4 + m - 1) = cdw p m) (hdd : ∀ i, i < nd → σ 12 i = nI (dd i)) (hm : σ 7 5 = nI many) (hm2 : many ≤ 24) : z_Ct l D cy z0 MX6_cut [.ref (g.2.1 7), .ref (g.2.1 11), .ref (g.2.1 ru)] g σ (fun v g' σ' => v = none ∧ g' = g ∧ (∀ i, i ≠ 7 → i ≠ 10 → σ' i = σ i) ∧ (∀ k, k ≠ 4 → σ' 7 k = σ 7 k) ∧ σ' 7 4 = nI (zcut nd T us 0 many).length ∧ ∀ i, i < (zcut nd T us 0 many).length → σ' 10 i = zwo cdw dd ((zcut nd T us 0 many).getD i (0, 0))) := by
  refine z_ofM (by decide) (z_cr (z_cr (z_cr z_c0))) (Nat.le_of_ble_eq_true rfl) ?_
  intro p e s m args below meth c X
  have loop_13 : ∀ (n : Nat) (p9 left j : Nat) (v : Option Value) (τ : zIn) (hp9 : p9 ≤ nd) (hj : j ≤ p9) (hleft : left ≤ many) (hf : ∀ i, i ≠ 7 → i ≠ 10 → τ i = σ i) (hf7 : ∀ k, k ≠ 4 → τ 7 k = σ 7 k) (hw : τ 7 4 = nI j) (hc : zcw cdw dd (zcut nd T us 0 many) (zcut nd T us p9 left) (τ 10) j) (hn : nd - p9 < n), z_V p l e (zRm MX6_cut) s m args below meth c 6 D cy z0 0 0 (zQm MX6_cut below D cy z0 (fun v g' σ' => v = none ∧ g' = g ∧ (∀ i, i ≠ 7 → i ≠ 10 → σ' i = σ i) ∧ (∀ k, k ≠ 4 → σ' 7 k = σ 7 k) ∧ σ' 7 4 = nI (zcut nd T us 0 many).length ∧ ∀ i, i < (zcut nd T us 0 many).length → σ' 10 i = zwo cdw dd ((zcut nd T us 0 many).getD i (0, 0))) args s) 13 [some (.ref (g.2.1 7)), some (.ref (g.2.1 11)), some (.ref (g.2.1 ru)), some (.int (nI left)), some (.int (nI p9)), v] [] g τ := by
    intro n
    induction n with
    | zero => intro p9 left j v τ hp9 hj hleft hf hf7 hw hc hn; exact absurd hn (Nat.not_lt_zero _)
    | succ n ih_13 =>
      intro p9 left j v τ hp9 hj hleft hf hf7 hw hc hn
      have eD : τ 11 1 = nI nd := by rw [hf 11 (by decide) (by decide)]; exact hd
      have e8 : τ 8 = σ 8 := hf 8 (by decide) (by decide)
      have e9 : τ 9 = σ 9 := hf 9 (by decide) (by decide)
      have e12 : τ 12 = σ 12 := hf 12 (by decide) (by decide)
      have hz4 : zlc T us p9 left 4 ≤ 4 := zlc_le 4
      refine z_iload X dX6_cut_13 rfl ?_
      refine z_aload_n X dX6_cut_15 rfl ?_
      refine z_geti X fX6_68 (zso_11 hS) rfl dX6_cut_16 ?_
      try simp (disch := omega) only [z_up_app, z_put_app, reduceIte, Nat.reduceEqDiff, eD]
      refine z_icmp_ge (tgt := 88) X dX6_cut_19 (by decide) (fun c_19 => ?_) (fun c_19 => ?_)
      · skip
        try simp (disch := omega) only [zk0, nI_leI, nI_ltI, nI_eq, zbk_notn, zbk_not, zbk_n0, zbk_0, zb_0, zb_n0, zb_not, zb_notn, Bool.not_eq_false, Bool.not_eq_true, Bool.not_eq_true', Bool.not_eq_false', decide_eq_true_eq, decide_eq_false_iff_not, Classical.not_not] at c_19
        refine z_vret X (by decide) (by decide) rfl dX6_cut_88 ?_
        rw [zcut_e (p := p9) (left := left) (show nd ≤ p9 by omega)] at hc
        obtain ⟨pre, e1, e2, e3⟩ := hc
        rw [List.append_nil] at e1
        rw [← e1] at e2
        subst e2
        exact ⟨rfl, rfl, hf, hf7, hw, e3⟩
      · skip
        try simp (disch := omega) only [zk0, nI_leI, nI_ltI, nI_eq, zbk_notn, zbk_not, zbk_n0, zbk_0, zb_0, zb_n0, zb_not, zb_notn, Bool.not_eq_false, Bool.not_eq_true, Bool.not_eq_true', Bool.not_eq_false', decide_eq_true_eq, decide_eq_false_iff_not, Classical.not_not] at c_19
        refine z_iload_n X dX6_cut_22 rfl ?_
        refine z_if_le (tgt := 36) X dX6_cut_23 (by decide) (fun c_23 => ?_) (fun c_23 => ?_)
        · skip
          try simp (disch := omega) only [zk0, nI_leI, nI_ltI, nI_eq, zbk_notn, zbk_not, zbk_n0, zbk_0, zb_0, zb_n0, zb_not, zb_notn, Bool.not_eq_false, Bool.not_eq_true, Bool.not_eq_true', Bool.not_eq_false', decide_eq_true_eq, decide_eq_false_iff_not, Classical.not_not] at c_23
          refine z_iconst (v := nI 0) X (by decide) dX6_cut_36 ?_
          refine z_istore X dX6_cut_37 (by decide) ?_
          refine z_iload X dX6_cut_39 rfl ?_
          refine z_if_le (tgt := 69) X dX6_cut_41 (by decide) (fun c_41 => ?_) (fun c_41 => ?_)
          · skip
            refine z_aload_n X dX6_cut_69 rfl ?_
            refine z_aload_n X dX6_cut_70 rfl ?_
            refine z_iload X dX6_cut_71 rfl ?_
            refine z_runV X kX6_73 (tX2_ideaAt p9 hS eD hd2 (by omega)) (zso_11 hS) rfl rfl (Nat.le_of_ble_eq_true rfl) ⟨by decide, by decide⟩ ⟨by decide, by decide⟩ dX6_cut_73 ?_
            rintro _ g1 s1 ⟨rfl, h8, h9⟩
            replace h8 := h8.symm
            subst h8
            replace h9 := h9.symm
            subst h9
            rw [e12, hdd p9 (by omega)]
            refine z_runS X kX6_135 (tX8_plainOf (nI (dd p9))) rfl rfl (Nat.le_of_ble_eq_true rfl) ⟨by decide, by decide⟩ ⟨by decide, by decide⟩ dX6_cut_76 ?_
            rintro _ g1 s1 ⟨rfl, h8, h9⟩
            replace h8 := h8.symm
            subst h8
            replace h9 := h9.symm
            subst h9
            refine z_runV X kX6_131 (tX6_addWord _ hS hw (by omega)) (zso_7 hS) rfl rfl (Nat.le_of_ble_eq_true rfl) ⟨by decide, by decide⟩ ⟨by decide, by decide⟩ dX6_cut_79 ?_
            rintro _ g1 s1 ⟨rfl, h8, h9⟩
            replace h8 := h8.symm
            subst h8
            replace h9 := h9.symm
            subst h9
            refine z_inc1 X dX6_cut_82 rfl (by decide) ?_
            refine z_goto (tgt := 13) X dX6_cut_85 (by decide) ?_
            first
              | (exfalso; omega)
              | (have hln : zln T us p9 left = zlc T us p9 left 4 := by unfold zln; rw [if_pos (by omega)]
                 rw [zcut_c (p := p9) (left := left) (by omega) (by omega), hln] at hc
                 rw [zm1, pk_sub (by omega)]
                 exact ih_13 (p9 + zlc T us p9 left 4) (left - 1) (j + 1) _ _ (by omega) (by omega) (by omega) (fun i h1 h2 => by rw [z_up_ne h1, z_up_ne h2]; exact hf i h1 h2) (fun k h => by simp only [z_up_app, reduceIte, Nat.reduceEqDiff, if_neg h]; exact hf7 k h) (by simp only [z_up_app, reduceIte]) (zcw_s hc (by simp only [z_up_app, reduceIte, Nat.reduceEqDiff, zwo, if_neg (show ¬ zlc T us p9 left 4 = 0 by omega)]) (fun i hi => by simp only [z_up_app, reduceIte, Nat.reduceEqDiff, if_neg (show ¬ i = j by omega)])) (by omega))
              | (have hln : zln T us p9 left = 0 := by unfold zln; first | (rw [if_pos (by omega)]; omega) | rw [if_neg (by omega)]
                 rw [zcut_p (p := p9) (left := left) (by omega) hln] at hc
                 exact ih_13 (p9 + 1) left (j + 1) _ _ (by omega) (by omega) (by omega) (fun i h1 h2 => by rw [z_up_ne h1, z_up_ne h2]; exact hf i h1 h2) (fun k h => by simp only [z_up_app, reduceIte, Nat.reduceEqDiff, if_neg h]; exact hf7 k h) (by simp only [z_up_app, reduceIte]) (zcw_s hc (by simp only [z_up_app, reduceIte, Nat.reduceEqDiff, zwo]) (fun i hi => by simp only [z_up_app, reduceIte, Nat.reduceEqDiff, if_neg (show ¬ i = j by omega)])) (by omega))
          · first | exact absurd c_41 (by decide) | exact absurd (by decide) c_41
        · skip
          try simp (disch := omega) only [zk0, nI_leI, nI_ltI, nI_eq, zbk_notn, zbk_not, zbk_n0, zbk_0, zb_0, zb_n0, zb_not, zb_notn, Bool.not_eq_false, Bool.not_eq_true, Bool.not_eq_true', Bool.not_eq_false', decide_eq_true_eq, decide_eq_false_iff_not, Classical.not_not] at c_23
          refine z_aload_n X dX6_cut_26 rfl ?_
          refine z_iload X dX6_cut_27 rfl ?_
          refine z_iload_n X dX6_cut_29 rfl ?_
          refine z_runV X kX6_128 (tX6_longestCode (T := T) (us := us) p9 left hS hd2 (by rw [e9]; exact hT (by omega)) (by rw [e8]; exact hus (by omega)) (by omega) (by omega) (by omega)) (zso_7 hS) rfl rfl (Nat.le_of_ble_eq_true rfl) ⟨by decide, by decide⟩ ⟨by decide, by decide⟩ dX6_cut_30 ?_
          rintro _ g1 s1 ⟨rfl, h8, h9⟩
          replace h8 := h8.symm
          subst h8
          replace h9 := h9.symm
          subst h9
          refine z_goto (tgt := 37) X dX6_cut_33 (by decide) ?_
          refine z_istore X dX6_cut_37 (by decide) ?_
          refine z_iload X dX6_cut_39 rfl ?_
          refine z_if_le (tgt := 69) X dX6_cut_41 (by decide) (fun c_41 => ?_) (fun c_41 => ?_)
          · skip
            try simp (disch := omega) only [zk0, nI_leI, nI_ltI, nI_eq, zbk_notn, zbk_not, zbk_n0, zbk_0, zb_0, zb_n0, zb_not, zb_notn, Bool.not_eq_false, Bool.not_eq_true, Bool.not_eq_true', Bool.not_eq_false', decide_eq_true_eq, decide_eq_false_iff_not, Classical.not_not] at c_41
            refine z_aload_n X dX6_cut_69 rfl ?_
            refine z_aload_n X dX6_cut_70 rfl ?_
            refine z_iload X dX6_cut_71 rfl ?_
            refine z_runV X kX6_73 (tX2_ideaAt p9 hS eD hd2 (by omega)) (zso_11 hS) rfl rfl (Nat.le_of_ble_eq_true rfl) ⟨by decide, by decide⟩ ⟨by decide, by decide⟩ dX6_cut_73 ?_
            rintro _ g1 s1 ⟨rfl, h8, h9⟩
            replace h8 := h8.symm
            subst h8
            replace h9 := h9.symm
            subst h9
            rw [e12, hdd p9 (by omega)]
            refine z_runS X kX6_135 (tX8_plainOf (nI (dd p9))) rfl rfl (Nat.le_of_ble_eq_true rfl) ⟨by decide, by decide⟩ ⟨by decide, by decide⟩ dX6_cut_76 ?_
            rintro _ g1 s1 ⟨rfl, h8, h9⟩
            replace h8 := h8.symm
            subst h8
            replace h9 := h9.symm
            subst h9
            refine z_runV X kX6_131 (tX6_addWord _ hS hw (by omega)) (zso_7 hS) rfl rfl (Nat.le_of_ble_eq_true rfl) ⟨by decide, by decide⟩ ⟨by decide, by decide⟩ dX6_cut_79 ?_
            rintro _ g1 s1 ⟨rfl, h8, h9⟩
            replace h8 := h8.symm
            subst h8
            replace h9 := h9.symm
            subst h9
            refine z_inc1 X dX6_cut_82 rfl (by decide) ?_
            refine z_goto (tgt := 13) X dX6_cut_85 (by decide) ?_
            first
              | (exfalso; omega)
              | (have hln : zln T us p9 left = zlc T us p9 left 4 := by unfold zln; rw [if_pos (by omega)]
                 rw [zcut_c (p := p9) (left := left) (by omega) (by omega), hln] at hc
                 rw [zm1, pk_sub (by omega)]
                 exact ih_13 (p9 + zlc T us p9 left 4) (left - 1) (j + 1) _ _ (by omega) (by omega) (by omega) (fun i h1 h2 => by rw [z_up_ne h1, z_up_ne h2]; exact hf i h1 h2) (fun k h => by simp only [z_up_app, reduceIte, Nat.reduceEqDiff, if_neg h]; exact hf7 k h) (by simp only [z_up_app, reduceIte]) (zcw_s hc (by simp only [z_up_app, reduceIte, Nat.reduceEqDiff, zwo, if_neg (show ¬ zlc T us p9 left 4 = 0 by omega)]) (fun i hi => by simp only [z_up_app, reduceIte, Nat.reduceEqDiff, if_neg (show ¬ i = j by omega)])) (by omega))
              | (have hln : zln T us p9 left = 0 := by unfold zln; first | (rw [if_pos (by omega)]; omega) | rw [if_neg (by omega)]
                 rw [zcut_p (p := p9) (left := left) (by omega) hln] at hc
                 exact ih_13 (p9 + 1) left (j + 1) _ _ (by omega) (by omega) (by omega) (fun i h1 h2 => by rw [z_up_ne h1, z_up_ne h2]; exact hf i h1 h2) (fun k h => by simp only [z_up_app, reduceIte, Nat.reduceEqDiff, if_neg h]; exact hf7 k h) (by simp only [z_up_app, reduceIte]) (zcw_s hc (by simp only [z_up_app, reduceIte, Nat.reduceEqDiff, zwo]) (fun i hi => by simp only [z_up_app, reduceIte, Nat.reduceEqDiff, if_neg (show ¬ i = j by omega)])) (by omega))
          · skip
            try simp (disch := omega) only [zk0, nI_leI, nI_ltI, nI_eq, zbk_notn, zbk_not, zbk_n0, zbk_0, zb_0, zb_n0, zb_not, zb_notn, Bool.not_eq_false, Bool.not_eq_true, Bool.not_eq_true', Bool.not_eq_false', decide_eq_true_eq, decide_eq_false_iff_not, Classical.not_not] at c_41
            refine z_aload_n X dX6_cut_44 rfl ?_
            refine z_aload_n X dX6_cut_45 rfl ?_
            refine z_iload X dX6_cut_46 rfl ?_
            refine z_iload X dX6_cut_48 rfl ?_
            refine z_runV X kX6_125 (tX6_codeFor p9 (zlc T us p9 left 4) hS (by omega) (by omega) (by omega)) (zso_7 hS) rfl rfl (Nat.le_of_ble_eq_true rfl) ⟨by decide, by decide⟩ ⟨by decide, by decide⟩ dX6_cut_50 ?_
            rintro _ g1 s1 ⟨rfl, h8, h9⟩
            replace h8 := h8.symm
            subst h8
            replace h9 := h9.symm
            subst h9
            have hus9 := zlc_us 4 (show 0 < zlc T us p9 left 4 by omega)
            have hpm := ((hus (by omega)) p9 _ (by omega) (by omega) hz4).2 hus9
            rw [e8, hcw (by omega) p9 _ (by omega) (by omega) hz4 hus9]
            refine z_runV X kX6_131 (tX6_addWord _ hS hw (by omega)) (zso_7 hS) rfl rfl (Nat.le_of_ble_eq_true rfl) ⟨by decide, by decide⟩ ⟨by decide, by decide⟩ dX6_cut_53 ?_
            rintro _ g1 s1 ⟨rfl, h8, h9⟩
            replace h8 := h8.symm
            subst h8
            replace h9 := h9.symm
            subst h9
            refine z_iload X dX6_cut_56 rfl ?_
            refine z_iload X dX6_cut_58 rfl ?_
            refine z_iaddN X dX6_cut_60 ?_
            refine z_istore X dX6_cut_61 (by decide) ?_
            refine z_iinc (v := -1) X dX6_cut_63 rfl (by decide) (by decide) ?_
            refine z_goto (tgt := 85) X dX6_cut_66 (by decide) ?_
            refine z_goto (tgt := 13) X dX6_cut_85 (by decide) ?_
            first
              | (exfalso; omega)
              | (have hln : zln T us p9 left = zlc T us p9 left 4 := by unfold zln; rw [if_pos (by omega)]
                 rw [zcut_c (p := p9) (left := left) (by omega) (by omega), hln] at hc
                 rw [zm1, pk_sub (by omega)]
                 exact ih_13 (p9 + zlc T us p9 left 4) (left - 1) (j + 1) _ _ (by omega) (by omega) (by omega) (fun i h1 h2 => by rw [z_up_ne h1, z_up_ne h2]; exact hf i h1 h2) (fun k h => by simp only [z_up_app, reduceIte, Nat.reduceEqDiff, if_neg h]; exact hf7 k h) (by simp only [z_up_app, reduceIte]) (zcw_s hc (by simp only [z_up_app, reduceIte, Nat.reduceEqDiff, zwo, if_neg (show ¬ zlc T us p9 left 4 = 0 by omega)]) (fun i hi => by simp only [z_up_app, reduceIte, Nat.reduceEqDiff, if_neg (show ¬ i = j by omega)])) (by omega))
              | (have hln : zln T us p9 left = 0 := by unfold zln; first | (rw [if_pos (by omega)]; omega) | rw [if_neg (by omega)]
                 rw [zcut_p (p := p9) (left := left) (by omega) hln] at hc
                 exact ih_13 (p9 + 1) left (j + 1) _ _ (by omega) (by omega) (by omega) (fun i h1 h2 => by rw [z_up_ne h1, z_up_ne h2]; exact hf i h1 h2) (fun k h => by simp only [z_up_app, reduceIte, Nat.reduceEqDiff, if_neg h]; exact hf7 k h) (by simp only [z_up_app, reduceIte]) (zcw_s hc (by simp only [z_up_app, reduceIte, Nat.reduceEqDiff, zwo]) (fun i hi => by simp only [z_up_app, reduceIte, Nat.reduceEqDiff, if_neg (show ¬ i = j by omega)])) (by omega))
  refine z_aload_n X dX6_cut_0 rfl ?_
  refine z_iconst (v := nI 0) X (by decide) dX6_cut_1 ?_
  refine z_puti X fX6_25 (zso_7 hS) rfl dX6_cut_2 ?_
  refine z_aload_n X dX6_cut_5 rfl ?_
  refine z_geti X fX6_29 (zso_7 hS) rfl dX6_cut_6 ?_
  try simp (disch := omega) only [z_up_app, z_put_app, reduceIte, Nat.reduceEqDiff, hm]
  refine z_istore_n X dX6_cut_9 (by decide) ?_
  refine z_iconst (v := nI 0) X (by decide) dX6_cut_10 ?_
  refine z_istore X dX6_cut_11 (by decide) ?_
  exact loop_13 (nd - 0 + 1) 0 many 0 _ _ (by omega) (by omega) (by omega) (fun i h1 h2 => z_up_ne h1) (fun k h => by simp only [z_up_app, reduceIte, if_neg h]) (by simp only [z_up_app, reduceIte]) zcw_0 (by omega)
