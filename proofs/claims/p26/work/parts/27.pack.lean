/-! contracts: the packer -/
set_option maxHeartbeats 4000000 in
set_option maxRecDepth 100000 in
theorem tX6_plainCost {l : Launch} {D : va_G} {cy : Nat → ClassId} {z0 : zRg} {g : zSh} {σ : zIn} {ru pl cd vw ni nd : Nat} {lt dd : Nat → Nat} (hS : zS g) (hDr : zDr σ ni lt nd dd) (hru : z_ob g ru 7) (hRl : zRl σ ru pl cd vw) : z_Ct l D cy z0 MX6_plainCost [.ref (g.2.1 7), .ref (g.2.1 11), .ref (g.2.1 ru)] g σ (zI (nI (zsum (fun i => zup (lt (dd i)) pl) nd)) g σ) := by
  obtain ⟨hi, hi2, hlt, hd, hd2, hdd⟩ := hDr
  obtain ⟨r1, r2, r3, r4, r5, r6, r7, r8⟩ := hRl
  refine z_ofM (by decide) (z_cr (z_cr (z_cr z_c0))) (Nat.le_of_ble_eq_true rfl) ?_
  intro p e s m args below meth c X
  have loop_5 : ∀ (n : Nat) (k : Nat) (hk : k ≤ nd) (hn : nd - k < n), z_V p l e (zRm MX6_plainCost) s m args below meth c 5 D cy z0 0 0 (zQm MX6_plainCost below D cy z0 (zI (nI (zsum (fun i => zup (lt (dd i)) pl) nd)) g σ) args s) 5 [some (.ref (g.2.1 7)), some (.ref (g.2.1 11)), some (.ref (g.2.1 ru)), some (.int (nI (zsum (fun i => zup (lt (dd i)) pl) k))), some (.int (nI k))] [] g σ := by
    intro n
    induction n with
    | zero => intro k hk hn; exact absurd hn (Nat.not_lt_zero _)
    | succ n ih_5 =>
      intro k hk hn
      refine z_iload X dX6_plainCost_5 rfl ?_
      refine z_aload_n X dX6_plainCost_7 rfl ?_
      refine z_geti X fX6_68 (zso_11 hS) rfl dX6_plainCost_8 ?_
      try simp (disch := omega) only [z_up_app, z_put_app, reduceIte, Nat.reduceEqDiff, hd, r1]
      refine z_icmp_ge (tgt := 43) X dX6_plainCost_11 (by decide) (fun c_11 => ?_) (fun c_11 => ?_)
      · skip
        try simp (disch := omega) only [zk0, nI_leI, nI_ltI, nI_eq, zbk_notn, zbk_not, zbk_n0, zbk_0, zb_0, zb_n0, zb_not, zb_notn, Bool.not_eq_false, Bool.not_eq_true, Bool.not_eq_true', Bool.not_eq_false', decide_eq_true_eq, decide_eq_false_iff_not, Classical.not_not] at c_11
        refine z_iload_n X dX6_plainCost_43 rfl ?_
        refine z_iret X (by decide) (by decide) rfl dX6_plainCost_44 ?_
        have e : k = nd := by omega
        subst e
        exact zI_e rfl rfl rfl
      · skip
        try simp (disch := omega) only [zk0, nI_leI, nI_ltI, nI_eq, zbk_notn, zbk_not, zbk_n0, zbk_0, zb_0, zb_n0, zb_not, zb_notn, Bool.not_eq_false, Bool.not_eq_true, Bool.not_eq_true', Bool.not_eq_false', decide_eq_true_eq, decide_eq_false_iff_not, Classical.not_not] at c_11
        refine z_iload_n X dX6_plainCost_14 rfl ?_
        refine z_aload_n X dX6_plainCost_15 rfl ?_
        refine z_getr2 X fX6_9 (zso_7 hS) (zsr_7_0 hS) rfl dX6_plainCost_16 ?_
        refine z_aload_n X dX6_plainCost_19 rfl ?_
        refine z_iload X dX6_plainCost_20 rfl ?_
        refine z_runV X kX6_73 (tX2_ideaAt k hS hd hd2 (by omega)) (zso_11 hS) rfl rfl (Nat.le_of_ble_eq_true rfl) ⟨by decide, by decide⟩ ⟨by decide, by decide⟩ dX6_plainCost_22 ?_
        rintro _ g1 s1 ⟨rfl, h8, h9⟩
        replace h8 := h8.symm
        subst h8
        replace h9 := h9.symm
        subst h9
        rw [(hdd k (by omega)).1]
        refine z_runV X kX6_77 (tX0_lettersOf (dd k) hS hi hi2 (hdd k (by omega)).2) (zso_2 hS) rfl rfl (Nat.le_of_ble_eq_true rfl) ⟨by decide, by decide⟩ ⟨by decide, by decide⟩ dX6_plainCost_25 ?_
        rintro _ g1 s1 ⟨rfl, h8, h9⟩
        replace h8 := h8.symm
        subst h8
        replace h9 := h9.symm
        subst h9
        have hl := hlt (dd k) (hdd k (by omega)).2
        rw [hl.1]
        refine z_aload_n X dX6_plainCost_28 rfl ?_
        refine z_geti X fX6_82 (hru) rfl dX6_plainCost_29 ?_
        try simp (disch := omega) only [z_up_app, z_put_app, reduceIte, Nat.reduceEqDiff, hd, r1]
        refine z_runS X kX6_87 (tX8_roundedUp (lt (dd k)) pl (by omega) (by omega) (by omega)) rfl rfl (Nat.le_of_ble_eq_true rfl) ⟨by decide, by decide⟩ ⟨by decide, by decide⟩ dX6_plainCost_32 ?_
        rintro _ g1 s1 ⟨rfl, h8, h9⟩
        replace h8 := h8.symm
        subst h8
        replace h9 := h9.symm
        subst h9
        refine z_iaddN X dX6_plainCost_35 ?_
        refine z_istore_n X dX6_plainCost_36 (by decide) ?_
        refine z_inc1 X dX6_plainCost_37 rfl (by decide) ?_
        refine z_goto (tgt := 5) X dX6_plainCost_40 (by decide) ?_
        exact ih_5 (k + 1) (by omega) (by omega)
  refine z_iconst (v := nI 0) X (by decide) dX6_plainCost_0 ?_
  refine z_istore_n X dX6_plainCost_1 (by decide) ?_
  refine z_iconst (v := nI 0) X (by decide) dX6_plainCost_2 ?_
  refine z_istore X dX6_plainCost_3 (by decide) ?_
  exact loop_5 (nd - 0 + 1) 0 (by omega) (by omega)

set_option maxHeartbeats 4000000 in
set_option maxRecDepth 100000 in
theorem tX6_findCodes {l : Launch} {D : va_G} {cy : Nat → ClassId} {z0 : zRg} {g : zSh} {σ : zIn} {ru pl cd vw ni nd ne : Nat} {lt dd : Nat → Nat} (key : Nat) (hS : zS g) (hDr : zDr σ ni lt nd dd) (hru : z_ob g ru 7) (hRl : zRl σ ru pl cd vw) (he : σ 2 5 = nI ne) (he2 : ne ≤ 40) (hC : ∀ k, k < ne → zwd (σ 4 k)) (hU : ∀ p m j k, j < ne → k < ne → 1 ≤ m → m ≤ 4 → zmt (σ 5) (σ 12) j p m → zmt (σ 5) (σ 12) k p m → j = k) (hkey : key ≤ 39) (hru8 : ru ≠ 8) : z_Ct l D cy z0 MX6_findCodes [.ref (g.2.1 7), .ref (g.2.1 11), .int (nI key), .ref (g.2.1 ru)] g σ (fun v g' σ' => v = none ∧ g' = g ∧ (∀ i, i ≠ 8 → σ' i = σ i) ∧ ∀ p m, p < nd → 1 ≤ m → m ≤ 4 → (p + m ≤ nd → zcode (σ 5) (σ 12) (σ 4) ne key vw p m (σ' 8 (p * 4 + m - 1))) ∧ (nd < p + m → σ' 8 (p * 4 + m - 1) = -1)) := by
  obtain ⟨hi, hi2, hlt, hd, hd2, hdd⟩ := hDr
  obtain ⟨r1, r2, r3, r4, r5, r6, r7, r8⟩ := hRl
  refine z_ofM (by decide) (z_cr (z_cr (z_ci (z_cr z_c0)))) (Nat.le_of_ble_eq_true rfl) ?_
  intro p e s m args below meth c X
  have loop_11 : ∀ (n : Nat) (p9 : Nat) (v1 v2 v3 : Option Value) (τ : zIn) (hk : p9 ≤ nd) (hf : ∀ i, i ≠ 8 → τ i = σ i) (h1 : ∀ p m, p < p9 → 1 ≤ m → m ≤ 4 → (p + m ≤ nd → zcode (σ 5) (σ 12) (σ 4) ne key vw p m (τ 8 (p * 4 + m - 1))) ∧ (nd < p + m → τ 8 (p * 4 + m - 1) = -1)) (h2 : ∀ q, p9 * 4 ≤ q → q < 96 → τ 8 q = -1) (hn : nd - p9 < n), z_V p l e (zRm MX6_findCodes) s m args below meth c 8 D cy z0 0 0 (zQm MX6_findCodes below D cy z0 (fun v g' σ' => v = none ∧ g' = g ∧ (∀ i, i ≠ 8 → σ' i = σ i) ∧ ∀ p m, p < nd → 1 ≤ m → m ≤ 4 → (p + m ≤ nd → zcode (σ 5) (σ 12) (σ 4) ne key vw p m (σ' 8 (p * 4 + m - 1))) ∧ (nd < p + m → σ' 8 (p * 4 + m - 1) = -1)) args s) 11 [some (.ref (g.2.1 7)), some (.ref (g.2.1 11)), some (.int (nI key)), some (.ref (g.2.1 ru)), some (.int (nI p9)), v1, v2, v3] [] g τ := by
    intro n
    induction n with
    | zero => intro p9 v1 v2 v3 τ hk hf h1 h2 hn; exact absurd hn (Nat.not_lt_zero _)
    | succ n ih_11 =>
      intro p9 v1 v2 v3 τ hk hf h1 h2 hn
      have eD : τ 11 1 = nI nd := by rw [hf 11 (by decide)]; exact hd
      have loop_23 : ∀ (n : Nat) (m9 : Nat) (u1 u2 : Option Value) (υ : zIn) (hp : p9 < nd) (hm1 : 1 ≤ m9) (hm2 : m9 ≤ 5) (hm3 : p9 + m9 ≤ nd + 1) (gf : ∀ i, i ≠ 8 → υ i = σ i) (g1 : ∀ p m, p < p9 → 1 ≤ m → m ≤ 4 → (p + m ≤ nd → zcode (σ 5) (σ 12) (σ 4) ne key vw p m (υ 8 (p * 4 + m - 1))) ∧ (nd < p + m → υ 8 (p * 4 + m - 1) = -1)) (g3 : ∀ m, 1 ≤ m → m < m9 → (p9 + m ≤ nd → zcode (σ 5) (σ 12) (σ 4) ne key vw p9 m (υ 8 (p9 * 4 + m - 1)))) (g2 : ∀ q, p9 * 4 + m9 - 1 ≤ q → q < 96 → υ 8 q = -1) (hn : 5 - m9 < n), z_V p l e (zRm MX6_findCodes) s m args below meth c 8 D cy z0 0 0 (zQm MX6_findCodes below D cy z0 (fun v g' σ' => v = none ∧ g' = g ∧ (∀ i, i ≠ 8 → σ' i = σ i) ∧ ∀ p m, p < nd → 1 ≤ m → m ≤ 4 → (p + m ≤ nd → zcode (σ 5) (σ 12) (σ 4) ne key vw p m (σ' 8 (p * 4 + m - 1))) ∧ (nd < p + m → σ' 8 (p * 4 + m - 1) = -1)) args s) 23 [some (.ref (g.2.1 7)), some (.ref (g.2.1 11)), some (.int (nI key)), some (.ref (g.2.1 ru)), some (.int (nI p9)), some (.int (nI m9)), u1, u2] [] g υ := by
        intro n
        induction n with
        | zero => intro m9 u1 u2 υ hp hm1 hm2 hm3 gf g1 g3 g2 hn; exact absurd hn (Nat.not_lt_zero _)
        | succ n ih_23 =>
          intro m9 u1 u2 υ hp hm1 hm2 hm3 gf g1 g3 g2 hn
          have e4 : υ 4 = σ 4 := gf 4 (by decide)
          have e5 : υ 5 = σ 5 := gf 5 (by decide)
          have e12 : υ 12 = σ 12 := gf 12 (by decide)
          have eH : υ 2 5 = nI ne := by rw [gf 2 (by decide)]; exact he
          have eD : υ 11 1 = nI nd := by rw [gf 11 (by decide)]; exact hd
          have eR : υ ru 4 = nI vw := by rw [gf ru hru8]; exact r7
          refine z_iload X dX6_findCodes_23 rfl ?_
          refine z_iconst (v := nI 4) X (by decide) dX6_findCodes_25 ?_
          refine z_icmp_gt (tgt := 124) X dX6_findCodes_26 (by decide) (fun c_26 => ?_) (fun c_26 => ?_)
          · skip
            try simp (disch := omega) only [zk0, nI_leI, nI_ltI, nI_eq, zbk_notn, zbk_not, zbk_n0, zbk_0, zb_0, zb_n0, zb_not, zb_notn, Bool.not_eq_false, Bool.not_eq_true, Bool.not_eq_true', Bool.not_eq_false', decide_eq_true_eq, decide_eq_false_iff_not, Classical.not_not] at c_26
            refine z_inc1 X dX6_findCodes_124 rfl (by decide) ?_
            refine z_goto (tgt := 11) X dX6_findCodes_127 (by decide) ?_
            exact ih_11 (p9 + 1) _ _ _ _ (by omega) gf (fun p m q1 q2 q3 => by
              by_cases e : p = p9
              · subst e
                refine ⟨fun q => ?_, fun q => ?_⟩
                · exact g3 m q2 (by omega) q
                · exact g2 _ (by omega) (by omega)
              · exact g1 p m (by omega) q2 q3) (fun q q1 q2 => g2 q (by omega) q2) (by omega)
          · skip
            try simp (disch := omega) only [zk0, nI_leI, nI_ltI, nI_eq, zbk_notn, zbk_not, zbk_n0, zbk_0, zb_0, zb_n0, zb_not, zb_notn, Bool.not_eq_false, Bool.not_eq_true, Bool.not_eq_true', Bool.not_eq_false', decide_eq_true_eq, decide_eq_false_iff_not, Classical.not_not] at c_26
            refine z_iload X dX6_findCodes_29 rfl ?_
            refine z_iload X dX6_findCodes_31 rfl ?_
            refine z_iaddN X dX6_findCodes_33 ?_
            refine z_aload_n X dX6_findCodes_34 rfl ?_
            refine z_geti X fX6_68 (zso_11 hS) rfl dX6_findCodes_35 ?_
            try simp (disch := omega) only [z_up_app, z_put_app, reduceIte, Nat.reduceEqDiff, eD, eR]
            refine z_icmp_gt (tgt := 124) X dX6_findCodes_38 (by decide) (fun c_38 => ?_) (fun c_38 => ?_)
            · skip
              try simp (disch := omega) only [zk0, nI_leI, nI_ltI, nI_eq, zbk_notn, zbk_not, zbk_n0, zbk_0, zb_0, zb_n0, zb_not, zb_notn, Bool.not_eq_false, Bool.not_eq_true, Bool.not_eq_true', Bool.not_eq_false', decide_eq_true_eq, decide_eq_false_iff_not, Classical.not_not] at c_38
              refine z_inc1 X dX6_findCodes_124 rfl (by decide) ?_
              refine z_goto (tgt := 11) X dX6_findCodes_127 (by decide) ?_
              exact ih_11 (p9 + 1) _ _ _ _ (by omega) gf (fun p m q1 q2 q3 => by
                by_cases e : p = p9
                · subst e
                  refine ⟨fun q => ?_, fun q => ?_⟩
                  · exact g3 m q2 (by omega) q
                  · exact g2 _ (by omega) (by omega)
                · exact g1 p m (by omega) q2 q3) (fun q q1 q2 => g2 q (by omega) q2) (by omega)
            · skip
              try simp (disch := omega) only [zk0, nI_leI, nI_ltI, nI_eq, zbk_notn, zbk_not, zbk_n0, zbk_0, zb_0, zb_n0, zb_not, zb_notn, Bool.not_eq_false, Bool.not_eq_true, Bool.not_eq_true', Bool.not_eq_false', decide_eq_true_eq, decide_eq_false_iff_not, Classical.not_not] at c_38
              refine z_aload_n X dX6_findCodes_41 rfl ?_
              refine z_getr2 X fX6_9 (zso_7 hS) (zsr_7_0 hS) rfl dX6_findCodes_42 ?_
              refine z_aload_n X dX6_findCodes_45 rfl ?_
              refine z_getr2 X fX6_9 (zso_7 hS) (zsr_7_0 hS) rfl dX6_findCodes_46 ?_
              refine z_aload_n X dX6_findCodes_49 rfl ?_
              refine z_getr2 X fX6_9 (zso_7 hS) (zsr_7_0 hS) rfl dX6_findCodes_50 ?_
              refine z_aload_n X dX6_findCodes_53 rfl ?_
              refine z_iload X dX6_findCodes_54 rfl ?_
              refine z_iload X dX6_findCodes_56 rfl ?_
              refine z_runV X kX6_94 (tX0_entryFor p9 m9 hS eH he2 eD hd2 (by omega) (by omega)) (zso_2 hS) rfl rfl (Nat.le_of_ble_eq_true rfl) ⟨by decide, by decide⟩ ⟨by decide, by decide⟩ dX6_findCodes_58 ?_
              rintro _ g1 s1 ⟨r, rfl, h8, h9, hr⟩
              replace h8 := h8.symm
              subst h8
              replace h9 := h9.symm
              subst h9
              rw [e5, e12] at hr
              rcases hr with ⟨k, hk1, rfl, hk2, hk3⟩ | ⟨rfl, hno⟩
              · skip
                have hmod : (k + key) % ne < ne := Nat.mod_lt _ (by omega)
                obtain ⟨W, hW1, hW2⟩ := hC _ hmod
                have hbt : (nI key).toInt = key := nI_toInt (by omega)
                have hsh : (((k : Int) + (nI key).toInt) % ne).toNat = (k + key) % ne := by rw [hbt, ← Int.natCast_add, ← Int.natCast_emod]; rfl
                refine z_iload_n X dX6_findCodes_61 rfl ?_
                refine z_runV X kX6_98 (tX0_shifted k (nI key) hS eH he2 hk1 (by omega) (by omega)) (zso_2 hS) rfl rfl (Nat.le_of_ble_eq_true rfl) ⟨by decide, by decide⟩ ⟨by decide, by decide⟩ dX6_findCodes_62 ?_
                rintro _ g1 s1 ⟨rfl, h8, h9⟩
                replace h8 := h8.symm
                subst h8
                replace h9 := h9.symm
                subst h9
                rw [hsh]
                refine z_runV X kX6_101 (tX0_codeOf ((k + key) % ne) hS eH he2 hmod) (zso_2 hS) rfl rfl (Nat.le_of_ble_eq_true rfl) ⟨by decide, by decide⟩ ⟨by decide, by decide⟩ dX6_findCodes_65 ?_
                rintro _ g1 s1 ⟨rfl, h8, h9⟩
                replace h8 := h8.symm
                subst h8
                replace h9 := h9.symm
                subst h9
                rw [e4, hW2]
                refine z_istore X dX6_findCodes_68 (by decide) ?_
                refine z_iload X dX6_findCodes_70 rfl ?_
                refine z_iconst (v := nI 4) X (by decide) dX6_findCodes_72 ?_
                refine z_imulN X dX6_findCodes_73 ?_
                refine z_iload X dX6_findCodes_74 rfl ?_
                refine z_iaddN X dX6_findCodes_76 ?_
                refine z_iconst (v := nI 1) X (by decide) dX6_findCodes_77 ?_
                refine z_isubN X (by omega) dX6_findCodes_78 ?_
                refine z_istore X dX6_findCodes_79 (by decide) ?_
                refine z_iload X dX6_findCodes_81 rfl ?_
                refine z_iconst (v := -1) X (by decide) dX6_findCodes_83 ?_
                refine z_icmp_eq (tgt := 118) X dX6_findCodes_84 (by decide) (fun c_84 => ?_) (fun c_84 => ?_)
                · exact absurd c_84 (nI_ne_m1 (by omega))
                · skip
                  refine z_iload X dX6_findCodes_87 rfl ?_
                  refine z_runS X kX6_104 (tX8_vowelsIn W (by omega)) rfl rfl (Nat.le_of_ble_eq_true rfl) ⟨by decide, by decide⟩ ⟨by decide, by decide⟩ dX6_findCodes_89 ?_
                  rintro _ g1 s1 ⟨rfl, h8, h9⟩
                  replace h8 := h8.symm
                  subst h8
                  replace h9 := h9.symm
                  subst h9
                  have hvl : zvw (nI W) ≤ 5 := zvk_le _ 5
                  refine z_aload_n X dX6_findCodes_92 rfl ?_
                  refine z_geti X fX6_107 (hru) rfl dX6_findCodes_93 ?_
                  try simp (disch := omega) only [z_up_app, z_put_app, reduceIte, Nat.reduceEqDiff, eD, eR]
                  refine z_icmp_lt (tgt := 118) X dX6_findCodes_96 (by decide) (fun c_96 => ?_) (fun c_96 => ?_)
                  · skip
                    try simp (disch := omega) only [zk0, nI_leI, nI_ltI, nI_eq, zbk_notn, zbk_not, zbk_n0, zbk_0, zb_0, zb_n0, zb_not, zb_notn, Bool.not_eq_false, Bool.not_eq_true, Bool.not_eq_true', Bool.not_eq_false', decide_eq_true_eq, decide_eq_false_iff_not, Classical.not_not] at c_96
                    refine z_inc1 X dX6_findCodes_118 rfl (by decide) ?_
                    refine z_goto (tgt := 23) X dX6_findCodes_121 (by decide) ?_
                    first
                      | (exfalso; omega)
                      | exact ih_23 (m9 + 1) _ _ _ hp (by omega) (by omega) (by omega) (fun i h8 => by rw [z_up_ne h8]; exact gf i h8)
                          (fun p m q1 q2 q3 => by
                            have hne : p * 4 + m - 1 ≠ p9 * 4 + m9 - 1 := by omega
                            simp only [z_up_app, reduceIte, if_neg hne]; exact g1 p m q1 q2 q3)
                          (fun m q1 q2 q3 => by
                            by_cases e : m = m9
                            · subst e
                              simp only [z_up_app, reduceIte]
                              exact Or.inl ⟨k, hk1, hk2, by rw [hW2]; omega, by rw [hW2]⟩
                            · have hne : p9 * 4 + m - 1 ≠ p9 * 4 + m9 - 1 := by omega
                              simp only [z_up_app, reduceIte, if_neg hne]; exact g3 m q1 (by omega) q3)
                          (fun q q1 q2 => by
                            have hne : q ≠ p9 * 4 + m9 - 1 := by omega
                            simp only [z_up_app, reduceIte, if_neg hne]; exact g2 q (by omega) q2) (by omega)
                      | exact ih_23 (m9 + 1) _ _ _ hp (by omega) (by omega) (by omega) gf g1
                          (fun m q1 q2 q3 => by
                            by_cases e : m = m9
                            · subst e
                              refine Or.inr ⟨?_, g2 _ (by omega) (by omega)⟩
                              intro k' hk' hz
                              first
                                | exact absurd hz (hno k' hk')
                                | (have := hU p9 m k' k hk' hk1 q1 (by omega) hz hk2
                                   subst this; rw [hW2]; omega)
                            · exact g3 m q1 (by omega) q3)
                          (fun q q1 q2 => g2 q (by omega) q2) (by omega)
                  · skip
                    try simp (disch := omega) only [zk0, nI_leI, nI_ltI, nI_eq, zbk_notn, zbk_not, zbk_n0, zbk_0, zb_0, zb_n0, zb_not, zb_notn, Bool.not_eq_false, Bool.not_eq_true, Bool.not_eq_true', Bool.not_eq_false', decide_eq_true_eq, decide_eq_false_iff_not, Classical.not_not] at c_96
                    refine z_iload X dX6_findCodes_99 rfl ?_
                    refine z_aload_n X dX6_findCodes_101 rfl ?_
                    refine z_getr2 X fX6_15 (zso_7 hS) (zsr_7_1 hS) rfl dX6_findCodes_102 ?_
                    refine z_alen X (t := 0) (by decide) (zsa_8 hS) dX6_findCodes_105 ?_
                    refine z_icmp_ge (tgt := 118) X dX6_findCodes_106 (by decide) (fun c_106 => ?_) (fun c_106 => ?_)
                    · skip
                      try simp (disch := omega) only [zk0, nI_leI, nI_ltI, nI_eq, zbk_notn, zbk_not, zbk_n0, zbk_0, zb_0, zb_n0, zb_not, zb_notn, Bool.not_eq_false, Bool.not_eq_true, Bool.not_eq_true', Bool.not_eq_false', decide_eq_true_eq, decide_eq_false_iff_not, Classical.not_not] at c_106
                      refine z_inc1 X dX6_findCodes_118 rfl (by decide) ?_
                      refine z_goto (tgt := 23) X dX6_findCodes_121 (by decide) ?_
                      first
                        | (exfalso; omega)
                        | exact ih_23 (m9 + 1) _ _ _ hp (by omega) (by omega) (by omega) (fun i h8 => by rw [z_up_ne h8]; exact gf i h8)
                            (fun p m q1 q2 q3 => by
                              have hne : p * 4 + m - 1 ≠ p9 * 4 + m9 - 1 := by omega
                              simp only [z_up_app, reduceIte, if_neg hne]; exact g1 p m q1 q2 q3)
                            (fun m q1 q2 q3 => by
                              by_cases e : m = m9
                              · subst e
                                simp only [z_up_app, reduceIte]
                                exact Or.inl ⟨k, hk1, hk2, by rw [hW2]; omega, by rw [hW2]⟩
                              · have hne : p9 * 4 + m - 1 ≠ p9 * 4 + m9 - 1 := by omega
                                simp only [z_up_app, reduceIte, if_neg hne]; exact g3 m q1 (by omega) q3)
                            (fun q q1 q2 => by
                              have hne : q ≠ p9 * 4 + m9 - 1 := by omega
                              simp only [z_up_app, reduceIte, if_neg hne]; exact g2 q (by omega) q2) (by omega)
                        | exact ih_23 (m9 + 1) _ _ _ hp (by omega) (by omega) (by omega) gf g1
                            (fun m q1 q2 q3 => by
                              by_cases e : m = m9
                              · subst e
                                refine Or.inr ⟨?_, g2 _ (by omega) (by omega)⟩
                                intro k' hk' hz
                                first
                                  | exact absurd hz (hno k' hk')
                                  | (have := hU p9 m k' k hk' hk1 q1 (by omega) hz hk2
                                     subst this; rw [hW2]; omega)
                              · exact g3 m q1 (by omega) q3)
                            (fun q q1 q2 => g2 q (by omega) q2) (by omega)
                    · skip
                      try simp (disch := omega) only [zk0, nI_leI, nI_ltI, nI_eq, zbk_notn, zbk_not, zbk_n0, zbk_0, zb_0, zb_n0, zb_not, zb_notn, Bool.not_eq_false, Bool.not_eq_true, Bool.not_eq_true', Bool.not_eq_false', decide_eq_true_eq, decide_eq_false_iff_not, Classical.not_not] at c_106
                      refine z_aload_n X dX6_findCodes_109 rfl ?_
                      refine z_getr2 X fX6_15 (zso_7 hS) (zsr_7_1 hS) rfl dX6_findCodes_110 ?_
                      refine z_iload X dX6_findCodes_113 rfl ?_
                      refine z_iload X dX6_findCodes_115 rfl ?_
                      refine z_iastN X (zsa_8 hS) (by omega) (by omega) dX6_findCodes_117 ?_
                      refine z_inc1 X dX6_findCodes_118 rfl (by decide) ?_
                      refine z_goto (tgt := 23) X dX6_findCodes_121 (by decide) ?_
                      first
                        | (exfalso; omega)
                        | exact ih_23 (m9 + 1) _ _ _ hp (by omega) (by omega) (by omega) (fun i h8 => by rw [z_up_ne h8]; exact gf i h8)
                            (fun p m q1 q2 q3 => by
                              have hne : p * 4 + m - 1 ≠ p9 * 4 + m9 - 1 := by omega
                              simp only [z_up_app, reduceIte, if_neg hne]; exact g1 p m q1 q2 q3)
                            (fun m q1 q2 q3 => by
                              by_cases e : m = m9
                              · subst e
                                simp only [z_up_app, reduceIte]
                                exact Or.inl ⟨k, hk1, hk2, by rw [hW2]; omega, by rw [hW2]⟩
                              · have hne : p9 * 4 + m - 1 ≠ p9 * 4 + m9 - 1 := by omega
                                simp only [z_up_app, reduceIte, if_neg hne]; exact g3 m q1 (by omega) q3)
                            (fun q q1 q2 => by
                              have hne : q ≠ p9 * 4 + m9 - 1 := by omega
                              simp only [z_up_app, reduceIte, if_neg hne]; exact g2 q (by omega) q2) (by omega)
                        | exact ih_23 (m9 + 1) _ _ _ hp (by omega) (by omega) (by omega) gf g1
                            (fun m q1 q2 q3 => by
                              by_cases e : m = m9
                              · subst e
                                refine Or.inr ⟨?_, g2 _ (by omega) (by omega)⟩
                                intro k' hk' hz
                                first
                                  | exact absurd hz (hno k' hk')
                                  | (have := hU p9 m k' k hk' hk1 q1 (by omega) hz hk2
                                     subst this; rw [hW2]; omega)
                              · exact g3 m q1 (by omega) q3)
                            (fun q q1 q2 => g2 q (by omega) q2) (by omega)
              · skip
                refine z_iload_n X dX6_findCodes_61 rfl ?_
                refine z_runV X kX6_98 (tX0_shiftedN (nI key) hS eH he2) (zso_2 hS) rfl rfl (Nat.le_of_ble_eq_true rfl) ⟨by decide, by decide⟩ ⟨by decide, by decide⟩ dX6_findCodes_62 ?_
                rintro _ g1 s1 ⟨rfl, h8, h9⟩
                replace h8 := h8.symm
                subst h8
                replace h9 := h9.symm
                subst h9
                refine z_runV X kX6_101 (tX0_codeOfN hS eH he2) (zso_2 hS) rfl rfl (Nat.le_of_ble_eq_true rfl) ⟨by decide, by decide⟩ ⟨by decide, by decide⟩ dX6_findCodes_65 ?_
                rintro _ g1 s1 ⟨rfl, h8, h9⟩
                replace h8 := h8.symm
                subst h8
                replace h9 := h9.symm
                subst h9
                refine z_istore X dX6_findCodes_68 (by decide) ?_
                refine z_iload X dX6_findCodes_70 rfl ?_
                refine z_iconst (v := nI 4) X (by decide) dX6_findCodes_72 ?_
                refine z_imulN X dX6_findCodes_73 ?_
                refine z_iload X dX6_findCodes_74 rfl ?_
                refine z_iaddN X dX6_findCodes_76 ?_
                refine z_iconst (v := nI 1) X (by decide) dX6_findCodes_77 ?_
                refine z_isubN X (by omega) dX6_findCodes_78 ?_
                refine z_istore X dX6_findCodes_79 (by decide) ?_
                refine z_iload X dX6_findCodes_81 rfl ?_
                refine z_iconst (v := -1) X (by decide) dX6_findCodes_83 ?_
                refine z_icmp_eq (tgt := 118) X dX6_findCodes_84 (by decide) (fun c_84 => ?_) (fun c_84 => ?_)
                · skip
                  refine z_inc1 X dX6_findCodes_118 rfl (by decide) ?_
                  refine z_goto (tgt := 23) X dX6_findCodes_121 (by decide) ?_
                  first
                    | (exfalso; omega)
                    | exact ih_23 (m9 + 1) _ _ _ hp (by omega) (by omega) (by omega) (fun i h8 => by rw [z_up_ne h8]; exact gf i h8)
                        (fun p m q1 q2 q3 => by
                          have hne : p * 4 + m - 1 ≠ p9 * 4 + m9 - 1 := by omega
                          simp only [z_up_app, reduceIte, if_neg hne]; exact g1 p m q1 q2 q3)
                        (fun m q1 q2 q3 => by
                          by_cases e : m = m9
                          · subst e
                            simp only [z_up_app, reduceIte]
                            exact Or.inl ⟨k, hk1, hk2, by rw [hW2]; omega, by rw [hW2]⟩
                          · have hne : p9 * 4 + m - 1 ≠ p9 * 4 + m9 - 1 := by omega
                            simp only [z_up_app, reduceIte, if_neg hne]; exact g3 m q1 (by omega) q3)
                        (fun q q1 q2 => by
                          have hne : q ≠ p9 * 4 + m9 - 1 := by omega
                          simp only [z_up_app, reduceIte, if_neg hne]; exact g2 q (by omega) q2) (by omega)
                    | exact ih_23 (m9 + 1) _ _ _ hp (by omega) (by omega) (by omega) gf g1
                        (fun m q1 q2 q3 => by
                          by_cases e : m = m9
                          · subst e
                            refine Or.inr ⟨?_, g2 _ (by omega) (by omega)⟩
                            intro k' hk' hz
                            first
                              | exact absurd hz (hno k' hk')
                              | (have := hU p9 m k' k hk' hk1 q1 (by omega) hz hk2
                                 subst this; rw [hW2]; omega)
                          · exact g3 m q1 (by omega) q3)
                        (fun q q1 q2 => g2 q (by omega) q2) (by omega)
                · exact absurd rfl c_84
      refine z_iload X dX6_findCodes_11 rfl ?_
      refine z_aload_n X dX6_findCodes_13 rfl ?_
      refine z_geti X fX6_68 (zso_11 hS) rfl dX6_findCodes_14 ?_
      try simp (disch := omega) only [z_up_app, z_put_app, reduceIte, Nat.reduceEqDiff, eD]
      refine z_icmp_ge (tgt := 130) X dX6_findCodes_17 (by decide) (fun c_17 => ?_) (fun c_17 => ?_)
      · skip
        try simp (disch := omega) only [zk0, nI_leI, nI_ltI, nI_eq, zbk_notn, zbk_not, zbk_n0, zbk_0, zb_0, zb_n0, zb_not, zb_notn, Bool.not_eq_false, Bool.not_eq_true, Bool.not_eq_true', Bool.not_eq_false', decide_eq_true_eq, decide_eq_false_iff_not, Classical.not_not] at c_17
        refine z_vret X (by decide) (by decide) rfl dX6_findCodes_130 ?_
        have e : p9 = nd := by omega
        subst e
        exact ⟨rfl, rfl, hf, h1⟩
      · skip
        try simp (disch := omega) only [zk0, nI_leI, nI_ltI, nI_eq, zbk_notn, zbk_not, zbk_n0, zbk_0, zb_0, zb_n0, zb_not, zb_notn, Bool.not_eq_false, Bool.not_eq_true, Bool.not_eq_true', Bool.not_eq_false', decide_eq_true_eq, decide_eq_false_iff_not, Classical.not_not] at c_17
        refine z_iconst (v := nI 1) X (by decide) dX6_findCodes_20 ?_
        refine z_istore X dX6_findCodes_21 (by decide) ?_
        exact loop_23 (5 - 1 + 1) 1 _ _ τ (by omega) (by omega) (by omega) (by omega) hf h1 (fun m h1 h2 => by omega) (fun q hq hq2 => h2 q (by omega) hq2) (by omega)
  refine z_aload_n X dX6_findCodes_0 rfl ?_
  refine z_getr2 X fX6_15 (zso_7 hS) (zsr_7_1 hS) rfl dX6_findCodes_1 ?_
  refine z_iconst (v := -1) X (by decide) dX6_findCodes_4 ?_
  refine z_runS X kX6_90 (tJ7_fill_53178 (-1) (zsa_8 hS) (by decide)) rfl rfl (Nat.le_of_ble_eq_true rfl) ⟨by decide, by decide⟩ ⟨by decide, by decide⟩ dX6_findCodes_5 ?_
  rintro _ g1 s1 ⟨rfl, h8, h9⟩
  replace h8 := h8.symm
  subst h8
  replace h9 := h9.symm
  subst h9
  refine z_iconst (v := nI 0) X (by decide) dX6_findCodes_8 ?_
  refine z_istore X dX6_findCodes_9 (by decide) ?_
  exact loop_11 (nd - 0 + 1) 0 _ _ _ _ (by omega) (fun i h8 => by funext k; simp only [z_fill, z_put_app, if_neg h8]) (fun p m h1 => absurd h1 (Nat.not_lt_zero _)) (fun q h1 h2 => by simp only [z_fill, z_put_app, reduceIte, if_pos h2]) (by omega)

theorem zkB : (1000000000 : Int32) = nI 1000000000 := rfl
theorem zm1 (x : Int32) : x + (-1) = x - nI 1 := (Int32.sub_eq_add_neg x 1).symm
theorem z_fill_app {σ : zIn} {i n i' k' : Nat} {x : Int32} : z_fill σ i n x i' k' = if i' = i then (if k' < n then x else σ i k') else σ i' k' := rfl
set_option maxHeartbeats 4000000 in
set_option maxRecDepth 100000 in
theorem tX6_findLeast {l : Launch} {D : va_G} {cy : Nat → ClassId} {z0 : zRg} {g : zSh} {σ : zIn} {ru pl cd vw ni nd : Nat} {lt dd : Nat → Nat} {us : Nat → Nat → Bool} (hS : zS g) (hDr : zDr σ ni lt nd dd) (hru : z_ob g ru 7) (hRl : zRl σ ru pl cd vw) (hus : ∀ p m, p < nd → 1 ≤ m → m ≤ 4 → (σ 8 (p * 4 + m - 1) = -1 ↔ us p m = false) ∧ (us p m = true → p + m ≤ nd)) (hru9 : ru ≠ 9) : z_Ct l D cy z0 MX6_findLeast [.ref (g.2.1 7), .ref (g.2.1 11), .ref (g.2.1 ru)] g σ (fun v g' σ' => v = none ∧ g' = g ∧ (∀ i, i ≠ 9 → σ' i = σ i) ∧ ∀ q n, q ≤ nd → n ≤ 24 → σ' 9 (q * 25 + n) = nI (zLT 1000000000 nd (fun i => zup (lt (dd i)) cd) us q n)) := by
  obtain ⟨hi, hi2, hlt, hd, hd2, hdd⟩ := hDr
  obtain ⟨r1, r2, r3, r4, r5, r6, r7, r8⟩ := hRl
  refine z_ofM (by decide) (z_cr (z_cr (z_cr z_c0))) (Nat.le_of_ble_eq_true rfl) ?_
  intro p e s m args below meth c X
  have loop_26 : ∀ (n : Nat) (p1 : Nat) (v1 v2 v3 v4 : Option Value) (τ : zIn) (hp1 : p1 ≤ nd) (hf : ∀ i, i ≠ 9 → τ i = σ i) (h1 : ∀ q n, p1 ≤ q → q ≤ nd → n ≤ 24 → τ 9 (q * 25 + n) = nI (zLT 1000000000 nd (fun i => zup (lt (dd i)) cd) us q n)) (h2 : ∀ q n, q < p1 → n ≤ 24 → τ 9 (q * 25 + n) = nI 1000000000) (hn : p1 < n), z_V p l e (zRm MX6_findLeast) s m args below meth c 8 D cy z0 0 0 (zQm MX6_findLeast below D cy z0 (fun v g' σ' => v = none ∧ g' = g ∧ (∀ i, i ≠ 9 → σ' i = σ i) ∧ ∀ q n, q ≤ nd → n ≤ 24 → σ' 9 (q * 25 + n) = nI (zLT 1000000000 nd (fun i => zup (lt (dd i)) cd) us q n)) args s) 26 [some (.ref (g.2.1 7)), some (.ref (g.2.1 11)), some (.ref (g.2.1 ru)), some (.int (nI p1 - nI 1)), v1, v2, v3, v4] [] g τ := by
    intro n
    induction n with
    | zero => intro p1 v1 v2 v3 v4 τ hp1 hf h1 h2 hn; exact absurd hn (Nat.not_lt_zero _)
    | succ n ih_26 =>
      intro p1 v1 v2 v3 v4 τ hp1 hf h1 h2 hn
      have eI : τ 2 4 = nI ni := by rw [hf 2 (by decide)]; exact hi
      have e3 : τ 3 = σ 3 := hf 3 (by decide)
      have e12 : τ 12 = σ 12 := hf 12 (by decide)
      have eD : τ 11 1 = nI nd := by rw [hf 11 (by decide)]; exact hd
      have eR : τ ru 3 = nI cd := by rw [hf ru hru9]; exact r4
      refine z_iload_n X dX6_findLeast_26 rfl ?_
      refine z_if_lt (tgt := 150) X dX6_findLeast_27 (by decide) (fun c_27 => ?_) (fun c_27 => ?_)
      · skip
        refine z_vret X (by decide) (by decide) rfl dX6_findLeast_150 ?_
        have hp0 : p1 = 0 := by
          rcases Nat.eq_zero_or_pos p1 with h | h
          · exact h
          · rw [pk_sub (by omega)] at c_27; exact absurd c_27 (nI_pos (by omega))
        subst hp0
        exact ⟨rfl, rfl, hf, fun q n q1 q2 => h1 q n (by omega) q1 q2⟩
      · skip
        have hp0 : p1 ≠ 0 := by
          intro h; subst h; exact c_27 (by decide)
        obtain ⟨p9, rfl⟩ : ∃ q, p1 = q + 1 := ⟨p1 - 1, by omega⟩
        rw [show nI (p9 + 1) - nI 1 = nI p9 from by rw [pk_sub (by omega), Nat.add_sub_cancel]]
        have hp9 : p9 < nd := by omega
        have hl9 := hlt (dd p9) (hdd p9 hp9).2
        have hz9 : zup (lt (dd p9)) cd ≤ 20 := Nat.le_trans (zup_le (by omega) (by omega)) (by omega)
        refine z_aload_n X dX6_findLeast_30 rfl ?_
        refine z_getr2 X fX6_9 (zso_7 hS) (zsr_7_0 hS) rfl dX6_findLeast_31 ?_
        refine z_aload_n X dX6_findLeast_34 rfl ?_
        refine z_iload_n X dX6_findLeast_35 rfl ?_
        refine z_runV X kX6_73 (tX2_ideaAt p9 hS eD hd2 hp9) (zso_11 hS) rfl rfl (Nat.le_of_ble_eq_true rfl) ⟨by decide, by decide⟩ ⟨by decide, by decide⟩ dX6_findLeast_36 ?_
        rintro _ g1 s1 ⟨rfl, h8, h9⟩
        replace h8 := h8.symm
        subst h8
        replace h9 := h9.symm
        subst h9
        rw [e12, (hdd p9 hp9).1]
        refine z_runV X kX6_77 (tX0_lettersOf (dd p9) hS eI hi2 (hdd p9 hp9).2) (zso_2 hS) rfl rfl (Nat.le_of_ble_eq_true rfl) ⟨by decide, by decide⟩ ⟨by decide, by decide⟩ dX6_findLeast_39 ?_
        rintro _ g1 s1 ⟨rfl, h8, h9⟩
        replace h8 := h8.symm
        subst h8
        replace h9 := h9.symm
        subst h9
        rw [e3, hl9.1]
        refine z_aload_n X dX6_findLeast_42 rfl ?_
        refine z_geti X fX6_119 (hru) rfl dX6_findLeast_43 ?_
        try simp (disch := omega) only [z_up_app, z_put_app, reduceIte, Nat.reduceEqDiff, eD, eR]
        refine z_runS X kX6_87 (tX8_roundedUp (lt (dd p9)) cd (by omega) (by omega) (by omega)) rfl rfl (Nat.le_of_ble_eq_true rfl) ⟨by decide, by decide⟩ ⟨by decide, by decide⟩ dX6_findLeast_46 ?_
        rintro _ g1 s1 ⟨rfl, h8, h9⟩
        replace h8 := h8.symm
        subst h8
        replace h9 := h9.symm
        subst h9
        rw [show (lt (dd p9) + cd - 1) / cd = zup (lt (dd p9)) cd from rfl]
        refine z_istore X dX6_findLeast_49 (by decide) ?_
        have loop_54 : ∀ (n : Nat) (n9 : Nat) (w1 w2 : Option Value) (υ : zIn) (hn9 : n9 ≤ nd - p9 + 1) (gf : ∀ i, i ≠ 9 → υ i = σ i) (k1 : ∀ q n, p9 < q → q ≤ nd → n ≤ 24 → υ 9 (q * 25 + n) = nI (zLT 1000000000 nd (fun i => zup (lt (dd i)) cd) us q n)) (k2 : ∀ n, n < n9 → υ 9 (p9 * 25 + n) = nI (zLT 1000000000 nd (fun i => zup (lt (dd i)) cd) us p9 n)) (k3 : ∀ n, n9 ≤ n → n ≤ 24 → υ 9 (p9 * 25 + n) = nI 1000000000) (k4 : ∀ q n, q < p9 → n ≤ 24 → υ 9 (q * 25 + n) = nI 1000000000) (hn : nd - p9 + 1 - n9 < n), z_V p l e (zRm MX6_findLeast) s m args below meth c 8 D cy z0 0 0 (zQm MX6_findLeast below D cy z0 (fun v g' σ' => v = none ∧ g' = g ∧ (∀ i, i ≠ 9 → σ' i = σ i) ∧ ∀ q n, q ≤ nd → n ≤ 24 → σ' 9 (q * 25 + n) = nI (zLT 1000000000 nd (fun i => zup (lt (dd i)) cd) us q n)) args s) 54 [some (.ref (g.2.1 7)), some (.ref (g.2.1 11)), some (.ref (g.2.1 ru)), some (.int (nI p9)), some (.int (nI (zup (lt (dd p9)) cd))), some (.int (nI n9)), w1, w2] [] g υ := by
          intro n
          induction n with
          | zero => intro n9 w1 w2 υ hn9 gf k1 k2 k3 k4 hn; exact absurd hn (Nat.not_lt_zero _)
          | succ n ih_54 =>
            intro n9 w1 w2 υ hn9 gf k1 k2 k3 k4 hn
            have e8 : υ 8 = σ 8 := gf 8 (by decide)
            have eD : υ 11 1 = nI nd := by rw [gf 11 (by decide)]; exact hd
            have hT1 : zLT 1000000000 nd (fun i => zup (lt (dd i)) cd) us (p9 + 1) n9 ≤ 1000000000 := zLT_le
            refine z_iload X dX6_findLeast_54 rfl ?_
            refine z_aload_n X dX6_findLeast_56 rfl ?_
            refine z_geti X fX6_68 (zso_11 hS) rfl dX6_findLeast_57 ?_
            try simp (disch := omega) only [z_up_app, z_put_app, reduceIte, Nat.reduceEqDiff, eD]
            refine z_iload_n X dX6_findLeast_60 rfl ?_
            refine z_isubN X (by omega) dX6_findLeast_61 ?_
            refine z_icmp_gt (tgt := 144) X dX6_findLeast_62 (by decide) (fun c_62 => ?_) (fun c_62 => ?_)
            · skip
              try simp (disch := omega) only [zk0, nI_leI, nI_ltI, nI_eq, zbk_notn, zbk_not, zbk_n0, zbk_0, zb_0, zb_n0, zb_not, zb_notn, Bool.not_eq_false, Bool.not_eq_true, Bool.not_eq_true', Bool.not_eq_false', decide_eq_true_eq, decide_eq_false_iff_not, Classical.not_not] at c_62
              refine z_iinc (v := -1) X dX6_findLeast_144 rfl (by decide) (by decide) ?_
              refine z_goto (tgt := 26) X dX6_findLeast_147 (by decide) ?_
              rw [zm1]
              exact ih_26 p9 _ _ _ _ _ (by omega) gf (fun q n q1 q2 q3 => by
                by_cases e : q = p9
                · subst e
                  by_cases e2 : n < n9
                  · exact k2 n e2
                  · rw [k3 n (by omega) q3, zLT_big (nd - q) q n rfl (by omega)]
                · exact k1 q n (by omega) q2 q3) k4 (by omega)
            · skip
              try simp (disch := omega) only [zk0, nI_leI, nI_ltI, nI_eq, zbk_notn, zbk_not, zbk_n0, zbk_0, zb_0, zb_n0, zb_not, zb_notn, Bool.not_eq_false, Bool.not_eq_true, Bool.not_eq_true', Bool.not_eq_false', decide_eq_true_eq, decide_eq_false_iff_not, Classical.not_not] at c_62
              refine z_aload_n X dX6_findLeast_65 rfl ?_
              refine z_iload_n X dX6_findLeast_66 rfl ?_
              refine z_iconst (v := nI 1) X (by decide) dX6_findLeast_67 ?_
              refine z_iaddN X dX6_findLeast_68 ?_
              refine z_iload X dX6_findLeast_69 rfl ?_
              refine z_runV X kX6_122 (tX6_leastFrom (p9 + 1) n9 hS (by omega) (by omega)) (zso_7 hS) rfl rfl (Nat.le_of_ble_eq_true rfl) ⟨by decide, by decide⟩ ⟨by decide, by decide⟩ dX6_findLeast_71 ?_
              rintro _ g1 s1 ⟨rfl, h8, h9⟩
              replace h8 := h8.symm
              subst h8
              replace h9 := h9.symm
              subst h9
              rw [k1 (p9 + 1) n9 (by omega) (by omega) (by omega)]
              refine z_iload X dX6_findLeast_74 rfl ?_
              refine z_iaddN X dX6_findLeast_76 ?_
              refine z_istore X dX6_findLeast_77 (by decide) ?_
              have loop_82 : ∀ (n : Nat) (m9 co : Nat) (hm1 : 1 ≤ m9) (hm2 : m9 ≤ 5) (hco2 : co ≤ 1000001000) (hco : min co 1000000000 = min (zLTm 1000000000 nd (fun i => zup (lt (dd i)) cd) us p9 n9 (m9 - 1)) 1000000000) (hn : 5 - m9 < n), z_V p l e (zRm MX6_findLeast) s m args below meth c 8 D cy z0 0 0 (zQm MX6_findLeast below D cy z0 (fun v g' σ' => v = none ∧ g' = g ∧ (∀ i, i ≠ 9 → σ' i = σ i) ∧ ∀ q n, q ≤ nd → n ≤ 24 → σ' 9 (q * 25 + n) = nI (zLT 1000000000 nd (fun i => zup (lt (dd i)) cd) us q n)) args s) 82 [some (.ref (g.2.1 7)), some (.ref (g.2.1 11)), some (.ref (g.2.1 ru)), some (.int (nI p9)), some (.int (nI (zup (lt (dd p9)) cd))), some (.int (nI n9)), some (.int (nI co)), some (.int (nI m9))] [] g υ := by
                intro n
                induction n with
                | zero => intro m9 co hm1 hm2 hco2 hco hn; exact absurd hn (Nat.not_lt_zero _)
                | succ n ih_82 =>
                  intro m9 co hm1 hm2 hco2 hco hn
                  refine z_iload X dX6_findLeast_82 rfl ?_
                  refine z_iconst (v := nI 4) X (by decide) dX6_findLeast_84 ?_
                  refine z_icmp_gt (tgt := 124) X dX6_findLeast_85 (by decide) (fun c_85 => ?_) (fun c_85 => ?_)
                  · skip
                    try simp (disch := omega) only [zk0, nI_leI, nI_ltI, nI_eq, zbk_notn, zbk_not, zbk_n0, zbk_0, zb_0, zb_n0, zb_not, zb_notn, Bool.not_eq_false, Bool.not_eq_true, Bool.not_eq_true', Bool.not_eq_false', decide_eq_true_eq, decide_eq_false_iff_not, Classical.not_not] at c_85
                    refine z_aload_n X dX6_findLeast_124 rfl ?_
                    refine z_iload_n X dX6_findLeast_125 rfl ?_
                    refine z_iload X dX6_findLeast_126 rfl ?_
                    refine z_iload X dX6_findLeast_128 rfl ?_
                    refine z_ldc X qX6_114 dX6_findLeast_130 ?_
                    rw [zkB]
                    refine z_runS X kX6_35 (tJ9_min_7cf53 (nI co) (nI 1000000000)) rfl rfl (Nat.le_of_ble_eq_true rfl) ⟨by decide, by decide⟩ ⟨by decide, by decide⟩ dX6_findLeast_132 ?_
                    rintro _ g1 s1 ⟨rfl, h8, h9⟩
                    replace h8 := h8.symm
                    subst h8
                    replace h9 := h9.symm
                    subst h9
                    rw [zmin_n (by omega) (by decide)]
                    refine z_runV X kX6_115 (tX6_setLeast p9 n9 _ hS (by omega) (by omega)) (zso_7 hS) rfl rfl (Nat.le_of_ble_eq_true rfl) ⟨by decide, by decide⟩ ⟨by decide, by decide⟩ dX6_findLeast_135 ?_
                    rintro _ g1 s1 ⟨rfl, h8, h9⟩
                    replace h8 := h8.symm
                    subst h8
                    replace h9 := h9.symm
                    subst h9
                    refine z_inc1 X dX6_findLeast_138 rfl (by decide) ?_
                    refine z_goto (tgt := 54) X dX6_findLeast_141 (by decide) ?_
                    have em : m9 = 5 := by omega
                    subst em
                    have hco4 : min co 1000000000 = min (zLTm 1000000000 nd (fun i => zup (lt (dd i)) cd) us p9 n9 4) 1000000000 := hco
                    have eT : zLT 1000000000 nd (fun i => zup (lt (dd i)) cd) us p9 n9 = min co 1000000000 := by rw [zLT_lt hp9]; omega
                    rw [← eT]
                    exact ih_54 (n9 + 1) _ _ _ (by omega) (fun i h9 => by rw [z_up_ne h9]; exact gf i h9)
                      (fun q n q1 q2 q3 => by
                        have hne : q * 25 + n ≠ p9 * 25 + n9 := by omega
                        simp only [z_up_app, reduceIte, if_neg hne]; exact k1 q n q1 q2 q3)
                      (fun n q1 => by
                        by_cases e : n = n9
                        · subst e; simp only [z_up_app, reduceIte]
                        · have hne : p9 * 25 + n ≠ p9 * 25 + n9 := by omega
                          simp only [z_up_app, reduceIte, if_neg hne]; exact k2 n (by omega))
                      (fun n q1 q2 => by
                        have hne : p9 * 25 + n ≠ p9 * 25 + n9 := by omega
                        simp only [z_up_app, reduceIte, if_neg hne]; exact k3 n (by omega) q2)
                      (fun q n q1 q2 => by
                        have hne : q * 25 + n ≠ p9 * 25 + n9 := by omega
                        simp only [z_up_app, reduceIte, if_neg hne]; exact k4 q n q1 q2) (by omega)
                  · skip
                    try simp (disch := omega) only [zk0, nI_leI, nI_ltI, nI_eq, zbk_notn, zbk_not, zbk_n0, zbk_0, zb_0, zb_n0, zb_not, zb_notn, Bool.not_eq_false, Bool.not_eq_true, Bool.not_eq_true', Bool.not_eq_false', decide_eq_true_eq, decide_eq_false_iff_not, Classical.not_not] at c_85
                    refine z_aload_n X dX6_findLeast_88 rfl ?_
                    refine z_iload_n X dX6_findLeast_89 rfl ?_
                    refine z_iload X dX6_findLeast_90 rfl ?_
                    refine z_runV X kX6_125 (tX6_codeFor p9 m9 hS (by omega) hm1 (by omega)) (zso_7 hS) rfl rfl (Nat.le_of_ble_eq_true rfl) ⟨by decide, by decide⟩ ⟨by decide, by decide⟩ dX6_findLeast_92 ?_
                    rintro _ g1 s1 ⟨rfl, h8, h9⟩
                    replace h8 := h8.symm
                    subst h8
                    replace h9 := h9.symm
                    subst h9
                    rw [e8]
                    refine z_iconst (v := -1) X (by decide) dX6_findLeast_95 ?_
                    refine z_icmp_eq (tgt := 118) X dX6_findLeast_96 (by decide) (fun c_96 => ?_) (fun c_96 => ?_)
                    · skip
                      have hu9 := hus p9 m9 hp9 hm1 (by omega)
                      refine z_inc1 X dX6_findLeast_118 rfl (by decide) ?_
                      refine z_goto (tgt := 82) X dX6_findLeast_121 (by decide) ?_
                      first
                        | (refine ih_82 (m9 + 1) _ (by omega) (by omega) hco2 ?_ (by omega)
                           rw [show m9 + 1 - 1 = (m9 - 1) + 1 by omega, zLTm, show m9 - 1 + 1 = m9 by omega, hu9.1.mp c_96]
                           simp only [Bool.false_and, Bool.false_eq_true, if_false]; omega)
                        | (refine ih_82 (m9 + 1) _ (by omega) (by omega) (by omega) ?_ (by omega)
                           have hut : us p9 m9 = true := Bool.not_eq_false _ ▸ (fun h => c_96 (hu9.1.mpr h))
                           rw [show m9 + 1 - 1 = (m9 - 1) + 1 by omega, zLTm, show m9 - 1 + 1 = m9 by omega, hut]
                           first
                             | (simp only [Bool.true_and, decide_eq_true_eq, if_pos (show 0 < n9 by omega)]; omega)
                             | (simp only [Bool.true_and, Nat.lt_irrefl, decide_false, Bool.false_eq_true, if_false]; omega))
                    · skip
                      have hu9 := hus p9 m9 hp9 hm1 (by omega)
                      have hpm := hu9.2 (Bool.not_eq_false _ ▸ (fun h => c_96 (hu9.1.mpr h)))
                      by_cases hn0 : n9 = 0
                      · skip
                        subst hn0
                        have lf : Nat := 1000000000
                        refine z_iload X dX6_findLeast_99 rfl ?_
                        refine z_aload_n X dX6_findLeast_101 rfl ?_
                        refine z_iload_n X dX6_findLeast_102 rfl ?_
                        refine z_iload X dX6_findLeast_103 rfl ?_
                        refine z_iaddN X dX6_findLeast_105 ?_
                        refine z_iload X dX6_findLeast_106 rfl ?_
                        refine z_iconst (v := nI 1) X (by decide) dX6_findLeast_108 ?_
                        refine z_isub X dX6_findLeast_109 ?_
                        rw [show nI 0 - nI 1 = -1 from by decide]
                        refine z_runV X kX6_122 (tX6_leastFromN (p9 + m9) hS (by omega)) (zso_7 hS) rfl rfl (Nat.le_of_ble_eq_true rfl) ⟨by decide, by decide⟩ ⟨by decide, by decide⟩ dX6_findLeast_110 ?_
                        rintro _ g1 s1 ⟨rfl, h8, h9⟩
                        replace h8 := h8.symm
                        subst h8
                        replace h9 := h9.symm
                        subst h9
                        rw [zkB]
                        refine z_runS X kX6_35 (tJ9_min_7cf53 (nI co) (nI 1000000000)) rfl rfl (Nat.le_of_ble_eq_true rfl) ⟨by decide, by decide⟩ ⟨by decide, by decide⟩ dX6_findLeast_113 ?_
                        rintro _ g1 s1 ⟨rfl, h8, h9⟩
                        replace h8 := h8.symm
                        subst h8
                        replace h9 := h9.symm
                        subst h9
                        rw [zmin_n (by omega) (by omega)]
                        refine z_istore X dX6_findLeast_116 (by decide) ?_
                        refine z_inc1 X dX6_findLeast_118 rfl (by decide) ?_
                        refine z_goto (tgt := 82) X dX6_findLeast_121 (by decide) ?_
                        first
                          | (refine ih_82 (m9 + 1) _ (by omega) (by omega) hco2 ?_ (by omega)
                             rw [show m9 + 1 - 1 = (m9 - 1) + 1 by omega, zLTm, show m9 - 1 + 1 = m9 by omega, hu9.1.mp c_96]
                             simp only [Bool.false_and, Bool.false_eq_true, if_false]; omega)
                          | (refine ih_82 (m9 + 1) _ (by omega) (by omega) (by omega) ?_ (by omega)
                             have hut : us p9 m9 = true := Bool.not_eq_false _ ▸ (fun h => c_96 (hu9.1.mpr h))
                             rw [show m9 + 1 - 1 = (m9 - 1) + 1 by omega, zLTm, show m9 - 1 + 1 = m9 by omega, hut]
                             first
                               | (simp only [Bool.true_and, decide_eq_true_eq, if_pos (show 0 < n9 by omega)]; omega)
                               | (simp only [Bool.true_and, Nat.lt_irrefl, decide_false, Bool.false_eq_true, if_false]; omega))
                      · skip
                        have hTl : zLT 1000000000 nd (fun i => zup (lt (dd i)) cd) us (p9 + m9) (n9 - 1) ≤ 1000000000 := zLT_le
                        refine z_iload X dX6_findLeast_99 rfl ?_
                        refine z_aload_n X dX6_findLeast_101 rfl ?_
                        refine z_iload_n X dX6_findLeast_102 rfl ?_
                        refine z_iload X dX6_findLeast_103 rfl ?_
                        refine z_iaddN X dX6_findLeast_105 ?_
                        refine z_iload X dX6_findLeast_106 rfl ?_
                        refine z_iconst (v := nI 1) X (by decide) dX6_findLeast_108 ?_
                        refine z_isub X dX6_findLeast_109 ?_
                        rw [show nI n9 - nI 1 = nI (n9 - 1) from pk_sub (by omega)]
                        refine z_runV X kX6_122 (tX6_leastFrom (p9 + m9) (n9 - 1) hS (by omega) (by omega)) (zso_7 hS) rfl rfl (Nat.le_of_ble_eq_true rfl) ⟨by decide, by decide⟩ ⟨by decide, by decide⟩ dX6_findLeast_110 ?_
                        rintro _ g1 s1 ⟨rfl, h8, h9⟩
                        replace h8 := h8.symm
                        subst h8
                        replace h9 := h9.symm
                        subst h9
                        rw [k1 (p9 + m9) (n9 - 1) (by omega) (by omega) (by omega)]
                        refine z_runS X kX6_35 (tJ9_min_7cf53 (nI co) (nI (zLT 1000000000 nd (fun i => zup (lt (dd i)) cd) us (p9 + m9) (n9 - 1)))) rfl rfl (Nat.le_of_ble_eq_true rfl) ⟨by decide, by decide⟩ ⟨by decide, by decide⟩ dX6_findLeast_113 ?_
                        rintro _ g1 s1 ⟨rfl, h8, h9⟩
                        replace h8 := h8.symm
                        subst h8
                        replace h9 := h9.symm
                        subst h9
                        rw [zmin_n (by omega) (by omega)]
                        refine z_istore X dX6_findLeast_116 (by decide) ?_
                        refine z_inc1 X dX6_findLeast_118 rfl (by decide) ?_
                        refine z_goto (tgt := 82) X dX6_findLeast_121 (by decide) ?_
                        first
                          | (refine ih_82 (m9 + 1) _ (by omega) (by omega) hco2 ?_ (by omega)
                             rw [show m9 + 1 - 1 = (m9 - 1) + 1 by omega, zLTm, show m9 - 1 + 1 = m9 by omega, hu9.1.mp c_96]
                             simp only [Bool.false_and, Bool.false_eq_true, if_false]; omega)
                          | (refine ih_82 (m9 + 1) _ (by omega) (by omega) (by omega) ?_ (by omega)
                             have hut : us p9 m9 = true := Bool.not_eq_false _ ▸ (fun h => c_96 (hu9.1.mpr h))
                             rw [show m9 + 1 - 1 = (m9 - 1) + 1 by omega, zLTm, show m9 - 1 + 1 = m9 by omega, hut]
                             first
                               | (simp only [Bool.true_and, decide_eq_true_eq, if_pos (show 0 < n9 by omega)]; omega)
                               | (simp only [Bool.true_and, Nat.lt_irrefl, decide_false, Bool.false_eq_true, if_false]; omega))
              refine z_iconst (v := nI 1) X (by decide) dX6_findLeast_79 ?_
              refine z_istore X dX6_findLeast_80 (by decide) ?_
              exact loop_82 (5 - 1 + 1) 1 _ (by omega) (by omega) (by omega) (by simp only [Nat.sub_self, zLTm, Nat.add_comm]) (by omega)
        refine z_iconst (v := nI 0) X (by decide) dX6_findLeast_51 ?_
        refine z_istore X dX6_findLeast_52 (by decide) ?_
        exact loop_54 (nd - p9 + 1 - 0 + 1) 0 _ _ τ (by omega) hf (fun q n q1 q2 q3 => h1 q n (by omega) q2 q3) (fun n q1 => absurd q1 (Nat.not_lt_zero _)) (fun n q1 q2 => h2 p9 n (by omega) q2) (fun q n q1 q2 => h2 q n (by omega) q2) (by omega)
  refine z_aload_n X dX6_findLeast_0 rfl ?_
  refine z_getr2 X fX6_19 (zso_7 hS) (zsr_7_2 hS) rfl dX6_findLeast_1 ?_
  refine z_ldc X qX6_114 dX6_findLeast_4 ?_
  refine z_runS X kX6_90 (tJ7_fill_53178 1000000000 (zsa_9 hS) (by decide)) rfl rfl (Nat.le_of_ble_eq_true rfl) ⟨by decide, by decide⟩ ⟨by decide, by decide⟩ dX6_findLeast_6 ?_
  rintro _ g1 s1 ⟨rfl, h8, h9⟩
  replace h8 := h8.symm
  subst h8
  replace h9 := h9.symm
  subst h9
  refine z_aload_n X dX6_findLeast_9 rfl ?_
  refine z_aload_n X dX6_findLeast_10 rfl ?_
  refine z_geti X fX6_68 (zso_11 hS) rfl dX6_findLeast_11 ?_
  try simp (disch := omega) only [z_up_app, z_put_app, reduceIte, Nat.reduceEqDiff, hd, z_fill_app]
  refine z_iconst (v := nI 0) X (by decide) dX6_findLeast_14 ?_
  refine z_iconst (v := nI 0) X (by decide) dX6_findLeast_15 ?_
  refine z_runV X kX6_115 (tX6_setLeast nd 0 (nI 0) hS (by omega) (by omega)) (zso_7 hS) rfl rfl (Nat.le_of_ble_eq_true rfl) ⟨by decide, by decide⟩ ⟨by decide, by decide⟩ dX6_findLeast_16 ?_
  rintro _ g1 s1 ⟨rfl, h8, h9⟩
  replace h8 := h8.symm
  subst h8
  replace h9 := h9.symm
  subst h9
  refine z_aload_n X dX6_findLeast_19 rfl ?_
  refine z_geti X fX6_68 (zso_11 hS) rfl dX6_findLeast_20 ?_
  try simp (disch := omega) only [z_up_app, z_put_app, reduceIte, Nat.reduceEqDiff, hd, z_fill_app]
  refine z_iconst (v := nI 1) X (by decide) dX6_findLeast_23 ?_
  refine z_isub X dX6_findLeast_24 ?_
  refine z_istore_n X dX6_findLeast_25 (by decide) ?_
  exact loop_26 (nd + 1) nd _ _ _ _ _ (by omega) (fun i h9 => by rw [z_up_ne h9]; funext k; simp only [z_fill, z_put_app, if_neg h9])
    (fun q n q1 q2 q3 => by
      have eq : q = nd := by omega
      subst eq
      rw [zLT_ge (Nat.le_refl _)]
      by_cases en : n = 0
      · subst en; simp only [z_up_app, reduceIte]
      · have hne : q * 25 + n ≠ q * 25 + 0 := by omega
        have hlt : q * 25 + n < 625 := by omega
        simp only [z_up_app, z_fill, z_put_app, reduceIte, if_neg hne, if_neg en, if_pos hlt]; rfl)
    (fun q n q1 q2 => by
      have hne : q * 25 + n ≠ nd * 25 + 0 := by omega
      have hlt : q * 25 + n < 625 := by omega
      simp only [z_up_app, z_fill, z_put_app, reduceIte, if_neg hne, if_pos hlt]; rfl) (by omega)
