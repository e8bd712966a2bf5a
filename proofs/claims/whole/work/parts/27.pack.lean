/-! contracts: the packer -/
set_option maxHeartbeats 4000000 in
set_option maxRecDepth 100000 in
theorem tX6_plainCost {l : Launch} {D : va_G} {cy : Nat → ClassId} {z0 : Nat} {g : zSh} {σ : zIn} {ru pl cd vw ni nd : Nat} {lt dd : Nat → Nat} (hS : zS g) (hDr : zDr σ ni lt nd dd) (hru : z_ob g ru 7) (hRl : zRl σ ru pl cd vw) : z_Ct l D cy z0 MX6_plainCost [.ref (g.2.1 7), .ref (g.2.1 11), .ref (g.2.1 ru)] g σ (zI (nI (zsum (fun i => zup (lt (dd i)) pl) nd)) g σ) := by
  obtain ⟨hi, hi2, hlt, hd, hd2, hdd⟩ := hDr
  obtain ⟨r1, r2, r3, r4, r5, r6, r7, r8⟩ := hRl
  refine z_ofM (by decide) (z_cr (z_cr (z_cr z_c0))) (Nat.le_of_ble_eq_true rfl) ?_
  intro p e s m args below meth c X
  have loop_5 : ∀ (n : Nat) (k : Nat) (hk : k ≤ nd) (hn : nd - k < n), z_V p l e (zRm MX6_plainCost) s m args below meth c 5 D cy z0 0 0 (zQm MX6_plainCost below D cy z0 (zI (nI (zsum (fun i => zup (lt (dd i)) pl) nd)) g σ) args s) 5 [some (.ref (g.2.1 7)), some (.ref (g.2.1 11)), some (.ref (g.2.1 ru)), some (.int (nI (zsum (fun i => zup (lt (dd i)) pl) k))), some (.int (nI k))] [] g σ := by
    intro n
    induction n with
    | zero => intro k hk hn; exact absurd hn (Nat.not_lt_zero _)
    | succ n ih_5 =>
      intro k hk hn
      refine z_iload X dX6_plainCost_5 rfl ?_
      refine z_aload_n X dX6_plainCost_7 rfl ?_
      refine z_geti X fX6_57 (zso_11 hS) rfl dX6_plainCost_8 ?_
      try simp (disch := omega) only [z_up_app, z_put_app, reduceIte, Nat.reduceEqDiff, hd, r1]
      refine z_icmp_ge (tgt := 43) X dX6_plainCost_11 (by decide) (fun c_11 => ?_) (fun c_11 => ?_)
      · skip
        try simp (disch := omega) only [zk0, nI_leI, nI_ltI, nI_eq, zbk_notn, zbk_not, zbk_n0, zbk_0, zb_0, zb_n0, zb_not, zb_notn, Bool.not_eq_false, Bool.not_eq_true, Bool.not_eq_true', Bool.not_eq_false', decide_eq_true_eq, decide_eq_false_iff_not] at c_11
        refine z_iload_n X dX6_plainCost_43 rfl ?_
        refine z_iret X (by decide) (by decide) rfl dX6_plainCost_44 ?_
        have e : k = nd := by omega
        subst e
        exact zI_e rfl rfl rfl
      · skip
        try simp (disch := omega) only [zk0, nI_leI, nI_ltI, nI_eq, zbk_notn, zbk_not, zbk_n0, zbk_0, zb_0, zb_n0, zb_not, zb_notn, Bool.not_eq_false, Bool.not_eq_true, Bool.not_eq_true', Bool.not_eq_false', decide_eq_true_eq, decide_eq_false_iff_not] at c_11
        refine z_iload_n X dX6_plainCost_14 rfl ?_
        refine z_aload_n X dX6_plainCost_15 rfl ?_
        refine z_getr2 X fX6_9 (zso_7 hS) (zsr_7_0 hS) rfl dX6_plainCost_16 ?_
        refine z_aload_n X dX6_plainCost_19 rfl ?_
        refine z_iload X dX6_plainCost_20 rfl ?_
        refine z_runV X kX6_62 (tX2_ideaAt k hS hd hd2 (by omega)) (zso_11 hS) rfl rfl (Nat.le_of_ble_eq_true rfl) ⟨by decide, by decide⟩ ⟨by decide, by decide⟩ dX6_plainCost_22 ?_
        rintro _ _ _ ⟨rfl, rfl, rfl⟩
        rw [(hdd k (by omega)).1]
        refine z_runV X kX6_66 (tX0_lettersOf (dd k) hS hi hi2 (hdd k (by omega)).2) (zso_2 hS) rfl rfl (Nat.le_of_ble_eq_true rfl) ⟨by decide, by decide⟩ ⟨by decide, by decide⟩ dX6_plainCost_25 ?_
        rintro _ _ _ ⟨rfl, rfl, rfl⟩
        have hl := hlt (dd k) (hdd k (by omega)).2
        rw [hl.1]
        refine z_aload_n X dX6_plainCost_28 rfl ?_
        refine z_geti X fX6_71 (hru) rfl dX6_plainCost_29 ?_
        try simp (disch := omega) only [z_up_app, z_put_app, reduceIte, Nat.reduceEqDiff, hd, r1]
        refine z_runS X kX6_76 (tX8_roundedUp (lt (dd k)) pl (by omega) (by omega) (by omega)) rfl rfl (Nat.le_of_ble_eq_true rfl) ⟨by decide, by decide⟩ ⟨by decide, by decide⟩ dX6_plainCost_32 ?_
        rintro _ _ _ ⟨rfl, rfl, rfl⟩
        refine z_iaddN X dX6_plainCost_35 ?_
        refine z_istore_n X dX6_plainCost_36 (by decide) ?_
        refine z_inc1 X dX6_plainCost_37 rfl (by decide) ?_
        refine z_goto (tgt := 5) X dX6_plainCost_40 (by decide) ?_
        exact ih_5 (k + 1) (by omega) (by omega)
  refine z_iconst (v := nI 0) X (by decide) dX6_plainCost_0 ?_
  refine z_istore_n X dX6_plainCost_1 (by decide) ?_
  refine z_iconst (v := nI 0) X (by decide) dX6_plainCost_2 ?_
  refine z_istore X dX6_plainCost_3 (by decide) ?_
  exact loop_5 (nd - 0 + 1) 0 (by omega) (by omega)

set_option maxHeartbeats 4000000 in
set_option maxRecDepth 100000 in
theorem tX6_findCodes {l : Launch} {D : va_G} {cy : Nat → ClassId} {z0 : Nat} {g : zSh} {σ : zIn} {ru pl cd vw ni nd ne : Nat} {lt dd : Nat → Nat} (key : Nat) (hS : zS g) (hDr : zDr σ ni lt nd dd) (hru : z_ob g ru 7) (hRl : zRl σ ru pl cd vw) (he : σ 2 5 = nI ne) (he2 : ne ≤ 40) (hC : ∀ k, k < ne → zwd (σ 4 k)) (hU : ∀ p m j k, j < ne → k < ne → 1 ≤ m → m ≤ 4 → zmt (σ 5) (σ 12) j p m → zmt (σ 5) (σ 12) k p m → j = k) (hkey : key ≤ 39) (hru8 : ru ≠ 8) : z_Ct l D cy z0 MX6_findCodes [.ref (g.2.1 7), .ref (g.2.1 11), .int (nI key), .ref (g.2.1 ru)] g σ (fun v g' σ' => v = none ∧ g' = g ∧ (∀ i, i ≠ 8 → σ' i = σ i) ∧ ∀ p m, p < nd → 1 ≤ m → m ≤ 4 → (p + m ≤ nd → zcode (σ 5) (σ 12) (σ 4) ne key vw p m (σ' 8 (p * 4 + m - 1))) ∧ (nd < p + m → σ' 8 (p * 4 + m - 1) = -1)) := by
  obtain ⟨hi, hi2, hlt, hd, hd2, hdd⟩ := hDr
  obtain ⟨r1, r2, r3, r4, r5, r6, r7, r8⟩ := hRl
  refine z_ofM (by decide) (z_cr (z_cr (z_ci (z_cr z_c0)))) (Nat.le_of_ble_eq_true rfl) ?_
  intro p e s m args below meth c X
  have loop_11 : ∀ (n : Nat) (p9 : Nat) (v1 v2 v3 : Option Value) (τ : zIn) (hk : p9 ≤ nd) (hf : ∀ i, i ≠ 8 → τ i = σ i) (h1 : ∀ p m, p < p9 → 1 ≤ m → m ≤ 4 → (p + m ≤ nd → zcode (σ 5) (σ 12) (σ 4) ne key vw p m (τ 8 (p * 4 + m - 1))) ∧ (nd < p + m → τ 8 (p * 4 + m - 1) = -1)) (h2 : ∀ q, p9 * 4 ≤ q → q < 96 → τ 8 q = -1) (hn : nd - p9 < n), z_V p l e (zRm MX6_findCodes) s m args below meth c 8 D cy z0 0 0 (zQm MX6_findCodes below D cy z0 (fun v g' σ' => v = none ∧ g' = g ∧ (∀ i, i ≠ 8 → σ' i = σ i) ∧ ∀ p m, p < nd → 1 ≤ m → m ≤ 4 → (p + m ≤ nd → zcode (σ 5) (σ 12) (σ 4) ne key vw p m (σ' 8 (p * 4 + m - 1))) ∧ (nd < p + m → σ' 8 (p * 4 + m - 1) = -1)) args s) 11 [some (.ref (g.2.1 7)), some (.ref (g.2.1 11)), some (.int (nI key)), some (.ref (g.2.1 ru)), some (.int (nI p9)), v1, v2, v3] [] g τ := by
    intro n
    induction n with
    | zero => intro p9 v1 v2 v3 τ hk hf h1 h2 hn; exact absurd hn (Nat.not_lt_zero _)
    | succ n ih_11 =>
      intro p9 v1 v2 v3 τ hk hf h1 h2 hn
      have eD : τ 11 1 = nI nd := by rw [hf 11 (by decide)]; exact hd
      have loop_23 : ∀ (n : Nat) (m9 : Nat) (u1 u2 : Option Value) (υ : zIn) (hp : p9 < nd) (hm1 : 1 ≤ m9) (hm2 : m9 ≤ 5) (hm3 : p9 + m9 ≤ nd + 1) (gf : ∀ i, i ≠ 8 → υ i = σ i) (g1 : ∀ p m, p < p9 → 1 ≤ m → m ≤ 4 → (p + m ≤ nd → zcode (σ 5) (σ 12) (σ 4) ne key vw p m (υ 8 (p * 4 + m - 1))) ∧ (nd < p + m → υ 8 (p * 4 + m - 1) = -1)) (g3 : ∀ m, 1 ≤ m → m < m9 → (p9 + m ≤ nd → zcode (σ 5) (σ 12) (σ 4) ne key vw p9 m (υ 8 (p9 * 4 + m - 1)))) (g2 : ∀ q, p9 * 4 + m9 - 1 ≤ q → q < 96 → υ 8 q = -1) (hn : 5 - m9 < n), z_V p l e (zRm MX6_findCodes) s m args below meth c 8 D cy z0 0 0 (zQm MX6_findCodes below D cy z0 (fun v g' σ' => v = none ∧ g' = g ∧ (∀ i, i ≠ 8 → σ' i = σ i) ∧ ∀ p m, p < nd → 1 ≤ m → m ≤ 4 → (p + m ≤ nd → zcode (σ 5) (σ 12) (σ 4) ne key vw p m (σ' 8 (p * 4 + m - 1))) ∧ (nd < p + m → σ' 8 (p * 4 + m - 1) = -1)) args s) 23 [some (.ref (g.2.1 7)), some (.ref (g.2.1 11)), some (.int (nI key)), some (.ref (g.2.1 ru)), some (.int (nI p9)), some (.int (nI m9)), u1, u2] [] g υ := by
        intro n
        induction n with
        | zero => intro m9 u1 u2 υ hp hm1 hm2 hm3 gf g1 g3 g2 hn; exact absurd hn (Nat.not_lt_zero _)
        | succ n ih_23 =>
          intro m9 u1 u2 υ hp hm1 hm2 hm3 gf g1 g3 g2 hn
          have e4 : υ 4 = σ 4 := gf 4 (by decide)
          have e5 : υ 5 = σ 5 := gf 5 (by decide)
          have e12 : υ 12 = σ 12 := gf 12 (by decide)
          have eH : υ 2 5 = nI ne := by rw [gf 2 (by decide)]; exact he
          have eD : υ 11 1 = nI nd := by rw [gf 11 (by decide)]; exact hd
          have eR : υ ru 4 = nI vw := by rw [gf ru hru8]; exact r7
          refine z_iload X dX6_findCodes_23 rfl ?_
          refine z_iconst (v := nI 4) X (by decide) dX6_findCodes_25 ?_
          refine z_icmp_gt (tgt := 124) X dX6_findCodes_26 (by decide) (fun c_26 => ?_) (fun c_26 => ?_)
          · skip
            try simp (disch := omega) only [zk0, nI_leI, nI_ltI, nI_eq, zbk_notn, zbk_not, zbk_n0, zbk_0, zb_0, zb_n0, zb_not, zb_notn, Bool.not_eq_false, Bool.not_eq_true, Bool.not_eq_true', Bool.not_eq_false', decide_eq_true_eq, decide_eq_false_iff_not] at c_26
            refine z_inc1 X dX6_findCodes_124 rfl (by decide) ?_
            refine z_goto (tgt := 11) X dX6_findCodes_127 (by decide) ?_
            exact ih_11 (p9 + 1) _ _ _ _ (by omega) gf (fun p m q1 q2 q3 => by
              by_cases e : p = p9
              · subst e
                refine ⟨fun q => ?_, fun q => ?_⟩
                · exact g3 m q2 (by omega) q
                · exact g2 _ (by omega) (by omega)
              · exact g1 p m (by omega) q2 q3) (fun q q1 q2 => g2 q (by omega) q2) (by omega)
          · skip
            try simp (disch := omega) only [zk0, nI_leI, nI_ltI, nI_eq, zbk_notn, zbk_not, zbk_n0, zbk_0, zb_0, zb_n0, zb_not, zb_notn, Bool.not_eq_false, Bool.not_eq_true, Bool.not_eq_true', Bool.not_eq_false', decide_eq_true_eq, decide_eq_false_iff_not] at c_26
            refine z_iload X dX6_findCodes_29 rfl ?_
            refine z_iload X dX6_findCodes_31 rfl ?_
            refine z_iaddN X dX6_findCodes_33 ?_
            refine z_aload_n X dX6_findCodes_34 rfl ?_
            refine z_geti X fX6_57 (zso_11 hS) rfl dX6_findCodes_35 ?_
            try simp (disch := omega) only [z_up_app, z_put_app, reduceIte, Nat.reduceEqDiff, eD, eR]
            refine z_icmp_gt (tgt := 124) X dX6_findCodes_38 (by decide) (fun c_38 => ?_) (fun c_38 => ?_)
            · skip
              try simp (disch := omega) only [zk0, nI_leI, nI_ltI, nI_eq, zbk_notn, zbk_not, zbk_n0, zbk_0, zb_0, zb_n0, zb_not, zb_notn, Bool.not_eq_false, Bool.not_eq_true, Bool.not_eq_true', Bool.not_eq_false', decide_eq_true_eq, decide_eq_false_iff_not] at c_38
              refine z_inc1 X dX6_findCodes_124 rfl (by decide) ?_
              refine z_goto (tgt := 11) X dX6_findCodes_127 (by decide) ?_
              exact ih_11 (p9 + 1) _ _ _ _ (by omega) gf (fun p m q1 q2 q3 => by
                by_cases e : p = p9
                · subst e
                  refine ⟨fun q => ?_, fun q => ?_⟩
                  · exact g3 m q2 (by omega) q
                  · exact g2 _ (by omega) (by omega)
                · exact g1 p m (by omega) q2 q3) (fun q q1 q2 => g2 q (by omega) q2) (by omega)
            · skip
              try simp (disch := omega) only [zk0, nI_leI, nI_ltI, nI_eq, zbk_notn, zbk_not, zbk_n0, zbk_0, zb_0, zb_n0, zb_not, zb_notn, Bool.not_eq_false, Bool.not_eq_true, Bool.not_eq_true', Bool.not_eq_false', decide_eq_true_eq, decide_eq_false_iff_not] at c_38
              refine z_aload_n X dX6_findCodes_41 rfl ?_
              refine z_getr2 X fX6_9 (zso_7 hS) (zsr_7_0 hS) rfl dX6_findCodes_42 ?_
              refine z_aload_n X dX6_findCodes_45 rfl ?_
              refine z_getr2 X fX6_9 (zso_7 hS) (zsr_7_0 hS) rfl dX6_findCodes_46 ?_
              refine z_aload_n X dX6_findCodes_49 rfl ?_
              refine z_getr2 X fX6_9 (zso_7 hS) (zsr_7_0 hS) rfl dX6_findCodes_50 ?_
              refine z_aload_n X dX6_findCodes_53 rfl ?_
              refine z_iload X dX6_findCodes_54 rfl ?_
              refine z_iload X dX6_findCodes_56 rfl ?_
              refine z_runV X kX6_86 (tX0_entryFor p9 m9 hS eH he2 eD hd2 (by omega) (by omega)) (zso_2 hS) rfl rfl (Nat.le_of_ble_eq_true rfl) ⟨by decide, by decide⟩ ⟨by decide, by decide⟩ dX6_findCodes_58 ?_
              rintro _ _ _ ⟨r, rfl, rfl, rfl, hr⟩
              rw [e5, e12] at hr
              rcases hr with ⟨k, hk1, rfl, hk2, hk3⟩ | ⟨rfl, hno⟩
              · skip
                have hmod : (k + key) % ne < ne := Nat.mod_lt _ (by omega)
                obtain ⟨W, hW1, hW2⟩ := hC _ hmod
                have hbt : (nI key).toInt = key := nI_toInt (by omega)
                have hsh : (((k : Int) + (nI key).toInt) % ne).toNat = (k + key) % ne := by rw [hbt, ← Int.natCast_add, ← Int.natCast_emod]; rfl
                refine z_iload_n X dX6_findCodes_61 rfl ?_
                refine z_runV X kX6_90 (tX0_shifted k (nI key) hS eH he2 hk1 (by omega) (by omega)) (zso_2 hS) rfl rfl (Nat.le_of_ble_eq_true rfl) ⟨by decide, by decide⟩ ⟨by decide, by decide⟩ dX6_findCodes_62 ?_
                rintro _ _ _ ⟨rfl, rfl, rfl⟩
                rw [hsh]
                refine z_runV X kX6_93 (tX0_codeOf ((k + key) % ne) hS eH he2 hmod) (zso_2 hS) rfl rfl (Nat.le_of_ble_eq_true rfl) ⟨by decide, by decide⟩ ⟨by decide, by decide⟩ dX6_findCodes_65 ?_
                rintro _ _ _ ⟨rfl, rfl, rfl⟩
                rw [e4, hW2]
                refine z_istore X dX6_findCodes_68 (by decide) ?_
                refine z_iload X dX6_findCodes_70 rfl ?_
                refine z_iconst (v := nI 4) X (by decide) dX6_findCodes_72 ?_
                refine z_imulN X dX6_findCodes_73 ?_
                refine z_iload X dX6_findCodes_74 rfl ?_
                refine z_iaddN X dX6_findCodes_76 ?_
                refine z_iconst (v := nI 1) X (by decide) dX6_findCodes_77 ?_
                refine z_isubN X (by omega) dX6_findCodes_78 ?_
                refine z_istore X dX6_findCodes_79 (by decide) ?_
                refine z_iload X dX6_findCodes_81 rfl ?_
                refine z_iconst (v := -1) X (by decide) dX6_findCodes_83 ?_
                refine z_icmp_eq (tgt := 118) X dX6_findCodes_84 (by decide) (fun c_84 => ?_) (fun c_84 => ?_)
                · exact absurd c_84 (nI_ne_m1 (by omega))
                · skip
                  refine z_iload X dX6_findCodes_87 rfl ?_
                  refine z_runS X kX6_96 (tX8_vowelsIn W (by omega)) rfl rfl (Nat.le_of_ble_eq_true rfl) ⟨by decide, by decide⟩ ⟨by decide, by decide⟩ dX6_findCodes_89 ?_
                  rintro _ _ _ ⟨rfl, rfl, rfl⟩
                  have hvl : zvw (nI W) ≤ 5 := zvk_le _ 5
                  refine z_aload_n X dX6_findCodes_92 rfl ?_
                  refine z_geti X fX6_99 (hru) rfl dX6_findCodes_93 ?_
                  try simp (disch := omega) only [z_up_app, z_put_app, reduceIte, Nat.reduceEqDiff, eD, eR]
                  refine z_icmp_lt (tgt := 118) X dX6_findCodes_96 (by decide) (fun c_96 => ?_) (fun c_96 => ?_)
                  · skip
                    try simp (disch := omega) only [zk0, nI_leI, nI_ltI, nI_eq, zbk_notn, zbk_not, zbk_n0, zbk_0, zb_0, zb_n0, zb_not, zb_notn, Bool.not_eq_false, Bool.not_eq_true, Bool.not_eq_true', Bool.not_eq_false', decide_eq_true_eq, decide_eq_false_iff_not] at c_96
                    refine z_inc1 X dX6_findCodes_118 rfl (by decide) ?_
                    refine z_goto (tgt := 23) X dX6_findCodes_121 (by decide) ?_
                    first
                      | (exfalso; omega)
                      | exact ih_23 (m9 + 1) _ _ _ hp (by omega) (by omega) (by omega) (fun i h8 => by rw [z_up_ne h8]; exact gf i h8)
                          (fun p m q1 q2 q3 => by
                            have hne : p * 4 + m - 1 ≠ p9 * 4 + m9 - 1 := by omega
                            simp only [z_up_app, reduceIte, if_neg hne]; exact g1 p m q1 q2 q3)
                          (fun m q1 q2 q3 => by
                            by_cases e : m = m9
                            · subst e
                              simp only [z_up_app, reduceIte]
                              exact Or.inl ⟨k, hk1, hk2, by rw [hW2]; omega, by rw [hW2]⟩
                            · have hne : p9 * 4 + m - 1 ≠ p9 * 4 + m9 - 1 := by omega
                              simp only [z_up_app, reduceIte, if_neg hne]; exact g3 m q1 (by omega) q3)
                          (fun q q1 q2 => by
                            have hne : q ≠ p9 * 4 + m9 - 1 := by omega
                            simp only [z_up_app, reduceIte, if_neg hne]; exact g2 q (by omega) q2) (by omega)
                      | exact ih_23 (m9 + 1) _ _ _ hp (by omega) (by omega) (by omega) gf g1
                          (fun m q1 q2 q3 => by
                            by_cases e : m = m9
                            · subst e
                              refine Or.inr ⟨?_, g2 _ (by omega) (by omega)⟩
                              intro k' hk' hz
                              first
                                | exact absurd hz (hno k' hk')
                                | (have := hU p9 m k' k hk' hk1 q1 (by omega) hz hk2
                                   subst this; rw [hW2]; omega)
                            · exact g3 m q1 (by omega) q3)
                          (fun q q1 q2 => g2 q (by omega) q2) (by omega)
                  · skip
                    try simp (disch := omega) only [zk0, nI_leI, nI_ltI, nI_eq, zbk_notn, zbk_not, zbk_n0, zbk_0, zb_0, zb_n0, zb_not, zb_notn, Bool.not_eq_false, Bool.not_eq_true, Bool.not_eq_true', Bool.not_eq_false', decide_eq_true_eq, decide_eq_false_iff_not] at c_96
                    refine z_iload X dX6_findCodes_99 rfl ?_
                    refine z_aload_n X dX6_findCodes_101 rfl ?_
                    refine z_getr2 X fX6_15 (zso_7 hS) (zsr_7_1 hS) rfl dX6_findCodes_102 ?_
                    refine z_alen X (t := 0) (by decide) (zsa_8 hS) dX6_findCodes_105 ?_
                    refine z_icmp_ge (tgt := 118) X dX6_findCodes_106 (by decide) (fun c_106 => ?_) (fun c_106 => ?_)
                    · skip
                      try simp (disch := omega) only [zk0, nI_leI, nI_ltI, nI_eq, zbk_notn, zbk_not, zbk_n0, zbk_0, zb_0, zb_n0, zb_not, zb_notn, Bool.not_eq_false, Bool.not_eq_true, Bool.not_eq_true', Bool.not_eq_false', decide_eq_true_eq, decide_eq_false_iff_not] at c_106
                      refine z_inc1 X dX6_findCodes_118 rfl (by decide) ?_
                      refine z_goto (tgt := 23) X dX6_findCodes_121 (by decide) ?_
                      first
                        | (exfalso; omega)
                        | exact ih_23 (m9 + 1) _ _ _ hp (by omega) (by omega) (by omega) (fun i h8 => by rw [z_up_ne h8]; exact gf i h8)
                            (fun p m q1 q2 q3 => by
                              have hne : p * 4 + m - 1 ≠ p9 * 4 + m9 - 1 := by omega
                              simp only [z_up_app, reduceIte, if_neg hne]; exact g1 p m q1 q2 q3)
                            (fun m q1 q2 q3 => by
                              by_cases e : m = m9
                              · subst e
                                simp only [z_up_app, reduceIte]
                                exact Or.inl ⟨k, hk1, hk2, by rw [hW2]; omega, by rw [hW2]⟩
                              · have hne : p9 * 4 + m - 1 ≠ p9 * 4 + m9 - 1 := by omega
                                simp only [z_up_app, reduceIte, if_neg hne]; exact g3 m q1 (by omega) q3)
                            (fun q q1 q2 => by
                              have hne : q ≠ p9 * 4 + m9 - 1 := by omega
                              simp only [z_up_app, reduceIte, if_neg hne]; exact g2 q (by omega) q2) (by omega)
                        | exact ih_23 (m9 + 1) _ _ _ hp (by omega) (by omega) (by omega) gf g1
                            (fun m q1 q2 q3 => by
                              by_cases e : m = m9
                              · subst e
                                refine Or.inr ⟨?_, g2 _ (by omega) (by omega)⟩
                                intro k' hk' hz
                                first
                                  | exact absurd hz (hno k' hk')
                                  | (have := hU p9 m k' k hk' hk1 q1 (by omega) hz hk2
                                     subst this; rw [hW2]; omega)
                              · exact g3 m q1 (by omega) q3)
                            (fun q q1 q2 => g2 q (by omega) q2) (by omega)
                    · skip
                      try simp (disch := omega) only [zk0, nI_leI, nI_ltI, nI_eq, zbk_notn, zbk_not, zbk_n0, zbk_0, zb_0, zb_n0, zb_not, zb_notn, Bool.not_eq_false, Bool.not_eq_true, Bool.not_eq_true', Bool.not_eq_false', decide_eq_true_eq, decide_eq_false_iff_not] at c_106
                      refine z_aload_n X dX6_findCodes_109 rfl ?_
                      refine z_getr2 X fX6_15 (zso_7 hS) (zsr_7_1 hS) rfl dX6_findCodes_110 ?_
                      refine z_iload X dX6_findCodes_113 rfl ?_
                      refine z_iload X dX6_findCodes_115 rfl ?_
                      refine z_iastN X (zsa_8 hS) (by omega) (by omega) dX6_findCodes_117 ?_
                      refine z_inc1 X dX6_findCodes_118 rfl (by decide) ?_
                      refine z_goto (tgt := 23) X dX6_findCodes_121 (by decide) ?_
                      first
                        | (exfalso; omega)
                        | exact ih_23 (m9 + 1) _ _ _ hp (by omega) (by omega) (by omega) (fun i h8 => by rw [z_up_ne h8]; exact gf i h8)
                            (fun p m q1 q2 q3 => by
                              have hne : p * 4 + m - 1 ≠ p9 * 4 + m9 - 1 := by omega
                              simp only [z_up_app, reduceIte, if_neg hne]; exact g1 p m q1 q2 q3)
                            (fun m q1 q2 q3 => by
                              by_cases e : m = m9
                              · subst e
                                simp only [z_up_app, reduceIte]
                                exact Or.inl ⟨k, hk1, hk2, by rw [hW2]; omega, by rw [hW2]⟩
                              · have hne : p9 * 4 + m - 1 ≠ p9 * 4 + m9 - 1 := by omega
                                simp only [z_up_app, reduceIte, if_neg hne]; exact g3 m q1 (by omega) q3)
                            (fun q q1 q2 => by
                              have hne : q ≠ p9 * 4 + m9 - 1 := by omega
                              simp only [z_up_app, reduceIte, if_neg hne]; exact g2 q (by omega) q2) (by omega)
                        | exact ih_23 (m9 + 1) _ _ _ hp (by omega) (by omega) (by omega) gf g1
                            (fun m q1 q2 q3 => by
                              by_cases e : m = m9
                              · subst e
                                refine Or.inr ⟨?_, g2 _ (by omega) (by omega)⟩
                                intro k' hk' hz
                                first
                                  | exact absurd hz (hno k' hk')
                                  | (have := hU p9 m k' k hk' hk1 q1 (by omega) hz hk2
                                     subst this; rw [hW2]; omega)
                              · exact g3 m q1 (by omega) q3)
                            (fun q q1 q2 => g2 q (by omega) q2) (by omega)
              · skip
                refine z_iload_n X dX6_findCodes_61 rfl ?_
                refine z_runV X kX6_90 (tX0_shiftedN (nI key) hS eH he2) (zso_2 hS) rfl rfl (Nat.le_of_ble_eq_true rfl) ⟨by decide, by decide⟩ ⟨by decide, by decide⟩ dX6_findCodes_62 ?_
                rintro _ _ _ ⟨rfl, rfl, rfl⟩
                refine z_runV X kX6_93 (tX0_codeOfN hS eH he2) (zso_2 hS) rfl rfl (Nat.le_of_ble_eq_true rfl) ⟨by decide, by decide⟩ ⟨by decide, by decide⟩ dX6_findCodes_65 ?_
                rintro _ _ _ ⟨rfl, rfl, rfl⟩
                refine z_istore X dX6_findCodes_68 (by decide) ?_
                refine z_iload X dX6_findCodes_70 rfl ?_
                refine z_iconst (v := nI 4) X (by decide) dX6_findCodes_72 ?_
                refine z_imulN X dX6_findCodes_73 ?_
                refine z_iload X dX6_findCodes_74 rfl ?_
                refine z_iaddN X dX6_findCodes_76 ?_
                refine z_iconst (v := nI 1) X (by decide) dX6_findCodes_77 ?_
                refine z_isubN X (by omega) dX6_findCodes_78 ?_
                refine z_istore X dX6_findCodes_79 (by decide) ?_
                refine z_iload X dX6_findCodes_81 rfl ?_
                refine z_iconst (v := -1) X (by decide) dX6_findCodes_83 ?_
                refine z_icmp_eq (tgt := 118) X dX6_findCodes_84 (by decide) (fun c_84 => ?_) (fun c_84 => ?_)
                · skip
                  refine z_inc1 X dX6_findCodes_118 rfl (by decide) ?_
                  refine z_goto (tgt := 23) X dX6_findCodes_121 (by decide) ?_
                  first
                    | (exfalso; omega)
                    | exact ih_23 (m9 + 1) _ _ _ hp (by omega) (by omega) (by omega) (fun i h8 => by rw [z_up_ne h8]; exact gf i h8)
                        (fun p m q1 q2 q3 => by
                          have hne : p * 4 + m - 1 ≠ p9 * 4 + m9 - 1 := by omega
                          simp only [z_up_app, reduceIte, if_neg hne]; exact g1 p m q1 q2 q3)
                        (fun m q1 q2 q3 => by
                          by_cases e : m = m9
                          · subst e
                            simp only [z_up_app, reduceIte]
                            exact Or.inl ⟨k, hk1, hk2, by rw [hW2]; omega, by rw [hW2]⟩
                          · have hne : p9 * 4 + m - 1 ≠ p9 * 4 + m9 - 1 := by omega
                            simp only [z_up_app, reduceIte, if_neg hne]; exact g3 m q1 (by omega) q3)
                        (fun q q1 q2 => by
                          have hne : q ≠ p9 * 4 + m9 - 1 := by omega
                          simp only [z_up_app, reduceIte, if_neg hne]; exact g2 q (by omega) q2) (by omega)
                    | exact ih_23 (m9 + 1) _ _ _ hp (by omega) (by omega) (by omega) gf g1
                        (fun m q1 q2 q3 => by
                          by_cases e : m = m9
                          · subst e
                            refine Or.inr ⟨?_, g2 _ (by omega) (by omega)⟩
                            intro k' hk' hz
                            first
                              | exact absurd hz (hno k' hk')
                              | (have := hU p9 m k' k hk' hk1 q1 (by omega) hz hk2
                                 subst this; rw [hW2]; omega)
                          · exact g3 m q1 (by omega) q3)
                        (fun q q1 q2 => g2 q (by omega) q2) (by omega)
                · exact absurd rfl c_84
      refine z_iload X dX6_findCodes_11 rfl ?_
      refine z_aload_n X dX6_findCodes_13 rfl ?_
      refine z_geti X fX6_57 (zso_11 hS) rfl dX6_findCodes_14 ?_
      try simp (disch := omega) only [z_up_app, z_put_app, reduceIte, Nat.reduceEqDiff, eD]
      refine z_icmp_ge (tgt := 130) X dX6_findCodes_17 (by decide) (fun c_17 => ?_) (fun c_17 => ?_)
      · skip
        try simp (disch := omega) only [zk0, nI_leI, nI_ltI, nI_eq, zbk_notn, zbk_not, zbk_n0, zbk_0, zb_0, zb_n0, zb_not, zb_notn, Bool.not_eq_false, Bool.not_eq_true, Bool.not_eq_true', Bool.not_eq_false', decide_eq_true_eq, decide_eq_false_iff_not] at c_17
        refine z_vret X (by decide) (by decide) rfl dX6_findCodes_130 ?_
        have e : p9 = nd := by omega
        subst e
        exact ⟨rfl, rfl, hf, h1⟩
      · skip
        try simp (disch := omega) only [zk0, nI_leI, nI_ltI, nI_eq, zbk_notn, zbk_not, zbk_n0, zbk_0, zb_0, zb_n0, zb_not, zb_notn, Bool.not_eq_false, Bool.not_eq_true, Bool.not_eq_true', Bool.not_eq_false', decide_eq_true_eq, decide_eq_false_iff_not] at c_17
        refine z_iconst (v := nI 1) X (by decide) dX6_findCodes_20 ?_
        refine z_istore X dX6_findCodes_21 (by decide) ?_
        exact loop_23 (5 - 1 + 1) 1 _ _ τ (by omega) (by omega) (by omega) (by omega) hf h1 (fun m h1 h2 => by omega) (fun q hq hq2 => h2 q (by omega) hq2) (by omega)
  refine z_aload_n X dX6_findCodes_0 rfl ?_
  refine z_getr2 X fX6_15 (zso_7 hS) (zsr_7_1 hS) rfl dX6_findCodes_1 ?_
  refine z_iconst (v := -1) X (by decide) dX6_findCodes_4 ?_
  refine z_runS X kX6_80 (tJ7_fill_53178 (-1) (zsa_8 hS) (by decide)) rfl rfl (Nat.le_of_ble_eq_true rfl) ⟨by decide, by decide⟩ ⟨by decide, by decide⟩ dX6_findCodes_5 ?_
  rintro _ _ _ ⟨rfl, rfl, rfl⟩
  refine z_iconst (v := nI 0) X (by decide) dX6_findCodes_8 ?_
  refine z_istore X dX6_findCodes_9 (by decide) ?_
  exact loop_11 (nd - 0 + 1) 0 _ _ _ _ (by omega) (fun i h8 => by funext k; simp only [z_fill, z_put_app, if_neg h8]) (fun p m h1 => absurd h1 (Nat.not_lt_zero _)) (fun q h1 h2 => by simp only [z_fill, z_put_app, reduceIte, if_pos h2]) (by omega)

theorem zLT_plc {lt dd : Nat → Nat} {cd nd p n : Nat} {us : Nat → Nat → Bool} : zLT 1000000000 nd (fun i => zup (lt (dd i)) cd) us p n ≤ 1000000000 := zLT_le
theorem z_down {p9 : Nat} : nI (p9 + 1) + (-1) = nI p9 := pk_m1 p9
/-- the least table, but for the places below p -/
def zLs (T : Nat → Nat → Nat) (nd p c : Nat) (f : Nat → Int32) : Prop := (∀ q n, p < q → q ≤ nd → n ≤ 24 → f (q * 25 + n) = nI (T q n)) ∧ (∀ n, n < c → n ≤ 24 → f (p * 25 + n) = nI (T p n)) ∧ (∀ n, c ≤ n → n ≤ 24 → f (p * 25 + n) = nI 1000000000) ∧ ∀ q n, q < p → n ≤ 24 → f (q * 25 + n) = nI 1000000000