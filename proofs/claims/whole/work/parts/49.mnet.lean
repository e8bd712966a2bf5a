/-! contracts of the reference: offices, cables, rules, draft -/
set_option maxHeartbeats 4000000 in
set_option maxRecDepth 100000 in
theorem tX9_office {l : Launch} {D : va_G} {cy : Nat → ClassId} {z0 : Nat} {g : zSh} {σ : zIn} {no : Nat} (hS : zS g) (hno : σ 21 5 = nI no) (hn8 : no ≤ 8) : z_Ct l D cy z0 MX9_office [.ref (g.2.1 21)] g σ (fun v g' σ' => g' = g ∧ ∃ r, v = some (.int r) ∧ zMP (zx_office no) σ σ' (r = nI no ∧ σ' = z_up (z_up σ 21 48 0) 21 5 (nI (no + 1)))) := by
  refine z_ofM (by decide) (z_cr z_c0) (Nat.le_of_ble_eq_true rfl) ?_
  intro p e s m args below meth c X
  refine z_aload_n X dX9_office_0 rfl ?_
  refine z_iconst (v := 0) X (by decide) dX9_office_1 ?_
  refine z_puti X fX9_122 (zso_21 hS) rfl dX9_office_2 ?_
  refine z_aload_n X dX9_office_5 rfl ?_
  refine z_geti X fX9_133 (zso_21 hS) rfl dX9_office_6 ?_
  rw [z_up_app, if_pos rfl, if_neg (by decide), hno]
  refine z_bipush (v := nI 8) X (by decide) dX9_office_9 ?_
  refine z_icmp_ne (tgt := 20) X dX9_office_11 (by decide) (fun c_11 => ?_) (fun c_11 => ?_)
  · skip
    try simp (disch := omega) only [zk0, nI_leI, nI_ltI, nI_eq, zbk_notn, zbk_not, zbk_n0, zbk_0, zb_0, zb_n0, zb_not, zb_notn, Bool.not_eq_false, Bool.not_eq_true, Bool.not_eq_true', Bool.not_eq_false', decide_eq_true_eq, decide_eq_false_iff_not, Classical.not_not] at c_11
    refine z_aload_n X dX9_office_20 rfl ?_
    refine z_dup X rfl dX9_office_21 ?_
    refine z_geti X fX9_133 (zso_21 hS) rfl dX9_office_22 ?_
    rw [z_up_app, if_pos rfl, if_neg (by decide), hno]
    refine z_iconst (v := nI 1) X (by decide) dX9_office_25 ?_
    refine z_iaddN X dX9_office_26 ?_
    refine z_puti X fX9_133 (zso_21 hS) rfl dX9_office_27 ?_
    refine z_aload_n X dX9_office_30 rfl ?_
    refine z_geti X fX9_133 (zso_21 hS) rfl dX9_office_31 ?_
    rw [z_up_app, if_pos rfl, if_pos rfl]
    refine z_iconst (v := nI 1) X (by decide) dX9_office_34 ?_
    refine z_isubN X (by omega) dX9_office_35 ?_
    refine z_iret X (by decide) (by decide) rfl dX9_office_36 ?_
    exact ⟨rfl, _, rfl, Or.inr ⟨by unfold zx_office; rw [if_neg (by omega)], rfl, rfl⟩⟩
  · skip
    try simp (disch := omega) only [zk0, nI_leI, nI_ltI, nI_eq, zbk_notn, zbk_not, zbk_n0, zbk_0, zb_0, zb_n0, zb_not, zb_notn, Bool.not_eq_false, Bool.not_eq_true, Bool.not_eq_true', Bool.not_eq_false', decide_eq_true_eq, decide_eq_false_iff_not, Classical.not_not] at c_11
    refine z_aload_n X dX9_office_14 rfl ?_
    refine z_iconst (v := 1) X (by decide) dX9_office_15 ?_
    refine z_runV X kX9_154 (tX9_fails _ hS) (zso_21 hS) rfl rfl (Nat.le_of_ble_eq_true rfl) ⟨by decide, by decide⟩ ⟨by decide, by decide⟩ dX9_office_16 ?_
    rintro _ g1 s1 ⟨rfl, h8, h9⟩
    replace h8 := h8.symm
    subst h8
    replace h9 := h9.symm
    subst h9
    refine z_iret X (by decide) (by decide) rfl dX9_office_19 ?_
    exact ⟨rfl, _, rfl, zMP_2 (j := 0) (by unfold zx_office; rw [if_pos (by omega)]) rfl⟩

set_option maxHeartbeats 4000000 in
set_option maxRecDepth 100000 in
theorem tX9_cable {l : Launch} {D : va_G} {cy : Nat → ClassId} {z0 : Nat} {g : zSh} {σ : zIn} {no nc : Nat} (a b x s9 : Int32) (hS : zS g) (hno : σ 21 5 = nI no) (hn8 : no ≤ 8) (hnc : σ 21 10 = nI nc) (hn12 : nc ≤ 12) : z_Ct l D cy z0 MX9_cable [.ref (g.2.1 21), .int a, .int b, .int x, .int s9] g σ (fun v g' σ' => g' = g ∧ ∃ r, v = some (.int r) ∧ zMP (zx_cable no nc a b x s9) σ σ' (r = nI nc ∧ σ' = z_up (z_up (z_up (z_up (z_up (z_up σ 21 48 0) 29 nc a) 30 nc b) 31 nc x) 32 nc s9) 21 10 (nI (nc + 1)))) := by
  refine z_ofM (by decide) (z_cr (z_ci (z_ci (z_ci (z_ci z_c0))))) (Nat.le_of_ble_eq_true rfl) ?_
  intro p e s m args below meth c X
  refine z_aload_n X dX9_cable_0 rfl ?_
  refine z_aload_n X dX9_cable_1 rfl ?_
  refine z_iload_n X dX9_cable_2 rfl ?_
  refine z_runV X kX9_184 (tX9_isOffice _ hS hno (by omega)) (zso_21 hS) rfl rfl (Nat.le_of_ble_eq_true rfl) ⟨by decide, by decide⟩ ⟨by decide, by decide⟩ dX9_cable_3 ?_
  rintro _ g1 s1 ⟨rfl, h8, h9⟩
  replace h8 := h8.symm
  subst h8
  replace h9 := h9.symm
  subst h9
  refine z_if_eq (tgt := 21) X dX9_cable_6 (by decide) (fun c_6 => ?_) (fun c_6 => ?_)
  · skip
    try simp (disch := omega) only [zb_notn, zb_not, zb_n0, zb_0, Bool.not_eq_false, Bool.not_eq_true, Bool.not_eq_true', Bool.not_eq_false', decide_eq_true_eq, decide_eq_false_iff_not, Classical.not_not] at c_6
    refine z_iconst (v := nI 0) X (by decide) dX9_cable_21 ?_
    refine z_runV X kX9_150 (tX9_asks false hS) (zso_21 hS) rfl rfl (Nat.le_of_ble_eq_true rfl) ⟨by decide, by decide⟩ ⟨by decide, by decide⟩ dX9_cable_22 ?_
    rintro _ g1 s1 ⟨rfl, h8, h9⟩
    replace h8 := h8.symm
    subst h8
    replace h9 := h9.symm
    subst h9
    refine z_if_ne (tgt := 30) X dX9_cable_25 (by decide) (fun c_25 => ?_) (fun c_25 => ?_)
    · first | exact absurd c_25 (by decide) | exact absurd (by decide) c_25
    · skip
      refine z_iconst (v := 0) X (by decide) dX9_cable_28 ?_
      refine z_iret X (by decide) (by decide) rfl dX9_cable_29 ?_
      exact ⟨rfl, _, rfl, zMP_1 (j := 0) (by unfold zx_cable; rw [if_pos (fun q => by first | exact absurd q.1 (by rw [c_6]; decide) | exact absurd q.2 (by rw [c_14]; decide))]) rfl⟩
  · skip
    try simp (disch := omega) only [zb_notn, zb_not, zb_n0, zb_0, Bool.not_eq_false, Bool.not_eq_true, Bool.not_eq_true', Bool.not_eq_false', decide_eq_true_eq, decide_eq_false_iff_not, Classical.not_not] at c_6
    refine z_aload_n X dX9_cable_9 rfl ?_
    refine z_iload_n X dX9_cable_10 rfl ?_
    refine z_runV X kX9_184 (tX9_isOffice _ hS hno (by omega)) (zso_21 hS) rfl rfl (Nat.le_of_ble_eq_true rfl) ⟨by decide, by decide⟩ ⟨by decide, by decide⟩ dX9_cable_11 ?_
    rintro _ g1 s1 ⟨rfl, h8, h9⟩
    replace h8 := h8.symm
    subst h8
    replace h9 := h9.symm
    subst h9
    refine z_if_eq (tgt := 21) X dX9_cable_14 (by decide) (fun c_14 => ?_) (fun c_14 => ?_)
    · skip
      try simp (disch := omega) only [zb_notn, zb_not, zb_n0, zb_0, Bool.not_eq_false, Bool.not_eq_true, Bool.not_eq_true', Bool.not_eq_false', decide_eq_true_eq, decide_eq_false_iff_not, Classical.not_not] at c_14
      refine z_iconst (v := nI 0) X (by decide) dX9_cable_21 ?_
      refine z_runV X kX9_150 (tX9_asks false hS) (zso_21 hS) rfl rfl (Nat.le_of_ble_eq_true rfl) ⟨by decide, by decide⟩ ⟨by decide, by decide⟩ dX9_cable_22 ?_
      rintro _ g1 s1 ⟨rfl, h8, h9⟩
      replace h8 := h8.symm
      subst h8
      replace h9 := h9.symm
      subst h9
      refine z_if_ne (tgt := 30) X dX9_cable_25 (by decide) (fun c_25 => ?_) (fun c_25 => ?_)
      · first | exact absurd c_25 (by decide) | exact absurd (by decide) c_25
      · skip
        refine z_iconst (v := 0) X (by decide) dX9_cable_28 ?_
        refine z_iret X (by decide) (by decide) rfl dX9_cable_29 ?_
        exact ⟨rfl, _, rfl, zMP_1 (j := 0) (by unfold zx_cable; rw [if_pos (fun q => by first | exact absurd q.1 (by rw [c_6]; decide) | exact absurd q.2 (by rw [c_14]; decide))]) rfl⟩
    · skip
      try simp (disch := omega) only [zb_notn, zb_not, zb_n0, zb_0, Bool.not_eq_false, Bool.not_eq_true, Bool.not_eq_true', Bool.not_eq_false', decide_eq_true_eq, decide_eq_false_iff_not, Classical.not_not] at c_14
      refine z_iconst (v := nI 1) X (by decide) dX9_cable_17 ?_
      refine z_goto (tgt := 22) X dX9_cable_18 (by decide) ?_
      refine z_runV X kX9_150 (tX9_asks true hS) (zso_21 hS) rfl rfl (Nat.le_of_ble_eq_true rfl) ⟨by decide, by decide⟩ ⟨by decide, by decide⟩ dX9_cable_22 ?_
      rintro _ g1 s1 ⟨rfl, h8, h9⟩
      replace h8 := h8.symm
      subst h8
      replace h9 := h9.symm
      subst h9
      refine z_if_ne (tgt := 30) X dX9_cable_25 (by decide) (fun c_25 => ?_) (fun c_25 => ?_)
      · skip
        obtain ⟨τ, hτ⟩ : ∃ q, q = z_up σ 21 48 0 := ⟨_, rfl⟩
        rw [show z_up σ 21 48 (if true = true then 0 else 1) = τ from hτ.symm]
        have eτ : ∀ i, i ≠ 21 → τ i = σ i := fun i h => by rw [hτ, z_up_ne h]
        have eτ1 : ∀ k, k ≠ 48 → τ 21 k = σ 21 k := fun k h => by rw [hτ, z_up_app, if_pos rfl, if_neg h]
        have hnτ : τ 21 10 = nI nc := (eτ1 10 (by decide)).trans hnc
        refine z_iload_n X dX9_cable_30 rfl ?_
        refine z_iload_n X dX9_cable_31 rfl ?_
        refine z_icmp_eq (tgt := 56) X dX9_cable_32 (by decide) (fun c_32 => ?_) (fun c_32 => ?_)
        · skip
          refine z_aload_n X dX9_cable_56 rfl ?_
          refine z_iconst (v := 2) X (by decide) dX9_cable_57 ?_
          refine z_runV X kX9_154 (tX9_fails _ hS) (zso_21 hS) rfl rfl (Nat.le_of_ble_eq_true rfl) ⟨by decide, by decide⟩ ⟨by decide, by decide⟩ dX9_cable_58 ?_
          rintro _ g1 s1 ⟨rfl, h8, h9⟩
          replace h8 := h8.symm
          subst h8
          replace h9 := h9.symm
          subst h9
          refine z_iret X (by decide) (by decide) rfl dX9_cable_61 ?_
          exact ⟨rfl, _, rfl, by rw [hτ]; exact zMP_2 (j := 1) (by unfold zx_cable; rw [if_neg (fun q => q ⟨c_6, c_14⟩), if_pos (by first | exact Or.inl c_32 | exact Or.inr (Or.inl c_42) | exact Or.inr (Or.inr c_53))]) rfl⟩
        · skip
          refine z_iload_n X dX9_cable_35 rfl ?_
          refine z_iconst (v := 1) X (by decide) dX9_cable_36 ?_
          refine z_bipush (v := 100) X (by decide) dX9_cable_37 ?_
          refine z_runS X kX9_129 (tX9_inN _ _ _) rfl rfl (Nat.le_of_ble_eq_true rfl) ⟨by decide, by decide⟩ ⟨by decide, by decide⟩ dX9_cable_39 ?_
          rintro _ g1 s1 ⟨rfl, h8, h9⟩
          replace h8 := h8.symm
          subst h8
          replace h9 := h9.symm
          subst h9
          refine z_if_eq (tgt := 56) X dX9_cable_42 (by decide) (fun c_42 => ?_) (fun c_42 => ?_)
          · skip
            try simp (disch := omega) only [zb_notn, zb_not, zb_n0, zb_0, Bool.not_eq_false, Bool.not_eq_true, Bool.not_eq_true', Bool.not_eq_false', decide_eq_true_eq, decide_eq_false_iff_not, Classical.not_not] at c_42
            refine z_aload_n X dX9_cable_56 rfl ?_
            refine z_iconst (v := 2) X (by decide) dX9_cable_57 ?_
            refine z_runV X kX9_154 (tX9_fails _ hS) (zso_21 hS) rfl rfl (Nat.le_of_ble_eq_true rfl) ⟨by decide, by decide⟩ ⟨by decide, by decide⟩ dX9_cable_58 ?_
            rintro _ g1 s1 ⟨rfl, h8, h9⟩
            replace h8 := h8.symm
            subst h8
            replace h9 := h9.symm
            subst h9
            refine z_iret X (by decide) (by decide) rfl dX9_cable_61 ?_
            exact ⟨rfl, _, rfl, by rw [hτ]; exact zMP_2 (j := 1) (by unfold zx_cable; rw [if_neg (fun q => q ⟨c_6, c_14⟩), if_pos (by first | exact Or.inl c_32 | exact Or.inr (Or.inl c_42) | exact Or.inr (Or.inr c_53))]) rfl⟩
          · skip
            try simp (disch := omega) only [zb_notn, zb_not, zb_n0, zb_0, Bool.not_eq_false, Bool.not_eq_true, Bool.not_eq_true', Bool.not_eq_false', decide_eq_true_eq, decide_eq_false_iff_not, Classical.not_not] at c_42
            refine z_iload X dX9_cable_45 rfl ?_
            refine z_iconst (v := 1) X (by decide) dX9_cable_47 ?_
            refine z_bipush (v := 20) X (by decide) dX9_cable_48 ?_
            refine z_runS X kX9_129 (tX9_inN _ _ _) rfl rfl (Nat.le_of_ble_eq_true rfl) ⟨by decide, by decide⟩ ⟨by decide, by decide⟩ dX9_cable_50 ?_
            rintro _ g1 s1 ⟨rfl, h8, h9⟩
            replace h8 := h8.symm
            subst h8
            replace h9 := h9.symm
            subst h9
            refine z_if_ne (tgt := 62) X dX9_cable_53 (by decide) (fun c_53 => ?_) (fun c_53 => ?_)
            · skip
              try simp (disch := omega) only [zb_notn, zb_not, zb_n0, zb_0, Bool.not_eq_false, Bool.not_eq_true, Bool.not_eq_true', Bool.not_eq_false', decide_eq_true_eq, decide_eq_false_iff_not, Classical.not_not] at c_53
              refine z_aload_n X dX9_cable_62 rfl ?_
              refine z_geti X fX9_136 (zso_21 hS) rfl dX9_cable_63 ?_
              rw [hnτ]
              refine z_bipush (v := nI 12) X (by decide) dX9_cable_66 ?_
              refine z_icmp_ne (tgt := 77) X dX9_cable_68 (by decide) (fun c_68 => ?_) (fun c_68 => ?_)
              · skip
                try simp (disch := omega) only [zk0, nI_leI, nI_ltI, nI_eq, zbk_notn, zbk_not, zbk_n0, zbk_0, zb_0, zb_n0, zb_not, zb_notn, Bool.not_eq_false, Bool.not_eq_true, Bool.not_eq_true', Bool.not_eq_false', decide_eq_true_eq, decide_eq_false_iff_not, Classical.not_not] at c_68
                refine z_aload_n X dX9_cable_77 rfl ?_
                refine z_getr2 X fX9_32 (zso_21 hS) (zsr_21_11 hS) rfl dX9_cable_78 ?_
                refine z_aload_n X dX9_cable_81 rfl ?_
                refine z_geti X fX9_136 (zso_21 hS) rfl dX9_cable_82 ?_
                rw [hnτ]
                refine z_iload_n X dX9_cable_85 rfl ?_
                refine z_iastN X (zsa_29 hS) (by omega) (by omega) dX9_cable_86 ?_
                refine z_aload_n X dX9_cable_87 rfl ?_
                refine z_getr2 X fX9_35 (zso_21 hS) (zsr_21_12 hS) rfl dX9_cable_88 ?_
                refine z_aload_n X dX9_cable_91 rfl ?_
                refine z_geti X fX9_136 (zso_21 hS) rfl dX9_cable_92 ?_
                repeat rw [z_up_ne (by decide)]
                rw [hnτ]
                refine z_iload_n X dX9_cable_95 rfl ?_
                refine z_iastN X (zsa_30 hS) (by omega) (by omega) dX9_cable_96 ?_
                refine z_aload_n X dX9_cable_97 rfl ?_
                refine z_getr2 X fX9_38 (zso_21 hS) (zsr_21_13 hS) rfl dX9_cable_98 ?_
                refine z_aload_n X dX9_cable_101 rfl ?_
                refine z_geti X fX9_136 (zso_21 hS) rfl dX9_cable_102 ?_
                repeat rw [z_up_ne (by decide)]
                rw [hnτ]
                refine z_iload_n X dX9_cable_105 rfl ?_
                refine z_iastN X (zsa_31 hS) (by omega) (by omega) dX9_cable_106 ?_
                refine z_aload_n X dX9_cable_107 rfl ?_
                refine z_getr2 X fX9_41 (zso_21 hS) (zsr_21_14 hS) rfl dX9_cable_108 ?_
                refine z_aload_n X dX9_cable_111 rfl ?_
                refine z_geti X fX9_136 (zso_21 hS) rfl dX9_cable_112 ?_
                repeat rw [z_up_ne (by decide)]
                rw [hnτ]
                refine z_iload X dX9_cable_115 rfl ?_
                refine z_iastN X (zsa_32 hS) (by omega) (by omega) dX9_cable_117 ?_
                refine z_aload_n X dX9_cable_118 rfl ?_
                refine z_dup X rfl dX9_cable_119 ?_
                refine z_geti X fX9_136 (zso_21 hS) rfl dX9_cable_120 ?_
                repeat rw [z_up_ne (by decide)]
                rw [hnτ]
                refine z_iconst (v := nI 1) X (by decide) dX9_cable_123 ?_
                refine z_iaddN X dX9_cable_124 ?_
                refine z_puti X fX9_136 (zso_21 hS) rfl dX9_cable_125 ?_
                refine z_aload_n X dX9_cable_128 rfl ?_
                refine z_geti X fX9_136 (zso_21 hS) rfl dX9_cable_129 ?_
                rw [z_up_app, if_pos rfl, if_pos rfl]
                refine z_iconst (v := nI 1) X (by decide) dX9_cable_132 ?_
                refine z_isubN X (by omega) dX9_cable_133 ?_
                refine z_iret X (by decide) (by decide) rfl dX9_cable_134 ?_
                exact ⟨rfl, _, rfl, Or.inr ⟨by unfold zx_cable; rw [if_neg (fun q => q ⟨c_6, c_14⟩), if_neg (fun q => by rcases q with q | q | q; exact c_32 q; exact c_42 q; exact c_53 q), if_neg (by omega)], by congr 1, by rw [hτ]⟩⟩
              · skip
                try simp (disch := omega) only [zk0, nI_leI, nI_ltI, nI_eq, zbk_notn, zbk_not, zbk_n0, zbk_0, zb_0, zb_n0, zb_not, zb_notn, Bool.not_eq_false, Bool.not_eq_true, Bool.not_eq_true', Bool.not_eq_false', decide_eq_true_eq, decide_eq_false_iff_not, Classical.not_not] at c_68
                refine z_aload_n X dX9_cable_71 rfl ?_
                refine z_iconst (v := 3) X (by decide) dX9_cable_72 ?_
                refine z_runV X kX9_154 (tX9_fails _ hS) (zso_21 hS) rfl rfl (Nat.le_of_ble_eq_true rfl) ⟨by decide, by decide⟩ ⟨by decide, by decide⟩ dX9_cable_73 ?_
                rintro _ g1 s1 ⟨rfl, h8, h9⟩
                replace h8 := h8.symm
                subst h8
                replace h9 := h9.symm
                subst h9
                refine z_iret X (by decide) (by decide) rfl dX9_cable_76 ?_
                exact ⟨rfl, _, rfl, by rw [hτ]; exact zMP_2 (j := 2) (by unfold zx_cable; rw [if_neg (fun q => q ⟨c_6, c_14⟩), if_neg (fun q => by rcases q with q | q | q; exact c_32 q; exact c_42 q; exact c_53 q), if_pos (by omega)]) rfl⟩
            · skip
              try simp (disch := omega) only [zb_notn, zb_not, zb_n0, zb_0, Bool.not_eq_false, Bool.not_eq_true, Bool.not_eq_true', Bool.not_eq_false', decide_eq_true_eq, decide_eq_false_iff_not, Classical.not_not] at c_53
              refine z_aload_n X dX9_cable_56 rfl ?_
              refine z_iconst (v := 2) X (by decide) dX9_cable_57 ?_
              refine z_runV X kX9_154 (tX9_fails _ hS) (zso_21 hS) rfl rfl (Nat.le_of_ble_eq_true rfl) ⟨by decide, by decide⟩ ⟨by decide, by decide⟩ dX9_cable_58 ?_
              rintro _ g1 s1 ⟨rfl, h8, h9⟩
              replace h8 := h8.symm
              subst h8
              replace h9 := h9.symm
              subst h9
              refine z_iret X (by decide) (by decide) rfl dX9_cable_61 ?_
              exact ⟨rfl, _, rfl, by rw [hτ]; exact zMP_2 (j := 1) (by unfold zx_cable; rw [if_neg (fun q => q ⟨c_6, c_14⟩), if_pos (by first | exact Or.inl c_32 | exact Or.inr (Or.inl c_42) | exact Or.inr (Or.inr c_53))]) rfl⟩
      · first | exact absurd c_25 (by decide) | exact absurd (by decide) c_25

/-- the cable at which a message of the reference is -/
def zmc (σ : zIn) (m : Nat) : Int32 := if σ 44 m = 0 then σ 52 (8 * m + zn (σ 54 m)) else -1
set_option maxHeartbeats 4000000 in
set_option maxRecDepth 100000 in
theorem tX9_cableOf {l : Launch} {D : va_G} {cy : Nat → ClassId} {z0 : Nat} {g : zSh} {σ : zIn} (m9 : Nat) (hS : zS g) (hm : m9 < 60) (hst : σ 44 m9 = 0 → ∃ q, q < 8 ∧ σ 54 m9 = nI q) : z_Ct l D cy z0 MX9_cableOf [.ref (g.2.1 21), .int (nI m9)] g σ (zI (zmc σ m9) g σ) := by
  refine z_ofM (by decide) (z_cr (z_ci z_c0)) (Nat.le_of_ble_eq_true rfl) ?_
  intro p e s m args below meth c X
  refine z_aload_n X dX9_cableOf_0 rfl ?_
  refine z_getr2 X fX9_77 (zso_21 hS) (zsr_21_31 hS) rfl dX9_cableOf_1 ?_
  refine z_iload_n X dX9_cableOf_4 rfl ?_
  refine z_ialdN X (zsa_44 hS) (by omega) (by omega) dX9_cableOf_5 ?_
  refine z_if_ne (tgt := 28) X dX9_cableOf_6 (by decide) (fun c_6 => ?_) (fun c_6 => ?_)
  · skip
    refine z_iconst (v := -1) X (by decide) dX9_cableOf_28 ?_
    refine z_iret X (by decide) (by decide) rfl dX9_cableOf_29 ?_
    first | exact ⟨by unfold zmc; rw [if_pos c_6, eq, zn_nI (by omega)], rfl, rfl⟩ | exact ⟨by unfold zmc; rw [if_neg c_6], rfl, rfl⟩
  · skip
    obtain ⟨q, hq, eq⟩ := hst c_6
    refine z_aload_n X dX9_cableOf_9 rfl ?_
    refine z_getr2 X fX9_101 (zso_21 hS) (zsr_21_39 hS) rfl dX9_cableOf_10 ?_
    refine z_bipush (v := nI 8) X (by decide) dX9_cableOf_13 ?_
    refine z_iload_n X dX9_cableOf_15 rfl ?_
    refine z_imulN X dX9_cableOf_16 ?_
    refine z_aload_n X dX9_cableOf_17 rfl ?_
    refine z_getr2 X fX9_107 (zso_21 hS) (zsr_21_41 hS) rfl dX9_cableOf_18 ?_
    refine z_iload_n X dX9_cableOf_21 rfl ?_
    refine z_ialdN X (zsa_54 hS) (by omega) (by omega) dX9_cableOf_22 ?_
    rw [eq]
    refine z_iaddN X dX9_cableOf_23 ?_
    refine z_ialdN X (zsa_52 hS) (by omega) (by omega) dX9_cableOf_24 ?_
    refine z_goto (tgt := 29) X dX9_cableOf_25 (by decide) ?_
    refine z_iret X (by decide) (by decide) rfl dX9_cableOf_29 ?_
    first | exact ⟨by unfold zmc; rw [if_pos c_6, eq, zn_nI (by omega)], rfl, rfl⟩ | exact ⟨by unfold zmc; rw [if_neg c_6], rfl, rfl⟩

theorem zmc_e {σ τ : zIn} {m : Nat} (h1 : τ 44 = σ 44) (h2 : τ 52 = σ 52) (h3 : τ 54 = σ 54) : zmc τ m = zmc σ m := by
  unfold zmc; rw [h1, h2, h3]
set_option maxHeartbeats 4000000 in
set_option maxRecDepth 100000 in
theorem tX9_broken {l : Launch} {D : va_G} {cy : Nat → ClassId} {z0 : Nat} {g : zSh} {σ : zIn} {nc nm : Nat} (xq y : Int32) (hS : zS g) (hnc : σ 21 10 = nI nc) (hn12 : nc ≤ 12) (hnm : σ 21 27 = nI nm) (hn60 : nm ≤ 60) (hst : ∀ m, m < nm → σ 44 m = 0 → ∃ q, q < 8 ∧ σ 54 m = nI q) (hy : y = 0 ∨ y = 1) : z_Ct l D cy z0 MX9_broken [.ref (g.2.1 21), .int xq, .int y] g σ (fun v g' σ' => g' = g ∧ ∃ r, v = some (.int r) ∧ zMP (zx_in nc xq) σ σ' (∃ c, c < nc ∧ xq = nI c ∧ r = nI (zcnt (fun m => zmc σ m = nI c) nm) ∧ σ' = z_up (z_up σ 21 48 0) 33 c y)) := by
  refine z_ofM (by decide) (z_cr (z_ci (z_ci z_c0))) (Nat.le_of_ble_eq_true rfl) ?_
  intro p e s m args below meth c X
  refine z_aload_n X dX9_broken_0 rfl ?_
  refine z_aload_n X dX9_broken_1 rfl ?_
  refine z_iload_n X dX9_broken_2 rfl ?_
  refine z_runV X kX9_187 (tX9_isCable _ hS hnc (by omega)) (zso_21 hS) rfl rfl (Nat.le_of_ble_eq_true rfl) ⟨by decide, by decide⟩ ⟨by decide, by decide⟩ dX9_broken_3 ?_
  rintro _ g1 s1 ⟨rfl, h8, h9⟩
  replace h8 := h8.symm
  subst h8
  replace h9 := h9.symm
  subst h9
  obtain ⟨b6, hb6⟩ : ∃ q : Bool, q = zin xq nc := ⟨_, rfl⟩
  rw [← hb6]
  cases b6
  · skip
    skip
    refine z_runV X kX9_150 (tX9_asks false hS) (zso_21 hS) rfl rfl (Nat.le_of_ble_eq_true rfl) ⟨by decide, by decide⟩ ⟨by decide, by decide⟩ dX9_broken_6 ?_
    rintro _ g1 s1 ⟨rfl, h8, h9⟩
    replace h8 := h8.symm
    subst h8
    replace h9 := h9.symm
    subst h9
    refine z_if_ne (tgt := 14) X dX9_broken_9 (by decide) (fun c_9 => ?_) (fun c_9 => ?_)
    · exact absurd rfl c_9
    · skip
      refine z_iconst (v := 0) X (by decide) dX9_broken_12 ?_
      refine z_iret X (by decide) (by decide) rfl dX9_broken_13 ?_
      exact ⟨rfl, _, rfl, zMP_1 (j := 0) (by unfold zx_in; rw [← hb6]; rfl) rfl⟩
  · skip
    skip
    refine z_runV X kX9_150 (tX9_asks true hS) (zso_21 hS) rfl rfl (Nat.le_of_ble_eq_true rfl) ⟨by decide, by decide⟩ ⟨by decide, by decide⟩ dX9_broken_6 ?_
    rintro _ g1 s1 ⟨rfl, h8, h9⟩
    replace h8 := h8.symm
    subst h8
    replace h9 := h9.symm
    subst h9
    refine z_if_ne (tgt := 14) X dX9_broken_9 (by decide) (fun c_9 => ?_) (fun c_9 => ?_)
    · skip
      obtain ⟨c1, hc1, rfl⟩ := zin_t hb6.symm (by omega)
      obtain ⟨τ, hτ⟩ : ∃ q, q = z_up σ 21 48 0 := ⟨_, rfl⟩
      rw [show z_up σ 21 48 (if true = true then 0 else 1) = τ from hτ.symm]
      have eτ : ∀ i, i ≠ 21 → τ i = σ i := fun i h => by rw [hτ, z_up_ne h]
      have eτ1 : ∀ k, k ≠ 48 → τ 21 k = σ 21 k := fun k h => by rw [hτ, z_up_app, if_pos rfl, if_neg h]
      refine z_aload_n X dX9_broken_14 rfl ?_
      refine z_getr2 X fX9_44 (zso_21 hS) (zsr_21_15 hS) rfl dX9_broken_15 ?_
      refine z_iload_n X dX9_broken_18 rfl ?_
      refine z_iload_n X dX9_broken_19 rfl ?_
      refine z_zastN X (zsa_33 hS) (by omega) (by omega) hy dX9_broken_20 ?_
      obtain ⟨υ, hυ⟩ : ∃ q, q = z_up τ 33 c1 y := ⟨_, rfl⟩
      rw [show z_up τ 33 c1 y = υ from hυ.symm]
      have e44 : υ 44 = σ 44 := by rw [hυ, z_up_ne (by decide), eτ 44 (by decide)]
      have e52 : υ 52 = σ 52 := by rw [hυ, z_up_ne (by decide), eτ 52 (by decide)]
      have e54 : υ 54 = σ 54 := by rw [hυ, z_up_ne (by decide), eτ 54 (by decide)]
      have hnυ : υ 21 27 = nI nm := by rw [hυ, z_up_ne (by decide), eτ1 27 (by decide)]; exact hnm
      refine z_iconst (v := nI 0) X (by decide) dX9_broken_21 ?_
      refine z_istore_n X dX9_broken_22 (by decide) ?_
      have loop_26 : ∀ (n : Nat) (k : Nat) (hk : k ≤ nm) (hn : nm - k < n), z_V p l e (zRm MX9_broken) s m args below meth c 5 D cy z0 0 0 (zQm MX9_broken below D cy z0 (fun v g' σ' => g' = g ∧ ∃ r, v = some (.int r) ∧ zMP (zx_in nc (nI c1)) σ σ' (∃ c, c < nc ∧ (nI c1) = nI c ∧ r = nI (zcnt (fun m => zmc σ m = nI c) nm) ∧ σ' = z_up (z_up σ 21 48 0) 33 c y)) args s) 26 [some (.ref (g.2.1 21)), some (.int (nI c1)), some (.int y), some (.int (nI (zcnt (fun m => zmc σ m = nI c1)  k))), some (.int (nI k))] [] g υ := by
        intro n
        induction n with
        | zero => intro k hk hn; exact absurd hn (Nat.not_lt_zero _)
        | succ n ih_26 =>
          intro k hk hn
          refine z_iload X dX9_broken_26 rfl ?_
          refine z_aload_n X dX9_broken_28 rfl ?_
          refine z_geti X fX9_139 (zso_21 hS) rfl dX9_broken_29 ?_
          rw [hnυ]
          refine z_icmp_ge (tgt := 59) X dX9_broken_32 (by decide) (fun c_32 => ?_) (fun c_32 => ?_)
          · skip
            try simp (disch := omega) only [zk0, nI_leI, nI_ltI, nI_eq, zbk_notn, zbk_not, zbk_n0, zbk_0, zb_0, zb_n0, zb_not, zb_notn, Bool.not_eq_false, Bool.not_eq_true, Bool.not_eq_true', Bool.not_eq_false', decide_eq_true_eq, decide_eq_false_iff_not, Classical.not_not] at c_32
            refine z_iload_n X dX9_broken_59 rfl ?_
            refine z_iret X (by decide) (by decide) rfl dX9_broken_60 ?_
            have e : nm = k := by omega
            subst e
            exact ⟨rfl, _, rfl, Or.inr ⟨by unfold zx_in; rw [if_pos hb6.symm], c1, hc1, rfl, rfl, by rw [hυ, hτ]⟩⟩
          · skip
            try simp (disch := omega) only [zk0, nI_leI, nI_ltI, nI_eq, zbk_notn, zbk_not, zbk_n0, zbk_0, zb_0, zb_n0, zb_not, zb_notn, Bool.not_eq_false, Bool.not_eq_true, Bool.not_eq_true', Bool.not_eq_false', decide_eq_true_eq, decide_eq_false_iff_not, Classical.not_not] at c_32
            refine z_iload_n X dX9_broken_35 rfl ?_
            refine z_aload_n X dX9_broken_36 rfl ?_
            refine z_iload X dX9_broken_37 rfl ?_
            refine z_runV X kX9_190 (tX9_cableOf k hS (by omega) (by rw [e44, e54]; exact hst k (by omega))) (zso_21 hS) rfl rfl (Nat.le_of_ble_eq_true rfl) ⟨by decide, by decide⟩ ⟨by decide, by decide⟩ dX9_broken_39 ?_
            rintro _ g1 s1 ⟨rfl, h8, h9⟩
            replace h8 := h8.symm
            subst h8
            replace h9 := h9.symm
            subst h9
            rw [zmc_e e44 e52 e54]
            refine z_iload_n X dX9_broken_42 rfl ?_
            skip
            refine z_icmp_ne (tgt := 50) X dX9_broken_43 (by decide) (fun c_43 => ?_) (fun c_43 => ?_)
            · skip
              refine z_iconst (v := nI 0) X (by decide) dX9_broken_50 ?_
              refine z_iaddN X dX9_broken_51 ?_
              refine z_istore_n X dX9_broken_52 (by decide) ?_
              refine z_inc1 X dX9_broken_53 rfl (by decide) ?_
              refine z_goto (tgt := 26) X dX9_broken_56 (by decide) ?_
              have e9 := ih_26 (k + 1) (by omega) (by omega)
              first | (rw [zcnt_y (P := fun m => zmc σ m = nI c1) c_43] at e9; exact e9) | (rw [zcnt_n (P := fun m => zmc σ m = nI c1) c_43] at e9; exact e9)
            · skip
              refine z_iconst (v := nI 1) X (by decide) dX9_broken_46 ?_
              refine z_goto (tgt := 51) X dX9_broken_47 (by decide) ?_
              refine z_iaddN X dX9_broken_51 ?_
              refine z_istore_n X dX9_broken_52 (by decide) ?_
              refine z_inc1 X dX9_broken_53 rfl (by decide) ?_
              refine z_goto (tgt := 26) X dX9_broken_56 (by decide) ?_
              have e9 := ih_26 (k + 1) (by omega) (by omega)
              first | (rw [zcnt_y (P := fun m => zmc σ m = nI c1) c_43] at e9; exact e9) | (rw [zcnt_n (P := fun m => zmc σ m = nI c1) c_43] at e9; exact e9)
      refine z_iconst (v := nI 0) X (by decide) dX9_broken_23 ?_
      refine z_istore X dX9_broken_24 (by decide) ?_
      exact loop_26 (nm - 0 + 1) 0 (Nat.zero_le _) (by omega)
    · exact absurd c_9 (by decide)

set_option maxHeartbeats 4000000 in
set_option maxRecDepth 100000 in
theorem tX9_forbid {l : Launch} {D : va_G} {cy : Nat → ClassId} {z0 : Nat} {g : zSh} {σ : zIn} {no : Nat} (xq y : Int32) (hS : zS g) (hno : σ 21 5 = nI no) (hn8 : no ≤ 8) (hb25 : ∀ o, o < no → σ 25 o = 0 ∨ σ 25 o = 1) (hy : y = 0 ∨ y = 1) : z_Ct l D cy z0 MX9_forbid [.ref (g.2.1 21), .int xq, .int y] g σ (fun v g' σ' => g' = g ∧ ∃ r, v = some (.int r) ∧ zMP (zx_in no xq) σ σ' (∃ o, o < no ∧ xq = nI o ∧ r = σ 25 o ∧ σ' = z_up (z_up σ 21 48 0) 25 o y)) := by
  refine z_ofM (by decide) (z_cr (z_ci (z_ci z_c0))) (Nat.le_of_ble_eq_true rfl) ?_
  intro p e s m args below meth c X
  refine z_aload_n X dX9_forbid_0 rfl ?_
  refine z_aload_n X dX9_forbid_1 rfl ?_
  refine z_iload_n X dX9_forbid_2 rfl ?_
  refine z_runV X kX9_184 (tX9_isOffice _ hS hno (by omega)) (zso_21 hS) rfl rfl (Nat.le_of_ble_eq_true rfl) ⟨by decide, by decide⟩ ⟨by decide, by decide⟩ dX9_forbid_3 ?_
  rintro _ g1 s1 ⟨rfl, h8, h9⟩
  replace h8 := h8.symm
  subst h8
  replace h9 := h9.symm
  subst h9
  obtain ⟨b6, hb6⟩ : ∃ q : Bool, q = zin xq no := ⟨_, rfl⟩
  rw [← hb6]
  cases b6
  · skip
    skip
    refine z_runV X kX9_150 (tX9_asks false hS) (zso_21 hS) rfl rfl (Nat.le_of_ble_eq_true rfl) ⟨by decide, by decide⟩ ⟨by decide, by decide⟩ dX9_forbid_6 ?_
    rintro _ g1 s1 ⟨rfl, h8, h9⟩
    replace h8 := h8.symm
    subst h8
    replace h9 := h9.symm
    subst h9
    refine z_if_ne (tgt := 14) X dX9_forbid_9 (by decide) (fun c_9 => ?_) (fun c_9 => ?_)
    · exact absurd rfl c_9
    · skip
      refine z_iconst (v := 0) X (by decide) dX9_forbid_12 ?_
      refine z_zret X (by decide) (by decide) rfl (by first | exact Or.inl rfl | exact Or.inr rfl | exact zb_01 _ | assumption) dX9_forbid_13 ?_
      exact ⟨rfl, _, rfl, zMP_1 (j := 0) (by unfold zx_in; rw [← hb6]; rfl) rfl⟩
  · skip
    skip
    refine z_runV X kX9_150 (tX9_asks true hS) (zso_21 hS) rfl rfl (Nat.le_of_ble_eq_true rfl) ⟨by decide, by decide⟩ ⟨by decide, by decide⟩ dX9_forbid_6 ?_
    rintro _ g1 s1 ⟨rfl, h8, h9⟩
    replace h8 := h8.symm
    subst h8
    replace h9 := h9.symm
    subst h9
    refine z_if_ne (tgt := 14) X dX9_forbid_9 (by decide) (fun c_9 => ?_) (fun c_9 => ?_)
    · skip
      obtain ⟨o, ho, rfl⟩ := zin_t hb6.symm (by omega)
      obtain ⟨τ, hτ⟩ : ∃ q, q = z_up σ 21 48 0 := ⟨_, rfl⟩
      rw [show z_up σ 21 48 (if true = true then 0 else 1) = τ from hτ.symm]
      have eτ : ∀ i, i ≠ 21 → τ i = σ i := fun i h => by rw [hτ, z_up_ne h]
      have eτ1 : ∀ k, k ≠ 48 → τ 21 k = σ 21 k := fun k h => by rw [hτ, z_up_app, if_pos rfl, if_neg h]
      refine z_aload_n X dX9_forbid_14 rfl ?_
      refine z_getr2 X fX9_19 (zso_21 hS) (zsr_21_6 hS) rfl dX9_forbid_15 ?_
      refine z_iload_n X dX9_forbid_18 rfl ?_
      refine z_zaldN X (zsa_25 hS) (by omega) (by omega) dX9_forbid_19 ?_
      rw [eτ 25 (by decide)]
      refine z_istore_n X dX9_forbid_20 (by decide) ?_
      refine z_aload_n X dX9_forbid_21 rfl ?_
      refine z_getr2 X fX9_19 (zso_21 hS) (zsr_21_6 hS) rfl dX9_forbid_22 ?_
      refine z_iload_n X dX9_forbid_25 rfl ?_
      refine z_iload_n X dX9_forbid_26 rfl ?_
      refine z_zastN X (zsa_25 hS) (by omega) (by omega) hy dX9_forbid_27 ?_
      refine z_iload_n X dX9_forbid_28 rfl ?_
      have hb9 := hb25 o ho
      refine z_zret X (by decide) (by decide) rfl (by first | exact Or.inl rfl | exact Or.inr rfl | exact zb_01 _ | assumption) dX9_forbid_29 ?_
      exact ⟨rfl, _, rfl, Or.inr ⟨by unfold zx_in; rw [if_pos hb6.symm], o, ho, rfl, rfl, by rw [hτ]⟩⟩
    · exact absurd c_9 (by decide)

set_option maxHeartbeats 4000000 in
set_option maxRecDepth 100000 in
theorem tX9_key {l : Launch} {D : va_G} {cy : Nat → ClassId} {z0 : Nat} {g : zSh} {σ : zIn} {no : Nat} (xq y : Int32) (hS : zS g) (hno : σ 21 5 = nI no) (hn8 : no ≤ 8) : z_Ct l D cy z0 MX9_key [.ref (g.2.1 21), .int xq, .int y] g σ (fun v g' σ' => g' = g ∧ ∃ r, v = some (.int r) ∧ zMP (zx_key no xq y) σ σ' (∃ o, o < no ∧ xq = nI o ∧ r = σ 26 o ∧ σ' = z_up (z_up σ 21 48 0) 26 o y)) := by
  refine z_ofM (by decide) (z_cr (z_ci (z_ci z_c0))) (Nat.le_of_ble_eq_true rfl) ?_
  intro p e s m args below meth c X
  refine z_aload_n X dX9_key_0 rfl ?_
  refine z_aload_n X dX9_key_1 rfl ?_
  refine z_iload_n X dX9_key_2 rfl ?_
  refine z_runV X kX9_184 (tX9_isOffice _ hS hno (by omega)) (zso_21 hS) rfl rfl (Nat.le_of_ble_eq_true rfl) ⟨by decide, by decide⟩ ⟨by decide, by decide⟩ dX9_key_3 ?_
  rintro _ g1 s1 ⟨rfl, h8, h9⟩
  replace h8 := h8.symm
  subst h8
  replace h9 := h9.symm
  subst h9
  obtain ⟨b6, hb6⟩ : ∃ q : Bool, q = zin xq no := ⟨_, rfl⟩
  rw [← hb6]
  cases b6
  · skip
    skip
    refine z_runV X kX9_150 (tX9_asks false hS) (zso_21 hS) rfl rfl (Nat.le_of_ble_eq_true rfl) ⟨by decide, by decide⟩ ⟨by decide, by decide⟩ dX9_key_6 ?_
    rintro _ g1 s1 ⟨rfl, h8, h9⟩
    replace h8 := h8.symm
    subst h8
    replace h9 := h9.symm
    subst h9
    refine z_if_ne (tgt := 14) X dX9_key_9 (by decide) (fun c_9 => ?_) (fun c_9 => ?_)
    · exact absurd rfl c_9
    · skip
      refine z_iconst (v := 0) X (by decide) dX9_key_12 ?_
      refine z_iret X (by decide) (by decide) rfl dX9_key_13 ?_
      exact ⟨rfl, _, rfl, zMP_1 (j := 0) (by unfold zx_key; rw [if_pos (by rw [← hb6]; decide)]) rfl⟩
  · skip
    skip
    refine z_runV X kX9_150 (tX9_asks true hS) (zso_21 hS) rfl rfl (Nat.le_of_ble_eq_true rfl) ⟨by decide, by decide⟩ ⟨by decide, by decide⟩ dX9_key_6 ?_
    rintro _ g1 s1 ⟨rfl, h8, h9⟩
    replace h8 := h8.symm
    subst h8
    replace h9 := h9.symm
    subst h9
    refine z_if_ne (tgt := 14) X dX9_key_9 (by decide) (fun c_9 => ?_) (fun c_9 => ?_)
    · skip
      obtain ⟨o, ho, rfl⟩ := zin_t hb6.symm (by omega)
      obtain ⟨τ, hτ⟩ : ∃ q, q = z_up σ 21 48 0 := ⟨_, rfl⟩
      rw [show z_up σ 21 48 (if true = true then 0 else 1) = τ from hτ.symm]
      have eτ : ∀ i, i ≠ 21 → τ i = σ i := fun i h => by rw [hτ, z_up_ne h]
      have eτ1 : ∀ k, k ≠ 48 → τ 21 k = σ 21 k := fun k h => by rw [hτ, z_up_app, if_pos rfl, if_neg h]
      refine z_iload_n X dX9_key_14 rfl ?_
      refine z_iconst (v := 0) X (by decide) dX9_key_15 ?_
      refine z_bipush (v := 39) X (by decide) dX9_key_16 ?_
      refine z_runS X kX9_129 (tX9_inN _ _ _) rfl rfl (Nat.le_of_ble_eq_true rfl) ⟨by decide, by decide⟩ ⟨by decide, by decide⟩ dX9_key_18 ?_
      rintro _ g1 s1 ⟨rfl, h8, h9⟩
      replace h8 := h8.symm
      subst h8
      replace h9 := h9.symm
      subst h9
      refine z_if_ne (tgt := 30) X dX9_key_21 (by decide) (fun c_21 => ?_) (fun c_21 => ?_)
      · skip
        try simp (disch := omega) only [zb_notn, zb_not, zb_n0, zb_0, Bool.not_eq_false, Bool.not_eq_true, Bool.not_eq_true', Bool.not_eq_false', decide_eq_true_eq, decide_eq_false_iff_not, Classical.not_not] at c_21
        refine z_aload_n X dX9_key_30 rfl ?_
        refine z_getr2 X fX9_23 (zso_21 hS) (zsr_21_7 hS) rfl dX9_key_31 ?_
        refine z_iload_n X dX9_key_34 rfl ?_
        refine z_ialdN X (zsa_26 hS) (by omega) (by omega) dX9_key_35 ?_
        rw [eτ 26 (by decide)]
        refine z_istore_n X dX9_key_36 (by decide) ?_
        refine z_aload_n X dX9_key_37 rfl ?_
        refine z_getr2 X fX9_23 (zso_21 hS) (zsr_21_7 hS) rfl dX9_key_38 ?_
        refine z_iload_n X dX9_key_41 rfl ?_
        refine z_iload_n X dX9_key_42 rfl ?_
        refine z_iastN X (zsa_26 hS) (by omega) (by omega) dX9_key_43 ?_
        refine z_iload_n X dX9_key_44 rfl ?_
        refine z_iret X (by decide) (by decide) rfl dX9_key_45 ?_
        exact ⟨rfl, _, rfl, Or.inr ⟨by unfold zx_key; rw [if_neg (fun q => q hb6.symm), if_neg c_21], o, ho, rfl, rfl, by rw [hτ]⟩⟩
      · skip
        try simp (disch := omega) only [zb_notn, zb_not, zb_n0, zb_0, Bool.not_eq_false, Bool.not_eq_true, Bool.not_eq_true', Bool.not_eq_false', decide_eq_true_eq, decide_eq_false_iff_not, Classical.not_not] at c_21
        refine z_aload_n X dX9_key_24 rfl ?_
        refine z_iconst (v := 2) X (by decide) dX9_key_25 ?_
        refine z_runV X kX9_154 (tX9_fails _ hS) (zso_21 hS) rfl rfl (Nat.le_of_ble_eq_true rfl) ⟨by decide, by decide⟩ ⟨by decide, by decide⟩ dX9_key_26 ?_
        rintro _ g1 s1 ⟨rfl, h8, h9⟩
        replace h8 := h8.symm
        subst h8
        replace h9 := h9.symm
        subst h9
        refine z_iret X (by decide) (by decide) rfl dX9_key_29 ?_
        exact ⟨rfl, _, rfl, by rw [hτ]; exact zMP_2 (j := 1) (by unfold zx_key; rw [if_neg (fun q => q hb6.symm), if_pos c_21]) rfl⟩
    · exact absurd c_9 (by decide)

set_option maxHeartbeats 4000000 in
set_option maxRecDepth 100000 in
theorem tX9_conference {l : Launch} {D : va_G} {cy : Nat → ClassId} {z0 : Nat} {g : zSh} {σ : zIn} {nu : Nat} (x1 x2 x3 x4 : Int32) (hS : zS g) (hnu : σ 21 16 = nI nu) (hn12 : nu ≤ 12) : z_Ct l D cy z0 MX9_conference [.ref (g.2.1 21), .int x1, .int x2, .int x3, .int x4] g σ (fun v g' σ' => g' = g ∧ ∃ r, v = some (.int r) ∧ zMP (zx_conf nu x1 x2 x3 x4) σ σ' (r = nI (nu + 1) ∧ σ' = z_up (z_up (z_up (z_up (z_up (z_up σ 21 48 0) 21 16 (nI (nu + 1))) 34 (nu + 1) x1) 35 (nu + 1) x2) 36 (nu + 1) x3) 37 (nu + 1) x4)) := by
  refine z_ofM (by decide) (z_cr (z_ci (z_ci (z_ci (z_ci z_c0))))) (Nat.le_of_ble_eq_true rfl) ?_
  intro p e s m args below meth c X
  refine z_aload_n X dX9_conference_0 rfl ?_
  refine z_iload_n X dX9_conference_1 rfl ?_
  refine z_iconst (v := 0) X (by decide) dX9_conference_2 ?_
  refine z_sipush (v := 1000) X (by decide) dX9_conference_3 ?_
  refine z_runS X kX9_129 (tX9_inN _ _ _) rfl rfl (Nat.le_of_ble_eq_true rfl) ⟨by decide, by decide⟩ ⟨by decide, by decide⟩ dX9_conference_6 ?_
  rintro _ g1 s1 ⟨rfl, h8, h9⟩
  replace h8 := h8.symm
  subst h8
  replace h9 := h9.symm
  subst h9
  refine z_if_eq (tgt := 53) X dX9_conference_9 (by decide) (fun c_9 => ?_) (fun c_9 => ?_)
  · skip
    try simp (disch := omega) only [zb_notn, zb_not, zb_n0, zb_0, Bool.not_eq_false, Bool.not_eq_true, Bool.not_eq_true', Bool.not_eq_false', decide_eq_true_eq, decide_eq_false_iff_not, Classical.not_not] at c_9
    refine z_iconst (v := nI 0) X (by decide) dX9_conference_53 ?_
    refine z_runV X kX9_150 (tX9_asks false hS) (zso_21 hS) rfl rfl (Nat.le_of_ble_eq_true rfl) ⟨by decide, by decide⟩ ⟨by decide, by decide⟩ dX9_conference_54 ?_
    rintro _ g1 s1 ⟨rfl, h8, h9⟩
    replace h8 := h8.symm
    subst h8
    replace h9 := h9.symm
    subst h9
    refine z_if_ne (tgt := 62) X dX9_conference_57 (by decide) (fun c_57 => ?_) (fun c_57 => ?_)
    · first | exact absurd c_57 (by decide) | exact absurd (by decide) c_57
    · skip
      refine z_iconst (v := 0) X (by decide) dX9_conference_60 ?_
      refine z_iret X (by decide) (by decide) rfl dX9_conference_61 ?_
      exact ⟨rfl, _, rfl, zMP_1 (j := 0) (by unfold zx_conf; rw [if_pos (by first | exact Or.inl c_9 | exact Or.inr (Or.inl c_19) | exact Or.inr (Or.inr (Or.inl ⟨c_24, c_30, c_36⟩)) | exact Or.inr (Or.inr (Or.inr c_46)))]) rfl⟩
  · skip
    try simp (disch := omega) only [zb_notn, zb_not, zb_n0, zb_0, Bool.not_eq_false, Bool.not_eq_true, Bool.not_eq_true', Bool.not_eq_false', decide_eq_true_eq, decide_eq_false_iff_not, Classical.not_not] at c_9
    refine z_iload_n X dX9_conference_12 rfl ?_
    refine z_iconst (v := 5) X (by decide) dX9_conference_13 ?_
    refine z_bipush (v := 20) X (by decide) dX9_conference_14 ?_
    refine z_runS X kX9_129 (tX9_inN _ _ _) rfl rfl (Nat.le_of_ble_eq_true rfl) ⟨by decide, by decide⟩ ⟨by decide, by decide⟩ dX9_conference_16 ?_
    rintro _ g1 s1 ⟨rfl, h8, h9⟩
    replace h8 := h8.symm
    subst h8
    replace h9 := h9.symm
    subst h9
    refine z_if_eq (tgt := 53) X dX9_conference_19 (by decide) (fun c_19 => ?_) (fun c_19 => ?_)
    · skip
      try simp (disch := omega) only [zb_notn, zb_not, zb_n0, zb_0, Bool.not_eq_false, Bool.not_eq_true, Bool.not_eq_true', Bool.not_eq_false', decide_eq_true_eq, decide_eq_false_iff_not, Classical.not_not] at c_19
      refine z_iconst (v := nI 0) X (by decide) dX9_conference_53 ?_
      refine z_runV X kX9_150 (tX9_asks false hS) (zso_21 hS) rfl rfl (Nat.le_of_ble_eq_true rfl) ⟨by decide, by decide⟩ ⟨by decide, by decide⟩ dX9_conference_54 ?_
      rintro _ g1 s1 ⟨rfl, h8, h9⟩
      replace h8 := h8.symm
      subst h8
      replace h9 := h9.symm
      subst h9
      refine z_if_ne (tgt := 62) X dX9_conference_57 (by decide) (fun c_57 => ?_) (fun c_57 => ?_)
      · first | exact absurd c_57 (by decide) | exact absurd (by decide) c_57
      · skip
        refine z_iconst (v := 0) X (by decide) dX9_conference_60 ?_
        refine z_iret X (by decide) (by decide) rfl dX9_conference_61 ?_
        exact ⟨rfl, _, rfl, zMP_1 (j := 0) (by unfold zx_conf; rw [if_pos (by first | exact Or.inl c_9 | exact Or.inr (Or.inl c_19) | exact Or.inr (Or.inr (Or.inl ⟨c_24, c_30, c_36⟩)) | exact Or.inr (Or.inr (Or.inr c_46)))]) rfl⟩
    · skip
      try simp (disch := omega) only [zb_notn, zb_not, zb_n0, zb_0, Bool.not_eq_false, Bool.not_eq_true, Bool.not_eq_true', Bool.not_eq_false', decide_eq_true_eq, decide_eq_false_iff_not, Classical.not_not] at c_19
      refine z_iload_n X dX9_conference_22 rfl ?_
      refine z_iconst (v := 5) X (by decide) dX9_conference_23 ?_
      refine z_icmp_eq (tgt := 39) X dX9_conference_24 (by decide) (fun c_24 => ?_) (fun c_24 => ?_)
      · skip
        refine z_iload X dX9_conference_39 rfl ?_
        refine z_iconst (v := 0) X (by decide) dX9_conference_41 ?_
        refine z_iconst (v := 3) X (by decide) dX9_conference_42 ?_
        refine z_runS X kX9_129 (tX9_inN _ _ _) rfl rfl (Nat.le_of_ble_eq_true rfl) ⟨by decide, by decide⟩ ⟨by decide, by decide⟩ dX9_conference_43 ?_
        rintro _ g1 s1 ⟨rfl, h8, h9⟩
        replace h8 := h8.symm
        subst h8
        replace h9 := h9.symm
        subst h9
        refine z_if_eq (tgt := 53) X dX9_conference_46 (by decide) (fun c_46 => ?_) (fun c_46 => ?_)
        · skip
          try simp (disch := omega) only [zb_notn, zb_not, zb_n0, zb_0, Bool.not_eq_false, Bool.not_eq_true, Bool.not_eq_true', Bool.not_eq_false', decide_eq_true_eq, decide_eq_false_iff_not, Classical.not_not] at c_46
          refine z_iconst (v := nI 0) X (by decide) dX9_conference_53 ?_
          refine z_runV X kX9_150 (tX9_asks false hS) (zso_21 hS) rfl rfl (Nat.le_of_ble_eq_true rfl) ⟨by decide, by decide⟩ ⟨by decide, by decide⟩ dX9_conference_54 ?_
          rintro _ g1 s1 ⟨rfl, h8, h9⟩
          replace h8 := h8.symm
          subst h8
          replace h9 := h9.symm
          subst h9
          refine z_if_ne (tgt := 62) X dX9_conference_57 (by decide) (fun c_57 => ?_) (fun c_57 => ?_)
          · first | exact absurd c_57 (by decide) | exact absurd (by decide) c_57
          · skip
            refine z_iconst (v := 0) X (by decide) dX9_conference_60 ?_
            refine z_iret X (by decide) (by decide) rfl dX9_conference_61 ?_
            exact ⟨rfl, _, rfl, zMP_1 (j := 0) (by unfold zx_conf; rw [if_pos (by first | exact Or.inl c_9 | exact Or.inr (Or.inl c_19) | exact Or.inr (Or.inr (Or.inl ⟨c_24, c_30, c_36⟩)) | exact Or.inr (Or.inr (Or.inr c_46)))]) rfl⟩
        · skip
          try simp (disch := omega) only [zb_notn, zb_not, zb_n0, zb_0, Bool.not_eq_false, Bool.not_eq_true, Bool.not_eq_true', Bool.not_eq_false', decide_eq_true_eq, decide_eq_false_iff_not, Classical.not_not] at c_46
          refine z_iconst (v := nI 1) X (by decide) dX9_conference_49 ?_
          refine z_goto (tgt := 54) X dX9_conference_50 (by decide) ?_
          refine z_runV X kX9_150 (tX9_asks true hS) (zso_21 hS) rfl rfl (Nat.le_of_ble_eq_true rfl) ⟨by decide, by decide⟩ ⟨by decide, by decide⟩ dX9_conference_54 ?_
          rintro _ g1 s1 ⟨rfl, h8, h9⟩
          replace h8 := h8.symm
          subst h8
          replace h9 := h9.symm
          subst h9
          refine z_if_ne (tgt := 62) X dX9_conference_57 (by decide) (fun c_57 => ?_) (fun c_57 => ?_)
          · skip
            obtain ⟨τ, hτ⟩ : ∃ q, q = z_up σ 21 48 0 := ⟨_, rfl⟩
            rw [show z_up σ 21 48 (if true = true then 0 else 1) = τ from hτ.symm]
            have eτ : ∀ i, i ≠ 21 → τ i = σ i := fun i h => by rw [hτ, z_up_ne h]
            have eτ1 : ∀ k, k ≠ 48 → τ 21 k = σ 21 k := fun k h => by rw [hτ, z_up_app, if_pos rfl, if_neg h]
            have hnτ : τ 21 16 = nI nu := (eτ1 16 (by decide)).trans hnu
            refine z_aload_n X dX9_conference_62 rfl ?_
            refine z_geti X fX9_193 (zso_21 hS) rfl dX9_conference_63 ?_
            rw [hnτ]
            refine z_bipush (v := nI 12) X (by decide) dX9_conference_66 ?_
            refine z_icmp_ne (tgt := 77) X dX9_conference_68 (by decide) (fun c_68 => ?_) (fun c_68 => ?_)
            · skip
              try simp (disch := omega) only [zk0, nI_leI, nI_ltI, nI_eq, zbk_notn, zbk_not, zbk_n0, zbk_0, zb_0, zb_n0, zb_not, zb_notn, Bool.not_eq_false, Bool.not_eq_true, Bool.not_eq_true', Bool.not_eq_false', decide_eq_true_eq, decide_eq_false_iff_not, Classical.not_not] at c_68
              refine z_aload_n X dX9_conference_77 rfl ?_
              refine z_dup X rfl dX9_conference_78 ?_
              refine z_geti X fX9_193 (zso_21 hS) rfl dX9_conference_79 ?_
              rw [hnτ]
              refine z_iconst (v := nI 1) X (by decide) dX9_conference_82 ?_
              refine z_iaddN X dX9_conference_83 ?_
              refine z_puti X fX9_193 (zso_21 hS) rfl dX9_conference_84 ?_
              refine z_aload_n X dX9_conference_87 rfl ?_
              refine z_getr2 X fX9_47 (zso_21 hS) (zsr_21_17 hS) rfl dX9_conference_88 ?_
              refine z_aload_n X dX9_conference_91 rfl ?_
              refine z_geti X fX9_193 (zso_21 hS) rfl dX9_conference_92 ?_
              repeat rw [z_up_ne (by decide)]
              rw [z_up_app, if_pos rfl, if_pos rfl]
              refine z_iload_n X dX9_conference_95 rfl ?_
              refine z_iastN X (zsa_34 hS) (by omega) (by omega) dX9_conference_96 ?_
              refine z_aload_n X dX9_conference_97 rfl ?_
              refine z_getr2 X fX9_50 (zso_21 hS) (zsr_21_18 hS) rfl dX9_conference_98 ?_
              refine z_aload_n X dX9_conference_101 rfl ?_
              refine z_geti X fX9_193 (zso_21 hS) rfl dX9_conference_102 ?_
              repeat rw [z_up_ne (by decide)]
              rw [z_up_app, if_pos rfl, if_pos rfl]
              refine z_iload_n X dX9_conference_105 rfl ?_
              refine z_iastN X (zsa_35 hS) (by omega) (by omega) dX9_conference_106 ?_
              refine z_aload_n X dX9_conference_107 rfl ?_
              refine z_getr2 X fX9_53 (zso_21 hS) (zsr_21_19 hS) rfl dX9_conference_108 ?_
              refine z_aload_n X dX9_conference_111 rfl ?_
              refine z_geti X fX9_193 (zso_21 hS) rfl dX9_conference_112 ?_
              repeat rw [z_up_ne (by decide)]
              rw [z_up_app, if_pos rfl, if_pos rfl]
              refine z_iload_n X dX9_conference_115 rfl ?_
              refine z_iastN X (zsa_36 hS) (by omega) (by omega) dX9_conference_116 ?_
              refine z_aload_n X dX9_conference_117 rfl ?_
              refine z_getr2 X fX9_56 (zso_21 hS) (zsr_21_20 hS) rfl dX9_conference_118 ?_
              refine z_aload_n X dX9_conference_121 rfl ?_
              refine z_geti X fX9_193 (zso_21 hS) rfl dX9_conference_122 ?_
              repeat rw [z_up_ne (by decide)]
              rw [z_up_app, if_pos rfl, if_pos rfl]
              refine z_iload X dX9_conference_125 rfl ?_
              refine z_iastN X (zsa_37 hS) (by omega) (by omega) dX9_conference_127 ?_
              refine z_aload_n X dX9_conference_128 rfl ?_
              refine z_geti X fX9_193 (zso_21 hS) rfl dX9_conference_129 ?_
              repeat rw [z_up_ne (by decide)]
              rw [z_up_app, if_pos rfl, if_pos rfl]
              refine z_iret X (by decide) (by decide) rfl dX9_conference_132 ?_
              exact ⟨rfl, _, rfl, Or.inr ⟨by unfold zx_conf; rw [if_neg (fun q => by rcases q with q | q | ⟨q1, q2, q3⟩ | q; exact c_9 q; exact c_19 q; (first | exact q1 c_24 | exact q2 c_30 | exact q3 c_36); exact c_46 q), if_neg (by omega)], rfl, by rw [hτ]⟩⟩
            · skip
              try simp (disch := omega) only [zk0, nI_leI, nI_ltI, nI_eq, zbk_notn, zbk_not, zbk_n0, zbk_0, zb_0, zb_n0, zb_not, zb_notn, Bool.not_eq_false, Bool.not_eq_true, Bool.not_eq_true', Bool.not_eq_false', decide_eq_true_eq, decide_eq_false_iff_not, Classical.not_not] at c_68
              refine z_aload_n X dX9_conference_71 rfl ?_
              refine z_iconst (v := 2) X (by decide) dX9_conference_72 ?_
              refine z_runV X kX9_154 (tX9_fails _ hS) (zso_21 hS) rfl rfl (Nat.le_of_ble_eq_true rfl) ⟨by decide, by decide⟩ ⟨by decide, by decide⟩ dX9_conference_73 ?_
              rintro _ g1 s1 ⟨rfl, h8, h9⟩
              replace h8 := h8.symm
              subst h8
              replace h9 := h9.symm
              subst h9
              refine z_iret X (by decide) (by decide) rfl dX9_conference_76 ?_
              exact ⟨rfl, _, rfl, by rw [hτ]; exact zMP_2 (j := 1) (by unfold zx_conf; rw [if_neg (fun q => by rcases q with q | q | ⟨q1, q2, q3⟩ | q; exact c_9 q; exact c_19 q; (first | exact q1 c_24 | exact q2 c_30 | exact q3 c_36); exact c_46 q), if_pos (by omega)]) rfl⟩
          · first | exact absurd c_57 (by decide) | exact absurd (by decide) c_57
      · skip
        refine z_iload_n X dX9_conference_27 rfl ?_
        refine z_bipush (v := 10) X (by decide) dX9_conference_28 ?_
        refine z_icmp_eq (tgt := 39) X dX9_conference_30 (by decide) (fun c_30 => ?_) (fun c_30 => ?_)
        · skip
          refine z_iload X dX9_conference_39 rfl ?_
          refine z_iconst (v := 0) X (by decide) dX9_conference_41 ?_
          refine z_iconst (v := 3) X (by decide) dX9_conference_42 ?_
          refine z_runS X kX9_129 (tX9_inN _ _ _) rfl rfl (Nat.le_of_ble_eq_true rfl) ⟨by decide, by decide⟩ ⟨by decide, by decide⟩ dX9_conference_43 ?_
          rintro _ g1 s1 ⟨rfl, h8, h9⟩
          replace h8 := h8.symm
          subst h8
          replace h9 := h9.symm
          subst h9
          refine z_if_eq (tgt := 53) X dX9_conference_46 (by decide) (fun c_46 => ?_) (fun c_46 => ?_)
          · skip
            try simp (disch := omega) only [zb_notn, zb_not, zb_n0, zb_0, Bool.not_eq_false, Bool.not_eq_true, Bool.not_eq_true', Bool.not_eq_false', decide_eq_true_eq, decide_eq_false_iff_not, Classical.not_not] at c_46
            refine z_iconst (v := nI 0) X (by decide) dX9_conference_53 ?_
            refine z_runV X kX9_150 (tX9_asks false hS) (zso_21 hS) rfl rfl (Nat.le_of_ble_eq_true rfl) ⟨by decide, by decide⟩ ⟨by decide, by decide⟩ dX9_conference_54 ?_
            rintro _ g1 s1 ⟨rfl, h8, h9⟩
            replace h8 := h8.symm
            subst h8
            replace h9 := h9.symm
            subst h9
            refine z_if_ne (tgt := 62) X dX9_conference_57 (by decide) (fun c_57 => ?_) (fun c_57 => ?_)
            · first | exact absurd c_57 (by decide) | exact absurd (by decide) c_57
            · skip
              refine z_iconst (v := 0) X (by decide) dX9_conference_60 ?_
              refine z_iret X (by decide) (by decide) rfl dX9_conference_61 ?_
              exact ⟨rfl, _, rfl, zMP_1 (j := 0) (by unfold zx_conf; rw [if_pos (by first | exact Or.inl c_9 | exact Or.inr (Or.inl c_19) | exact Or.inr (Or.inr (Or.inl ⟨c_24, c_30, c_36⟩)) | exact Or.inr (Or.inr (Or.inr c_46)))]) rfl⟩
          · skip
            try simp (disch := omega) only [zb_notn, zb_not, zb_n0, zb_0, Bool.not_eq_false, Bool.not_eq_true, Bool.not_eq_true', Bool.not_eq_false', decide_eq_true_eq, decide_eq_false_iff_not, Classical.not_not] at c_46
            refine z_iconst (v := nI 1) X (by decide) dX9_conference_49 ?_
            refine z_goto (tgt := 54) X dX9_conference_50 (by decide) ?_
            refine z_runV X kX9_150 (tX9_asks true hS) (zso_21 hS) rfl rfl (Nat.le_of_ble_eq_true rfl) ⟨by decide, by decide⟩ ⟨by decide, by decide⟩ dX9_conference_54 ?_
            rintro _ g1 s1 ⟨rfl, h8, h9⟩
            replace h8 := h8.symm
            subst h8
            replace h9 := h9.symm
            subst h9
            refine z_if_ne (tgt := 62) X dX9_conference_57 (by decide) (fun c_57 => ?_) (fun c_57 => ?_)
            · skip
              obtain ⟨τ, hτ⟩ : ∃ q, q = z_up σ 21 48 0 := ⟨_, rfl⟩
              rw [show z_up σ 21 48 (if true = true then 0 else 1) = τ from hτ.symm]
              have eτ : ∀ i, i ≠ 21 → τ i = σ i := fun i h => by rw [hτ, z_up_ne h]
              have eτ1 : ∀ k, k ≠ 48 → τ 21 k = σ 21 k := fun k h => by rw [hτ, z_up_app, if_pos rfl, if_neg h]
              have hnτ : τ 21 16 = nI nu := (eτ1 16 (by decide)).trans hnu
              refine z_aload_n X dX9_conference_62 rfl ?_
              refine z_geti X fX9_193 (zso_21 hS) rfl dX9_conference_63 ?_
              rw [hnτ]
              refine z_bipush (v := nI 12) X (by decide) dX9_conference_66 ?_
              refine z_icmp_ne (tgt := 77) X dX9_conference_68 (by decide) (fun c_68 => ?_) (fun c_68 => ?_)
              · skip
                try simp (disch := omega) only [zk0, nI_leI, nI_ltI, nI_eq, zbk_notn, zbk_not, zbk_n0, zbk_0, zb_0, zb_n0, zb_not, zb_notn, Bool.not_eq_false, Bool.not_eq_true, Bool.not_eq_true', Bool.not_eq_false', decide_eq_true_eq, decide_eq_false_iff_not, Classical.not_not] at c_68
                refine z_aload_n X dX9_conference_77 rfl ?_
                refine z_dup X rfl dX9_conference_78 ?_
                refine z_geti X fX9_193 (zso_21 hS) rfl dX9_conference_79 ?_
                rw [hnτ]
                refine z_iconst (v := nI 1) X (by decide) dX9_conference_82 ?_
                refine z_iaddN X dX9_conference_83 ?_
                refine z_puti X fX9_193 (zso_21 hS) rfl dX9_conference_84 ?_
                refine z_aload_n X dX9_conference_87 rfl ?_
                refine z_getr2 X fX9_47 (zso_21 hS) (zsr_21_17 hS) rfl dX9_conference_88 ?_
                refine z_aload_n X dX9_conference_91 rfl ?_
                refine z_geti X fX9_193 (zso_21 hS) rfl dX9_conference_92 ?_
                repeat rw [z_up_ne (by decide)]
                rw [z_up_app, if_pos rfl, if_pos rfl]
                refine z_iload_n X dX9_conference_95 rfl ?_
                refine z_iastN X (zsa_34 hS) (by omega) (by omega) dX9_conference_96 ?_
                refine z_aload_n X dX9_conference_97 rfl ?_
                refine z_getr2 X fX9_50 (zso_21 hS) (zsr_21_18 hS) rfl dX9_conference_98 ?_
                refine z_aload_n X dX9_conference_101 rfl ?_
                refine z_geti X fX9_193 (zso_21 hS) rfl dX9_conference_102 ?_
                repeat rw [z_up_ne (by decide)]
                rw [z_up_app, if_pos rfl, if_pos rfl]
                refine z_iload_n X dX9_conference_105 rfl ?_
                refine z_iastN X (zsa_35 hS) (by omega) (by omega) dX9_conference_106 ?_
                refine z_aload_n X dX9_conference_107 rfl ?_
                refine z_getr2 X fX9_53 (zso_21 hS) (zsr_21_19 hS) rfl dX9_conference_108 ?_
                refine z_aload_n X dX9_conference_111 rfl ?_
                refine z_geti X fX9_193 (zso_21 hS) rfl dX9_conference_112 ?_
                repeat rw [z_up_ne (by decide)]
                rw [z_up_app, if_pos rfl, if_pos rfl]
                refine z_iload_n X dX9_conference_115 rfl ?_
                refine z_iastN X (zsa_36 hS) (by omega) (by omega) dX9_conference_116 ?_
                refine z_aload_n X dX9_conference_117 rfl ?_
                refine z_getr2 X fX9_56 (zso_21 hS) (zsr_21_20 hS) rfl dX9_conference_118 ?_
                refine z_aload_n X dX9_conference_121 rfl ?_
                refine z_geti X fX9_193 (zso_21 hS) rfl dX9_conference_122 ?_
                repeat rw [z_up_ne (by decide)]
                rw [z_up_app, if_pos rfl, if_pos rfl]
                refine z_iload X dX9_conference_125 rfl ?_
                refine z_iastN X (zsa_37 hS) (by omega) (by omega) dX9_conference_127 ?_
                refine z_aload_n X dX9_conference_128 rfl ?_
                refine z_geti X fX9_193 (zso_21 hS) rfl dX9_conference_129 ?_
                repeat rw [z_up_ne (by decide)]
                rw [z_up_app, if_pos rfl, if_pos rfl]
                refine z_iret X (by decide) (by decide) rfl dX9_conference_132 ?_
                exact ⟨rfl, _, rfl, Or.inr ⟨by unfold zx_conf; rw [if_neg (fun q => by rcases q with q | q | ⟨q1, q2, q3⟩ | q; exact c_9 q; exact c_19 q; (first | exact q1 c_24 | exact q2 c_30 | exact q3 c_36); exact c_46 q), if_neg (by omega)], rfl, by rw [hτ]⟩⟩
              · skip
                try simp (disch := omega) only [zk0, nI_leI, nI_ltI, nI_eq, zbk_notn, zbk_not, zbk_n0, zbk_0, zb_0, zb_n0, zb_not, zb_notn, Bool.not_eq_false, Bool.not_eq_true, Bool.not_eq_true', Bool.not_eq_false', decide_eq_true_eq, decide_eq_false_iff_not, Classical.not_not] at c_68
                refine z_aload_n X dX9_conference_71 rfl ?_
                refine z_iconst (v := 2) X (by decide) dX9_conference_72 ?_
                refine z_runV X kX9_154 (tX9_fails _ hS) (zso_21 hS) rfl rfl (Nat.le_of_ble_eq_true rfl) ⟨by decide, by decide⟩ ⟨by decide, by decide⟩ dX9_conference_73 ?_
                rintro _ g1 s1 ⟨rfl, h8, h9⟩
                replace h8 := h8.symm
                subst h8
                replace h9 := h9.symm
                subst h9
                refine z_iret X (by decide) (by decide) rfl dX9_conference_76 ?_
                exact ⟨rfl, _, rfl, by rw [hτ]; exact zMP_2 (j := 1) (by unfold zx_conf; rw [if_neg (fun q => by rcases q with q | q | ⟨q1, q2, q3⟩ | q; exact c_9 q; exact c_19 q; (first | exact q1 c_24 | exact q2 c_30 | exact q3 c_36); exact c_46 q), if_pos (by omega)]) rfl⟩
            · first | exact absurd c_57 (by decide) | exact absurd (by decide) c_57
        · skip
          refine z_iload_n X dX9_conference_33 rfl ?_
          refine z_bipush (v := 15) X (by decide) dX9_conference_34 ?_
          refine z_icmp_ne (tgt := 53) X dX9_conference_36 (by decide) (fun c_36 => ?_) (fun c_36 => ?_)
          · skip
            refine z_iconst (v := nI 0) X (by decide) dX9_conference_53 ?_
            refine z_runV X kX9_150 (tX9_asks false hS) (zso_21 hS) rfl rfl (Nat.le_of_ble_eq_true rfl) ⟨by decide, by decide⟩ ⟨by decide, by decide⟩ dX9_conference_54 ?_
            rintro _ g1 s1 ⟨rfl, h8, h9⟩
            replace h8 := h8.symm
            subst h8
            replace h9 := h9.symm
            subst h9
            refine z_if_ne (tgt := 62) X dX9_conference_57 (by decide) (fun c_57 => ?_) (fun c_57 => ?_)
            · first | exact absurd c_57 (by decide) | exact absurd (by decide) c_57
            · skip
              refine z_iconst (v := 0) X (by decide) dX9_conference_60 ?_
              refine z_iret X (by decide) (by decide) rfl dX9_conference_61 ?_
              exact ⟨rfl, _, rfl, zMP_1 (j := 0) (by unfold zx_conf; rw [if_pos (by first | exact Or.inl c_9 | exact Or.inr (Or.inl c_19) | exact Or.inr (Or.inr (Or.inl ⟨c_24, c_30, c_36⟩)) | exact Or.inr (Or.inr (Or.inr c_46)))]) rfl⟩
          · skip
            refine z_iload X dX9_conference_39 rfl ?_
            refine z_iconst (v := 0) X (by decide) dX9_conference_41 ?_
            refine z_iconst (v := 3) X (by decide) dX9_conference_42 ?_
            refine z_runS X kX9_129 (tX9_inN _ _ _) rfl rfl (Nat.le_of_ble_eq_true rfl) ⟨by decide, by decide⟩ ⟨by decide, by decide⟩ dX9_conference_43 ?_
            rintro _ g1 s1 ⟨rfl, h8, h9⟩
            replace h8 := h8.symm
            subst h8
            replace h9 := h9.symm
            subst h9
            refine z_if_eq (tgt := 53) X dX9_conference_46 (by decide) (fun c_46 => ?_) (fun c_46 => ?_)
            · skip
              try simp (disch := omega) only [zb_notn, zb_not, zb_n0, zb_0, Bool.not_eq_false, Bool.not_eq_true, Bool.not_eq_true', Bool.not_eq_false', decide_eq_true_eq, decide_eq_false_iff_not, Classical.not_not] at c_46
              refine z_iconst (v := nI 0) X (by decide) dX9_conference_53 ?_
              refine z_runV X kX9_150 (tX9_asks false hS) (zso_21 hS) rfl rfl (Nat.le_of_ble_eq_true rfl) ⟨by decide, by decide⟩ ⟨by decide, by decide⟩ dX9_conference_54 ?_
              rintro _ g1 s1 ⟨rfl, h8, h9⟩
              replace h8 := h8.symm
              subst h8
              replace h9 := h9.symm
              subst h9
              refine z_if_ne (tgt := 62) X dX9_conference_57 (by decide) (fun c_57 => ?_) (fun c_57 => ?_)
              · first | exact absurd c_57 (by decide) | exact absurd (by decide) c_57
              · skip
                refine z_iconst (v := 0) X (by decide) dX9_conference_60 ?_
                refine z_iret X (by decide) (by decide) rfl dX9_conference_61 ?_
                exact ⟨rfl, _, rfl, zMP_1 (j := 0) (by unfold zx_conf; rw [if_pos (by first | exact Or.inl c_9 | exact Or.inr (Or.inl c_19) | exact Or.inr (Or.inr (Or.inl ⟨c_24, c_30, c_36⟩)) | exact Or.inr (Or.inr (Or.inr c_46)))]) rfl⟩
            · skip
              try simp (disch := omega) only [zb_notn, zb_not, zb_n0, zb_0, Bool.not_eq_false, Bool.not_eq_true, Bool.not_eq_true', Bool.not_eq_false', decide_eq_true_eq, decide_eq_false_iff_not, Classical.not_not] at c_46
              refine z_iconst (v := nI 1) X (by decide) dX9_conference_49 ?_
              refine z_goto (tgt := 54) X dX9_conference_50 (by decide) ?_
              refine z_runV X kX9_150 (tX9_asks true hS) (zso_21 hS) rfl rfl (Nat.le_of_ble_eq_true rfl) ⟨by decide, by decide⟩ ⟨by decide, by decide⟩ dX9_conference_54 ?_
              rintro _ g1 s1 ⟨rfl, h8, h9⟩
              replace h8 := h8.symm
              subst h8
              replace h9 := h9.symm
              subst h9
              refine z_if_ne (tgt := 62) X dX9_conference_57 (by decide) (fun c_57 => ?_) (fun c_57 => ?_)
              · skip
                obtain ⟨τ, hτ⟩ : ∃ q, q = z_up σ 21 48 0 := ⟨_, rfl⟩
                rw [show z_up σ 21 48 (if true = true then 0 else 1) = τ from hτ.symm]
                have eτ : ∀ i, i ≠ 21 → τ i = σ i := fun i h => by rw [hτ, z_up_ne h]
                have eτ1 : ∀ k, k ≠ 48 → τ 21 k = σ 21 k := fun k h => by rw [hτ, z_up_app, if_pos rfl, if_neg h]
                have hnτ : τ 21 16 = nI nu := (eτ1 16 (by decide)).trans hnu
                refine z_aload_n X dX9_conference_62 rfl ?_
                refine z_geti X fX9_193 (zso_21 hS) rfl dX9_conference_63 ?_
                rw [hnτ]
                refine z_bipush (v := nI 12) X (by decide) dX9_conference_66 ?_
                refine z_icmp_ne (tgt := 77) X dX9_conference_68 (by decide) (fun c_68 => ?_) (fun c_68 => ?_)
                · skip
                  try simp (disch := omega) only [zk0, nI_leI, nI_ltI, nI_eq, zbk_notn, zbk_not, zbk_n0, zbk_0, zb_0, zb_n0, zb_not, zb_notn, Bool.not_eq_false, Bool.not_eq_true, Bool.not_eq_true', Bool.not_eq_false', decide_eq_true_eq, decide_eq_false_iff_not, Classical.not_not] at c_68
                  refine z_aload_n X dX9_conference_77 rfl ?_
                  refine z_dup X rfl dX9_conference_78 ?_
                  refine z_geti X fX9_193 (zso_21 hS) rfl dX9_conference_79 ?_
                  rw [hnτ]
                  refine z_iconst (v := nI 1) X (by decide) dX9_conference_82 ?_
                  refine z_iaddN X dX9_conference_83 ?_
                  refine z_puti X fX9_193 (zso_21 hS) rfl dX9_conference_84 ?_
                  refine z_aload_n X dX9_conference_87 rfl ?_
                  refine z_getr2 X fX9_47 (zso_21 hS) (zsr_21_17 hS) rfl dX9_conference_88 ?_
                  refine z_aload_n X dX9_conference_91 rfl ?_
                  refine z_geti X fX9_193 (zso_21 hS) rfl dX9_conference_92 ?_
                  repeat rw [z_up_ne (by decide)]
                  rw [z_up_app, if_pos rfl, if_pos rfl]
                  refine z_iload_n X dX9_conference_95 rfl ?_
                  refine z_iastN X (zsa_34 hS) (by omega) (by omega) dX9_conference_96 ?_
                  refine z_aload_n X dX9_conference_97 rfl ?_
                  refine z_getr2 X fX9_50 (zso_21 hS) (zsr_21_18 hS) rfl dX9_conference_98 ?_
                  refine z_aload_n X dX9_conference_101 rfl ?_
                  refine z_geti X fX9_193 (zso_21 hS) rfl dX9_conference_102 ?_
                  repeat rw [z_up_ne (by decide)]
                  rw [z_up_app, if_pos rfl, if_pos rfl]
                  refine z_iload_n X dX9_conference_105 rfl ?_
                  refine z_iastN X (zsa_35 hS) (by omega) (by omega) dX9_conference_106 ?_
                  refine z_aload_n X dX9_conference_107 rfl ?_
                  refine z_getr2 X fX9_53 (zso_21 hS) (zsr_21_19 hS) rfl dX9_conference_108 ?_
                  refine z_aload_n X dX9_conference_111 rfl ?_
                  refine z_geti X fX9_193 (zso_21 hS) rfl dX9_conference_112 ?_
                  repeat rw [z_up_ne (by decide)]
                  rw [z_up_app, if_pos rfl, if_pos rfl]
                  refine z_iload_n X dX9_conference_115 rfl ?_
                  refine z_iastN X (zsa_36 hS) (by omega) (by omega) dX9_conference_116 ?_
                  refine z_aload_n X dX9_conference_117 rfl ?_
                  refine z_getr2 X fX9_56 (zso_21 hS) (zsr_21_20 hS) rfl dX9_conference_118 ?_
                  refine z_aload_n X dX9_conference_121 rfl ?_
                  refine z_geti X fX9_193 (zso_21 hS) rfl dX9_conference_122 ?_
                  repeat rw [z_up_ne (by decide)]
                  rw [z_up_app, if_pos rfl, if_pos rfl]
                  refine z_iload X dX9_conference_125 rfl ?_
                  refine z_iastN X (zsa_37 hS) (by omega) (by omega) dX9_conference_127 ?_
                  refine z_aload_n X dX9_conference_128 rfl ?_
                  refine z_geti X fX9_193 (zso_21 hS) rfl dX9_conference_129 ?_
                  repeat rw [z_up_ne (by decide)]
                  rw [z_up_app, if_pos rfl, if_pos rfl]
                  refine z_iret X (by decide) (by decide) rfl dX9_conference_132 ?_
                  exact ⟨rfl, _, rfl, Or.inr ⟨by unfold zx_conf; rw [if_neg (fun q => by rcases q with q | q | ⟨q1, q2, q3⟩ | q; exact c_9 q; exact c_19 q; (first | exact q1 c_24 | exact q2 c_30 | exact q3 c_36); exact c_46 q), if_neg (by omega)], rfl, by rw [hτ]⟩⟩
                · skip
                  try simp (disch := omega) only [zk0, nI_leI, nI_ltI, nI_eq, zbk_notn, zbk_not, zbk_n0, zbk_0, zb_0, zb_n0, zb_not, zb_notn, Bool.not_eq_false, Bool.not_eq_true, Bool.not_eq_true', Bool.not_eq_false', decide_eq_true_eq, decide_eq_false_iff_not, Classical.not_not] at c_68
                  refine z_aload_n X dX9_conference_71 rfl ?_
                  refine z_iconst (v := 2) X (by decide) dX9_conference_72 ?_
                  refine z_runV X kX9_154 (tX9_fails _ hS) (zso_21 hS) rfl rfl (Nat.le_of_ble_eq_true rfl) ⟨by decide, by decide⟩ ⟨by decide, by decide⟩ dX9_conference_73 ?_
                  rintro _ g1 s1 ⟨rfl, h8, h9⟩
                  replace h8 := h8.symm
                  subst h8
                  replace h9 := h9.symm
                  subst h9
                  refine z_iret X (by decide) (by decide) rfl dX9_conference_76 ?_
                  exact ⟨rfl, _, rfl, by rw [hτ]; exact zMP_2 (j := 1) (by unfold zx_conf; rw [if_neg (fun q => by rcases q with q | q | ⟨q1, q2, q3⟩ | q; exact c_9 q; exact c_19 q; (first | exact q1 c_24 | exact q2 c_30 | exact q3 c_36); exact c_46 q), if_pos (by omega)]) rfl⟩
              · first | exact absurd c_57 (by decide) | exact absurd (by decide) c_57

set_option maxHeartbeats 4000000 in
set_option maxRecDepth 100000 in
theorem tX9_draft {l : Launch} {D : va_G} {cy : Nat → ClassId} {z0 : Nat} {g : zSh} {σ : zIn} {ni nd : Nat} (xq : Int32) (hS : zS g) (hi : σ 21 0 = nI ni) (hi2 : ni ≤ 30) (hd : σ 21 22 = nI nd) (hd2 : nd ≤ 24) : z_Ct l D cy z0 MX9_draft [.ref (g.2.1 21), .int xq] g σ (fun v g' σ' => g' = g ∧ ∃ r, v = some (.int r) ∧ zMP (zx_draft ni nd xq) σ σ' (r = nI (nd + 1) ∧ σ' = z_up (z_up (z_up σ 21 48 0) 38 nd xq) 21 22 (nI (nd + 1)))) := by
  refine z_ofM (by decide) (z_cr (z_ci z_c0)) (Nat.le_of_ble_eq_true rfl) ?_
  intro p e s m args below meth c X
  refine z_aload_n X dX9_draft_0 rfl ?_
  refine z_aload_n X dX9_draft_1 rfl ?_
  refine z_iload_n X dX9_draft_2 rfl ?_
  refine z_runV X kX9_158 (tX9_isIdea _ hS hi (by omega)) (zso_21 hS) rfl rfl (Nat.le_of_ble_eq_true rfl) ⟨by decide, by decide⟩ ⟨by decide, by decide⟩ dX9_draft_3 ?_
  rintro _ g1 s1 ⟨rfl, h8, h9⟩
  replace h8 := h8.symm
  subst h8
  replace h9 := h9.symm
  subst h9
  obtain ⟨b6, hb6⟩ : ∃ q : Bool, q = zin xq ni := ⟨_, rfl⟩
  rw [← hb6]
  cases b6
  · skip
    skip
    refine z_runV X kX9_150 (tX9_asks false hS) (zso_21 hS) rfl rfl (Nat.le_of_ble_eq_true rfl) ⟨by decide, by decide⟩ ⟨by decide, by decide⟩ dX9_draft_6 ?_
    rintro _ g1 s1 ⟨rfl, h8, h9⟩
    replace h8 := h8.symm
    subst h8
    replace h9 := h9.symm
    subst h9
    refine z_if_ne (tgt := 14) X dX9_draft_9 (by decide) (fun c_9 => ?_) (fun c_9 => ?_)
    · exact absurd rfl c_9
    · skip
      refine z_iconst (v := 0) X (by decide) dX9_draft_12 ?_
      refine z_iret X (by decide) (by decide) rfl dX9_draft_13 ?_
      exact ⟨rfl, _, rfl, zMP_1 (j := 0) (by unfold zx_draft; rw [if_pos (by rw [← hb6]; decide)]) rfl⟩
  · skip
    skip
    refine z_runV X kX9_150 (tX9_asks true hS) (zso_21 hS) rfl rfl (Nat.le_of_ble_eq_true rfl) ⟨by decide, by decide⟩ ⟨by decide, by decide⟩ dX9_draft_6 ?_
    rintro _ g1 s1 ⟨rfl, h8, h9⟩
    replace h8 := h8.symm
    subst h8
    replace h9 := h9.symm
    subst h9
    refine z_if_ne (tgt := 14) X dX9_draft_9 (by decide) (fun c_9 => ?_) (fun c_9 => ?_)
    · skip
      obtain ⟨τ, hτ⟩ : ∃ q, q = z_up σ 21 48 0 := ⟨_, rfl⟩
      rw [show z_up σ 21 48 (if true = true then 0 else 1) = τ from hτ.symm]
      have eτ : ∀ i, i ≠ 21 → τ i = σ i := fun i h => by rw [hτ, z_up_ne h]
      have eτ1 : ∀ k, k ≠ 48 → τ 21 k = σ 21 k := fun k h => by rw [hτ, z_up_app, if_pos rfl, if_neg h]
      have hnτ : τ 21 22 = nI nd := (eτ1 22 (by decide)).trans hd
      refine z_aload_n X dX9_draft_14 rfl ?_
      refine z_geti X fX9_202 (zso_21 hS) rfl dX9_draft_15 ?_
      rw [hnτ]
      refine z_bipush (v := nI 24) X (by decide) dX9_draft_18 ?_
      refine z_icmp_ne (tgt := 29) X dX9_draft_20 (by decide) (fun c_20 => ?_) (fun c_20 => ?_)
      · skip
        try simp (disch := omega) only [zk0, nI_leI, nI_ltI, nI_eq, zbk_notn, zbk_not, zbk_n0, zbk_0, zb_0, zb_n0, zb_not, zb_notn, Bool.not_eq_false, Bool.not_eq_true, Bool.not_eq_true', Bool.not_eq_false', decide_eq_true_eq, decide_eq_false_iff_not, Classical.not_not] at c_20
        refine z_aload_n X dX9_draft_29 rfl ?_
        refine z_getr2 X fX9_59 (zso_21 hS) (zsr_21_21 hS) rfl dX9_draft_30 ?_
        refine z_aload_n X dX9_draft_33 rfl ?_
        refine z_geti X fX9_202 (zso_21 hS) rfl dX9_draft_34 ?_
        rw [hnτ]
        refine z_iload_n X dX9_draft_37 rfl ?_
        refine z_iastN X (zsa_38 hS) (by omega) (by omega) dX9_draft_38 ?_
        refine z_aload_n X dX9_draft_39 rfl ?_
        refine z_dup X rfl dX9_draft_40 ?_
        refine z_geti X fX9_202 (zso_21 hS) rfl dX9_draft_41 ?_
        repeat rw [z_up_ne (by decide)]
        rw [hnτ]
        refine z_iconst (v := nI 1) X (by decide) dX9_draft_44 ?_
        refine z_iaddN X dX9_draft_45 ?_
        refine z_puti X fX9_202 (zso_21 hS) rfl dX9_draft_46 ?_
        refine z_aload_n X dX9_draft_49 rfl ?_
        refine z_geti X fX9_202 (zso_21 hS) rfl dX9_draft_50 ?_
        rw [z_up_app, if_pos rfl, if_pos rfl]
        refine z_iret X (by decide) (by decide) rfl dX9_draft_53 ?_
        exact ⟨rfl, _, rfl, Or.inr ⟨by unfold zx_draft; rw [if_neg (fun q => q hb6.symm), if_neg (by omega)], rfl, by rw [hτ]⟩⟩
      · skip
        try simp (disch := omega) only [zk0, nI_leI, nI_ltI, nI_eq, zbk_notn, zbk_not, zbk_n0, zbk_0, zb_0, zb_n0, zb_not, zb_notn, Bool.not_eq_false, Bool.not_eq_true, Bool.not_eq_true', Bool.not_eq_false', decide_eq_true_eq, decide_eq_false_iff_not, Classical.not_not] at c_20
        refine z_aload_n X dX9_draft_23 rfl ?_
        refine z_iconst (v := 2) X (by decide) dX9_draft_24 ?_
        refine z_runV X kX9_154 (tX9_fails _ hS) (zso_21 hS) rfl rfl (Nat.le_of_ble_eq_true rfl) ⟨by decide, by decide⟩ ⟨by decide, by decide⟩ dX9_draft_25 ?_
        rintro _ g1 s1 ⟨rfl, h8, h9⟩
        replace h8 := h8.symm
        subst h8
        replace h9 := h9.symm
        subst h9
        refine z_iret X (by decide) (by decide) rfl dX9_draft_28 ?_
        exact ⟨rfl, _, rfl, by rw [hτ]; exact zMP_2 (j := 1) (by unfold zx_draft; rw [if_neg (fun q => q hb6.symm), if_pos (by omega)]) rfl⟩
    · exact absurd c_9 (by decide)

def zbt (x : Int32) (k : Nat) : Bool := decide (¬ (x >>> (nI k &&& 31)) &&& 1 = 0)
def zrr (P : Nat → Prop) (n j : Nat) : Prop := (j = 0 ∧ ∀ k, k < n → ¬ P k) ∨ ∃ k, k < n ∧ j = k + 1 ∧ P k ∧ ∀ q, q < n → k < q → ¬ P q
theorem zrr_y {P : Nat → Prop} {n : Nat} (h : P n) : zrr P (n + 1) (n + 1) := Or.inr ⟨n, by omega, rfl, h, fun q h1 h2 => absurd h2 (by omega)⟩
theorem zrr_n {P : Nat → Prop} {n j : Nat} (h : ¬ P n) (hz : zrr P n j) : zrr P (n + 1) j := by
  rcases hz with ⟨h1, h2⟩ | ⟨k, h1, h2, h3, h4⟩
  · exact Or.inl ⟨h1, fun k hk => by rcases Nat.lt_or_ge k n with q | q; exact h2 k q; (have e : k = n := by omega); subst e; exact h⟩
  · exact Or.inr ⟨k, by omega, h2, h3, fun q q1 q2 => by rcases Nat.lt_or_ge q n with q3 | q3; exact h4 q q3 q2; (have e : q = n := by omega); subst e; exact h⟩
set_option maxHeartbeats 4000000 in
set_option maxRecDepth 100000 in
theorem tX9_rulesAt {l : Launch} {D : va_G} {cy : Nat → ClassId} {z0 : Nat} {g : zSh} {σ : zIn} {nu mi : Nat} {dy : Nat → Nat} (o : Nat) (hS : zS g) (hnu : σ 21 16 = nI nu) (hn12 : nu ≤ 12) (hmi : σ 21 47 = nI mi) (hmi2 : mi ≤ 1000000) (hdy : ∀ k, k < nu → σ 34 (k + 1) = nI (dy k) ∧ dy k ≤ 1000) (ho : o < 8) : z_Ct l D cy z0 MX9_rulesAt [.ref (g.2.1 21), .int (nI o)] g σ (fun v g' σ' => ∃ j, v = some (.int (nI j)) ∧ g' = g ∧ σ' = σ ∧ zrr (fun k => dy k ≤ mi / 1440 ∧ zbt (σ 27 o) (k + 1) = false) nu j) := by
  refine z_ofM (by decide) (z_cr (z_ci z_c0)) (Nat.le_of_ble_eq_true rfl) ?_
  intro p e s m args below meth c X
  have loop_4 : ∀ (n : Nat) (q j : Nat) (hq : q ≤ nu) (hj : zrr (fun k => dy k ≤ mi / 1440 ∧ zbt (σ 27 o) (k + 1) = false) q j) (hn : nu - q < n), z_V p l e (zRm MX9_rulesAt) s m args below meth c 4 D cy z0 0 0 (zQm MX9_rulesAt below D cy z0 (fun v g' σ' => ∃ j, v = some (.int (nI j)) ∧ g' = g ∧ σ' = σ ∧ zrr (fun k => dy k ≤ mi / 1440 ∧ zbt (σ 27 o) (k + 1) = false) nu j) args s) 4 [some (.ref (g.2.1 21)), some (.int (nI o)), some (.int (nI j)), some (.int (nI (q + 1)))] [] g σ := by
    intro n
    induction n with
    | zero => intro q j hq hj hn; exact absurd hn (Nat.not_lt_zero _)
    | succ n ih_4 =>
      intro q j hq hj hn
      refine z_iload_n X dX9_rulesAt_4 rfl ?_
      refine z_aload_n X dX9_rulesAt_5 rfl ?_
      refine z_geti X fX9_193 (zso_21 hS) rfl dX9_rulesAt_6 ?_
      rw [hnu]
      refine z_icmp_gt (tgt := 54) X dX9_rulesAt_9 (by decide) (fun c_9 => ?_) (fun c_9 => ?_)
      · skip
        try simp (disch := omega) only [zk0, nI_leI, nI_ltI, nI_eq, zbk_notn, zbk_not, zbk_n0, zbk_0, zb_0, zb_n0, zb_not, zb_notn, Bool.not_eq_false, Bool.not_eq_true, Bool.not_eq_true', Bool.not_eq_false', decide_eq_true_eq, decide_eq_false_iff_not, Classical.not_not] at c_9
        refine z_iload_n X dX9_rulesAt_54 rfl ?_
        refine z_iret X (by decide) (by decide) rfl dX9_rulesAt_55 ?_
        have e : nu = q := by omega
        subst e
        exact ⟨j, rfl, rfl, rfl, hj⟩
      · skip
        try simp (disch := omega) only [zk0, nI_leI, nI_ltI, nI_eq, zbk_notn, zbk_not, zbk_n0, zbk_0, zb_0, zb_n0, zb_not, zb_notn, Bool.not_eq_false, Bool.not_eq_true, Bool.not_eq_true', Bool.not_eq_false', decide_eq_true_eq, decide_eq_false_iff_not, Classical.not_not] at c_9
        refine z_aload_n X dX9_rulesAt_12 rfl ?_
        refine z_getr2 X fX9_47 (zso_21 hS) (zsr_21_17 hS) rfl dX9_rulesAt_13 ?_
        refine z_iload_n X dX9_rulesAt_16 rfl ?_
        refine z_ialdN X (zsa_34 hS) (by omega) (by omega) dX9_rulesAt_17 ?_
        obtain ⟨hd1, hd2⟩ := hdy q (by omega)
        rw [hd1]
        refine z_aload_n X dX9_rulesAt_18 rfl ?_
        refine z_geti X fX9_196 (zso_21 hS) rfl dX9_rulesAt_19 ?_
        rw [hmi]
        refine z_sipush (v := nI 1440) X (by decide) dX9_rulesAt_22 ?_
        refine z_idivN X (by omega) (by omega) (by omega) dX9_rulesAt_25 ?_
        refine z_icmp_gt (tgt := 46) X dX9_rulesAt_26 (by decide) (fun c_26 => ?_) (fun c_26 => ?_)
        · skip
          try simp (disch := omega) only [zk0, nI_leI, nI_ltI, nI_eq, zbk_notn, zbk_not, zbk_n0, zbk_0, zb_0, zb_n0, zb_not, zb_notn, Bool.not_eq_false, Bool.not_eq_true, Bool.not_eq_true', Bool.not_eq_false', decide_eq_true_eq, decide_eq_false_iff_not, Classical.not_not] at c_26
          have hN : ¬ (fun k => dy k ≤ mi / 1440 ∧ zbt (σ 27 o) (k + 1) = false) q := fun z => by first | (have z1 := z.1; omega) | exact absurd z.2 (by unfold zbt; rw [decide_eq_true c_39]; decide)
          refine z_iload_n X dX9_rulesAt_46 rfl ?_
          refine z_istore_n X dX9_rulesAt_47 (by decide) ?_
          refine z_inc1 X dX9_rulesAt_48 rfl (by decide) ?_
          refine z_goto (tgt := 4) X dX9_rulesAt_51 (by decide) ?_
          first | exact ih_4 (q + 1) (q + 1) (by omega) (zrr_y hP) (by omega) | exact ih_4 (q + 1) j (by omega) (zrr_n hN hj) (by omega)
        · skip
          try simp (disch := omega) only [zk0, nI_leI, nI_ltI, nI_eq, zbk_notn, zbk_not, zbk_n0, zbk_0, zb_0, zb_n0, zb_not, zb_notn, Bool.not_eq_false, Bool.not_eq_true, Bool.not_eq_true', Bool.not_eq_false', decide_eq_true_eq, decide_eq_false_iff_not, Classical.not_not] at c_26
          refine z_aload_n X dX9_rulesAt_29 rfl ?_
          refine z_getr2 X fX9_26 (zso_21 hS) (zsr_21_8 hS) rfl dX9_rulesAt_30 ?_
          refine z_iload_n X dX9_rulesAt_33 rfl ?_
          refine z_ialdN X (zsa_27 hS) (by omega) (by omega) dX9_rulesAt_34 ?_
          refine z_iload_n X dX9_rulesAt_35 rfl ?_
          refine z_ishr X dX9_rulesAt_36 ?_
          refine z_iconst (v := 1) X (by decide) dX9_rulesAt_37 ?_
          refine z_iand X dX9_rulesAt_38 ?_
          refine z_if_ne (tgt := 46) X dX9_rulesAt_39 (by decide) (fun c_39 => ?_) (fun c_39 => ?_)
          · skip
            have hN : ¬ (fun k => dy k ≤ mi / 1440 ∧ zbt (σ 27 o) (k + 1) = false) q := fun z => by first | (have z1 := z.1; omega) | exact absurd z.2 (by unfold zbt; rw [decide_eq_true c_39]; decide)
            refine z_iload_n X dX9_rulesAt_46 rfl ?_
            refine z_istore_n X dX9_rulesAt_47 (by decide) ?_
            refine z_inc1 X dX9_rulesAt_48 rfl (by decide) ?_
            refine z_goto (tgt := 4) X dX9_rulesAt_51 (by decide) ?_
            first | exact ih_4 (q + 1) (q + 1) (by omega) (zrr_y hP) (by omega) | exact ih_4 (q + 1) j (by omega) (zrr_n hN hj) (by omega)
          · skip
            have hP : (fun k => dy k ≤ mi / 1440 ∧ zbt (σ 27 o) (k + 1) = false) q := ⟨by omega, by unfold zbt; rw [decide_eq_false (fun z => z c_39)]⟩
            refine z_iload_n X dX9_rulesAt_42 rfl ?_
            refine z_goto (tgt := 47) X dX9_rulesAt_43 (by decide) ?_
            refine z_istore_n X dX9_rulesAt_47 (by decide) ?_
            refine z_inc1 X dX9_rulesAt_48 rfl (by decide) ?_
            refine z_goto (tgt := 4) X dX9_rulesAt_51 (by decide) ?_
            first | exact ih_4 (q + 1) (q + 1) (by omega) (zrr_y hP) (by omega) | exact ih_4 (q + 1) j (by omega) (zrr_n hN hj) (by omega)
  refine z_iconst (v := nI 0) X (by decide) dX9_rulesAt_0 ?_
  refine z_istore_n X dX9_rulesAt_1 (by decide) ?_
  refine z_iconst (v := nI 1) X (by decide) dX9_rulesAt_2 ?_
  refine z_istore_n X dX9_rulesAt_3 (by decide) ?_
  exact loop_4 (nu - 0 + 1) 0 0 (Nat.zero_le _) (Or.inl ⟨rfl, fun k hk => absurd hk (Nat.not_lt_zero _)⟩) (by omega)

set_option maxHeartbeats 4000000 in
set_option maxRecDepth 100000 in
theorem tX9_reserve {l : Launch} {D : va_G} {cy : Nat → ClassId} {z0 : Nat} {g : zSh} {σ : zIn} {no nu mi : Nat} {dy : Nat → Nat} (xq yq : Int32) (hS : zS g) (hno : σ 21 5 = nI no) (hn8 : no ≤ 8) (hnu : σ 21 16 = nI nu) (hn12 : nu ≤ 12) (hmi : σ 21 47 = nI mi) (hmi2 : mi ≤ 1000000) (hdy : ∀ k, k < nu → σ 34 (k + 1) = nI (dy k) ∧ dy k ≤ 1000) : z_Ct l D cy z0 MX9_reserve [.ref (g.2.1 21), .int xq, .int yq] g σ (fun v g' σ' => g' = g ∧ ∃ r, v = some (.int r) ∧ zMP (zx_reserve no nu xq yq) σ σ' (∃ o k j, o < no ∧ xq = nI o ∧ 1 ≤ k ∧ k ≤ nu ∧ yq = nI k ∧ r = nI j ∧ zrr (fun q => dy q ≤ mi / 1440 ∧ zbt (σ 27 o ||| (1 : Int32) <<< (nI k &&& 31)) (q + 1) = false) nu j ∧ σ' = z_up (z_up σ 21 48 0) 27 o (σ 27 o ||| (1 : Int32) <<< (nI k &&& 31)))) := by
  refine z_ofM (by decide) (z_cr (z_ci (z_ci z_c0))) (Nat.le_of_ble_eq_true rfl) ?_
  intro p e s m args below meth c X
  refine z_aload_n X dX9_reserve_0 rfl ?_
  refine z_aload_n X dX9_reserve_1 rfl ?_
  refine z_iload_n X dX9_reserve_2 rfl ?_
  refine z_runV X kX9_184 (tX9_isOffice _ hS hno (by omega)) (zso_21 hS) rfl rfl (Nat.le_of_ble_eq_true rfl) ⟨by decide, by decide⟩ ⟨by decide, by decide⟩ dX9_reserve_3 ?_
  rintro _ g1 s1 ⟨rfl, h8, h9⟩
  replace h8 := h8.symm
  subst h8
  replace h9 := h9.symm
  subst h9
  refine z_if_eq (tgt := 25) X dX9_reserve_6 (by decide) (fun c_6 => ?_) (fun c_6 => ?_)
  · skip
    try simp (disch := omega) only [zb_notn, zb_not, zb_n0, zb_0, Bool.not_eq_false, Bool.not_eq_true, Bool.not_eq_true', Bool.not_eq_false', decide_eq_true_eq, decide_eq_false_iff_not, Classical.not_not] at c_6
    refine z_iconst (v := nI 0) X (by decide) dX9_reserve_25 ?_
    refine z_runV X kX9_150 (tX9_asks false hS) (zso_21 hS) rfl rfl (Nat.le_of_ble_eq_true rfl) ⟨by decide, by decide⟩ ⟨by decide, by decide⟩ dX9_reserve_26 ?_
    rintro _ g1 s1 ⟨rfl, h8, h9⟩
    replace h8 := h8.symm
    subst h8
    replace h9 := h9.symm
    subst h9
    refine z_if_ne (tgt := 34) X dX9_reserve_29 (by decide) (fun c_29 => ?_) (fun c_29 => ?_)
    · first | exact absurd c_29 (by decide) | exact absurd (by decide) c_29
    · skip
      refine z_iconst (v := 0) X (by decide) dX9_reserve_32 ?_
      refine z_iret X (by decide) (by decide) rfl dX9_reserve_33 ?_
      exact ⟨rfl, _, rfl, zMP_1 (j := 0) (by unfold zx_reserve; rw [if_pos (by first | exact Or.inl c_6 | exact Or.inr c_18)]) rfl⟩
  · skip
    try simp (disch := omega) only [zb_notn, zb_not, zb_n0, zb_0, Bool.not_eq_false, Bool.not_eq_true, Bool.not_eq_true', Bool.not_eq_false', decide_eq_true_eq, decide_eq_false_iff_not, Classical.not_not] at c_6
    refine z_iload_n X dX9_reserve_9 rfl ?_
    refine z_iconst (v := 1) X (by decide) dX9_reserve_10 ?_
    refine z_aload_n X dX9_reserve_11 rfl ?_
    refine z_geti X fX9_193 (zso_21 hS) rfl dX9_reserve_12 ?_
    rw [hnu]
    refine z_runS X kX9_129 (tX9_inN _ _ _) rfl rfl (Nat.le_of_ble_eq_true rfl) ⟨by decide, by decide⟩ ⟨by decide, by decide⟩ dX9_reserve_15 ?_
    rintro _ g1 s1 ⟨rfl, h8, h9⟩
    replace h8 := h8.symm
    subst h8
    replace h9 := h9.symm
    subst h9
    refine z_if_eq (tgt := 25) X dX9_reserve_18 (by decide) (fun c_18 => ?_) (fun c_18 => ?_)
    · skip
      try simp (disch := omega) only [zb_notn, zb_not, zb_n0, zb_0, Bool.not_eq_false, Bool.not_eq_true, Bool.not_eq_true', Bool.not_eq_false', decide_eq_true_eq, decide_eq_false_iff_not, Classical.not_not] at c_18
      refine z_iconst (v := nI 0) X (by decide) dX9_reserve_25 ?_
      refine z_runV X kX9_150 (tX9_asks false hS) (zso_21 hS) rfl rfl (Nat.le_of_ble_eq_true rfl) ⟨by decide, by decide⟩ ⟨by decide, by decide⟩ dX9_reserve_26 ?_
      rintro _ g1 s1 ⟨rfl, h8, h9⟩
      replace h8 := h8.symm
      subst h8
      replace h9 := h9.symm
      subst h9
      refine z_if_ne (tgt := 34) X dX9_reserve_29 (by decide) (fun c_29 => ?_) (fun c_29 => ?_)
      · first | exact absurd c_29 (by decide) | exact absurd (by decide) c_29
      · skip
        refine z_iconst (v := 0) X (by decide) dX9_reserve_32 ?_
        refine z_iret X (by decide) (by decide) rfl dX9_reserve_33 ?_
        exact ⟨rfl, _, rfl, zMP_1 (j := 0) (by unfold zx_reserve; rw [if_pos (by first | exact Or.inl c_6 | exact Or.inr c_18)]) rfl⟩
    · skip
      try simp (disch := omega) only [zb_notn, zb_not, zb_n0, zb_0, Bool.not_eq_false, Bool.not_eq_true, Bool.not_eq_true', Bool.not_eq_false', decide_eq_true_eq, decide_eq_false_iff_not, Classical.not_not] at c_18
      refine z_iconst (v := nI 1) X (by decide) dX9_reserve_21 ?_
      refine z_goto (tgt := 26) X dX9_reserve_22 (by decide) ?_
      refine z_runV X kX9_150 (tX9_asks true hS) (zso_21 hS) rfl rfl (Nat.le_of_ble_eq_true rfl) ⟨by decide, by decide⟩ ⟨by decide, by decide⟩ dX9_reserve_26 ?_
      rintro _ g1 s1 ⟨rfl, h8, h9⟩
      replace h8 := h8.symm
      subst h8
      replace h9 := h9.symm
      subst h9
      refine z_if_ne (tgt := 34) X dX9_reserve_29 (by decide) (fun c_29 => ?_) (fun c_29 => ?_)
      · skip
        obtain ⟨o, ho, rfl⟩ := zin_t c_6 (by omega)
        obtain ⟨k, hk1, hk2, rfl⟩ := zrg_k (by omega) c_18
        obtain ⟨τ, hτ⟩ : ∃ q, q = z_up σ 21 48 0 := ⟨_, rfl⟩
        rw [show z_up σ 21 48 (if true = true then 0 else 1) = τ from hτ.symm]
        have eτ : ∀ i, i ≠ 21 → τ i = σ i := fun i h => by rw [hτ, z_up_ne h]
        have eτ1 : ∀ k, k ≠ 48 → τ 21 k = σ 21 k := fun k h => by rw [hτ, z_up_app, if_pos rfl, if_neg h]
        refine z_aload_n X dX9_reserve_34 rfl ?_
        refine z_getr2 X fX9_26 (zso_21 hS) (zsr_21_8 hS) rfl dX9_reserve_35 ?_
        refine z_iload_n X dX9_reserve_38 rfl ?_
        refine z_dup2 X rfl rfl dX9_reserve_39 ?_
        refine z_ialdN X (zsa_27 hS) (by omega) (by omega) dX9_reserve_40 ?_
        rw [eτ 27 (by decide)]
        refine z_iconst (v := 1) X (by decide) dX9_reserve_41 ?_
        refine z_iload_n X dX9_reserve_42 rfl ?_
        refine z_ishl X dX9_reserve_43 ?_
        refine z_ior X dX9_reserve_44 ?_
        refine z_iastN X (zsa_27 hS) (by omega) (by omega) dX9_reserve_45 ?_
        refine z_aload_n X dX9_reserve_46 rfl ?_
        refine z_iload_n X dX9_reserve_47 rfl ?_
        refine z_runV X kX9_199 (tX9_rulesAt o hS (by rw [z_up_ne (by decide), eτ1 16 (by decide)]; exact hnu) hn12 (by rw [z_up_ne (by decide), eτ1 47 (by decide)]; exact hmi) hmi2 (fun q hq => by rw [z_up_ne (by decide), eτ 34 (by decide)]; exact hdy q hq) (by omega)) (zso_21 hS) rfl rfl (Nat.le_of_ble_eq_true rfl) ⟨by decide, by decide⟩ ⟨by decide, by decide⟩ dX9_reserve_48 ?_
        rintro _ g1 s1 ⟨j, rfl, h8, h9, hj⟩
        replace h8 := h8.symm
        subst h8
        replace h9 := h9.symm
        subst h9
        rw [z_up_app, if_pos rfl, if_pos rfl] at hj
        refine z_iret X (by decide) (by decide) rfl dX9_reserve_51 ?_
        exact ⟨rfl, _, rfl, Or.inr ⟨by unfold zx_reserve; rw [if_neg (fun q => by rcases q with q | q; exact absurd q (by rw [c_6]; decide); exact c_18 q)], o, k, j, ho, rfl, hk1, hk2, rfl, rfl, hj, by rw [hτ]⟩⟩
      · first | exact absurd c_29 (by decide) | exact absurd (by decide) c_29
