/-! what is asked, with arguments that are allowed: nothing is made -/
theorem zne1 {a : Nat} (j : Nat) (h : a = j + 1) : ¬ a = 0 := by omega
abbrev KX8_candidates : zM := (yX8_candidates, cX8_candidates, 2, (some .int), 6, 0, 0, 140)
set_option maxHeartbeats 4000000 in
set_option maxRecDepth 100000 in
theorem nX8_candidates {l : Launch} {D : va_G} {cy : Nat → ClassId} {z0 : zRg} {g : zSh} {σ : zIn} {ne : Nat} (w : Int32) (hS : zS g) (he : σ 2 5 = nI ne) (he2 : ne ≤ 40) (hC : ∀ k, k < ne → zwd (σ 4 k)) (hz9 : zx_cands w = 0) : z_Ct l D cy z0 KX8_candidates [.ref (g.2.1 1), .int w] g σ (fun v g' σ' => zx_cands w = 0 ∧ g' = g ∧ zfo σ σ' ∧ v = some (.int (nI (zcnt (zP (σ 4) ne w) ne)))) := by
  refine z_ofM (by decide) (z_cr (z_ci z_c0)) (Nat.le_of_ble_eq_true rfl) ?_
  intro p e s m args below meth c X
  refine z_iload_n X dX8_candidates_0 rfl ?_
  refine z_iconst (v := 0) X (by decide) dX8_candidates_1 ?_
  refine z_ldc X qX8_100 dX8_candidates_2 ?_
  refine z_runS X kX8_68 (tX8_isOutside _ _ _) rfl rfl (Nat.le_of_ble_eq_true rfl) ⟨by decide, by decide⟩ ⟨by decide, by decide⟩ dX8_candidates_4 ?_
  rintro _ g1 s1 ⟨rfl, h8, h9⟩
  replace h8 := h8.symm
  subst h8
  replace h9 := h9.symm
  subst h9
  refine z_if_eq (tgt := 20) X dX8_candidates_7 (by decide) (fun c_7 => ?_) (fun c_7 => ?_)
  · skip
    try simp (disch := omega) only [zb_notn, zb_not, zb_n0, zb_0, Bool.not_eq_false, Bool.not_eq_true, Bool.not_eq_true', Bool.not_eq_false', decide_eq_true_eq, decide_eq_false_iff_not, Classical.not_not] at c_7
    refine z_aload_n X dX8_candidates_20 rfl ?_
    refine z_getr2 X fX8_10 (zso_1 hS) (zsr_1_0 hS) rfl dX8_candidates_21 ?_
    refine z_iload_n X dX8_candidates_24 rfl ?_
    obtain ⟨W, hW, rfl⟩ := zwd_of c_7
    refine z_runV X kX8_120 (tX0_search W hS he he2 hC hW) (zso_2 hS) rfl rfl (Nat.le_of_ble_eq_true rfl) ⟨by decide, by decide⟩ ⟨by decide, by decide⟩ dX8_candidates_25 ?_
    rintro _ g1 s3 ⟨rfl, h8, h3, h4⟩
    replace h8 := h8.symm
    subst h8
    refine z_aload_n X dX8_candidates_28 rfl ?_
    refine z_getr2 X fX8_10 (zso_1 hS) (zsr_1_0 hS) rfl dX8_candidates_29 ?_
    refine z_geti X fX8_124 (zso_2 hS) rfl dX8_candidates_32 ?_
    rw [h4.1]
    refine z_iret X (by decide) (by decide) rfl dX8_candidates_35 ?_
    exact ⟨by unfold zx_cands; rw [if_neg c_7], rfl, h3, rfl⟩
  · skip
    try simp (disch := omega) only [zb_notn, zb_not, zb_n0, zb_0, Bool.not_eq_false, Bool.not_eq_true, Bool.not_eq_true', Bool.not_eq_false', decide_eq_true_eq, decide_eq_false_iff_not, Classical.not_not] at c_7
    exact absurd hz9 (zne1 0 (by unfold zx_cands; simp_all))

abbrev KX8_candidate : zM := (yX8_candidate, cX8_candidate, 3, (some .int), 6, 0, 0, 140)
set_option maxHeartbeats 4000000 in
set_option maxRecDepth 100000 in
theorem nX8_candidate {l : Launch} {D : va_G} {cy : Nat → ClassId} {z0 : zRg} {g : zSh} {σ : zIn} {ne : Nat} (w x : Int32) (hS : zS g) (he : σ 2 5 = nI ne) (he2 : ne ≤ 40) (hC : ∀ k, k < ne → zwd (σ 4 k)) (hz9 : zx_cand w x = 0) : z_Ct l D cy z0 KX8_candidate [.ref (g.2.1 1), .int w, .int x] g σ (fun v g' σ' => zx_cand w x = 0 ∧ g' = g ∧ zfo σ σ' ∧ ∃ r, v = some (.int r) ∧ (zin x (zcnt (zP (σ 4) ne w) ne) = false ∧ r = -1 ∨ ∃ k, k < ne ∧ zP (σ 4) ne w k ∧ x = nI (zcnt (zP (σ 4) ne w) k) ∧ r = nI k)) := by
  refine z_ofM (by decide) (z_cr (z_ci (z_ci z_c0))) (Nat.le_of_ble_eq_true rfl) ?_
  intro p e s m args below meth c X
  refine z_iload_n X dX8_candidate_0 rfl ?_
  refine z_if_ge (tgt := 14) X dX8_candidate_1 (by decide) (fun c_1 => ?_) (fun c_1 => ?_)
  · skip
    try simp (disch := omega) only [zb_notn, zb_not, zb_n0, zb_0, Bool.not_eq_false, Bool.not_eq_true, Bool.not_eq_true', Bool.not_eq_false', decide_eq_true_eq, decide_eq_false_iff_not, Classical.not_not] at c_1
    refine z_iload_n X dX8_candidate_14 rfl ?_
    refine z_iconst (v := 0) X (by decide) dX8_candidate_15 ?_
    refine z_ldc X qX8_100 dX8_candidate_16 ?_
    refine z_runS X kX8_68 (tX8_isOutside _ _ _) rfl rfl (Nat.le_of_ble_eq_true rfl) ⟨by decide, by decide⟩ ⟨by decide, by decide⟩ dX8_candidate_18 ?_
    rintro _ g1 s1 ⟨rfl, h8, h9⟩
    replace h8 := h8.symm
    subst h8
    replace h9 := h9.symm
    subst h9
    refine z_if_eq (tgt := 34) X dX8_candidate_21 (by decide) (fun c_21 => ?_) (fun c_21 => ?_)
    · skip
      try simp (disch := omega) only [zb_notn, zb_not, zb_n0, zb_0, Bool.not_eq_false, Bool.not_eq_true, Bool.not_eq_true', Bool.not_eq_false', decide_eq_true_eq, decide_eq_false_iff_not, Classical.not_not] at c_21
      refine z_aload_n X dX8_candidate_34 rfl ?_
      refine z_getr2 X fX8_10 (zso_1 hS) (zsr_1_0 hS) rfl dX8_candidate_35 ?_
      refine z_iload_n X dX8_candidate_38 rfl ?_
      obtain ⟨W, hW, rfl⟩ := zwd_of c_21
      refine z_runV X kX8_120 (tX0_search W hS he he2 hC hW) (zso_2 hS) rfl rfl (Nat.le_of_ble_eq_true rfl) ⟨by decide, by decide⟩ ⟨by decide, by decide⟩ dX8_candidate_39 ?_
      rintro _ g1 s3 ⟨rfl, h8, h3, h4⟩
      replace h8 := h8.symm
      subst h8
      refine z_aload_n X dX8_candidate_42 rfl ?_
      refine z_getr2 X fX8_10 (zso_1 hS) (zsr_1_0 hS) rfl dX8_candidate_43 ?_
      refine z_iload_n X dX8_candidate_46 rfl ?_
      refine z_runV X kX8_129 (tX0_findAt x hS h4.1 (zcnt_le40 he2)) (zso_2 hS) rfl rfl (Nat.le_of_ble_eq_true rfl) ⟨by decide, by decide⟩ ⟨by decide, by decide⟩ dX8_candidate_47 ?_
      rintro _ g1 s1 ⟨rfl, h8, h9⟩
      replace h8 := h8.symm
      subst h8
      replace h9 := h9.symm
      subst h9
      refine z_iret X (by decide) (by decide) rfl dX8_candidate_50 ?_
      refine ⟨by unfold zx_cand; rw [if_neg (by simp_all), if_neg c_21], rfl, h3, _, rfl, ?_⟩
      cases hz : zin x (zcnt (zP (σ 4) ne (nI W)) ne)
      · exact Or.inl ⟨rfl, by simp⟩
      · obtain ⟨j, hj, rfl⟩ := zin_t hz (Nat.lt_of_le_of_lt (zcnt_le40 he2) (by decide))
        obtain ⟨k, hk, hp, hkk⟩ := zcnt_sur hj
        refine Or.inr ⟨k, hk, hp, by rw [hkk], ?_⟩
        rw [if_pos rfl, nI_clamp (Nat.lt_trans (Nat.lt_of_lt_of_le hj (zcnt_le40 he2)) (by decide)), ← hkk, h4.2 k hk hp]
    · skip
      try simp (disch := omega) only [zb_notn, zb_not, zb_n0, zb_0, Bool.not_eq_false, Bool.not_eq_true, Bool.not_eq_true', Bool.not_eq_false', decide_eq_true_eq, decide_eq_false_iff_not, Classical.not_not] at c_21
      exact absurd hz9 (zne1 1 (by unfold zx_cand; simp_all))
  · skip
    try simp (disch := omega) only [zb_notn, zb_not, zb_n0, zb_0, Bool.not_eq_false, Bool.not_eq_true, Bool.not_eq_true', Bool.not_eq_false', decide_eq_true_eq, decide_eq_false_iff_not, Classical.not_not] at c_1
    exact absurd hz9 (zne1 0 (by unfold zx_cand; simp_all))

abbrev KX8_account : zM := (yX8_account, cX8_account, 3, (some .int), 6, 0, 0, 140)
set_option maxHeartbeats 4000000 in
set_option maxRecDepth 100000 in
theorem nX8_account {l : Launch} {D : va_G} {cy : Nat → ClassId} {z0 : zRg} {g : zSh} {σ : zIn} {no : Nat} (x : Int32) (hS : zS g) (hO : zO g no) (hno : σ 13 4 = nI no) (hz9 : zx_in no x = 0) : z_Ct l D cy z0 KX8_account [.ref (g.2.1 1), .int x] g σ (fun v g' σ' => zx_in no x = 0 ∧ g' = g ∧ σ' = σ ∧ ∃ o, o < no ∧ x = nI o ∧ v = some (.int (σ (100 + o) 3))) := by
  have hn8 := hO.1
  refine z_ofM (by decide) (z_cr (z_ci z_c0)) (Nat.le_of_ble_eq_true rfl) ?_
  intro p e s m args below meth c X
  refine z_aload_n X dX8_account_0 rfl ?_
  refine z_getr2 X fX8_35 (zso_1 hS) (zsr_1_3 hS) rfl dX8_account_1 ?_
  refine z_iload_n X dX8_account_4 rfl ?_
  cases hz : zin x no
  · skip
    skip
    refine z_runV X kX8_138 (tX4_officeAtN x hS hO hno hz) (zso_13 hS) rfl rfl (Nat.le_of_ble_eq_true rfl) ⟨by decide, by decide⟩ ⟨by decide, by decide⟩ dX8_account_5 ?_
    rintro _ g1 s1 ⟨rfl, h8, h9⟩
    replace h8 := h8.symm
    subst h8
    replace h9 := h9.symm
    subst h9
    refine z_astore_nN X dX8_account_8 (by decide) ?_
    refine z_aload_nN X dX8_account_9 rfl ?_
    refine z_ifnonnullN X dX8_account_10 ?_
    exact absurd hz9 (zne1 0 (by unfold zx_in; simp_all))
  · skip
    obtain ⟨o, ho9, rfl⟩ := zin_t hz (by have := hO.1; omega)
    have hF := hO.2.1 o ho9
    refine z_runV X kX8_138 (tX4_officeAt o hS hO hno ho9) (zso_13 hS) rfl rfl (Nat.le_of_ble_eq_true rfl) ⟨by decide, by decide⟩ ⟨by decide, by decide⟩ dX8_account_5 ?_
    rintro _ g1 s1 ⟨rfl, h8, h9⟩
    replace h8 := h8.symm
    subst h8
    replace h9 := h9.symm
    subst h9
    refine z_astore_n X dX8_account_8 (by decide) ?_
    refine z_aload_n X dX8_account_9 rfl ?_
    refine z_ifnonnull (tgt := 23) X dX8_account_10 (by decide) ?_
    refine z_aload_n X dX8_account_23 rfl ?_
    refine z_geti X fX8_319 (hF.1) rfl dX8_account_24 ?_
    refine z_iret X (by decide) (by decide) rfl dX8_account_27 ?_
    exact ⟨by unfold zx_in; rw [if_pos hz], rfl, rfl, o, ho9, rfl, rfl⟩

abbrev KX8_ofMessage : zM := (yX8_ofMessage, cX8_ofMessage, 4, (some .int), 6, 0, 0, 140)
set_option maxHeartbeats 4000000 in
set_option maxRecDepth 100000 in
theorem nX8_ofMessage {l : Launch} {D : va_G} {cy : Nat → ClassId} {z0 : zRg} {g : zSh} {σ : zIn} {nm : Nat} (x y : Int32) (hS : zS g) (hG : zG g nm) (hnm : σ 1 8 = nI nm) (hLg : zLg g σ nm) (hL : ∀ m, m < nm → g.2.2.2.1 (300 + m) ≤ 24) (hz9 : zx_of nm x y = 0) : z_Ct l D cy z0 KX8_ofMessage [.ref (g.2.1 1), .int x, .int y] g σ (fun v g' σ' => zx_of nm x y = 0 ∧ g' = g ∧ σ' = σ ∧ ∃ m9 j, m9 < nm ∧ x = nI m9 ∧ j < 6 ∧ y = nI j ∧ v = some (.int (zof g σ m9 j))) := by
  have hn60 := hG.1
  refine z_ofM (by decide) (z_cr (z_ci (z_ci z_c0))) (Nat.le_of_ble_eq_true rfl) ?_
  intro p e s m args below meth c X
  refine z_aload_n X dX8_ofMessage_0 rfl ?_
  refine z_iload_n X dX8_ofMessage_1 rfl ?_
  cases hz : zin x nm
  · skip
    skip
    refine z_runV X kX8_227 (tX8_messageAtN x hS hG hnm hz) (zso_1 hS) rfl rfl (Nat.le_of_ble_eq_true rfl) ⟨by decide, by decide⟩ ⟨by decide, by decide⟩ dX8_ofMessage_2 ?_
    rintro _ g1 s1 ⟨rfl, h8, h9⟩
    replace h8 := h8.symm
    subst h8
    replace h9 := h9.symm
    subst h9
    refine z_astore_nN X dX8_ofMessage_5 (by decide) ?_
    refine z_aload_nN X dX8_ofMessage_6 rfl ?_
    refine z_ifnonnullN X dX8_ofMessage_7 ?_
    exact absurd hz9 (zne1 0 (by unfold zx_of; simp_all))
  · skip
    obtain ⟨m9, hm99, rfl⟩ := zin_t hz (by have := hG.1; omega)
    have hM := hG.2.1 m9 hm99
    refine z_runV X kX8_227 (tX8_messageAt m9 hS hG hnm hm99) (zso_1 hS) rfl rfl (Nat.le_of_ble_eq_true rfl) ⟨by decide, by decide⟩ ⟨by decide, by decide⟩ dX8_ofMessage_2 ?_
    rintro _ g1 s1 ⟨rfl, h8, h9⟩
    replace h8 := h8.symm
    subst h8
    replace h9 := h9.symm
    subst h9
    refine z_astore_n X dX8_ofMessage_5 (by decide) ?_
    refine z_aload_n X dX8_ofMessage_6 rfl ?_
    refine z_ifnonnull (tgt := 21) X dX8_ofMessage_7 (by decide) ?_
    refine z_iload_n X dX8_ofMessage_21 rfl ?_
    rcases zsw 6 y with ⟨j22, hj22, e22⟩ | hj22
    · have hq22 : j22 = 0 ∨ j22 = 1 ∨ j22 = 2 ∨ j22 = 3 ∨ j22 = 4 ∨ j22 = 5 := by omega
      rcases hq22 with rfl | rfl | rfl | rfl | rfl | rfl
      · skip
        subst e22
        refine z_tabIn X (off := 38) (tgt := 60) dX8_ofMessage_22 (by decide) (by decide) (by decide) (by decide) ?_
        refine z_aload_n X dX8_ofMessage_60 rfl ?_
        refine z_geti X fX8_238 (hM.1) rfl dX8_ofMessage_61 ?_
        refine z_iret X (by decide) (by decide) rfl dX8_ofMessage_64 ?_
        exact ⟨by unfold zx_of; rw [if_neg (by simp_all), if_neg (by decide)], rfl, rfl, m9, 0, hm99, rfl, by decide, rfl, rfl⟩
      · skip
        subst e22
        refine z_tabIn X (off := 43) (tgt := 65) dX8_ofMessage_22 (by decide) (by decide) (by decide) (by decide) ?_
        refine z_aload_n X dX8_ofMessage_65 rfl ?_
        refine z_getr2 X fX8_273 (hM.1) (hM.2.2.1) rfl dX8_ofMessage_66 ?_
        refine z_alen X (t := 0) (by decide) (hM.2.2.2.2.2.1) dX8_ofMessage_69 ?_
        refine z_iret X (by decide) (by decide) rfl dX8_ofMessage_70 ?_
        exact ⟨by unfold zx_of; rw [if_neg (by simp_all), if_neg (by decide)], rfl, rfl, m9, 1, hm99, rfl, by decide, rfl, rfl⟩
      · skip
        subst e22
        refine z_tabIn X (off := 49) (tgt := 71) dX8_ofMessage_22 (by decide) (by decide) (by decide) (by decide) ?_
        refine z_aload_n X dX8_ofMessage_71 rfl ?_
        refine z_geti X fX8_277 (hM.1) rfl dX8_ofMessage_72 ?_
        refine z_iret X (by decide) (by decide) rfl dX8_ofMessage_75 ?_
        exact ⟨by unfold zx_of; rw [if_neg (by simp_all), if_neg (by decide)], rfl, rfl, m9, 2, hm99, rfl, by decide, rfl, rfl⟩
      · skip
        subst e22
        refine z_tabIn X (off := 54) (tgt := 76) dX8_ofMessage_22 (by decide) (by decide) (by decide) (by decide) ?_
        refine z_aload_n X dX8_ofMessage_76 rfl ?_
        refine z_geti X fX8_278 (hM.1) rfl dX8_ofMessage_77 ?_
        refine z_iret X (by decide) (by decide) rfl dX8_ofMessage_80 ?_
        exact ⟨by unfold zx_of; rw [if_neg (by simp_all), if_neg (by decide)], rfl, rfl, m9, 3, hm99, rfl, by decide, rfl, rfl⟩
      · skip
        subst e22
        refine z_tabIn X (off := 59) (tgt := 81) dX8_ofMessage_22 (by decide) (by decide) (by decide) (by decide) ?_
        refine z_aload_n X dX8_ofMessage_81 rfl ?_
        refine z_runV X kX8_281 (tX3_cableNow hG hm99 (hLg m9 hm99).1 (hLg m9 hm99).2) (hM.1) rfl rfl (Nat.le_of_ble_eq_true rfl) ⟨by decide, by decide⟩ ⟨by decide, by decide⟩ dX8_ofMessage_82 ?_
        rintro _ g1 s1 ⟨rfl, h8, h9⟩
        replace h8 := h8.symm
        subst h8
        replace h9 := h9.symm
        subst h9
        refine z_iret X (by decide) (by decide) rfl dX8_ofMessage_85 ?_
        exact ⟨by unfold zx_of; rw [if_neg (by simp_all), if_neg (by decide)], rfl, rfl, m9, 4, hm99, rfl, by decide, rfl, rfl⟩
      · skip
        subst e22
        refine z_tabIn X (off := 64) (tgt := 86) dX8_ofMessage_22 (by decide) (by decide) (by decide) (by decide) ?_
        refine z_aload_n X dX8_ofMessage_86 rfl ?_
        refine z_geti X fX8_238 (hM.1) rfl dX8_ofMessage_87 ?_
        refine z_iconst (v := 2) X (by decide) dX8_ofMessage_90 ?_
        refine z_icmp_ne (tgt := 101) X dX8_ofMessage_91 (by decide) (fun c_91 => ?_) (fun c_91 => ?_)
        · skip
          try simp (disch := omega) only [zb_notn, zb_not, zb_n0, zb_0, Bool.not_eq_false, Bool.not_eq_true, Bool.not_eq_true', Bool.not_eq_false', decide_eq_true_eq, decide_eq_false_iff_not, Classical.not_not] at c_91
          refine z_iconst (v := -1) X (by decide) dX8_ofMessage_101 ?_
          refine z_iret X (by decide) (by decide) rfl dX8_ofMessage_102 ?_
          exact ⟨by unfold zx_of; rw [if_neg (by simp_all), if_neg (by decide)], rfl, rfl, m9, 5, hm99, rfl, by decide, rfl, by show _ = some (Value.int (if σ (200 + m9) 9 = 2 then _ else _)); first | rw [if_pos c_91] | rw [if_neg c_91]⟩
        · skip
          try simp (disch := omega) only [zb_notn, zb_not, zb_n0, zb_0, Bool.not_eq_false, Bool.not_eq_true, Bool.not_eq_true', Bool.not_eq_false', decide_eq_true_eq, decide_eq_false_iff_not, Classical.not_not] at c_91
          refine z_aload_n X dX8_ofMessage_94 rfl ?_
          refine z_geti X fX8_284 (hM.1) rfl dX8_ofMessage_95 ?_
          refine z_goto (tgt := 102) X dX8_ofMessage_98 (by decide) ?_
          refine z_iret X (by decide) (by decide) rfl dX8_ofMessage_102 ?_
          exact ⟨by unfold zx_of; rw [if_neg (by simp_all), if_neg (by decide)], rfl, rfl, m9, 5, hm99, rfl, by decide, rfl, by show _ = some (Value.int (if σ (200 + m9) 9 = 2 then _ else _)); first | rw [if_pos c_91] | rw [if_neg c_91]⟩
    · skip
      refine z_tabOut X (tgt := 103) dX8_ofMessage_22 hj22 (by decide) ?_
      exact absurd hz9 (zne1 1 (by unfold zx_of; simp_all))

abbrev KX8_word : zM := (yX8_word, cX8_word, 5, (some .int), 6, 0, 0, 140)
set_option maxHeartbeats 4000000 in
set_option maxRecDepth 100000 in
theorem nX8_word {l : Launch} {D : va_G} {cy : Nat → ClassId} {z0 : zRg} {g : zSh} {σ : zIn} {nm : Nat} (b : Bool) (x y : Int32) (hS : zS g) (hG : zG g nm) (hnm : σ 1 8 = nI nm) (hL : ∀ m, m < nm → g.2.2.2.1 (300 + m) ≤ 24) (hz9 : zx_word g nm x y = 0) : z_Ct l D cy z0 KX8_word [.ref (g.2.1 1), .int x, .int y, .int (zb b)] g σ (fun v g' σ' => zx_word g nm x y = 0 ∧ g' = g ∧ σ' = σ ∧ ∃ m9 k, m9 < nm ∧ x = nI m9 ∧ k < g.2.2.2.1 (300 + m9) ∧ y = nI k ∧ v = some (.int (if b then σ (300 + m9) k else σ (400 + m9) k))) := by
  have hn60 := hG.1
  refine z_ofM (by decide) (z_cr (z_ci (z_ci (z_ci z_c0)))) (Nat.le_of_ble_eq_true rfl) ?_
  intro p e s m args below meth c X
  refine z_aload_n X dX8_word_0 rfl ?_
  refine z_iload_n X dX8_word_1 rfl ?_
  cases hz : zin x nm
  · skip
    skip
    refine z_runV X kX8_227 (tX8_messageAtN x hS hG hnm hz) (zso_1 hS) rfl rfl (Nat.le_of_ble_eq_true rfl) ⟨by decide, by decide⟩ ⟨by decide, by decide⟩ dX8_word_2 ?_
    rintro _ g1 s1 ⟨rfl, h8, h9⟩
    replace h8 := h8.symm
    subst h8
    replace h9 := h9.symm
    subst h9
    refine z_astoreN X dX8_word_5 (by decide) ?_
    refine z_aloadN X dX8_word_7 rfl ?_
    refine z_ifnullN (tgt := 21) X dX8_word_9 (by decide) ?_
    exact absurd hz9 (zne1 0 (by unfold zx_word; first | (rw [if_neg (by rw [hz]; exact fun q => absurd q.1 (by decide))]) | (rw [if_neg (fun q => by rw [zn_nI (by omega)] at q; rw [c_18] at q; exact absurd q.2 (by decide))])))
  · skip
    obtain ⟨m9, hm99, rfl⟩ := zin_t hz (by have := hG.1; omega)
    have hM := hG.2.1 m9 hm99
    refine z_runV X kX8_227 (tX8_messageAt m9 hS hG hnm hm99) (zso_1 hS) rfl rfl (Nat.le_of_ble_eq_true rfl) ⟨by decide, by decide⟩ ⟨by decide, by decide⟩ dX8_word_2 ?_
    rintro _ g1 s1 ⟨rfl, h8, h9⟩
    replace h8 := h8.symm
    subst h8
    replace h9 := h9.symm
    subst h9
    refine z_astore X dX8_word_5 (by decide) ?_
    refine z_aload X dX8_word_7 rfl ?_
    refine z_ifnull X dX8_word_9 ?_
    refine z_aload X dX8_word_12 rfl ?_
    refine z_iload_n X dX8_word_14 rfl ?_
    refine z_runV X kX8_231 (tX3_hasWord _ hG hm99 (hL m9 hm99)) (hM.1) rfl rfl (Nat.le_of_ble_eq_true rfl) ⟨by decide, by decide⟩ ⟨by decide, by decide⟩ dX8_word_15 ?_
    rintro _ g1 s1 ⟨rfl, h8, h9⟩
    replace h8 := h8.symm
    subst h8
    replace h9 := h9.symm
    subst h9
    refine z_if_ne (tgt := 31) X dX8_word_18 (by decide) (fun c_18 => ?_) (fun c_18 => ?_)
    · skip
      try simp (disch := omega) only [zb_notn, zb_not, zb_n0, zb_0, Bool.not_eq_false, Bool.not_eq_true, Bool.not_eq_true', Bool.not_eq_false', decide_eq_true_eq, decide_eq_false_iff_not, Classical.not_not] at c_18
      have hL24 := hL m9 hm99
      obtain ⟨k, hk, rfl⟩ := zin_t c_18 (by omega)
      refine z_iload_n X dX8_word_31 rfl ?_
      refine z_if_eq (tgt := 44) X dX8_word_32 (by decide) (fun c_32 => ?_) (fun c_32 => ?_)
      · skip
        try simp (disch := omega) only [zb_notn, zb_not, zb_n0, zb_0, Bool.not_eq_false, Bool.not_eq_true, Bool.not_eq_true', Bool.not_eq_false', decide_eq_true_eq, decide_eq_false_iff_not, Classical.not_not] at c_32
        refine z_aload X dX8_word_44 rfl ?_
        refine z_iload_n X dX8_word_46 rfl ?_
        refine z_runV X kX8_241 (tX3_wordNow k hG hm99 (hL m9 hm99) hk) (hM.1) rfl rfl (Nat.le_of_ble_eq_true rfl) ⟨by decide, by decide⟩ ⟨by decide, by decide⟩ dX8_word_47 ?_
        rintro _ g1 s1 ⟨rfl, h8, h9⟩
        replace h8 := h8.symm
        subst h8
        replace h9 := h9.symm
        subst h9
        refine z_iret X (by decide) (by decide) rfl dX8_word_50 ?_
        exact ⟨by unfold zx_word; rw [if_pos ⟨hz, by rw [zn_nI (by omega)]; exact c_18⟩], rfl, rfl, m9, k, hm99, rfl, hk, rfl, by rw [c_32]; rfl⟩
      · skip
        try simp (disch := omega) only [zb_notn, zb_not, zb_n0, zb_0, Bool.not_eq_false, Bool.not_eq_true, Bool.not_eq_true', Bool.not_eq_false', decide_eq_true_eq, decide_eq_false_iff_not, Classical.not_not] at c_32
        refine z_aload X dX8_word_35 rfl ?_
        refine z_iload_n X dX8_word_37 rfl ?_
        refine z_runV X kX8_289 (tX3_wordSent k hG hm99 (hL m9 hm99) hk) (hM.1) rfl rfl (Nat.le_of_ble_eq_true rfl) ⟨by decide, by decide⟩ ⟨by decide, by decide⟩ dX8_word_38 ?_
        rintro _ g1 s1 ⟨rfl, h8, h9⟩
        replace h8 := h8.symm
        subst h8
        replace h9 := h9.symm
        subst h9
        refine z_goto (tgt := 50) X dX8_word_41 (by decide) ?_
        refine z_iret X (by decide) (by decide) rfl dX8_word_50 ?_
        exact ⟨by unfold zx_word; rw [if_pos ⟨hz, by rw [zn_nI (by omega)]; exact c_18⟩], rfl, rfl, m9, k, hm99, rfl, hk, rfl, by rw [c_32]; rfl⟩
    · skip
      try simp (disch := omega) only [zb_notn, zb_not, zb_n0, zb_0, Bool.not_eq_false, Bool.not_eq_true, Bool.not_eq_true', Bool.not_eq_false', decide_eq_true_eq, decide_eq_false_iff_not, Classical.not_not] at c_18
      exact absurd hz9 (zne1 0 (by unfold zx_word; first | (rw [if_neg (by rw [hz]; exact fun q => absurd q.1 (by decide))]) | (rw [if_neg (fun q => by rw [zn_nI (by omega)] at q; rw [c_18] at q; exact absurd q.2 (by decide))])))

abbrev KX8_accountAnew : zM := (yX8_accountAnew, cX8_accountAnew, 5, (some .int), 6, 0, 0, 140)
set_option maxHeartbeats 4000000 in
set_option maxRecDepth 100000 in
theorem nX8_accountAnew {l : Launch} {D : va_G} {cy : Nat → ClassId} {z0 : zRg} {g : zSh} {σ : zIn} {no nm nc : Nat} {ro : Nat → Nat → Nat} {ad fr : Nat → Nat} (xq : Int32) (hS : zS g) (hO : zO g no) (hno : σ 13 4 = nI no) (hG : zG g nm) (hnm : σ 1 8 = nI nm) (hK : zC g nc) (hnc : σ 13 5 = nI nc) (hro : ∀ m, m < nm → ∀ i, i < g.2.2.2.1 (500 + m) → σ (500 + m) i = nI (ro m i) ∧ ro m i < nc) (had : ∀ c, c < nc → σ (120 + c) 0 = nI (ad c) ∧ ad c < no) (hrl : ∀ m, m < nm → g.2.2.2.1 (500 + m) ≤ 8) (hfr : ∀ m, m < nm → σ (200 + m) 0 = nI (fr m) ∧ fr m < no) (hz9 : zx_in no xq = 0) : z_Ct l D cy z0 KX8_accountAnew [.ref (g.2.1 1), .int xq] g σ (fun v g' σ' => zx_in no xq = 0 ∧ g' = g ∧ σ' = σ ∧ ∃ o2, o2 < no ∧ xq = nI o2 ∧ v = some (.int (zis (fun m => zshr σ ad (ro m) m (fr m) o2 (g.2.2.2.1 (500 + m))) nm))) := by
  have hn8 := hO.1
  have hn60 := hG.1
  refine z_ofM (by decide) (z_cr (z_ci z_c0)) (Nat.le_of_ble_eq_true rfl) ?_
  intro p e s m args below meth c X
  refine z_aload_n X dX8_accountAnew_0 rfl ?_
  refine z_getr2 X fX8_35 (zso_1 hS) (zsr_1_3 hS) rfl dX8_accountAnew_1 ?_
  refine z_iload_n X dX8_accountAnew_4 rfl ?_
  cases hz : zin xq no
  · skip
    skip
    refine z_runV X kX8_138 (tX4_officeAtN xq hS hO hno hz) (zso_13 hS) rfl rfl (Nat.le_of_ble_eq_true rfl) ⟨by decide, by decide⟩ ⟨by decide, by decide⟩ dX8_accountAnew_5 ?_
    rintro _ g1 s1 ⟨rfl, h8, h9⟩
    replace h8 := h8.symm
    subst h8
    replace h9 := h9.symm
    subst h9
    refine z_ifnonnullN X dX8_accountAnew_8 ?_
    exact absurd hz9 (zne1 0 (by unfold zx_in; simp_all))
  · skip
    obtain ⟨o, ho9, rfl⟩ := zin_t hz (by have := hO.1; omega)
    have hF := hO.2.1 o ho9
    refine z_runV X kX8_138 (tX4_officeAt o hS hO hno ho9) (zso_13 hS) rfl rfl (Nat.le_of_ble_eq_true rfl) ⟨by decide, by decide⟩ ⟨by decide, by decide⟩ dX8_accountAnew_5 ?_
    rintro _ g1 s1 ⟨rfl, h8, h9⟩
    replace h8 := h8.symm
    subst h8
    replace h9 := h9.symm
    subst h9
    refine z_ifnonnull (tgt := 21) X dX8_accountAnew_8 (by decide) ?_
    refine z_iconst (v := nI 0) X (by decide) dX8_accountAnew_21 ?_
    refine z_istore_n X dX8_accountAnew_22 (by decide) ?_
    have loop_25 : ∀ (n : Nat) (k : Nat) (v1 : Option Value) (hk : k ≤ nm) (hn : nm - k < n), z_V p l e (zRm KX8_accountAnew) s m args below meth c 5 D cy z0 0 0 (zQm KX8_accountAnew below D cy z0 (fun v g' σ' => zx_in no (nI o) = 0 ∧ g' = g ∧ σ' = σ ∧ ∃ o2, o2 < no ∧ (nI o) = nI o2 ∧ v = some (.int (zis (fun m => zshr σ ad (ro m) m (fr m) o2 (g.2.2.2.1 (500 + m))) nm))) args s) 25 [some (.ref (g.2.1 1)), some (.int (nI o)), some (.int (zis (fun m => zshr σ ad (ro m) m (fr m) o (g.2.2.2.1 (500 + m))) k)), some (.int (nI k)), v1] [] g σ := by
      intro n
      induction n with
      | zero => intro k v1 hk hn; exact absurd hn (Nat.not_lt_zero _)
      | succ n ih_25 =>
        intro k v1 hk hn
        refine z_iload_n X dX8_accountAnew_25 rfl ?_
        refine z_aload_n X dX8_accountAnew_26 rfl ?_
        refine z_geti X fX8_62 (zso_1 hS) rfl dX8_accountAnew_27 ?_
        rw [hnm]
        refine z_icmp_ge (tgt := 61) X dX8_accountAnew_30 (by decide) (fun c_30 => ?_) (fun c_30 => ?_)
        · skip
          try simp (disch := omega) only [zk0, nI_leI, nI_ltI, nI_eq, zbk_notn, zbk_not, zbk_n0, zbk_0, zb_0, zb_n0, zb_not, zb_notn, Bool.not_eq_false, Bool.not_eq_true, Bool.not_eq_true', Bool.not_eq_false', decide_eq_true_eq, decide_eq_false_iff_not, Classical.not_not] at c_30
          refine z_iload_n X dX8_accountAnew_61 rfl ?_
          refine z_iret X (by decide) (by decide) rfl dX8_accountAnew_62 ?_
          have e : k = nm := by omega
          subst e
          exact ⟨by unfold zx_in; rw [if_pos hz], rfl, rfl, o, ho9, rfl, rfl⟩
        · skip
          try simp (disch := omega) only [zk0, nI_leI, nI_ltI, nI_eq, zbk_notn, zbk_not, zbk_n0, zbk_0, zb_0, zb_n0, zb_not, zb_notn, Bool.not_eq_false, Bool.not_eq_true, Bool.not_eq_true', Bool.not_eq_false', decide_eq_true_eq, decide_eq_false_iff_not, Classical.not_not] at c_30
          refine z_aload_n X dX8_accountAnew_33 rfl ?_
          refine z_iload_n X dX8_accountAnew_34 rfl ?_
          refine z_runV X kX8_227 (tX8_messageAt k hS hG hnm (by omega)) (zso_1 hS) rfl rfl (Nat.le_of_ble_eq_true rfl) ⟨by decide, by decide⟩ ⟨by decide, by decide⟩ dX8_accountAnew_35 ?_
          rintro _ g1 s1 ⟨rfl, h8, h9⟩
          replace h8 := h8.symm
          subst h8
          replace h9 := h9.symm
          subst h9
          have hM := hG.2.1 k (by omega)
          refine z_astore X dX8_accountAnew_38 (by decide) ?_
          refine z_aload X dX8_accountAnew_40 rfl ?_
          refine z_ifnull X dX8_accountAnew_42 ?_
          refine z_iload_n X dX8_accountAnew_45 rfl ?_
          refine z_aload_n X dX8_accountAnew_46 rfl ?_
          refine z_aload X dX8_accountAnew_47 rfl ?_
          refine z_iload_n X dX8_accountAnew_49 rfl ?_
          refine z_runV X kX8_322 (tX8_shareIn hS hO hno hG (by omega) hK hnc (hro k (by omega)) had (hrl k (by omega)) (hfr k (by omega)).1 (hfr k (by omega)).2 ho9) (zso_1 hS) rfl rfl (Nat.le_of_ble_eq_true rfl) ⟨by decide, by decide⟩ ⟨by decide, by decide⟩ dX8_accountAnew_50 ?_
          rintro _ g1 s1 ⟨rfl, h8, h9⟩
          replace h8 := h8.symm
          subst h8
          replace h9 := h9.symm
          subst h9
          refine z_iadd X dX8_accountAnew_53 ?_
          refine z_istore_n X dX8_accountAnew_54 (by decide) ?_
          refine z_inc1 X dX8_accountAnew_55 rfl (by decide) ?_
          refine z_goto (tgt := 25) X dX8_accountAnew_58 (by decide) ?_
          exact ih_25 (k + 1) _ (by omega) (by omega)
    refine z_iconst (v := nI 0) X (by decide) dX8_accountAnew_23 ?_
    refine z_istore_n X dX8_accountAnew_24 (by decide) ?_
    exact loop_25 (nm - 0 + 1) 0 _ (by omega) (by omega)

abbrev KX8_claim : zM := (yX8_claim, cX8_claim, 6, (some .int), 6, 0, 0, 140)
set_option maxHeartbeats 4000000 in
set_option maxRecDepth 100000 in
theorem nX8_claim {l : Launch} {D : va_G} {cy : Nat → ClassId} {z0 : zRg} {g : zSh} {σ : zIn} {nm : Nat} (xq : Int32) (hS : zS g) (hG : zG g nm) (hnm : σ 1 8 = nI nm) (hL : ∀ m, m < nm → g.2.2.2.1 (300 + m) ≤ 24) (hsn : ∀ m, m < nm → ∀ k, k < g.2.2.2.1 (300 + m) → σ (300 + m) k ≠ σ (400 + m) k → zwd (σ (300 + m) k) ∧ zwd (σ (400 + m) k)) (hz9 : zx_in nm xq = 0) : z_Ct l D cy z0 KX8_claim [.ref (g.2.1 1), .int xq] g σ (fun v g' σ' => zx_in nm xq = 0 ∧ g' = g ∧ σ' = σ ∧ ∃ m2 r, m2 < nm ∧ xq = nI m2 ∧ v = some (.int r) ∧ zcl σ m2 (g.2.2.2.1 (300 + m2)) r) := by
  have hn60 := hG.1
  refine z_ofM (by decide) (z_cr (z_ci z_c0)) (Nat.le_of_ble_eq_true rfl) ?_
  intro p e s m args below meth c X
  refine z_aload_n X dX8_claim_0 rfl ?_
  refine z_iload_n X dX8_claim_1 rfl ?_
  cases hz : zin xq nm
  · skip
    skip
    refine z_runV X kX8_227 (tX8_messageAtN xq hS hG hnm hz) (zso_1 hS) rfl rfl (Nat.le_of_ble_eq_true rfl) ⟨by decide, by decide⟩ ⟨by decide, by decide⟩ dX8_claim_2 ?_
    rintro _ g1 s1 ⟨rfl, h8, h9⟩
    replace h8 := h8.symm
    subst h8
    replace h9 := h9.symm
    subst h9
    refine z_astore_nN X dX8_claim_5 (by decide) ?_
    refine z_aload_nN X dX8_claim_6 rfl ?_
    refine z_ifnonnullN X dX8_claim_7 ?_
    exact absurd hz9 (zne1 0 (by unfold zx_in; simp_all))
  · skip
    obtain ⟨m9, hm99, rfl⟩ := zin_t hz (by have := hG.1; omega)
    have hM := hG.2.1 m9 hm99
    refine z_runV X kX8_227 (tX8_messageAt m9 hS hG hnm hm99) (zso_1 hS) rfl rfl (Nat.le_of_ble_eq_true rfl) ⟨by decide, by decide⟩ ⟨by decide, by decide⟩ dX8_claim_2 ?_
    rintro _ g1 s1 ⟨rfl, h8, h9⟩
    replace h8 := h8.symm
    subst h8
    replace h9 := h9.symm
    subst h9
    refine z_astore_n X dX8_claim_5 (by decide) ?_
    refine z_aload_n X dX8_claim_6 rfl ?_
    refine z_ifnonnull (tgt := 21) X dX8_claim_7 (by decide) ?_
    have hL24 := hL m9 hm99
    have loop_23 : ∀ (n : Nat) (k : Nat) (v1 v2 : Option Value) (hk : k ≤ g.2.2.2.1 (300 + m9)) (hall : ∀ j, j < k → σ (300 + m9) j = σ (400 + m9) j) (hn : g.2.2.2.1 (300 + m9) - k < n), z_V p l e (zRm KX8_claim) s m args below meth c 6 D cy z0 0 0 (zQm KX8_claim below D cy z0 (fun v g' σ' => zx_in nm (nI m9) = 0 ∧ g' = g ∧ σ' = σ ∧ ∃ m2 r, m2 < nm ∧ (nI m9) = nI m2 ∧ v = some (.int r) ∧ zcl σ m2 (g.2.2.2.1 (300 + m2)) r) args s) 23 [some (.ref (g.2.1 1)), some (.int (nI m9)), some (.ref (g.2.1 (200 + m9))), some (.int (nI k)), v1, v2] [] g σ := by
      intro n
      induction n with
      | zero => intro k v1 v2 hk hall hn; exact absurd hn (Nat.not_lt_zero _)
      | succ n ih_23 =>
        intro k v1 v2 hk hall hn
        refine z_iload_n X dX8_claim_23 rfl ?_
        refine z_aload_n X dX8_claim_24 rfl ?_
        refine z_getr2 X fX8_273 (hM.1) (hM.2.2.1) rfl dX8_claim_25 ?_
        refine z_alen X (t := 0) (by decide) (hM.2.2.2.2.2.1) dX8_claim_28 ?_
        refine z_icmp_ge (tgt := 71) X dX8_claim_29 (by decide) (fun c_29 => ?_) (fun c_29 => ?_)
        · skip
          try simp (disch := omega) only [zk0, nI_leI, nI_ltI, nI_eq, zbk_notn, zbk_not, zbk_n0, zbk_0, zb_0, zb_n0, zb_not, zb_notn, Bool.not_eq_false, Bool.not_eq_true, Bool.not_eq_true', Bool.not_eq_false', decide_eq_true_eq, decide_eq_false_iff_not, Classical.not_not] at c_29
          refine z_iconst (v := -1) X (by decide) dX8_claim_71 ?_
          refine z_iret X (by decide) (by decide) rfl dX8_claim_72 ?_
          exact ⟨by unfold zx_in; rw [if_pos hz], rfl, rfl, m9, _, hm99, rfl, rfl, Or.inr ⟨fun j hj => hall j (by omega), rfl⟩⟩
        · skip
          try simp (disch := omega) only [zk0, nI_leI, nI_ltI, nI_eq, zbk_notn, zbk_not, zbk_n0, zbk_0, zb_0, zb_n0, zb_not, zb_notn, Bool.not_eq_false, Bool.not_eq_true, Bool.not_eq_true', Bool.not_eq_false', decide_eq_true_eq, decide_eq_false_iff_not, Classical.not_not] at c_29
          refine z_aload_n X dX8_claim_32 rfl ?_
          refine z_iload_n X dX8_claim_33 rfl ?_
          refine z_runV X kX8_289 (tX3_wordSent k hG hm99 (hL m9 hm99) (by omega)) (hM.1) rfl rfl (Nat.le_of_ble_eq_true rfl) ⟨by decide, by decide⟩ ⟨by decide, by decide⟩ dX8_claim_34 ?_
          rintro _ g1 s1 ⟨rfl, h8, h9⟩
          replace h8 := h8.symm
          subst h8
          replace h9 := h9.symm
          subst h9
          refine z_istore X dX8_claim_37 (by decide) ?_
          refine z_aload_n X dX8_claim_39 rfl ?_
          refine z_iload_n X dX8_claim_40 rfl ?_
          refine z_runV X kX8_241 (tX3_wordNow k hG hm99 (hL m9 hm99) (by omega)) (hM.1) rfl rfl (Nat.le_of_ble_eq_true rfl) ⟨by decide, by decide⟩ ⟨by decide, by decide⟩ dX8_claim_41 ?_
          rintro _ g1 s1 ⟨rfl, h8, h9⟩
          replace h8 := h8.symm
          subst h8
          replace h9 := h9.symm
          subst h9
          refine z_istore X dX8_claim_44 (by decide) ?_
          refine z_iload X dX8_claim_46 rfl ?_
          refine z_iload X dX8_claim_48 rfl ?_
          refine z_icmp_eq (tgt := 65) X dX8_claim_50 (by decide) (fun c_50 => ?_) (fun c_50 => ?_)
          · skip
            refine z_inc1 X dX8_claim_65 rfl (by decide) ?_
            refine z_goto (tgt := 23) X dX8_claim_68 (by decide) ?_
            exact ih_23 (k + 1) _ _ (by omega) (fun j hj => by rcases Nat.lt_or_ge j k with q | q; exact hall j q; (have e9 : j = k := by omega); rw [e9]; exact c_50) (by omega)
          · skip
            refine z_iload_n X dX8_claim_53 rfl ?_
            refine z_iconst (v := nI 5) X (by decide) dX8_claim_54 ?_
            refine z_imulN X dX8_claim_55 ?_
            refine z_iload X dX8_claim_56 rfl ?_
            refine z_iload X dX8_claim_58 rfl ?_
            obtain ⟨⟨W1, hW1, e1⟩, ⟨W2, hW2, e2⟩⟩ := hsn m9 hm99 k (by omega) c_50
            rw [e1, e2]
            refine z_runS X kX8_316 (tX8_firstPart W1 W2 (by omega) (by omega)) rfl rfl (Nat.le_of_ble_eq_true rfl) ⟨by decide, by decide⟩ ⟨by decide, by decide⟩ dX8_claim_60 ?_
            rintro _ g1 s1 ⟨f9, rfl, h8, h9, hf9⟩
            replace h8 := h8.symm
            subst h8
            replace h9 := h9.symm
            subst h9
            refine z_iaddN X dX8_claim_63 ?_
            refine z_iret X (by decide) (by decide) rfl dX8_claim_64 ?_
            exact ⟨by unfold zx_in; rw [if_pos hz], rfl, rfl, m9, _, hm99, rfl, rfl, Or.inl ⟨k, f9, by omega, hall, c_50, by rw [e1, e2]; exact hf9, rfl⟩⟩
    refine z_iconst (v := nI 0) X (by decide) dX8_claim_21 ?_
    refine z_istore_n X dX8_claim_22 (by decide) ?_
    exact loop_23 (g.2.2.2.1 (300 + m9) - 0 + 1) 0 _ _ (by omega) (fun j hj => absurd hj (Nat.not_lt_zero _)) (by omega)

abbrev KX8_words : zM := (yX8_words, cX8_words, 4, (some .int), 6, 0, 0, 146)
set_option maxHeartbeats 4000000 in
set_option maxRecDepth 100000 in
theorem nX8_words {l : Launch} {D : va_G} {cy : Nat → ClassId} {z0 : zRg} {g : zSh} {σ : zIn} {no nu mi ni nd ne : Nat} {dy lt dd ky : Nat → Nat} (b : Bool) (xq : Int32) (hS : zS g) (hO : zO g no) (hno : σ 13 4 = nI no) (hU : zU g nu) (hnu : σ 1 7 = nI nu) (hmi : σ 1 9 = nI mi) (hmi2 : mi ≤ 1000000) (hRu : zRu σ nu dy) (hDr : zDr σ ni lt nd dd) (he : σ 2 5 = nI ne) (he2 : ne ≤ 40) (hC : ∀ k, k < ne → zwd (σ 4 k)) (hPU : ∀ p m j k, j < ne → k < ne → 1 ≤ m → m ≤ 4 → zmt (σ 5) (σ 12) j p m → zmt (σ 5) (σ 12) k p m → j = k) (hky : ∀ o, o < no → σ (100 + o) 1 = nI (ky o) ∧ ky o ≤ 39) (hRq : ∀ j, j = 18 ∨ (∃ k, k < nu ∧ j = 140 + k) → ∃ pl cd vw, zRl σ j pl cd vw) (hz9 : zx_in no xq = 0) : z_Ct l D cy z0 KX8_words [.ref (g.2.1 1), .int xq, .int (zb b)] g σ (fun v g' σ' => zx_in no xq = 0 ∧ g' = g ∧ ∃ o2 j pl cd vw cdw paid many L, o2 < no ∧ xq = nI o2 ∧ zrat σ dy (mi / 1440) nu o2 j ∧ zRl σ j pl cd vw ∧ zFil σ σ' ne ni nd lt dd pl cd vw (ky o2) b cdw paid many L ∧ v = some (.int (nI paid))) := by
  have hn8 := hO.1
  have hn12 := hU.1
  refine z_ofM (by decide) (z_cr (z_ci (z_ci z_c0))) (Nat.le_of_ble_eq_true rfl) ?_
  intro p e s m args below meth c X
  refine z_aload_n X dX8_words_0 rfl ?_
  refine z_getr2 X fX8_35 (zso_1 hS) (zsr_1_3 hS) rfl dX8_words_1 ?_
  refine z_iload_n X dX8_words_4 rfl ?_
  cases hz : zin xq no
  · skip
    skip
    refine z_runV X kX8_138 (tX4_officeAtN xq hS hO hno hz) (zso_13 hS) rfl rfl (Nat.le_of_ble_eq_true rfl) ⟨by decide, by decide⟩ ⟨by decide, by decide⟩ dX8_words_5 ?_
    rintro _ g1 s1 ⟨rfl, h8, h9⟩
    replace h8 := h8.symm
    subst h8
    replace h9 := h9.symm
    subst h9
    refine z_astore_nN X dX8_words_8 (by decide) ?_
    refine z_aload_nN X dX8_words_9 rfl ?_
    refine z_ifnonnullN X dX8_words_10 ?_
    exact absurd hz9 (zne1 0 (by unfold zx_in; simp_all))
  · skip
    obtain ⟨o, ho9, rfl⟩ := zin_t hz (by have := hO.1; omega)
    have hF := hO.2.1 o ho9
    refine z_runV X kX8_138 (tX4_officeAt o hS hO hno ho9) (zso_13 hS) rfl rfl (Nat.le_of_ble_eq_true rfl) ⟨by decide, by decide⟩ ⟨by decide, by decide⟩ dX8_words_5 ?_
    rintro _ g1 s1 ⟨rfl, h8, h9⟩
    replace h8 := h8.symm
    subst h8
    replace h9 := h9.symm
    subst h9
    refine z_astore_n X dX8_words_8 (by decide) ?_
    refine z_aload_n X dX8_words_9 rfl ?_
    refine z_ifnonnull (tgt := 23) X dX8_words_10 (by decide) ?_
    refine z_aload_n X dX8_words_23 rfl ?_
    refine z_getr2 X fX8_21 (zso_1 hS) (zsr_1_1 hS) rfl dX8_words_24 ?_
    refine z_aload_n X dX8_words_27 rfl ?_
    refine z_getr2 X fX8_28 (zso_1 hS) (zsr_1_2 hS) rfl dX8_words_28 ?_
    refine z_aload_n X dX8_words_31 rfl ?_
    refine z_geti X fX8_174 (hF.1) rfl dX8_words_32 ?_
    rw [(hky o ho9).1]
    refine z_aload_n X dX8_words_35 rfl ?_
    refine z_aload_n X dX8_words_36 rfl ?_
    refine z_runV X kX8_186 (tX8_rulesAt hS hU hnu hmi hmi2 hRu hO ho9) (zso_1 hS) rfl rfl (Nat.le_of_ble_eq_true rfl) ⟨by decide, by decide⟩ ⟨by decide, by decide⟩ dX8_words_37 ?_
    rintro _ g1 s1 ⟨j9, rfl, h8, h9, hj9⟩
    replace h8 := h8.symm
    subst h8
    replace h9 := h9.symm
    subst h9
    have hj7 := zrat_ob hS hU hj9
    have hj8 : j9 = 18 ∨ 140 ≤ j9 := by rcases zrat_or hj9 with q | ⟨k, -, q⟩ <;> omega
    obtain ⟨pl, cd, vw, hRl⟩ := hRq j9 (zrat_or hj9)
    refine z_iload_n X dX8_words_40 rfl ?_
    cases b
    · skip
      skip
      refine z_runV X kX8_201 (tX6_fill0 (ky o) hS hDr hj7 hRl he he2 hC hPU (hky o ho9).2 hj8) (zso_7 hS) rfl rfl (Nat.le_of_ble_eq_true rfl) ⟨by decide, by decide⟩ ⟨by decide, by decide⟩ dX8_words_41 ?_
      rintro _ g1 s7 ⟨rfl, h8, cdw, paid, many, L9, hFl⟩
      replace h8 := h8.symm
      subst h8
      refine z_aload_n X dX8_words_44 rfl ?_
      refine z_getr2 X fX8_21 (zso_1 hS) (zsr_1_1 hS) rfl dX8_words_45 ?_
      refine z_geti X fX8_205 (zso_7 hS) rfl dX8_words_48 ?_
      refine z_iret X (by decide) (by decide) rfl dX8_words_51 ?_
      exact ⟨by unfold zx_in; rw [if_pos hz], rfl, o, j9, pl, cd, vw, cdw, paid, many, L9, ho9, rfl, hj9, hRl, hFl, by rw [hFl.2.2.2.2.2.2.1]⟩
    · skip
      skip
      refine z_runV X kX8_201 (tX6_fill1 (ky o) hS hDr hj7 hRl he he2 hC hPU (hky o ho9).2 hj8) (zso_7 hS) rfl rfl (Nat.le_of_ble_eq_true rfl) ⟨by decide, by decide⟩ ⟨by decide, by decide⟩ dX8_words_41 ?_
      rintro _ g1 s7 ⟨rfl, h8, cdw, paid, many, L9, hFl⟩
      replace h8 := h8.symm
      subst h8
      refine z_aload_n X dX8_words_44 rfl ?_
      refine z_getr2 X fX8_21 (zso_1 hS) (zsr_1_1 hS) rfl dX8_words_45 ?_
      refine z_geti X fX8_205 (zso_7 hS) rfl dX8_words_48 ?_
      refine z_iret X (by decide) (by decide) rfl dX8_words_51 ?_
      exact ⟨by unfold zx_in; rw [if_pos hz], rfl, o, j9, pl, cd, vw, cdw, paid, many, L9, ho9, rfl, hj9, hRl, hFl, by rw [hFl.2.2.2.2.2.2.1]⟩

abbrev KX8_read : zM := (yX8_read, cX8_read, 11, (some .int), 6, 0, 0, 140)
set_option maxHeartbeats 4000000 in
set_option maxRecDepth 100000 in
theorem nX8_read {l : Launch} {D : va_G} {cy : Nat → ClassId} {z0 : zRg} {g : zSh} {σ : zIn} {no nm ne : Nat} {ky tt : Nat → Nat} (xq yq : Int32) (hS : zS g) (hO : zO g no) (hno : σ 13 4 = nI no) (hG : zG g nm) (hnm : σ 1 8 = nI nm) (hL : ∀ m, m < nm → g.2.2.2.1 (300 + m) ≤ 24) (he : σ 2 5 = nI ne) (he2 : ne ≤ 40) (hC : ∀ k, k < ne → zwd (σ 4 k)) (hky : ∀ o, o < no → σ (100 + o) 1 = nI (ky o) ∧ ky o ≤ 39) (hto : ∀ m, m < nm → σ (200 + m) 1 = nI (tt m) ∧ tt m < no) (hnw : ∀ m, m < nm → ∀ k, k < g.2.2.2.1 (300 + m) → 0 ≤ σ (400 + m) k → zwd (σ (400 + m) k)) (hz9 : zx_read nm xq yq = 0) : z_Ct l D cy z0 KX8_read [.ref (g.2.1 1), .int xq, .int yq] g σ (fun v g' σ' => zx_read nm xq yq = 0 ∧ g' = g ∧ zfo σ σ' ∧ ∃ m2 p2 me ql r, m2 < nm ∧ xq = nI m2 ∧ yq = nI p2 ∧ p2 < 2 ^ 31 ∧ v = some (.int r) ∧ zrdA σ ne (ky (tt m2)) m2 (g.2.2.2.1 (300 + m2)) p2 me ql r) := by
  have hn60 := hG.1
  have hn8 := hO.1
  refine z_ofM (by decide) (z_cr (z_ci (z_ci z_c0))) (Nat.le_of_ble_eq_true rfl) ?_
  intro p e s m args below meth c X
  refine z_aload_n X dX8_read_0 rfl ?_
  refine z_iload_n X dX8_read_1 rfl ?_
  cases hz : zin xq nm
  · skip
    skip
    refine z_runV X kX8_227 (tX8_messageAtN xq hS hG hnm hz) (zso_1 hS) rfl rfl (Nat.le_of_ble_eq_true rfl) ⟨by decide, by decide⟩ ⟨by decide, by decide⟩ dX8_read_2 ?_
    rintro _ g1 s1 ⟨rfl, h8, h9⟩
    replace h8 := h8.symm
    subst h8
    replace h9 := h9.symm
    subst h9
    refine z_astore_nN X dX8_read_5 (by decide) ?_
    refine z_aload_nN X dX8_read_6 rfl ?_
    refine z_ifnullN (tgt := 14) X dX8_read_7 (by decide) ?_
    exact absurd hz9 (zne1 0 (by unfold zx_read; simp_all))
  · skip
    obtain ⟨m9, hm99, rfl⟩ := zin_t hz (by have := hG.1; omega)
    have hM := hG.2.1 m9 hm99
    refine z_runV X kX8_227 (tX8_messageAt m9 hS hG hnm hm99) (zso_1 hS) rfl rfl (Nat.le_of_ble_eq_true rfl) ⟨by decide, by decide⟩ ⟨by decide, by decide⟩ dX8_read_2 ?_
    rintro _ g1 s1 ⟨rfl, h8, h9⟩
    replace h8 := h8.symm
    subst h8
    replace h9 := h9.symm
    subst h9
    refine z_astore_n X dX8_read_5 (by decide) ?_
    refine z_aload_n X dX8_read_6 rfl ?_
    refine z_ifnull X dX8_read_7 ?_
    refine z_iload_n X dX8_read_10 rfl ?_
    refine z_if_ge (tgt := 25) X dX8_read_11 (by decide) (fun c_11 => ?_) (fun c_11 => ?_)
    · skip
      have hL24 := hL m9 hm99
      obtain ⟨p9, hp9, rfl⟩ := nI_of (Int32.not_lt.mpr c_11)
      have hF := hO.2.1 (tt m9) (hto m9 hm99).2
      refine z_aload_n X dX8_read_25 rfl ?_
      refine z_getr2 X fX8_35 (zso_1 hS) (zsr_1_3 hS) rfl dX8_read_26 ?_
      refine z_aload_n X dX8_read_29 rfl ?_
      refine z_geti X fX8_294 (hM.1) rfl dX8_read_30 ?_
      rw [(hto m9 hm99).1]
      refine z_runV X kX8_138 (tX4_officeAt (tt m9) hS hO hno (hto m9 hm99).2) (zso_13 hS) rfl rfl (Nat.le_of_ble_eq_true rfl) ⟨by decide, by decide⟩ ⟨by decide, by decide⟩ dX8_read_33 ?_
      rintro _ g1 s1 ⟨rfl, h8, h9⟩
      replace h8 := h8.symm
      subst h8
      replace h9 := h9.symm
      subst h9
      refine z_astore X dX8_read_36 (by decide) ?_
      refine z_aload X dX8_read_38 rfl ?_
      refine z_ifnonnull (tgt := 47) X dX8_read_40 (by decide) ?_
      refine z_aload X dX8_read_47 rfl ?_
      refine z_geti X fX8_174 (hF.1) rfl dX8_read_49 ?_
      rw [(hky _ (hto m9 hm99).2).1]
      refine z_istore X dX8_read_52 (by decide) ?_
      have loop_60 : ∀ (n : Nat) (k : Nat) (v1 v2 v3 : Option Value) (τ : zIn) (me : Nat → Int32) (ql : Nat → Nat) (hk : k ≤ g.2.2.2.1 (300 + m9)) (hfo : zfo σ τ) (hpre : ∀ i, i < k → zrd1 σ ne (ky (tt m9)) (σ (400 + m9) i) (me i) (ql i)) (hb : zsum ql k ≤ p9) (hn : g.2.2.2.1 (300 + m9) - k < n), z_V p l e (zRm KX8_read) s m args below meth c 11 D cy z0 0 0 (zQm KX8_read below D cy z0 (fun v g' σ' => zx_read nm (nI m9) (nI p9) = 0 ∧ g' = g ∧ zfo σ σ' ∧ ∃ m2 p2 me ql r, m2 < nm ∧ (nI m9) = nI m2 ∧ (nI p9) = nI p2 ∧ p2 < 2 ^ 31 ∧ v = some (.int r) ∧ zrdA σ ne (ky (tt m2)) m2 (g.2.2.2.1 (300 + m2)) p2 me ql r) args s) 60 [some (.ref (g.2.1 1)), some (.int (nI m9)), some (.int (nI p9)), some (.ref (g.2.1 (200 + m9))), some (.ref (g.2.1 (100 + tt m9))), some (.int (nI (ky (tt m9)))), some (.int (nI (zsum ql k))), some (.int (nI k)), v1, v2, v3] [] g τ := by
        intro n
        induction n with
        | zero => intro k v1 v2 v3 τ me ql hk hfo hpre hb hn; exact absurd hn (Nat.not_lt_zero _)
        | succ n ih_60 =>
          intro k v1 v2 v3 τ me ql hk hfo hpre hb hn
          have hfo2 := hfo
          have et : τ (400 + m9) = σ (400 + m9) := hfo.1 _ (by omega) (by omega)
          have e4 : τ 4 = σ 4 := hfo.1 _ (by omega) (by omega)
          have e5 : τ 5 = σ 5 := hfo.1 _ (by omega) (by omega)
          have he3 : τ 2 5 = nI ne := (hfo.2 5 (by decide)).trans he
          have hC3 : ∀ k, k < ne → zwd (τ 4 k) := by rw [e4]; exact hC
          refine z_iload X dX8_read_60 rfl ?_
          refine z_aload_n X dX8_read_62 rfl ?_
          refine z_getr2 X fX8_297 (hM.1) (hM.2.2.2.1) rfl dX8_read_63 ?_
          refine z_alen X (t := 0) (by decide) (hM.2.2.2.2.2.2.1) dX8_read_66 ?_
          refine z_icmp_ge (tgt := 194) X dX8_read_67 (by decide) (fun c_67 => ?_) (fun c_67 => ?_)
          · skip
            try simp (disch := omega) only [zk0, nI_leI, nI_ltI, nI_eq, zbk_notn, zbk_not, zbk_n0, zbk_0, zb_0, zb_n0, zb_not, zb_notn, Bool.not_eq_false, Bool.not_eq_true, Bool.not_eq_true', Bool.not_eq_false', decide_eq_true_eq, decide_eq_false_iff_not, Classical.not_not] at c_67
            refine z_iconst (v := -1) X (by decide) dX8_read_194 ?_
            refine z_iret X (by decide) (by decide) rfl dX8_read_195 ?_
            have e : k = g.2.2.2.1 (300 + m9) := by omega
            subst e
            exact ⟨by unfold zx_read; rw [if_neg (fun q9 => q9 ⟨hz, c_11⟩)], rfl, hfo2, m9, p9, me, ql, _, hm99, rfl, rfl, hp9, rfl, Or.inl ⟨hb, rfl, hpre⟩⟩
          · skip
            try simp (disch := omega) only [zk0, nI_leI, nI_ltI, nI_eq, zbk_notn, zbk_not, zbk_n0, zbk_0, zb_0, zb_n0, zb_not, zb_notn, Bool.not_eq_false, Bool.not_eq_true, Bool.not_eq_true', Bool.not_eq_false', decide_eq_true_eq, decide_eq_false_iff_not, Classical.not_not] at c_67
            refine z_aload_n X dX8_read_70 rfl ?_
            refine z_getr2 X fX8_297 (hM.1) (hM.2.2.2.1) rfl dX8_read_71 ?_
            refine z_iload X dX8_read_74 rfl ?_
            refine z_ialdN X (hM.2.2.2.2.2.2.1) (by omega) (by omega) dX8_read_76 ?_
            rw [et]
            refine z_istore X dX8_read_77 (by decide) ?_
            refine z_iload X dX8_read_79 rfl ?_
            refine z_runS X kX8_244 (tX8_isCode _) rfl rfl (Nat.le_of_ble_eq_true rfl) ⟨by decide, by decide⟩ ⟨by decide, by decide⟩ dX8_read_81 ?_
            rintro _ g1 s1 ⟨rfl, h8, h9⟩
            replace h8 := h8.symm
            subst h8
            replace h9 := h9.symm
            subst h9
            refine z_if_eq (tgt := 109) X dX8_read_84 (by decide) (fun c_84 => ?_) (fun c_84 => ?_)
            · skip
              try simp (disch := omega) only [zb_notn, zb_not, zb_n0, zb_0, Bool.not_eq_false, Bool.not_eq_true, Bool.not_eq_true', Bool.not_eq_false', decide_eq_true_eq, decide_eq_false_iff_not, Classical.not_not] at c_84
              refine z_iconst (v := -1) X (by decide) dX8_read_109 ?_
              refine z_istore X dX8_read_110 (by decide) ?_
              refine z_iload X dX8_read_112 rfl ?_
              refine z_iconst (v := -1) X (by decide) dX8_read_114 ?_
              refine z_icmp_ne (tgt := 122) X dX8_read_115 (by decide) (fun c_115 => ?_) (fun c_115 => ?_)
              · first | exact absurd c_115 (by decide) | exact absurd (by decide) c_115
              · skip
                refine z_iconst (v := nI 1) X (by decide) dX8_read_118 ?_
                refine z_goto (tgt := 131) X dX8_read_119 (by decide) ?_
                refine z_istore X dX8_read_131 (by decide) ?_
                have hx9 := zrd_ext (P := fun i a b => zrd1 σ ne (ky (tt m9)) (σ (400 + m9) i) a b) hpre (show zrd1 σ ne (ky (tt m9)) (σ (400 + m9) k) (-1) 1 from (Or.inl ⟨c_84, rfl, rfl⟩))
                refine z_iload_n X dX8_read_133 rfl ?_
                refine z_iload X dX8_read_134 rfl ?_
                refine z_isubN X (by omega) dX8_read_136 ?_
                refine z_iload X dX8_read_137 rfl ?_
                refine z_icmp_ge (tgt := 181) X dX8_read_139 (by decide) (fun c_139 => ?_) (fun c_139 => ?_)
                · skip
                  try simp (disch := omega) only [zk0, nI_leI, nI_ltI, nI_eq, zbk_notn, zbk_not, zbk_n0, zbk_0, zb_0, zb_n0, zb_not, zb_notn, Bool.not_eq_false, Bool.not_eq_true, Bool.not_eq_true', Bool.not_eq_false', decide_eq_true_eq, decide_eq_false_iff_not, Classical.not_not] at c_139
                  refine z_iload X dX8_read_181 rfl ?_
                  refine z_iload X dX8_read_183 rfl ?_
                  refine z_iaddN X dX8_read_185 ?_
                  refine z_istore X dX8_read_186 (by decide) ?_
                  refine z_inc1 X dX8_read_188 rfl (by decide) ?_
                  refine z_goto (tgt := 60) X dX8_read_191 (by decide) ?_
                  have e9 := fun a b c t hh => ih_60 (k + 1) a b c t _ _ (by omega) hh hx9 (by rw [zud_sum1]; omega) (by omega)
                  rw [zud_sum1] at e9
                  exact e9 _ _ _ _ hfo2
                · skip
                  try simp (disch := omega) only [zk0, nI_leI, nI_ltI, nI_eq, zbk_notn, zbk_not, zbk_n0, zbk_0, zb_0, zb_n0, zb_not, zb_notn, Bool.not_eq_false, Bool.not_eq_true, Bool.not_eq_true', Bool.not_eq_false', decide_eq_true_eq, decide_eq_false_iff_not, Classical.not_not] at c_139
                  refine z_iload X dX8_read_142 rfl ?_
                  refine z_runS X kX8_244 (tX8_isCode _) rfl rfl (Nat.le_of_ble_eq_true rfl) ⟨by decide, by decide⟩ ⟨by decide, by decide⟩ dX8_read_144 ?_
                  rintro _ g1 s1 ⟨rfl, h8, h9⟩
                  replace h8 := h8.symm
                  subst h8
                  replace h9 := h9.symm
                  subst h9
                  refine z_if_ne (tgt := 156) X dX8_read_147 (by decide) (fun c_147 => ?_) (fun c_147 => ?_)
                  · skip
                    try simp (disch := omega) only [zb_notn, zb_not, zb_n0, zb_0, Bool.not_eq_false, Bool.not_eq_true, Bool.not_eq_true', Bool.not_eq_false', decide_eq_true_eq, decide_eq_false_iff_not, Classical.not_not] at c_147
                    exfalso; exact c_84 c_147
                  · skip
                    try simp (disch := omega) only [zb_notn, zb_not, zb_n0, zb_0, Bool.not_eq_false, Bool.not_eq_true, Bool.not_eq_true', Bool.not_eq_false', decide_eq_true_eq, decide_eq_false_iff_not, Classical.not_not] at c_147
                    refine z_iload X dX8_read_150 rfl ?_
                    refine z_runS X kX8_310 (tX8_ideaOfPlain _) rfl rfl (Nat.le_of_ble_eq_true rfl) ⟨by decide, by decide⟩ ⟨by decide, by decide⟩ dX8_read_152 ?_
                    rintro _ g1 s1 ⟨rfl, h8, h9⟩
                    replace h8 := h8.symm
                    subst h8
                    replace h9 := h9.symm
                    subst h9
                    refine z_iret X (by decide) (by decide) rfl dX8_read_155 ?_
                    refine ⟨by unfold zx_read; rw [if_neg (fun q9 => q9 ⟨hz, c_11⟩)], rfl, hfo2, m9, p9, zudI me k (-1), zud ql k 1, _, hm99, rfl, rfl, hp9, rfl, Or.inr ⟨k, by omega, hx9, by rw [zud_sum k (Nat.le_refl _)]; exact hb, by rw [zud_sum1]; omega, ?_⟩⟩
                    rw [zud_sum k (Nat.le_refl _), show zudI me k (-1) k = (-1) from if_pos rfl]
                    unfold zrdr
                    rw [if_pos c_84]
            · skip
              try simp (disch := omega) only [zb_notn, zb_not, zb_n0, zb_0, Bool.not_eq_false, Bool.not_eq_true, Bool.not_eq_true', Bool.not_eq_false', decide_eq_true_eq, decide_eq_false_iff_not, Classical.not_not] at c_84
              refine z_aload_n X dX8_read_87 rfl ?_
              refine z_getr2 X fX8_10 (zso_1 hS) (zsr_1_0 hS) rfl dX8_read_88 ?_
              refine z_aload_n X dX8_read_91 rfl ?_
              refine z_getr2 X fX8_10 (zso_1 hS) (zsr_1_0 hS) rfl dX8_read_92 ?_
              refine z_iload X dX8_read_95 rfl ?_
              obtain ⟨W1, hW1, e1⟩ := hnw m9 hm99 k (by omega) c_84
              rw [e1]
              refine z_runV X kX8_300 (tX0_onlyFind W1 hS he3 he2 hC3 hW1) (zso_2 hS) rfl rfl (Nat.le_of_ble_eq_true rfl) ⟨by decide, by decide⟩ ⟨by decide, by decide⟩ dX8_read_97 ?_
              rintro _ _ s6 ⟨r9, rfl, rfl, h6, ho9⟩
              rw [e4] at ho9
              have hfo2 := zfo_t hfo h6
              have he4 : s6 2 5 = nI ne := (hfo2.2 5 (by decide)).trans he
              have e55 : s6 5 = σ 5 := hfo2.1 _ (by omega) (by omega)
              refine z_iload X dX8_read_100 rfl ?_
              refine z_ineg X dX8_read_102 ?_
              have hox := ho9
              rcases hox with ⟨-, k9, hk9, -, rfl⟩ | ⟨-, rfl⟩
              · skip
                have hky9 := (hky (tt m9) (hto m9 hm99).2).2
                have eb := zneg39 (ky (tt m9)) (by omega)
                have hj9 : (((k9 : Int) + (-(nI (ky (tt m9)))).toInt) % ne).toNat < ne := by rw [eb]; have h1 := Int.emod_nonneg ((k9 : Int) + -(ky (tt m9) : Int)) (b := (ne : Int)) (by omega); have h2 := Int.emod_lt_of_pos ((k9 : Int) + -(ky (tt m9) : Int)) (b := (ne : Int)) (by omega); omega
                have hj9e : (((k9 : Int) + (-(nI (ky (tt m9)))).toInt) % ne).toNat = (((k9 : Int) - (ky (tt m9) : Int)) % ne).toNat := by rw [eb]; rfl
                refine z_runV X kX8_303 (tX0_shifted k9 _ hS he4 he2 hk9 (by rw [eb]; omega) (by rw [eb]; omega)) (zso_2 hS) rfl rfl (Nat.le_of_ble_eq_true rfl) ⟨by decide, by decide⟩ ⟨by decide, by decide⟩ dX8_read_103 ?_
                rintro _ g1 s1 ⟨rfl, h8, h9⟩
                replace h8 := h8.symm
                subst h8
                replace h9 := h9.symm
                subst h9
                generalize (((k9 : Int) + (-(nI (ky (tt m9)))).toInt) % ne).toNat = j9 at hj9 hj9e ⊢
                refine z_goto (tgt := 110) X dX8_read_106 (by decide) ?_
                refine z_istore X dX8_read_110 (by decide) ?_
                refine z_iload X dX8_read_112 rfl ?_
                refine z_iconst (v := -1) X (by decide) dX8_read_114 ?_
                refine z_icmp_ne (tgt := 122) X dX8_read_115 (by decide) (fun c_115 => ?_) (fun c_115 => ?_)
                · skip
                  refine z_aload_n X dX8_read_122 rfl ?_
                  refine z_getr2 X fX8_10 (zso_1 hS) (zsr_1_0 hS) rfl dX8_read_123 ?_
                  refine z_iload X dX8_read_126 rfl ?_
                  refine z_runV X kX8_307 (tX0_phraseLength j9 hS he4 he2 hj9) (zso_2 hS) rfl rfl (Nat.le_of_ble_eq_true rfl) ⟨by decide, by decide⟩ ⟨by decide, by decide⟩ dX8_read_128 ?_
                  rintro _ g1 s1 ⟨q9, rfl, h8, h9, hpl⟩
                  replace h8 := h8.symm
                  subst h8
                  replace h9 := h9.symm
                  subst h9
                  rw [e55] at hpl
                  have hq4 := hpl.1
                  refine z_istore X dX8_read_131 (by decide) ?_
                  have hx9 := zrd_ext (P := fun i a b => zrd1 σ ne (ky (tt m9)) (σ (400 + m9) i) a b) hpre (show zrd1 σ ne (ky (tt m9)) (σ (400 + m9) k) (nI j9) q9 from (Or.inr ⟨c_84, nI k9, by rw [e1]; exact ho9, Or.inr ⟨k9, j9, hk9, rfl, hj9, hj9e, rfl, hpl⟩⟩))
                  refine z_iload_n X dX8_read_133 rfl ?_
                  refine z_iload X dX8_read_134 rfl ?_
                  refine z_isubN X (by omega) dX8_read_136 ?_
                  refine z_iload X dX8_read_137 rfl ?_
                  refine z_icmp_ge (tgt := 181) X dX8_read_139 (by decide) (fun c_139 => ?_) (fun c_139 => ?_)
                  · skip
                    try simp (disch := omega) only [zk0, nI_leI, nI_ltI, nI_eq, zbk_notn, zbk_not, zbk_n0, zbk_0, zb_0, zb_n0, zb_not, zb_notn, Bool.not_eq_false, Bool.not_eq_true, Bool.not_eq_true', Bool.not_eq_false', decide_eq_true_eq, decide_eq_false_iff_not, Classical.not_not] at c_139
                    refine z_iload X dX8_read_181 rfl ?_
                    refine z_iload X dX8_read_183 rfl ?_
                    refine z_iaddN X dX8_read_185 ?_
                    refine z_istore X dX8_read_186 (by decide) ?_
                    refine z_inc1 X dX8_read_188 rfl (by decide) ?_
                    refine z_goto (tgt := 60) X dX8_read_191 (by decide) ?_
                    have e9 := fun a b c t hh => ih_60 (k + 1) a b c t _ _ (by omega) hh hx9 (by rw [zud_sum1]; omega) (by omega)
                    rw [zud_sum1] at e9
                    exact e9 _ _ _ _ hfo2
                  · skip
                    try simp (disch := omega) only [zk0, nI_leI, nI_ltI, nI_eq, zbk_notn, zbk_not, zbk_n0, zbk_0, zb_0, zb_n0, zb_not, zb_notn, Bool.not_eq_false, Bool.not_eq_true, Bool.not_eq_true', Bool.not_eq_false', decide_eq_true_eq, decide_eq_false_iff_not, Classical.not_not] at c_139
                    refine z_iload X dX8_read_142 rfl ?_
                    refine z_runS X kX8_244 (tX8_isCode _) rfl rfl (Nat.le_of_ble_eq_true rfl) ⟨by decide, by decide⟩ ⟨by decide, by decide⟩ dX8_read_144 ?_
                    rintro _ g1 s1 ⟨rfl, h8, h9⟩
                    replace h8 := h8.symm
                    subst h8
                    replace h9 := h9.symm
                    subst h9
                    refine z_if_ne (tgt := 156) X dX8_read_147 (by decide) (fun c_147 => ?_) (fun c_147 => ?_)
                    · skip
                      try simp (disch := omega) only [zb_notn, zb_not, zb_n0, zb_0, Bool.not_eq_false, Bool.not_eq_true, Bool.not_eq_true', Bool.not_eq_false', decide_eq_true_eq, decide_eq_false_iff_not, Classical.not_not] at c_147
                      refine z_iload X dX8_read_156 rfl ?_
                      refine z_iconst (v := -1) X (by decide) dX8_read_158 ?_
                      refine z_icmp_ne (tgt := 167) X dX8_read_159 (by decide) (fun c_159 => ?_) (fun c_159 => ?_)
                      · skip
                        refine z_aload_n X dX8_read_167 rfl ?_
                        refine z_getr2 X fX8_10 (zso_1 hS) (zsr_1_0 hS) rfl dX8_read_168 ?_
                        refine z_iload X dX8_read_171 rfl ?_
                        refine z_iload_n X dX8_read_173 rfl ?_
                        refine z_iload X dX8_read_174 rfl ?_
                        refine z_isubN X (by omega) dX8_read_176 ?_
                        refine z_runV X kX8_313 (tX0_ideaIn j9 (p9 - zsum ql k) hS he4 he2 hj9 (by omega)) (zso_2 hS) rfl rfl (Nat.le_of_ble_eq_true rfl) ⟨by decide, by decide⟩ ⟨by decide, by decide⟩ dX8_read_177 ?_
                        rintro _ g1 s1 ⟨rfl, h8, h9⟩
                        replace h8 := h8.symm
                        subst h8
                        replace h9 := h9.symm
                        subst h9
                        refine z_iret X (by decide) (by decide) rfl dX8_read_180 ?_
                        refine ⟨by unfold zx_read; rw [if_neg (fun q9 => q9 ⟨hz, c_11⟩)], rfl, hfo2, m9, p9, zudI me k (nI j9), zud ql k q9, _, hm99, rfl, rfl, hp9, rfl, Or.inr ⟨k, by omega, hx9, by rw [zud_sum k (Nat.le_refl _)]; exact hb, by rw [zud_sum1]; omega, ?_⟩⟩
                        rw [zud_sum k (Nat.le_refl _), show zudI me k (nI j9) k = (nI j9) from if_pos rfl]
                        unfold zrdr
                        rw [if_pos (show p9 - zsum ql k < 4 by omega), e55, if_neg (fun q9 => q9 c_84), if_neg (nI_ne_m1 (by omega)), zn_nI (by omega)]
                      · exact absurd c_159 (nI_ne_m1 (by omega))
                    · skip
                      try simp (disch := omega) only [zb_notn, zb_not, zb_n0, zb_0, Bool.not_eq_false, Bool.not_eq_true, Bool.not_eq_true', Bool.not_eq_false', decide_eq_true_eq, decide_eq_false_iff_not, Classical.not_not] at c_147
                      exfalso; exact c_147 (by rw [← e1]; exact c_84)
                · exact absurd c_115 (nI_ne_m1 (by omega))
              · skip
                skip
                refine z_runV X kX8_303 (tX0_shiftedN _ hS he4 he2) (zso_2 hS) rfl rfl (Nat.le_of_ble_eq_true rfl) ⟨by decide, by decide⟩ ⟨by decide, by decide⟩ dX8_read_103 ?_
                rintro _ g1 s1 ⟨rfl, h8, h9⟩
                replace h8 := h8.symm
                subst h8
                replace h9 := h9.symm
                subst h9
                refine z_goto (tgt := 110) X dX8_read_106 (by decide) ?_
                refine z_istore X dX8_read_110 (by decide) ?_
                refine z_iload X dX8_read_112 rfl ?_
                refine z_iconst (v := -1) X (by decide) dX8_read_114 ?_
                refine z_icmp_ne (tgt := 122) X dX8_read_115 (by decide) (fun c_115 => ?_) (fun c_115 => ?_)
                · exact absurd rfl c_115
                · skip
                  refine z_iconst (v := nI 1) X (by decide) dX8_read_118 ?_
                  refine z_goto (tgt := 131) X dX8_read_119 (by decide) ?_
                  refine z_istore X dX8_read_131 (by decide) ?_
                  have hx9 := zrd_ext (P := fun i a b => zrd1 σ ne (ky (tt m9)) (σ (400 + m9) i) a b) hpre (show zrd1 σ ne (ky (tt m9)) (σ (400 + m9) k) (-1) 1 from (Or.inr ⟨c_84, -1, by rw [e1]; exact ho9, Or.inl ⟨rfl, rfl, rfl⟩⟩))
                  refine z_iload_n X dX8_read_133 rfl ?_
                  refine z_iload X dX8_read_134 rfl ?_
                  refine z_isubN X (by omega) dX8_read_136 ?_
                  refine z_iload X dX8_read_137 rfl ?_
                  refine z_icmp_ge (tgt := 181) X dX8_read_139 (by decide) (fun c_139 => ?_) (fun c_139 => ?_)
                  · skip
                    try simp (disch := omega) only [zk0, nI_leI, nI_ltI, nI_eq, zbk_notn, zbk_not, zbk_n0, zbk_0, zb_0, zb_n0, zb_not, zb_notn, Bool.not_eq_false, Bool.not_eq_true, Bool.not_eq_true', Bool.not_eq_false', decide_eq_true_eq, decide_eq_false_iff_not, Classical.not_not] at c_139
                    refine z_iload X dX8_read_181 rfl ?_
                    refine z_iload X dX8_read_183 rfl ?_
                    refine z_iaddN X dX8_read_185 ?_
                    refine z_istore X dX8_read_186 (by decide) ?_
                    refine z_inc1 X dX8_read_188 rfl (by decide) ?_
                    refine z_goto (tgt := 60) X dX8_read_191 (by decide) ?_
                    have e9 := fun a b c t hh => ih_60 (k + 1) a b c t _ _ (by omega) hh hx9 (by rw [zud_sum1]; omega) (by omega)
                    rw [zud_sum1] at e9
                    exact e9 _ _ _ _ hfo2
                  · skip
                    try simp (disch := omega) only [zk0, nI_leI, nI_ltI, nI_eq, zbk_notn, zbk_not, zbk_n0, zbk_0, zb_0, zb_n0, zb_not, zb_notn, Bool.not_eq_false, Bool.not_eq_true, Bool.not_eq_true', Bool.not_eq_false', decide_eq_true_eq, decide_eq_false_iff_not, Classical.not_not] at c_139
                    refine z_iload X dX8_read_142 rfl ?_
                    refine z_runS X kX8_244 (tX8_isCode _) rfl rfl (Nat.le_of_ble_eq_true rfl) ⟨by decide, by decide⟩ ⟨by decide, by decide⟩ dX8_read_144 ?_
                    rintro _ g1 s1 ⟨rfl, h8, h9⟩
                    replace h8 := h8.symm
                    subst h8
                    replace h9 := h9.symm
                    subst h9
                    refine z_if_ne (tgt := 156) X dX8_read_147 (by decide) (fun c_147 => ?_) (fun c_147 => ?_)
                    · skip
                      try simp (disch := omega) only [zb_notn, zb_not, zb_n0, zb_0, Bool.not_eq_false, Bool.not_eq_true, Bool.not_eq_true', Bool.not_eq_false', decide_eq_true_eq, decide_eq_false_iff_not, Classical.not_not] at c_147
                      refine z_iload X dX8_read_156 rfl ?_
                      refine z_iconst (v := -1) X (by decide) dX8_read_158 ?_
                      refine z_icmp_ne (tgt := 167) X dX8_read_159 (by decide) (fun c_159 => ?_) (fun c_159 => ?_)
                      · exact absurd rfl c_159
                      · skip
                        refine z_bipush (v := -2) X (by decide) dX8_read_162 ?_
                        refine z_goto (tgt := 180) X dX8_read_164 (by decide) ?_
                        refine z_iret X (by decide) (by decide) rfl dX8_read_180 ?_
                        refine ⟨by unfold zx_read; rw [if_neg (fun q9 => q9 ⟨hz, c_11⟩)], rfl, hfo2, m9, p9, zudI me k (-1), zud ql k 1, _, hm99, rfl, rfl, hp9, rfl, Or.inr ⟨k, by omega, hx9, by rw [zud_sum k (Nat.le_refl _)]; exact hb, by rw [zud_sum1]; omega, ?_⟩⟩
                        rw [zud_sum k (Nat.le_refl _), show zudI me k (-1) k = (-1) from if_pos rfl]
                        unfold zrdr
                        rw [if_neg (fun q9 => q9 c_84), if_pos rfl]
                    · skip
                      try simp (disch := omega) only [zb_notn, zb_not, zb_n0, zb_0, Bool.not_eq_false, Bool.not_eq_true, Bool.not_eq_true', Bool.not_eq_false', decide_eq_true_eq, decide_eq_false_iff_not, Classical.not_not] at c_147
                      exfalso; exact c_147 (by rw [← e1]; exact c_84)
      refine z_iconst (v := nI 0) X (by decide) dX8_read_54 ?_
      refine z_istore X dX8_read_55 (by decide) ?_
      refine z_iconst (v := nI 0) X (by decide) dX8_read_57 ?_
      refine z_istore X dX8_read_58 (by decide) ?_
      exact loop_60 (g.2.2.2.1 (300 + m9) - 0 + 1) 0 _ _ _ σ (fun _ => 0) (fun _ => 0) (Nat.zero_le _) ⟨fun _ _ _ => rfl, fun _ _ => rfl⟩ (fun i hi => absurd hi (Nat.not_lt_zero _)) (Nat.zero_le _) (by omega)
    · skip
      exact absurd hz9 (zne1 0 (by unfold zx_read; simp_all))
