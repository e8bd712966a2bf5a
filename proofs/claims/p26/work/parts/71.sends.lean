/-! the law: sends -/
theorem zwsgn {κ : zIn} {n : Nat → Nat} {L : List (Nat × Nat)} {W : Nat → Int32} {b : Bool} (h : ∀ i, i < L.length → (zwd (W i) ∧ b = true) ∨ ∃ p, p < n 2 ∧ W i = (-1) - nI (zf κ 12 p) - 1) (hd : ∀ p, p < n 2 → zf κ 12 p < 5) {i : Nat} (hi : i < L.length) : (zWz L W i < 0 → ¬ zWz L W i < -6) ∧ (¬ zWz L W i < 0 → b = true) := by
  have e : zWz L W i = W i := if_pos hi
  rw [e]
  rcases h i hi with ⟨h1, h2⟩ | ⟨p, hp, e2⟩
  · exact ⟨fun q => absurd q (Int32.not_lt.mpr (zwd_nn h1)), fun _ => h2⟩
  · have := zdn6 _ (hd p hp)
    rw [e2]
    exact ⟨fun _ => this.1, fun q => absurd this.2 q⟩
theorem ztm_lt {k : Nat} (h : k < 3) (h2 : ¬ k = 2) : ztm k = k + 1 := by
  rcases (show k = 0 ∨ k = 1 by omega) with rfl | rfl <;> rfl
theorem zcl_no {κ : zIn} {m W : Nat} {r : Int32} (e : ∀ k, κ (300 + m) k = κ (400 + m) k) (h : zcl κ m W r) : r = -1 := by
  rcases h with ⟨k, f, h1, h2, h3, h4, h5⟩ | ⟨-, h⟩
  · exact absurd (e k) h3
  · exact h
set_option maxHeartbeats 4000000 in
set_option maxRecDepth 100000 in
theorem tL_sends {l : Launch} {D : va_G} {cy : Nat → ClassId} {z0 : zRg} {ao ai ad : Nat} {κ : zIn} {n : Nat → Nat} {g2 : zSh} {σ2 : zIn} {w : Nat → zSh} {τ : Nat → zIn} {top : Nat} (x z : Int32) (hfl : l.stackTraces = false) (hL : zLc ao ai ad κ n g2 σ2 w τ) (hd : zDf σ2 κ n) (ht7 : n 7 ≤ top) : z_Cn (zc0 NL_sends) l D cy z0 NL_sends [.ref ao, .ref ai, .ref ad, .int x, .int z] (zJg w) (zJs τ) (zStp ao ai ad top) := by
  obtain ⟨h0, h3, h4, hd0, hd1, hd2, hd3, hd4, hd5, hd8⟩ := id hd
  have hn2 : n 2 ≤ 24 := hL.1.A.2.2.2.1
  have hn6 : n 6 ≤ 60 := hL.1.M.1.2
  have hv := hL.1.2.2.2
  refine z_ofN (by decide) (z_cr (z_cr (z_cr (z_ci (z_ci z_c0))))) (Nat.le_of_ble_eq_true rfl) ?_
  intro p e s m args below meth c X Y
  refine z_iload_n X dL_sends_0 rfl ?_
  refine z_iconst (v := nI 3) X (by decide) dL_sends_1 ?_
  refine z_runSn X Y kL_116 (tL_some2 _ 3 (by decide) (by decide)) rfl rfl (Nat.le_of_ble_eq_true rfl) ⟨by decide, by decide⟩ ⟨by decide, by decide⟩ dL_sends_2 ?_
  rintro _ _ _ ⟨s5, hs5, rfl, rfl, rfl⟩
  refine z_if_gt (tgt := 14) X dL_sends_5 (by decide) (fun c_5 => ?_) (fun c_5 => ?_)
  · skip
    try simp (disch := omega) only [zk0, nI_leI, nI_ltI, nI_eq, zbk_notn, zbk_not, zbk_n0, zbk_0, zb_0, zb_n0, zb_not, zb_notn, Bool.not_eq_false, Bool.not_eq_true, Bool.not_eq_true', Bool.not_eq_false', decide_eq_true_eq, decide_eq_false_iff_not, Classical.not_not] at c_5
    refine z_aload_n X dL_sends_14 rfl ?_
    refine z_aload_n X dL_sends_15 rfl ?_
    refine z_bipush (v := nI 11) X (by decide) dL_sends_16 ?_
    refine z_iload X dL_sends_18 rfl ?_
    refine z_iconst (v := nI 5) X (by decide) dL_sends_20 ?_
    refine z_runSn X Y kL_116 (tL_some2 _ 5 (by decide) (by decide)) rfl rfl (Nat.le_of_ble_eq_true rfl) ⟨by decide, by decide⟩ ⟨by decide, by decide⟩ dL_sends_21 ?_
    rintro _ _ _ ⟨s6, hs6, rfl, rfl, rfl⟩
    refine z_iconst (v := nI 0) X (by decide) dL_sends_24 ?_
    refine z_iconst (v := nI 0) X (by decide) dL_sends_25 ?_
    refine z_iconst (v := nI 0) X (by decide) dL_sends_26 ?_
    refine z_iconst (v := nI 0) X (by decide) dL_sends_27 ?_
    refine z_runSn X Y kL_120 (tL_both (nI 11) (nI s6) (nI 0) (nI 0) (nI 0) (nI 0) (zd_draft _) hL (fun _ _ h z1 => tL_does_11 hfl (zso_1 h.S) _ _ _ _ _ (tC_draft hfl h _))) rfl rfl (Nat.le_of_ble_eq_true rfl) ⟨by decide, by decide⟩ ⟨by decide, by decide⟩ dL_sends_28 ?_
    rintro _ _ _ ⟨r, κ1, n1, w, τ, rfl, hR, rfl, rfl, hL⟩
    have hE := zk_dft h0 hs6 hR
    refine z_istore X dL_sends_31 (by decide) ?_
    rcases hE with ⟨rfl, hκ, rfl⟩ | ⟨rfl, h12, e1, e2⟩
    · skip
      skip
      refine z_aload_n X dL_sends_33 rfl ?_
      refine z_iconst (v := nI 5) X (by decide) dL_sends_34 ?_
      refine z_dup2 X rfl rfl dL_sends_35 ?_
      refine z_ialda X hL.ar hL.da (by decide) (by decide) dL_sends_36 ?_
      rw [hL.sd]
      rw [hd5]
      refine z_iload X dL_sends_37 rfl ?_
      refine z_if_lt (tgt := 46) X dL_sends_39 (by decide) (fun c_39 => ?_) (fun c_39 => ?_)
      · skip
        try simp (disch := omega) only [zk0, nI_leI, nI_ltI, nI_eq, zbk_notn, zbk_not, zbk_n0, zbk_0, zb_0, zb_n0, zb_not, zb_notn, Bool.not_eq_false, Bool.not_eq_true, Bool.not_eq_true', Bool.not_eq_false', decide_eq_true_eq, decide_eq_false_iff_not, Classical.not_not] at c_39
        (exfalso; omega)
      · skip
        try simp (disch := omega) only [zk0, nI_leI, nI_ltI, nI_eq, zbk_notn, zbk_not, zbk_n0, zbk_0, zb_0, zb_n0, zb_not, zb_notn, Bool.not_eq_false, Bool.not_eq_true, Bool.not_eq_true', Bool.not_eq_false', decide_eq_true_eq, decide_eq_false_iff_not, Classical.not_not] at c_39
        refine z_iconst (v := nI 1) X (by decide) dL_sends_42 ?_
        refine z_goto (tgt := 47) X dL_sends_43 (by decide) ?_
        refine z_iaddN X dL_sends_47 ?_
        refine z_iasta X hL.ar hL.da (by decide) (by decide) dL_sends_48 ?_
        rw [zJ_up5]
        replace hL := hL.up5 5 (nI (n 2 + 1))
        refine z_iload X dL_sends_49 rfl ?_
        refine z_ldc X qL_23 dL_sends_51 ?_
        refine z_icmp_ne (tgt := 72) X dL_sends_53 (by decide) (fun c_53 => ?_) (fun c_53 => ?_)
        · skip
          refine z_iload X dL_sends_72 rfl ?_
          refine z_aload_n X dL_sends_74 rfl ?_
          refine z_iconst (v := nI 5) X (by decide) dL_sends_75 ?_
          refine z_ialda X hL.ar hL.da (by decide) (by decide) dL_sends_76 ?_
          rw [hL.sd]
          rw [show z_up σ2 1 5 (nI (n 2 + 1)) 1 5 = nI (n 2 + 1) by simp [z_up]]
          refine z_icmp_ne (tgt := 84) X dL_sends_77 (by decide) (fun c_77 => ?_) (fun c_77 => ?_)
          · exact absurd rfl c_77
          · skip
            refine z_iconst (v := nI 1) X (by decide) dL_sends_80 ?_
            refine z_goto (tgt := 85) X dL_sends_81 (by decide) ?_
            refine z_zret X (by decide) (by decide) rfl (by first | exact Or.inl rfl | exact Or.inr rfl | exact zb_01 _ | assumption) dL_sends_85 ?_
            exact ⟨_, _, _, _, w, _, rfl, rfl, rfl, hL, zDf_2 hd hκ, ht7⟩
        · exact absurd c_53 (nIn_neg (by omega) (by decide))
    · skip
      replace e1 := e1.symm
      subst e1
      replace e2 := e2.symm
      subst e2
      refine z_aload_n X dL_sends_33 rfl ?_
      refine z_iconst (v := nI 5) X (by decide) dL_sends_34 ?_
      refine z_dup2 X rfl rfl dL_sends_35 ?_
      refine z_ialda X hL.ar hL.da (by decide) (by decide) dL_sends_36 ?_
      rw [hL.sd]
      rw [hd5]
      refine z_iload X dL_sends_37 rfl ?_
      refine z_if_lt (tgt := 46) X dL_sends_39 (by decide) (fun c_39 => ?_) (fun c_39 => ?_)
      · skip
        refine z_iconst (v := nI 0) X (by decide) dL_sends_46 ?_
        refine z_iaddN X dL_sends_47 ?_
        refine z_iasta X hL.ar hL.da (by omega) (by omega) dL_sends_48 ?_
        rw [zJ_up5]
        replace hL := hL.up5 5 (nI (n 2 + 0))
        refine z_iload X dL_sends_49 rfl ?_
        refine z_ldc X qL_23 dL_sends_51 ?_
        refine z_icmp_ne (tgt := 72) X dL_sends_53 (by decide) (fun c_53 => ?_) (fun c_53 => ?_)
        · exact absurd rfl c_53
        · skip
          refine z_aload_n X dL_sends_56 rfl ?_
          refine z_iconst (v := nI 5) X (by decide) dL_sends_57 ?_
          refine z_ialda X hL.ar hL.da (by decide) (by decide) dL_sends_58 ?_
          rw [hL.sd]
          rw [show z_up σ2 1 5 (nI (n 2 + 0)) 1 5 = nI (n 2 + 0) by simp [z_up]]
          refine z_bipush (v := nI 24) X (by decide) dL_sends_59 ?_
          refine z_icmp_ne (tgt := 68) X dL_sends_61 (by decide) (fun c_61 => ?_) (fun c_61 => ?_)
          · skip
            try simp (disch := omega) only [zk0, nI_leI, nI_ltI, nI_eq, zbk_notn, zbk_not, zbk_n0, zbk_0, zb_0, zb_n0, zb_not, zb_notn, Bool.not_eq_false, Bool.not_eq_true, Bool.not_eq_true', Bool.not_eq_false', decide_eq_true_eq, decide_eq_false_iff_not, Classical.not_not] at c_61
            (exfalso; omega)
          · skip
            try simp (disch := omega) only [zk0, nI_leI, nI_ltI, nI_eq, zbk_notn, zbk_not, zbk_n0, zbk_0, zb_0, zb_n0, zb_not, zb_notn, Bool.not_eq_false, Bool.not_eq_true, Bool.not_eq_true', Bool.not_eq_false', decide_eq_true_eq, decide_eq_false_iff_not, Classical.not_not] at c_61
            refine z_iconst (v := nI 1) X (by decide) dL_sends_64 ?_
            refine z_goto (tgt := 85) X dL_sends_65 (by decide) ?_
            refine z_zret X (by decide) (by decide) rfl (by first | exact Or.inl rfl | exact Or.inr rfl | exact zb_01 _ | assumption) dL_sends_85 ?_
            exact ⟨_, _, _, _, w, _, rfl, rfl, rfl, hL, by have h9 := zDf_2 (c := n 2 + 0) hd (fun _ => rfl); rw [show zud n 2 (n 2 + 0) = n from zud_id] at h9; exact h9, ht7⟩
      · exact absurd (by decide) c_39
  · skip
    try simp (disch := omega) only [zk0, nI_leI, nI_ltI, nI_eq, zbk_notn, zbk_not, zbk_n0, zbk_0, zb_0, zb_n0, zb_not, zb_notn, Bool.not_eq_false, Bool.not_eq_true, Bool.not_eq_true', Bool.not_eq_false', decide_eq_true_eq, decide_eq_false_iff_not, Classical.not_not] at c_5
    refine z_aload_n X dL_sends_8 rfl ?_
    refine z_iconst (v := nI 5) X (by decide) dL_sends_9 ?_
    refine z_ialda X hL.ar hL.da (by decide) (by decide) dL_sends_10 ?_
    rw [hL.sd]
    rw [hd5]
    refine z_if_ne (tgt := 86) X dL_sends_11 (by decide) (fun c_11 => ?_) (fun c_11 => ?_)
    · skip
      try simp (disch := omega) only [zk0, nI_leI, nI_ltI, nI_eq, zbk_notn, zbk_not, zbk_n0, zbk_0, zb_0, zb_n0, zb_not, zb_notn, Bool.not_eq_false, Bool.not_eq_true, Bool.not_eq_true', Bool.not_eq_false', decide_eq_true_eq, decide_eq_false_iff_not, Classical.not_not] at c_11
      refine z_iload X dL_sends_86 rfl ?_
      refine z_aload_n X dL_sends_88 rfl ?_
      refine z_iconst (v := nI 0) X (by decide) dL_sends_89 ?_
      refine z_ialda X hL.ar hL.da (by decide) (by decide) dL_sends_90 ?_
      rw [hL.sd]
      rw [hd0]
      refine z_runSn X Y kL_116 (tL_some2 _ (n 3) (by omega) (by omega)) rfl rfl (Nat.le_of_ble_eq_true rfl) ⟨by decide, by decide⟩ ⟨by decide, by decide⟩ dL_sends_91 ?_
      rintro _ _ _ ⟨s5, hs5, rfl, rfl, rfl⟩
      refine z_istore X dL_sends_94 (by decide) ?_
      refine z_iload X dL_sends_96 rfl ?_
      refine z_iconst (v := nI 1) X (by decide) dL_sends_98 ?_
      refine z_iaddN X dL_sends_99 ?_
      refine z_iload X dL_sends_100 rfl ?_
      refine z_iconst (v := nI 3) X (by decide) dL_sends_102 ?_
      refine z_ishr X dL_sends_103 ?_
      refine z_aload_n X dL_sends_104 rfl ?_
      refine z_iconst (v := nI 0) X (by decide) dL_sends_105 ?_
      refine z_ialda X hL.ar hL.da (by decide) (by decide) dL_sends_106 ?_
      rw [hL.sd]
      rw [hd0]
      refine z_iconst (v := nI 1) X (by decide) dL_sends_107 ?_
      refine z_isubN X (by omega) dL_sends_108 ?_
      refine z_runSn X Y kL_116 (tL_some2 _ (n 3 - 1) (by omega) (by omega)) rfl rfl (Nat.le_of_ble_eq_true rfl) ⟨by decide, by decide⟩ ⟨by decide, by decide⟩ dL_sends_109 ?_
      rintro _ _ _ ⟨s6, hs6, rfl, rfl, rfl⟩
      refine z_iaddN X dL_sends_112 ?_
      refine z_aload_n X dL_sends_113 rfl ?_
      refine z_iconst (v := nI 0) X (by decide) dL_sends_114 ?_
      refine z_ialda X hL.ar hL.da (by decide) (by decide) dL_sends_115 ?_
      rw [hL.sd]
      rw [hd0]
      refine z_iremN X (by omega) (by omega) (by omega) dL_sends_116 ?_
      have ht : (s5 + 1 + s6) % n 3 < n 3 ∧ (s5 + 1 + s6) % n 3 ≠ s5 := by
        rw [h3] at hs5 hs6 ⊢
        omega
      generalize (s5 + 1 + s6) % n 3 = t at ht ⊢
      refine z_istore X dL_sends_117 (by decide) ?_
      refine z_iload X dL_sends_119 rfl ?_
      refine z_bipush (v := nI 6) X (by decide) dL_sends_121 ?_
      refine z_ishr X dL_sends_123 ?_
      refine z_iconst (v := nI 3) X (by decide) dL_sends_124 ?_
      refine z_runSn X Y kL_116 (tL_some2 _ 3 (by decide) (by decide)) rfl rfl (Nat.le_of_ble_eq_true rfl) ⟨by decide, by decide⟩ ⟨by decide, by decide⟩ dL_sends_125 ?_
      rintro _ _ _ ⟨s7, hs7, rfl, rfl, rfl⟩
      have loop_172 : ∀ (n9 : Nat) (P : Nat) (b : Bool) (pp m1 : Nat) (L1 : List (Nat × Nat)) (W1 : Nat → Int32) (w : Nat → zSh) (τ : Nat → zIn) (hPb : (P = 1 ∧ b = true) ∨ (P = 0 ∧ b = false)) (hw1 : zWd κ n s5 false pp m1 L1 W1) (ep : zthe (zwpP κ n s5 false) = nI pp) (hL : zLc ao ai ad κ n g2 σ2 w τ) (hn : 0 < n9), z_V p l e (zRm NL_sends) s m args below meth c 19 D cy z0 0 0 (zQm NL_sends below D cy z0 (zStp ao ai ad top) args s) 172 [some (.ref ao), some (.ref ai), some (.ref ad), some (.int x), some (.int z), some (.int (nI s5)), some (.int (nI t)), some (.int (nI s7)), some (.int (nI P)), some (.int (nI pp)), none, none, none, none, none, none, none, none, none] [.int (zb b), .int (nI s5), .ref ao] (zJg w) (zJs τ) := by
        intro n9
        induction n9 with
        | zero => intro P b pp m1 L1 W1 w τ hPb hw1 ep hL hn; exact absurd hn (Nat.not_lt_zero _)
        | succ n9 ih_172 =>
          intro P b pp m1 L1 W1 w τ hPb hw1 ep hL hn
          refine z_runVa X Y aL_69 (tB_words hL (Or.inl ⟨rfl, rfl⟩) s5 _ hs5) (hL.ob (Or.inl ⟨rfl, rfl⟩)) (hL.aq (Or.inl ⟨rfl, rfl⟩)) rfl rfl (Nat.le_of_ble_eq_true rfl) ⟨by decide, by decide⟩ ⟨by decide, by decide⟩ dL_sends_172 ?_
          rintro _ _ _ ⟨⟨w, τ, rfl, rfl, rfl, hL⟩, hP2⟩
          obtain ⟨pd, m2, L2, W2, hw2, ed⟩ := hP2
          rw [ed]
          refine z_istore X dL_sends_175 (by decide) ?_
          refine z_aload_n X dL_sends_177 rfl ?_
          refine z_iload X dL_sends_178 rfl ?_
          refine z_runVa X Y aL_98 (tB_acc hL (Or.inl ⟨rfl, rfl⟩) s5 hs5) (hL.ob (Or.inl ⟨rfl, rfl⟩)) (hL.aq (Or.inl ⟨rfl, rfl⟩)) rfl rfl (Nat.le_of_ble_eq_true rfl) ⟨by decide, by decide⟩ ⟨by decide, by decide⟩ dL_sends_180 ?_
          rintro _ _ _ ⟨w, τ, rfl, rfl, rfl, hL⟩
          have hS0 := hL.1
          have hpp := (zWd_ok hS0 hw1).2.2.2.2.1
          refine z_istore X dL_sends_183 (by decide) ?_
          refine z_aload_n X dL_sends_185 rfl ?_
          refine z_aload_n X dL_sends_186 rfl ?_
          refine z_bipush (v := nI 13) X (by decide) dL_sends_187 ?_
          refine z_iload X dL_sends_189 rfl ?_
          refine z_iload X dL_sends_191 rfl ?_
          refine z_iload X dL_sends_193 rfl ?_
          refine z_iload X dL_sends_195 rfl ?_
          refine z_iconst (v := nI 0) X (by decide) dL_sends_197 ?_
          refine z_runSn X Y kL_120 (tL_both (nI 13) (nI s5) (nI t) (nI s7) _ (nI 0) (zd_send hL.1.2.2.2 _ _ _ _) hL (fun _ _ h z1 => tL_does_13 hfl (zso_1 h.S) _ _ _ _ _ (tC_send hfl h _ _ _ _))) rfl rfl (Nat.le_of_ble_eq_true rfl) ⟨by decide, by decide⟩ ⟨by decide, by decide⟩ dL_sends_198 ?_
          rintro _ _ _ ⟨r, κ1, n1, w, τ, rfl, hR, rfl, rfl, hL⟩
          have hE := zk_snd hv hs5 ht.1 ht.2 (by omega) hR
          refine z_istore X dL_sends_201 (by decide) ?_
          rcases hE with ⟨rfl, e1, e2⟩ | ⟨rfl, l9, paid, many, Ls, W9, q6, ql1, ql8, qln, hw, eκ, en⟩
          · skip
            replace e1 := e1.symm
            subst e1
            replace e2 := e2.symm
            subst e2
            refine z_iload X dL_sends_203 rfl ?_
            refine z_ldc X qL_23 dL_sends_205 ?_
            refine z_icmp_ne (tgt := 239) X dL_sends_207 (by decide) (fun c_207 => ?_) (fun c_207 => ?_)
            · exact absurd rfl c_207
            · skip
              refine z_aload_n X dL_sends_210 rfl ?_
              refine z_iload X dL_sends_211 rfl ?_
              refine z_iconst (v := zb false) X (by decide) dL_sends_213 ?_
              refine z_runVa X Y aL_69 (tB_words hL (Or.inl ⟨rfl, rfl⟩) s5 _ hs5) (hL.ob (Or.inl ⟨rfl, rfl⟩)) (hL.aq (Or.inl ⟨rfl, rfl⟩)) rfl rfl (Nat.le_of_ble_eq_true rfl) ⟨by decide, by decide⟩ ⟨by decide, by decide⟩ dL_sends_214 ?_
              rintro _ _ _ ⟨⟨w, τ, rfl, rfl, rfl, hL⟩, -⟩
              rw [ep]
              refine z_iload X dL_sends_217 rfl ?_
              refine z_icmp_ne (tgt := 237) X dL_sends_219 (by decide) (fun c_219 => ?_) (fun c_219 => ?_)
              · exact absurd rfl c_219
              · skip
                refine z_aload_n X dL_sends_222 rfl ?_
                refine z_iload X dL_sends_223 rfl ?_
                refine z_runVa X Y aL_98 (tB_acc hL (Or.inl ⟨rfl, rfl⟩) s5 hs5) (hL.ob (Or.inl ⟨rfl, rfl⟩)) (hL.aq (Or.inl ⟨rfl, rfl⟩)) rfl rfl (Nat.le_of_ble_eq_true rfl) ⟨by decide, by decide⟩ ⟨by decide, by decide⟩ dL_sends_225 ?_
                rintro _ _ _ ⟨w, τ, rfl, rfl, rfl, hL⟩
                refine z_iload X dL_sends_228 rfl ?_
                refine z_icmp_ne (tgt := 237) X dL_sends_230 (by decide) (fun c_230 => ?_) (fun c_230 => ?_)
                · exact absurd rfl c_230
                · skip
                  refine z_iconst (v := nI 1) X (by decide) dL_sends_233 ?_
                  refine z_goto (tgt := 238) X dL_sends_234 (by decide) ?_
                  refine z_zret X (by decide) (by decide) rfl (by first | exact Or.inl rfl | exact Or.inr rfl | exact zb_01 _ | assumption) dL_sends_238 ?_
                  exact ⟨_, _, _, _, w, τ, rfl, rfl, rfl, hL, hd, ht7⟩
          · skip
            have hPb2 := hPb
            have hb9 : decide (nI P = nI 1) = b := by rcases hPb with ⟨rfl, rfl⟩ | ⟨rfl, rfl⟩ <;> decide
            rw [hb9] at hw
            have ew := (zWd_u hv.1.2.1.2.2.2.1 hw2 hw).1
            replace ew := ew.symm
            subst ew
            have hn16 : n1 6 = n 6 + 1 := by rw [en]; exact zSn_6
            have hn13 : n1 3 = n 3 := by rw [en]; exact zSn_o (by decide) (by decide) (by decide)
            have hn17 : n1 7 = n 7 := by rw [en]; exact zSn_o (by decide) (by decide) (by decide)
            have hn1w : n1 (100 + n 6) = Ls.length := by rw [en]; exact zSn_w
            have hm : ∀ k, κ1 (200 + n 6) k = zmr κ s5 t (nI s7) paid many l9 k := fun k => by rw [eκ]; exact zSd_m
            have hw3 : ∀ k, κ1 (300 + n 6) k = zWz Ls W9 k := fun k => by rw [eκ]; exact zSd_w3
            have hw4 : ∀ k, κ1 (400 + n 6) k = zWz Ls W9 k := fun k => by rw [eκ]; exact zSd_w4
            have hκ : ∀ k, κ1 4 k = κ 4 k := fun k => by rw [eκ, zSd_o (by omega) (by omega) (by omega) (by omega) (by decide) (by decide) (by omega)]
            obtain ⟨ok1, -, ok3, ok4, ok5, ok6, ok7⟩ := zWd_ok hS0 hw
            have ok1 := ok1 _ _ _ _ hw1
            have ok3 := ok3 (by omega)
            obtain ⟨S, hS1, hpr, hpb, hQ⟩ := zprice_n hv (k := s7) (by omega) ok5 ql1 ql8 qln
            obtain ⟨Q, hQ1, hQ2⟩ := hQ s5
            obtain ⟨PP, MM, hbal, hPP, hMM⟩ := zbal_pm hv s5
            have hhad : κ (100 + s5) 3 = nI PP - nI MM := (hv.2.2.2.2 s5 hs5).trans hbal
            have htm := (zkt_n (k := s7) (by omega)).2
            have hmod : S * paid * ztm s7 % (paid * ztm s7) = 0 := by rw [Nat.mul_assoc]; exact Nat.mul_mod_left _ _
            have hge : 1 * paid * 1 ≤ S * paid * ztm s7 := Nat.mul_le_mul (Nat.mul_le_mul hS1 (Nat.le_refl paid)) htm.1
            generalize S * paid * ztm s7 = PR at hpr hpb hmod hge hQ1
            have hm3 : κ1 (200 + n 6) 3 = nI paid := (hm 3).trans rfl
            have hm4 : κ1 (200 + n 6) 4 = nI PR := ((hm 4).trans rfl).trans hpr
            have hm9 : κ1 (200 + n 6) 9 = if decide (0 < many) && zfb κ s5 then 2 else 0 := (hm 9).trans rfl
            have hm10 : κ1 (200 + n 6) 10 = nI s5 := (hm 10).trans rfl
            have hac : κ1 (100 + s5) 3 = nI PP - nI MM - nI PR + nI Q := by
              rw [eκ, zSd_a (by omega), if_pos rfl]
              unfold zac
              rw [if_pos rfl, hhad, hpr, hQ2]
            have hst : κ1 (200 + n 6) 9 = 0 ∨ κ1 (200 + n 6) 9 = 2 := by
              rw [hm9]
              split
              · exact Or.inr rfl
              · exact Or.inl rfl
            have hdr : ∀ p, p < n 2 → zf κ 12 p < 5 := fun p hp => by have := (hv.1.2.2.2.2 p hp).2; omega
            have h6n : n 6 < n1 6 := by omega
            have hs9 : s5 < n1 3 := by omega
            have hPR0 : PR < 2 ^ 31 := by omega
            clear hPb hb9 hR
            rw [hhad]
            refine z_iload X dL_sends_203 rfl ?_
            refine z_ldc X qL_23 dL_sends_205 ?_
            refine z_icmp_ne (tgt := 239) X dL_sends_207 (by decide) (fun c_207 => ?_) (fun c_207 => ?_)
            · skip
              refine z_aload_n X dL_sends_239 rfl ?_
              refine z_iconst (v := nI 5) X (by decide) dL_sends_240 ?_
              refine z_ialda X hL.ar hL.da (by decide) (by decide) dL_sends_241 ?_
              rw [hL.sd]
              rw [hd5]
              refine z_istore X dL_sends_242 (by decide) ?_
              refine z_aload_n X dL_sends_244 rfl ?_
              refine z_iconst (v := nI 5) X (by decide) dL_sends_245 ?_
              refine z_iconst (v := nI 0) X (by decide) dL_sends_246 ?_
              refine z_iasta X hL.ar hL.da (by decide) (by decide) dL_sends_247 ?_
              rw [zJ_up5]
              replace hL := hL.up5 5 (nI 0)
              refine z_aload_n X dL_sends_248 rfl ?_
              refine z_iconst (v := nI 3) X (by decide) dL_sends_249 ?_
              refine z_dup2 X rfl rfl dL_sends_250 ?_
              refine z_ialda X hL.ar hL.da (by decide) (by decide) dL_sends_251 ?_
              rw [hL.sd]
              rw [show z_up σ2 1 5 (nI 0) 1 3 = nI (n 6) by simp [z_up, hd3]]
              refine z_iconst (v := nI 1) X (by decide) dL_sends_252 ?_
              refine z_iaddN X dL_sends_253 ?_
              refine z_iasta X hL.ar hL.da (by decide) (by decide) dL_sends_254 ?_
              rw [zJ_up5]
              replace hL := hL.up5 3 (nI (n 6 + 1))
              refine z_aload_n X dL_sends_255 rfl ?_
              refine z_iload X dL_sends_256 rfl ?_
              refine z_iconst (v := nI 3) X (by decide) dL_sends_258 ?_
              refine z_runVa X Y aL_85 (tB_of hL (Or.inl ⟨rfl, rfl⟩) (n 6) 3 h6n (by decide)) (hL.ob (Or.inl ⟨rfl, rfl⟩)) (hL.aq (Or.inl ⟨rfl, rfl⟩)) rfl rfl (Nat.le_of_ble_eq_true rfl) ⟨by decide, by decide⟩ ⟨by decide, by decide⟩ dL_sends_259 ?_
              rintro _ _ _ ⟨w, τ, rfl, rfl, rfl, hL⟩
              rw [show zok κ1 n1 (n 6) 3 = _ from hm4]
              refine z_istore X dL_sends_262 (by decide) ?_
              refine z_iload X dL_sends_264 rfl ?_
              refine z_iload X dL_sends_266 rfl ?_
              refine z_icmp_gt (tgt := 374) X dL_sends_268 (by decide) (fun c_268 => ?_) (fun c_268 => ?_)
              · skip
                try simp (disch := omega) only [zk0, nI_leI, nI_ltI, nI_eq, zbk_notn, zbk_not, zbk_n0, zbk_0, zb_0, zb_n0, zb_not, zb_notn, Bool.not_eq_false, Bool.not_eq_true, Bool.not_eq_true', Bool.not_eq_false', decide_eq_true_eq, decide_eq_false_iff_not, Classical.not_not] at c_268
                (exfalso; omega)
              · skip
                try simp (disch := omega) only [zk0, nI_leI, nI_ltI, nI_eq, zbk_notn, zbk_not, zbk_n0, zbk_0, zb_0, zb_n0, zb_not, zb_notn, Bool.not_eq_false, Bool.not_eq_true, Bool.not_eq_true', Bool.not_eq_false', decide_eq_true_eq, decide_eq_false_iff_not, Classical.not_not] at c_268
                refine z_iload X dL_sends_271 rfl ?_
                refine z_aload_n X dL_sends_273 rfl ?_
                refine z_iconst (v := nI 3) X (by decide) dL_sends_274 ?_
                refine z_ialda X hL.ar hL.da (by decide) (by decide) dL_sends_275 ?_
                rw [hL.sd]
                rw [show z_up (z_up σ2 1 5 (nI 0)) 1 3 (nI (n 6 + 1)) 1 3 = nI (n 6 + 1) by simp [z_up]]
                refine z_iconst (v := nI 1) X (by decide) dL_sends_276 ?_
                refine z_isubN X (by omega) dL_sends_277 ?_
                refine z_icmp_ne (tgt := 374) X dL_sends_278 (by decide) (fun c_278 => ?_) (fun c_278 => ?_)
                · skip
                  try simp (disch := omega) only [zk0, nI_leI, nI_ltI, nI_eq, zbk_notn, zbk_not, zbk_n0, zbk_0, zb_0, zb_n0, zb_not, zb_notn, Bool.not_eq_false, Bool.not_eq_true, Bool.not_eq_true', Bool.not_eq_false', decide_eq_true_eq, decide_eq_false_iff_not, Classical.not_not] at c_278
                  (exfalso; omega)
                · skip
                  try simp (disch := omega) only [zk0, nI_leI, nI_ltI, nI_eq, zbk_notn, zbk_not, zbk_n0, zbk_0, zb_0, zb_n0, zb_not, zb_notn, Bool.not_eq_false, Bool.not_eq_true, Bool.not_eq_true', Bool.not_eq_false', decide_eq_true_eq, decide_eq_false_iff_not, Classical.not_not] at c_278
                  refine z_aload_n X dL_sends_281 rfl ?_
                  refine z_iload X dL_sends_282 rfl ?_
                  refine z_iconst (v := nI 2) X (by decide) dL_sends_284 ?_
                  refine z_runVa X Y aL_85 (tB_of hL (Or.inl ⟨rfl, rfl⟩) (n 6) 2 h6n (by decide)) (hL.ob (Or.inl ⟨rfl, rfl⟩)) (hL.aq (Or.inl ⟨rfl, rfl⟩)) rfl rfl (Nat.le_of_ble_eq_true rfl) ⟨by decide, by decide⟩ ⟨by decide, by decide⟩ dL_sends_285 ?_
                  rintro _ _ _ ⟨w, τ, rfl, rfl, rfl, hL⟩
                  rw [show zok κ1 n1 (n 6) 2 = _ from hm3]
                  refine z_iload X dL_sends_288 rfl ?_
                  refine z_icmp_ne (tgt := 374) X dL_sends_290 (by decide) (fun c_290 => ?_) (fun c_290 => ?_)
                  · exact absurd rfl c_290
                  · skip
                    refine z_aload_n X dL_sends_293 rfl ?_
                    refine z_iload X dL_sends_294 rfl ?_
                    refine z_iconst (v := nI 1) X (by decide) dL_sends_296 ?_
                    refine z_runVa X Y aL_85 (tB_of hL (Or.inl ⟨rfl, rfl⟩) (n 6) 1 h6n (by decide)) (hL.ob (Or.inl ⟨rfl, rfl⟩)) (hL.aq (Or.inl ⟨rfl, rfl⟩)) rfl rfl (Nat.le_of_ble_eq_true rfl) ⟨by decide, by decide⟩ ⟨by decide, by decide⟩ dL_sends_297 ?_
                    rintro _ _ _ ⟨w, τ, rfl, rfl, rfl, hL⟩
                    rw [show zok κ1 n1 (n 6) 1 = _ from congrArg nI hn1w]
                    refine z_iload X dL_sends_300 rfl ?_
                    refine z_icmp_gt (tgt := 374) X dL_sends_302 (by decide) (fun c_302 => ?_) (fun c_302 => ?_)
                    · skip
                      try simp (disch := omega) only [zk0, nI_leI, nI_ltI, nI_eq, zbk_notn, zbk_not, zbk_n0, zbk_0, zb_0, zb_n0, zb_not, zb_notn, Bool.not_eq_false, Bool.not_eq_true, Bool.not_eq_true', Bool.not_eq_false', decide_eq_true_eq, decide_eq_false_iff_not, Classical.not_not] at c_302
                      (exfalso; omega)
                    · skip
                      try simp (disch := omega) only [zk0, nI_leI, nI_ltI, nI_eq, zbk_notn, zbk_not, zbk_n0, zbk_0, zb_0, zb_n0, zb_not, zb_notn, Bool.not_eq_false, Bool.not_eq_true, Bool.not_eq_true', Bool.not_eq_false', decide_eq_true_eq, decide_eq_false_iff_not, Classical.not_not] at c_302
                      refine z_aload_n X dL_sends_305 rfl ?_
                      refine z_iload X dL_sends_306 rfl ?_
                      refine z_runVa X Y aL_95 (tB_claim hL (Or.inl ⟨rfl, rfl⟩) (n 6) h6n) (hL.ob (Or.inl ⟨rfl, rfl⟩)) (hL.aq (Or.inl ⟨rfl, rfl⟩)) rfl rfl (Nat.le_of_ble_eq_true rfl) ⟨by decide, by decide⟩ ⟨by decide, by decide⟩ dL_sends_308 ?_
                      rintro _ _ _ ⟨⟨w, τ, rfl, rfl, rfl, hL⟩, hcl⟩
                      rw [zcl_no (fun k => (hw3 k).trans (hw4 k).symm) hcl]
                      refine z_iconst (v := -1) X (by decide) dL_sends_311 ?_
                      refine z_icmp_ne (tgt := 374) X dL_sends_312 (by decide) (fun c_312 => ?_) (fun c_312 => ?_)
                      · exact absurd rfl c_312
                      · skip
                        refine z_iload X dL_sends_315 rfl ?_
                        refine z_iload X dL_sends_317 rfl ?_
                        refine z_icmp_lt (tgt := 374) X dL_sends_319 (by decide) (fun c_319 => ?_) (fun c_319 => ?_)
                        · skip
                          try simp (disch := omega) only [zk0, nI_leI, nI_ltI, nI_eq, zbk_notn, zbk_not, zbk_n0, zbk_0, zb_0, zb_n0, zb_not, zb_notn, Bool.not_eq_false, Bool.not_eq_true, Bool.not_eq_true', Bool.not_eq_false', decide_eq_true_eq, decide_eq_false_iff_not, Classical.not_not] at c_319
                          (exfalso; omega)
                        · skip
                          try simp (disch := omega) only [zk0, nI_leI, nI_ltI, nI_eq, zbk_notn, zbk_not, zbk_n0, zbk_0, zb_0, zb_n0, zb_not, zb_notn, Bool.not_eq_false, Bool.not_eq_true, Bool.not_eq_true', Bool.not_eq_false', decide_eq_true_eq, decide_eq_false_iff_not, Classical.not_not] at c_319
                          refine z_iload X dL_sends_322 rfl ?_
                          have loop_340 : ∀ (n9 : Nat) (X9 : Nat) (w : Nat → zSh) (τ : Nat → zIn) (hX : 0 < paid * X9 ∧ paid * X9 < 2 ^ 31) (hD : PR % (paid * X9) = 0) (hL : zLc ao ai ad κ1 n1 g2 (z_up (z_up σ2 1 5 (nI 0)) 1 3 (nI (n 6 + 1))) w τ) (hn : 0 < n9), z_V p l e (zRm NL_sends) s m args below meth c 19 D cy z0 10 150 (zQm NL_sends below D cy z0 (zStp ao ai ad top) args s) 340 [some (.ref ao), some (.ref ai), some (.ref ad), some (.int x), some (.int z), some (.int (nI s5)), some (.int (nI t)), some (.int (nI s7)), some (.int (nI P)), some (.int (nI pp)), some (.int (nI paid)), some (.int (nI PP - nI MM)), some (.int (nI (n 6))), some (.int (nI (n 2))), some (.int (nI PR)), none, none, none, none] [.int (nI X9), .int (nI paid), .int (nI PR)] (zJg w) (zJs τ) := by
                            intro n9
                            induction n9 with
                            | zero => intro X9 w τ hX hD hL hn; exact absurd hn (Nat.not_lt_zero _)
                            | succ n9 ih_340 =>
                              intro X9 w τ hX hD hL hn
                              refine z_imulN X dL_sends_340 ?_
                              refine z_iremN X (by omega) (by omega) (by omega) dL_sends_341 ?_
                              rw [hD]
                              clear hD hX hmod
                              refine z_if_ne (tgt := 374) X dL_sends_342 (by decide) (fun c_342 => ?_) (fun c_342 => ?_)
                              · exact absurd rfl c_342
                              · skip
                                refine z_aload_n X dL_sends_345 rfl ?_
                                refine z_iload X dL_sends_346 rfl ?_
                                refine z_runVa X Y aL_98 (tB_acc hL (Or.inl ⟨rfl, rfl⟩) s5 hs9) (hL.ob (Or.inl ⟨rfl, rfl⟩)) (hL.aq (Or.inl ⟨rfl, rfl⟩)) rfl rfl (Nat.le_of_ble_eq_true rfl) ⟨by decide, by decide⟩ ⟨by decide, by decide⟩ dL_sends_348 ?_
                                rintro _ _ _ ⟨w, τ, rfl, rfl, rfl, hL⟩
                                rw [hac]
                                refine z_iload X dL_sends_351 rfl ?_
                                refine z_icmp_gt (tgt := 374) X dL_sends_353 (by decide) (fun c_353 => ?_) (fun c_353 => ?_)
                                · exact absurd c_353 (zmoney hPP hMM hpb hQ1).1
                                · skip
                                  refine z_aload_n X dL_sends_356 rfl ?_
                                  refine z_iload X dL_sends_357 rfl ?_
                                  refine z_runVa X Y aL_98 (tB_acc hL (Or.inl ⟨rfl, rfl⟩) s5 hs9) (hL.ob (Or.inl ⟨rfl, rfl⟩)) (hL.aq (Or.inl ⟨rfl, rfl⟩)) rfl rfl (Nat.le_of_ble_eq_true rfl) ⟨by decide, by decide⟩ ⟨by decide, by decide⟩ dL_sends_359 ?_
                                  rintro _ _ _ ⟨w, τ, rfl, rfl, rfl, hL⟩
                                  rw [hac]
                                  refine z_iload X dL_sends_362 rfl ?_
                                  refine z_iload X dL_sends_364 rfl ?_
                                  refine z_isub X dL_sends_366 ?_
                                  refine z_icmp_lt (tgt := 374) X dL_sends_367 (by decide) (fun c_367 => ?_) (fun c_367 => ?_)
                                  · exact absurd c_367 (zmoney hPP hMM hpb hQ1).2
                                  · skip
                                    refine z_iconst (v := nI 1) X (by decide) dL_sends_370 ?_
                                    refine z_goto (tgt := 375) X dL_sends_371 (by decide) ?_
                                    refine z_istore X dL_sends_375 (by decide) ?_
                                    have loop_383 : ∀ (n9 : Nat) (k : Nat) (x18 : Option Value) (w : Nat → zSh) (τ : Nat → zIn) (hk : k ≤ Ls.length) (hL : zLc ao ai ad κ1 n1 g2 (z_up (z_up σ2 1 5 (nI 0)) 1 3 (nI (n 6 + 1))) w τ) (hn : Ls.length - k < n9), z_V p l e (zRm NL_sends) s m args below meth c 19 D cy z0 10 150 (zQm NL_sends below D cy z0 (zStp ao ai ad top) args s) 383 [some (.ref ao), some (.ref ai), some (.ref ad), some (.int x), some (.int z), some (.int (nI s5)), some (.int (nI t)), some (.int (nI s7)), some (.int (nI P)), some (.int (nI pp)), some (.int (nI paid)), some (.int (nI PP - nI MM)), some (.int (nI (n 6))), some (.int (nI (n 2))), some (.int (nI PR)), some (.int (nI 1)), some (.int (nI (zcnt (fun i => ¬ zWz Ls W9 i < 0) k))), some (.int (nI k)), x18] [] (zJg w) (zJs τ) := by
                                      intro n9
                                      induction n9 with
                                      | zero => intro k x18 w τ hk hL hn; exact absurd hn (Nat.not_lt_zero _)
                                      | succ n9 ih_383 =>
                                        intro k x18 w τ hk hL hn
                                        have hzk := zcnt_le (fun i => ¬ zWz Ls W9 i < 0) k
                                        refine z_iload X dL_sends_383 rfl ?_
                                        refine z_aload_n X dL_sends_385 rfl ?_
                                        refine z_iload X dL_sends_386 rfl ?_
                                        refine z_iconst (v := nI 1) X (by decide) dL_sends_388 ?_
                                        refine z_runVa X Y aL_85 (tB_of hL (Or.inl ⟨rfl, rfl⟩) (n 6) 1 h6n (by decide)) (hL.ob (Or.inl ⟨rfl, rfl⟩)) (hL.aq (Or.inl ⟨rfl, rfl⟩)) rfl rfl (Nat.le_of_ble_eq_true rfl) ⟨by decide, by decide⟩ ⟨by decide, by decide⟩ dL_sends_389 ?_
                                        rintro _ _ _ ⟨w, τ, rfl, rfl, rfl, hL⟩
                                        rw [show zok κ1 n1 (n 6) 1 = _ from congrArg nI hn1w]
                                        refine z_icmp_ge (tgt := 474) X dL_sends_392 (by decide) (fun c_392 => ?_) (fun c_392 => ?_)
                                        · skip
                                          try simp (disch := omega) only [zk0, nI_leI, nI_ltI, nI_eq, zbk_notn, zbk_not, zbk_n0, zbk_0, zb_0, zb_n0, zb_not, zb_notn, Bool.not_eq_false, Bool.not_eq_true, Bool.not_eq_true', Bool.not_eq_false', decide_eq_true_eq, decide_eq_false_iff_not, Classical.not_not] at c_392
                                          have ek : k = Ls.length := by omega
                                          subst ek
                                          have loop_494 : ∀ (n9 : Nat) (x16 x18 : Option Value) (w : Nat → zSh) (τ : Nat → zIn) (hL : zLc ao ai ad κ1 n1 g2 (z_up (z_up σ2 1 5 (nI 0)) 1 3 (nI (n 6 + 1))) w τ) (hn : 0 < n9), z_V p l e (zRm NL_sends) s m args below meth c 19 D cy z0 10 150 (zQm NL_sends below D cy z0 (zStp ao ai ad top) args s) 494 [some (.ref ao), some (.ref ai), some (.ref ad), some (.int x), some (.int z), some (.int (nI s5)), some (.int (nI t)), some (.int (nI s7)), some (.int (nI P)), some (.int (nI pp)), some (.int (nI paid)), some (.int (nI PP - nI MM)), some (.int (nI (n 6))), some (.int (nI (n 2))), some (.int (nI PR)), some (.int (nI 1)), x16, some (.int (nI Ls.length)), x18] [] (zJg w) (zJs τ) := by
                                            intro n9
                                            induction n9 with
                                            | zero => intro x16 x18 w τ hL hn; exact absurd hn (Nat.not_lt_zero _)
                                            | succ n9 ih_494 =>
                                              intro x16 x18 w τ hL hn
                                              rcases hst with hst | hst
                                              · skip
                                                skip
                                                refine z_aload_n X dL_sends_494 rfl ?_
                                                refine z_iload X dL_sends_495 rfl ?_
                                                refine z_iconst (v := nI 0) X (by decide) dL_sends_497 ?_
                                                refine z_runVa X Y aL_85 (tB_of hL (Or.inl ⟨rfl, rfl⟩) (n 6) 0 h6n (by decide)) (hL.ob (Or.inl ⟨rfl, rfl⟩)) (hL.aq (Or.inl ⟨rfl, rfl⟩)) rfl rfl (Nat.le_of_ble_eq_true rfl) ⟨by decide, by decide⟩ ⟨by decide, by decide⟩ dL_sends_498 ?_
                                                rintro _ _ _ ⟨w, τ, rfl, rfl, rfl, hL⟩
                                                rw [show zok κ1 n1 (n 6) 0 = κ1 (200 + n 6) 9 from rfl, hst]
                                                refine z_if_eq (tgt := 516) X dL_sends_501 (by decide) (fun c_501 => ?_) (fun c_501 => ?_)
                                                · skip
                                                  refine z_iconst (v := nI 1) X (by decide) dL_sends_516 ?_
                                                  refine z_goto (tgt := 521) X dL_sends_517 (by decide) ?_
                                                  refine z_zret X (by decide) (by decide) rfl (by first | exact Or.inl rfl | exact Or.inr rfl | exact zb_01 _ | assumption) dL_sends_521 ?_
                                                  exact ⟨κ1, n1, _, _, w, τ, rfl, rfl, rfl, hL, by rw [en]; exact zDf_sent hd hκ, by omega⟩
                                                · exact absurd rfl c_501
                                              · skip
                                                skip
                                                refine z_aload_n X dL_sends_494 rfl ?_
                                                refine z_iload X dL_sends_495 rfl ?_
                                                refine z_iconst (v := nI 0) X (by decide) dL_sends_497 ?_
                                                refine z_runVa X Y aL_85 (tB_of hL (Or.inl ⟨rfl, rfl⟩) (n 6) 0 h6n (by decide)) (hL.ob (Or.inl ⟨rfl, rfl⟩)) (hL.aq (Or.inl ⟨rfl, rfl⟩)) rfl rfl (Nat.le_of_ble_eq_true rfl) ⟨by decide, by decide⟩ ⟨by decide, by decide⟩ dL_sends_498 ?_
                                                rintro _ _ _ ⟨w, τ, rfl, rfl, rfl, hL⟩
                                                rw [show zok κ1 n1 (n 6) 0 = κ1 (200 + n 6) 9 from rfl, hst]
                                                refine z_if_eq (tgt := 516) X dL_sends_501 (by decide) (fun c_501 => ?_) (fun c_501 => ?_)
                                                · exact absurd c_501 (by decide)
                                                · skip
                                                  refine z_aload_n X dL_sends_504 rfl ?_
                                                  refine z_iload X dL_sends_505 rfl ?_
                                                  refine z_iconst (v := nI 5) X (by decide) dL_sends_507 ?_
                                                  refine z_runVa X Y aL_85 (tB_of hL (Or.inl ⟨rfl, rfl⟩) (n 6) 5 h6n (by decide)) (hL.ob (Or.inl ⟨rfl, rfl⟩)) (hL.aq (Or.inl ⟨rfl, rfl⟩)) rfl rfl (Nat.le_of_ble_eq_true rfl) ⟨by decide, by decide⟩ ⟨by decide, by decide⟩ dL_sends_508 ?_
                                                  rintro _ _ _ ⟨w, τ, rfl, rfl, rfl, hL⟩
                                                  rw [show zok κ1 n1 (n 6) 5 = nI s5 from (if_pos hst).trans hm10]
                                                  refine z_iload X dL_sends_511 rfl ?_
                                                  refine z_icmp_ne (tgt := 520) X dL_sends_513 (by decide) (fun c_513 => ?_) (fun c_513 => ?_)
                                                  · exact absurd rfl c_513
                                                  · skip
                                                    refine z_iconst (v := nI 1) X (by decide) dL_sends_516 ?_
                                                    refine z_goto (tgt := 521) X dL_sends_517 (by decide) ?_
                                                    refine z_zret X (by decide) (by decide) rfl (by first | exact Or.inl rfl | exact Or.inr rfl | exact zb_01 _ | assumption) dL_sends_521 ?_
                                                    exact ⟨κ1, n1, _, _, w, τ, rfl, rfl, rfl, hL, by rw [en]; exact zDf_sent hd hκ, by omega⟩
                                          refine z_iload X dL_sends_474 rfl ?_
                                          refine z_if_eq (tgt := 520) X dL_sends_476 (by decide) (fun c_476 => ?_) (fun c_476 => ?_)
                                          · first | exact absurd c_476 (by decide) | exact absurd (by decide) c_476
                                          · skip
                                            refine z_iload X dL_sends_479 rfl ?_
                                            refine z_if_gt (tgt := 494) X dL_sends_481 (by decide) (fun c_481 => ?_) (fun c_481 => ?_)
                                            · skip
                                              exact loop_494 1 _ _ w τ hL (by decide)
                                            · skip
                                              have h90 : κ1 (200 + n 6) 9 = 0 := by
                                                rw [hm9]
                                                refine if_neg (fun q => ?_)
                                                have q2 : 0 < many := of_decide_eq_true (Bool.and_eq_true_iff.mp q).1
                                                obtain ⟨i, hi, hz⟩ := ok7 q2
                                                have h5 := zcnt_lt (P := fun i => ¬ zWz Ls W9 i < 0) hi (show ¬ zWz Ls W9 i < 0 by rw [show zWz Ls W9 i = W9 i from if_pos hi]; exact Int32.not_lt.mpr (zwd_nn hz))
                                                have c9 : ¬ 0 < zcnt (fun i => ¬ zWz Ls W9 i < 0) Ls.length := fun q => c_481 ((nI_ltI (by decide) (by omega)).mpr q)
                                                omega
                                              refine z_aload_n X dL_sends_484 rfl ?_
                                              refine z_iload X dL_sends_485 rfl ?_
                                              refine z_iconst (v := nI 0) X (by decide) dL_sends_487 ?_
                                              refine z_runVa X Y aL_85 (tB_of hL (Or.inl ⟨rfl, rfl⟩) (n 6) 0 h6n (by decide)) (hL.ob (Or.inl ⟨rfl, rfl⟩)) (hL.aq (Or.inl ⟨rfl, rfl⟩)) rfl rfl (Nat.le_of_ble_eq_true rfl) ⟨by decide, by decide⟩ ⟨by decide, by decide⟩ dL_sends_488 ?_
                                              rintro _ _ _ ⟨w, τ, rfl, rfl, rfl, hL⟩
                                              rw [show zok κ1 n1 (n 6) 0 = κ1 (200 + n 6) 9 from rfl, h90]
                                              refine z_if_ne (tgt := 520) X dL_sends_491 (by decide) (fun c_491 => ?_) (fun c_491 => ?_)
                                              · exact absurd rfl c_491
                                              · skip
                                                exact loop_494 1 _ _ w τ hL (by decide)
                                        · skip
                                          try simp (disch := omega) only [zk0, nI_leI, nI_ltI, nI_eq, zbk_notn, zbk_not, zbk_n0, zbk_0, zb_0, zb_n0, zb_not, zb_notn, Bool.not_eq_false, Bool.not_eq_true, Bool.not_eq_true', Bool.not_eq_false', decide_eq_true_eq, decide_eq_false_iff_not, Classical.not_not] at c_392
                                          refine z_iload X dL_sends_395 rfl ?_
                                          refine z_if_eq (tgt := 474) X dL_sends_397 (by decide) (fun c_397 => ?_) (fun c_397 => ?_)
                                          · first | exact absurd c_397 (by decide) | exact absurd (by decide) c_397
                                          · skip
                                            refine z_aload_n X dL_sends_400 rfl ?_
                                            refine z_iload X dL_sends_401 rfl ?_
                                            refine z_iload X dL_sends_403 rfl ?_
                                            refine z_iconst (v := zb true) X (by decide) dL_sends_405 ?_
                                            refine z_runVa X Y aL_88 (tB_word hL (Or.inl ⟨rfl, rfl⟩) true (n 6) k h6n (by omega)) (hL.ob (Or.inl ⟨rfl, rfl⟩)) (hL.aq (Or.inl ⟨rfl, rfl⟩)) rfl rfl (Nat.le_of_ble_eq_true rfl) ⟨by decide, by decide⟩ ⟨by decide, by decide⟩ dL_sends_406 ?_
                                            rintro _ _ _ ⟨w, τ, rfl, rfl, rfl, hL⟩
                                            rw [if_pos (rfl : true = true), hw3 k]
                                            refine z_istore X dL_sends_409 (by decide) ?_
                                            have hsw := zwsgn ok6 hdr (show k < Ls.length by omega)
                                            rcases Classical.em (zWz Ls W9 k < 0) with hneg | hneg
                                            · skip
                                              have h6 := hsw.1 hneg
                                              refine z_iload X dL_sends_411 rfl ?_
                                              refine z_iload X dL_sends_413 rfl ?_
                                              refine z_if_lt (tgt := 422) X dL_sends_415 (by decide) (fun c_415 => ?_) (fun c_415 => ?_)
                                              · skip
                                                refine z_iconst (v := nI 0) X (by decide) dL_sends_422 ?_
                                                refine z_iaddN X dL_sends_423 ?_
                                                refine z_istore X dL_sends_424 (by decide) ?_
                                                refine z_iload X dL_sends_426 rfl ?_
                                                refine z_aload_n X dL_sends_428 rfl ?_
                                                refine z_iload X dL_sends_429 rfl ?_
                                                refine z_iload X dL_sends_431 rfl ?_
                                                refine z_iconst (v := zb false) X (by decide) dL_sends_433 ?_
                                                refine z_runVa X Y aL_88 (tB_word hL (Or.inl ⟨rfl, rfl⟩) false (n 6) k h6n (by omega)) (hL.ob (Or.inl ⟨rfl, rfl⟩)) (hL.aq (Or.inl ⟨rfl, rfl⟩)) rfl rfl (Nat.le_of_ble_eq_true rfl) ⟨by decide, by decide⟩ ⟨by decide, by decide⟩ dL_sends_434 ?_
                                                rintro _ _ _ ⟨w, τ, rfl, rfl, rfl, hL⟩
                                                rw [if_neg Bool.false_ne_true, hw4 k]
                                                refine z_icmp_ne (tgt := 465) X dL_sends_437 (by decide) (fun c_437 => ?_) (fun c_437 => ?_)
                                                · exact absurd rfl c_437
                                                · skip
                                                  refine z_iload X dL_sends_440 rfl ?_
                                                  refine z_if_lt (tgt := 454) X dL_sends_442 (by decide) (fun c_442 => ?_) (fun c_442 => ?_)
                                                  · skip
                                                    refine z_iload X dL_sends_454 rfl ?_
                                                    refine z_bipush (v := -6) X (by decide) dL_sends_456 ?_
                                                    refine z_icmp_lt (tgt := 465) X dL_sends_458 (by decide) (fun c_458 => ?_) (fun c_458 => ?_)
                                                    · exact absurd c_458 h6
                                                    · skip
                                                      refine z_iconst (v := nI 1) X (by decide) dL_sends_461 ?_
                                                      refine z_goto (tgt := 466) X dL_sends_462 (by decide) ?_
                                                      refine z_istore X dL_sends_466 (by decide) ?_
                                                      refine z_inc1 X dL_sends_468 rfl (by decide) ?_
                                                      refine z_goto (tgt := 383) X dL_sends_471 (by decide) ?_
                                                      have e2 := ih_383 (k + 1) (some (.int (zWz Ls W9 k))) w τ (by omega) hL (by omega)
                                                      first | (rw [zcnt_n (P := fun i => ¬ zWz Ls W9 i < 0) (fun q => q hneg)] at e2; exact e2) | (rw [zcnt_y (P := fun i => ¬ zWz Ls W9 i < 0) hneg] at e2; exact e2)
                                                  · exact absurd hneg c_442
                                              · exact absurd hneg c_415
                                            · skip
                                              have hb2 : P = 1 := by
                                                have q := hsw.2 hneg
                                                rcases hPb2 with ⟨q1, -⟩ | ⟨-, q2⟩
                                                · exact q1
                                                · rw [q2] at q; exact absurd q (by decide)
                                              refine z_iload X dL_sends_411 rfl ?_
                                              refine z_iload X dL_sends_413 rfl ?_
                                              refine z_if_lt (tgt := 422) X dL_sends_415 (by decide) (fun c_415 => ?_) (fun c_415 => ?_)
                                              · exact absurd c_415 hneg
                                              · skip
                                                refine z_iconst (v := nI 1) X (by decide) dL_sends_418 ?_
                                                refine z_goto (tgt := 423) X dL_sends_419 (by decide) ?_
                                                refine z_iaddN X dL_sends_423 ?_
                                                refine z_istore X dL_sends_424 (by decide) ?_
                                                refine z_iload X dL_sends_426 rfl ?_
                                                refine z_aload_n X dL_sends_428 rfl ?_
                                                refine z_iload X dL_sends_429 rfl ?_
                                                refine z_iload X dL_sends_431 rfl ?_
                                                refine z_iconst (v := zb false) X (by decide) dL_sends_433 ?_
                                                refine z_runVa X Y aL_88 (tB_word hL (Or.inl ⟨rfl, rfl⟩) false (n 6) k h6n (by omega)) (hL.ob (Or.inl ⟨rfl, rfl⟩)) (hL.aq (Or.inl ⟨rfl, rfl⟩)) rfl rfl (Nat.le_of_ble_eq_true rfl) ⟨by decide, by decide⟩ ⟨by decide, by decide⟩ dL_sends_434 ?_
                                                rintro _ _ _ ⟨w, τ, rfl, rfl, rfl, hL⟩
                                                rw [if_neg Bool.false_ne_true, hw4 k]
                                                refine z_icmp_ne (tgt := 465) X dL_sends_437 (by decide) (fun c_437 => ?_) (fun c_437 => ?_)
                                                · exact absurd rfl c_437
                                                · skip
                                                  refine z_iload X dL_sends_440 rfl ?_
                                                  refine z_if_lt (tgt := 454) X dL_sends_442 (by decide) (fun c_442 => ?_) (fun c_442 => ?_)
                                                  · exact absurd c_442 hneg
                                                  · skip
                                                    refine z_iload X dL_sends_445 rfl ?_
                                                    refine z_iconst (v := nI 1) X (by decide) dL_sends_447 ?_
                                                    refine z_icmp_ne (tgt := 465) X dL_sends_448 (by decide) (fun c_448 => ?_) (fun c_448 => ?_)
                                                    · skip
                                                      try simp (disch := omega) only [zk0, nI_leI, nI_ltI, nI_eq, zbk_notn, zbk_not, zbk_n0, zbk_0, zb_0, zb_n0, zb_not, zb_notn, Bool.not_eq_false, Bool.not_eq_true, Bool.not_eq_true', Bool.not_eq_false', decide_eq_true_eq, decide_eq_false_iff_not, Classical.not_not] at c_448
                                                      (exfalso; omega)
                                                    · skip
                                                      try simp (disch := omega) only [zk0, nI_leI, nI_ltI, nI_eq, zbk_notn, zbk_not, zbk_n0, zbk_0, zb_0, zb_n0, zb_not, zb_notn, Bool.not_eq_false, Bool.not_eq_true, Bool.not_eq_true', Bool.not_eq_false', decide_eq_true_eq, decide_eq_false_iff_not, Classical.not_not] at c_448
                                                      refine z_goto (tgt := 461) X dL_sends_451 (by decide) ?_
                                                      refine z_iconst (v := nI 1) X (by decide) dL_sends_461 ?_
                                                      refine z_goto (tgt := 466) X dL_sends_462 (by decide) ?_
                                                      refine z_istore X dL_sends_466 (by decide) ?_
                                                      refine z_inc1 X dL_sends_468 rfl (by decide) ?_
                                                      refine z_goto (tgt := 383) X dL_sends_471 (by decide) ?_
                                                      have e2 := ih_383 (k + 1) (some (.int (zWz Ls W9 k))) w τ (by omega) hL (by omega)
                                                      first | (rw [zcnt_n (P := fun i => ¬ zWz Ls W9 i < 0) (fun q => q hneg)] at e2; exact e2) | (rw [zcnt_y (P := fun i => ¬ zWz Ls W9 i < 0) hneg] at e2; exact e2)
                                    refine z_iconst (v := nI 0) X (by decide) dL_sends_377 ?_
                                    refine z_istore X dL_sends_378 (by decide) ?_
                                    refine z_iconst (v := nI 0) X (by decide) dL_sends_380 ?_
                                    refine z_istore X dL_sends_381 (by decide) ?_
                                    exact loop_383 (Ls.length - 0 + 1) 0 _ w τ (Nat.zero_le _) hL (by omega)
                          refine z_iload X dL_sends_324 rfl ?_
                          refine z_iload X dL_sends_326 rfl ?_
                          refine z_iconst (v := nI 2) X (by decide) dL_sends_328 ?_
                          refine z_icmp_ne (tgt := 336) X dL_sends_329 (by decide) (fun c_329 => ?_) (fun c_329 => ?_)
                          · skip
                            try simp (disch := omega) only [zk0, nI_leI, nI_ltI, nI_eq, zbk_notn, zbk_not, zbk_n0, zbk_0, zb_0, zb_n0, zb_not, zb_notn, Bool.not_eq_false, Bool.not_eq_true, Bool.not_eq_true', Bool.not_eq_false', decide_eq_true_eq, decide_eq_false_iff_not, Classical.not_not] at c_329
                            have hD := hmod
                            rw [show ztm s7 = s7 + 1 from ztm_lt (by omega) c_329] at hD
                            have hX : 0 < paid * (s7 + 1) ∧ paid * (s7 + 1) < 2 ^ 31 := ⟨Nat.mul_pos (by omega) (by omega), by have := Nat.mul_le_mul (show paid ≤ 480 by omega) (show s7 + 1 ≤ 3 by omega); omega⟩
                            refine z_iload X dL_sends_336 rfl ?_
                            refine z_iconst (v := nI 1) X (by decide) dL_sends_338 ?_
                            refine z_iaddN X dL_sends_339 ?_
                            exact loop_340 1 _ w τ hX hD hL (by decide)
                          · skip
                            try simp (disch := omega) only [zk0, nI_leI, nI_ltI, nI_eq, zbk_notn, zbk_not, zbk_n0, zbk_0, zb_0, zb_n0, zb_not, zb_notn, Bool.not_eq_false, Bool.not_eq_true, Bool.not_eq_true', Bool.not_eq_false', decide_eq_true_eq, decide_eq_false_iff_not, Classical.not_not] at c_329
                            have hD := hmod
                            rw [show ztm s7 = 4 by rw [c_329]; rfl] at hD
                            have hX : 0 < paid * 4 ∧ paid * 4 < 2 ^ 31 := by omega
                            refine z_iconst (v := nI 4) X (by decide) dL_sends_332 ?_
                            refine z_goto (tgt := 340) X dL_sends_333 (by decide) ?_
                            exact loop_340 1 _ w τ hX hD hL (by decide)
            · exact absurd c_207 (nIn_neg (by omega) (by decide))
      refine z_istore X dL_sends_128 (by decide) ?_
      refine z_iload X dL_sends_130 rfl ?_
      refine z_bipush (v := nI 8) X (by decide) dL_sends_132 ?_
      refine z_ishr X dL_sends_134 ?_
      refine z_iconst (v := nI 3) X (by decide) dL_sends_135 ?_
      refine z_runSn X Y kL_116 (tL_some2 _ 3 (by decide) (by decide)) rfl rfl (Nat.le_of_ble_eq_true rfl) ⟨by decide, by decide⟩ ⟨by decide, by decide⟩ dL_sends_136 ?_
      rintro _ _ _ ⟨s8, hs8, rfl, rfl, rfl⟩
      refine z_if_le (tgt := 146) X dL_sends_139 (by decide) (fun c_139 => ?_) (fun c_139 => ?_)
      · skip
        try simp (disch := omega) only [zk0, nI_leI, nI_ltI, nI_eq, zbk_notn, zbk_not, zbk_n0, zbk_0, zb_0, zb_n0, zb_not, zb_notn, Bool.not_eq_false, Bool.not_eq_true, Bool.not_eq_true', Bool.not_eq_false', decide_eq_true_eq, decide_eq_false_iff_not, Classical.not_not] at c_139
        refine z_iconst (v := nI 0) X (by decide) dL_sends_146 ?_
        refine z_istore X dL_sends_147 (by decide) ?_
        refine z_aload_n X dL_sends_149 rfl ?_
        refine z_iload X dL_sends_150 rfl ?_
        refine z_iconst (v := zb false) X (by decide) dL_sends_152 ?_
        refine z_runVa X Y aL_69 (tB_words hL (Or.inl ⟨rfl, rfl⟩) s5 _ hs5) (hL.ob (Or.inl ⟨rfl, rfl⟩)) (hL.aq (Or.inl ⟨rfl, rfl⟩)) rfl rfl (Nat.le_of_ble_eq_true rfl) ⟨by decide, by decide⟩ ⟨by decide, by decide⟩ dL_sends_153 ?_
        rintro _ _ _ ⟨⟨w, τ, rfl, rfl, rfl, hL⟩, hP1⟩
        obtain ⟨pp, m1, L1, W1, hw1, ep⟩ := hP1
        rw [ep]
        refine z_istore X dL_sends_156 (by decide) ?_
        refine z_aload_n X dL_sends_158 rfl ?_
        refine z_iload X dL_sends_159 rfl ?_
        refine z_iload X dL_sends_161 rfl ?_
        refine z_iconst (v := nI 1) X (by decide) dL_sends_163 ?_
        refine z_icmp_ne (tgt := 171) X dL_sends_164 (by decide) (fun c_164 => ?_) (fun c_164 => ?_)
        · skip
          refine z_iconst (v := zb false) X (by decide) dL_sends_171 ?_
          exact loop_172 1 _ _ _ _ _ _ w τ (by first | exact Or.inl ⟨rfl, rfl⟩ | exact Or.inr ⟨rfl, rfl⟩) hw1 ep hL (by decide)
        · first | exact absurd c_164 (by decide) | exact absurd (by decide) c_164
      · skip
        try simp (disch := omega) only [zk0, nI_leI, nI_ltI, nI_eq, zbk_notn, zbk_not, zbk_n0, zbk_0, zb_0, zb_n0, zb_not, zb_notn, Bool.not_eq_false, Bool.not_eq_true, Bool.not_eq_true', Bool.not_eq_false', decide_eq_true_eq, decide_eq_false_iff_not, Classical.not_not] at c_139
        refine z_iconst (v := nI 1) X (by decide) dL_sends_142 ?_
        refine z_goto (tgt := 147) X dL_sends_143 (by decide) ?_
        refine z_istore X dL_sends_147 (by decide) ?_
        refine z_aload_n X dL_sends_149 rfl ?_
        refine z_iload X dL_sends_150 rfl ?_
        refine z_iconst (v := zb false) X (by decide) dL_sends_152 ?_
        refine z_runVa X Y aL_69 (tB_words hL (Or.inl ⟨rfl, rfl⟩) s5 _ hs5) (hL.ob (Or.inl ⟨rfl, rfl⟩)) (hL.aq (Or.inl ⟨rfl, rfl⟩)) rfl rfl (Nat.le_of_ble_eq_true rfl) ⟨by decide, by decide⟩ ⟨by decide, by decide⟩ dL_sends_153 ?_
        rintro _ _ _ ⟨⟨w, τ, rfl, rfl, rfl, hL⟩, hP1⟩
        obtain ⟨pp, m1, L1, W1, hw1, ep⟩ := hP1
        rw [ep]
        refine z_istore X dL_sends_156 (by decide) ?_
        refine z_aload_n X dL_sends_158 rfl ?_
        refine z_iload X dL_sends_159 rfl ?_
        refine z_iload X dL_sends_161 rfl ?_
        refine z_iconst (v := nI 1) X (by decide) dL_sends_163 ?_
        refine z_icmp_ne (tgt := 171) X dL_sends_164 (by decide) (fun c_164 => ?_) (fun c_164 => ?_)
        · first | exact absurd c_164 (by decide) | exact absurd (by decide) c_164
        · skip
          refine z_iconst (v := zb true) X (by decide) dL_sends_167 ?_
          refine z_goto (tgt := 172) X dL_sends_168 (by decide) ?_
          exact loop_172 1 _ _ _ _ _ _ w τ (by first | exact Or.inl ⟨rfl, rfl⟩ | exact Or.inr ⟨rfl, rfl⟩) hw1 ep hL (by decide)
    · skip
      try simp (disch := omega) only [zk0, nI_leI, nI_ltI, nI_eq, zbk_notn, zbk_not, zbk_n0, zbk_0, zb_0, zb_n0, zb_not, zb_notn, Bool.not_eq_false, Bool.not_eq_true, Bool.not_eq_true', Bool.not_eq_false', decide_eq_true_eq, decide_eq_false_iff_not, Classical.not_not] at c_11
      refine z_aload_n X dL_sends_14 rfl ?_
      refine z_aload_n X dL_sends_15 rfl ?_
      refine z_bipush (v := nI 11) X (by decide) dL_sends_16 ?_
      refine z_iload X dL_sends_18 rfl ?_
      refine z_iconst (v := nI 5) X (by decide) dL_sends_20 ?_
      refine z_runSn X Y kL_116 (tL_some2 _ 5 (by decide) (by decide)) rfl rfl (Nat.le_of_ble_eq_true rfl) ⟨by decide, by decide⟩ ⟨by decide, by decide⟩ dL_sends_21 ?_
      rintro _ _ _ ⟨s6, hs6, rfl, rfl, rfl⟩
      refine z_iconst (v := nI 0) X (by decide) dL_sends_24 ?_
      refine z_iconst (v := nI 0) X (by decide) dL_sends_25 ?_
      refine z_iconst (v := nI 0) X (by decide) dL_sends_26 ?_
      refine z_iconst (v := nI 0) X (by decide) dL_sends_27 ?_
      refine z_runSn X Y kL_120 (tL_both (nI 11) (nI s6) (nI 0) (nI 0) (nI 0) (nI 0) (zd_draft _) hL (fun _ _ h z1 => tL_does_11 hfl (zso_1 h.S) _ _ _ _ _ (tC_draft hfl h _))) rfl rfl (Nat.le_of_ble_eq_true rfl) ⟨by decide, by decide⟩ ⟨by decide, by decide⟩ dL_sends_28 ?_
      rintro _ _ _ ⟨r, κ1, n1, w, τ, rfl, hR, rfl, rfl, hL⟩
      have hE := zk_dft h0 hs6 hR
      refine z_istore X dL_sends_31 (by decide) ?_
      rcases hE with ⟨rfl, hκ, rfl⟩ | ⟨rfl, h12, e1, e2⟩
      · skip
        skip
        refine z_aload_n X dL_sends_33 rfl ?_
        refine z_iconst (v := nI 5) X (by decide) dL_sends_34 ?_
        refine z_dup2 X rfl rfl dL_sends_35 ?_
        refine z_ialda X hL.ar hL.da (by decide) (by decide) dL_sends_36 ?_
        rw [hL.sd]
        rw [hd5]
        refine z_iload X dL_sends_37 rfl ?_
        refine z_if_lt (tgt := 46) X dL_sends_39 (by decide) (fun c_39 => ?_) (fun c_39 => ?_)
        · skip
          try simp (disch := omega) only [zk0, nI_leI, nI_ltI, nI_eq, zbk_notn, zbk_not, zbk_n0, zbk_0, zb_0, zb_n0, zb_not, zb_notn, Bool.not_eq_false, Bool.not_eq_true, Bool.not_eq_true', Bool.not_eq_false', decide_eq_true_eq, decide_eq_false_iff_not, Classical.not_not] at c_39
          (exfalso; omega)
        · skip
          try simp (disch := omega) only [zk0, nI_leI, nI_ltI, nI_eq, zbk_notn, zbk_not, zbk_n0, zbk_0, zb_0, zb_n0, zb_not, zb_notn, Bool.not_eq_false, Bool.not_eq_true, Bool.not_eq_true', Bool.not_eq_false', decide_eq_true_eq, decide_eq_false_iff_not, Classical.not_not] at c_39
          refine z_iconst (v := nI 1) X (by decide) dL_sends_42 ?_
          refine z_goto (tgt := 47) X dL_sends_43 (by decide) ?_
          refine z_iaddN X dL_sends_47 ?_
          refine z_iasta X hL.ar hL.da (by decide) (by decide) dL_sends_48 ?_
          rw [zJ_up5]
          replace hL := hL.up5 5 (nI (n 2 + 1))
          refine z_iload X dL_sends_49 rfl ?_
          refine z_ldc X qL_23 dL_sends_51 ?_
          refine z_icmp_ne (tgt := 72) X dL_sends_53 (by decide) (fun c_53 => ?_) (fun c_53 => ?_)
          · skip
            refine z_iload X dL_sends_72 rfl ?_
            refine z_aload_n X dL_sends_74 rfl ?_
            refine z_iconst (v := nI 5) X (by decide) dL_sends_75 ?_
            refine z_ialda X hL.ar hL.da (by decide) (by decide) dL_sends_76 ?_
            rw [hL.sd]
            rw [show z_up σ2 1 5 (nI (n 2 + 1)) 1 5 = nI (n 2 + 1) by simp [z_up]]
            refine z_icmp_ne (tgt := 84) X dL_sends_77 (by decide) (fun c_77 => ?_) (fun c_77 => ?_)
            · exact absurd rfl c_77
            · skip
              refine z_iconst (v := nI 1) X (by decide) dL_sends_80 ?_
              refine z_goto (tgt := 85) X dL_sends_81 (by decide) ?_
              refine z_zret X (by decide) (by decide) rfl (by first | exact Or.inl rfl | exact Or.inr rfl | exact zb_01 _ | assumption) dL_sends_85 ?_
              exact ⟨_, _, _, _, w, _, rfl, rfl, rfl, hL, zDf_2 hd hκ, ht7⟩
          · exact absurd c_53 (nIn_neg (by omega) (by decide))
      · skip
        replace e1 := e1.symm
        subst e1
        replace e2 := e2.symm
        subst e2
        refine z_aload_n X dL_sends_33 rfl ?_
        refine z_iconst (v := nI 5) X (by decide) dL_sends_34 ?_
        refine z_dup2 X rfl rfl dL_sends_35 ?_
        refine z_ialda X hL.ar hL.da (by decide) (by decide) dL_sends_36 ?_
        rw [hL.sd]
        rw [hd5]
        refine z_iload X dL_sends_37 rfl ?_
        refine z_if_lt (tgt := 46) X dL_sends_39 (by decide) (fun c_39 => ?_) (fun c_39 => ?_)
        · skip
          refine z_iconst (v := nI 0) X (by decide) dL_sends_46 ?_
          refine z_iaddN X dL_sends_47 ?_
          refine z_iasta X hL.ar hL.da (by omega) (by omega) dL_sends_48 ?_
          rw [zJ_up5]
          replace hL := hL.up5 5 (nI (n 2 + 0))
          refine z_iload X dL_sends_49 rfl ?_
          refine z_ldc X qL_23 dL_sends_51 ?_
          refine z_icmp_ne (tgt := 72) X dL_sends_53 (by decide) (fun c_53 => ?_) (fun c_53 => ?_)
          · exact absurd rfl c_53
          · skip
            refine z_aload_n X dL_sends_56 rfl ?_
            refine z_iconst (v := nI 5) X (by decide) dL_sends_57 ?_
            refine z_ialda X hL.ar hL.da (by decide) (by decide) dL_sends_58 ?_
            rw [hL.sd]
            rw [show z_up σ2 1 5 (nI (n 2 + 0)) 1 5 = nI (n 2 + 0) by simp [z_up]]
            refine z_bipush (v := nI 24) X (by decide) dL_sends_59 ?_
            refine z_icmp_ne (tgt := 68) X dL_sends_61 (by decide) (fun c_61 => ?_) (fun c_61 => ?_)
            · skip
              try simp (disch := omega) only [zk0, nI_leI, nI_ltI, nI_eq, zbk_notn, zbk_not, zbk_n0, zbk_0, zb_0, zb_n0, zb_not, zb_notn, Bool.not_eq_false, Bool.not_eq_true, Bool.not_eq_true', Bool.not_eq_false', decide_eq_true_eq, decide_eq_false_iff_not, Classical.not_not] at c_61
              (exfalso; omega)
            · skip
              try simp (disch := omega) only [zk0, nI_leI, nI_ltI, nI_eq, zbk_notn, zbk_not, zbk_n0, zbk_0, zb_0, zb_n0, zb_not, zb_notn, Bool.not_eq_false, Bool.not_eq_true, Bool.not_eq_true', Bool.not_eq_false', decide_eq_true_eq, decide_eq_false_iff_not, Classical.not_not] at c_61
              refine z_iconst (v := nI 1) X (by decide) dL_sends_64 ?_
              refine z_goto (tgt := 85) X dL_sends_65 (by decide) ?_
              refine z_zret X (by decide) (by decide) rfl (by first | exact Or.inl rfl | exact Or.inr rfl | exact zb_01 _ | assumption) dL_sends_85 ?_
              exact ⟨_, _, _, _, w, _, rfl, rfl, rfl, hL, by have h9 := zDf_2 (c := n 2 + 0) hd (fun _ => rfl); rw [show zud n 2 (n 2 + 0) = n from zud_id] at h9; exact h9, ht7⟩
        · exact absurd (by decide) c_39
