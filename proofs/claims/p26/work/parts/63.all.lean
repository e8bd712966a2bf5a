/-! the law: all -/
theorem zJ_up5 {τ : Nat → zIn} {k : Nat} {v : Int32} : z_up (zJs τ) 5 k v = zJs (zp1 τ 2 (z_up (τ 2) 1 k v)) := zJ_up (i := 1) (c := 2) (by decide)
theorem zLc.up5 {ao ai ad : Nat} {κ : zIn} {n : Nat → Nat} {g2 : zSh} {σ2 : zIn} {w : Nat → zSh} {τ : Nat → zIn} (h : zLc ao ai ad κ n g2 σ2 w τ) (k : Nat) (v : Int32) : zLc ao ai ad κ n g2 (z_up σ2 1 k v) w (zp1 τ 2 (z_up (τ 2) 1 k v)) := by
  obtain ⟨h1, h2, h3, h4, h5, h6, h7⟩ := h
  exact ⟨h1, h2, h3, h4, h5, by rw [zp1_at, h6], h7⟩
noncomputable def zA6 (κ : zIn) (n : Nat → Nat) (m : Nat) (h : Int64) : Nat → Int64
  | 0 => h
  | j + 1 => zA6 κ n m h j * 1009 + (zok κ n m j).toInt64
noncomputable def zAw (κ : zIn) (m : Nat) (h : Int64) : Nat → Int64
  | 0 => h
  | i + 1 => (zAw κ m h i * 1009 + (κ (300 + m) i).toInt64) * 31 + (κ (400 + m) i).toInt64
noncomputable def zAm (κ : zIn) (n : Nat → Nat) (m : Nat) (h : Int64) : Int64 := ((zAw κ m (zA6 κ n m h 6) (n (100 + m)) * 127 + (zthe (zcl κ m (n (100 + m)))).toInt64) * 31 + (zthe (zrdP κ n m 0)).toInt64) * 31 + (zthe (zrdP κ n m 1)).toInt64
noncomputable def zAM (κ : zIn) (n : Nat → Nat) : Nat → Int64
  | 0 => 17
  | m + 1 => zAm κ n m (zAM κ n m)
noncomputable def zAo (κ : zIn) (n : Nat → Nat) (o : Nat) (h : Int64) : Int64 := ((h * 1009 + (κ (100 + o) 3).toInt64) * 127 + (zthe (zwpP κ n o true)).toInt64) * 127 + (zthe (zwpP κ n o false)).toInt64
noncomputable def zAO (κ : zIn) (n : Nat → Nat) : Nat → Int64
  | 0 => zAM κ n (n 6)
  | o + 1 => zAo κ n o (zAO κ n o)
noncomputable def zAll (κ : zIn) (n : Nat → Nat) : Int64 := zAO κ n (n 3)
set_option maxHeartbeats 4000000 in
set_option maxRecDepth 100000 in
theorem tL_all {l : Launch} {D : va_G} {cy : Nat → ClassId} {z0 : zRg} {c9 q : Nat} {ao ai ad : Nat} {κ : zIn} {n : Nat → Nat} {g2 : zSh} {σ2 : zIn} {w : Nat → zSh} {τ : Nat → zIn} (hL : zLc ao ai ad κ n g2 σ2 w τ) (hq : zCq ao ai c9 q) (hd3 : σ2 1 3 = nI (n 6)) (hd0 : σ2 1 0 = nI (n 3)) : z_Cn (zc0 NL_all) l D cy z0 NL_all [.ref q, .ref ad] (zJg w) (zJs τ) (zBs ao ai ad κ n g2 σ2 (.long (zAll κ n))) := by
  have hn6 : n 6 ≤ 60 := hL.1.M.1.2
  have hn3 : n 3 ≤ 8 := hL.1.B.1.2.1
  refine z_ofN (by decide) (z_cr (z_cr z_c0)) (Nat.le_of_ble_eq_true rfl) ?_
  intro p e s m args below meth c X Y
  have loop_7 : ∀ (n9 : Nat) (k : Nat) (x5 : Option Value) (w : Nat → zSh) (τ : Nat → zIn) (hk : k ≤ n 6) (hL : zLc ao ai ad κ n g2 σ2 w τ) (hn : n 6 - k < n9), z_V p l e (zRm NL_all) s m args below meth c 6 D cy z0 0 0 (zQm NL_all below D cy z0 (zBs ao ai ad κ n g2 σ2 (.long (zAll κ n))) args s) 7 [some (.ref q), some (.ref ad), some (.long (zAM κ n k)), none, some (.int (nI k)), x5] [] (zJg w) (zJs τ) := by
    intro n9
    induction n9 with
    | zero => intro k x5 w τ hk hL hn; exact absurd hn (Nat.not_lt_zero _)
    | succ n9 ih_7 =>
      intro k x5 w τ hk hL hn
      refine z_iload X dL_all_7 rfl ?_
      refine z_aload_n X dL_all_9 rfl ?_
      refine z_iconst (v := nI 3) X (by decide) dL_all_10 ?_
      refine z_ialda X hL.ar hL.da (by decide) (by decide) dL_all_11 ?_
      rw [hL.sd]
      rw [hd3]
      refine z_icmp_ge (tgt := 146) X dL_all_12 (by decide) (fun c_12 => ?_) (fun c_12 => ?_)
      · skip
        try simp (disch := omega) only [zk0, nI_leI, nI_ltI, nI_eq, zbk_notn, zbk_not, zbk_n0, zbk_0, zb_0, zb_n0, zb_not, zb_notn, Bool.not_eq_false, Bool.not_eq_true, Bool.not_eq_true', Bool.not_eq_false', decide_eq_true_eq, decide_eq_false_iff_not, Classical.not_not] at c_12
        have ek : k = n 6 := by omega
        subst ek
        have loop_149 : ∀ (n9 : Nat) (o : Nat) (w : Nat → zSh) (τ : Nat → zIn) (ho : o ≤ n 3) (hL : zLc ao ai ad κ n g2 σ2 w τ) (hn : n 3 - o < n9), z_V p l e (zRm NL_all) s m args below meth c 6 D cy z0 0 0 (zQm NL_all below D cy z0 (zBs ao ai ad κ n g2 σ2 (.long (zAll κ n))) args s) 149 [some (.ref q), some (.ref ad), some (.long (zAO κ n o)), none, some (.int (nI o)), x5] [] (zJg w) (zJs τ) := by
          intro n9
          induction n9 with
          | zero => intro o w τ ho hL hn; exact absurd hn (Nat.not_lt_zero _)
          | succ n9 ih_149 =>
            intro o w τ ho hL hn
            refine z_iload X dL_all_149 rfl ?_
            refine z_aload_n X dL_all_151 rfl ?_
            refine z_iconst (v := nI 0) X (by decide) dL_all_152 ?_
            refine z_ialda X hL.ar hL.da (by decide) (by decide) dL_all_153 ?_
            rw [hL.sd]
            rw [hd0]
            refine z_icmp_ge (tgt := 205) X dL_all_154 (by decide) (fun c_154 => ?_) (fun c_154 => ?_)
            · skip
              try simp (disch := omega) only [zk0, nI_leI, nI_ltI, nI_eq, zbk_notn, zbk_not, zbk_n0, zbk_0, zb_0, zb_n0, zb_not, zb_notn, Bool.not_eq_false, Bool.not_eq_true, Bool.not_eq_true', Bool.not_eq_false', decide_eq_true_eq, decide_eq_false_iff_not, Classical.not_not] at c_154
              have eo : o = n 3 := by omega
              subst eo
              refine z_lload_n X dL_all_205 rfl ?_
              refine z_lret X (by decide) (by decide) rfl dL_all_206 ?_
              exact ⟨w, τ, rfl, rfl, rfl, hL⟩
            · skip
              try simp (disch := omega) only [zk0, nI_leI, nI_ltI, nI_eq, zbk_notn, zbk_not, zbk_n0, zbk_0, zb_0, zb_n0, zb_not, zb_notn, Bool.not_eq_false, Bool.not_eq_true, Bool.not_eq_true', Bool.not_eq_false', decide_eq_true_eq, decide_eq_false_iff_not, Classical.not_not] at c_154
              refine z_lload_n X dL_all_157 rfl ?_
              refine z_ldc2 X q2L_106 dL_all_158 ?_
              refine z_lmul X dL_all_161 ?_
              refine z_aload_n X dL_all_162 rfl ?_
              refine z_iload X dL_all_163 rfl ?_
              refine z_runVa X Y aL_98 (tB_acc hL hq o (by omega)) (hL.ob hq) (hL.aq hq) rfl rfl (Nat.le_of_ble_eq_true rfl) ⟨by decide, by decide⟩ ⟨by decide, by decide⟩ dL_all_165 ?_
              rintro _ _ _ ⟨w, τ, rfl, rfl, rfl, hL⟩
              refine z_i2l X dL_all_168 ?_
              refine z_ladd X dL_all_169 ?_
              refine z_ldc2 X q2L_110 dL_all_170 ?_
              refine z_lmul X dL_all_173 ?_
              refine z_aload_n X dL_all_174 rfl ?_
              refine z_iload X dL_all_175 rfl ?_
              refine z_iconst (v := zb true) X (by decide) dL_all_177 ?_
              refine z_runVa X Y aL_69 (tB_words hL hq o true (by omega)) (hL.ob hq) (hL.aq hq) rfl rfl (Nat.le_of_ble_eq_true rfl) ⟨by decide, by decide⟩ ⟨by decide, by decide⟩ dL_all_178 ?_
              rintro _ _ _ ⟨⟨w, τ, rfl, rfl, rfl, hL⟩, -⟩
              refine z_i2l X dL_all_181 ?_
              refine z_ladd X dL_all_182 ?_
              refine z_lstore_n X dL_all_183 (by decide) ?_ rfl (Nat.le_of_ble_eq_true rfl)
              refine z_lload_n X dL_all_184 rfl ?_
              refine z_ldc2 X q2L_110 dL_all_185 ?_
              refine z_lmul X dL_all_188 ?_
              refine z_aload_n X dL_all_189 rfl ?_
              refine z_iload X dL_all_190 rfl ?_
              refine z_iconst (v := zb false) X (by decide) dL_all_192 ?_
              refine z_runVa X Y aL_69 (tB_words hL hq o false (by omega)) (hL.ob hq) (hL.aq hq) rfl rfl (Nat.le_of_ble_eq_true rfl) ⟨by decide, by decide⟩ ⟨by decide, by decide⟩ dL_all_193 ?_
              rintro _ _ _ ⟨⟨w, τ, rfl, rfl, rfl, hL⟩, -⟩
              refine z_i2l X dL_all_196 ?_
              refine z_ladd X dL_all_197 ?_
              refine z_lstore_n X dL_all_198 (by decide) ?_ rfl (Nat.le_of_ble_eq_true rfl)
              refine z_inc1 X dL_all_199 rfl (by decide) ?_
              refine z_goto (tgt := 149) X dL_all_202 (by decide) ?_
              exact ih_149 (o + 1) w τ (by omega) hL (by omega)
        refine z_iconst (v := nI 0) X (by decide) dL_all_146 ?_
        refine z_istore X dL_all_147 (by decide) ?_
        exact loop_149 (n 3 - 0 + 1) 0 w τ (by omega) hL (by omega)
      · skip
        try simp (disch := omega) only [zk0, nI_leI, nI_ltI, nI_eq, zbk_notn, zbk_not, zbk_n0, zbk_0, zb_0, zb_n0, zb_not, zb_notn, Bool.not_eq_false, Bool.not_eq_true, Bool.not_eq_true', Bool.not_eq_false', decide_eq_true_eq, decide_eq_false_iff_not, Classical.not_not] at c_12
        have loop_18 : ∀ (n9 : Nat) (j : Nat) (w : Nat → zSh) (τ : Nat → zIn) (hj : j ≤ 6) (hL : zLc ao ai ad κ n g2 σ2 w τ) (hn : 6 - j < n9), z_V p l e (zRm NL_all) s m args below meth c 6 D cy z0 0 0 (zQm NL_all below D cy z0 (zBs ao ai ad κ n g2 σ2 (.long (zAll κ n))) args s) 18 [some (.ref q), some (.ref ad), some (.long (zA6 κ n k (zAM κ n k) j)), none, some (.int (nI k)), some (.int (nI j))] [] (zJg w) (zJs τ) := by
          intro n9
          induction n9 with
          | zero => intro j w τ hj hL hn; exact absurd hn (Nat.not_lt_zero _)
          | succ n9 ih_18 =>
            intro j w τ hj hL hn
            refine z_iload X dL_all_18 rfl ?_
            refine z_bipush (v := nI 6) X (by decide) dL_all_20 ?_
            refine z_icmp_ge (tgt := 47) X dL_all_22 (by decide) (fun c_22 => ?_) (fun c_22 => ?_)
            · skip
              try simp (disch := omega) only [zk0, nI_leI, nI_ltI, nI_eq, zbk_notn, zbk_not, zbk_n0, zbk_0, zb_0, zb_n0, zb_not, zb_notn, Bool.not_eq_false, Bool.not_eq_true, Bool.not_eq_true', Bool.not_eq_false', decide_eq_true_eq, decide_eq_false_iff_not, Classical.not_not] at c_22
              have ej : j = 6 := by omega
              subst ej
              have h24 := (hL.1.M.2 k (by omega)).2.2.1.2.1
              have loop_50 : ∀ (n9 : Nat) (i : Nat) (w : Nat → zSh) (τ : Nat → zIn) (hi : i ≤ n (100 + k)) (hL : zLc ao ai ad κ n g2 σ2 w τ) (hn : n (100 + k) - i < n9), z_V p l e (zRm NL_all) s m args below meth c 6 D cy z0 0 0 (zQm NL_all below D cy z0 (zBs ao ai ad κ n g2 σ2 (.long (zAll κ n))) args s) 50 [some (.ref q), some (.ref ad), some (.long (zAw κ k (zA6 κ n k (zAM κ n k) 6) i)), none, some (.int (nI k)), some (.int (nI i))] [] (zJg w) (zJs τ) := by
                intro n9
                induction n9 with
                | zero => intro i w τ hi hL hn; exact absurd hn (Nat.not_lt_zero _)
                | succ n9 ih_50 =>
                  intro i w τ hi hL hn
                  refine z_iload X dL_all_50 rfl ?_
                  refine z_aload_n X dL_all_52 rfl ?_
                  refine z_iload X dL_all_53 rfl ?_
                  refine z_iconst (v := nI 1) X (by decide) dL_all_55 ?_
                  refine z_runVa X Y aL_85 (tB_of hL hq k 1 (by omega) (by omega)) (hL.ob hq) (hL.aq hq) rfl rfl (Nat.le_of_ble_eq_true rfl) ⟨by decide, by decide⟩ ⟨by decide, by decide⟩ dL_all_56 ?_
                  rintro _ _ _ ⟨w, τ, rfl, rfl, rfl, hL⟩
                  rw [show zok κ n k 1 = nI (n (100 + k)) from rfl]
                  refine z_icmp_ge (tgt := 100) X dL_all_59 (by decide) (fun c_59 => ?_) (fun c_59 => ?_)
                  · skip
                    try simp (disch := omega) only [zk0, nI_leI, nI_ltI, nI_eq, zbk_notn, zbk_not, zbk_n0, zbk_0, zb_0, zb_n0, zb_not, zb_notn, Bool.not_eq_false, Bool.not_eq_true, Bool.not_eq_true', Bool.not_eq_false', decide_eq_true_eq, decide_eq_false_iff_not, Classical.not_not] at c_59
                    have ei : i = n (100 + k) := by omega
                    subst ei
                    refine z_lload_n X dL_all_100 rfl ?_
                    refine z_ldc2 X q2L_110 dL_all_101 ?_
                    refine z_lmul X dL_all_104 ?_
                    refine z_aload_n X dL_all_105 rfl ?_
                    refine z_iload X dL_all_106 rfl ?_
                    refine z_runVa X Y aL_95 (tB_claim hL hq k (by omega)) (hL.ob hq) (hL.aq hq) rfl rfl (Nat.le_of_ble_eq_true rfl) ⟨by decide, by decide⟩ ⟨by decide, by decide⟩ dL_all_108 ?_
                    rintro _ _ _ ⟨⟨w, τ, rfl, rfl, rfl, hL⟩, -⟩
                    refine z_i2l X dL_all_111 ?_
                    refine z_ladd X dL_all_112 ?_
                    refine z_ldc2 X q2L_108 dL_all_113 ?_
                    refine z_lmul X dL_all_116 ?_
                    refine z_aload_n X dL_all_117 rfl ?_
                    refine z_iload X dL_all_118 rfl ?_
                    refine z_iconst (v := nI 0) X (by decide) dL_all_120 ?_
                    refine z_runVa X Y aL_92 (tB_read hL hq k 0 (by omega) (by omega)) (hL.ob hq) (hL.aq hq) rfl rfl (Nat.le_of_ble_eq_true rfl) ⟨by decide, by decide⟩ ⟨by decide, by decide⟩ dL_all_121 ?_
                    rintro _ _ _ ⟨w, τ, rfl, rfl, rfl, hL⟩
                    refine z_i2l X dL_all_124 ?_
                    refine z_ladd X dL_all_125 ?_
                    refine z_ldc2 X q2L_108 dL_all_126 ?_
                    refine z_lmul X dL_all_129 ?_
                    refine z_aload_n X dL_all_130 rfl ?_
                    refine z_iload X dL_all_131 rfl ?_
                    refine z_iconst (v := nI 1) X (by decide) dL_all_133 ?_
                    refine z_runVa X Y aL_92 (tB_read hL hq k 1 (by omega) (by omega)) (hL.ob hq) (hL.aq hq) rfl rfl (Nat.le_of_ble_eq_true rfl) ⟨by decide, by decide⟩ ⟨by decide, by decide⟩ dL_all_134 ?_
                    rintro _ _ _ ⟨w, τ, rfl, rfl, rfl, hL⟩
                    refine z_i2l X dL_all_137 ?_
                    refine z_ladd X dL_all_138 ?_
                    refine z_lstore_n X dL_all_139 (by decide) ?_ rfl (Nat.le_of_ble_eq_true rfl)
                    refine z_inc1 X dL_all_140 rfl (by decide) ?_
                    refine z_goto (tgt := 7) X dL_all_143 (by decide) ?_
                    exact ih_7 (k + 1) _ w τ (by omega) hL (by omega)
                  · skip
                    try simp (disch := omega) only [zk0, nI_leI, nI_ltI, nI_eq, zbk_notn, zbk_not, zbk_n0, zbk_0, zb_0, zb_n0, zb_not, zb_notn, Bool.not_eq_false, Bool.not_eq_true, Bool.not_eq_true', Bool.not_eq_false', decide_eq_true_eq, decide_eq_false_iff_not, Classical.not_not] at c_59
                    refine z_lload_n X dL_all_62 rfl ?_
                    refine z_ldc2 X q2L_106 dL_all_63 ?_
                    refine z_lmul X dL_all_66 ?_
                    refine z_aload_n X dL_all_67 rfl ?_
                    refine z_iload X dL_all_68 rfl ?_
                    refine z_iload X dL_all_70 rfl ?_
                    refine z_iconst (v := zb true) X (by decide) dL_all_72 ?_
                    refine z_runVa X Y aL_88 (tB_word hL hq true k i (by omega) (by omega)) (hL.ob hq) (hL.aq hq) rfl rfl (Nat.le_of_ble_eq_true rfl) ⟨by decide, by decide⟩ ⟨by decide, by decide⟩ dL_all_73 ?_
                    rintro _ _ _ ⟨w, τ, rfl, rfl, rfl, hL⟩
                    refine z_i2l X dL_all_76 ?_
                    refine z_ladd X dL_all_77 ?_
                    refine z_ldc2 X q2L_108 dL_all_78 ?_
                    refine z_lmul X dL_all_81 ?_
                    refine z_aload_n X dL_all_82 rfl ?_
                    refine z_iload X dL_all_83 rfl ?_
                    refine z_iload X dL_all_85 rfl ?_
                    refine z_iconst (v := zb false) X (by decide) dL_all_87 ?_
                    refine z_runVa X Y aL_88 (tB_word hL hq false k i (by omega) (by omega)) (hL.ob hq) (hL.aq hq) rfl rfl (Nat.le_of_ble_eq_true rfl) ⟨by decide, by decide⟩ ⟨by decide, by decide⟩ dL_all_88 ?_
                    rintro _ _ _ ⟨w, τ, rfl, rfl, rfl, hL⟩
                    refine z_i2l X dL_all_91 ?_
                    refine z_ladd X dL_all_92 ?_
                    refine z_lstore_n X dL_all_93 (by decide) ?_ rfl (Nat.le_of_ble_eq_true rfl)
                    refine z_inc1 X dL_all_94 rfl (by decide) ?_
                    refine z_goto (tgt := 50) X dL_all_97 (by decide) ?_
                    exact ih_50 (i + 1) w τ (by omega) hL (by omega)
              refine z_iconst (v := nI 0) X (by decide) dL_all_47 ?_
              refine z_istore X dL_all_48 (by decide) ?_
              exact loop_50 (n (100 + k) - 0 + 1) 0 w τ (by omega) hL (by omega)
            · skip
              try simp (disch := omega) only [zk0, nI_leI, nI_ltI, nI_eq, zbk_notn, zbk_not, zbk_n0, zbk_0, zb_0, zb_n0, zb_not, zb_notn, Bool.not_eq_false, Bool.not_eq_true, Bool.not_eq_true', Bool.not_eq_false', decide_eq_true_eq, decide_eq_false_iff_not, Classical.not_not] at c_22
              refine z_lload_n X dL_all_25 rfl ?_
              refine z_ldc2 X q2L_106 dL_all_26 ?_
              refine z_lmul X dL_all_29 ?_
              refine z_aload_n X dL_all_30 rfl ?_
              refine z_iload X dL_all_31 rfl ?_
              refine z_iload X dL_all_33 rfl ?_
              refine z_runVa X Y aL_85 (tB_of hL hq k j (by omega) (by omega)) (hL.ob hq) (hL.aq hq) rfl rfl (Nat.le_of_ble_eq_true rfl) ⟨by decide, by decide⟩ ⟨by decide, by decide⟩ dL_all_35 ?_
              rintro _ _ _ ⟨w, τ, rfl, rfl, rfl, hL⟩
              refine z_i2l X dL_all_38 ?_
              refine z_ladd X dL_all_39 ?_
              refine z_lstore_n X dL_all_40 (by decide) ?_ rfl (Nat.le_of_ble_eq_true rfl)
              refine z_inc1 X dL_all_41 rfl (by decide) ?_
              refine z_goto (tgt := 18) X dL_all_44 (by decide) ?_
              exact ih_18 (j + 1) w τ (by omega) hL (by omega)
        refine z_iconst (v := nI 0) X (by decide) dL_all_15 ?_
        refine z_istore X dL_all_16 (by decide) ?_
        exact loop_18 (6 - 0 + 1) 0 w τ (by omega) hL (by omega)
  refine z_ldc2 X q2L_104 dL_all_0 ?_
  refine z_lstore_n X dL_all_3 (by decide) ?_ rfl (Nat.le_of_ble_eq_true rfl)
  refine z_iconst (v := nI 0) X (by decide) dL_all_4 ?_
  refine z_istore X dL_all_5 (by decide) ?_
  exact loop_7 (n 6 - 0 + 1) 0 _ w τ (by omega) hL (by omega)
