/-! the law: its walk -/
theorem zx_idea_0 {ni x : Nat} (h1 : 1 ≤ x) (h2 : x ≤ 20) (h3 : ni ≠ 30) : zx_idea ni (nI x) = 0 := by
  have l2 : ∀ {x y : Nat}, x ≤ y → y < 2 ^ 31 → ¬ nI y < nI x := fun {x y} h1 h2 q => by rw [nI_ltI h2 (by omega)] at q; omega
  unfold zx_idea
  rw [if_neg, if_neg h3]
  rintro (q | q)
  · exact l2 (x := 1) (by omega) (by omega) q
  · exact l2 (y := 20) (by omega) (by omega) q
theorem zx_cable_0 {no nc a b r s : Nat} (ha : a < no) (hb : b < no) (hno : no < 100) (hab : a ≠ b) (hr : 1 ≤ r ∧ r ≤ 100) (hs : 1 ≤ s ∧ s ≤ 20) (hc : nc ≠ 12) : zx_cable no nc (nI a) (nI b) (nI r) (nI s) = 0 := by
  have l2 : ∀ {x y : Nat}, x ≤ y → y < 2 ^ 31 → ¬ nI y < nI x := fun {x y} h1 h2 q => by rw [nI_ltI h2 (by omega)] at q; omega
  unfold zx_cable
  rw [if_neg (fun q => q ⟨zin_l ha (by omega), zin_l hb (by omega)⟩), if_neg, if_neg hc]
  rintro (q | (q | q) | (q | q))
  · exact hab ((nI_eq (by omega) (by omega)).mp q)
  · exact l2 (x := 1) (by omega) (by omega) q
  · exact l2 (y := 100) (by omega) (by omega) q
  · exact l2 (x := 1) (by omega) (by omega) q
  · exact l2 (y := 20) (by omega) (by omega) q
theorem zDf_0 {σ2 κ : zIn} {n : Nat → Nat} (hz : ∀ k, σ2 1 k = 0) (hn : n 3 = 4 ∧ n 0 = 5 ∧ n 4 = 5 ∧ n 1 = 0 ∧ n 2 = 0 ∧ n 5 = 0 ∧ n 6 = 0 ∧ n 7 = 0) : zDf (z_up (z_up σ2 1 0 (nI 4)) 1 1 (nI 5)) κ n := by
  obtain ⟨h3, h0, h4, h1, h2, h5, h6, h7⟩ := hn
  have e : ∀ k, k ≠ 0 → k ≠ 1 → z_up (z_up σ2 1 0 (nI 4)) 1 1 (nI 5) 1 k = nI 0 := fun k q0 q1 => by simp [z_up, q0, q1, hz]; rfl
  refine ⟨h0, h3, h4, ?_, ?_, ?_, ?_, ?_, ?_, fun k hk => ?_⟩
  · rw [h3]; simp [z_up]
  · rw [h4]; simp [z_up]
  · rw [h1]; exact e 2 (by decide) (by decide)
  · rw [h6]; exact e 3 (by decide) (by decide)
  · rw [h5]; exact e 4 (by decide) (by decide)
  · rw [h2]; exact e 5 (by decide) (by decide)
  · omega
def z_g0 : zSh := ([], fun _ => 0, fun _ => 0, fun _ => 0, fun _ _ => 0)
abbrev z_W0 : Nat → zSh := fun _ => z_g0
abbrev z_T0 : Nat → zIn := fun _ _ _ => 0
set_option maxHeartbeats 4000000 in
set_option maxRecDepth 100000 in
theorem law_tail {p : Program} {l : Launch} {e : Env} {s : State} {m : MethodId} {args : Array Value} {below : List Frame} {meth : Method} {c : Code} {Q : State → Prop} {nm : String} {D : va_G} {cy : Nat → ClassId} {z0 : zRg} {b Ls : Nat} {xs : Nat → Int32} (hfl : l.stackTraces = false) (X : z_cx p s m args meth c RL cL_law 9 ret nm D cy z0) (Y : zTh z0 s) (hXs : zXb b Ls xs z0 s) (hLs : Ls < 1000)
    (hend : ∀ cells slots (L : List (Option Value)) g σ, cells ≤ 15000 → slots ≤ 300000 → z_V p l e room_1 s m args below meth c 9 D cy z0 cells slots Q 430 L [] g σ) {a1 a2 a3 : Nat} {g2 : zSh} {σ2 : zIn} {w : Nat → zSh} {τ : Nat → zIn} (hL : zLc a1 a2 a3 zK_nu (fun _ => 0) g2 σ2 w τ) (hz : ∀ k, σ2 1 k = 0) : z_V p l e room_1 s m args below meth c 9 D cy z0 100 20000 Q 21 [some (.ref b), some (.ref a1), some (.ref a2), some (.ref a3), none, none, none, none, none] [] (zJg w) (zJs τ) := by
  have r1 : 16000 ≤ room_1.cells := Nat.le_of_ble_eq_true rfl
  have r2 : 310000 ≤ room_1.slots := Nat.le_of_ble_eq_true rfl
  refine z_iconst (v := nI 1) X (by decide) dL_law_21 ?_
  refine z_istore X dL_law_22 (by decide) ?_
  have loop_27 : ∀ (n9 : Nat) (k : Nat) (κ : zIn) (n : Nat → Nat) (w : Nat → zSh) (τ : Nat → zIn) (hk : k ≤ 4) (hL : zLc a1 a2 a3 κ n g2 σ2 w τ) (hc9 : n 3 = k ∧ n 0 = 0 ∧ n 1 = 0 ∧ n 2 = 0 ∧ n 4 = 0 ∧ n 5 = 0 ∧ n 6 = 0 ∧ n 7 = 0) (hn : 4 - k < n9), z_V p l e room_1 s m args below meth c 9 D cy z0 (100 + 10 * k) (20000 + 150 * k) Q 27 [some (.ref b), some (.ref a1), some (.ref a2), some (.ref a3), some (.int (nI 1)), some (.int (nI k)), none, none, none] [] (zJg w) (zJs τ) := by
    intro n9
    induction n9 with
    | zero => intro k κ n w τ hk hL hc9 hn; exact absurd hn (Nat.not_lt_zero _)
    | succ n9 ih_27 =>
      intro k κ n w τ hk hL hc9 hn
      refine z_iload X dL_law_27 rfl ?_
      refine z_iconst (v := nI 4) X (by decide) dL_law_29 ?_
      refine z_icmp_ge (tgt := 67) X dL_law_30 (by decide) (fun c_30 => ?_) (fun c_30 => ?_)
      · skip
        try simp (disch := omega) only [zk0, nI_leI, nI_ltI, nI_eq, zbk_notn, zbk_not, zbk_n0, zbk_0, zb_0, zb_n0, zb_not, zb_notn, Bool.not_eq_false, Bool.not_eq_true, Bool.not_eq_true', Bool.not_eq_false', decide_eq_true_eq, decide_eq_false_iff_not, Classical.not_not] at c_30
        have ek : k = 4 := by omega
        subst ek
        refine z_wid (ce := 140) (sl := 20600) (by omega) (by omega) ?_
        refine z_aload_n X dL_law_67 rfl ?_
        refine z_iconst (v := nI 0) X (by decide) dL_law_68 ?_
        refine z_iconst (v := nI 4) X (by decide) dL_law_69 ?_
        refine z_iasta X hL.ar hL.da (by decide) (by decide) dL_law_70 ?_
        rw [zJ_up5]
        replace hL := hL.up5 0 (nI 4)
        have loop_74 : ∀ (n9 : Nat) (k : Nat) (κ : zIn) (n : Nat → Nat) (w : Nat → zSh) (τ : Nat → zIn) (x6 : Option Value) (hk : k ≤ 5) (hL : zLc a1 a2 a3 κ n g2 (z_up σ2 1 0 (nI 4)) w τ) (hc9 : n 3 = 4 ∧ n 0 = k ∧ n 4 = k ∧ n 1 = 0 ∧ n 2 = 0 ∧ n 5 = 0 ∧ n 6 = 0 ∧ n 7 = 0) (hn : 5 - k < n9), z_V p l e room_1 s m args below meth c 9 D cy z0 (140 + 20 * k) (20600 + 300 * k) Q 74 [some (.ref b), some (.ref a1), some (.ref a2), some (.ref a3), some (.int (nI 1)), some (.int (nI k)), x6, none, none] [] (zJg w) (zJs τ) := by
          intro n9
          induction n9 with
          | zero => intro k κ n w τ x6 hk hL hc9 hn; exact absurd hn (Nat.not_lt_zero _)
          | succ n9 ih_74 =>
            intro k κ n w τ x6 hk hL hc9 hn
            refine z_iload X dL_law_74 rfl ?_
            refine z_iconst (v := nI 5) X (by decide) dL_law_76 ?_
            refine z_icmp_ge (tgt := 180) X dL_law_77 (by decide) (fun c_77 => ?_) (fun c_77 => ?_)
            · skip
              try simp (disch := omega) only [zk0, nI_leI, nI_ltI, nI_eq, zbk_notn, zbk_not, zbk_n0, zbk_0, zb_0, zb_n0, zb_not, zb_notn, Bool.not_eq_false, Bool.not_eq_true, Bool.not_eq_true', Bool.not_eq_false', decide_eq_true_eq, decide_eq_false_iff_not, Classical.not_not] at c_77
              have ek : k = 5 := by omega
              subst ek
              refine z_wid (ce := 240) (sl := 22100) (by omega) (by omega) ?_
              refine z_aload_n X dL_law_180 rfl ?_
              refine z_iconst (v := nI 1) X (by decide) dL_law_181 ?_
              refine z_iconst (v := nI 5) X (by decide) dL_law_182 ?_
              refine z_iasta X hL.ar hL.da (by decide) (by decide) dL_law_183 ?_
              rw [zJ_up5]
              replace hL := hL.up5 1 (nI 5)
              have hd : zDf (z_up (z_up σ2 1 0 (nI 4)) 1 1 (nI 5)) κ n := zDf_0 hz hc9
              refine z_iload X dL_law_184 rfl ?_
              refine z_if_eq (tgt := 201) X dL_law_186 (by decide) (fun c_186 => ?_) (fun c_186 => ?_)
              · first | exact absurd c_186 (by decide) | exact absurd (by decide) c_186
              · skip
                refine z_aload_n X dL_law_189 rfl ?_
                refine z_aload_n X dL_law_190 rfl ?_
                refine z_runSn X Y kL_136 (tL_refused hfl hL hd.1 hd.2.1 hd.2.2.1 hd.2.2.2.2.2.2.1 hd.2.2.2.1) rfl rfl (Nat.le_of_ble_eq_true rfl) ⟨by decide, by decide⟩ ⟨by show 240 + 150 ≤ _; omega, by show 22100 + 2250 ≤ _; omega⟩ dL_law_191 ?_
                rintro _ _ _ ⟨w, τ, rfl, rfl, rfl, hL⟩
                refine z_if_eq (tgt := 201) X dL_law_194 (by decide) (fun c_194 => ?_) (fun c_194 => ?_)
                · exact absurd c_194 (by decide)
                · skip
                  refine z_iconst (v := nI 1) X (by decide) dL_law_197 ?_
                  refine z_goto (tgt := 202) X dL_law_198 (by decide) ?_
                  refine z_istore X dL_law_202 (by decide) ?_
                  have loop_207 : ∀ (n9 : Nat) (k : Nat) (κ : zIn) (n : Nat → Nat) (g2 : zSh) (σ2 : zIn) (w : Nat → zSh) (τ : Nat → zIn) (x6 x7 x8 : Option Value) (hk : k ≤ 80) (hL : zLc a1 a2 a3 κ n g2 σ2 w τ) (hd : zDf σ2 κ n) (ht : n 7 ≤ 1440 * k) (hn : 80 - k < n9), z_V p l e room_1 s m args below meth c 9 D cy z0 (390 + 170 * k) (24350 + 2550 * k) Q 207 [some (.ref b), some (.ref a1), some (.ref a2), some (.ref a3), some (.int (nI 1)), some (.int (nI k)), x6, x7, x8] [] (zJg w) (zJs τ) := by
                    intro n9
                    induction n9 with
                    | zero => intro k κ n g2 σ2 w τ x6 x7 x8 hk hL hd ht hn; exact absurd hn (Nat.not_lt_zero _)
                    | succ n9 ih_207 =>
                      intro k κ n g2 σ2 w τ x6 x7 x8 hk hL hd ht hn
                      refine z_iload X dL_law_207 rfl ?_
                      refine z_bipush (v := nI 80) X (by decide) dL_law_209 ?_
                      refine z_icmp_ge (tgt := 403) X dL_law_211 (by decide) (fun c_211 => ?_) (fun c_211 => ?_)
                      · skip
                        try simp (disch := omega) only [zk0, nI_leI, nI_ltI, nI_eq, zbk_notn, zbk_not, zbk_n0, zbk_0, zb_0, zb_n0, zb_not, zb_notn, Bool.not_eq_false, Bool.not_eq_true, Bool.not_eq_true', Bool.not_eq_false', decide_eq_true_eq, decide_eq_false_iff_not, Classical.not_not] at c_211
                        have ek : k = 80 := by omega
                        subst ek
                        refine z_iload X dL_law_403 rfl ?_
                        refine z_if_eq (tgt := 434) X dL_law_405 (by decide) (fun c_405 => ?_) (fun c_405 => ?_)
                        · first | exact absurd c_405 (by decide) | exact absurd (by decide) c_405
                        · skip
                          refine z_aload_n X dL_law_408 rfl ?_
                          refine z_aload_n X dL_law_409 rfl ?_
                          refine z_runSn X Y kL_127 (tL_all hL (Or.inl ⟨rfl, rfl⟩) hd.2.2.2.2.2.2.1 hd.2.2.2.1) rfl rfl (Nat.le_of_ble_eq_true rfl) ⟨by decide, by decide⟩ ⟨by show 390 + 170 * 80 + 0 ≤ _; omega, by show 24350 + 2550 * 80 + 0 ≤ _; omega⟩ dL_law_410 ?_
                          rintro _ _ _ ⟨w, τ, rfl, rfl, rfl, hL⟩
                          refine z_aload_n X dL_law_413 rfl ?_
                          refine z_aload_n X dL_law_414 rfl ?_
                          refine z_runSn X Y kL_127 (tL_all hL (Or.inr ⟨rfl, rfl⟩) hd.2.2.2.2.2.2.1 hd.2.2.2.1) rfl rfl (Nat.le_of_ble_eq_true rfl) ⟨by decide, by decide⟩ ⟨by show 390 + 170 * 80 + 0 ≤ _; omega, by show 24350 + 2550 * 80 + 0 ≤ _; omega⟩ dL_law_415 ?_
                          rintro _ _ _ ⟨w, τ, rfl, rfl, rfl, hL⟩
                          refine z_lcmp X dL_law_418 ?_
                          refine z_if_ne (tgt := 434) X dL_law_419 (by decide) (fun c_419 => ?_) (fun c_419 => ?_)
                          · exact absurd (zlcmp_0 _) c_419
                          · skip
                            refine z_aload_n X dL_law_422 rfl ?_
                            refine z_aload_n X dL_law_423 rfl ?_
                            refine z_runSn X Y kL_153 (tL_sound hL hd.2.2.2.2.2.2.1 hd.2.2.2.1 hd.2.2.2.2.2.2.2.2.1) rfl rfl (Nat.le_of_ble_eq_true rfl) ⟨by decide, by decide⟩ ⟨by show 390 + 170 * 80 + 0 ≤ _; omega, by show 24350 + 2550 * 80 + 0 ≤ _; omega⟩ dL_law_424 ?_
                            rintro _ _ _ ⟨w, τ, rfl, rfl, rfl, hL⟩
                            refine z_if_eq (tgt := 434) X dL_law_427 (by decide) (fun c_427 => ?_) (fun c_427 => ?_)
                            · exact absurd c_427 (by decide)
                            · skip
                              exact hend _ _ _ _ _ (by show 390 + 170 * 80 ≤ _; omega) (by show 24350 + 2550 * 80 ≤ _; omega)
                      · skip
                        try simp (disch := omega) only [zk0, nI_leI, nI_ltI, nI_eq, zbk_notn, zbk_not, zbk_n0, zbk_0, zb_0, zb_n0, zb_not, zb_notn, Bool.not_eq_false, Bool.not_eq_true, Bool.not_eq_true', Bool.not_eq_false', decide_eq_true_eq, decide_eq_false_iff_not, Classical.not_not] at c_211
                        refine z_iload X dL_law_214 rfl ?_
                        refine z_if_eq (tgt := 403) X dL_law_216 (by decide) (fun c_216 => ?_) (fun c_216 => ?_)
                        · first | exact absurd c_216 (by decide) | exact absurd (by decide) c_216
                        · skip
                          refine z_aload_n X dL_law_219 rfl ?_
                          refine z_iconst (v := nI 5) X (by decide) dL_law_220 ?_
                          refine z_iconst (v := nI 2) X (by decide) dL_law_221 ?_
                          refine z_iload X dL_law_222 rfl ?_
                          refine z_imulN X dL_law_224 ?_
                          refine z_iaddN X dL_law_225 ?_
                          refine z_runSZ hXs X Y kL_132 (tL_cell (5 + 2 * k) (by omega) hLs) rfl rfl (Nat.le_of_ble_eq_true rfl) ⟨by decide, by decide⟩ ⟨by show 390 + 170 * k + 0 ≤ _; omega, by show 24350 + 2550 * k + 0 ≤ _; omega⟩ dL_law_226 ?_
                          rintro _ _ _ ⟨xv, rfl, rfl, rfl⟩
                          refine z_istore X dL_law_229 (by decide) ?_
                          refine z_aload_n X dL_law_231 rfl ?_
                          refine z_bipush (v := nI 6) X (by decide) dL_law_232 ?_
                          refine z_iconst (v := nI 2) X (by decide) dL_law_234 ?_
                          refine z_iload X dL_law_235 rfl ?_
                          refine z_imulN X dL_law_237 ?_
                          refine z_iaddN X dL_law_238 ?_
                          refine z_runSZ hXs X Y kL_132 (tL_cell (6 + 2 * k) (by omega) hLs) rfl rfl (Nat.le_of_ble_eq_true rfl) ⟨by decide, by decide⟩ ⟨by show 390 + 170 * k + 0 ≤ _; omega, by show 24350 + 2550 * k + 0 ≤ _; omega⟩ dL_law_239 ?_
                          rintro _ _ _ ⟨zv, rfl, rfl, rfl⟩
                          refine z_istore X dL_law_242 (by decide) ?_
                          refine z_iload X dL_law_244 rfl ?_
                          refine z_bipush (v := nI 20) X (by decide) dL_law_246 ?_
                          refine z_runSn X Y kL_116 (tL_some2 _ 20 (by decide) (by decide)) rfl rfl (Nat.le_of_ble_eq_true rfl) ⟨by decide, by decide⟩ ⟨by show 390 + 170 * k + 0 ≤ _; omega, by show 24350 + 2550 * k + 0 ≤ _; omega⟩ dL_law_248 ?_
                          rintro _ _ _ ⟨s1, hs1, rfl, rfl, rfl⟩
                          refine z_istore X dL_law_251 (by decide) ?_
                          have loop_337 : ∀ (n9 : Nat) (κ : zIn) (n : Nat → Nat) (g2 : zSh) (σ2 : zIn) (w : Nat → zSh) (τ : Nat → zIn) (hL : zLc a1 a2 a3 κ n g2 σ2 w τ) (hd : zDf σ2 κ n) (ht : n 7 ≤ 1440 * (k + 1)) (hn : 0 < n9), z_V p l e room_1 s m args below meth c 9 D cy z0 (390 + 170 * k + 20) (24350 + 2550 * k + 300) Q 337 [some (.ref b), some (.ref a1), some (.ref a2), some (.ref a3), some (.int (nI 1)), some (.int (nI k)), some (.int xv), some (.int zv), some (.int (nI s1))] [.int (nI 1)] (zJg w) (zJs τ) := by
                            intro n9
                            induction n9 with
                            | zero => intro κ n g2 σ2 w τ hL hd ht hn; exact absurd hn (Nat.not_lt_zero _)
                            | succ n9 ih_337 =>
                              intro κ n g2 σ2 w τ hL hd ht hn
                              refine z_istore X dL_law_337 (by decide) ?_
                              refine z_iload X dL_law_339 rfl ?_
                              refine z_if_eq (tgt := 394) X dL_law_341 (by decide) (fun c_341 => ?_) (fun c_341 => ?_)
                              · first | exact absurd c_341 (by decide) | exact absurd (by decide) c_341
                              · skip
                                refine z_iload X dL_law_344 rfl ?_
                                refine z_bipush (v := nI 20) X (by decide) dL_law_346 ?_
                                refine z_iremN X (by omega) (by omega) (by omega) dL_law_348 ?_
                                refine z_if_gt (tgt := 374) X dL_law_349 (by decide) (fun c_349 => ?_) (fun c_349 => ?_)
                                · skip
                                  try simp (disch := omega) only [zk0, nI_leI, nI_ltI, nI_eq, zbk_notn, zbk_not, zbk_n0, zbk_0, zb_0, zb_n0, zb_not, zb_notn, Bool.not_eq_false, Bool.not_eq_true, Bool.not_eq_true', Bool.not_eq_false', decide_eq_true_eq, decide_eq_false_iff_not, Classical.not_not] at c_349
                                  refine z_iload X dL_law_374 rfl ?_
                                  refine z_bipush (v := nI 40) X (by decide) dL_law_376 ?_
                                  refine z_iremN X (by omega) (by omega) (by omega) dL_law_378 ?_
                                  refine z_if_gt (tgt := 390) X dL_law_379 (by decide) (fun c_379 => ?_) (fun c_379 => ?_)
                                  · skip
                                    try simp (disch := omega) only [zk0, nI_leI, nI_ltI, nI_eq, zbk_notn, zbk_not, zbk_n0, zbk_0, zb_0, zb_n0, zb_not, zb_notn, Bool.not_eq_false, Bool.not_eq_true, Bool.not_eq_true', Bool.not_eq_false', decide_eq_true_eq, decide_eq_false_iff_not, Classical.not_not] at c_379
                                    refine z_iconst (v := nI 1) X (by decide) dL_law_390 ?_
                                    refine z_goto (tgt := 395) X dL_law_391 (by decide) ?_
                                    refine z_istore X dL_law_395 (by decide) ?_
                                    refine z_inc1 X dL_law_397 rfl (by decide) ?_
                                    refine z_goto (tgt := 207) X dL_law_400 (by decide) ?_
                                    refine z_wid (ce := 390 + 170 * (k + 1)) (sl := 24350 + 2550 * (k + 1)) (by first | (show 390 + 170 * k + 20 ≤ _; omega) | (show 390 + 170 * k + 20 + 150 ≤ _; omega)) (by first | (show 24350 + 2550 * k + 300 ≤ _; omega) | (show 24350 + 2550 * k + 300 + 2250 ≤ _; omega)) ?_
                                    exact ih_207 (k + 1) κ n g2 σ2 w τ _ _ _ (by omega) hL hd (by omega) (by omega)
                                  · skip
                                    try simp (disch := omega) only [zk0, nI_leI, nI_ltI, nI_eq, zbk_notn, zbk_not, zbk_n0, zbk_0, zb_0, zb_n0, zb_not, zb_notn, Bool.not_eq_false, Bool.not_eq_true, Bool.not_eq_true', Bool.not_eq_false', decide_eq_true_eq, decide_eq_false_iff_not, Classical.not_not] at c_379
                                    refine z_aload_n X dL_law_382 rfl ?_
                                    refine z_aload_n X dL_law_383 rfl ?_
                                    refine z_runSn X Y kL_136 (tL_refused hfl hL hd.1 hd.2.1 hd.2.2.1 hd.2.2.2.2.2.2.1 hd.2.2.2.1) rfl rfl (Nat.le_of_ble_eq_true rfl) ⟨by decide, by decide⟩ ⟨by show 390 + 170 * k + 20 + 150 ≤ _; omega, by show 24350 + 2550 * k + 300 + 2250 ≤ _; omega⟩ dL_law_384 ?_
                                    rintro _ _ _ ⟨w, τ, rfl, rfl, rfl, hL⟩
                                    refine z_if_eq (tgt := 394) X dL_law_387 (by decide) (fun c_387 => ?_) (fun c_387 => ?_)
                                    · exact absurd c_387 (by decide)
                                    · skip
                                      refine z_iconst (v := nI 1) X (by decide) dL_law_390 ?_
                                      refine z_goto (tgt := 395) X dL_law_391 (by decide) ?_
                                      refine z_istore X dL_law_395 (by decide) ?_
                                      refine z_inc1 X dL_law_397 rfl (by decide) ?_
                                      refine z_goto (tgt := 207) X dL_law_400 (by decide) ?_
                                      refine z_wid (ce := 390 + 170 * (k + 1)) (sl := 24350 + 2550 * (k + 1)) (by first | (show 390 + 170 * k + 20 ≤ _; omega) | (show 390 + 170 * k + 20 + 150 ≤ _; omega)) (by first | (show 24350 + 2550 * k + 300 ≤ _; omega) | (show 24350 + 2550 * k + 300 + 2250 ≤ _; omega)) ?_
                                      exact ih_207 (k + 1) κ n g2 σ2 w τ _ _ _ (by omega) hL hd (by omega) (by omega)
                                · skip
                                  try simp (disch := omega) only [zk0, nI_leI, nI_ltI, nI_eq, zbk_notn, zbk_not, zbk_n0, zbk_0, zb_0, zb_n0, zb_not, zb_notn, Bool.not_eq_false, Bool.not_eq_true, Bool.not_eq_true', Bool.not_eq_false', decide_eq_true_eq, decide_eq_false_iff_not, Classical.not_not] at c_349
                                  refine z_aload_n X dL_law_352 rfl ?_
                                  refine z_aload_n X dL_law_353 rfl ?_
                                  refine z_runSn X Y kL_127 (tL_all hL (Or.inl ⟨rfl, rfl⟩) hd.2.2.2.2.2.2.1 hd.2.2.2.1) rfl rfl (Nat.le_of_ble_eq_true rfl) ⟨by decide, by decide⟩ ⟨by show 390 + 170 * k + 20 + 0 ≤ _; omega, by show 24350 + 2550 * k + 300 + 0 ≤ _; omega⟩ dL_law_354 ?_
                                  rintro _ _ _ ⟨w, τ, rfl, rfl, rfl, hL⟩
                                  refine z_aload_n X dL_law_357 rfl ?_
                                  refine z_aload_n X dL_law_358 rfl ?_
                                  refine z_runSn X Y kL_127 (tL_all hL (Or.inr ⟨rfl, rfl⟩) hd.2.2.2.2.2.2.1 hd.2.2.2.1) rfl rfl (Nat.le_of_ble_eq_true rfl) ⟨by decide, by decide⟩ ⟨by show 390 + 170 * k + 20 + 0 ≤ _; omega, by show 24350 + 2550 * k + 300 + 0 ≤ _; omega⟩ dL_law_359 ?_
                                  rintro _ _ _ ⟨w, τ, rfl, rfl, rfl, hL⟩
                                  refine z_lcmp X dL_law_362 ?_
                                  refine z_if_ne (tgt := 394) X dL_law_363 (by decide) (fun c_363 => ?_) (fun c_363 => ?_)
                                  · exact absurd (zlcmp_0 _) c_363
                                  · skip
                                    refine z_aload_n X dL_law_366 rfl ?_
                                    refine z_aload_n X dL_law_367 rfl ?_
                                    refine z_runSn X Y kL_153 (tL_sound hL hd.2.2.2.2.2.2.1 hd.2.2.2.1 hd.2.2.2.2.2.2.2.2.1) rfl rfl (Nat.le_of_ble_eq_true rfl) ⟨by decide, by decide⟩ ⟨by show 390 + 170 * k + 20 + 0 ≤ _; omega, by show 24350 + 2550 * k + 300 + 0 ≤ _; omega⟩ dL_law_368 ?_
                                    rintro _ _ _ ⟨w, τ, rfl, rfl, rfl, hL⟩
                                    refine z_if_eq (tgt := 394) X dL_law_371 (by decide) (fun c_371 => ?_) (fun c_371 => ?_)
                                    · exact absurd c_371 (by decide)
                                    · skip
                                      refine z_iload X dL_law_374 rfl ?_
                                      refine z_bipush (v := nI 40) X (by decide) dL_law_376 ?_
                                      refine z_iremN X (by omega) (by omega) (by omega) dL_law_378 ?_
                                      refine z_if_gt (tgt := 390) X dL_law_379 (by decide) (fun c_379 => ?_) (fun c_379 => ?_)
                                      · skip
                                        try simp (disch := omega) only [zk0, nI_leI, nI_ltI, nI_eq, zbk_notn, zbk_not, zbk_n0, zbk_0, zb_0, zb_n0, zb_not, zb_notn, Bool.not_eq_false, Bool.not_eq_true, Bool.not_eq_true', Bool.not_eq_false', decide_eq_true_eq, decide_eq_false_iff_not, Classical.not_not] at c_379
                                        refine z_iconst (v := nI 1) X (by decide) dL_law_390 ?_
                                        refine z_goto (tgt := 395) X dL_law_391 (by decide) ?_
                                        refine z_istore X dL_law_395 (by decide) ?_
                                        refine z_inc1 X dL_law_397 rfl (by decide) ?_
                                        refine z_goto (tgt := 207) X dL_law_400 (by decide) ?_
                                        refine z_wid (ce := 390 + 170 * (k + 1)) (sl := 24350 + 2550 * (k + 1)) (by first | (show 390 + 170 * k + 20 ≤ _; omega) | (show 390 + 170 * k + 20 + 150 ≤ _; omega)) (by first | (show 24350 + 2550 * k + 300 ≤ _; omega) | (show 24350 + 2550 * k + 300 + 2250 ≤ _; omega)) ?_
                                        exact ih_207 (k + 1) κ n g2 σ2 w τ _ _ _ (by omega) hL hd (by omega) (by omega)
                                      · skip
                                        try simp (disch := omega) only [zk0, nI_leI, nI_ltI, nI_eq, zbk_notn, zbk_not, zbk_n0, zbk_0, zb_0, zb_n0, zb_not, zb_notn, Bool.not_eq_false, Bool.not_eq_true, Bool.not_eq_true', Bool.not_eq_false', decide_eq_true_eq, decide_eq_false_iff_not, Classical.not_not] at c_379
                                        refine z_aload_n X dL_law_382 rfl ?_
                                        refine z_aload_n X dL_law_383 rfl ?_
                                        refine z_runSn X Y kL_136 (tL_refused hfl hL hd.1 hd.2.1 hd.2.2.1 hd.2.2.2.2.2.2.1 hd.2.2.2.1) rfl rfl (Nat.le_of_ble_eq_true rfl) ⟨by decide, by decide⟩ ⟨by show 390 + 170 * k + 20 + 150 ≤ _; omega, by show 24350 + 2550 * k + 300 + 2250 ≤ _; omega⟩ dL_law_384 ?_
                                        rintro _ _ _ ⟨w, τ, rfl, rfl, rfl, hL⟩
                                        refine z_if_eq (tgt := 394) X dL_law_387 (by decide) (fun c_387 => ?_) (fun c_387 => ?_)
                                        · exact absurd c_387 (by decide)
                                        · skip
                                          refine z_iconst (v := nI 1) X (by decide) dL_law_390 ?_
                                          refine z_goto (tgt := 395) X dL_law_391 (by decide) ?_
                                          refine z_istore X dL_law_395 (by decide) ?_
                                          refine z_inc1 X dL_law_397 rfl (by decide) ?_
                                          refine z_goto (tgt := 207) X dL_law_400 (by decide) ?_
                                          refine z_wid (ce := 390 + 170 * (k + 1)) (sl := 24350 + 2550 * (k + 1)) (by first | (show 390 + 170 * k + 20 ≤ _; omega) | (show 390 + 170 * k + 20 + 150 ≤ _; omega)) (by first | (show 24350 + 2550 * k + 300 ≤ _; omega) | (show 24350 + 2550 * k + 300 + 2250 ≤ _; omega)) ?_
                                          exact ih_207 (k + 1) κ n g2 σ2 w τ _ _ _ (by omega) hL hd (by omega) (by omega)
                          refine z_iload X dL_law_253 rfl ?_
                          refine z_iconst (v := nI 5) X (by decide) dL_law_255 ?_
                          refine z_icmp_lt (tgt := 266) X dL_law_256 (by decide) (fun c_256 => ?_) (fun c_256 => ?_)
                          · skip
                            try simp (disch := omega) only [zk0, nI_leI, nI_ltI, nI_eq, zbk_notn, zbk_not, zbk_n0, zbk_0, zb_0, zb_n0, zb_not, zb_notn, Bool.not_eq_false, Bool.not_eq_true, Bool.not_eq_true', Bool.not_eq_false', decide_eq_true_eq, decide_eq_false_iff_not, Classical.not_not] at c_256
                            refine z_aload_n X dL_law_266 rfl ?_
                            refine z_aload_n X dL_law_267 rfl ?_
                            refine z_aload_n X dL_law_268 rfl ?_
                            refine z_iload X dL_law_269 rfl ?_
                            refine z_iconst (v := nI 5) X (by decide) dL_law_271 ?_
                            refine z_ishr X dL_law_272 ?_
                            refine z_iload X dL_law_273 rfl ?_
                            refine z_runSn X Y kL_140 (tL_books _ _ hfl hL hd ht) rfl rfl (Nat.le_of_ble_eq_true rfl) ⟨by decide, by decide⟩ ⟨by show 390 + 170 * k + 10 ≤ _; omega, by show 24350 + 2550 * k + 150 ≤ _; omega⟩ dL_law_275 ?_
                            rintro _ _ _ ⟨κ, n, g2, σ2, w, τ, rfl, rfl, rfl, hL, hd, ht⟩
                            refine z_goto (tgt := 337) X dL_law_278 (by decide) ?_
                            refine z_wid (ce := 390 + 170 * k + 20) (sl := 24350 + 2550 * k + 300) (by first | (show 390 + 170 * k + 10 ≤ _; omega) | (show 390 + 170 * k + 20 ≤ _; omega) | (show 390 + 170 * k + 11 ≤ _; omega)) (by first | (show 24350 + 2550 * k + 150 ≤ _; omega) | (show 24350 + 2550 * k + 300 ≤ _; omega) | (show 24350 + 2550 * k + 210 ≤ _; omega)) ?_
                            exact loop_337 1 κ n g2 σ2 w τ hL hd (by omega) (by decide)
                          · skip
                            try simp (disch := omega) only [zk0, nI_leI, nI_ltI, nI_eq, zbk_notn, zbk_not, zbk_n0, zbk_0, zb_0, zb_n0, zb_not, zb_notn, Bool.not_eq_false, Bool.not_eq_true, Bool.not_eq_true', Bool.not_eq_false', decide_eq_true_eq, decide_eq_false_iff_not, Classical.not_not] at c_256
                            refine z_iload X dL_law_259 rfl ?_
                            refine z_bipush (v := nI 6) X (by decide) dL_law_261 ?_
                            refine z_icmp_ge (tgt := 281) X dL_law_263 (by decide) (fun c_263 => ?_) (fun c_263 => ?_)
                            · skip
                              try simp (disch := omega) only [zk0, nI_leI, nI_ltI, nI_eq, zbk_notn, zbk_not, zbk_n0, zbk_0, zb_0, zb_n0, zb_not, zb_notn, Bool.not_eq_false, Bool.not_eq_true, Bool.not_eq_true', Bool.not_eq_false', decide_eq_true_eq, decide_eq_false_iff_not, Classical.not_not] at c_263
                              refine z_iload X dL_law_281 rfl ?_
                              refine z_bipush (v := nI 9) X (by decide) dL_law_283 ?_
                              refine z_icmp_ge (tgt := 303) X dL_law_285 (by decide) (fun c_285 => ?_) (fun c_285 => ?_)
                              · skip
                                try simp (disch := omega) only [zk0, nI_leI, nI_ltI, nI_eq, zbk_notn, zbk_not, zbk_n0, zbk_0, zb_0, zb_n0, zb_not, zb_notn, Bool.not_eq_false, Bool.not_eq_true, Bool.not_eq_true', Bool.not_eq_false', decide_eq_true_eq, decide_eq_false_iff_not, Classical.not_not] at c_285
                                refine z_iload X dL_law_303 rfl ?_
                                refine z_bipush (v := nI 15) X (by decide) dL_law_305 ?_
                                refine z_icmp_ge (tgt := 325) X dL_law_307 (by decide) (fun c_307 => ?_) (fun c_307 => ?_)
                                · skip
                                  try simp (disch := omega) only [zk0, nI_leI, nI_ltI, nI_eq, zbk_notn, zbk_not, zbk_n0, zbk_0, zb_0, zb_n0, zb_not, zb_notn, Bool.not_eq_false, Bool.not_eq_true, Bool.not_eq_true', Bool.not_eq_false', decide_eq_true_eq, decide_eq_false_iff_not, Classical.not_not] at c_307
                                  refine z_aload_n X dL_law_325 rfl ?_
                                  refine z_aload_n X dL_law_326 rfl ?_
                                  refine z_aload_n X dL_law_327 rfl ?_
                                  refine z_iload X dL_law_328 rfl ?_
                                  refine z_iconst (v := nI 5) X (by decide) dL_law_330 ?_
                                  refine z_ishr X dL_law_331 ?_
                                  refine z_iload X dL_law_332 rfl ?_
                                  refine z_runSn X Y kL_150 (tL_passes _ _ hfl hL hd ht (by omega)) rfl rfl (Nat.le_of_ble_eq_true rfl) ⟨by decide, by decide⟩ ⟨by show 390 + 170 * k + 11 ≤ _; omega, by show 24350 + 2550 * k + 210 ≤ _; omega⟩ dL_law_334 ?_
                                  rintro _ _ _ ⟨κ, n, g2, σ2, w, τ, rfl, rfl, rfl, hL, hd, ht⟩
                                  refine z_wid (ce := 390 + 170 * k + 20) (sl := 24350 + 2550 * k + 300) (by first | (show 390 + 170 * k + 10 ≤ _; omega) | (show 390 + 170 * k + 20 ≤ _; omega) | (show 390 + 170 * k + 11 ≤ _; omega)) (by first | (show 24350 + 2550 * k + 150 ≤ _; omega) | (show 24350 + 2550 * k + 300 ≤ _; omega) | (show 24350 + 2550 * k + 210 ≤ _; omega)) ?_
                                  exact loop_337 1 κ n g2 σ2 w τ hL hd (by omega) (by decide)
                                · skip
                                  try simp (disch := omega) only [zk0, nI_leI, nI_ltI, nI_eq, zbk_notn, zbk_not, zbk_n0, zbk_0, zb_0, zb_n0, zb_not, zb_notn, Bool.not_eq_false, Bool.not_eq_true, Bool.not_eq_true', Bool.not_eq_false', decide_eq_true_eq, decide_eq_false_iff_not, Classical.not_not] at c_307
                                  refine z_aload_n X dL_law_310 rfl ?_
                                  refine z_aload_n X dL_law_311 rfl ?_
                                  refine z_aload_n X dL_law_312 rfl ?_
                                  refine z_iload X dL_law_313 rfl ?_
                                  refine z_iconst (v := nI 5) X (by decide) dL_law_315 ?_
                                  refine z_ishr X dL_law_316 ?_
                                  refine z_iload X dL_law_317 rfl ?_
                                  refine z_runSn X Y kL_147 (tL_sends _ _ hfl hL hd ht) rfl rfl (Nat.le_of_ble_eq_true rfl) ⟨by decide, by decide⟩ ⟨by show 390 + 170 * k + 10 ≤ _; omega, by show 24350 + 2550 * k + 150 ≤ _; omega⟩ dL_law_319 ?_
                                  rintro _ _ _ ⟨κ, n, g2, σ2, w, τ, rfl, rfl, rfl, hL, hd, ht⟩
                                  refine z_goto (tgt := 337) X dL_law_322 (by decide) ?_
                                  refine z_wid (ce := 390 + 170 * k + 20) (sl := 24350 + 2550 * k + 300) (by first | (show 390 + 170 * k + 10 ≤ _; omega) | (show 390 + 170 * k + 20 ≤ _; omega) | (show 390 + 170 * k + 11 ≤ _; omega)) (by first | (show 24350 + 2550 * k + 150 ≤ _; omega) | (show 24350 + 2550 * k + 300 ≤ _; omega) | (show 24350 + 2550 * k + 210 ≤ _; omega)) ?_
                                  exact loop_337 1 κ n g2 σ2 w τ hL hd (by omega) (by decide)
                              · skip
                                try simp (disch := omega) only [zk0, nI_leI, nI_ltI, nI_eq, zbk_notn, zbk_not, zbk_n0, zbk_0, zb_0, zb_n0, zb_not, zb_notn, Bool.not_eq_false, Bool.not_eq_true, Bool.not_eq_true', Bool.not_eq_false', decide_eq_true_eq, decide_eq_false_iff_not, Classical.not_not] at c_285
                                refine z_aload_n X dL_law_288 rfl ?_
                                refine z_aload_n X dL_law_289 rfl ?_
                                refine z_aload_n X dL_law_290 rfl ?_
                                refine z_iload X dL_law_291 rfl ?_
                                refine z_iconst (v := nI 5) X (by decide) dL_law_293 ?_
                                refine z_ishr X dL_law_294 ?_
                                refine z_iload X dL_law_295 rfl ?_
                                refine z_runSn X Y kL_144 (tL_offices _ _ hfl hL hd ht) rfl rfl (Nat.le_of_ble_eq_true rfl) ⟨by decide, by decide⟩ ⟨by show 390 + 170 * k + 20 ≤ _; omega, by show 24350 + 2550 * k + 300 ≤ _; omega⟩ dL_law_297 ?_
                                rintro _ _ _ ⟨κ, n, g2, σ2, w, τ, rfl, rfl, rfl, hL, hd, ht⟩
                                refine z_goto (tgt := 337) X dL_law_300 (by decide) ?_
                                refine z_wid (ce := 390 + 170 * k + 20) (sl := 24350 + 2550 * k + 300) (by first | (show 390 + 170 * k + 10 ≤ _; omega) | (show 390 + 170 * k + 20 ≤ _; omega) | (show 390 + 170 * k + 11 ≤ _; omega)) (by first | (show 24350 + 2550 * k + 150 ≤ _; omega) | (show 24350 + 2550 * k + 300 ≤ _; omega) | (show 24350 + 2550 * k + 210 ≤ _; omega)) ?_
                                exact loop_337 1 κ n g2 σ2 w τ hL hd (by omega) (by decide)
                            · skip
                              try simp (disch := omega) only [zk0, nI_leI, nI_ltI, nI_eq, zbk_notn, zbk_not, zbk_n0, zbk_0, zb_0, zb_n0, zb_not, zb_notn, Bool.not_eq_false, Bool.not_eq_true, Bool.not_eq_true', Bool.not_eq_false', decide_eq_true_eq, decide_eq_false_iff_not, Classical.not_not] at c_263
                              refine z_aload_n X dL_law_266 rfl ?_
                              refine z_aload_n X dL_law_267 rfl ?_
                              refine z_aload_n X dL_law_268 rfl ?_
                              refine z_iload X dL_law_269 rfl ?_
                              refine z_iconst (v := nI 5) X (by decide) dL_law_271 ?_
                              refine z_ishr X dL_law_272 ?_
                              refine z_iload X dL_law_273 rfl ?_
                              refine z_runSn X Y kL_140 (tL_books _ _ hfl hL hd ht) rfl rfl (Nat.le_of_ble_eq_true rfl) ⟨by decide, by decide⟩ ⟨by show 390 + 170 * k + 10 ≤ _; omega, by show 24350 + 2550 * k + 150 ≤ _; omega⟩ dL_law_275 ?_
                              rintro _ _ _ ⟨κ, n, g2, σ2, w, τ, rfl, rfl, rfl, hL, hd, ht⟩
                              refine z_goto (tgt := 337) X dL_law_278 (by decide) ?_
                              refine z_wid (ce := 390 + 170 * k + 20) (sl := 24350 + 2550 * k + 300) (by first | (show 390 + 170 * k + 10 ≤ _; omega) | (show 390 + 170 * k + 20 ≤ _; omega) | (show 390 + 170 * k + 11 ≤ _; omega)) (by first | (show 24350 + 2550 * k + 150 ≤ _; omega) | (show 24350 + 2550 * k + 300 ≤ _; omega) | (show 24350 + 2550 * k + 210 ≤ _; omega)) ?_
                              exact loop_337 1 κ n g2 σ2 w τ hL hd (by omega) (by decide)
                  refine z_iconst (v := nI 0) X (by decide) dL_law_204 ?_
                  refine z_istore X dL_law_205 (by decide) ?_
                  exact loop_207 (80 - 0 + 1) 0 κ n g2 _ w _ _ _ _ (by omega) hL hd (by rw [hc9.2.2.2.2.2.2.2]; exact Nat.zero_le _) (by omega)
            · skip
              try simp (disch := omega) only [zk0, nI_leI, nI_ltI, nI_eq, zbk_notn, zbk_not, zbk_n0, zbk_0, zb_0, zb_n0, zb_not, zb_notn, Bool.not_eq_false, Bool.not_eq_true, Bool.not_eq_true', Bool.not_eq_false', decide_eq_true_eq, decide_eq_false_iff_not, Classical.not_not] at c_77
              refine z_iload X dL_law_80 rfl ?_
              refine z_if_eq (tgt := 180) X dL_law_82 (by decide) (fun c_82 => ?_) (fun c_82 => ?_)
              · first | exact absurd c_82 (by decide) | exact absurd (by decide) c_82
              · skip
                refine z_aload_n X dL_law_85 rfl ?_
                refine z_iload X dL_law_86 rfl ?_
                refine z_runSZ hXs X Y kL_132 (tL_cell (k) (by omega) hLs) rfl rfl (Nat.le_of_ble_eq_true rfl) ⟨by decide, by decide⟩ ⟨by show 140 + 20 * k + 0 ≤ _; omega, by show 20600 + 300 * k + 0 ≤ _; omega⟩ dL_law_88 ?_
                rintro _ _ _ ⟨xv, rfl, rfl, rfl⟩
                refine z_istore X dL_law_91 (by decide) ?_
                refine z_aload_n X dL_law_93 rfl ?_
                refine z_aload_n X dL_law_94 rfl ?_
                refine z_iconst (v := nI 0) X (by decide) dL_law_95 ?_
                refine z_iconst (v := nI 1) X (by decide) dL_law_96 ?_
                refine z_iload X dL_law_97 rfl ?_
                refine z_bipush (v := nI 20) X (by decide) dL_law_99 ?_
                refine z_runSn X Y kL_116 (tL_some2 _ 20 (by decide) (by decide)) rfl rfl (Nat.le_of_ble_eq_true rfl) ⟨by decide, by decide⟩ ⟨by show 140 + 20 * k + 0 ≤ _; omega, by show 20600 + 300 * k + 0 ≤ _; omega⟩ dL_law_101 ?_
                rintro _ _ _ ⟨s1, hs1, rfl, rfl, rfl⟩
                refine z_iaddN X dL_law_104 ?_
                refine z_iconst (v := nI 0) X (by decide) dL_law_105 ?_
                refine z_iconst (v := nI 0) X (by decide) dL_law_106 ?_
                refine z_iconst (v := nI 0) X (by decide) dL_law_107 ?_
                refine z_iconst (v := nI 0) X (by decide) dL_law_108 ?_
                refine z_runSn X Y kL_120 (tL_both (nI 0) (nI (1 + s1)) (nI 0) (nI 0) (nI 0) (nI 0) (zd_idea _) hL (fun _ _ h z1 => tL_does_0 hfl (zso_1 h.S) _ _ _ _ _ (tC_idea hfl h _))) rfl rfl (Nat.le_of_ble_eq_true rfl) ⟨by decide, by decide⟩ ⟨by show 140 + 20 * k + 10 ≤ _; omega, by show 20600 + 300 * k + 150 ≤ _; omega⟩ dL_law_109 ?_
                rintro _ _ _ ⟨r, κ1, n1, w, τ, rfl, hR, rfl, rfl, hL⟩
                obtain ⟨rfl, eκ, en⟩ := zRk_0 (zx_idea_0 (by omega) (by omega) (by omega)) hR
                rw [hc9.2.1]
                have hn13 : n1 3 = 4 := by rw [en]; exact hc9.1
                have hn14 : n1 4 = k := by rw [en]; exact hc9.2.2.1
                refine z_iload X dL_law_112 rfl ?_
                refine z_icmp_ne (tgt := 171) X dL_law_114 (by decide) (fun c_114 => ?_) (fun c_114 => ?_)
                · exact absurd rfl c_114
                · skip
                  refine z_aload_n X dL_law_117 rfl ?_
                  refine z_aload_n X dL_law_118 rfl ?_
                  refine z_iconst (v := nI 5) X (by decide) dL_law_119 ?_
                  refine z_iload X dL_law_120 rfl ?_
                  refine z_iconst (v := nI 4) X (by decide) dL_law_122 ?_
                  refine z_iremN X (by omega) (by omega) (by omega) dL_law_123 ?_
                  refine z_iload X dL_law_124 rfl ?_
                  refine z_iconst (v := nI 1) X (by decide) dL_law_126 ?_
                  refine z_iaddN X dL_law_127 ?_
                  refine z_iload X dL_law_128 rfl ?_
                  refine z_iconst (v := nI 4) X (by decide) dL_law_130 ?_
                  refine z_idivN X (by omega) (by omega) (by omega) dL_law_131 ?_
                  refine z_iaddN X dL_law_132 ?_
                  refine z_iconst (v := nI 4) X (by decide) dL_law_133 ?_
                  refine z_iremN X (by omega) (by omega) (by omega) dL_law_134 ?_
                  refine z_iconst (v := nI 1) X (by decide) dL_law_135 ?_
                  refine z_iload X dL_law_136 rfl ?_
                  refine z_iconst (v := nI 3) X (by decide) dL_law_138 ?_
                  refine z_ishr X dL_law_139 ?_
                  refine z_bipush (v := nI 9) X (by decide) dL_law_140 ?_
                  refine z_runSn X Y kL_116 (tL_some2 _ 9 (by decide) (by decide)) rfl rfl (Nat.le_of_ble_eq_true rfl) ⟨by decide, by decide⟩ ⟨by show 140 + 20 * k + 10 ≤ _; omega, by show 20600 + 300 * k + 150 ≤ _; omega⟩ dL_law_142 ?_
                  rintro _ _ _ ⟨s2, hs2, rfl, rfl, rfl⟩
                  refine z_iaddN X dL_law_145 ?_
                  refine z_iconst (v := nI 1) X (by decide) dL_law_146 ?_
                  refine z_iload X dL_law_147 rfl ?_
                  refine z_bipush (v := nI 7) X (by decide) dL_law_149 ?_
                  refine z_ishr X dL_law_151 ?_
                  refine z_bipush (v := nI 9) X (by decide) dL_law_152 ?_
                  refine z_runSn X Y kL_116 (tL_some2 _ 9 (by decide) (by decide)) rfl rfl (Nat.le_of_ble_eq_true rfl) ⟨by decide, by decide⟩ ⟨by show 140 + 20 * k + 10 ≤ _; omega, by show 20600 + 300 * k + 150 ≤ _; omega⟩ dL_law_154 ?_
                  rintro _ _ _ ⟨s3, hs3, rfl, rfl, rfl⟩
                  refine z_iaddN X dL_law_157 ?_
                  refine z_iconst (v := nI 0) X (by decide) dL_law_158 ?_
                  refine z_runSn X Y kL_120 (tL_both (nI 5) (nI (k % 4)) (nI ((k + 1 + k / 4) % 4)) (nI (1 + s2)) (nI (1 + s3)) (nI 0) (zd_cable _ _ _ _) hL (fun _ _ h z1 => tL_does_5 hfl (zso_1 h.S) _ _ _ _ _ (tC_cable hfl h _ _ _ _))) rfl rfl (Nat.le_of_ble_eq_true rfl) ⟨by decide, by decide⟩ ⟨by show 140 + 20 * k + 20 ≤ _; omega, by show 20600 + 300 * k + 300 ≤ _; omega⟩ dL_law_159 ?_
                  rintro _ _ _ ⟨r, κ2, n2, w, τ, rfl, hR, rfl, rfl, hL⟩
                  obtain ⟨rfl, eκ2, en2⟩ := zRk_0 (zx_cable_0 (by omega) (by omega) (by omega) (by omega) ⟨by omega, by omega⟩ ⟨by omega, by omega⟩ (by omega)) hR
                  rw [hn14]
                  refine z_iload X dL_law_162 rfl ?_
                  refine z_icmp_ne (tgt := 171) X dL_law_164 (by decide) (fun c_164 => ?_) (fun c_164 => ?_)
                  · exact absurd rfl c_164
                  · skip
                    refine z_iconst (v := nI 1) X (by decide) dL_law_167 ?_
                    refine z_goto (tgt := 172) X dL_law_168 (by decide) ?_
                    refine z_istore X dL_law_172 (by decide) ?_
                    refine z_inc1 X dL_law_174 rfl (by decide) ?_
                    refine z_goto (tgt := 74) X dL_law_177 (by decide) ?_
                    refine z_wid (ce := 140 + 20 * (k + 1)) (sl := 20600 + 300 * (k + 1)) (by show 140 + 20 * k + 20 ≤ _; omega) (by show 20600 + 300 * k + 300 ≤ _; omega) ?_
                    exact ih_74 (k + 1) κ2 n2 w τ _ (by omega) hL (by rw [en2, en]; exact ⟨hc9.1, by show n 0 + 1 = k + 1; omega, by show n 4 + 1 = k + 1; omega, hc9.2.2.2⟩) (by omega)
        refine z_iconst (v := nI 0) X (by decide) dL_law_71 ?_
        refine z_istore X dL_law_72 (by decide) ?_
        exact loop_74 (5 - 0 + 1) 0 κ n w _ _ (by omega) hL ⟨hc9.1, hc9.2.1, hc9.2.2.2.2.1, hc9.2.2.1, hc9.2.2.2.1, hc9.2.2.2.2.2⟩ (by omega)
      · skip
        try simp (disch := omega) only [zk0, nI_leI, nI_ltI, nI_eq, zbk_notn, zbk_not, zbk_n0, zbk_0, zb_0, zb_n0, zb_not, zb_notn, Bool.not_eq_false, Bool.not_eq_true, Bool.not_eq_true', Bool.not_eq_false', decide_eq_true_eq, decide_eq_false_iff_not, Classical.not_not] at c_30
        refine z_iload X dL_law_33 rfl ?_
        refine z_if_eq (tgt := 67) X dL_law_35 (by decide) (fun c_35 => ?_) (fun c_35 => ?_)
        · first | exact absurd c_35 (by decide) | exact absurd (by decide) c_35
        · skip
          refine z_aload_n X dL_law_38 rfl ?_
          refine z_aload_n X dL_law_39 rfl ?_
          refine z_iconst (v := nI 4) X (by decide) dL_law_40 ?_
          refine z_iconst (v := nI 0) X (by decide) dL_law_41 ?_
          refine z_iconst (v := nI 0) X (by decide) dL_law_42 ?_
          refine z_iconst (v := nI 0) X (by decide) dL_law_43 ?_
          refine z_iconst (v := nI 0) X (by decide) dL_law_44 ?_
          refine z_iconst (v := nI 0) X (by decide) dL_law_45 ?_
          refine z_runSn X Y kL_120 (tL_both (nI 4) (nI 0) (nI 0) (nI 0) (nI 0) (nI 0) zd_office hL (fun _ _ h z1 => tL_does_4 hfl (zso_1 h.S) _ _ _ _ _ (tC_office hfl h))) rfl rfl (Nat.le_of_ble_eq_true rfl) ⟨by decide, by decide⟩ ⟨by show 100 + 10 * k + 10 ≤ _; omega, by show 20000 + 150 * k + 150 ≤ _; omega⟩ dL_law_46 ?_
          rintro _ _ _ ⟨r, κ1, n1, w, τ, rfl, hR, rfl, rfl, hL⟩
          obtain ⟨rfl, eκ, en⟩ := zRk_0 (show zx_office (n 3) = 0 from if_neg (by omega)) hR
          rw [hc9.1]
          refine z_iload X dL_law_49 rfl ?_
          refine z_icmp_ne (tgt := 58) X dL_law_51 (by decide) (fun c_51 => ?_) (fun c_51 => ?_)
          · exact absurd rfl c_51
          · skip
            refine z_iconst (v := nI 1) X (by decide) dL_law_54 ?_
            refine z_goto (tgt := 59) X dL_law_55 (by decide) ?_
            refine z_istore X dL_law_59 (by decide) ?_
            refine z_inc1 X dL_law_61 rfl (by decide) ?_
            refine z_goto (tgt := 27) X dL_law_64 (by decide) ?_
            refine z_wid (ce := 100 + 10 * (k + 1)) (sl := 20000 + 150 * (k + 1)) (by show 100 + 10 * k + 10 ≤ _; omega) (by show 20000 + 150 * k + 150 ≤ _; omega) ?_
            exact ih_27 (k + 1) κ1 n1 w τ (by omega) hL (by rw [en]; exact ⟨by show n 3 + 1 = k + 1; omega, hc9.2⟩) (by omega)
  refine z_iconst (v := nI 0) X (by decide) dL_law_24 ?_
  refine z_istore X dL_law_25 (by decide) ?_
  exact loop_27 (4 - 0 + 1) 0 zK_nu (fun _ => 0) _ _ (by omega) hL ⟨rfl, rfl, rfl, rfl, rfl, rfl, rfl, rfl⟩ (by omega)
set_option maxHeartbeats 4000000 in
set_option maxRecDepth 100000 in
theorem law_walk {p : Program} {l : Launch} {e : Env} {s : State} {m : MethodId} {args : Array Value} {below : List Frame} {meth : Method} {c : Code} {Q : State → Prop} {nm : String} {D : va_G} {cy : Nat → ClassId} {z0 : zRg} {b Ls : Nat} {xs : Nat → Int32} (hfl : l.stackTraces = false) (X : z_cx p s m args meth c RL cL_law 9 ret nm D cy z0) (Y : zTh z0 s) (hXs : zXb b Ls xs z0 s) (hLs : Ls < 1000)
    (hend : ∀ cells slots (L : List (Option Value)) g σ, cells ≤ 15000 → slots ≤ 300000 → z_V p l e room_1 s m args below meth c 9 D cy z0 cells slots Q 430 L [] g σ) : z_V p l e room_1 s m args below meth c 9 D cy z0 0 0 Q 0 [some (.ref b), none, none, none, none, none, none, none, none] [] (zJg z_W0) (zJs z_T0) := by
  have d0 : zDs [] [] [] [] [] [] (fun _ => 0) (fun _ _ => 0) z_g0 (fun _ _ => 0) := ⟨(fun j hj => absurd hj List.not_mem_nil), rfl, (fun q hq => absurd hq List.not_mem_nil), (fun q hq => absurd hq List.not_mem_nil), (fun q hq => absurd hq List.not_mem_nil), (fun q hq => absurd hq List.not_mem_nil), (fun q hq => absurd hq List.not_mem_nil), (fun q hq => absurd hq List.not_mem_nil)⟩
  have start1 : ∀ a : Nat, zDs [1] [(1, 8)] [] [] [1] [1] (z_add z_g0 1 a 8 0).2.1 (fun _ _ => 0) (z_add z_g0 1 a 8 0) (z_zero (fun _ _ => 0) 1) := fun a => ((d0.add (i := 1) (a := a) (kd := 8) (n := 0) List.not_mem_nil (fun q hq => absurd hq List.not_mem_nil) List.not_mem_nil (fun _ => rfl)).obj z_ob_at).re [1] (by decide)
  have w3 : ∀ w : Nat → zSh, z_wf (w 0) → z_wf (w 1) → z_wf (w 2) → z_wf (zJg w) := fun w h0 h1 h2 => zJ_wf (fun c hc => by
    rcases (show c = 0 ∨ c = 1 ∨ c = 2 by omega) with rfl | rfl | rfl
    · exact h0
    · exact h1
    · exact h2)
  refine z_new X (i := 3) nwL_25 (w3 _ d0.1 d0.1 d0.1) (fun q => absurd ((zJ_in (i := 1) (c := 0) (by decide)).mp q) List.not_mem_nil) (by decide) (Nat.le_of_ble_eq_true rfl) (Nat.le_of_ble_eq_true rfl) dL_law_0 (fun a1 => ?_)
  have e1 : z_add (zJg z_W0) 3 a1 8 0 = zJg (zp1 z_W0 0 (z_add z_g0 1 a1 8 0)) := zJ_add (i := 1) (c := 0) (by decide) (fun _ => rfl) (fun _ => rfl)
  have e2 : z_zero (zJs z_T0) 3 = zJs (zp1 z_T0 0 (z_zero (fun _ _ => 0) 1)) := zJ_ze (i := 1) (c := 0) (by decide)
  rw [e1, e2]
  have d1 := start1 a1
  have ea : (z_add z_g0 1 a1 8 0).2.1 1 = a1 := z_add_at
  generalize z_add z_g0 1 a1 8 0 = g1 at d1 ea ⊢
  generalize z_zero (fun _ _ => 0) 1 = s1 at d1 ⊢
  clear e1 e2
  refine z_dup X rfl dL_law_3 ?_
  have hav : (zJg (zp1 z_W0 0 g1)).2.1 3 = a1 := ea
  refine z_runIn (b := 3) (As := []) (rest := [.ref a1]) X Y kL_131 (hav ▸ z_Cn_fr (w := zp1 z_W0 0 g1) (τ := zp1 z_T0 0 s1) 0 (by decide) (fun z1 => (tX8_init d1 ea).toN)) rfl (by rw [hav]; rfl) (Nat.le_of_ble_eq_true rfl) ⟨by decide, by decide⟩ ⟨Nat.le_of_ble_eq_true rfl, Nat.le_of_ble_eq_true rfl⟩ dL_law_4 ?_
  rintro v _ _ ⟨g2, s2, ⟨rfl, hA, ad, d2⟩, rfl, rfl⟩
  replace hA := hA.trans hav
  rw [zne_upd, zne_upd]
  clear d1 ea hav
  refine z_astore_n X dL_law_7 (by decide) ?_
  refine z_new X (i := 4) nwL_25 (w3 _ d2.1 d0.1 d0.1) (fun q => absurd ((zJ_in (i := 1) (c := 1) (by decide)).mp q) List.not_mem_nil) (by decide) (Nat.le_of_ble_eq_true rfl) (Nat.le_of_ble_eq_true rfl) dL_law_8 (fun a2 => ?_)
  have e1 : z_add (zJg (zp1 z_W0 0 g2)) 4 a2 8 0 = zJg (zp1 (zp1 z_W0 0 g2) 1 (z_add z_g0 1 a2 8 0)) := zJ_add (i := 1) (c := 1) (by decide) (fun q => absurd q (by decide)) (fun _ => rfl)
  have e2 : z_zero (zJs (zp1 z_T0 0 s2)) 4 = zJs (zp1 (zp1 z_T0 0 s2) 1 (z_zero (fun _ _ => 0) 1)) := zJ_ze (i := 1) (c := 1) (by decide)
  rw [e1, e2]
  have d3 := start1 a2
  have ea : (z_add z_g0 1 a2 8 0).2.1 1 = a2 := z_add_at
  generalize z_add z_g0 1 a2 8 0 = g3 at d3 ea ⊢
  generalize z_zero (fun _ _ => 0) 1 = s3 at d3 ⊢
  clear e1 e2
  refine z_dup X rfl dL_law_11 ?_
  have hav : (zJg (zp1 (zp1 z_W0 0 g2) 1 g3)).2.1 4 = a2 := ea
  refine z_runIn (b := 4) (As := []) (rest := [.ref a2]) X Y kL_131 (hav ▸ z_Cn_fr (w := zp1 (zp1 z_W0 0 g2) 1 g3) (τ := zp1 (zp1 z_T0 0 s2) 1 s3) 1 (by decide) (fun z1 => (tX8_init d3 ea).toN)) rfl (by rw [hav]; rfl) (Nat.le_of_ble_eq_true rfl) ⟨by decide, by decide⟩ ⟨Nat.le_of_ble_eq_true rfl, Nat.le_of_ble_eq_true rfl⟩ dL_law_12 ?_
  rintro v _ _ ⟨g4, s4, ⟨rfl, hA4, ad4, d4⟩, rfl, rfl⟩
  replace hA4 := hA4.trans hav
  rw [zne_upd, zne_upd]
  clear d3 ea hav
  refine z_astore_n X dL_law_15 (by decide) ?_
  refine z_bipush (v := nI 48) X (by decide) dL_law_16 ?_
  refine z_newaI X (i := 5) (N := 48) ac_int (w3 _ d2.1 d4.1 d0.1) (fun q => absurd ((zJ_in (i := 1) (c := 2) (by decide)).mp q) List.not_mem_nil) (by decide) (by decide) (by decide) (by decide) (Nat.le_of_ble_eq_true rfl) (Nat.le_of_ble_eq_true rfl) dL_law_18 (fun a3 => ?_)
  have e1 : z_add (zJg (zp1 (zp1 z_W0 0 g2) 1 g4)) 5 a3 (10 + 0) 48 = zJg (zp1 (zp1 (zp1 z_W0 0 g2) 1 g4) 2 (z_add z_g0 1 a3 (10 + 0) 48)) := zJ_add (i := 1) (c := 2) (by decide) (fun q => absurd q (by decide)) (fun q => absurd q (by decide))
  have e2 : z_zero (zJs (zp1 (zp1 z_T0 0 s2) 1 s4)) 5 = zJs (zp1 (zp1 (zp1 z_T0 0 s2) 1 s4) 2 (z_zero (fun _ _ => 0) 1)) := zJ_ze (i := 1) (c := 2) (by decide)
  rw [e1, e2]
  refine z_astore_n X dL_law_20 (by decide) ?_
  refine z_wid (ce := 100) (sl := 20000) (Nat.le_of_ble_eq_true rfl) (Nat.le_of_ble_eq_true rfl) ?_
  have hS1 := zSt_0 d2 (by decide) (by decide) (by decide) (by decide) (by decide) (by decide) rfl
  have hS2 := zSt_0 d4 (by decide) (by decide) (by decide) (by decide) (by decide) (by decide) rfl
  have hL : zLc a1 a2 a3 zK_nu (fun _ => 0) (z_add z_g0 1 a3 (10 + 0) 48) (z_zero (fun _ _ => 0) 1) (zp1 (zp1 (zp1 z_W0 0 g2) 1 g4) 2 (z_add z_g0 1 a3 (10 + 0) 48)) (zp1 (zp1 (zp1 z_T0 0 s2) 1 s4) 2 (z_zero (fun _ _ => 0) 1)) := ⟨hS1, hS2, hA, hA4, rfl, rfl, z_ar_at, z_add_at, z_wf_add d0.1⟩
  exact law_tail hfl X Y hXs hLs hend hL (fun k => if_pos rfl)