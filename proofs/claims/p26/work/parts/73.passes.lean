/-! the law: passes -/
theorem zup_o {σ3 : zIn} {i2 k : Nat} {v : Int32} (h : ¬ 1 = i2) (j : Nat) : z_up σ3 i2 k v 1 j = σ3 1 j := by simp [z_up, h]
theorem zwas {σ3 κ : zIn} {i2 k : Nat} (h : ∀ j, j < k → σ3 i2 j = κ (200 + j) 9) : ∀ j, j < k + 1 → z_up σ3 i2 k (κ (200 + k) 9) i2 j = κ (200 + j) 9 := by
  intro j hj
  by_cases e : j = k
  · subst e; simp [z_up]
  · simp only [z_up, if_neg e, if_pos rfl]
    exact h j (by omega)
set_option maxHeartbeats 4000000 in
set_option maxRecDepth 100000 in
theorem tL_passes {l : Launch} {D : va_G} {cy : Nat → ClassId} {z0 : zRg} {ao ai ad : Nat} {κ : zIn} {n : Nat → Nat} {g2 : zSh} {σ2 : zIn} {w : Nat → zSh} {τ : Nat → zIn} {top : Nat} (x z : Int32) (hfl : l.stackTraces = false) (hL : zLc ao ai ad κ n g2 σ2 w τ) (hd : zDf σ2 κ n) (ht7 : n 7 ≤ top) (ht8 : top + 1440 ≤ 1000000) : z_Cn (zc0 NL_passes) l D cy z0 NL_passes [.ref ao, .ref ai, .ref ad, .int x, .int z] (zJg w) (zJs τ) (zStp ao ai ad (top + 1440)) := by
  obtain ⟨h0, h3, h4, hd0, hd1, hd2, hd3, hd4, hd5, hd8⟩ := id hd
  have hn6 : n 6 ≤ 60 := hL.1.M.1.2
  have hv := hL.1.2.2.2
  refine z_ofN (by decide) (z_cr (z_cr (z_cr (z_ci (z_ci z_c0))))) (Nat.le_of_ble_eq_true rfl) ?_
  intro p e s m args below meth c X Y
  have loop_181 : ∀ (n9 : Nat) (w : Nat → zSh) (τ : Nat → zIn) (hL : zLc ao ai ad κ n g2 σ2 w τ) (hn : 0 < n9), z_V p l e (zRm NL_passes) s m args below meth c 11 D cy z0 0 0 (zQm NL_passes below D cy z0 (zStp ao ai ad (top + 1440)) args s) 181 [some (.ref ao), some (.ref ai), some (.ref ad), some (.int x), some (.int z), none, none, none, none, none, none] [] (zJg w) (zJs τ) := by
    intro n9
    induction n9 with
    | zero => intro w τ hL hn; exact absurd hn (Nat.not_lt_zero _)
    | succ n9 ih_181 =>
      intro w τ hL hn
      obtain ⟨i2, hi2⟩ : ∃ i2, i2 ∉ g2.1 := by
        obtain ⟨m9, h9⟩ := zfresh g2.1
        exact ⟨m9, fun q => Nat.lt_irrefl _ (h9 _ q)⟩
      refine z_bipush (v := nI 60) X (by decide) dL_passes_181 ?_
      have hi1 : ¬ 1 = i2 := fun e => hi2 (e ▸ hL.2.2.2.2.2.2.1.1)
      have hni := (hL.add hi2 0 60).2.2.2.1
      refine z_newaI X (i := 3 * i2 + 2) (N := 60) ac_int hL.wfJ hni (by omega) (by decide) (by decide) (by decide) (by decide) (by decide) dL_passes_183 (fun a9 => ?_)
      obtain ⟨e1, e2, hL, -, har, had9⟩ := hL.add hi2 a9 60
      rw [e1, e2]
      generalize z_add g2 i2 a9 (10 + 0) 60 = g3 at hL har had9 ⊢
      refine z_astore X dL_passes_185 (by decide) ?_
      have loop_190 : ∀ (n9 : Nat) (k : Nat) (σ3 : zIn) (w : Nat → zSh) (τ : Nat → zIn) (hk : k ≤ n 6) (hx1 : ∀ j, σ3 1 j = σ2 1 j) (hxw : ∀ j, j < k → σ3 i2 j = κ (200 + j) 9) (hL : zLc ao ai ad κ n g3 σ3 w τ) (hn : n 6 - k < n9), z_V p l e (zRm NL_passes) s m args below meth c 11 D cy z0 1 60 (zQm NL_passes below D cy z0 (zStp ao ai ad (top + 1440)) args s) 190 [some (.ref ao), some (.ref ai), some (.ref ad), some (.int x), some (.int z), some (.ref a9), some (.int (nI k)), none, none, none, none] [] (zJg w) (zJs τ) := by
        intro n9
        induction n9 with
        | zero => intro k σ3 w τ hk hx1 hxw hL hn; exact absurd hn (Nat.not_lt_zero _)
        | succ n9 ih_190 =>
          intro k σ3 w τ hk hx1 hxw hL hn
          refine z_iload X dL_passes_190 rfl ?_
          refine z_aload_n X dL_passes_192 rfl ?_
          refine z_iconst (v := nI 3) X (by decide) dL_passes_193 ?_
          refine z_ialda X hL.ar hL.da (by decide) (by decide) dL_passes_194 ?_
          rw [hL.sd]
          rw [hx1, hd3]
          refine z_icmp_ge (tgt := 216) X dL_passes_195 (by decide) (fun c_195 => ?_) (fun c_195 => ?_)
          · skip
            try simp (disch := omega) only [zk0, nI_leI, nI_ltI, nI_eq, zbk_notn, zbk_not, zbk_n0, zbk_0, zb_0, zb_n0, zb_not, zb_notn, Bool.not_eq_false, Bool.not_eq_true, Bool.not_eq_true', Bool.not_eq_false', decide_eq_true_eq, decide_eq_false_iff_not, Classical.not_not] at c_195
            have ek : k = n 6 := by omega
            subst ek
            have loop_261 : ∀ (n9 : Nat) (κ1 : zIn) (n1 : Nat → Nat) (T : Nat) (w : Nat → zSh) (τ : Nat → zIn) (hT0 : 0 < T ∧ T < 2 ^ 31) (hn16 : n1 6 = n 6) (hT : n1 7 ≤ top + 1440) (hdf : zDf σ3 κ1 n1) (hst : ∀ m, m < n 6 → κ (200 + m) 9 = 0 ∨ κ1 (200 + m) 9 = κ (200 + m) 9) (hL : zLc ao ai ad κ1 n1 g3 σ3 w τ) (hn : 0 < n9), z_V p l e (zRm NL_passes) s m args below meth c 11 D cy z0 11 210 (zQm NL_passes below D cy z0 (zStp ao ai ad (top + 1440)) args s) 261 [some (.ref ao), some (.ref ai), some (.ref ad), some (.int x), some (.int z), some (.ref a9), some (.int (nI (n 6))), none, none, none, none] [.int (nI T)] (zJg w) (zJs τ) := by
              intro n9
              induction n9 with
              | zero => intro κ1 n1 T w τ hT0 hn16 hT hdf hst hL hn; exact absurd hn (Nat.not_lt_zero _)
              | succ n9 ih_261 =>
                intro κ1 n1 T w τ hT0 hn16 hT hdf hst hL hn
                refine z_istore X dL_passes_261 (by decide) ?_
                refine z_iload X dL_passes_263 rfl ?_
                refine z_if_le (tgt := 272) X dL_passes_265 (by decide) (fun c_265 => ?_) (fun c_265 => ?_)
                · skip
                  try simp (disch := omega) only [zk0, nI_leI, nI_ltI, nI_eq, zbk_notn, zbk_not, zbk_n0, zbk_0, zb_0, zb_n0, zb_not, zb_notn, Bool.not_eq_false, Bool.not_eq_true, Bool.not_eq_true', Bool.not_eq_false', decide_eq_true_eq, decide_eq_false_iff_not, Classical.not_not] at c_265
                  (exfalso; omega)
                · skip
                  try simp (disch := omega) only [zk0, nI_leI, nI_ltI, nI_eq, zbk_notn, zbk_not, zbk_n0, zbk_0, zb_0, zb_n0, zb_not, zb_notn, Bool.not_eq_false, Bool.not_eq_true, Bool.not_eq_true', Bool.not_eq_false', decide_eq_true_eq, decide_eq_false_iff_not, Classical.not_not] at c_265
                  refine z_iconst (v := nI 1) X (by decide) dL_passes_268 ?_
                  refine z_goto (tgt := 273) X dL_passes_269 (by decide) ?_
                  refine z_istore X dL_passes_273 (by decide) ?_
                  have loop_278 : ∀ (n9 : Nat) (k : Nat) (x9 : Option Value) (w : Nat → zSh) (τ : Nat → zIn) (hk : k ≤ n 6) (hL : zLc ao ai ad κ1 n1 g3 σ3 w τ) (hn : n 6 - k < n9), z_V p l e (zRm NL_passes) s m args below meth c 11 D cy z0 11 210 (zQm NL_passes below D cy z0 (zStp ao ai ad (top + 1440)) args s) 278 [some (.ref ao), some (.ref ai), some (.ref ad), some (.int x), some (.int z), some (.ref a9), some (.int (nI T)), some (.int (nI 1)), some (.int (nI k)), x9, none] [] (zJg w) (zJs τ) := by
                    intro n9
                    induction n9 with
                    | zero => intro k x9 w τ hk hL hn; exact absurd hn (Nat.not_lt_zero _)
                    | succ n9 ih_278 =>
                      intro k x9 w τ hk hL hn
                      refine z_iload X dL_passes_278 rfl ?_
                      refine z_aload_n X dL_passes_280 rfl ?_
                      refine z_iconst (v := nI 3) X (by decide) dL_passes_281 ?_
                      refine z_ialda X hL.ar hL.da (by decide) (by decide) dL_passes_282 ?_
                      rw [hL.sd]
                      rw [hx1, hd3]
                      refine z_icmp_ge (tgt := 390) X dL_passes_283 (by decide) (fun c_283 => ?_) (fun c_283 => ?_)
                      · skip
                        try simp (disch := omega) only [zk0, nI_leI, nI_ltI, nI_eq, zbk_notn, zbk_not, zbk_n0, zbk_0, zb_0, zb_n0, zb_not, zb_notn, Bool.not_eq_false, Bool.not_eq_true, Bool.not_eq_true', Bool.not_eq_false', decide_eq_true_eq, decide_eq_false_iff_not, Classical.not_not] at c_283
                        refine z_iload X dL_passes_390 rfl ?_
                        refine z_zret X (by decide) (by decide) rfl (by first | exact Or.inl rfl | exact Or.inr rfl | exact zb_01 _ | assumption) dL_passes_392 ?_
                        exact ⟨κ1, n1, g3, σ3, w, τ, rfl, rfl, rfl, hL, hdf, hT⟩
                      · skip
                        try simp (disch := omega) only [zk0, nI_leI, nI_ltI, nI_eq, zbk_notn, zbk_not, zbk_n0, zbk_0, zb_0, zb_n0, zb_not, zb_notn, Bool.not_eq_false, Bool.not_eq_true, Bool.not_eq_true', Bool.not_eq_false', decide_eq_true_eq, decide_eq_false_iff_not, Classical.not_not] at c_283
                        refine z_iload X dL_passes_286 rfl ?_
                        refine z_if_eq (tgt := 390) X dL_passes_288 (by decide) (fun c_288 => ?_) (fun c_288 => ?_)
                        · first | exact absurd c_288 (by decide) | exact absurd (by decide) c_288
                        · skip
                          refine z_aload_n X dL_passes_291 rfl ?_
                          refine z_iload X dL_passes_292 rfl ?_
                          refine z_iconst (v := nI 0) X (by decide) dL_passes_294 ?_
                          refine z_runVa X Y aL_85 (tB_of hL (Or.inl ⟨rfl, rfl⟩) k 0 (by omega) (by decide)) (hL.ob (Or.inl ⟨rfl, rfl⟩)) (hL.aq (Or.inl ⟨rfl, rfl⟩)) rfl rfl (Nat.le_of_ble_eq_true rfl) ⟨by decide, by decide⟩ ⟨by decide, by decide⟩ dL_passes_295 ?_
                          rintro _ _ _ ⟨w, τ, rfl, rfl, rfl, hL⟩
                          rw [show zok κ1 n1 k 0 = κ1 (200 + k) 9 from rfl]
                          refine z_istore X dL_passes_298 (by decide) ?_
                          refine z_aload X dL_passes_300 rfl ?_
                          refine z_iload X dL_passes_302 rfl ?_
                          refine z_ialda X (hL.arx har) (hL.dax had9) (by omega) (by omega) dL_passes_304 ?_
                          rw [hL.sdx, hxw k (by omega)]
                          refine z_if_eq (tgt := 318) X dL_passes_305 (by decide) (fun c_305 => ?_) (fun c_305 => ?_)
                          · skip
                            rcases zok_4 (m := k) hL.1.2.2.2 (by omega) with ⟨hs4, hz4⟩ | ⟨hs4, hz4⟩
                            · skip
                              skip
                              refine z_iload X dL_passes_318 rfl ?_
                              refine z_if_ne (tgt := 327) X dL_passes_320 (by decide) (fun c_320 => ?_) (fun c_320 => ?_)
                              · exact absurd hs4 c_320
                              · skip
                                refine z_iconst (v := nI 1) X (by decide) dL_passes_323 ?_
                                refine z_goto (tgt := 328) X dL_passes_324 (by decide) ?_
                                refine z_aload_n X dL_passes_328 rfl ?_
                                refine z_iload X dL_passes_329 rfl ?_
                                refine z_iconst (v := nI 4) X (by decide) dL_passes_331 ?_
                                refine z_runVa X Y aL_85 (tB_of hL (Or.inl ⟨rfl, rfl⟩) k 4 (by omega) (by decide)) (hL.ob (Or.inl ⟨rfl, rfl⟩)) (hL.aq (Or.inl ⟨rfl, rfl⟩)) rfl rfl (Nat.le_of_ble_eq_true rfl) ⟨by decide, by decide⟩ ⟨by decide, by decide⟩ dL_passes_332 ?_
                                rintro _ _ _ ⟨w, τ, rfl, rfl, rfl, hL⟩
                                refine z_iconst (v := -1) X (by decide) dL_passes_335 ?_
                                refine z_icmp_eq (tgt := 343) X dL_passes_336 (by decide) (fun c_336 => ?_) (fun c_336 => ?_)
                                · exact absurd c_336 hz4
                                · skip
                                  refine z_iconst (v := nI 1) X (by decide) dL_passes_339 ?_
                                  refine z_goto (tgt := 344) X dL_passes_340 (by decide) ?_
                                  refine z_icmp_ne (tgt := 381) X dL_passes_344 (by decide) (fun c_344 => ?_) (fun c_344 => ?_)
                                  · first | exact absurd c_344 (by decide) | exact absurd (by decide) c_344
                                  · skip
                                    rcases zok_5 (m := k) hL.1.2.2.2 (by omega) with ⟨hs5, hz5⟩ | ⟨hs5, hz5⟩
                                    · skip
                                      skip
                                      refine z_iload X dL_passes_347 rfl ?_
                                      refine z_iconst (v := nI 2) X (by decide) dL_passes_349 ?_
                                      refine z_icmp_ne (tgt := 357) X dL_passes_350 (by decide) (fun c_350 => ?_) (fun c_350 => ?_)
                                      · exact absurd hs5 c_350
                                      · skip
                                        refine z_iconst (v := nI 1) X (by decide) dL_passes_353 ?_
                                        refine z_goto (tgt := 358) X dL_passes_354 (by decide) ?_
                                        refine z_aload_n X dL_passes_358 rfl ?_
                                        refine z_iload X dL_passes_359 rfl ?_
                                        refine z_iconst (v := nI 5) X (by decide) dL_passes_361 ?_
                                        refine z_runVa X Y aL_85 (tB_of hL (Or.inl ⟨rfl, rfl⟩) k 5 (by omega) (by decide)) (hL.ob (Or.inl ⟨rfl, rfl⟩)) (hL.aq (Or.inl ⟨rfl, rfl⟩)) rfl rfl (Nat.le_of_ble_eq_true rfl) ⟨by decide, by decide⟩ ⟨by decide, by decide⟩ dL_passes_362 ?_
                                        rintro _ _ _ ⟨w, τ, rfl, rfl, rfl, hL⟩
                                        refine z_iconst (v := -1) X (by decide) dL_passes_365 ?_
                                        refine z_icmp_eq (tgt := 373) X dL_passes_366 (by decide) (fun c_366 => ?_) (fun c_366 => ?_)
                                        · exact absurd c_366 hz5
                                        · skip
                                          refine z_iconst (v := nI 1) X (by decide) dL_passes_369 ?_
                                          refine z_goto (tgt := 374) X dL_passes_370 (by decide) ?_
                                          refine z_icmp_ne (tgt := 381) X dL_passes_374 (by decide) (fun c_374 => ?_) (fun c_374 => ?_)
                                          · first | exact absurd c_374 (by decide) | exact absurd (by decide) c_374
                                          · skip
                                            refine z_iconst (v := nI 1) X (by decide) dL_passes_377 ?_
                                            refine z_goto (tgt := 382) X dL_passes_378 (by decide) ?_
                                            refine z_istore X dL_passes_382 (by decide) ?_
                                            refine z_inc1 X dL_passes_384 rfl (by decide) ?_
                                            refine z_goto (tgt := 278) X dL_passes_387 (by decide) ?_
                                            exact ih_278 (k + 1) _ w τ (by omega) hL (by omega)
                                    · skip
                                      skip
                                      refine z_iload X dL_passes_347 rfl ?_
                                      refine z_iconst (v := nI 2) X (by decide) dL_passes_349 ?_
                                      refine z_icmp_ne (tgt := 357) X dL_passes_350 (by decide) (fun c_350 => ?_) (fun c_350 => ?_)
                                      · skip
                                        refine z_iconst (v := nI 0) X (by decide) dL_passes_357 ?_
                                        refine z_aload_n X dL_passes_358 rfl ?_
                                        refine z_iload X dL_passes_359 rfl ?_
                                        refine z_iconst (v := nI 5) X (by decide) dL_passes_361 ?_
                                        refine z_runVa X Y aL_85 (tB_of hL (Or.inl ⟨rfl, rfl⟩) k 5 (by omega) (by decide)) (hL.ob (Or.inl ⟨rfl, rfl⟩)) (hL.aq (Or.inl ⟨rfl, rfl⟩)) rfl rfl (Nat.le_of_ble_eq_true rfl) ⟨by decide, by decide⟩ ⟨by decide, by decide⟩ dL_passes_362 ?_
                                        rintro _ _ _ ⟨w, τ, rfl, rfl, rfl, hL⟩
                                        refine z_iconst (v := -1) X (by decide) dL_passes_365 ?_
                                        refine z_icmp_eq (tgt := 373) X dL_passes_366 (by decide) (fun c_366 => ?_) (fun c_366 => ?_)
                                        · skip
                                          refine z_iconst (v := nI 0) X (by decide) dL_passes_373 ?_
                                          refine z_icmp_ne (tgt := 381) X dL_passes_374 (by decide) (fun c_374 => ?_) (fun c_374 => ?_)
                                          · first | exact absurd c_374 (by decide) | exact absurd (by decide) c_374
                                          · skip
                                            refine z_iconst (v := nI 1) X (by decide) dL_passes_377 ?_
                                            refine z_goto (tgt := 382) X dL_passes_378 (by decide) ?_
                                            refine z_istore X dL_passes_382 (by decide) ?_
                                            refine z_inc1 X dL_passes_384 rfl (by decide) ?_
                                            refine z_goto (tgt := 278) X dL_passes_387 (by decide) ?_
                                            exact ih_278 (k + 1) _ w τ (by omega) hL (by omega)
                                        · exact absurd hz5 c_366
                                      · exact absurd c_350 hs5
                            · skip
                              skip
                              refine z_iload X dL_passes_318 rfl ?_
                              refine z_if_ne (tgt := 327) X dL_passes_320 (by decide) (fun c_320 => ?_) (fun c_320 => ?_)
                              · skip
                                refine z_iconst (v := nI 0) X (by decide) dL_passes_327 ?_
                                refine z_aload_n X dL_passes_328 rfl ?_
                                refine z_iload X dL_passes_329 rfl ?_
                                refine z_iconst (v := nI 4) X (by decide) dL_passes_331 ?_
                                refine z_runVa X Y aL_85 (tB_of hL (Or.inl ⟨rfl, rfl⟩) k 4 (by omega) (by decide)) (hL.ob (Or.inl ⟨rfl, rfl⟩)) (hL.aq (Or.inl ⟨rfl, rfl⟩)) rfl rfl (Nat.le_of_ble_eq_true rfl) ⟨by decide, by decide⟩ ⟨by decide, by decide⟩ dL_passes_332 ?_
                                rintro _ _ _ ⟨w, τ, rfl, rfl, rfl, hL⟩
                                refine z_iconst (v := -1) X (by decide) dL_passes_335 ?_
                                refine z_icmp_eq (tgt := 343) X dL_passes_336 (by decide) (fun c_336 => ?_) (fun c_336 => ?_)
                                · skip
                                  refine z_iconst (v := nI 0) X (by decide) dL_passes_343 ?_
                                  refine z_icmp_ne (tgt := 381) X dL_passes_344 (by decide) (fun c_344 => ?_) (fun c_344 => ?_)
                                  · first | exact absurd c_344 (by decide) | exact absurd (by decide) c_344
                                  · skip
                                    rcases zok_5 (m := k) hL.1.2.2.2 (by omega) with ⟨hs5, hz5⟩ | ⟨hs5, hz5⟩
                                    · skip
                                      skip
                                      refine z_iload X dL_passes_347 rfl ?_
                                      refine z_iconst (v := nI 2) X (by decide) dL_passes_349 ?_
                                      refine z_icmp_ne (tgt := 357) X dL_passes_350 (by decide) (fun c_350 => ?_) (fun c_350 => ?_)
                                      · exact absurd hs5 c_350
                                      · skip
                                        refine z_iconst (v := nI 1) X (by decide) dL_passes_353 ?_
                                        refine z_goto (tgt := 358) X dL_passes_354 (by decide) ?_
                                        refine z_aload_n X dL_passes_358 rfl ?_
                                        refine z_iload X dL_passes_359 rfl ?_
                                        refine z_iconst (v := nI 5) X (by decide) dL_passes_361 ?_
                                        refine z_runVa X Y aL_85 (tB_of hL (Or.inl ⟨rfl, rfl⟩) k 5 (by omega) (by decide)) (hL.ob (Or.inl ⟨rfl, rfl⟩)) (hL.aq (Or.inl ⟨rfl, rfl⟩)) rfl rfl (Nat.le_of_ble_eq_true rfl) ⟨by decide, by decide⟩ ⟨by decide, by decide⟩ dL_passes_362 ?_
                                        rintro _ _ _ ⟨w, τ, rfl, rfl, rfl, hL⟩
                                        refine z_iconst (v := -1) X (by decide) dL_passes_365 ?_
                                        refine z_icmp_eq (tgt := 373) X dL_passes_366 (by decide) (fun c_366 => ?_) (fun c_366 => ?_)
                                        · exact absurd c_366 hz5
                                        · skip
                                          refine z_iconst (v := nI 1) X (by decide) dL_passes_369 ?_
                                          refine z_goto (tgt := 374) X dL_passes_370 (by decide) ?_
                                          refine z_icmp_ne (tgt := 381) X dL_passes_374 (by decide) (fun c_374 => ?_) (fun c_374 => ?_)
                                          · first | exact absurd c_374 (by decide) | exact absurd (by decide) c_374
                                          · skip
                                            refine z_iconst (v := nI 1) X (by decide) dL_passes_377 ?_
                                            refine z_goto (tgt := 382) X dL_passes_378 (by decide) ?_
                                            refine z_istore X dL_passes_382 (by decide) ?_
                                            refine z_inc1 X dL_passes_384 rfl (by decide) ?_
                                            refine z_goto (tgt := 278) X dL_passes_387 (by decide) ?_
                                            exact ih_278 (k + 1) _ w τ (by omega) hL (by omega)
                                    · skip
                                      skip
                                      refine z_iload X dL_passes_347 rfl ?_
                                      refine z_iconst (v := nI 2) X (by decide) dL_passes_349 ?_
                                      refine z_icmp_ne (tgt := 357) X dL_passes_350 (by decide) (fun c_350 => ?_) (fun c_350 => ?_)
                                      · skip
                                        refine z_iconst (v := nI 0) X (by decide) dL_passes_357 ?_
                                        refine z_aload_n X dL_passes_358 rfl ?_
                                        refine z_iload X dL_passes_359 rfl ?_
                                        refine z_iconst (v := nI 5) X (by decide) dL_passes_361 ?_
                                        refine z_runVa X Y aL_85 (tB_of hL (Or.inl ⟨rfl, rfl⟩) k 5 (by omega) (by decide)) (hL.ob (Or.inl ⟨rfl, rfl⟩)) (hL.aq (Or.inl ⟨rfl, rfl⟩)) rfl rfl (Nat.le_of_ble_eq_true rfl) ⟨by decide, by decide⟩ ⟨by decide, by decide⟩ dL_passes_362 ?_
                                        rintro _ _ _ ⟨w, τ, rfl, rfl, rfl, hL⟩
                                        refine z_iconst (v := -1) X (by decide) dL_passes_365 ?_
                                        refine z_icmp_eq (tgt := 373) X dL_passes_366 (by decide) (fun c_366 => ?_) (fun c_366 => ?_)
                                        · skip
                                          refine z_iconst (v := nI 0) X (by decide) dL_passes_373 ?_
                                          refine z_icmp_ne (tgt := 381) X dL_passes_374 (by decide) (fun c_374 => ?_) (fun c_374 => ?_)
                                          · first | exact absurd c_374 (by decide) | exact absurd (by decide) c_374
                                          · skip
                                            refine z_iconst (v := nI 1) X (by decide) dL_passes_377 ?_
                                            refine z_goto (tgt := 382) X dL_passes_378 (by decide) ?_
                                            refine z_istore X dL_passes_382 (by decide) ?_
                                            refine z_inc1 X dL_passes_384 rfl (by decide) ?_
                                            refine z_goto (tgt := 278) X dL_passes_387 (by decide) ?_
                                            exact ih_278 (k + 1) _ w τ (by omega) hL (by omega)
                                        · exact absurd hz5 c_366
                                      · exact absurd c_350 hs5
                                · exact absurd hz4 c_336
                              · exact absurd c_320 hs4
                          · skip
                            refine z_iload X dL_passes_308 rfl ?_
                            refine z_aload X dL_passes_310 rfl ?_
                            refine z_iload X dL_passes_312 rfl ?_
                            refine z_ialda X (hL.arx har) (hL.dax had9) (by omega) (by omega) dL_passes_314 ?_
                            rw [hL.sdx, hxw k (by omega)]
                            refine z_icmp_ne (tgt := 381) X dL_passes_315 (by decide) (fun c_315 => ?_) (fun c_315 => ?_)
                            · exact absurd ((hst k (by omega)).resolve_left c_305) c_315
                            · skip
                              rcases zok_4 (m := k) hL.1.2.2.2 (by omega) with ⟨hs4, hz4⟩ | ⟨hs4, hz4⟩
                              · skip
                                skip
                                refine z_iload X dL_passes_318 rfl ?_
                                refine z_if_ne (tgt := 327) X dL_passes_320 (by decide) (fun c_320 => ?_) (fun c_320 => ?_)
                                · exact absurd hs4 c_320
                                · skip
                                  refine z_iconst (v := nI 1) X (by decide) dL_passes_323 ?_
                                  refine z_goto (tgt := 328) X dL_passes_324 (by decide) ?_
                                  refine z_aload_n X dL_passes_328 rfl ?_
                                  refine z_iload X dL_passes_329 rfl ?_
                                  refine z_iconst (v := nI 4) X (by decide) dL_passes_331 ?_
                                  refine z_runVa X Y aL_85 (tB_of hL (Or.inl ⟨rfl, rfl⟩) k 4 (by omega) (by decide)) (hL.ob (Or.inl ⟨rfl, rfl⟩)) (hL.aq (Or.inl ⟨rfl, rfl⟩)) rfl rfl (Nat.le_of_ble_eq_true rfl) ⟨by decide, by decide⟩ ⟨by decide, by decide⟩ dL_passes_332 ?_
                                  rintro _ _ _ ⟨w, τ, rfl, rfl, rfl, hL⟩
                                  refine z_iconst (v := -1) X (by decide) dL_passes_335 ?_
                                  refine z_icmp_eq (tgt := 343) X dL_passes_336 (by decide) (fun c_336 => ?_) (fun c_336 => ?_)
                                  · exact absurd c_336 hz4
                                  · skip
                                    refine z_iconst (v := nI 1) X (by decide) dL_passes_339 ?_
                                    refine z_goto (tgt := 344) X dL_passes_340 (by decide) ?_
                                    refine z_icmp_ne (tgt := 381) X dL_passes_344 (by decide) (fun c_344 => ?_) (fun c_344 => ?_)
                                    · first | exact absurd c_344 (by decide) | exact absurd (by decide) c_344
                                    · skip
                                      rcases zok_5 (m := k) hL.1.2.2.2 (by omega) with ⟨hs5, hz5⟩ | ⟨hs5, hz5⟩
                                      · skip
                                        skip
                                        refine z_iload X dL_passes_347 rfl ?_
                                        refine z_iconst (v := nI 2) X (by decide) dL_passes_349 ?_
                                        refine z_icmp_ne (tgt := 357) X dL_passes_350 (by decide) (fun c_350 => ?_) (fun c_350 => ?_)
                                        · exact absurd hs5 c_350
                                        · skip
                                          refine z_iconst (v := nI 1) X (by decide) dL_passes_353 ?_
                                          refine z_goto (tgt := 358) X dL_passes_354 (by decide) ?_
                                          refine z_aload_n X dL_passes_358 rfl ?_
                                          refine z_iload X dL_passes_359 rfl ?_
                                          refine z_iconst (v := nI 5) X (by decide) dL_passes_361 ?_
                                          refine z_runVa X Y aL_85 (tB_of hL (Or.inl ⟨rfl, rfl⟩) k 5 (by omega) (by decide)) (hL.ob (Or.inl ⟨rfl, rfl⟩)) (hL.aq (Or.inl ⟨rfl, rfl⟩)) rfl rfl (Nat.le_of_ble_eq_true rfl) ⟨by decide, by decide⟩ ⟨by decide, by decide⟩ dL_passes_362 ?_
                                          rintro _ _ _ ⟨w, τ, rfl, rfl, rfl, hL⟩
                                          refine z_iconst (v := -1) X (by decide) dL_passes_365 ?_
                                          refine z_icmp_eq (tgt := 373) X dL_passes_366 (by decide) (fun c_366 => ?_) (fun c_366 => ?_)
                                          · exact absurd c_366 hz5
                                          · skip
                                            refine z_iconst (v := nI 1) X (by decide) dL_passes_369 ?_
                                            refine z_goto (tgt := 374) X dL_passes_370 (by decide) ?_
                                            refine z_icmp_ne (tgt := 381) X dL_passes_374 (by decide) (fun c_374 => ?_) (fun c_374 => ?_)
                                            · first | exact absurd c_374 (by decide) | exact absurd (by decide) c_374
                                            · skip
                                              refine z_iconst (v := nI 1) X (by decide) dL_passes_377 ?_
                                              refine z_goto (tgt := 382) X dL_passes_378 (by decide) ?_
                                              refine z_istore X dL_passes_382 (by decide) ?_
                                              refine z_inc1 X dL_passes_384 rfl (by decide) ?_
                                              refine z_goto (tgt := 278) X dL_passes_387 (by decide) ?_
                                              exact ih_278 (k + 1) _ w τ (by omega) hL (by omega)
                                      · skip
                                        skip
                                        refine z_iload X dL_passes_347 rfl ?_
                                        refine z_iconst (v := nI 2) X (by decide) dL_passes_349 ?_
                                        refine z_icmp_ne (tgt := 357) X dL_passes_350 (by decide) (fun c_350 => ?_) (fun c_350 => ?_)
                                        · skip
                                          refine z_iconst (v := nI 0) X (by decide) dL_passes_357 ?_
                                          refine z_aload_n X dL_passes_358 rfl ?_
                                          refine z_iload X dL_passes_359 rfl ?_
                                          refine z_iconst (v := nI 5) X (by decide) dL_passes_361 ?_
                                          refine z_runVa X Y aL_85 (tB_of hL (Or.inl ⟨rfl, rfl⟩) k 5 (by omega) (by decide)) (hL.ob (Or.inl ⟨rfl, rfl⟩)) (hL.aq (Or.inl ⟨rfl, rfl⟩)) rfl rfl (Nat.le_of_ble_eq_true rfl) ⟨by decide, by decide⟩ ⟨by decide, by decide⟩ dL_passes_362 ?_
                                          rintro _ _ _ ⟨w, τ, rfl, rfl, rfl, hL⟩
                                          refine z_iconst (v := -1) X (by decide) dL_passes_365 ?_
                                          refine z_icmp_eq (tgt := 373) X dL_passes_366 (by decide) (fun c_366 => ?_) (fun c_366 => ?_)
                                          · skip
                                            refine z_iconst (v := nI 0) X (by decide) dL_passes_373 ?_
                                            refine z_icmp_ne (tgt := 381) X dL_passes_374 (by decide) (fun c_374 => ?_) (fun c_374 => ?_)
                                            · first | exact absurd c_374 (by decide) | exact absurd (by decide) c_374
                                            · skip
                                              refine z_iconst (v := nI 1) X (by decide) dL_passes_377 ?_
                                              refine z_goto (tgt := 382) X dL_passes_378 (by decide) ?_
                                              refine z_istore X dL_passes_382 (by decide) ?_
                                              refine z_inc1 X dL_passes_384 rfl (by decide) ?_
                                              refine z_goto (tgt := 278) X dL_passes_387 (by decide) ?_
                                              exact ih_278 (k + 1) _ w τ (by omega) hL (by omega)
                                          · exact absurd hz5 c_366
                                        · exact absurd c_350 hs5
                              · skip
                                skip
                                refine z_iload X dL_passes_318 rfl ?_
                                refine z_if_ne (tgt := 327) X dL_passes_320 (by decide) (fun c_320 => ?_) (fun c_320 => ?_)
                                · skip
                                  refine z_iconst (v := nI 0) X (by decide) dL_passes_327 ?_
                                  refine z_aload_n X dL_passes_328 rfl ?_
                                  refine z_iload X dL_passes_329 rfl ?_
                                  refine z_iconst (v := nI 4) X (by decide) dL_passes_331 ?_
                                  refine z_runVa X Y aL_85 (tB_of hL (Or.inl ⟨rfl, rfl⟩) k 4 (by omega) (by decide)) (hL.ob (Or.inl ⟨rfl, rfl⟩)) (hL.aq (Or.inl ⟨rfl, rfl⟩)) rfl rfl (Nat.le_of_ble_eq_true rfl) ⟨by decide, by decide⟩ ⟨by decide, by decide⟩ dL_passes_332 ?_
                                  rintro _ _ _ ⟨w, τ, rfl, rfl, rfl, hL⟩
                                  refine z_iconst (v := -1) X (by decide) dL_passes_335 ?_
                                  refine z_icmp_eq (tgt := 343) X dL_passes_336 (by decide) (fun c_336 => ?_) (fun c_336 => ?_)
                                  · skip
                                    refine z_iconst (v := nI 0) X (by decide) dL_passes_343 ?_
                                    refine z_icmp_ne (tgt := 381) X dL_passes_344 (by decide) (fun c_344 => ?_) (fun c_344 => ?_)
                                    · first | exact absurd c_344 (by decide) | exact absurd (by decide) c_344
                                    · skip
                                      rcases zok_5 (m := k) hL.1.2.2.2 (by omega) with ⟨hs5, hz5⟩ | ⟨hs5, hz5⟩
                                      · skip
                                        skip
                                        refine z_iload X dL_passes_347 rfl ?_
                                        refine z_iconst (v := nI 2) X (by decide) dL_passes_349 ?_
                                        refine z_icmp_ne (tgt := 357) X dL_passes_350 (by decide) (fun c_350 => ?_) (fun c_350 => ?_)
                                        · exact absurd hs5 c_350
                                        · skip
                                          refine z_iconst (v := nI 1) X (by decide) dL_passes_353 ?_
                                          refine z_goto (tgt := 358) X dL_passes_354 (by decide) ?_
                                          refine z_aload_n X dL_passes_358 rfl ?_
                                          refine z_iload X dL_passes_359 rfl ?_
                                          refine z_iconst (v := nI 5) X (by decide) dL_passes_361 ?_
                                          refine z_runVa X Y aL_85 (tB_of hL (Or.inl ⟨rfl, rfl⟩) k 5 (by omega) (by decide)) (hL.ob (Or.inl ⟨rfl, rfl⟩)) (hL.aq (Or.inl ⟨rfl, rfl⟩)) rfl rfl (Nat.le_of_ble_eq_true rfl) ⟨by decide, by decide⟩ ⟨by decide, by decide⟩ dL_passes_362 ?_
                                          rintro _ _ _ ⟨w, τ, rfl, rfl, rfl, hL⟩
                                          refine z_iconst (v := -1) X (by decide) dL_passes_365 ?_
                                          refine z_icmp_eq (tgt := 373) X dL_passes_366 (by decide) (fun c_366 => ?_) (fun c_366 => ?_)
                                          · exact absurd c_366 hz5
                                          · skip
                                            refine z_iconst (v := nI 1) X (by decide) dL_passes_369 ?_
                                            refine z_goto (tgt := 374) X dL_passes_370 (by decide) ?_
                                            refine z_icmp_ne (tgt := 381) X dL_passes_374 (by decide) (fun c_374 => ?_) (fun c_374 => ?_)
                                            · first | exact absurd c_374 (by decide) | exact absurd (by decide) c_374
                                            · skip
                                              refine z_iconst (v := nI 1) X (by decide) dL_passes_377 ?_
                                              refine z_goto (tgt := 382) X dL_passes_378 (by decide) ?_
                                              refine z_istore X dL_passes_382 (by decide) ?_
                                              refine z_inc1 X dL_passes_384 rfl (by decide) ?_
                                              refine z_goto (tgt := 278) X dL_passes_387 (by decide) ?_
                                              exact ih_278 (k + 1) _ w τ (by omega) hL (by omega)
                                      · skip
                                        skip
                                        refine z_iload X dL_passes_347 rfl ?_
                                        refine z_iconst (v := nI 2) X (by decide) dL_passes_349 ?_
                                        refine z_icmp_ne (tgt := 357) X dL_passes_350 (by decide) (fun c_350 => ?_) (fun c_350 => ?_)
                                        · skip
                                          refine z_iconst (v := nI 0) X (by decide) dL_passes_357 ?_
                                          refine z_aload_n X dL_passes_358 rfl ?_
                                          refine z_iload X dL_passes_359 rfl ?_
                                          refine z_iconst (v := nI 5) X (by decide) dL_passes_361 ?_
                                          refine z_runVa X Y aL_85 (tB_of hL (Or.inl ⟨rfl, rfl⟩) k 5 (by omega) (by decide)) (hL.ob (Or.inl ⟨rfl, rfl⟩)) (hL.aq (Or.inl ⟨rfl, rfl⟩)) rfl rfl (Nat.le_of_ble_eq_true rfl) ⟨by decide, by decide⟩ ⟨by decide, by decide⟩ dL_passes_362 ?_
                                          rintro _ _ _ ⟨w, τ, rfl, rfl, rfl, hL⟩
                                          refine z_iconst (v := -1) X (by decide) dL_passes_365 ?_
                                          refine z_icmp_eq (tgt := 373) X dL_passes_366 (by decide) (fun c_366 => ?_) (fun c_366 => ?_)
                                          · skip
                                            refine z_iconst (v := nI 0) X (by decide) dL_passes_373 ?_
                                            refine z_icmp_ne (tgt := 381) X dL_passes_374 (by decide) (fun c_374 => ?_) (fun c_374 => ?_)
                                            · first | exact absurd c_374 (by decide) | exact absurd (by decide) c_374
                                            · skip
                                              refine z_iconst (v := nI 1) X (by decide) dL_passes_377 ?_
                                              refine z_goto (tgt := 382) X dL_passes_378 (by decide) ?_
                                              refine z_istore X dL_passes_382 (by decide) ?_
                                              refine z_inc1 X dL_passes_384 rfl (by decide) ?_
                                              refine z_goto (tgt := 278) X dL_passes_387 (by decide) ?_
                                              exact ih_278 (k + 1) _ w τ (by omega) hL (by omega)
                                          · exact absurd hz5 c_366
                                        · exact absurd c_350 hs5
                                  · exact absurd hz4 c_336
                                · exact absurd c_320 hs4
                  refine z_iconst (v := nI 0) X (by decide) dL_passes_275 ?_
                  refine z_istore X dL_passes_276 (by decide) ?_
                  exact loop_278 (n 6 - 0 + 1) 0 _ w τ (by omega) hL (by omega)
            refine z_iload_n X dL_passes_216 rfl ?_
            refine z_bipush (v := nI 12) X (by decide) dL_passes_217 ?_
            refine z_runSn X Y kL_116 (tL_some2 _ 12 (by decide) (by decide)) rfl rfl (Nat.le_of_ble_eq_true rfl) ⟨by decide, by decide⟩ ⟨by decide, by decide⟩ dL_passes_219 ?_
            rintro _ _ _ ⟨s9, hs9, rfl, rfl, rfl⟩
            refine z_iconst (v := nI 1) X (by decide) dL_passes_222 ?_
            refine z_icmp_ne (tgt := 241) X dL_passes_223 (by decide) (fun c_223 => ?_) (fun c_223 => ?_)
            · skip
              try simp (disch := omega) only [zk0, nI_leI, nI_ltI, nI_eq, zbk_notn, zbk_not, zbk_n0, zbk_0, zb_0, zb_n0, zb_not, zb_notn, Bool.not_eq_false, Bool.not_eq_true, Bool.not_eq_true', Bool.not_eq_false', decide_eq_true_eq, decide_eq_false_iff_not, Classical.not_not] at c_223
              refine z_aload_n X dL_passes_241 rfl ?_
              refine z_aload_n X dL_passes_242 rfl ?_
              refine z_bipush (v := nI 15) X (by decide) dL_passes_243 ?_
              refine z_iconst (v := nI 1) X (by decide) dL_passes_245 ?_
              refine z_iload X dL_passes_246 rfl ?_
              refine z_bipush (v := nI 9) X (by decide) dL_passes_248 ?_
              refine z_runSn X Y kL_116 (tL_some2 _ 9 (by decide) (by decide)) rfl rfl (Nat.le_of_ble_eq_true rfl) ⟨by decide, by decide⟩ ⟨by decide, by decide⟩ dL_passes_250 ?_
              rintro _ _ _ ⟨s10, hs10, rfl, rfl, rfl⟩
              refine z_iaddN X dL_passes_253 ?_
              refine z_iconst (v := nI 0) X (by decide) dL_passes_254 ?_
              refine z_iconst (v := nI 0) X (by decide) dL_passes_255 ?_
              refine z_iconst (v := nI 0) X (by decide) dL_passes_256 ?_
              refine z_iconst (v := nI 0) X (by decide) dL_passes_257 ?_
              refine z_runSn X Y kL_120 (tL_both (nI 15) (nI (1 + s10)) (nI 0) (nI 0) (nI 0) (nI 0) (zd_pass _) hL (fun _ _ h z1 => tL_does_15 hfl (zso_1 h.S) _ _ _ _ _ (tC_pass hfl h _))) rfl rfl (Nat.le_of_ble_eq_true rfl) ⟨by decide, by decide⟩ ⟨by decide, by decide⟩ dL_passes_258 ?_
              rintro _ _ _ ⟨r, κ1, n1, w, τ, rfl, hR, rfl, rfl, hL⟩
              obtain ⟨rfl, hκ, en, hst⟩ := zk_pas hv (by omega) (by omega) (by omega) hR
              have hn16 : n1 6 = n 6 := by rw [en]; rfl
              have hT : n1 7 ≤ top + 1440 := by rw [en]; show n 7 + (1 + s10) ≤ _; omega
              have hdf : zDf σ3 κ1 n1 := by rw [en]; exact zDf_7 (zDf_s hd hx1) hκ
              exact loop_261 1 κ1 n1 _ w τ ⟨by omega, by omega⟩ hn16 hT hdf hst hL (by decide)
            · skip
              try simp (disch := omega) only [zk0, nI_leI, nI_ltI, nI_eq, zbk_notn, zbk_not, zbk_n0, zbk_0, zb_0, zb_n0, zb_not, zb_notn, Bool.not_eq_false, Bool.not_eq_true, Bool.not_eq_true', Bool.not_eq_false', decide_eq_true_eq, decide_eq_false_iff_not, Classical.not_not] at c_223
              refine z_aload_n X dL_passes_226 rfl ?_
              refine z_aload_n X dL_passes_227 rfl ?_
              refine z_bipush (v := nI 16) X (by decide) dL_passes_228 ?_
              refine z_iconst (v := nI 1) X (by decide) dL_passes_230 ?_
              refine z_iconst (v := nI 0) X (by decide) dL_passes_231 ?_
              refine z_iconst (v := nI 0) X (by decide) dL_passes_232 ?_
              refine z_iconst (v := nI 0) X (by decide) dL_passes_233 ?_
              refine z_iconst (v := nI 0) X (by decide) dL_passes_234 ?_
              refine z_runSn X Y kL_120 (tL_both (nI 16) (nI 1) (nI 0) (nI 0) (nI 0) (nI 0) (zd_rest _) hL (fun _ _ h z1 => tL_does_16 hfl (zso_1 h.S) _ _ _ _ _ (tC_rest hfl h _))) rfl rfl (Nat.le_of_ble_eq_true rfl) ⟨by decide, by decide⟩ ⟨by decide, by decide⟩ dL_passes_235 ?_
              rintro _ _ _ ⟨r, κ1, n1, w, τ, rfl, hR, rfl, rfl, hL⟩
              obtain ⟨rfl, hκ, en, hst⟩ := zk_rst (by omega) hR
              have hn16 : n1 6 = n 6 := by rw [en]; rfl
              have hT : n1 7 ≤ top + 1440 := by rw [en]; show n 7 + 1440 ≤ _; omega
              have hdf : zDf σ3 κ1 n1 := by rw [en]; exact zDf_7 (zDf_s hd hx1) hκ
              refine z_goto (tgt := 261) X dL_passes_238 (by decide) ?_
              exact loop_261 1 κ1 n1 _ w τ ⟨by omega, by omega⟩ hn16 hT hdf hst hL (by decide)
          · skip
            try simp (disch := omega) only [zk0, nI_leI, nI_ltI, nI_eq, zbk_notn, zbk_not, zbk_n0, zbk_0, zb_0, zb_n0, zb_not, zb_notn, Bool.not_eq_false, Bool.not_eq_true, Bool.not_eq_true', Bool.not_eq_false', decide_eq_true_eq, decide_eq_false_iff_not, Classical.not_not] at c_195
            refine z_aload X dL_passes_198 rfl ?_
            refine z_iload X dL_passes_200 rfl ?_
            refine z_aload_n X dL_passes_202 rfl ?_
            refine z_iload X dL_passes_203 rfl ?_
            refine z_iconst (v := nI 0) X (by decide) dL_passes_205 ?_
            refine z_runVa X Y aL_85 (tB_of hL (Or.inl ⟨rfl, rfl⟩) k 0 (by omega) (by decide)) (hL.ob (Or.inl ⟨rfl, rfl⟩)) (hL.aq (Or.inl ⟨rfl, rfl⟩)) rfl rfl (Nat.le_of_ble_eq_true rfl) ⟨by decide, by decide⟩ ⟨by decide, by decide⟩ dL_passes_206 ?_
            rintro _ _ _ ⟨w, τ, rfl, rfl, rfl, hL⟩
            rw [show zok κ n k 0 = κ (200 + k) 9 from rfl]
            refine z_iasta X (hL.arx har) (hL.dax had9) (by omega) (by omega) dL_passes_209 ?_
            rw [zJ_up (i := i2) (c := 2) (by decide)]
            replace hL := hL.upx (i := i2) k (κ (200 + k) 9)
            refine z_inc1 X dL_passes_210 rfl (by decide) ?_
            refine z_goto (tgt := 190) X dL_passes_213 (by decide) ?_
            exact ih_190 (k + 1) _ _ _ (by omega) (fun j => (zup_o hi1 j).trans (hx1 j)) (zwas hxw) hL (by omega)
      refine z_iconst (v := nI 0) X (by decide) dL_passes_187 ?_
      refine z_istore X dL_passes_188 (by decide) ?_
      exact loop_190 (n 6 - 0 + 1) 0 _ _ _ (Nat.zero_le _) (fun _ => if_neg hi1) (fun j hj => absurd hj (Nat.not_lt_zero _)) hL (by omega)
  refine z_aload_n X dL_passes_0 rfl ?_
  refine z_iconst (v := nI 3) X (by decide) dL_passes_1 ?_
  refine z_ialda X hL.ar hL.da (by decide) (by decide) dL_passes_2 ?_
  rw [hL.sd]
  rw [hd3]
  refine z_if_le (tgt := 181) X dL_passes_3 (by decide) (fun c_3 => ?_) (fun c_3 => ?_)
  · skip
    try simp (disch := omega) only [zk0, nI_leI, nI_ltI, nI_eq, zbk_notn, zbk_not, zbk_n0, zbk_0, zb_0, zb_n0, zb_not, zb_notn, Bool.not_eq_false, Bool.not_eq_true, Bool.not_eq_true', Bool.not_eq_false', decide_eq_true_eq, decide_eq_false_iff_not, Classical.not_not] at c_3
    exact loop_181 1 w τ hL (by decide)
  · skip
    try simp (disch := omega) only [zk0, nI_leI, nI_ltI, nI_eq, zbk_notn, zbk_not, zbk_n0, zbk_0, zb_0, zb_n0, zb_not, zb_notn, Bool.not_eq_false, Bool.not_eq_true, Bool.not_eq_true', Bool.not_eq_false', decide_eq_true_eq, decide_eq_false_iff_not, Classical.not_not] at c_3
    refine z_iload_n X dL_passes_6 rfl ?_
    refine z_iconst (v := nI 4) X (by decide) dL_passes_7 ?_
    refine z_runSn X Y kL_116 (tL_some2 _ 4 (by decide) (by decide)) rfl rfl (Nat.le_of_ble_eq_true rfl) ⟨by decide, by decide⟩ ⟨by decide, by decide⟩ dL_passes_8 ?_
    rintro _ _ _ ⟨s4, hs4, rfl, rfl, rfl⟩
    refine z_if_ne (tgt := 181) X dL_passes_11 (by decide) (fun c_11 => ?_) (fun c_11 => ?_)
    · skip
      try simp (disch := omega) only [zk0, nI_leI, nI_ltI, nI_eq, zbk_notn, zbk_not, zbk_n0, zbk_0, zb_0, zb_n0, zb_not, zb_notn, Bool.not_eq_false, Bool.not_eq_true, Bool.not_eq_true', Bool.not_eq_false', decide_eq_true_eq, decide_eq_false_iff_not, Classical.not_not] at c_11
      exact loop_181 1 w τ hL (by decide)
    · skip
      try simp (disch := omega) only [zk0, nI_leI, nI_ltI, nI_eq, zbk_notn, zbk_not, zbk_n0, zbk_0, zb_0, zb_n0, zb_not, zb_notn, Bool.not_eq_false, Bool.not_eq_true, Bool.not_eq_true', Bool.not_eq_false', decide_eq_true_eq, decide_eq_false_iff_not, Classical.not_not] at c_11
      refine z_iload X dL_passes_14 rfl ?_
      refine z_aload_n X dL_passes_16 rfl ?_
      refine z_iconst (v := nI 3) X (by decide) dL_passes_17 ?_
      refine z_ialda X hL.ar hL.da (by decide) (by decide) dL_passes_18 ?_
      rw [hL.sd]
      rw [hd3]
      refine z_runSn X Y kL_116 (tL_some2 _ (n 6) (by omega) (by omega)) rfl rfl (Nat.le_of_ble_eq_true rfl) ⟨by decide, by decide⟩ ⟨by decide, by decide⟩ dL_passes_19 ?_
      rintro _ _ _ ⟨s5, hs5, rfl, rfl, rfl⟩
      have hw24 := (hv.2.2.2.1.2 s5 hs5).2.2.1
      refine z_istore X dL_passes_22 (by decide) ?_
      refine z_aload_n X dL_passes_24 rfl ?_
      refine z_iload X dL_passes_25 rfl ?_
      refine z_iconst (v := nI 1) X (by decide) dL_passes_27 ?_
      refine z_runVa X Y aL_85 (tB_of hL (Or.inl ⟨rfl, rfl⟩) s5 1 hs5 (by decide)) (hL.ob (Or.inl ⟨rfl, rfl⟩)) (hL.aq (Or.inl ⟨rfl, rfl⟩)) rfl rfl (Nat.le_of_ble_eq_true rfl) ⟨by decide, by decide⟩ ⟨by decide, by decide⟩ dL_passes_28 ?_
      rintro _ _ _ ⟨w, τ, rfl, rfl, rfl, hL⟩
      rw [show zok κ n s5 1 = nI (n (100 + s5)) from rfl]
      have hw1 := hw24.1
      have hw2 := hw24.2.1
      refine z_istore X dL_passes_31 (by decide) ?_
      refine z_iload X dL_passes_33 rfl ?_
      refine z_iconst (v := nI 3) X (by decide) dL_passes_35 ?_
      refine z_ishr X dL_passes_36 ?_
      refine z_iload X dL_passes_37 rfl ?_
      refine z_runSn X Y kL_116 (tL_some2 _ (n (100 + s5)) (by omega) (by omega)) rfl rfl (Nat.le_of_ble_eq_true rfl) ⟨by decide, by decide⟩ ⟨by decide, by decide⟩ dL_passes_39 ?_
      rintro _ _ _ ⟨s6, hs6, rfl, rfl, rfl⟩
      refine z_istore X dL_passes_42 (by decide) ?_
      refine z_iload X dL_passes_44 rfl ?_
      refine z_bipush (v := nI 6) X (by decide) dL_passes_46 ?_
      refine z_ishr X dL_passes_48 ?_
      refine z_iconst (v := nI 5) X (by decide) dL_passes_49 ?_
      refine z_runSn X Y kL_116 (tL_some2 _ 5 (by decide) (by decide)) rfl rfl (Nat.le_of_ble_eq_true rfl) ⟨by decide, by decide⟩ ⟨by decide, by decide⟩ dL_passes_50 ?_
      rintro _ _ _ ⟨s7, hs7, rfl, rfl, rfl⟩
      refine z_istore X dL_passes_53 (by decide) ?_
      refine z_aload_n X dL_passes_55 rfl ?_
      refine z_iload X dL_passes_56 rfl ?_
      refine z_iload X dL_passes_58 rfl ?_
      refine z_iconst (v := zb false) X (by decide) dL_passes_60 ?_
      refine z_runVa X Y aL_88 (tB_word hL (Or.inl ⟨rfl, rfl⟩) false s5 s6 hs5 hs6) (hL.ob (Or.inl ⟨rfl, rfl⟩)) (hL.aq (Or.inl ⟨rfl, rfl⟩)) rfl rfl (Nat.le_of_ble_eq_true rfl) ⟨by decide, by decide⟩ ⟨by decide, by decide⟩ dL_passes_61 ?_
      rintro _ _ _ ⟨w, τ, rfl, rfl, rfl, hL⟩
      rw [if_neg Bool.false_ne_true]
      refine z_istore X dL_passes_64 (by decide) ?_
      refine z_aload_n X dL_passes_66 rfl ?_
      refine z_aload_n X dL_passes_67 rfl ?_
      refine z_bipush (v := nI 14) X (by decide) dL_passes_68 ?_
      refine z_iload X dL_passes_70 rfl ?_
      refine z_iload X dL_passes_72 rfl ?_
      refine z_iload X dL_passes_74 rfl ?_
      refine z_iload X dL_passes_76 rfl ?_
      refine z_bipush (v := nI 9) X (by decide) dL_passes_78 ?_
      refine z_ishr X dL_passes_80 ?_
      refine z_bipush (v := nI 26) X (by decide) dL_passes_81 ?_
      refine z_runSn X Y kL_116 (tL_some2 _ 26 (by decide) (by decide)) rfl rfl (Nat.le_of_ble_eq_true rfl) ⟨by decide, by decide⟩ ⟨by decide, by decide⟩ dL_passes_83 ?_
      rintro _ _ _ ⟨s8, hs8, rfl, rfl, rfl⟩
      refine z_iconst (v := nI 0) X (by decide) dL_passes_86 ?_
      refine z_runSn X Y kL_120 (tL_both (nI 14) (nI s5) (nI s6) (nI s7) (nI s8) (nI 0) (zd_wrong hL.1.2.2.2 _ _ _ _) hL (fun _ _ h z1 => tL_does_14 hfl (zso_1 h.S) _ _ _ _ _ (tC_wrong hfl h _ _ _ _))) rfl rfl (Nat.le_of_ble_eq_true rfl) ⟨by decide, by decide⟩ ⟨by decide, by decide⟩ dL_passes_87 ?_
      rintro _ _ _ ⟨r, κ1, n1, w, τ, rfl, hR, rfl, rfl, hL⟩
      have hE := zk_wrg hv hs5 hs6 hs7 hs8 hR
      refine z_istore X dL_passes_90 (by decide) ?_
      rcases hE with ⟨rfl, hno, e1, e2⟩ | ⟨W, V, hW, hV, eW, rfl, hp, hV4, hκ, e2⟩
      · skip
        replace e1 := e1.symm
        subst e1
        replace e2 := e2.symm
        subst e2
        refine z_iload X dL_passes_92 rfl ?_
        refine z_ldc X qL_23 dL_passes_94 ?_
        refine z_icmp_ne (tgt := 122) X dL_passes_96 (by decide) (fun c_96 => ?_) (fun c_96 => ?_)
        · exact absurd rfl c_96
        · skip
          refine z_aload_n X dL_passes_99 rfl ?_
          refine z_iload X dL_passes_100 rfl ?_
          refine z_iconst (v := nI 0) X (by decide) dL_passes_102 ?_
          refine z_runVa X Y aL_85 (tB_of hL (Or.inl ⟨rfl, rfl⟩) s5 0 hs5 (by decide)) (hL.ob (Or.inl ⟨rfl, rfl⟩)) (hL.aq (Or.inl ⟨rfl, rfl⟩)) rfl rfl (Nat.le_of_ble_eq_true rfl) ⟨by decide, by decide⟩ ⟨by decide, by decide⟩ dL_passes_103 ?_
          rintro _ _ _ ⟨w, τ, rfl, rfl, rfl, hL⟩
          rw [show zok κ n s5 0 = κ (200 + s5) 9 from rfl]
          refine z_if_ne (tgt := 114) X dL_passes_106 (by decide) (fun c_106 => ?_) (fun c_106 => ?_)
          · skip
            refine z_iconst (v := nI 1) X (by decide) dL_passes_114 ?_
            refine z_goto (tgt := 180) X dL_passes_115 (by decide) ?_
            refine z_zret X (by decide) (by decide) rfl (by first | exact Or.inl rfl | exact Or.inr rfl | exact zb_01 _ | assumption) dL_passes_180 ?_
            exact ⟨_, _, _, _, w, τ, rfl, rfl, rfl, hL, hd, by omega⟩
          · skip
            refine z_iload X dL_passes_109 rfl ?_
            refine z_if_ge (tgt := 118) X dL_passes_111 (by decide) (fun c_111 => ?_) (fun c_111 => ?_)
            · exact hno.elim (fun q => absurd c_106 q) (fun q => absurd q (Int32.not_lt.mpr c_111))
            · skip
              refine z_iconst (v := nI 1) X (by decide) dL_passes_114 ?_
              refine z_goto (tgt := 180) X dL_passes_115 (by decide) ?_
              refine z_zret X (by decide) (by decide) rfl (by first | exact Or.inl rfl | exact Or.inr rfl | exact zb_01 _ | assumption) dL_passes_180 ?_
              exact ⟨_, _, _, _, w, τ, rfl, rfl, rfl, hL, hd, by omega⟩
      · skip
        replace e2 := e2.symm
        subst e2
        rw [eW]
        refine z_iload X dL_passes_92 rfl ?_
        refine z_ldc X qL_23 dL_passes_94 ?_
        refine z_icmp_ne (tgt := 122) X dL_passes_96 (by decide) (fun c_96 => ?_) (fun c_96 => ?_)
        · skip
          refine z_iload X dL_passes_122 rfl ?_
          refine z_if_lt (tgt := 179) X dL_passes_124 (by decide) (fun c_124 => ?_) (fun c_124 => ?_)
          · skip
            try simp (disch := omega) only [zk0, nI_leI, nI_ltI, nI_eq, zbk_notn, zbk_not, zbk_n0, zbk_0, zb_0, zb_n0, zb_not, zb_notn, Bool.not_eq_false, Bool.not_eq_true, Bool.not_eq_true', Bool.not_eq_false', decide_eq_true_eq, decide_eq_false_iff_not, Classical.not_not] at c_124
            (exfalso; omega)
          · skip
            try simp (disch := omega) only [zk0, nI_leI, nI_ltI, nI_eq, zbk_notn, zbk_not, zbk_n0, zbk_0, zb_0, zb_n0, zb_not, zb_notn, Bool.not_eq_false, Bool.not_eq_true, Bool.not_eq_true', Bool.not_eq_false', decide_eq_true_eq, decide_eq_false_iff_not, Classical.not_not] at c_124
            refine z_iload X dL_passes_127 rfl ?_
            refine z_iload X dL_passes_129 rfl ?_
            refine z_runSn X Y kL_124 (tL_parts V W (by omega) (by omega)) rfl rfl (Nat.le_of_ble_eq_true rfl) ⟨by decide, by decide⟩ ⟨by decide, by decide⟩ dL_passes_131 ?_
            rintro _ _ _ ⟨rfl, rfl, rfl⟩
            refine z_iconst (v := nI 1) X (by decide) dL_passes_134 ?_
            refine z_icmp_gt (tgt := 179) X dL_passes_135 (by decide) (fun c_135 => ?_) (fun c_135 => ?_)
            · skip
              try simp (disch := omega) only [zk0, nI_leI, nI_ltI, nI_eq, zbk_notn, zbk_not, zbk_n0, zbk_0, zb_0, zb_n0, zb_not, zb_notn, Bool.not_eq_false, Bool.not_eq_true, Bool.not_eq_true', Bool.not_eq_false', decide_eq_true_eq, decide_eq_false_iff_not, Classical.not_not] at c_135
              (exfalso; omega)
            · skip
              try simp (disch := omega) only [zk0, nI_leI, nI_ltI, nI_eq, zbk_notn, zbk_not, zbk_n0, zbk_0, zb_0, zb_n0, zb_not, zb_notn, Bool.not_eq_false, Bool.not_eq_true, Bool.not_eq_true', Bool.not_eq_false', decide_eq_true_eq, decide_eq_false_iff_not, Classical.not_not] at c_135
              refine z_aload_n X dL_passes_138 rfl ?_
              refine z_iload X dL_passes_139 rfl ?_
              refine z_iload X dL_passes_141 rfl ?_
              refine z_iconst (v := zb false) X (by decide) dL_passes_143 ?_
              refine z_runVa X Y aL_88 (tB_word hL (Or.inl ⟨rfl, rfl⟩) false s5 s6 hs5 hs6) (hL.ob (Or.inl ⟨rfl, rfl⟩)) (hL.aq (Or.inl ⟨rfl, rfl⟩)) rfl rfl (Nat.le_of_ble_eq_true rfl) ⟨by decide, by decide⟩ ⟨by decide, by decide⟩ dL_passes_144 ?_
              rintro _ _ _ ⟨w, τ, rfl, rfl, rfl, hL⟩
              rw [if_neg Bool.false_ne_true, hV4]
              refine z_iload X dL_passes_147 rfl ?_
              refine z_icmp_ne (tgt := 179) X dL_passes_149 (by decide) (fun c_149 => ?_) (fun c_149 => ?_)
              · exact absurd rfl c_149
              · skip
                refine z_aload_n X dL_passes_152 rfl ?_
                refine z_iload X dL_passes_153 rfl ?_
                refine z_runVa X Y aL_95 (tB_claim hL (Or.inl ⟨rfl, rfl⟩) s5 hs5) (hL.ob (Or.inl ⟨rfl, rfl⟩)) (hL.aq (Or.inl ⟨rfl, rfl⟩)) rfl rfl (Nat.le_of_ble_eq_true rfl) ⟨by decide, by decide⟩ ⟨by decide, by decide⟩ dL_passes_155 ?_
                rintro _ _ _ ⟨⟨w, τ, rfl, rfl, rfl, hL⟩, hcl⟩
                have hcb := zcl_b (hL.1.M.2 s5 hs5).2.2.1 hcl
                refine z_iconst (v := -1) X (by decide) dL_passes_158 ?_
                refine z_icmp_eq (tgt := 175) X dL_passes_159 (by decide) (fun c_159 => ?_) (fun c_159 => ?_)
                · skip
                  refine z_iconst (v := nI 1) X (by decide) dL_passes_175 ?_
                  refine z_goto (tgt := 180) X dL_passes_176 (by decide) ?_
                  refine z_zret X (by decide) (by decide) rfl (by first | exact Or.inl rfl | exact Or.inr rfl | exact zb_01 _ | assumption) dL_passes_180 ?_
                  exact ⟨_, _, _, _, w, τ, rfl, rfl, rfl, hL, zDf_same hd hκ, by omega⟩
                · skip
                  refine z_aload_n X dL_passes_162 rfl ?_
                  refine z_iload X dL_passes_163 rfl ?_
                  refine z_runVa X Y aL_95 (tB_claim hL (Or.inl ⟨rfl, rfl⟩) s5 hs5) (hL.ob (Or.inl ⟨rfl, rfl⟩)) (hL.aq (Or.inl ⟨rfl, rfl⟩)) rfl rfl (Nat.le_of_ble_eq_true rfl) ⟨by decide, by decide⟩ ⟨by decide, by decide⟩ dL_passes_165 ?_
                  rintro _ _ _ ⟨⟨w, τ, rfl, rfl, rfl, hL⟩, -⟩
                  obtain ⟨j9, hj9, ej9⟩ := hcb.resolve_left c_159
                  rw [ej9]
                  refine z_iconst (v := nI 5) X (by decide) dL_passes_168 ?_
                  refine z_iload X dL_passes_169 rfl ?_
                  refine z_imulN X dL_passes_171 ?_
                  refine z_icmp_ge (tgt := 179) X dL_passes_172 (by decide) (fun c_172 => ?_) (fun c_172 => ?_)
                  · skip
                    try simp (disch := omega) only [zk0, nI_leI, nI_ltI, nI_eq, zbk_notn, zbk_not, zbk_n0, zbk_0, zb_0, zb_n0, zb_not, zb_notn, Bool.not_eq_false, Bool.not_eq_true, Bool.not_eq_true', Bool.not_eq_false', decide_eq_true_eq, decide_eq_false_iff_not, Classical.not_not] at c_172
                    (exfalso; omega)
                  · skip
                    try simp (disch := omega) only [zk0, nI_leI, nI_ltI, nI_eq, zbk_notn, zbk_not, zbk_n0, zbk_0, zb_0, zb_n0, zb_not, zb_notn, Bool.not_eq_false, Bool.not_eq_true, Bool.not_eq_true', Bool.not_eq_false', decide_eq_true_eq, decide_eq_false_iff_not, Classical.not_not] at c_172
                    refine z_iconst (v := nI 1) X (by decide) dL_passes_175 ?_
                    refine z_goto (tgt := 180) X dL_passes_176 (by decide) ?_
                    refine z_zret X (by decide) (by decide) rfl (by first | exact Or.inl rfl | exact Or.inr rfl | exact zb_01 _ | assumption) dL_passes_180 ?_
                    exact ⟨_, _, _, _, w, τ, rfl, rfl, rfl, hL, zDf_same hd hκ, by omega⟩
        · exact absurd c_96 (nIn_neg (by omega) (by decide))
