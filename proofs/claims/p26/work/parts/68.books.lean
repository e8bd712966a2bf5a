/-! the law: books -/
theorem tL_some2 {l : Launch} {D : va_G} {cy : Nat → ClassId} {z0 : zRg} {g : zSh} {σ : zIn} (x : Int32) (m9 : Nat) (h0 : 0 < m9) (hm : m9 < 2 ^ 31) : z_Cn (zc0 NL_some) l D cy z0 NL_some [.int x, .int (nI m9)] g σ (fun v g' σ' => ∃ s, s < m9 ∧ v = some (.int (nI s)) ∧ g' = g ∧ σ' = σ) := by
  refine (tL_some x m9 h0 hm).mono ?_
  rintro v g' σ' ⟨rfl, rfl, rfl⟩
  exact ⟨_, zsm_lt h0, rfl, rfl, rfl⟩
theorem zDf_entry {σ2 κ κ1 : zIn} {n : Nat → Nat} {W : Nat} (h : zDf σ2 κ n) (hk : ∀ k, k < n 1 → κ1 4 k = κ 4 k) (hkn : κ1 4 (n 1) = nI W) : zDf (z_up (z_up σ2 1 (8 + n 1) (nI W)) 1 2 (nI (n 1 + 1))) κ1 (zud n 1 (n 1 + 1)) := by
  obtain ⟨h0, h3, h4, d0, d1, d2, d3, d4, d5, d8⟩ := h
  have e : ∀ k, k ≠ 2 → k ≠ 8 + n 1 → z_up (z_up σ2 1 (8 + n 1) (nI W)) 1 2 (nI (n 1 + 1)) 1 k = σ2 1 k := fun k h1 h2 => by simp [z_up, h1, h2]
  refine ⟨h0, h3, h4, (e 0 (by decide) (by omega)).trans d0, (e 1 (by decide) (by omega)).trans d1, ?_, (e 3 (by decide) (by omega)).trans d3, (e 4 (by decide) (by omega)).trans d4, (e 5 (by decide) (by omega)).trans d5, fun k hk2 => ?_⟩
  · simp [z_up, zud]
  · have hk3 : k < n 1 + 1 := hk2
    by_cases q : k = n 1
    · subst q
      rw [hkn]
      simp [z_up, show 8 + n 1 ≠ 2 by omega]
    · rw [e (8 + k) (by omega) (by omega), d8 k (by omega), hk k (by omega)]
set_option maxHeartbeats 4000000 in
set_option maxRecDepth 100000 in
theorem tL_books {l : Launch} {D : va_G} {cy : Nat → ClassId} {z0 : zRg} {ao ai ad : Nat} {κ : zIn} {n : Nat → Nat} {g2 : zSh} {σ2 : zIn} {w : Nat → zSh} {τ : Nat → zIn} {top : Nat} (x z : Int32) (hfl : l.stackTraces = false) (hL : zLc ao ai ad κ n g2 σ2 w τ) (hd : zDf σ2 κ n) (ht7 : n 7 ≤ top) : z_Cn (zc0 NL_books) l D cy z0 NL_books [.ref ao, .ref ai, .ref ad, .int x, .int z] (zJg w) (zJs τ) (zStp ao ai ad top) := by
  obtain ⟨h0, h3, h4, hd0, hd1, hd2, hd3, hd4, hd5, hd8⟩ := id hd
  have hne : n 1 ≤ 40 := hL.1.A.2.1.2.1
  have hC := hL.1.A.2.1.2.2.1
  have hD := hL.1.A.2.1.2.2.2.2
  refine z_ofN (by decide) (z_cr (z_cr (z_cr (z_ci (z_ci z_c0))))) (Nat.le_of_ble_eq_true rfl) ?_
  intro p e s m args below meth c X Y
  refine z_iload_n X dL_books_0 rfl ?_
  refine z_iconst (v := nI 3) X (by decide) dL_books_1 ?_
  refine z_runSn X Y kL_116 (tL_some2 _ 3 (by decide) (by decide)) rfl rfl (Nat.le_of_ble_eq_true rfl) ⟨by decide, by decide⟩ ⟨by decide, by decide⟩ dL_books_2 ?_
  rintro _ _ _ ⟨s1, hs1, rfl, rfl, rfl⟩
  refine z_if_ne (tgt := 224) X dL_books_5 (by decide) (fun c_5 => ?_) (fun c_5 => ?_)
  · skip
    try simp (disch := omega) only [zk0, nI_leI, nI_ltI, nI_eq, zbk_notn, zbk_not, zbk_n0, zbk_0, zb_0, zb_n0, zb_not, zb_notn, Bool.not_eq_false, Bool.not_eq_true, Bool.not_eq_true', Bool.not_eq_false', decide_eq_true_eq, decide_eq_false_iff_not, Classical.not_not] at c_5
    refine z_iload_n X dL_books_224 rfl ?_
    refine z_iconst (v := nI 3) X (by decide) dL_books_225 ?_
    refine z_ishr X dL_books_226 ?_
    refine z_iconst (v := nI 3) X (by decide) dL_books_227 ?_
    refine z_runSn X Y kL_116 (tL_some2 _ 3 (by decide) (by decide)) rfl rfl (Nat.le_of_ble_eq_true rfl) ⟨by decide, by decide⟩ ⟨by decide, by decide⟩ dL_books_228 ?_
    rintro _ _ _ ⟨s5, hs5, rfl, rfl, rfl⟩
    have loop_288 : ∀ (n9 : Nat) (W : Nat) (hW : W < 11881376) (hn : 0 < n9), z_V p l e (zRm NL_books) s m args below meth c 11 D cy z0 0 0 (zQm NL_books below D cy z0 (zStp ao ai ad top) args s) 288 [some (.ref ao), some (.ref ai), some (.ref ad), some (.int x), some (.int z), some (.int (nI s5)), none, none, none, none, none] [.int (nI W)] (zJg w) (zJs τ) := by
      intro n9
      induction n9 with
      | zero => intro W hW hn; exact absurd hn (Nat.not_lt_zero _)
      | succ n9 ih_288 =>
        intro W hW hn
        refine z_istore X dL_books_288 (by decide) ?_
        refine z_aload_n X dL_books_290 rfl ?_
        refine z_aload_n X dL_books_291 rfl ?_
        refine z_iconst (v := nI 1) X (by decide) dL_books_292 ?_
        refine z_iload X dL_books_293 rfl ?_
        refine z_iload X dL_books_295 rfl ?_
        refine z_iconst (v := nI 2) X (by decide) dL_books_297 ?_
        refine z_ishr X dL_books_298 ?_
        refine z_iconst (v := nI 5) X (by decide) dL_books_299 ?_
        refine z_runSn X Y kL_116 (tL_some2 _ 5 (by decide) (by decide)) rfl rfl (Nat.le_of_ble_eq_true rfl) ⟨by decide, by decide⟩ ⟨by decide, by decide⟩ dL_books_300 ?_
        rintro _ _ _ ⟨s6, hs6, rfl, rfl, rfl⟩
        have loop_340 : ∀ (n9 : Nat) (A B : Int32) (hAB : zAB A B) (hn : 0 < n9), z_V p l e (zRm NL_books) s m args below meth c 11 D cy z0 0 0 (zQm NL_books below D cy z0 (zStp ao ai ad top) args s) 340 [some (.ref ao), some (.ref ai), some (.ref ad), some (.int x), some (.int z), some (.int (nI s5)), some (.int (nI W)), none, none, none, none] [.int B, .int A, .int (nI s6), .int (nI W), .int (nI 1), .ref ai, .ref ao] (zJg w) (zJs τ) := by
          intro n9
          induction n9 with
          | zero => intro A B hAB hn; exact absurd hn (Nat.not_lt_zero _)
          | succ n9 ih_340 =>
            intro A B hAB hn
            refine z_iconst (v := -1) X (by decide) dL_books_340 ?_
            refine z_runSn X Y kL_120 (tL_both (nI 1) (nI W) (nI s6) A B (-1) (zd_entry _ _ _ _ _) hL (fun _ _ h z1 => tL_does_1 hfl (zso_1 h.S) _ _ _ _ _ (tC_entry hfl h _ _ _ _ _))) rfl rfl (Nat.le_of_ble_eq_true rfl) ⟨by decide, by decide⟩ ⟨by decide, by decide⟩ dL_books_341 ?_
            rintro _ _ _ ⟨r, κ1, n1, w, τ, rfl, hR, rfl, rfl, hL⟩
            have hE := zk_ent h0 hW hs6 hAB hR
            refine z_istore X dL_books_344 (by decide) ?_
            refine z_iconst (v := nI 0) X (by decide) dL_books_346 ?_
            refine z_istore X dL_books_347 (by decide) ?_
            have loop_352 : ∀ (n9 : Nat) (k : Nat) (hk : k ≤ n 1) (hn : n 1 - k < n9), z_V p l e (zRm NL_books) s m args below meth c 11 D cy z0 10 150 (zQm NL_books below D cy z0 (zStp ao ai ad top) args s) 352 [some (.ref ao), some (.ref ai), some (.ref ad), some (.int x), some (.int z), some (.int (nI s5)), some (.int (nI W)), some (.int (r)), some (.int (zb (zNb (κ 4) (nI W) k))), some (.int (nI k)), none] [] (zJg w) (zJs τ) := by
              intro n9
              induction n9 with
              | zero => intro k hk hn; exact absurd hn (Nat.not_lt_zero _)
              | succ n9 ih_352 =>
                intro k hk hn
                refine z_iload X dL_books_352 rfl ?_
                refine z_aload_n X dL_books_354 rfl ?_
                refine z_iconst (v := nI 2) X (by decide) dL_books_355 ?_
                refine z_ialda X hL.ar hL.da (by omega) (by omega) dL_books_356 ?_
                rw [hL.sd]
                rw [hd2]
                refine z_icmp_ge (tgt := 394) X dL_books_357 (by decide) (fun c_357 => ?_) (fun c_357 => ?_)
                · skip
                  try simp (disch := omega) only [zk0, nI_leI, nI_ltI, nI_eq, zbk_notn, zbk_not, zbk_n0, zbk_0, zb_0, zb_n0, zb_not, zb_notn, Bool.not_eq_false, Bool.not_eq_true, Bool.not_eq_true', Bool.not_eq_false', decide_eq_true_eq, decide_eq_false_iff_not, Classical.not_not] at c_357
                  have ek : k = n 1 := by omega
                  subst ek
                  rcases hE with ⟨rfl, h40, hnb, hk4, hkn, rfl⟩ | ⟨rfl, e1, e2⟩
                  · skip
                    rw [hnb]
                    refine z_iload X dL_books_394 rfl ?_
                    refine z_if_lt (tgt := 416) X dL_books_396 (by decide) (fun c_396 => ?_) (fun c_396 => ?_)
                    · skip
                      try simp (disch := omega) only [zk0, nI_leI, nI_ltI, nI_eq, zbk_notn, zbk_not, zbk_n0, zbk_0, zb_0, zb_n0, zb_not, zb_notn, Bool.not_eq_false, Bool.not_eq_true, Bool.not_eq_true', Bool.not_eq_false', decide_eq_true_eq, decide_eq_false_iff_not, Classical.not_not] at c_396
                      (exfalso; omega)
                    · skip
                      try simp (disch := omega) only [zk0, nI_leI, nI_ltI, nI_eq, zbk_notn, zbk_not, zbk_n0, zbk_0, zb_0, zb_n0, zb_not, zb_notn, Bool.not_eq_false, Bool.not_eq_true, Bool.not_eq_true', Bool.not_eq_false', decide_eq_true_eq, decide_eq_false_iff_not, Classical.not_not] at c_396
                      refine z_aload_n X dL_books_399 rfl ?_
                      refine z_bipush (v := nI 8) X (by decide) dL_books_400 ?_
                      refine z_aload_n X dL_books_402 rfl ?_
                      refine z_iconst (v := nI 2) X (by decide) dL_books_403 ?_
                      refine z_ialda X hL.ar hL.da (by omega) (by omega) dL_books_404 ?_
                      rw [hL.sd]
                      rw [hd2]
                      refine z_iaddN X dL_books_405 ?_
                      refine z_iload X dL_books_406 rfl ?_
                      refine z_iasta X hL.ar hL.da (by omega) (by omega) dL_books_408 ?_
                      rw [zJ_up5]
                      replace hL := hL.up5 (8 + n 1) (nI W)
                      refine z_aload_n X dL_books_409 rfl ?_
                      refine z_iconst (v := nI 2) X (by decide) dL_books_410 ?_
                      refine z_dup2 X rfl rfl dL_books_411 ?_
                      refine z_ialda X hL.ar hL.da (by omega) (by omega) dL_books_412 ?_
                      rw [hL.sd]
                      rw [show z_up σ2 1 (8 + n 1) (nI W) 1 2 = nI (n 1) by simp [z_up, show 2 ≠ 8 + n 1 by omega, hd2]]
                      refine z_iconst (v := nI 1) X (by decide) dL_books_413 ?_
                      refine z_iaddN X dL_books_414 ?_
                      refine z_iasta X hL.ar hL.da (by omega) (by omega) dL_books_415 ?_
                      rw [zJ_up5]
                      replace hL := hL.up5 2 (nI (n 1 + 1))
                      refine z_iload X dL_books_416 rfl ?_
                      refine z_if_lt (tgt := 466) X dL_books_418 (by decide) (fun c_418 => ?_) (fun c_418 => ?_)
                      · skip
                        try simp (disch := omega) only [zk0, nI_leI, nI_ltI, nI_eq, zbk_notn, zbk_not, zbk_n0, zbk_0, zb_0, zb_n0, zb_not, zb_notn, Bool.not_eq_false, Bool.not_eq_true, Bool.not_eq_true', Bool.not_eq_false', decide_eq_true_eq, decide_eq_false_iff_not, Classical.not_not] at c_418
                        (exfalso; omega)
                      · skip
                        try simp (disch := omega) only [zk0, nI_leI, nI_ltI, nI_eq, zbk_notn, zbk_not, zbk_n0, zbk_0, zb_0, zb_n0, zb_not, zb_notn, Bool.not_eq_false, Bool.not_eq_true, Bool.not_eq_true', Bool.not_eq_false', decide_eq_true_eq, decide_eq_false_iff_not, Classical.not_not] at c_418
                        refine z_iload X dL_books_421 rfl ?_
                        refine z_if_ne (tgt := 462) X dL_books_423 (by decide) (fun c_423 => ?_) (fun c_423 => ?_)
                        · exact absurd c_423 (by decide)
                        · skip
                          refine z_iload X dL_books_426 rfl ?_
                          refine z_aload_n X dL_books_428 rfl ?_
                          refine z_iconst (v := nI 2) X (by decide) dL_books_429 ?_
                          refine z_ialda X hL.ar hL.da (by omega) (by omega) dL_books_430 ?_
                          rw [hL.sd]
                          refine z_iconst (v := nI 1) X (by decide) dL_books_431 ?_
                          refine z_isubN X (by omega) dL_books_432 ?_
                          refine z_icmp_ne (tgt := 462) X dL_books_433 (by decide) (fun c_433 => ?_) (fun c_433 => ?_)
                          · skip
                            try simp (disch := omega) only [zk0, nI_leI, nI_ltI, nI_eq, zbk_notn, zbk_not, zbk_n0, zbk_0, zb_0, zb_n0, zb_not, zb_notn, Bool.not_eq_false, Bool.not_eq_true, Bool.not_eq_true', Bool.not_eq_false', decide_eq_true_eq, decide_eq_false_iff_not, Classical.not_not] at c_433
                            (exfalso; omega)
                          · skip
                            try simp (disch := omega) only [zk0, nI_leI, nI_ltI, nI_eq, zbk_notn, zbk_not, zbk_n0, zbk_0, zb_0, zb_n0, zb_not, zb_notn, Bool.not_eq_false, Bool.not_eq_true, Bool.not_eq_true', Bool.not_eq_false', decide_eq_true_eq, decide_eq_false_iff_not, Classical.not_not] at c_433
                            refine z_aload_n X dL_books_436 rfl ?_
                            refine z_iload X dL_books_437 rfl ?_
                            refine z_iconst (v := nI 0) X (by decide) dL_books_439 ?_
                            refine z_runVa X Y aL_37 (tB_cand hL (Or.inl ⟨rfl, rfl⟩) (nI W) 0 ⟨W, hW, rfl⟩ (by omega)) (hL.ob (Or.inl ⟨rfl, rfl⟩)) (hL.aq (Or.inl ⟨rfl, rfl⟩)) rfl rfl (Nat.le_of_ble_eq_true rfl) ⟨by decide, by decide⟩ ⟨by decide, by decide⟩ dL_books_440 ?_
                            rintro _ _ _ ⟨r9, ⟨w, τ, rfl, rfl, rfl, hL⟩, hr⟩
                            have hD1 := hL.1.A.2.1.2.2.2.2
                            have e9 := zca_r (j := n 1) hD1 (Nat.lt_succ_self _) hkn hr
                            subst e9
                            refine z_iload X dL_books_443 rfl ?_
                            refine z_icmp_ne (tgt := 462) X dL_books_445 (by decide) (fun c_445 => ?_) (fun c_445 => ?_)
                            · exact absurd rfl c_445
                            · skip
                              refine z_aload_n X dL_books_448 rfl ?_
                              refine z_iload X dL_books_449 rfl ?_
                              refine z_runVa X Y aL_34 (tB_cands hL (Or.inl ⟨rfl, rfl⟩) (nI W) ⟨W, hW, rfl⟩) (hL.ob (Or.inl ⟨rfl, rfl⟩)) (hL.aq (Or.inl ⟨rfl, rfl⟩)) rfl rfl (Nat.le_of_ble_eq_true rfl) ⟨by decide, by decide⟩ ⟨by decide, by decide⟩ dL_books_451 ?_
                              rintro _ _ _ ⟨w, τ, rfl, rfl, rfl, hL⟩
                              rw [zca_1 (j := n 1) hD1 (Nat.lt_succ_self _) hkn]
                              refine z_iconst (v := nI 1) X (by decide) dL_books_454 ?_
                              refine z_icmp_ne (tgt := 462) X dL_books_455 (by decide) (fun c_455 => ?_) (fun c_455 => ?_)
                              · exact absurd rfl c_455
                              · skip
                                refine z_iconst (v := nI 1) X (by decide) dL_books_458 ?_
                                refine z_goto (tgt := 478) X dL_books_459 (by decide) ?_
                                refine z_zret X (by decide) (by decide) rfl (by first | exact Or.inl rfl | exact Or.inr rfl | exact zb_01 _ | assumption) dL_books_478 ?_
                                exact ⟨_, _, _, _, w, τ, rfl, rfl, rfl, hL, zDf_entry hd hk4 hkn, ht7⟩
                  · skip
                    skip
                    refine z_iload X dL_books_394 rfl ?_
                    refine z_if_lt (tgt := 416) X dL_books_396 (by decide) (fun c_396 => ?_) (fun c_396 => ?_)
                    · skip
                      refine z_iload X dL_books_416 rfl ?_
                      refine z_if_lt (tgt := 466) X dL_books_418 (by decide) (fun c_418 => ?_) (fun c_418 => ?_)
                      · skip
                        refine z_iload X dL_books_466 rfl ?_
                        refine z_ldc X qL_23 dL_books_468 ?_
                        refine z_icmp_ne (tgt := 477) X dL_books_470 (by decide) (fun c_470 => ?_) (fun c_470 => ?_)
                        · exact absurd rfl c_470
                        · skip
                          refine z_iconst (v := nI 1) X (by decide) dL_books_473 ?_
                          refine z_goto (tgt := 478) X dL_books_474 (by decide) ?_
                          refine z_zret X (by decide) (by decide) rfl (by first | exact Or.inl rfl | exact Or.inr rfl | exact zb_01 _ | assumption) dL_books_478 ?_
                          exact ⟨κ1, n1, g2, σ2, w, τ, rfl, rfl, rfl, hL, by rw [e1, e2]; exact hd, by rw [e2]; exact ht7⟩
                      · exact absurd (by decide) c_418
                    · exact absurd (by decide) c_396
                · skip
                  try simp (disch := omega) only [zk0, nI_leI, nI_ltI, nI_eq, zbk_notn, zbk_not, zbk_n0, zbk_0, zb_0, zb_n0, zb_not, zb_notn, Bool.not_eq_false, Bool.not_eq_true, Bool.not_eq_true', Bool.not_eq_false', decide_eq_true_eq, decide_eq_false_iff_not, Classical.not_not] at c_357
                  refine z_iload X dL_books_360 rfl ?_
                  refine z_if_ne (tgt := 381) X dL_books_362 (by decide) (fun c_362 => ?_) (fun c_362 => ?_)
                  · skip
                    try simp (disch := omega) only [zk0, nI_leI, nI_ltI, nI_eq, zbk_notn, zbk_not, zbk_n0, zbk_0, zb_0, zb_n0, zb_not, zb_notn, Bool.not_eq_false, Bool.not_eq_true, Bool.not_eq_true', Bool.not_eq_false', decide_eq_true_eq, decide_eq_false_iff_not, Classical.not_not] at c_362
                    refine z_iconst (v := zb true) X (by decide) dL_books_381 ?_
                    refine z_goto (tgt := 386) X dL_books_382 (by decide) ?_
                    refine z_istore X dL_books_386 (by decide) ?_
                    refine z_inc1 X dL_books_388 rfl (by decide) ?_
                    refine z_goto (tgt := 352) X dL_books_391 (by decide) ?_
                    have e2 := ih_352 (k + 1) (by omega) (by omega)
                    first | (rw [zNb_1 c_362] at e2; exact e2) | (rw [← eV] at c_378; first | (rw [zNb_2 c_378] at e2; exact e2) | (rw [zNb_2 (Nat.not_le.mp c_378)] at e2; exact e2) | (rw [zNb_3 c_362 (Nat.not_lt.mpr c_378)] at e2; exact e2))
                  · skip
                    try simp (disch := omega) only [zk0, nI_leI, nI_ltI, nI_eq, zbk_notn, zbk_not, zbk_n0, zbk_0, zb_0, zb_n0, zb_not, zb_notn, Bool.not_eq_false, Bool.not_eq_true, Bool.not_eq_true', Bool.not_eq_false', decide_eq_true_eq, decide_eq_false_iff_not, Classical.not_not] at c_362
                    refine z_aload_n X dL_books_365 rfl ?_
                    refine z_bipush (v := nI 8) X (by decide) dL_books_366 ?_
                    refine z_iload X dL_books_368 rfl ?_
                    refine z_iaddN X dL_books_370 ?_
                    refine z_ialda X hL.ar hL.da (by omega) (by omega) dL_books_371 ?_
                    rw [hL.sd]
                    rw [hd8 k (by omega)]
                    obtain ⟨V, hV, eV⟩ := hC k (by omega)
                    rw [eV]
                    refine z_iload X dL_books_372 rfl ?_
                    refine z_runSn X Y kL_124 (tL_parts V W (by omega) (by omega)) rfl rfl (Nat.le_of_ble_eq_true rfl) ⟨by decide, by decide⟩ ⟨by decide, by decide⟩ dL_books_374 ?_
                    rintro _ _ _ ⟨rfl, rfl, rfl⟩
                    have hzp : zp (nI V) (nI W) ≤ 5 := zpk_le _ _ 5
                    refine z_iconst (v := nI 2) X (by decide) dL_books_377 ?_
                    refine z_icmp_ge (tgt := 385) X dL_books_378 (by decide) (fun c_378 => ?_) (fun c_378 => ?_)
                    · skip
                      try simp (disch := omega) only [zk0, nI_leI, nI_ltI, nI_eq, zbk_notn, zbk_not, zbk_n0, zbk_0, zb_0, zb_n0, zb_not, zb_notn, Bool.not_eq_false, Bool.not_eq_true, Bool.not_eq_true', Bool.not_eq_false', decide_eq_true_eq, decide_eq_false_iff_not, Classical.not_not] at c_378
                      refine z_iconst (v := zb false) X (by decide) dL_books_385 ?_
                      refine z_istore X dL_books_386 (by decide) ?_
                      refine z_inc1 X dL_books_388 rfl (by decide) ?_
                      refine z_goto (tgt := 352) X dL_books_391 (by decide) ?_
                      have e2 := ih_352 (k + 1) (by omega) (by omega)
                      first | (rw [zNb_1 c_362] at e2; exact e2) | (rw [← eV] at c_378; first | (rw [zNb_2 c_378] at e2; exact e2) | (rw [zNb_2 (Nat.not_le.mp c_378)] at e2; exact e2) | (rw [zNb_3 c_362 (Nat.not_lt.mpr c_378)] at e2; exact e2))
                    · skip
                      try simp (disch := omega) only [zk0, nI_leI, nI_ltI, nI_eq, zbk_notn, zbk_not, zbk_n0, zbk_0, zb_0, zb_n0, zb_not, zb_notn, Bool.not_eq_false, Bool.not_eq_true, Bool.not_eq_true', Bool.not_eq_false', decide_eq_true_eq, decide_eq_false_iff_not, Classical.not_not] at c_378
                      refine z_iconst (v := zb true) X (by decide) dL_books_381 ?_
                      refine z_goto (tgt := 386) X dL_books_382 (by decide) ?_
                      refine z_istore X dL_books_386 (by decide) ?_
                      refine z_inc1 X dL_books_388 rfl (by decide) ?_
                      refine z_goto (tgt := 352) X dL_books_391 (by decide) ?_
                      have e2 := ih_352 (k + 1) (by omega) (by omega)
                      first | (rw [zNb_1 c_362] at e2; exact e2) | (rw [← eV] at c_378; first | (rw [zNb_2 c_378] at e2; exact e2) | (rw [zNb_2 (Nat.not_le.mp c_378)] at e2; exact e2) | (rw [zNb_3 c_362 (Nat.not_lt.mpr c_378)] at e2; exact e2))
            refine z_iconst (v := nI 0) X (by decide) dL_books_349 ?_
            refine z_istore X dL_books_350 (by decide) ?_
            exact loop_352 (n 1 - 0 + 1) 0 (by omega) (by omega)
        refine z_iload X dL_books_303 rfl ?_
        refine z_if_le (tgt := 320) X dL_books_305 (by decide) (fun c_305 => ?_) (fun c_305 => ?_)
        · skip
          try simp (disch := omega) only [zk0, nI_leI, nI_ltI, nI_eq, zbk_notn, zbk_not, zbk_n0, zbk_0, zb_0, zb_n0, zb_not, zb_notn, Bool.not_eq_false, Bool.not_eq_true, Bool.not_eq_true', Bool.not_eq_false', decide_eq_true_eq, decide_eq_false_iff_not, Classical.not_not] at c_305
          refine z_iconst (v := -1) X (by decide) dL_books_320 ?_
          refine z_iload X dL_books_321 rfl ?_
          refine z_iconst (v := nI 1) X (by decide) dL_books_323 ?_
          refine z_icmp_le (tgt := 339) X dL_books_324 (by decide) (fun c_324 => ?_) (fun c_324 => ?_)
          · skip
            try simp (disch := omega) only [zk0, nI_leI, nI_ltI, nI_eq, zbk_notn, zbk_not, zbk_n0, zbk_0, zb_0, zb_n0, zb_not, zb_notn, Bool.not_eq_false, Bool.not_eq_true, Bool.not_eq_true', Bool.not_eq_false', decide_eq_true_eq, decide_eq_false_iff_not, Classical.not_not] at c_324
            refine z_iconst (v := -1) X (by decide) dL_books_339 ?_
            exact loop_340 1 _ _ (by first | exact Or.inl ⟨rfl, rfl⟩ | exact Or.inr ⟨_, hA, rfl, Or.inl rfl⟩ | exact Or.inr ⟨_, hA, rfl, Or.inr ⟨_, hB, rfl⟩⟩ | (exfalso; omega)) (by decide)
          · skip
            try simp (disch := omega) only [zk0, nI_leI, nI_ltI, nI_eq, zbk_notn, zbk_not, zbk_n0, zbk_0, zb_0, zb_n0, zb_not, zb_notn, Bool.not_eq_false, Bool.not_eq_true, Bool.not_eq_true', Bool.not_eq_false', decide_eq_true_eq, decide_eq_false_iff_not, Classical.not_not] at c_324
            refine z_iload X dL_books_327 rfl ?_
            refine z_bipush (v := nI 9) X (by decide) dL_books_329 ?_
            refine z_ishr X dL_books_331 ?_
            refine z_iconst (v := nI 5) X (by decide) dL_books_332 ?_
            refine z_runSn X Y kL_116 (tL_some2 _ 5 (by decide) (by decide)) rfl rfl (Nat.le_of_ble_eq_true rfl) ⟨by decide, by decide⟩ ⟨by decide, by decide⟩ dL_books_333 ?_
            rintro _ _ _ ⟨s11, hB, rfl, rfl, rfl⟩
            refine z_goto (tgt := 340) X dL_books_336 (by decide) ?_
            exact loop_340 1 _ _ (by first | exact Or.inl ⟨rfl, rfl⟩ | exact Or.inr ⟨_, hA, rfl, Or.inl rfl⟩ | exact Or.inr ⟨_, hA, rfl, Or.inr ⟨_, hB, rfl⟩⟩ | (exfalso; omega)) (by decide)
        · skip
          try simp (disch := omega) only [zk0, nI_leI, nI_ltI, nI_eq, zbk_notn, zbk_not, zbk_n0, zbk_0, zb_0, zb_n0, zb_not, zb_notn, Bool.not_eq_false, Bool.not_eq_true, Bool.not_eq_true', Bool.not_eq_false', decide_eq_true_eq, decide_eq_false_iff_not, Classical.not_not] at c_305
          refine z_iload X dL_books_308 rfl ?_
          refine z_bipush (v := nI 7) X (by decide) dL_books_310 ?_
          refine z_ishr X dL_books_312 ?_
          refine z_iconst (v := nI 5) X (by decide) dL_books_313 ?_
          refine z_runSn X Y kL_116 (tL_some2 _ 5 (by decide) (by decide)) rfl rfl (Nat.le_of_ble_eq_true rfl) ⟨by decide, by decide⟩ ⟨by decide, by decide⟩ dL_books_314 ?_
          rintro _ _ _ ⟨s10, hA, rfl, rfl, rfl⟩
          refine z_goto (tgt := 321) X dL_books_317 (by decide) ?_
          refine z_iload X dL_books_321 rfl ?_
          refine z_iconst (v := nI 1) X (by decide) dL_books_323 ?_
          refine z_icmp_le (tgt := 339) X dL_books_324 (by decide) (fun c_324 => ?_) (fun c_324 => ?_)
          · skip
            try simp (disch := omega) only [zk0, nI_leI, nI_ltI, nI_eq, zbk_notn, zbk_not, zbk_n0, zbk_0, zb_0, zb_n0, zb_not, zb_notn, Bool.not_eq_false, Bool.not_eq_true, Bool.not_eq_true', Bool.not_eq_false', decide_eq_true_eq, decide_eq_false_iff_not, Classical.not_not] at c_324
            refine z_iconst (v := -1) X (by decide) dL_books_339 ?_
            exact loop_340 1 _ _ (by first | exact Or.inl ⟨rfl, rfl⟩ | exact Or.inr ⟨_, hA, rfl, Or.inl rfl⟩ | exact Or.inr ⟨_, hA, rfl, Or.inr ⟨_, hB, rfl⟩⟩ | (exfalso; omega)) (by decide)
          · skip
            try simp (disch := omega) only [zk0, nI_leI, nI_ltI, nI_eq, zbk_notn, zbk_not, zbk_n0, zbk_0, zb_0, zb_n0, zb_not, zb_notn, Bool.not_eq_false, Bool.not_eq_true, Bool.not_eq_true', Bool.not_eq_false', decide_eq_true_eq, decide_eq_false_iff_not, Classical.not_not] at c_324
            refine z_iload X dL_books_327 rfl ?_
            refine z_bipush (v := nI 9) X (by decide) dL_books_329 ?_
            refine z_ishr X dL_books_331 ?_
            refine z_iconst (v := nI 5) X (by decide) dL_books_332 ?_
            refine z_runSn X Y kL_116 (tL_some2 _ 5 (by decide) (by decide)) rfl rfl (Nat.le_of_ble_eq_true rfl) ⟨by decide, by decide⟩ ⟨by decide, by decide⟩ dL_books_333 ?_
            rintro _ _ _ ⟨s11, hB, rfl, rfl, rfl⟩
            refine z_goto (tgt := 340) X dL_books_336 (by decide) ?_
            exact loop_340 1 _ _ (by first | exact Or.inl ⟨rfl, rfl⟩ | exact Or.inr ⟨_, hA, rfl, Or.inl rfl⟩ | exact Or.inr ⟨_, hA, rfl, Or.inr ⟨_, hB, rfl⟩⟩ | (exfalso; omega)) (by decide)
    refine z_istore X dL_books_231 (by decide) ?_
    refine z_iload_n X dL_books_233 rfl ?_
    refine z_iconst (v := nI 5) X (by decide) dL_books_234 ?_
    refine z_ishr X dL_books_235 ?_
    refine z_iconst (v := nI 4) X (by decide) dL_books_236 ?_
    refine z_runSn X Y kL_116 (tL_some2 _ 4 (by decide) (by decide)) rfl rfl (Nat.le_of_ble_eq_true rfl) ⟨by decide, by decide⟩ ⟨by decide, by decide⟩ dL_books_237 ?_
    rintro _ _ _ ⟨s7, hs7, rfl, rfl, rfl⟩
    refine z_if_ne (tgt := 281) X dL_books_240 (by decide) (fun c_240 => ?_) (fun c_240 => ?_)
    · skip
      try simp (disch := omega) only [zk0, nI_leI, nI_ltI, nI_eq, zbk_notn, zbk_not, zbk_n0, zbk_0, zb_0, zb_n0, zb_not, zb_notn, Bool.not_eq_false, Bool.not_eq_true, Bool.not_eq_true', Bool.not_eq_false', decide_eq_true_eq, decide_eq_false_iff_not, Classical.not_not] at c_240
      refine z_iload X dL_books_281 rfl ?_
      refine z_ldc X qL_119 dL_books_283 ?_
      rw [show (11881376 : Int32) = nI 11881376 from rfl]
      refine z_runSn X Y kL_116 (tL_some2 _ 11881376 (by decide) (by decide)) rfl rfl (Nat.le_of_ble_eq_true rfl) ⟨by decide, by decide⟩ ⟨by decide, by decide⟩ dL_books_285 ?_
      rintro _ _ _ ⟨W, hW, rfl, rfl, rfl⟩
      exact loop_288 1 _ (by omega) (by decide)
    · skip
      try simp (disch := omega) only [zk0, nI_leI, nI_ltI, nI_eq, zbk_notn, zbk_not, zbk_n0, zbk_0, zb_0, zb_n0, zb_not, zb_notn, Bool.not_eq_false, Bool.not_eq_true, Bool.not_eq_true', Bool.not_eq_false', decide_eq_true_eq, decide_eq_false_iff_not, Classical.not_not] at c_240
      refine z_aload_n X dL_books_243 rfl ?_
      refine z_iconst (v := nI 2) X (by decide) dL_books_244 ?_
      refine z_ialda X hL.ar hL.da (by omega) (by omega) dL_books_245 ?_
      rw [hL.sd]
      rw [hd2]
      refine z_if_le (tgt := 281) X dL_books_246 (by decide) (fun c_246 => ?_) (fun c_246 => ?_)
      · skip
        try simp (disch := omega) only [zk0, nI_leI, nI_ltI, nI_eq, zbk_notn, zbk_not, zbk_n0, zbk_0, zb_0, zb_n0, zb_not, zb_notn, Bool.not_eq_false, Bool.not_eq_true, Bool.not_eq_true', Bool.not_eq_false', decide_eq_true_eq, decide_eq_false_iff_not, Classical.not_not] at c_246
        refine z_iload X dL_books_281 rfl ?_
        refine z_ldc X qL_119 dL_books_283 ?_
        rw [show (11881376 : Int32) = nI 11881376 from rfl]
        refine z_runSn X Y kL_116 (tL_some2 _ 11881376 (by decide) (by decide)) rfl rfl (Nat.le_of_ble_eq_true rfl) ⟨by decide, by decide⟩ ⟨by decide, by decide⟩ dL_books_285 ?_
        rintro _ _ _ ⟨W, hW, rfl, rfl, rfl⟩
        exact loop_288 1 _ (by omega) (by decide)
      · skip
        try simp (disch := omega) only [zk0, nI_leI, nI_ltI, nI_eq, zbk_notn, zbk_not, zbk_n0, zbk_0, zb_0, zb_n0, zb_not, zb_notn, Bool.not_eq_false, Bool.not_eq_true, Bool.not_eq_true', Bool.not_eq_false', decide_eq_true_eq, decide_eq_false_iff_not, Classical.not_not] at c_246
        refine z_aload_n X dL_books_249 rfl ?_
        refine z_bipush (v := nI 8) X (by decide) dL_books_250 ?_
        refine z_iload X dL_books_252 rfl ?_
        refine z_aload_n X dL_books_254 rfl ?_
        refine z_iconst (v := nI 2) X (by decide) dL_books_255 ?_
        refine z_ialda X hL.ar hL.da (by omega) (by omega) dL_books_256 ?_
        rw [hL.sd]
        rw [hd2]
        refine z_runSn X Y kL_116 (tL_some2 _ (n 1) (by omega) (by omega)) rfl rfl (Nat.le_of_ble_eq_true rfl) ⟨by decide, by decide⟩ ⟨by decide, by decide⟩ dL_books_257 ?_
        rintro _ _ _ ⟨s8, hs8, rfl, rfl, rfl⟩
        refine z_iaddN X dL_books_260 ?_
        refine z_ialda X hL.ar hL.da (by omega) (by omega) dL_books_261 ?_
        rw [hL.sd]
        rw [hd8 s8 (by omega)]
        obtain ⟨V, hV, eV⟩ := hC s8 (by omega)
        rw [eV]
        refine z_bipush (v := nI 26) X (by decide) dL_books_262 ?_
        refine z_iload X dL_books_264 rfl ?_
        refine z_iconst (v := nI 5) X (by decide) dL_books_266 ?_
        refine z_ishr X dL_books_267 ?_
        refine z_bipush (v := nI 26) X (by decide) dL_books_268 ?_
        refine z_runSn X Y kL_116 (tL_some2 _ 26 (by decide) (by decide)) rfl rfl (Nat.le_of_ble_eq_true rfl) ⟨by decide, by decide⟩ ⟨by decide, by decide⟩ dL_books_270 ?_
        rintro _ _ _ ⟨s9, hs9, rfl, rfl, rfl⟩
        refine z_imulN X dL_books_273 ?_
        refine z_iaddN X dL_books_274 ?_
        refine z_ldc X qL_119 dL_books_275 ?_
        rw [show (11881376 : Int32) = nI 11881376 from rfl]
        refine z_iremN X (by omega) (by omega) (by omega) dL_books_277 ?_
        refine z_goto (tgt := 288) X dL_books_278 (by decide) ?_
        exact loop_288 1 _ (by omega) (by decide)
  · skip
    try simp (disch := omega) only [zk0, nI_leI, nI_ltI, nI_eq, zbk_notn, zbk_not, zbk_n0, zbk_0, zb_0, zb_n0, zb_not, zb_notn, Bool.not_eq_false, Bool.not_eq_true, Bool.not_eq_true', Bool.not_eq_false', decide_eq_true_eq, decide_eq_false_iff_not, Classical.not_not] at c_5
    refine z_iload X dL_books_8 rfl ?_
    refine z_ldc X qL_119 dL_books_10 ?_
    rw [show (11881376 : Int32) = nI 11881376 from rfl]
    refine z_runSn X Y kL_116 (tL_some2 _ 11881376 (by decide) (by decide)) rfl rfl (Nat.le_of_ble_eq_true rfl) ⟨by decide, by decide⟩ ⟨by decide, by decide⟩ dL_books_12 ?_
    rintro _ _ _ ⟨W, hW, rfl, rfl, rfl⟩
    refine z_istore X dL_books_15 (by decide) ?_
    refine z_aload_n X dL_books_17 rfl ?_
    refine z_aload_n X dL_books_18 rfl ?_
    refine z_iconst (v := nI 2) X (by decide) dL_books_19 ?_
    refine z_iload X dL_books_20 rfl ?_
    refine z_iconst (v := nI 0) X (by decide) dL_books_22 ?_
    refine z_iconst (v := nI 0) X (by decide) dL_books_23 ?_
    refine z_iconst (v := nI 0) X (by decide) dL_books_24 ?_
    refine z_iconst (v := nI 0) X (by decide) dL_books_25 ?_
    refine z_runSn X Y kL_120 (tL_both (nI 2) (nI W) (nI 0) (nI 0) (nI 0) (nI 0) (zd_cands _) hL (fun _ _ h z1 => tL_does_2 hfl (zso_1 h.S) _ _ _ _ _ (tC_cands hfl h _))) rfl rfl (Nat.le_of_ble_eq_true rfl) ⟨by decide, by decide⟩ ⟨by decide, by decide⟩ dL_books_26 ?_
    rintro _ _ _ ⟨r, κ1, n1, w, τ, rfl, hR, rfl, rfl, hL⟩
    obtain ⟨rfl, e1, e2⟩ := zRk_0 (zwd_in ⟨W, hW, rfl⟩) hR
    replace e1 := e1.symm
    subst e1
    replace e2 := e2.symm
    subst e2
    generalize hN : zcnt (zP (κ 4) (n 1) (nI W)) (n 1) = N
    have hNl : N ≤ n 1 := by rw [← hN]; exact zcnt_le _ _
    refine z_istore X dL_books_29 (by decide) ?_
    refine z_iconst (v := -1) X (by decide) dL_books_31 ?_
    refine z_istore X dL_books_32 (by decide) ?_
    have loop_37 : ∀ (n9 : Nat) (k : Nat) (hk : k ≤ n 1) (hn : n 1 - k < n9), z_V p l e (zRm NL_books) s m args below meth c 11 D cy z0 10 150 (zQm NL_books below D cy z0 (zStp ao ai ad top) args s) 37 [some (.ref ao), some (.ref ai), some (.ref ad), some (.int x), some (.int z), some (.int (nI W)), some (.int (nI N)), some (.int (zlst (κ 4) (nI W) k)), some (.int (nI k)), none, none] [] (zJg w) (zJs τ) := by
      intro n9
      induction n9 with
      | zero => intro k hk hn; exact absurd hn (Nat.not_lt_zero _)
      | succ n9 ih_37 =>
        intro k hk hn
        refine z_iload X dL_books_37 rfl ?_
        refine z_aload_n X dL_books_39 rfl ?_
        refine z_iconst (v := nI 2) X (by decide) dL_books_40 ?_
        refine z_ialda X hL.ar hL.da (by omega) (by omega) dL_books_41 ?_
        rw [hL.sd]
        rw [hd2]
        refine z_icmp_ge (tgt := 72) X dL_books_42 (by decide) (fun c_42 => ?_) (fun c_42 => ?_)
        · skip
          try simp (disch := omega) only [zk0, nI_leI, nI_ltI, nI_eq, zbk_notn, zbk_not, zbk_n0, zbk_0, zb_0, zb_n0, zb_not, zb_notn, Bool.not_eq_false, Bool.not_eq_true, Bool.not_eq_true', Bool.not_eq_false', decide_eq_true_eq, decide_eq_false_iff_not, Classical.not_not] at c_42
          have ek : k = n 1 := by omega
          subst ek
          have hSo := zlst_or (C := κ 4) (w := nI W) (n 1)
          generalize zlst (κ 4) (nI W) (n 1) = S at hSo ⊢
          refine z_iload X dL_books_72 rfl ?_
          have loop_131 : ∀ (n9 : Nat) (k : Nat) (x10 : Option Value) (w : Nat → zSh) (τ : Nat → zIn) (hk : k ≤ N) (hL : zLc ao ai ad κ n g2 σ2 w τ) (hn : N - k < n9), z_V p l e (zRm NL_books) s m args below meth c 11 D cy z0 10 150 (zQm NL_books below D cy z0 (zStp ao ai ad top) args s) 131 [some (.ref ao), some (.ref ai), some (.ref ad), some (.int x), some (.int z), some (.int (nI W)), some (.int (nI N)), some (.int (S)), some (.int (nI 1)), some (.int (nI k)), x10] [] (zJg w) (zJs τ) := by
            intro n9
            induction n9 with
            | zero => intro k x10 w τ hk hL hn; exact absurd hn (Nat.not_lt_zero _)
            | succ n9 ih_131 =>
              intro k x10 w τ hk hL hn
              refine z_iload X dL_books_131 rfl ?_
              refine z_iload X dL_books_133 rfl ?_
              refine z_icmp_ge (tgt := 221) X dL_books_135 (by decide) (fun c_135 => ?_) (fun c_135 => ?_)
              · skip
                try simp (disch := omega) only [zk0, nI_leI, nI_ltI, nI_eq, zbk_notn, zbk_not, zbk_n0, zbk_0, zb_0, zb_n0, zb_not, zb_notn, Bool.not_eq_false, Bool.not_eq_true, Bool.not_eq_true', Bool.not_eq_false', decide_eq_true_eq, decide_eq_false_iff_not, Classical.not_not] at c_135
                refine z_iload X dL_books_221 rfl ?_
                refine z_zret X (by decide) (by decide) rfl (by first | exact Or.inl rfl | exact Or.inr rfl | exact zb_01 _ | assumption) dL_books_223 ?_
                exact ⟨κ, n, g2, σ2, w, τ, rfl, rfl, rfl, hL, hd, ht7⟩
              · skip
                try simp (disch := omega) only [zk0, nI_leI, nI_ltI, nI_eq, zbk_notn, zbk_not, zbk_n0, zbk_0, zb_0, zb_n0, zb_not, zb_notn, Bool.not_eq_false, Bool.not_eq_true, Bool.not_eq_true', Bool.not_eq_false', decide_eq_true_eq, decide_eq_false_iff_not, Classical.not_not] at c_135
                refine z_iload X dL_books_138 rfl ?_
                refine z_if_eq (tgt := 221) X dL_books_140 (by decide) (fun c_140 => ?_) (fun c_140 => ?_)
                · first | exact absurd c_140 (by decide) | exact absurd (by decide) c_140
                · skip
                  refine z_aload_n X dL_books_143 rfl ?_
                  refine z_iload X dL_books_144 rfl ?_
                  refine z_iload X dL_books_146 rfl ?_
                  refine z_runVa X Y aL_37 (tB_cand hL (Or.inl ⟨rfl, rfl⟩) (nI W) k ⟨W, hW, rfl⟩ (by omega)) (hL.ob (Or.inl ⟨rfl, rfl⟩)) (hL.aq (Or.inl ⟨rfl, rfl⟩)) rfl rfl (Nat.le_of_ble_eq_true rfl) ⟨by decide, by decide⟩ ⟨by decide, by decide⟩ dL_books_148 ?_
                  rintro _ _ _ ⟨r9, ⟨w, τ, rfl, rfl, rfl, hL⟩, hr⟩
                  obtain ⟨t, ht, hp, hi, rfl⟩ := zca_at hne (by rw [hN]; omega) hr
                  refine z_istore X dL_books_151 (by decide) ?_
                  refine z_iload X dL_books_153 rfl ?_
                  refine z_if_lt (tgt := 212) X dL_books_155 (by decide) (fun c_155 => ?_) (fun c_155 => ?_)
                  · skip
                    try simp (disch := omega) only [zk0, nI_leI, nI_ltI, nI_eq, zbk_notn, zbk_not, zbk_n0, zbk_0, zb_0, zb_n0, zb_not, zb_notn, Bool.not_eq_false, Bool.not_eq_true, Bool.not_eq_true', Bool.not_eq_false', decide_eq_true_eq, decide_eq_false_iff_not, Classical.not_not] at c_155
                    (exfalso; omega)
                  · skip
                    try simp (disch := omega) only [zk0, nI_leI, nI_ltI, nI_eq, zbk_notn, zbk_not, zbk_n0, zbk_0, zb_0, zb_n0, zb_not, zb_notn, Bool.not_eq_false, Bool.not_eq_true, Bool.not_eq_true', Bool.not_eq_false', decide_eq_true_eq, decide_eq_false_iff_not, Classical.not_not] at c_155
                    refine z_iload X dL_books_158 rfl ?_
                    refine z_aload_n X dL_books_160 rfl ?_
                    refine z_iconst (v := nI 2) X (by decide) dL_books_161 ?_
                    refine z_ialda X hL.ar hL.da (by omega) (by omega) dL_books_162 ?_
                    rw [hL.sd]
                    rw [hd2]
                    refine z_icmp_ge (tgt := 212) X dL_books_163 (by decide) (fun c_163 => ?_) (fun c_163 => ?_)
                    · skip
                      try simp (disch := omega) only [zk0, nI_leI, nI_ltI, nI_eq, zbk_notn, zbk_not, zbk_n0, zbk_0, zb_0, zb_n0, zb_not, zb_notn, Bool.not_eq_false, Bool.not_eq_true, Bool.not_eq_true', Bool.not_eq_false', decide_eq_true_eq, decide_eq_false_iff_not, Classical.not_not] at c_163
                      (exfalso; omega)
                    · skip
                      try simp (disch := omega) only [zk0, nI_leI, nI_ltI, nI_eq, zbk_notn, zbk_not, zbk_n0, zbk_0, zb_0, zb_n0, zb_not, zb_notn, Bool.not_eq_false, Bool.not_eq_true, Bool.not_eq_true', Bool.not_eq_false', decide_eq_true_eq, decide_eq_false_iff_not, Classical.not_not] at c_163
                      refine z_iload X dL_books_166 rfl ?_
                      refine z_if_eq (tgt := 186) X dL_books_168 (by decide) (fun c_168 => ?_) (fun c_168 => ?_)
                      · skip
                        try simp (disch := omega) only [zk0, nI_leI, nI_ltI, nI_eq, zbk_notn, zbk_not, zbk_n0, zbk_0, zb_0, zb_n0, zb_not, zb_notn, Bool.not_eq_false, Bool.not_eq_true, Bool.not_eq_true', Bool.not_eq_false', decide_eq_true_eq, decide_eq_false_iff_not, Classical.not_not] at c_168
                        refine z_iload X dL_books_186 rfl ?_
                        refine z_iconst (v := -1) X (by decide) dL_books_188 ?_
                        refine z_icmp_ne (tgt := 208) X dL_books_189 (by decide) (fun c_189 => ?_) (fun c_189 => ?_)
                        · skip
                          refine z_iconst (v := nI 1) X (by decide) dL_books_208 ?_
                          refine z_goto (tgt := 213) X dL_books_209 (by decide) ?_
                          refine z_istore X dL_books_213 (by decide) ?_
                          refine z_inc1 X dL_books_215 rfl (by decide) ?_
                          refine z_goto (tgt := 131) X dL_books_218 (by decide) ?_
                          exact ih_131 (k + 1) _ w τ (by omega) hL (by omega)
                        · skip
                          have hSn : ∀ j, j < n 1 → κ 4 j ≠ nI W := by
                            rcases hSo with q | ⟨j9, hj9, ej9, eS⟩
                            · exact q.2
                            · exact absurd (eS.symm.trans c_189) (znn1 (by omega))
                          refine z_aload_n X dL_books_192 rfl ?_
                          refine z_bipush (v := nI 8) X (by decide) dL_books_193 ?_
                          refine z_iload X dL_books_195 rfl ?_
                          refine z_iaddN X dL_books_197 ?_
                          refine z_ialda X hL.ar hL.da (by omega) (by omega) dL_books_198 ?_
                          rw [hL.sd]
                          rw [hd8 t ht]
                          obtain ⟨V, hV, eV⟩ := hC t (by omega)
                          rw [eV]
                          refine z_iload X dL_books_199 rfl ?_
                          refine z_runSn X Y kL_124 (tL_parts V W (by omega) (by omega)) rfl rfl (Nat.le_of_ble_eq_true rfl) ⟨by decide, by decide⟩ ⟨by decide, by decide⟩ dL_books_201 ?_
                          rintro _ _ _ ⟨rfl, rfl, rfl⟩
                          have hzp : zp (nI V) (nI W) ≤ 5 := zpk_le _ _ 5
                          have hz2 := zP_2 hSn ht hp
                          rw [eV] at hz2
                          refine z_iconst (v := nI 2) X (by decide) dL_books_204 ?_
                          refine z_icmp_gt (tgt := 212) X dL_books_205 (by decide) (fun c_205 => ?_) (fun c_205 => ?_)
                          · skip
                            try simp (disch := omega) only [zk0, nI_leI, nI_ltI, nI_eq, zbk_notn, zbk_not, zbk_n0, zbk_0, zb_0, zb_n0, zb_not, zb_notn, Bool.not_eq_false, Bool.not_eq_true, Bool.not_eq_true', Bool.not_eq_false', decide_eq_true_eq, decide_eq_false_iff_not, Classical.not_not] at c_205
                            (exfalso; omega)
                          · skip
                            try simp (disch := omega) only [zk0, nI_leI, nI_ltI, nI_eq, zbk_notn, zbk_not, zbk_n0, zbk_0, zb_0, zb_n0, zb_not, zb_notn, Bool.not_eq_false, Bool.not_eq_true, Bool.not_eq_true', Bool.not_eq_false', decide_eq_true_eq, decide_eq_false_iff_not, Classical.not_not] at c_205
                            refine z_iconst (v := nI 1) X (by decide) dL_books_208 ?_
                            refine z_goto (tgt := 213) X dL_books_209 (by decide) ?_
                            refine z_istore X dL_books_213 (by decide) ?_
                            refine z_inc1 X dL_books_215 rfl (by decide) ?_
                            refine z_goto (tgt := 131) X dL_books_218 (by decide) ?_
                            exact ih_131 (k + 1) _ w τ (by omega) hL (by omega)
                      · skip
                        try simp (disch := omega) only [zk0, nI_leI, nI_ltI, nI_eq, zbk_notn, zbk_not, zbk_n0, zbk_0, zb_0, zb_n0, zb_not, zb_notn, Bool.not_eq_false, Bool.not_eq_true, Bool.not_eq_true', Bool.not_eq_false', decide_eq_true_eq, decide_eq_false_iff_not, Classical.not_not] at c_168
                        refine z_iload X dL_books_171 rfl ?_
                        refine z_aload_n X dL_books_173 rfl ?_
                        refine z_iload X dL_books_174 rfl ?_
                        refine z_iload X dL_books_176 rfl ?_
                        refine z_iconst (v := nI 1) X (by decide) dL_books_178 ?_
                        refine z_isubN X (by omega) dL_books_179 ?_
                        refine z_runVa X Y aL_37 (tB_cand hL (Or.inl ⟨rfl, rfl⟩) (nI W) (k - 1) ⟨W, hW, rfl⟩ (by omega)) (hL.ob (Or.inl ⟨rfl, rfl⟩)) (hL.aq (Or.inl ⟨rfl, rfl⟩)) rfl rfl (Nat.le_of_ble_eq_true rfl) ⟨by decide, by decide⟩ ⟨by decide, by decide⟩ dL_books_180 ?_
                        rintro _ _ _ ⟨r9, ⟨w, τ, rfl, rfl, rfl, hL⟩, hr2⟩
                        obtain ⟨t2, ht2, hp2, hi2, rfl⟩ := zca_at hne (by rw [hN]; omega) hr2
                        have hup := zca_up (k := t) (t := t2) (i := k - 1) (by omega) hi2
                        refine z_icmp_le (tgt := 212) X dL_books_183 (by decide) (fun c_183 => ?_) (fun c_183 => ?_)
                        · skip
                          try simp (disch := omega) only [zk0, nI_leI, nI_ltI, nI_eq, zbk_notn, zbk_not, zbk_n0, zbk_0, zb_0, zb_n0, zb_not, zb_notn, Bool.not_eq_false, Bool.not_eq_true, Bool.not_eq_true', Bool.not_eq_false', decide_eq_true_eq, decide_eq_false_iff_not, Classical.not_not] at c_183
                          (exfalso; omega)
                        · skip
                          try simp (disch := omega) only [zk0, nI_leI, nI_ltI, nI_eq, zbk_notn, zbk_not, zbk_n0, zbk_0, zb_0, zb_n0, zb_not, zb_notn, Bool.not_eq_false, Bool.not_eq_true, Bool.not_eq_true', Bool.not_eq_false', decide_eq_true_eq, decide_eq_false_iff_not, Classical.not_not] at c_183
                          refine z_iload X dL_books_186 rfl ?_
                          refine z_iconst (v := -1) X (by decide) dL_books_188 ?_
                          refine z_icmp_ne (tgt := 208) X dL_books_189 (by decide) (fun c_189 => ?_) (fun c_189 => ?_)
                          · skip
                            refine z_iconst (v := nI 1) X (by decide) dL_books_208 ?_
                            refine z_goto (tgt := 213) X dL_books_209 (by decide) ?_
                            refine z_istore X dL_books_213 (by decide) ?_
                            refine z_inc1 X dL_books_215 rfl (by decide) ?_
                            refine z_goto (tgt := 131) X dL_books_218 (by decide) ?_
                            exact ih_131 (k + 1) _ w τ (by omega) hL (by omega)
                          · skip
                            have hSn : ∀ j, j < n 1 → κ 4 j ≠ nI W := by
                              rcases hSo with q | ⟨j9, hj9, ej9, eS⟩
                              · exact q.2
                              · exact absurd (eS.symm.trans c_189) (znn1 (by omega))
                            refine z_aload_n X dL_books_192 rfl ?_
                            refine z_bipush (v := nI 8) X (by decide) dL_books_193 ?_
                            refine z_iload X dL_books_195 rfl ?_
                            refine z_iaddN X dL_books_197 ?_
                            refine z_ialda X hL.ar hL.da (by omega) (by omega) dL_books_198 ?_
                            rw [hL.sd]
                            rw [hd8 t ht]
                            obtain ⟨V, hV, eV⟩ := hC t (by omega)
                            rw [eV]
                            refine z_iload X dL_books_199 rfl ?_
                            refine z_runSn X Y kL_124 (tL_parts V W (by omega) (by omega)) rfl rfl (Nat.le_of_ble_eq_true rfl) ⟨by decide, by decide⟩ ⟨by decide, by decide⟩ dL_books_201 ?_
                            rintro _ _ _ ⟨rfl, rfl, rfl⟩
                            have hzp : zp (nI V) (nI W) ≤ 5 := zpk_le _ _ 5
                            have hz2 := zP_2 hSn ht hp
                            rw [eV] at hz2
                            refine z_iconst (v := nI 2) X (by decide) dL_books_204 ?_
                            refine z_icmp_gt (tgt := 212) X dL_books_205 (by decide) (fun c_205 => ?_) (fun c_205 => ?_)
                            · skip
                              try simp (disch := omega) only [zk0, nI_leI, nI_ltI, nI_eq, zbk_notn, zbk_not, zbk_n0, zbk_0, zb_0, zb_n0, zb_not, zb_notn, Bool.not_eq_false, Bool.not_eq_true, Bool.not_eq_true', Bool.not_eq_false', decide_eq_true_eq, decide_eq_false_iff_not, Classical.not_not] at c_205
                              (exfalso; omega)
                            · skip
                              try simp (disch := omega) only [zk0, nI_leI, nI_ltI, nI_eq, zbk_notn, zbk_not, zbk_n0, zbk_0, zb_0, zb_n0, zb_not, zb_notn, Bool.not_eq_false, Bool.not_eq_true, Bool.not_eq_true', Bool.not_eq_false', decide_eq_true_eq, decide_eq_false_iff_not, Classical.not_not] at c_205
                              refine z_iconst (v := nI 1) X (by decide) dL_books_208 ?_
                              refine z_goto (tgt := 213) X dL_books_209 (by decide) ?_
                              refine z_istore X dL_books_213 (by decide) ?_
                              refine z_inc1 X dL_books_215 rfl (by decide) ?_
                              refine z_goto (tgt := 131) X dL_books_218 (by decide) ?_
                              exact ih_131 (k + 1) _ w τ (by omega) hL (by omega)
          refine z_if_lt (tgt := 125) X dL_books_74 (by decide) (fun c_74 => ?_) (fun c_74 => ?_)
          · skip
            try simp (disch := omega) only [zk0, nI_leI, nI_ltI, nI_eq, zbk_notn, zbk_not, zbk_n0, zbk_0, zb_0, zb_n0, zb_not, zb_notn, Bool.not_eq_false, Bool.not_eq_true, Bool.not_eq_true', Bool.not_eq_false', decide_eq_true_eq, decide_eq_false_iff_not, Classical.not_not] at c_74
            (exfalso; omega)
          · skip
            try simp (disch := omega) only [zk0, nI_leI, nI_ltI, nI_eq, zbk_notn, zbk_not, zbk_n0, zbk_0, zb_0, zb_n0, zb_not, zb_notn, Bool.not_eq_false, Bool.not_eq_true, Bool.not_eq_true', Bool.not_eq_false', decide_eq_true_eq, decide_eq_false_iff_not, Classical.not_not] at c_74
            refine z_iload X dL_books_77 rfl ?_
            refine z_aload_n X dL_books_79 rfl ?_
            refine z_iconst (v := nI 2) X (by decide) dL_books_80 ?_
            refine z_ialda X hL.ar hL.da (by omega) (by omega) dL_books_81 ?_
            rw [hL.sd]
            rw [hd2]
            refine z_icmp_gt (tgt := 125) X dL_books_82 (by decide) (fun c_82 => ?_) (fun c_82 => ?_)
            · skip
              try simp (disch := omega) only [zk0, nI_leI, nI_ltI, nI_eq, zbk_notn, zbk_not, zbk_n0, zbk_0, zb_0, zb_n0, zb_not, zb_notn, Bool.not_eq_false, Bool.not_eq_true, Bool.not_eq_true', Bool.not_eq_false', decide_eq_true_eq, decide_eq_false_iff_not, Classical.not_not] at c_82
              (exfalso; omega)
            · skip
              try simp (disch := omega) only [zk0, nI_leI, nI_ltI, nI_eq, zbk_notn, zbk_not, zbk_n0, zbk_0, zb_0, zb_n0, zb_not, zb_notn, Bool.not_eq_false, Bool.not_eq_true, Bool.not_eq_true', Bool.not_eq_false', decide_eq_true_eq, decide_eq_false_iff_not, Classical.not_not] at c_82
              refine z_aload_n X dL_books_85 rfl ?_
              refine z_iload X dL_books_86 rfl ?_
              refine z_iload X dL_books_88 rfl ?_
              refine z_runVa X Y aL_37 (tB_cand hL (Or.inl ⟨rfl, rfl⟩) (nI W) N ⟨W, hW, rfl⟩ (by omega)) (hL.ob (Or.inl ⟨rfl, rfl⟩)) (hL.aq (Or.inl ⟨rfl, rfl⟩)) rfl rfl (Nat.le_of_ble_eq_true rfl) ⟨by decide, by decide⟩ ⟨by decide, by decide⟩ dL_books_90 ?_
              rintro _ _ _ ⟨r9, ⟨w, τ, rfl, rfl, rfl, hL⟩, hr⟩
              have e9 := zca_end hne (by rw [hN]; exact hr)
              subst e9
              refine z_iconst (v := -1) X (by decide) dL_books_93 ?_
              refine z_icmp_ne (tgt := 125) X dL_books_94 (by decide) (fun c_94 => ?_) (fun c_94 => ?_)
              · exact absurd rfl c_94
              · skip
                refine z_iload X dL_books_97 rfl ?_
                refine z_iconst (v := -1) X (by decide) dL_books_99 ?_
                refine z_icmp_eq (tgt := 121) X dL_books_100 (by decide) (fun c_100 => ?_) (fun c_100 => ?_)
                · skip
                  refine z_iconst (v := nI 1) X (by decide) dL_books_121 ?_
                  refine z_goto (tgt := 126) X dL_books_122 (by decide) ?_
                  refine z_istore X dL_books_126 (by decide) ?_
                  refine z_iconst (v := nI 0) X (by decide) dL_books_128 ?_
                  refine z_istore X dL_books_129 (by decide) ?_
                  exact loop_131 (N - 0 + 1) 0 _ w τ (by omega) hL (by omega)
                · skip
                  obtain ⟨j9, hj9, ej9, eS⟩ : ∃ j, j < n 1 ∧ κ 4 j = nI W ∧ S = nI j := by
                    rcases hSo with q | q
                    · exact absurd q.1 c_100
                    · exact q
                  subst eS
                  have hN1 : N = 1 := by rw [← hN]; exact zca_1 hD hj9 ej9
                  refine z_iload X dL_books_103 rfl ?_
                  refine z_iconst (v := nI 1) X (by decide) dL_books_105 ?_
                  refine z_icmp_ne (tgt := 125) X dL_books_106 (by decide) (fun c_106 => ?_) (fun c_106 => ?_)
                  · skip
                    try simp (disch := omega) only [zk0, nI_leI, nI_ltI, nI_eq, zbk_notn, zbk_not, zbk_n0, zbk_0, zb_0, zb_n0, zb_not, zb_notn, Bool.not_eq_false, Bool.not_eq_true, Bool.not_eq_true', Bool.not_eq_false', decide_eq_true_eq, decide_eq_false_iff_not, Classical.not_not] at c_106
                    (exfalso; omega)
                  · skip
                    try simp (disch := omega) only [zk0, nI_leI, nI_ltI, nI_eq, zbk_notn, zbk_not, zbk_n0, zbk_0, zb_0, zb_n0, zb_not, zb_notn, Bool.not_eq_false, Bool.not_eq_true, Bool.not_eq_true', Bool.not_eq_false', decide_eq_true_eq, decide_eq_false_iff_not, Classical.not_not] at c_106
                    refine z_aload_n X dL_books_109 rfl ?_
                    refine z_iload X dL_books_110 rfl ?_
                    refine z_iconst (v := nI 0) X (by decide) dL_books_112 ?_
                    refine z_runVa X Y aL_37 (tB_cand hL (Or.inl ⟨rfl, rfl⟩) (nI W) 0 ⟨W, hW, rfl⟩ (by omega)) (hL.ob (Or.inl ⟨rfl, rfl⟩)) (hL.aq (Or.inl ⟨rfl, rfl⟩)) rfl rfl (Nat.le_of_ble_eq_true rfl) ⟨by decide, by decide⟩ ⟨by decide, by decide⟩ dL_books_113 ?_
                    rintro _ _ _ ⟨r9, ⟨w, τ, rfl, rfl, rfl, hL⟩, hr⟩
                    have e9 := zca_r hD hj9 ej9 hr
                    subst e9
                    refine z_iload X dL_books_116 rfl ?_
                    refine z_icmp_ne (tgt := 125) X dL_books_118 (by decide) (fun c_118 => ?_) (fun c_118 => ?_)
                    · exact absurd rfl c_118
                    · skip
                      refine z_iconst (v := nI 1) X (by decide) dL_books_121 ?_
                      refine z_goto (tgt := 126) X dL_books_122 (by decide) ?_
                      refine z_istore X dL_books_126 (by decide) ?_
                      refine z_iconst (v := nI 0) X (by decide) dL_books_128 ?_
                      refine z_istore X dL_books_129 (by decide) ?_
                      exact loop_131 (N - 0 + 1) 0 _ w τ (by omega) hL (by omega)
        · skip
          try simp (disch := omega) only [zk0, nI_leI, nI_ltI, nI_eq, zbk_notn, zbk_not, zbk_n0, zbk_0, zb_0, zb_n0, zb_not, zb_notn, Bool.not_eq_false, Bool.not_eq_true, Bool.not_eq_true', Bool.not_eq_false', decide_eq_true_eq, decide_eq_false_iff_not, Classical.not_not] at c_42
          refine z_aload_n X dL_books_45 rfl ?_
          refine z_bipush (v := nI 8) X (by decide) dL_books_46 ?_
          refine z_iload X dL_books_48 rfl ?_
          refine z_iaddN X dL_books_50 ?_
          refine z_ialda X hL.ar hL.da (by omega) (by omega) dL_books_51 ?_
          rw [hL.sd]
          rw [hd8 k (by omega)]
          refine z_iload X dL_books_52 rfl ?_
          refine z_icmp_ne (tgt := 62) X dL_books_54 (by decide) (fun c_54 => ?_) (fun c_54 => ?_)
          · skip
            refine z_iload X dL_books_62 rfl ?_
            refine z_istore X dL_books_64 (by decide) ?_
            refine z_inc1 X dL_books_66 rfl (by decide) ?_
            refine z_goto (tgt := 37) X dL_books_69 (by decide) ?_
            have e2 := ih_37 (k + 1) (by omega) (by omega)
            first | (rw [zlst_y c_54] at e2; exact e2) | (rw [zlst_n c_54] at e2; exact e2)
          · skip
            refine z_iload X dL_books_57 rfl ?_
            refine z_goto (tgt := 64) X dL_books_59 (by decide) ?_
            refine z_istore X dL_books_64 (by decide) ?_
            refine z_inc1 X dL_books_66 rfl (by decide) ?_
            refine z_goto (tgt := 37) X dL_books_69 (by decide) ?_
            have e2 := ih_37 (k + 1) (by omega) (by omega)
            first | (rw [zlst_y c_54] at e2; exact e2) | (rw [zlst_n c_54] at e2; exact e2)
    refine z_iconst (v := nI 0) X (by decide) dL_books_34 ?_
    refine z_istore X dL_books_35 (by decide) ?_
    exact loop_37 (n 1 - 0 + 1) 0 (by omega) (by omega)
